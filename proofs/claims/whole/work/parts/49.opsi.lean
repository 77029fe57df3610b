/-! clear; the first memory -/
section OPI
variable {c n u s : Nat} {Mx My : Mem}
theorem beg_131 : ∀ (m j fu : Nat) (M : Mem), j + m = 4 → m < fu → ∃ M', f_X7_begins_131 fu (nI j) M = some (0, M') ∧ (∀ b, j ≤ b → b < 4 → M' 13 b = 1000 ∧ M' 16 b = 0) ∧ ∀ a b, ¬ ((a = 13 ∨ a = 16) ∧ j ≤ b ∧ b < 4) → M' a b = M a b := by
  intro m
  induction m with
  | zero =>
    intro j fu M hj hf
    obtain ⟨f, rfl⟩ : ∃ f, fu = f + 1 := ⟨fu - 1, by omega⟩
    refine ⟨M, ?_, fun b h1 h2 => by omega, fun _ _ _ => rfl⟩
    show f_X7_begins_131b (f_X7_begins_131 f) (nI j) M = _
    unfold f_X7_begins_131b
    rw [if_pos (show (4 : Int32) ≤ nI j from nI_le (a := 4) (by omega) (by omega))]
  | succ m ih =>
    intro j fu M hj hf
    obtain ⟨f, rfl⟩ : ∃ f, fu = f + 1 := ⟨fu - 1, by omega⟩
    obtain ⟨M', q1, q2, q3⟩ := ih (j + 1) f (mset (mset M 13 j 1000) 16 j 0) (by omega) (by omega)
    refine ⟨M', ?_, fun b h1 h2 => ?_, fun a b q => by rw [q3 a b (by omega), mset_get_ne _ _ (by omega), mset_get_ne _ _ (by omega)]⟩
    · show f_X7_begins_131b (f_X7_begins_131 f) (nI j) M = _
      unfold f_X7_begins_131b
      rw [if_neg (show ¬ (4 : Int32) ≤ nI j from nI_ge (a := j) (b := 4) (by omega) (by omega)), bindE (stI_n _ 13 1000 (show j < 4 by omega)), bindE (stI_n _ 16 0 (show j < 4 by omega)), nI_1]
      exact q1
    · by_cases e : b = j
      · subst e
        exact ⟨by rw [q3 _ _ (by omega), mset_get_ne _ _ (by omega), mset_get], by rw [q3 _ _ (by omega), mset_get]⟩
      · exact q2 b (by omega) h2
theorem beg_110 : ∀ (m j fu : Nat) (M : Mem), j + m = 64 → m < fu → ∃ M', f_X7_begins_110 fu (nI j) M = f_X7_begins_131 FU (0 : Int32) M' ∧ (∀ b, j ≤ b → b < 64 → M' 12 b = 0) ∧ ∀ a b, ¬ ((a = 12) ∧ j ≤ b ∧ b < 64) → M' a b = M a b := by
  intro m
  induction m with
  | zero =>
    intro j fu M hj hf
    obtain ⟨f, rfl⟩ : ∃ f, fu = f + 1 := ⟨fu - 1, by omega⟩
    refine ⟨M, ?_, fun b h1 h2 => by omega, fun _ _ _ => rfl⟩
    show f_X7_begins_110b (f_X7_begins_110 f) (nI j) M = _
    unfold f_X7_begins_110b
    rw [if_pos (show (64 : Int32) ≤ nI j from nI_le (a := 64) (by omega) (by omega))]
  | succ m ih =>
    intro j fu M hj hf
    obtain ⟨f, rfl⟩ : ∃ f, fu = f + 1 := ⟨fu - 1, by omega⟩
    obtain ⟨M', q1, q2, q3⟩ := ih (j + 1) f (mset M 12 j 0) (by omega) (by omega)
    refine ⟨M', ?_, fun b h1 h2 => ?_, fun a b q => by rw [q3 a b (by omega), mset_get_ne _ _ (by omega)]⟩
    · show f_X7_begins_110b (f_X7_begins_110 f) (nI j) M = _
      unfold f_X7_begins_110b
      rw [if_neg (show ¬ (64 : Int32) ≤ nI j from nI_ge (a := j) (b := 64) (by omega) (by omega)), bindE (stI_n _ 12 0 (show j < 64 by omega)), nI_1]
      exact q1
    · by_cases e : b = j
      · subst e
        exact by rw [q3 _ _ (by omega), mset_get]
      · exact q2 b (by omega) h2
theorem beg_88 : ∀ (m j fu : Nat) (M : Mem), j + m = 400 → m < fu → ∃ M', f_X7_begins_88 fu (nI j) M = f_X7_begins_110 FU (0 : Int32) M' ∧ (∀ b, j ≤ b → b < 400 → M' 11 b = 0) ∧ ∀ a b, ¬ ((a = 11) ∧ j ≤ b ∧ b < 400) → M' a b = M a b := by
  intro m
  induction m with
  | zero =>
    intro j fu M hj hf
    obtain ⟨f, rfl⟩ : ∃ f, fu = f + 1 := ⟨fu - 1, by omega⟩
    refine ⟨M, ?_, fun b h1 h2 => by omega, fun _ _ _ => rfl⟩
    show f_X7_begins_88b (f_X7_begins_88 f) (nI j) M = _
    unfold f_X7_begins_88b
    rw [if_pos (show (400 : Int32) ≤ nI j from nI_le (a := 400) (by omega) (by omega))]
  | succ m ih =>
    intro j fu M hj hf
    obtain ⟨f, rfl⟩ : ∃ f, fu = f + 1 := ⟨fu - 1, by omega⟩
    obtain ⟨M', q1, q2, q3⟩ := ih (j + 1) f (mset M 11 j 0) (by omega) (by omega)
    refine ⟨M', ?_, fun b h1 h2 => ?_, fun a b q => by rw [q3 a b (by omega), mset_get_ne _ _ (by omega)]⟩
    · show f_X7_begins_88b (f_X7_begins_88 f) (nI j) M = _
      unfold f_X7_begins_88b
      rw [if_neg (show ¬ (400 : Int32) ≤ nI j from nI_ge (a := j) (b := 400) (by omega) (by omega)), bindE (stI_n _ 11 0 (show j < 400 by omega)), nI_1]
      exact q1
    · by_cases e : b = j
      · subst e
        exact by rw [q3 _ _ (by omega), mset_get]
      · exact q2 b (by omega) h2
theorem beg_60 : ∀ (m j fu : Nat) (M : Mem), j + m = 80 → m < fu → ∃ M', f_X7_begins_60 fu (nI j) M = f_X7_begins_88 FU (0 : Int32) M' ∧ (∀ b, j ≤ b → b < 80 → M' 6 b = 0 ∧ M' 10 b = 0) ∧ ∀ a b, ¬ ((a = 6 ∨ a = 10) ∧ j ≤ b ∧ b < 80) → M' a b = M a b := by
  intro m
  induction m with
  | zero =>
    intro j fu M hj hf
    obtain ⟨f, rfl⟩ : ∃ f, fu = f + 1 := ⟨fu - 1, by omega⟩
    refine ⟨M, ?_, fun b h1 h2 => by omega, fun _ _ _ => rfl⟩
    show f_X7_begins_60b (f_X7_begins_60 f) (nI j) M = _
    unfold f_X7_begins_60b
    rw [if_pos (show (80 : Int32) ≤ nI j from nI_le (a := 80) (by omega) (by omega))]
  | succ m ih =>
    intro j fu M hj hf
    obtain ⟨f, rfl⟩ : ∃ f, fu = f + 1 := ⟨fu - 1, by omega⟩
    obtain ⟨M', q1, q2, q3⟩ := ih (j + 1) f (mset (mset M 6 j 0) 10 j 0) (by omega) (by omega)
    refine ⟨M', ?_, fun b h1 h2 => ?_, fun a b q => by rw [q3 a b (by omega), mset_get_ne _ _ (by omega), mset_get_ne _ _ (by omega)]⟩
    · show f_X7_begins_60b (f_X7_begins_60 f) (nI j) M = _
      unfold f_X7_begins_60b
      rw [if_neg (show ¬ (80 : Int32) ≤ nI j from nI_ge (a := j) (b := 80) (by omega) (by omega)), bindE (stI_n _ 6 0 (show j < 80 by omega)), bindE (stI_n _ 10 0 (show j < 80 by omega)), nI_1]
      exact q1
    · by_cases e : b = j
      · subst e
        exact ⟨by rw [q3 _ _ (by omega), mset_get_ne _ _ (by omega), mset_get], by rw [q3 _ _ (by omega), mset_get]⟩
      · exact q2 b (by omega) h2
theorem beg_32 : ∀ (m j fu : Nat) (M : Mem), j + m = 16 → m < fu → ∃ M', f_X7_begins_32 fu (nI j) M = f_X7_begins_60 FU (0 : Int32) M' ∧ (∀ b, j ≤ b → b < 16 → M' 4 b = 0 ∧ M' 8 b = 0) ∧ ∀ a b, ¬ ((a = 4 ∨ a = 8) ∧ j ≤ b ∧ b < 16) → M' a b = M a b := by
  intro m
  induction m with
  | zero =>
    intro j fu M hj hf
    obtain ⟨f, rfl⟩ : ∃ f, fu = f + 1 := ⟨fu - 1, by omega⟩
    refine ⟨M, ?_, fun b h1 h2 => by omega, fun _ _ _ => rfl⟩
    show f_X7_begins_32b (f_X7_begins_32 f) (nI j) M = _
    unfold f_X7_begins_32b
    rw [if_pos (show (16 : Int32) ≤ nI j from nI_le (a := 16) (by omega) (by omega))]
  | succ m ih =>
    intro j fu M hj hf
    obtain ⟨f, rfl⟩ : ∃ f, fu = f + 1 := ⟨fu - 1, by omega⟩
    obtain ⟨M', q1, q2, q3⟩ := ih (j + 1) f (mset (mset M 4 j 0) 8 j 0) (by omega) (by omega)
    refine ⟨M', ?_, fun b h1 h2 => ?_, fun a b q => by rw [q3 a b (by omega), mset_get_ne _ _ (by omega), mset_get_ne _ _ (by omega)]⟩
    · show f_X7_begins_32b (f_X7_begins_32 f) (nI j) M = _
      unfold f_X7_begins_32b
      rw [if_neg (show ¬ (16 : Int32) ≤ nI j from nI_ge (a := j) (b := 16) (by omega) (by omega)), bindE (stI_n _ 4 0 (show j < 16 by omega)), bindE (stI_n _ 8 0 (show j < 16 by omega)), nI_1]
      exact q1
    · by_cases e : b = j
      · subst e
        exact ⟨by rw [q3 _ _ (by omega), mset_get_ne _ _ (by omega), mset_get], by rw [q3 _ _ (by omega), mset_get]⟩
      · exact q2 b (by omega) h2

theorem begins_eq (M : Mem) : ∃ M', f_X7_begins M = some (0, M') ∧ (∀ b, (b = 1 ∨ b = 15 ∨ b = 16 ∨ b = 17 ∨ b = 19 ∨ b = 21) → M' 0 b = 0) ∧ (∀ b, b < 16 → M' 4 b = 0 ∧ M' 8 b = 0) ∧ (∀ b, b < 80 → M' 6 b = 0 ∧ M' 10 b = 0) ∧ (∀ b, b < 400 → M' 11 b = 0) ∧ (∀ b, b < 64 → M' 12 b = 0) ∧ (∀ b, b < 4 → M' 13 b = 1000 ∧ M' 16 b = 0) ∧ ∀ a b, ¬ (a = 0 ∧ (b = 1 ∨ b = 15 ∨ b = 16 ∨ b = 17 ∨ b = 19 ∨ b = 21)) → ¬ (a = 4 ∨ a = 8 ∨ a = 6 ∨ a = 10 ∨ a = 11 ∨ a = 12 ∨ a = 13 ∨ a = 16) → M' a b = M a b := by
  have hFU := FU_ge
  obtain ⟨A, a1, a2, a3⟩ := beg_32 16 0 FU (mset (mset (mset (mset (mset (mset M 0 1 0) 0 15 0) 0 16 0) 0 17 0) 0 19 0) 0 21 0) (by omega) (by omega)
  obtain ⟨B, b1, b2, b3⟩ := beg_60 80 0 FU A (by omega) (by omega)
  obtain ⟨C, c1, c2, c3⟩ := beg_88 400 0 FU B (by omega) (by omega)
  obtain ⟨D, d1, d2, d3⟩ := beg_110 64 0 FU C (by omega) (by omega)
  obtain ⟨E, e1, e2, e3⟩ := beg_131 4 0 FU D (by omega) (by omega)
  refine ⟨E, ?_, fun b hb => ?_, fun b hb => ?_, fun b hb => ?_, fun b hb => ?_, fun b hb => ?_, fun b hb => e2 b (by omega) hb, fun a b q1 q2 => ?_⟩
  · unfold f_X7_begins f_X7_begins_0
    simp only [stF, Option.bind_some]
    exact a1.trans (b1.trans (c1.trans (d1.trans e1)))
  · rw [e3 _ _ (by omega), d3 _ _ (by omega), c3 _ _ (by omega), b3 _ _ (by omega), a3 _ _ (by omega)]
    simp only [mset_if]
    rcases hb with rfl | rfl | rfl | rfl | rfl | rfl <;> rfl
  · obtain ⟨p, q⟩ := a2 b (by omega) hb
    rw [e3 _ _ (by omega), d3 _ _ (by omega), c3 _ _ (by omega), b3 _ _ (by omega), e3 _ _ (by omega), d3 _ _ (by omega), c3 _ _ (by omega), b3 _ _ (by omega)]
    exact ⟨p, q⟩
  · obtain ⟨p, q⟩ := b2 b (by omega) hb
    rw [e3 _ _ (by omega), d3 _ _ (by omega), c3 _ _ (by omega), e3 _ _ (by omega), d3 _ _ (by omega), c3 _ _ (by omega)]
    exact ⟨p, q⟩
  · rw [e3 _ _ (by omega), d3 _ _ (by omega)]
    exact c2 b (by omega) hb
  · rw [e3 _ _ (by omega)]
    exact d2 b (by omega) hb
  · rw [e3 _ _ (by omega), d3 _ _ (by omega), c3 _ _ (by omega), b3 _ _ (by omega), a3 _ _ (by omega), mset_get_ne _ _ (by omega), mset_get_ne _ _ (by omega), mset_get_ne _ _ (by omega), mset_get_ne _ _ (by omega), mset_get_ne _ _ (by omega), mset_get_ne _ _ (by omega)]
/-- as after clear, and at first -/
theorem rel_new {Mx My : Mem} (hc0 : Mx 0 9 = My 0 25) (h14 : ∀ b, b < 600 → Mx 11 b = My 14 b) (h15 : ∀ b, b < 100 → Mx 12 b = My 15 b) (x0 : ∀ j, (j = 5 ∨ j = 6 ∨ j = 7) → Mx 0 j = 0) (x6 : Mx 6 3 = 0) (x10 : Mx 10 2 = 0 ∧ Mx 10 3 = 0) (xc : (∀ t, t < 16 → Mx 4 t = 0) ∧ ∀ j, j < 80 → Mx 5 j = 0) (xs : ∀ s, s < 4 → Mx (13 + 5 * s) 2 = 1000 ∧ Mx (13 + 5 * s) 3 = -1 ∧ (∀ t, t < 16 → Mx (13 + 5 * s + 2) t = 0) ∧ (∀ j, j < 80 → Mx (13 + 5 * s + 3) j = 0) ∧ ∀ t, t < 16 → Mx (13 + 5 * s + 4) t = 0) (xst : ∀ t, t < 16 → (∀ j, j < 3 → Mx (33 + 13 * t + 2) j = My 5 (3 * t + j)) ∧ ∀ i r, i < 8 → r < 4 → Mx (33 + 13 * t + (9 + r)) i = My 9 (32 * t + 4 * i + r)) (y0 : ∀ b, (b = 1 ∨ b = 15 ∨ b = 16 ∨ b = 17 ∨ b = 19 ∨ b = 21) → My 0 b = 0) (y4 : ∀ b, b < 16 → My 4 b = 0 ∧ My 8 b = 0) (y6 : ∀ b, b < 80 → My 6 b = 0 ∧ My 10 b = 0) (y11 : ∀ b, b < 400 → My 11 b = 0) (y12 : ∀ b, b < 64 → My 12 b = 0) (y13 : ∀ b, b < 4 → My 13 b = 1000 ∧ My 16 b = 0) (y22 : ∀ b, b < 16 → ∃ q, q < 509 ∧ My 22 b = nI q) : Rel c 0 0 Mx My := by
  refine ⟨fun a b hd => ?_, ⟨⟨by omega, y0 1 (by omega), fun t ht => by omega, fun t ht => by omega, fun t ht => by omega, fun t ht => by omega, fun t ht => by omega, fun t ht => by omega⟩, fun t f ht => by omega, fun t ht => by omega⟩, ⟨0, by omega, y0 17 (by omega)⟩, ⟨0, by omega, y0 19 (by omega)⟩, y22, fun b hb => ⟨0, by omega, (y6 b hb).2⟩, fun t _ h2 => xst t h2, fun t _ h2 => ⟨(y4 t h2).1, (y4 t h2).2, fun f hf => (y6 _ (by omega)).1⟩, fun t ht => ⟨fun s hs _ => ⟨(y6 _ (by omega)).2, fun f hf => y11 _ (by omega)⟩, fun _ => ⟨fun s hs => y12 _ (by omega), (y6 _ (by omega)).2, fun f hf => y11 _ (by omega)⟩⟩, y0 16 (by omega), by omega, fun s hs => ⟨[], (xs s hs).2.1, (y13 s hs).2, fun j k hj => by simp at hj⟩⟩
  rcases dm_cases hd with ⟨rfl, q⟩ | ⟨rfl, q⟩ | ⟨rfl, q⟩ | ⟨rfl, q⟩ | ⟨rfl, q⟩ | ⟨rfl, q⟩ | ⟨rfl, q⟩ | ⟨rfl, q⟩ | ⟨rfl, q⟩ | ⟨rfl, q⟩ | ⟨rfl, q⟩ | ⟨rfl, q⟩ | ⟨rfl, q⟩ | ⟨rfl, q⟩ | ⟨rfl, q⟩
  · rcases q with rfl | rfl | rfl | rfl | rfl | rfl | rfl
    · rw [y0 1 (by omega)]; exact x0 5 (by omega)
    · rw [y0 21 (by omega)]; exact x0 6 (by omega)
    · rw [y0 15 (by omega)]; exact x0 7 (by omega)
    · rw [y0 16 (by omega)]; exact x6
    · rw [y0 17 (by omega)]; exact x10.1
    · rw [y0 19 (by omega)]; exact x10.2
    · exact hc0
  all_goals try omega
  · rw [(y6 b q).2]
    show Mx (if b < 64 then (15 + 5 * (b / 16), b % 16) else (4, b - 64)).1 (if b < 64 then (15 + 5 * (b / 16), b % 16) else (4, b - 64)).2 = 0
    by_cases hb : b < 64
    · rw [if_pos hb]
      have := (xs (b / 16) (by omega)).2.2.1 (b % 16) (by omega)
      rw [show 13 + 5 * (b / 16) + 2 = 15 + 5 * (b / 16) by omega] at this
      exact this
    · rw [if_neg hb]
      exact xc.1 (b - 64) (by omega)
  · rw [y11 b q]
    show Mx (if b < 320 then (16 + 5 * (b / 80), b % 80) else (5, b - 320)).1 (if b < 320 then (16 + 5 * (b / 80), b % 80) else (5, b - 320)).2 = 0
    by_cases hb : b < 320
    · rw [if_pos hb]
      have := (xs (b / 80) (by omega)).2.2.2.1 (b % 80) (by omega)
      rw [show 13 + 5 * (b / 80) + 3 = 16 + 5 * (b / 80) by omega] at this
      exact this
    · rw [if_neg hb]
      exact xc.2 (b - 320) (by omega)
  · rw [y12 b q]
    have := (xs (b / 16) (by omega)).2.2.2.2 (b % 16) (by omega)
    rw [show 13 + 5 * (b / 16) + 4 = 17 + 5 * (b / 16) by omega] at this
    exact this
  · rw [(y13 b q).1]
    exact (xs b q).1
  · exact h14 b q
  · exact h15 b q
theorem xclr_loop : ∀ (m j fu : Nat) (M : Mem) (w : Int32), j + m = 4 → m < fu → ∃ M', f_X6_clear_7 fu w (nI j) M = some (w, M') ∧ (∀ s, j ≤ s → s < 4 → M' (13 + 5 * s) 2 = 1000 ∧ M' (13 + 5 * s) 3 = -1 ∧ (∀ t, t < 16 → M' (13 + 5 * s + 2) t = 0) ∧ (∀ j, j < 80 → M' (13 + 5 * s + 3) j = 0) ∧ ∀ t, t < 16 → M' (13 + 5 * s + 4) t = 0) ∧ (∀ b, (b = 5 ∨ b = 6 ∨ b = 7) → M' 0 b = 0) ∧ M' 6 3 = 0 ∧ (M' 10 2 = 0 ∧ M' 10 3 = 0) ∧ ((∀ t, t < 16 → M' 4 t = 0) ∧ ∀ j, j < 80 → M' 5 j = 0) ∧ ∀ a b, (a < 13 + 5 * j ∨ 33 ≤ a) → ¬ (a = 0 ∧ (b = 5 ∨ b = 6 ∨ b = 7)) → ¬ (a = 6 ∧ b = 3) → ¬ (a = 10 ∧ (b = 2 ∨ b = 3)) → a ≠ 4 → a ≠ 5 → M' a b = M a b := by
  intro m
  induction m with
  | zero =>
    intro j fu M w hj hf
    obtain ⟨f, rfl⟩ : ∃ f, fu = f + 1 := ⟨fu - 1, by omega⟩
    obtain ⟨M2, a1, a2, a3, a4⟩ := forget1_eq M 3
    refine ⟨mset (mset (mset (mset (mset (mset M2 6 3 0) 10 2 0) 10 3 0) 0 5 0) 0 6 0) 0 7 0, ?_, fun s h1 h2 => by omega, fun b hb => ?_, ?_, ⟨?_, ?_⟩, ⟨fun t ht => ?_, fun t ht => ?_⟩, fun a b q1 q2 q3 q4 q5 q6 => ?_⟩
    · show f_X6_clear_7b (f_X6_clear_7 f) w (nI j) M = _
      unfold f_X6_clear_7b
      rw [if_pos (show (4 : Int32) ≤ nI j from nI_le (a := 4) (by omega) (by omega)), bindE a1]
      rfl
    · simp only [mset_if]
      rcases hb with rfl | rfl | rfl <;> rfl
    · rw [mset_get_ne _ _ (by omega), mset_get_ne _ _ (by omega), mset_get_ne _ _ (by omega), mset_get_ne _ _ (by omega), mset_get_ne _ _ (by omega), mset_get]
    · rw [mset_get_ne _ _ (by omega), mset_get_ne _ _ (by omega), mset_get_ne _ _ (by omega), mset_get_ne _ _ (by omega), mset_get]
    · rw [mset_get_ne _ _ (by omega), mset_get_ne _ _ (by omega), mset_get_ne _ _ (by omega), mset_get]
    · rw [mset_get_ne _ _ (by omega), mset_get_ne _ _ (by omega), mset_get_ne _ _ (by omega), mset_get_ne _ _ (by omega), mset_get_ne _ _ (by omega), mset_get_ne _ _ (by omega)]
      exact a2 t ht
    · rw [mset_get_ne _ _ (by omega), mset_get_ne _ _ (by omega), mset_get_ne _ _ (by omega), mset_get_ne _ _ (by omega), mset_get_ne _ _ (by omega), mset_get_ne _ _ (by omega)]
      exact a3 t ht
    · rw [mset_get_ne _ _ (by omega), mset_get_ne _ _ (by omega), mset_get_ne _ _ (by omega), mset_get_ne _ _ (by omega), mset_get_ne _ _ (by omega), mset_get_ne _ _ (by omega), a4 a b (by omega) (by omega)]
  | succ m ih =>
    intro j fu M w hj hf
    obtain ⟨f, rfl⟩ : ∃ f, fu = f + 1 := ⟨fu - 1, by omega⟩
    obtain ⟨M1, a1, a2, a3, a4, a5, a6⟩ := forget3_eq M (13 + 5 * j)
    obtain ⟨M', q1, q2, q3, q4, q5, q6, q7⟩ := ih (j + 1) f (mset M1 (13 + 5 * j) 2 1000) w (by omega) (by omega)
    have hj4 : j < 4 := by omega
    refine ⟨M', ?_, fun s h1 h2 => ?_, q3, q4, q5, q6, fun a b r1 r2 r3 r4 r5 r6 => ?_⟩
    · show f_X6_clear_7b (f_X6_clear_7 f) w (nI j) M = _
      unfold f_X6_clear_7b
      rw [if_neg (show ¬ (4 : Int32) ≤ nI j from nI_ge (a := j) (b := 4) (by omega) (by omega)), bindE (ixQ_n hj4), bindE a1]
      dsimp only
      rw [bindE (ixQ_n hj4)]
      unfold stF
      rw [Option.bind_some, nI_1]
      exact q1
    · by_cases e : s = j
      · subst e
        have k : ∀ a b, (13 + 5 * s ≤ a ∧ a < 18 + 5 * s) → M' a b = mset M1 (13 + 5 * s) 2 1000 a b := fun a b h => q7 a b (by omega) (by omega) (by omega) (by omega) (by omega) (by omega)
        refine ⟨by rw [k _ _ (by omega), mset_get], by rw [k _ _ (by omega), mset_get_ne _ _ (by omega)]; exact a5, fun t ht => by rw [k _ _ (by omega), mset_get_ne _ _ (by omega)]; exact a2 t ht, fun t ht => by rw [k _ _ (by omega), mset_get_ne _ _ (by omega)]; exact a3 t ht, fun t ht => by rw [k _ _ (by omega), mset_get_ne _ _ (by omega)]; exact a4 t ht⟩
      · exact q2 s (by omega) h2
    · rw [q7 a b (by omega) r2 r3 r4 r5 r6, mset_get_ne _ _ (by omega), a6 a b (by omega) (by omega) (by omega) (by omega)]
theorem op_clear (h : Rel c n u Mx My) : OpR c (f_X6_clear Mx) (f_X7_clear My) := by
  have hn := h.n16
  have h0 := h.y0 0
  unfold f_X6_clear f_X6_clear_0 f_X7_clear f_X7_clear_0
  simp only [stF, Option.bind_some]
  generalize mset My 0 0 0 = My1 at *
  obtain ⟨Mx', a1, a2, a3, a4, a5, a6, a7⟩ := xclr_loop 4 0 FU Mx (Mx 0 5) (by omega) (by have := FU_ge; omega)
  obtain ⟨My', b1, b2, b3, b4, b5, b6, b7, b8⟩ := begins_eq My1
  have a1' : f_X6_clear_7 FU (Mx 0 5) (0 : Int32) Mx = _ := a1
  rw [a1', b1]
  simp only [Option.bind_some]
  refine ⟨My1 0 1, Mx', My', 0, 0, by rw [h0.e5, h0.e1], rfl, rel_new ?_ (fun b hb => ?_) (fun b hb => ?_) a3 a4 a5 a6 (fun s hs => a2 s (by omega) hs) (fun t ht => ?_) b2 b3 b4 b5 b6 b7 (fun b hb => ?_)⟩
  · rw [a7 0 9 (by omega) (by omega) (by omega) (by omega) (by omega) (by omega), b8 0 25 (by omega) (by omega)]
    exact h0.1.at 0 25 (by simp [dm]) rfl
  · rw [a7 11 b (by omega) (by omega) (by omega) (by omega) (by omega) (by omega), b8 14 b (by omega) (by omega)]
    exact h0.1.at 14 b hb rfl
  · rw [a7 12 b (by omega) (by omega) (by omega) (by omega) (by omega) (by omega), b8 15 b (by omega) (by omega)]
    exact h0.1.at 15 b hb rfl
  · have ex : ∀ k j, 33 ≤ k → Mx' k j = Mx k j := fun k j hk => a7 k j (by omega) (by omega) (by omega) (by omega) (by omega) (by omega)
    by_cases htn : t < n
    · refine ⟨fun j hj => ?_, fun i r hi hr => ?_⟩
      · have hp := fc_ps (n := n) htn hj
        rw [ex _ _ (by omega), b8 5 _ (by omega) (by omega)]
        exact h0.1.at _ _ hp.1 hp.2
      · have hp := ln_ps (n := n) htn hi hr
        rw [ex _ _ (by omega), b8 9 _ (by omega) (by omega)]
        exact h0.1.at _ _ hp.1 hp.2
    · obtain ⟨q1, q2⟩ := h0.2.2.2.2.2.2.1 t (by omega) ht
      exact ⟨fun j hj => by rw [ex _ _ (by omega), b8 5 _ (by omega) (by omega)]; exact q1 j hj, fun i r hi hr => by rw [ex _ _ (by omega), b8 9 _ (by omega) (by omega)]; exact q2 i r hi hr⟩
  · rw [b8 22 b (by omega) (by omega)]
    exact h0.2.2.2.2.1 b hb
end OPI
