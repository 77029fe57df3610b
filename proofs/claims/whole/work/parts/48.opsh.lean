/-! undo, restart -/
section OPH
variable {c n u s : Nat} {Mx My : Mem}
theorem Rel.mk' {Mx' My' : Mem} (h : Rel c n u Mx My) (hS : Sim n Mx' My') (hx : ∀ k j, 33 ≤ k → Mx' k j = Mx k j) (hy : ∀ a b, (1 ≤ a ∧ a ≤ 9) ∨ a = 22 ∨ (a = 0 ∧ (b = 1 ∨ b = 16 ∨ b = 17 ∨ b = 19)) → My' a b = My a b) (hz : ∀ a b, a = 10 ∨ a = 11 ∨ (a = 12 ∧ n ≤ b % 16 ∧ b < 64) → My' a b = My a b ∨ My' a b = 0) (hU : und n u Mx' My') : Rel c n u Mx' My' := by
  obtain ⟨r1, r2, r3, r4, r5, r6, r7, r8, r9, r10, r11, r12⟩ := h
  have z0 : ∀ a b, (a = 10 ∨ a = 11 ∨ (a = 12 ∧ n ≤ b % 16 ∧ b < 64)) → My a b = 0 → My' a b = 0 := fun a b q e => by
    rcases hz a b q with w | w
    · rw [w]; exact e
    · exact w
  refine ⟨hS, r2.se hx ⟨fun a b x y => hy a b (by omega), hy 0 1 (by omega)⟩, by rw [hy 0 17 (by omega)]; exact r3, by rw [hy 0 19 (by omega)]; exact r4, fun b hb => by rw [hy 22 b (by omega)]; exact r5 b hb, fun b hb => ?_, ?_, ?_, ?_, by rw [hy 0 16 (by omega)]; exact r10, r11, hU⟩
  · rcases hz 10 b (by omega) with w | w
    · rw [w]; exact r6 b hb
    · exact ⟨0, by omega, w⟩
  · intro t h1 h2
    obtain ⟨a, b⟩ := r7 t h1 h2
    exact ⟨fun j hj => by rw [hx _ _ (by omega), hy 5 _ (by omega)]; exact a j hj, fun i r hi hr => by rw [hx _ _ (by omega), hy 9 _ (by omega)]; exact b i r hi hr⟩
  · intro t h1 h2
    obtain ⟨a, b, d⟩ := r8 t h1 h2
    exact ⟨by rw [hy 4 t (by omega)]; exact a, by rw [hy 8 t (by omega)]; exact b, fun f hf => by rw [hy 6 _ (by omega)]; exact d f hf⟩
  · intro t h1
    obtain ⟨a, b⟩ := r9 t h1
    refine ⟨fun s hs h => ?_, fun h => ?_⟩
    · rw [hy 3 t (by omega)] at h
      obtain ⟨a1, a2⟩ := a s hs h
      exact ⟨z0 _ _ (by omega) a1, fun f hf => z0 _ _ (by omega) (a2 f hf)⟩
    · obtain ⟨b1, b2, b3⟩ := b h
      exact ⟨fun s hs => z0 _ _ (by omega) (b1 s hs), z0 _ _ (by omega) b2, fun f hf => z0 _ _ (by omega) (b3 f hf)⟩
theorem op_undo (h : Rel c n u Mx My) (hc : c < 512) (x1 : Int32) : OpR c (f_X6_undo x1 Mx) (f_X7_undo x1 My) := by
  have hn := h.n16
  have huc := h.uc
  have h0 := h.y0 0
  unfold f_X6_undo f_X6_undo_0 f_X7_undo f_X7_undo_0
  simp only [stF, Option.bind_some]
  generalize mset My 0 0 0 = My1 at *
  rcases se_cases x1 with ⟨s, hs, rfl, hx, hy⟩ | ⟨-, hx, hy⟩
  · rw [hx, hy]
    simp only [Option.bind_some]
    rw [if_neg (show ¬ (1 : Int32) = 0 by decide), if_neg (show ¬ (1 : Int32) = 0 by decide), ixQ_n hs, ldI_n My1 16 hs]
    simp only [Option.bind_some]
    have hU := h0.2.2.2.2.2.2.2.2.2.2.2
    obtain ⟨l, l1, l2, l3⟩ := hU s hs
    have hll := chn.len l u _ l1
    rw [l2]
    cases l with
    | nil =>
      rw [show Mx (13 + 5 * s) 3 = -1 from l1, if_pos (show (-1 : Int32) = -1 from rfl), if_pos (show nI ([] : List Nat).length = 0 from rfl)]
      exact OpR.same h0 _ rfl rfl
    | cons k l =>
      obtain ⟨k1, k2, k3⟩ := l1
      have hl : l.length < 512 := by simp at hll; omega
      obtain ⟨a1, a2, a3⟩ := l3 l.length k (by
        rw [List.reverse_cons, List.getElem?_append_right (by simp), List.length_reverse]
        simp)
      rw [k1, if_neg (nI_m1 (by omega)), if_neg (show ¬ nI (k :: l).length = 0 from nI_ne (b := 0) (by simp; omega) (by omega) (by simp)), ldI_n Mx 7 (show k < 512 by omega), List.length_cons, nI_pred, stI_n My1 16 _ hs]
      simp only [Option.bind_some]
      rw [ldI_n _ 16 hs, mset_get]
      simp only [Option.bind_some]
      rw [x600, ldI_n _ 17 (show 600 * s + l.length < 2400 by omega), mset_get_ne My1 _ (show 17 ≠ 16 ∨ 600 * s + l.length ≠ s by omega), a1, ldI_n _ 8 (show k < 512 by omega), mset_get_ne Mx _ (show 8 ≠ 13 + 5 * s ∨ k ≠ 3 by omega)]
      simp only [Option.bind_some]
      have main : ∀ Mx' My' : Mem, (∀ a b, ¬ (a = 13 + 5 * s + 4) → ¬ (a = 13 + 5 * s ∧ b = 3) → Mx' a b = Mx a b) → Mx' (13 + 5 * s) 3 = Mx 7 k → Sim n Mx' My' → (∀ a b, ¬ (a = 12 ∧ b % 16 < n) → ¬ (a = 16 ∧ b = s) → My' a b = My1 a b) → My' 16 s = nI l.length → OpR c (f_X6_undo_70 (nI k) Mx') (f_X7_undo_79 (nI (600 * s + l.length)) My') := by
        intro Mx' My' e1 e2 e3 e4 e5
        unfold f_X6_undo_70 f_X7_undo_79
        rw [ldI_n Mx' 9 (show k < 512 by omega), ldI_n My' 18 (show 600 * s + l.length < 2400 by omega)]
        simp only [Option.bind_some]
        refine ⟨My' 18 (600 * s + l.length), Mx', My', n, u, ?_, rfl, (h0.mk' e3 (fun k j hk => e1 k j (by omega) (by omega)) (fun a b q => e4 a b (by omega) (by omega)) (fun a b q => Or.inl (e4 a b (by omega) (by omega))) ?_).up⟩
        · rw [e1 9 k (by omega) (by omega), e4 18 _ (by omega) (by omega), a2]
        · intro s' hs'
          by_cases es : s' = s
          · subst es
            refine ⟨l, ?_, e5, fun j q hj => ?_⟩
            · rw [e2]
              exact (k3.fr l k _ (fun q hq => e1 7 q (by omega) (by omega))).up (by omega) l _
            · have hjl : j < l.reverse.length := (List.getElem?_eq_some_iff.mp hj).1
              rw [e4 17 _ (by omega) (by omega), e4 18 _ (by omega) (by omega), e1 8 q (by omega) (by omega), e1 9 q (by omega) (by omega)]
              exact l3 j q (by rw [List.reverse_cons, List.getElem?_append_left hjl]; exact hj)
          · obtain ⟨l', g1, g2, g3⟩ := hU s' hs'
            refine ⟨l', ?_, by rw [e4 16 s' (by omega) (by omega)]; exact g2, fun j q hj => ?_⟩
            · rw [e1 _ _ (by omega) (by omega)]
              exact g1.fr l' u _ (fun q hq => e1 7 q (by omega) (by omega))
            · rw [e4 17 _ (by omega) (by omega), e4 18 _ (by omega) (by omega), e1 8 q (by omega) (by omega), e1 9 q (by omega) (by omega)]
              exact g3 j q hj
      have hS1 : Sim n (mset Mx (13 + 5 * s) 3 (Mx 7 k)) (mset My1 16 s (nI l.length)) := by
        refine Sim.setY (Sim.setX hn h0.1 ?_ _) (ndm (by omega)) _
        rcases (show s = 0 ∨ s = 1 ∨ s = 2 ∨ s = 3 by omega) with rfl | rfl | rfl | rfl <;> exact Or.inr (by decide)
      by_cases hm : Mx 8 k = -1
      · rw [if_pos hm, if_pos hm]
        exact main _ _ (fun a b q1 q2 => mset_get_ne _ _ (by omega)) (mset_get _ _ _ _) hS1 (fun a b q1 q2 => mset_get_ne _ _ (by omega)) (mset_get _ _ _ _)
      · obtain ⟨t, ht, e⟩ := a3.elim (fun q => absurd q hm) id
        rw [if_neg hm, if_neg hm, e, x16, ldI_n _ _ (show t < 16 by omega), ldI_n _ 12 (show 16 * s + t < 64 by omega)]
        simp only [Option.bind_some]
        have hp := th_ps (n := n) hs (show t < 16 by omega)
        rw [stI_n _ _ _ (show t < 16 by omega), stI_n _ 12 _ (show 16 * s + t < 64 by omega), hS1.at _ _ hp.1 hp.2]
        simp only [Option.bind_some]
        exact main _ _ (fun a b q1 q2 => by rw [mset_get_ne _ _ (by omega), mset_get_ne _ _ (by omega)]) (by rw [mset_get_ne _ _ (by omega), mset_get]) (hS1.set hn hp.1 hp.2 _) (fun a b q1 q2 => by rw [mset_get_ne _ _ (by omega), mset_get_ne _ _ (by omega)]) (by rw [mset_get_ne _ _ (by omega), mset_get])
  · rw [hx, hy]
    exact OpR.same h0 _ rfl rfl
/-! counting -/
def cR (P : Nat → Bool) : Nat → Nat → Nat
  | 0, _ => 0
  | m + 1, j => (if P j then 1 else 0) + cR P m (j + 1)
theorem cR_le (P : Nat → Bool) : ∀ m j, cR P m j ≤ m
  | 0, _ => Nat.le_refl _
  | m + 1, j => by
    have := cR_le P m (j + 1)
    unfold cR
    split <;> omega
theorem cR_add (P : Nat → Bool) : ∀ a b j, cR P (a + b) j = cR P a j + cR P b (j + a)
  | 0, b, j => by simp [cR]
  | a + 1, b, j => by
    rw [show a + 1 + b = a + b + 1 by omega]
    show (if P j then 1 else 0) + cR P (a + b) (j + 1) = (if P j then 1 else 0) + cR P a (j + 1) + cR P b (j + (a + 1))
    rw [cR_add P a b (j + 1), show j + 1 + a = j + (a + 1) by omega]
    omega
theorem cR_congr {P Q : Nat → Bool} : ∀ m j, (∀ t, j ≤ t → t < j + m → P t = Q t) → cR P m j = cR Q m j
  | 0, _, _ => rfl
  | m + 1, j, h => by
    unfold cR
    rw [h j (by omega) (by omega), cR_congr m (j + 1) (fun t h1 h2 => h t (by omega) (by omega))]
theorem cR_zero {P : Nat → Bool} : ∀ m j, (∀ t, j ≤ t → t < j + m → P t = false) → cR P m j = 0
  | 0, _, _ => rfl
  | m + 1, j, h => by
    unfold cR
    rw [h j (by omega) (by omega), cR_zero m (j + 1) (fun t h1 h2 => h t (by omega) (by omega))]
    rfl
theorem forget_loop {k : Nat} {M M2 M5 : Mem} (e1 : f_J7_fill_53178 16 (k + 1) 0 M = some (0, M2)) (e2 : f_J7_fill_53178 80 (k + 2) 0 M2 = some (0, M5)) : ∀ (m j fu a : Nat), j + m = 16 → m < fu → f_X1_forget_4 fu k (nI a) (nI j) M = some (nI (a + cR (fun t => decide (M (k + 1) t ≠ 0)) m j), M5) := by
  intro m
  induction m with
  | zero =>
    intro j fu a hj hf
    obtain ⟨f, rfl⟩ : ∃ f, fu = f + 1 := ⟨fu - 1, by omega⟩
    show f_X1_forget_4b (f_X1_forget_4 f) k (nI a) (nI j) M = _
    unfold f_X1_forget_4b
    rw [if_pos (show (16 : Int32) ≤ nI j from nI_le (a := 16) (by omega) (by omega)), bindE e1]
    dsimp only
    rw [bindE e2]
    rfl
  | succ m ih =>
    intro j fu a hj hf
    obtain ⟨f, rfl⟩ : ∃ f, fu = f + 1 := ⟨fu - 1, by omega⟩
    show f_X1_forget_4b (f_X1_forget_4 f) k (nI a) (nI j) M = _
    unfold f_X1_forget_4b f_X1_forget_22
    rw [if_neg (show ¬ (16 : Int32) ≤ nI j from nI_ge (a := j) (b := 16) (by omega) (by omega)), bindE (ldI_n M _ (show j < 16 by omega))]
    unfold cR
    by_cases h0 : M (k + 1) j = 0
    · rw [if_pos h0, nI_1, ih (j + 1) f a (by omega) (by omega)]
      simp [h0]
    · rw [if_neg h0, nI_1, nI_1, ih (j + 1) f (a + 1) (by omega) (by omega)]
      simp [h0, Nat.add_assoc]
theorem forget1_eq (M : Mem) (k : Nat) : ∃ M', f_X1_forget k M = some (nI (cR (fun t => decide (M (k + 1) t ≠ 0)) 16 0), M') ∧ (∀ t, t < 16 → M' (k + 1) t = 0) ∧ (∀ j, j < 80 → M' (k + 2) j = 0) ∧ ∀ a b, a ≠ k + 1 → a ≠ k + 2 → M' a b = M a b := by
  obtain ⟨M2, e1, e2, e3⟩ := fill_eq (N := 16) (k := k + 1) (v := 0) (by omega) M
  obtain ⟨M5, g1, g2, g3⟩ := fill_eq (N := 80) (k := k + 2) (v := 0) (by omega) M2
  refine ⟨M5, ?_, fun t ht => by rw [g3 _ _ (by omega)]; exact e2 t ht, g2, fun a b q1 q2 => by rw [g3 a b (by omega), e3 a b (by omega)]⟩
  have := forget_loop e1 g1 16 0 FU 0 (by omega) (by have := FU_ge; omega)
  rw [Nat.zero_add] at this
  exact this
theorem forget3_eq (M : Mem) (k : Nat) : ∃ M', f_X3_forget k M = some (nI (cR (fun t => decide (M (k + 2) t ≠ 0)) 16 0), M') ∧ (∀ t, t < 16 → M' (k + 2) t = 0) ∧ (∀ j, j < 80 → M' (k + 3) j = 0) ∧ (∀ t, t < 16 → M' (k + 4) t = 0) ∧ M' k 3 = -1 ∧ ∀ a b, a ≠ k + 2 → a ≠ k + 3 → a ≠ k + 4 → ¬ (a = k ∧ b = 3) → M' a b = M a b := by
  obtain ⟨M1, e1, e2, e3⟩ := fill_eq (N := 16) (k := k + 4) (v := 0) (by omega) M
  obtain ⟨M', g1, g2, g3, g4⟩ := forget1_eq (mset M1 k 3 (-1)) (k + 1)
  refine ⟨M', ?_, g2, g3, fun t ht => by rw [g4 _ _ (by omega) (by omega), mset_get_ne _ _ (by omega)]; exact e2 t ht, by rw [g4 _ _ (by omega) (by omega), mset_get], fun a b q1 q2 q3 q4 => by rw [g4 a b (by omega) (by omega), mset_get_ne _ _ (by omega), e3 a b (by omega)]⟩
  have hP : (fun t => decide (mset M1 k 3 (-1) (k + 1 + 1) t ≠ 0)) = fun t => decide (M (k + 2) t ≠ 0) := by
    funext t
    rw [mset_get_ne _ _ (by omega), e3 _ _ (by omega)]
  rw [hP] at g1
  unfold f_X3_forget f_X3_forget_0
  rw [bindE e1]
  dsimp only
  unfold stF
  rw [Option.bind_some, bindE g1]
/-! the reference's restart -/
theorem yrest5 {k19 : Int32 → Int32 → Int32 → Mem → Option (Int32 × Mem)} {v1 v2 v3 : Int32} {b : Nat} (hb : b < 80) : ∀ (m j fu : Nat) (M : Mem), j + m = 5 → m < fu → ∃ M', f_X7_restart_81 k19 fu v1 v2 v3 (nI b) (nI j) M = k19 v1 v2 (v3 + 1) M' ∧ (∀ f, j ≤ f → f < 5 → M' 11 (5 * b + f) = 0) ∧ ∀ a d, ¬ (a = 11 ∧ 5 * b + j ≤ d ∧ d < 5 * b + 5) → M' a d = M a d := by
  intro m
  induction m with
  | zero =>
    intro j fu M hj hf
    obtain ⟨f, rfl⟩ : ∃ f, fu = f + 1 := ⟨fu - 1, by omega⟩
    refine ⟨M, ?_, fun f h1 h2 => by omega, fun _ _ _ => rfl⟩
    show f_X7_restart_81b k19 (f_X7_restart_81 k19 f) v1 v2 v3 (nI b) (nI j) M = _
    unfold f_X7_restart_81b f_X7_restart_106
    rw [if_pos (show (5 : Int32) ≤ nI j from nI_le (a := 5) (by omega) (by omega))]
  | succ m ih =>
    intro j fu M hj hf
    obtain ⟨f, rfl⟩ : ∃ f, fu = f + 1 := ⟨fu - 1, by omega⟩
    obtain ⟨M', q1, q2, q3⟩ := ih (j + 1) f (mset M 11 (5 * b + j) 0) (by omega) (by omega)
    refine ⟨M', ?_, fun g h1 h2 => ?_, fun a d q => by rw [q3 a d (by omega), mset_get_ne _ _ (by omega)]⟩
    · show f_X7_restart_81b k19 (f_X7_restart_81 k19 f) v1 v2 v3 (nI b) (nI j) M = _
      unfold f_X7_restart_81b
      rw [if_neg (show ¬ (5 : Int32) ≤ nI j from nI_ge (a := j) (b := 5) (by omega) (by omega)), x5, bindE (stI_n M 11 0 (show 5 * b + j < 400 by omega)), nI_1]
      exact q1
    · by_cases e : g = j
      · subst e
        rw [q3 _ _ (by omega), mset_get]
      · exact q2 g (by omega) h2
theorem yrest {My : Mem} (hn : n ≤ 16) (hs : s < 4) : ∀ (m t fu a : Nat) (M : Mem), t + m = n → m < fu → M 0 1 = nI n → (∀ t', M 3 t' = My 3 t') → (∀ t', t ≤ t' → t' < n → M 10 (16 * s + t') = My 10 (16 * s + t')) → ∃ M', f_X7_restart_19 fu (nI s) (nI a) (nI t) M = some (nI (a + cR (fun t => decide (My 3 t = 0 ∧ My 10 (16 * s + t) ≠ 0)) m t), M') ∧ (∀ t', t ≤ t' → t' < n → M' 12 (16 * s + t') = 0 ∧ (My 3 t' = 0 → M' 10 (16 * s + t') = 0 ∧ ∀ f, f < 5 → M' 11 (5 * (16 * s + t') + f) = 0)) ∧ M' 16 s = 0 ∧ (∀ a b, ¬ (a = 16 ∧ b = s) → M' a b = M a b ∨ M' a b = 0) ∧ ∀ a b, ¬ (a = 16 ∧ b = s) → ¬ ((a = 10 ∨ a = 12) ∧ 16 * s + t ≤ b ∧ b < 16 * s + n) → ¬ (a = 11 ∧ 5 * (16 * s + t) ≤ b ∧ b < 5 * (16 * s + n)) → M' a b = M a b := by
  intro m
  induction m with
  | zero =>
    intro t fu a M ht hf h1 h3 h10
    obtain ⟨f, rfl⟩ : ∃ f, fu = f + 1 := ⟨fu - 1, by omega⟩
    refine ⟨mset M 16 s 0, ?_, fun t' _ _ => by omega, mset_get _ _ _ _, fun a b q => Or.inl (mset_get_ne _ _ (by omega)), fun a b q _ _ => mset_get_ne _ _ (by omega)⟩
    show f_X7_restart_19b (f_X7_restart_19 f) (nI s) (nI a) (nI t) M = _
    unfold f_X7_restart_19b
    rw [h1, if_pos (nI_le (by omega) (by omega)), bindE (stI_n M 16 0 hs)]
    rfl
  | succ m ih =>
    intro t fu a M ht hf h1 h3 h10
    obtain ⟨f, rfl⟩ : ∃ f, fu = f + 1 := ⟨fu - 1, by omega⟩
    show ∃ M', f_X7_restart_19b (f_X7_restart_19 f) (nI s) (nI a) (nI t) M = _ ∧ _
    unfold f_X7_restart_19b f_X7_restart_68 f_X7_restart_106
    rw [h1, if_neg (nI_ge (by omega) (by omega)), x16, bindE (stI_n M 12 0 (show 16 * s + t < 64 by omega)), bindE (ldI_n _ 3 (show t < 16 by omega)), mset_get_ne _ _ (show 3 ≠ 12 ∨ t ≠ 16 * s + t by omega), h3]
    unfold cR
    by_cases hsh : My 3 t = 0
    · rw [if_pos hsh, bindE (ldI_n _ 10 (show 16 * s + t < 80 by omega)), mset_get_ne _ _ (show 10 ≠ 12 ∨ 16 * s + t ≠ 16 * s + t by omega), h10 t (by omega) (by omega)]
      have go : ∀ a' : Nat, ∃ M', f_X7_restart_81 (f_X7_restart_19 f) FU (nI s) (nI a') (nI t) (nI (16 * s + t)) (0 : Int32) (mset (mset M 12 (16 * s + t) 0) 10 (16 * s + t) 0) = some (nI (a' + cR (fun t => decide (My 3 t = 0 ∧ My 10 (16 * s + t) ≠ 0)) m (t + 1)), M') ∧ (∀ t', t ≤ t' → t' < n → M' 12 (16 * s + t') = 0 ∧ (My 3 t' = 0 → M' 10 (16 * s + t') = 0 ∧ ∀ f, f < 5 → M' 11 (5 * (16 * s + t') + f) = 0)) ∧ M' 16 s = 0 ∧ (∀ a b, ¬ (a = 16 ∧ b = s) → M' a b = M a b ∨ M' a b = 0) ∧ ∀ a b, ¬ (a = 16 ∧ b = s) → ¬ ((a = 10 ∨ a = 12) ∧ 16 * s + t ≤ b ∧ b < 16 * s + n) → ¬ (a = 11 ∧ 5 * (16 * s + t) ≤ b ∧ b < 5 * (16 * s + n)) → M' a b = M a b := fun a' => by
        obtain ⟨M5, p1, p2, p3⟩ := yrest5 (k19 := f_X7_restart_19 f) (v1 := nI s) (v2 := nI a') (v3 := nI t) (b := 16 * s + t) (by omega) 5 0 FU (mset (mset M 12 (16 * s + t) 0) 10 (16 * s + t) 0) (by omega) (by have := FU_ge; omega)
        have p3' : ∀ a b, ¬ (a = 11 ∧ 5 * (16 * s + t) ≤ b ∧ b < 5 * (16 * s + t) + 5) → ¬ ((a = 12 ∨ a = 10) ∧ b = 16 * s + t) → M5 a b = M a b := fun a b q1 q2 => by
          rw [p3 a b (by omega), mset_get_ne _ _ (by omega), mset_get_ne _ _ (by omega)]
        obtain ⟨M', q1, q2, q3, q4, q5⟩ := ih (t + 1) f a' M5 (by omega) (by omega) (by rw [p3' _ _ (by omega) (by omega)]; exact h1) (fun t' => by rw [p3' _ _ (by omega) (by omega)]; exact h3 t') (fun t' z1 z2 => by rw [p3' _ _ (by omega) (by omega)]; exact h10 t' (by omega) z2)
        have z12 : M5 12 (16 * s + t) = 0 := by rw [p3 _ _ (by omega), mset_get_ne _ _ (by omega), mset_get]
        have z10 : M5 10 (16 * s + t) = 0 := by rw [p3 _ _ (by omega), mset_get]
        refine ⟨M', ?_, fun t' z1 z2 => ?_, q3, fun a b q => ?_, fun a b q z1 z2 => ?_⟩
        · have p1' : f_X7_restart_81 (f_X7_restart_19 f) FU (nI s) (nI a') (nI t) (nI (16 * s + t)) (0 : Int32) (mset (mset M 12 (16 * s + t) 0) 10 (16 * s + t) 0) = _ := p1
          rw [p1', nI_1]
          exact q1
        · by_cases e : t' = t
          · subst e
            rw [q5 12 _ (by omega) (by omega) (by omega), q5 10 _ (by omega) (by omega) (by omega)]
            exact ⟨z12, fun _ => ⟨z10, fun g hg => by rw [q5 11 _ (by omega) (by omega) (by omega)]; exact p2 g (by omega) hg⟩⟩
          · exact q2 t' (by omega) z2
        · by_cases e : M5 a b = M a b
          · rw [← e]
            exact q4 a b q
          · have : M5 a b = 0 := by
              by_cases e1 : a = 11 ∧ 5 * (16 * s + t) ≤ b ∧ b < 5 * (16 * s + t) + 5
              · have := p2 (b - 5 * (16 * s + t)) (by omega) (by omega)
                rw [e1.1, show b = 5 * (16 * s + t) + (b - 5 * (16 * s + t)) by omega]
                exact this
              · by_cases e2 : (a = 12 ∨ a = 10) ∧ b = 16 * s + t
                · obtain ⟨e2 | e2, e3⟩ := e2
                  · rw [e2, e3]; exact z12
                  · rw [e2, e3]; exact z10
                · exact absurd (p3' a b e1 e2) e
            rcases q4 a b q with w | w
            · exact Or.inr (w.trans this)
            · exact Or.inr w
        · rw [q5 a b q (by omega) (by omega), p3' a b (by omega) (by omega)]
      by_cases h0 : My 10 (16 * s + t) = 0
      · rw [if_pos h0, Int32.add_zero, bindE (stI_n _ 10 0 (show 16 * s + t < 80 by omega))]
        have := go a
        simpa [h0] using this
      · rw [if_neg h0, nI_1, bindE (stI_n _ 10 0 (show 16 * s + t < 80 by omega))]
        have := go (a + 1)
        simpa [h0, hsh, Nat.add_assoc] using this
    · rw [if_neg hsh, nI_1]
      obtain ⟨M', q1, q2, q3, q4, q5⟩ := ih (t + 1) f a (mset M 12 (16 * s + t) 0) (by omega) (by omega) (by rw [mset_get_ne _ _ (by omega)]; exact h1) (fun t' => by rw [mset_get_ne _ _ (by omega)]; exact h3 t') (fun t' z1 z2 => by rw [mset_get_ne _ _ (by omega)]; exact h10 t' (by omega) z2)
      refine ⟨M', by rw [q1]; simp [hsh], fun t' z1 z2 => ?_, q3, fun a b q => ?_, fun a b q z1 z2 => by rw [q5 a b q (by omega) (by omega), mset_get_ne _ _ (by omega)]⟩
      · by_cases e : t' = t
        · subst e
          exact ⟨by rw [q5 12 _ (by omega) (by omega) (by omega), mset_get], fun q => absurd q hsh⟩
        · exact q2 t' (by omega) z2
      · rcases q4 a b q with w | w
        · by_cases e : a = 12 ∧ b = 16 * s + t
          · rw [e.1, e.2, mset_get] at w
            exact Or.inr (by rw [e.1, e.2]; exact w)
          · rw [mset_get_ne _ _ (by omega)] at w
            exact Or.inl w
        · exact Or.inr w
theorem ps_rest {a b : Nat} (h : dm n a b) (h10 : a ≠ 10) (h11 : a ≠ 11) (h12 : a ≠ 12) : (ps a b).1 < 13 ∨ 33 ≤ (ps a b).1 ∨ ((ps a b).1 = 13 + 5 * b ∧ (ps a b).2 = 2 ∧ b < 4) := by
  rcases dm_cases h with ⟨rfl, q⟩ | ⟨rfl, q⟩ | ⟨rfl, q⟩ | ⟨rfl, q⟩ | ⟨rfl, q⟩ | ⟨rfl, q⟩ | ⟨rfl, q⟩ | ⟨rfl, q⟩ | ⟨rfl, q⟩ | ⟨rfl, q⟩ | ⟨rfl, q⟩ | ⟨rfl, q⟩ | ⟨rfl, q⟩ | ⟨rfl, q⟩ | ⟨rfl, q⟩
  · rcases q with rfl | rfl | rfl | rfl | rfl | rfl | rfl <;> exact Or.inl (by decide)
  · exact Or.inr (Or.inl (show 33 ≤ 33 + 13 * b by omega))
  · exact Or.inr (Or.inl (show 33 ≤ 33 + 13 * b by omega))
  · exact Or.inr (Or.inl (show 33 ≤ 33 + 13 * b by omega))
  · exact Or.inr (Or.inl (show 33 ≤ 34 + 13 * b by omega))
  · exact Or.inr (Or.inl (show 33 ≤ 35 + 13 * (b / 3) by omega))
  · exact Or.inr (Or.inl (show 33 ≤ 40 + 13 * (b / 5) by omega))
  · exact Or.inr (Or.inl (show 33 ≤ 33 + 13 * b by omega))
  · exact Or.inr (Or.inl (show 33 ≤ 42 + 13 * (b / 32) + b % 4 by omega))
  · exact absurd rfl h10
  · exact absurd rfl h11
  · exact absurd rfl h12
  · exact Or.inr (Or.inr ⟨rfl, rfl, q⟩)
  · exact Or.inl (show 11 < 13 by omega)
  · exact Or.inl (show 12 < 13 by omega)
theorem op_restart (h : Rel c n u Mx My) (x1 : Int32) : OpR c (f_X6_restart x1 Mx) (f_X7_restart x1 My) := by
  have hn := h.n16
  have h0 := h.y0 0
  unfold f_X6_restart f_X6_restart_0 f_X7_restart f_X7_restart_0
  simp only [stF, Option.bind_some]
  generalize mset My 0 0 0 = My1 at *
  rcases se_cases x1 with ⟨s, hs, rfl, hx, hy⟩ | ⟨-, hx, hy⟩
  · rw [hx, hy]
    simp only [Option.bind_some]
    rw [if_neg (show ¬ (1 : Int32) = 0 by decide), if_neg (show ¬ (1 : Int32) = 0 by decide), ixQ_n hs]
    simp only [Option.bind_some]
    obtain ⟨Mx', a1, a2, a3, a4, a5, a6⟩ := forget3_eq Mx (13 + 5 * s)
    obtain ⟨My', b1, b2, b3, b4, b5⟩ := yrest (My := My1) hn hs n 0 FU 0 My1 (by omega) (by have := FU_ge; omega) h0.e1 (fun _ => rfl) (fun _ _ _ => rfl)
    have b1' : f_X7_restart_19 FU (nI s) (0 : Int32) (0 : Int32) My1 = _ := b1
    rw [a1, b1']
    simp only [Option.bind_some]
    have hz := h0.2.2.2.2.2.2.2.2.1
    have hU := h0.2.2.2.2.2.2.2.2.2.2.2
    have hcnt : cR (fun t => decide (Mx (13 + 5 * s + 2) t ≠ 0)) 16 0 = 0 + cR (fun t => decide (My1 3 t = 0 ∧ My1 10 (16 * s + t) ≠ 0)) n 0 := by
      have e : cR (fun t => decide (Mx (13 + 5 * s + 2) t ≠ 0)) 16 0 = cR (fun t => decide (My1 10 (16 * s + t) ≠ 0)) 16 0 := cR_congr 16 0 (fun t _ ht => by
        have hp : ps 10 (16 * s + t) = (13 + 5 * s + 2, t) := by
          show (if 16 * s + t < 64 then _ else _) = _
          rw [if_pos (by omega)]
          apply Prod.ext
          · show 15 + 5 * ((16 * s + t) / 16) = 13 + 5 * s + 2
            omega
          · show (16 * s + t) % 16 = t
            omega
        rw [h0.1.at 10 (16 * s + t) (show 16 * s + t < 80 by omega) hp])
      have e16 : cR (fun t => decide (My1 10 (16 * s + t) ≠ 0)) 16 0 = cR (fun t => decide (My1 10 (16 * s + t) ≠ 0)) n 0 + cR (fun t => decide (My1 10 (16 * s + t) ≠ 0)) (16 - n) (0 + n) := by
        rw [← cR_add]
        congr 1
        omega
      rw [e, e16, cR_zero (16 - n) (0 + n) (fun t h1 h2 => by
        have := ((hz t (by omega)).1 s hs (Or.inl (by omega))).1
        simp [this]), Nat.zero_add, Nat.add_zero]
      exact cR_congr n 0 (fun t _ ht => by
        by_cases e3 : My1 3 t = 0
        · simp [e3]
        · have := ((hz t (by omega)).1 s hs (Or.inr e3)).1
          simp [this])
    have y10 : ∀ t, t < 16 → My' 10 (16 * s + t) = 0 ∧ (∀ f, f < 5 → My' 11 (5 * (16 * s + t) + f) = 0) ∧ My' 12 (16 * s + t) = 0 := fun t ht => by
      have keep : ∀ a b, a ≠ 16 → My1 a b = 0 → My' a b = 0 := fun a b q e => by
        rcases b4 a b (by omega) with w | w
        · exact w.trans e
        · exact w
      by_cases htn : t < n
      · obtain ⟨c1, c2⟩ := b2 t (by omega) htn
        by_cases e3 : My1 3 t = 0
        · obtain ⟨c3, c4⟩ := c2 e3
          exact ⟨c3, c4, c1⟩
        · obtain ⟨c3, c4⟩ := (hz t ht).1 s hs (Or.inr e3)
          exact ⟨keep _ _ (by omega) c3, fun f hf => keep _ _ (by omega) (c4 f hf), c1⟩
      · obtain ⟨c3, c4⟩ := (hz t ht).1 s hs (Or.inl (by omega))
        exact ⟨keep _ _ (by omega) c3, fun f hf => keep _ _ (by omega) (c4 f hf), keep _ _ (by omega) (((hz t ht).2 (by omega)).1 s hs)⟩
    refine ⟨_, Mx', My', n, u, rfl, by rw [hcnt], (h0.mk' (fun a b hd => ?_) (fun k j hk => a6 k j (by omega) (by omega) (by omega) (by omega)) (fun a b q => b5 a b (by omega) (by omega) (by omega)) (fun a b q => b4 a b (by omega)) ?_).up⟩
    · have ha := (dm_b hn hd).1
      by_cases e10 : a = 10
      · subst e10
        have hb : b < 80 := hd
        show Mx' (if b < 64 then (15 + 5 * (b / 16), b % 16) else (4, b - 64)).1 (if b < 64 then (15 + 5 * (b / 16), b % 16) else (4, b - 64)).2 = _
        have hS := h0.1 10 b hd
        have hS' : Mx (if b < 64 then (15 + 5 * (b / 16), b % 16) else (4, b - 64)).1 (if b < 64 then (15 + 5 * (b / 16), b % 16) else (4, b - 64)).2 = My1 10 b := hS
        by_cases hb6 : b < 64
        · rw [if_pos hb6] at hS' ⊢
          by_cases hbs : b / 16 = s
          · have := y10 (b % 16) (by omega)
            rw [show 16 * s + b % 16 = b by omega] at this
            rw [this.1]
            show Mx' (15 + 5 * (b / 16)) (b % 16) = 0
            rw [show 15 + 5 * (b / 16) = 13 + 5 * s + 2 by omega]
            exact a2 _ (by omega)
          · rw [b5 10 b (by omega) (by omega) (by omega), ← hS']
            exact a6 _ _ (show 15 + 5 * (b / 16) ≠ _ by omega) (show 15 + 5 * (b / 16) ≠ _ by omega) (show 15 + 5 * (b / 16) ≠ _ by omega) (show ¬ (15 + 5 * (b / 16) = _ ∧ _) by omega)
        · rw [if_neg hb6] at hS' ⊢
          rw [b5 10 b (by omega) (by omega) (by omega), ← hS']
          exact a6 _ _ (show 4 ≠ _ by omega) (show 4 ≠ _ by omega) (show 4 ≠ _ by omega) (show ¬ (4 = _ ∧ _) by omega)
      · by_cases e11 : a = 11
        · subst e11
          have hb : b < 400 := hd
          show Mx' (if b < 320 then (16 + 5 * (b / 80), b % 80) else (5, b - 320)).1 (if b < 320 then (16 + 5 * (b / 80), b % 80) else (5, b - 320)).2 = _
          have hS := h0.1 11 b hd
          have hS' : Mx (if b < 320 then (16 + 5 * (b / 80), b % 80) else (5, b - 320)).1 (if b < 320 then (16 + 5 * (b / 80), b % 80) else (5, b - 320)).2 = My1 11 b := hS
          by_cases hb6 : b < 320
          · rw [if_pos hb6] at hS' ⊢
            by_cases hbs : b / 80 = s
            · have := (y10 (b % 80 / 5) (by omega)).2.1 (b % 5) (by omega)
              rw [show 5 * (16 * s + b % 80 / 5) + b % 5 = b by omega] at this
              rw [this]
              show Mx' (16 + 5 * (b / 80)) (b % 80) = 0
              rw [show 16 + 5 * (b / 80) = 13 + 5 * s + 3 by omega]
              exact a3 _ (by omega)
            · rw [b5 11 b (by omega) (by omega) (by omega), ← hS']
              exact a6 _ _ (show 16 + 5 * (b / 80) ≠ _ by omega) (show 16 + 5 * (b / 80) ≠ _ by omega) (show 16 + 5 * (b / 80) ≠ _ by omega) (show ¬ (16 + 5 * (b / 80) = _ ∧ _) by omega)
          · rw [if_neg hb6] at hS' ⊢
            rw [b5 11 b (by omega) (by omega) (by omega), ← hS']
            exact a6 _ _ (show 5 ≠ _ by omega) (show 5 ≠ _ by omega) (show 5 ≠ _ by omega) (show ¬ (5 = _ ∧ _) by omega)
        · by_cases e12 : a = 12
          · subst e12
            have hb : b < 64 := hd
            have hS' : Mx (17 + 5 * (b / 16)) (b % 16) = My1 12 b := h0.1 12 b hd
            show Mx' (17 + 5 * (b / 16)) (b % 16) = _
            by_cases hbs : b / 16 = s
            · have := (y10 (b % 16) (by omega)).2.2
              rw [show 16 * s + b % 16 = b by omega] at this
              rw [this, show 17 + 5 * (b / 16) = 13 + 5 * s + 4 by omega]
              exact a4 _ (by omega)
            · rw [b5 12 b (by omega) (by omega) (by omega), ← hS']
              exact a6 _ _ (by omega) (by omega) (by omega) (by omega)
          · have hp := ps_rest hd e10 e11 e12
            rw [b5 a b (by omega) (by omega) (by omega), ← h0.1 a b hd]
            exact a6 _ _ (by omega) (by omega) (by omega) (by omega)
    · intro s' hs'
      by_cases es : s' = s
      · subst es
        exact ⟨[], a5, b3, fun j k hj => by simp at hj⟩
      · obtain ⟨l', g1, g2, g3⟩ := hU s' hs'
        refine ⟨l', ?_, by rw [b5 16 s' (by omega) (by omega) (by omega)]; exact g2, fun j q hj => ?_⟩
        · rw [a6 _ _ (by omega) (by omega) (by omega) (by omega)]
          exact g1.fr l' u _ (fun q hq => a6 7 q (by omega) (by omega) (by omega) (by omega))
        · rw [b5 17 _ (by omega) (by omega) (by omega), b5 18 _ (by omega) (by omega) (by omega), a6 8 q (by omega) (by omega) (by omega) (by omega), a6 9 q (by omega) (by omega) (by omega) (by omega)]
          exact g3 j q hj
  · rw [hx, hy]
    exact OpR.same h0 _ rfl rfl
end OPH
