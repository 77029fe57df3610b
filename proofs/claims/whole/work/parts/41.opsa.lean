/-! What holds between calls; the small calls -/
def xSt (n : Nat) (Mx My : Mem) : Prop := ∀ t, n ≤ t → t < 16 → (∀ j, j < 3 → Mx (33 + 13 * t + 2) j = My 5 (3 * t + j)) ∧ ∀ i r, i < 8 → r < 4 → Mx (33 + 13 * t + (9 + r)) i = My 9 (32 * t + 4 * i + r)
def frs (n : Nat) (My : Mem) : Prop := ∀ t, n ≤ t → t < 16 → My 4 t = 0 ∧ My 8 t = 0 ∧ ∀ f, f < 5 → My 6 (5 * t + f) = 0
def zer (n : Nat) (My : Mem) : Prop := ∀ t, t < 16 → (∀ s, s < 4 → (n ≤ t ∨ My 3 t ≠ 0) → My 10 (16 * s + t) = 0 ∧ ∀ f, f < 5 → My 11 (5 * (16 * s + t) + f) = 0) ∧ (n ≤ t → (∀ s, s < 4 → My 12 (16 * s + t) = 0) ∧ My 10 (64 + t) = 0 ∧ ∀ f, f < 5 → My 11 (5 * (64 + t) + f) = 0)
def chn (Mx : Mem) : Nat → Int32 → List Nat → Prop
  | _, cur, [] => cur = -1
  | b, cur, k :: l => cur = nI k ∧ k < b ∧ chn Mx k (Mx 7 k) l
def und (n u : Nat) (Mx My : Mem) : Prop := ∀ s, s < 4 → ∃ l : List Nat, chn Mx u (Mx (13 + 5 * s) 3) l ∧ My 16 s = nI l.length ∧ ∀ j k, l.reverse[j]? = some k → My 17 (600 * s + j) = Mx 8 k ∧ My 18 (600 * s + j) = Mx 9 k ∧ (Mx 8 k = -1 ∨ ∃ t, t < n ∧ Mx 8 k = nI t)
def Rel (c n u : Nat) (Mx My : Mem) : Prop := Sim n Mx My ∧ St n Mx My ∧ (∃ k, k ≤ 150 ∧ My 0 17 = nI k) ∧ (∃ k, k ≤ 100 ∧ My 0 19 = nI k) ∧ (∀ b, b < 16 → ∃ q, q < 509 ∧ My 22 b = nI q) ∧ (∀ b, b < 80 → ∃ v, v < 4 ∧ My 10 b = nI v) ∧ xSt n Mx My ∧ frs n My ∧ zer n My ∧ My 0 16 = nI u ∧ u ≤ c ∧ und n u Mx My
def SE (A B : Mem) : Prop := (∀ a b, 1 ≤ a → a ≤ 9 → B a b = A a b) ∧ B 0 1 = A 0 1
theorem faY_se {A B : Mem} (h : SE A B) : faY B = faY A := by
  funext t
  unfold faY
  rw [h.1 4 t (by omega) (by omega)]
  apply List.map_congr_left
  intro j _
  rw [h.1 5 _ (by omega) (by omega)]
theorem paY_se {A B : Mem} (h : SE A B) : paY B = paY A := by
  funext t
  unfold paY
  rw [h.1 2 t (by omega) (by omega)]
theorem chY_se {A B : Mem} (h : SE A B) : chY B = chY A := by
  funext t
  unfold chY
  rw [faY_se h, paY_se h]
theorem owY_se {A B : Mem} (h : SE A B) : owY B = owY A := by
  funext t
  unfold owY
  rw [h.1 1 t (by omega) (by omega)]
theorem WF.se {n : Nat} {A B : Mem} (h : WF n A) (hf : SE A B) : WF n B := by
  obtain ⟨h1, h2, h3, h4, h5, h6, h7, h8⟩ := h
  have e := hf.1
  refine ⟨h1, ?_, ?_, ?_, ?_, ?_, ?_, ?_⟩
  · rw [hf.2]; exact h2
  · intro t ht
    rw [e 1 t (by omega) (by omega)]; exact h3 t ht
  · intro t ht
    rw [e 2 t (by omega) (by omega), e 1 t (by omega) (by omega)]; exact h4 t ht
  · intro t ht
    rw [e 3 t (by omega) (by omega)]; exact h5 t ht
  · intro t ht
    obtain ⟨c, c1, c2, c3⟩ := h6 t ht
    refine ⟨c, c1, by rw [e 4 t (by omega) (by omega)]; exact c2, fun j hj => ?_⟩
    rw [e 5 _ (by omega) (by omega)]; exact c3 j hj
  · intro q hq
    rw [e 6 q (by omega) (by omega)]; exact h7 q hq
  · intro t ht
    obtain ⟨c, c1, c2, c3⟩ := h8 t ht
    refine ⟨c, c1, by rw [e 8 t (by omega) (by omega)]; exact c2, fun i hi => ?_⟩
    rw [e 9 _ (by omega) (by omega), e 9 _ (by omega) (by omega), e 9 _ (by omega) (by omega), e 9 _ (by omega) (by omega)]; exact c3 i hi
theorem St.se {n : Nat} {Mx My Mx' My' : Mem} (h : St n Mx My) (hx : ∀ k j, 33 ≤ k → Mx' k j = Mx k j) (hy : SE My My') : St n Mx' My' := by
  obtain ⟨h1, h2, h3⟩ := h
  refine ⟨h1.se hy, ?_, ?_⟩
  · intro t f ht hf he
    rw [hy.1 6 _ (by omega) (by omega)] at he
    rw [hx _ _ (by omega), hy.1 7 _ (by omega) (by omega)]
    exact h2 t f ht hf he
  · intro t ht
    obtain ⟨a, b, c⟩ := h3 t ht
    rw [chY_se hy, faY_se hy, owY_se hy]
    exact ⟨a.fr (fun j => hx _ j (by omega)) (fun j => hx _ j (by omega)), b.fr (fun j => hx _ j (by omega)) (fun j => hx _ j (by omega)), c.fr (fun j => hx _ j (by omega)) (fun j => hx _ j (by omega))⟩
theorem chn.fr {A B : Mem} : ∀ (l : List Nat) (b : Nat) (cur : Int32), (∀ k, k < b → B 7 k = A 7 k) → chn A b cur l → chn B b cur l
  | [], _, _, _, h => h
  | k :: l, b, cur, hb, h => by
    obtain ⟨h1, h2, h3⟩ := h
    refine ⟨h1, h2, ?_⟩
    rw [hb k h2]
    exact chn.fr l k _ (fun j hj => hb j (by omega)) h3
theorem chn.lt {A : Mem} : ∀ (l : List Nat) (b : Nat) (cur : Int32), chn A b cur l → ∀ k ∈ l, k < b
  | [], _, _, _, k, hk => by simp at hk
  | q :: l, b, cur, h, k, hk => by
    obtain ⟨h1, h2, h3⟩ := h
    rcases List.mem_cons.mp hk with rfl | hk
    · exact h2
    · have := chn.lt l q _ h3 k hk
      omega
theorem chn.len {A : Mem} : ∀ (l : List Nat) (b : Nat) (cur : Int32), chn A b cur l → l.length ≤ b
  | [], _, _, _ => by simp
  | q :: l, b, cur, h => by
    obtain ⟨h1, h2, h3⟩ := h
    have := chn.len l q _ h3
    simp
    omega
theorem chn.up {A : Mem} {b b' : Nat} (hb : b ≤ b') : ∀ (l : List Nat) (cur : Int32), chn A b cur l → chn A b' cur l
  | [], _, h => h
  | q :: l, cur, h => ⟨h.1, by have := h.2.1; omega, h.2.2⟩
theorem und.fr {n u : Nat} {Mx My Mx' My' : Mem} (h : und n u Mx My) (h7 : ∀ k j, 7 ≤ k → k ≤ 9 → Mx' k j = Mx k j) (h3 : ∀ s, s < 4 → Mx' (13 + 5 * s) 3 = Mx (13 + 5 * s) 3) (hy : ∀ a b, 16 ≤ a → a ≤ 18 → My' a b = My a b) : und n u Mx' My' := by
  intro s hs
  obtain ⟨l, l1, l2, l3⟩ := h s hs
  refine ⟨l, ?_, by rw [hy 16 s (by omega) (by omega)]; exact l2, fun j k hj => ?_⟩
  · rw [h3 s hs]
    exact l1.fr l u _ (fun k _ => h7 7 k (by omega) (by omega))
  · rw [hy 17 _ (by omega) (by omega), hy 18 _ (by omega) (by omega), h7 8 _ (by omega) (by omega), h7 9 _ (by omega) (by omega)]
    exact l3 j k hj
theorem Rel.of {c n u : Nat} {Mx My Mx' My' : Mem} (h : Rel c n u Mx My) (hS : Sim n Mx' My') (hx : ∀ k j, 33 ≤ k ∨ (7 ≤ k ∧ k ≤ 9) → Mx' k j = Mx k j) (hx3 : ∀ s, s < 4 → Mx' (13 + 5 * s) 3 = Mx (13 + 5 * s) 3) (hy : ∀ a b, (1 ≤ a ∧ a ≤ 12) ∨ (16 ≤ a ∧ a ≤ 18) ∨ a = 22 ∨ (a = 0 ∧ (b = 1 ∨ b = 16 ∨ b = 17 ∨ b = 19)) → My' a b = My a b) : Rel c n u Mx' My' := by
  obtain ⟨r1, r2, r3, r4, r5, r6, r7, r8, r9, r10, r11, r12⟩ := h
  refine ⟨hS, r2.se (fun k j hk => hx k j (by omega)) ⟨fun a b x y => hy a b (by omega), hy 0 1 (by omega)⟩, by rw [hy 0 17 (by omega)]; exact r3, by rw [hy 0 19 (by omega)]; exact r4, fun b hb => by rw [hy 22 b (by omega)]; exact r5 b hb, fun b hb => by rw [hy 10 b (by omega)]; exact r6 b hb, ?_, ?_, ?_, by rw [hy 0 16 (by omega)]; exact r10, r11, r12.fr (fun k j x y => hx k j (by omega)) hx3 (fun a b x y => hy a b (by omega))⟩
  · intro t h1 h2
    obtain ⟨a, b⟩ := r7 t h1 h2
    exact ⟨fun j hj => by rw [hx _ _ (by omega), hy 5 _ (by omega)]; exact a j hj, fun i r hi hr => by rw [hx _ _ (by omega), hy 9 _ (by omega)]; exact b i r hi hr⟩
  · intro t h1 h2
    obtain ⟨a, b, d⟩ := r8 t h1 h2
    exact ⟨by rw [hy 4 t (by omega)]; exact a, by rw [hy 8 t (by omega)]; exact b, fun f hf => by rw [hy 6 _ (by omega)]; exact d f hf⟩
  · intro t h1
    obtain ⟨a, b⟩ := r9 t h1
    refine ⟨fun s hs h => ?_, fun h => ?_⟩
    · rw [hy 3 t (by omega)] at h
      obtain ⟨a1, a2⟩ := a s hs h
      exact ⟨by rw [hy 10 _ (by omega)]; exact a1, fun f hf => by rw [hy 11 _ (by omega)]; exact a2 f hf⟩
    · obtain ⟨b1, b2, b3⟩ := b h
      exact ⟨fun s hs => by rw [hy 12 _ (by omega)]; exact b1 s hs, by rw [hy 10 _ (by omega)]; exact b2, fun f hf => by rw [hy 11 _ (by omega)]; exact b3 f hf⟩
theorem Rel.up {c n u : Nat} {Mx My : Mem} (h : Rel c n u Mx My) : Rel (c + 1) n u Mx My := by
  obtain ⟨r1, r2, r3, r4, r5, r6, r7, r8, r9, r10, r11, r12⟩ := h
  exact ⟨r1, r2, r3, r4, r5, r6, r7, r8, r9, r10, by omega, r12⟩
theorem Rel.y0 {c n u : Nat} {Mx My : Mem} (h : Rel c n u Mx My) (v : Int32) : Rel c n u Mx (mset My 0 0 v) :=
  h.of (h.1.setY (ndm (by omega)) v) (fun _ _ _ => rfl) (fun _ _ => rfl) (fun a b hq => mset_get_ne _ _ (by omega))
theorem Rel.n16 {c n u : Nat} {Mx My : Mem} (h : Rel c n u Mx My) : n ≤ 16 := h.2.1.1.1
theorem Rel.e5 {c n u : Nat} {Mx My : Mem} (h : Rel c n u Mx My) : Mx 0 5 = nI n := (h.1.at 0 1 (by simp [dm]) rfl).trans h.2.1.1.2.1
theorem Rel.e1 {c n u : Nat} {Mx My : Mem} (h : Rel c n u Mx My) : My 0 1 = nI n := h.2.1.1.2.1
/-- what a call gives -/
def OpR (c : Nat) (X Y : Option (Int32 × Mem)) : Prop := ∃ r Mx' My' n' u', X = some (r, Mx') ∧ Y = some (r, My') ∧ Rel (c + 1) n' u' Mx' My'
theorem OpR.same {c n u : Nat} {Mx My : Mem} (h : Rel c n u Mx My) (r : Int32) {X Y : Option (Int32 × Mem)} (hX : X = some (r, Mx)) (hY : Y = some (r, My)) : OpR c X Y := ⟨r, Mx, My, n, u, hX, hY, h.up⟩
section OPA
variable {c n u : Nat} {Mx My : Mem}
theorem op_failure (h : Rel c n u Mx My) : OpR c (f_X6_failure Mx) (f_X7_failure My) := by
  have e : Mx 0 7 = My 0 15 := h.1.at 0 15 (by simp [dm]) rfl
  refine OpR.same (h.y0 0) (My 0 15) (by unfold f_X6_failure f_X6_failure_0; rw [e]) ?_
  unfold f_X7_failure f_X7_failure_0
  simp only [stF, Option.bind_some]
  rw [mset_get_ne _ _ (by omega)]
theorem op_about (h : Rel c n u Mx My) (x : Int32) : OpR c (f_X6_about x Mx) (f_X7_about x My) := by
  have e0 : Mx 0 5 = My 0 1 := h.1.at 0 1 (by simp [dm]) rfl
  have e1 : Mx 6 3 = My 0 16 := h.1.at 0 16 (by simp [dm]) rfl
  have e2 : Mx 10 2 = My 0 17 := h.1.at 0 17 (by simp [dm]) rfl
  have e3 : Mx 10 3 = My 0 19 := h.1.at 0 19 (by simp [dm]) rfl
  have e4 : Mx 0 6 = My 0 21 := h.1.at 0 21 (by simp [dm]) rfl
  unfold f_X6_about f_X6_about_0 f_X7_about f_X7_about_0
  simp only [stF, Option.bind_some]
  rw [mset_get_ne My _ (show 0 ≠ 0 ∨ 1 ≠ 0 by omega), mset_get_ne My _ (show 0 ≠ 0 ∨ 16 ≠ 0 by omega), mset_get_ne My _ (show 0 ≠ 0 ∨ 17 ≠ 0 by omega), mset_get_ne My _ (show 0 ≠ 0 ∨ 19 ≠ 0 by omega), mset_get_ne My _ (show 0 ≠ 0 ∨ 21 ≠ 0 by omega), e0, e1, e2, e3, e4]
  by_cases h0 : x = 0
  · rw [if_pos h0, if_pos h0]; exact OpR.same (h.y0 0) _ rfl rfl
  · rw [if_neg h0, if_neg h0]
    by_cases h1 : x = 1
    · rw [if_pos h1, if_pos h1]; exact OpR.same (h.y0 0) _ rfl rfl
    · rw [if_neg h1, if_neg h1]
      by_cases h2 : x = 2
      · rw [if_pos h2, if_pos h2]; exact OpR.same (h.y0 0) _ rfl rfl
      · rw [if_neg h2, if_neg h2]
        by_cases h3 : x = 3
        · rw [if_pos h3, if_pos h3]; exact OpR.same (h.y0 0) _ rfl rfl
        · rw [if_neg h3, if_neg h3]
          by_cases h4 : x = 4
          · rw [if_pos h4, if_pos h4]; exact OpR.same (h.y0 0) _ rfl rfl
          · rw [if_neg h4, if_neg h4]; exact OpR.same (h.y0 0) _ rfl rfl
theorem op_steps (h : Rel c n u Mx My) (x1 x2 : Int32) : OpR c (f_X6_steps x1 x2 Mx) (f_X7_steps x1 x2 My) := by
  have hn := h.n16
  have h0 := h.y0 0
  unfold f_X6_steps f_X6_steps_0 f_X7_steps f_X7_steps_0
  simp only [stF, Option.bind_some]
  rcases se_cases x1 with ⟨s, hs, rfl, hx, hy⟩ | ⟨-, hx, hy⟩
  · rw [hx, hy]
    simp only [Option.bind_some]
    rw [if_neg (by decide), if_neg (by decide)]
    rcases in_cases x2 0 100000 with ⟨-, ix, iy⟩ | ⟨-, ix, iy⟩
    · rw [ix, iy]
      simp only [Option.bind_some]
      rw [if_neg (by decide), if_neg (by decide), ixQ_n hs, ldI_n _ 13 hs, stI_n _ 13 x2 hs]
      simp only [Option.bind_some]
      have e : Mx (13 + 5 * s) 2 = mset My 0 0 0 13 s := h0.1.at 13 s hs rfl
      rw [e]
      refine ⟨_, _, _, n, u, rfl, rfl, (h0.of (h0.1.set hn (a := 13) (b := s) (k := 13 + 5 * s) (j := 2) hs rfl x2) (fun k j hk => mset_get_ne _ _ (by omega)) (fun s' hs' => mset_get_ne _ _ (by omega)) (fun a b hq => mset_get_ne _ _ (by omega))).up⟩
    · rw [ix, iy]
      exact OpR.same h0 _ rfl rfl
  · rw [hx, hy]
    exact OpR.same h0 _ rfl rfl
theorem op_start (h : Rel c n u Mx My) (x1 x2 : Int32) : OpR c (f_X6_start x1 x2 Mx) (f_X7_start x1 x2 My) := by
  have hn := h.n16
  have h0 := h.y0 0
  obtain ⟨k, hk, e17⟩ := h0.2.2.1
  have ex : Mx 10 2 = nI k := (h0.1.at 0 17 (by simp [dm]) rfl).trans e17
  unfold f_X6_start f_X6_start_0 f_X7_start f_X7_start_0
  simp only [stF, Option.bind_some]
  rw [e17, ex]
  rcases in_cases x1 0 (nI k - 1) with ⟨hr, ix, iy⟩ | ⟨-, ix, iy⟩
  · obtain ⟨i, hi, rfl⟩ := nI_range (n := k) rfl (nI_sub1 (by omega)) (by omega) hr
    rw [ix, iy]
    simp only [Option.bind_some]
    rw [if_neg (by decide), if_neg (by decide)]
    rcases in_cases x2 0 3 with ⟨hr2, jx, jy⟩ | ⟨-, jx, jy⟩
    · obtain ⟨w, hw, rfl⟩ := nI_range (n := 4) rfl rfl (by omega) hr2
      rw [jx, jy]
      simp only [Option.bind_some]
      rw [if_neg (by decide), if_neg (by decide), x4, x4', ldI_n _ 11 (show 4 * i + w < 600 by omega), ldI_n _ 14 (show 4 * i + w < 600 by omega)]
      have e : Mx 11 (4 * i + w) = mset My 0 0 0 14 (4 * i + w) := h0.1.at 14 (4 * i + w) (show 4 * i + w < 600 by omega) rfl
      rw [e]
      exact OpR.same h0 _ rfl rfl
    · rw [jx, jy]
      exact OpR.same h0 _ rfl rfl
  · rw [ix, iy]
    exact OpR.same h0 _ rfl rfl
theorem num_eqS {Mx My : Mem} {n s t f : Nat} (hS : Sim n Mx My) (hs : s < 4) (ht : t < 16) (hf : f < 5) : f_X1_numberOf (pk My s t) (nI t) (nI f) Mx = some (My 11 (5 * pl My s t + f), Mx) := by
  unfold f_X1_numberOf f_X1_numberOf_0
  rw [x5', ldI_n Mx _ (show 5 * t + f < 80 by omega)]
  simp only [Option.bind_some]
  have hp := nu_ps (My := My) (n := n) hs ht hf
  rw [hS.at _ _ hp.1 hp.2]
theorem op_peek (h : Rel c n u Mx My) (x1 x2 x3 : Int32) : OpR c (f_X6_peek x1 x2 x3 Mx) (f_X7_peek x1 x2 x3 My) := by
  have hn := h.n16
  have h0 := h.y0 0
  unfold f_X6_peek f_X6_peek_0 f_X7_peek f_X7_peek_0
  simp only [stF, Option.bind_some]
  generalize mset My 0 0 0 = My1 at *
  rcases se_cases x1 with ⟨s, hs, rfl, hx, hy⟩ | ⟨-, hx, hy⟩
  · rw [hx, hy]
    simp only [Option.bind_some]
    rw [if_neg (by decide), if_neg (by decide)]
    rcases ty_cases (n := n) hn x2 with ⟨t, ht, rfl, tx, ty⟩ | ⟨-, tx, ty⟩
    · rw [tx Mx h0.e5, ty My1 h0.e1]
      simp only [Option.bind_some]
      rw [if_neg (by decide), if_neg (by decide)]
      rcases fi_cases x3 with ⟨f, hf, rfl, fx, fy⟩ | ⟨-, fx, fy⟩
      · rw [fx, fy]
        simp only [Option.bind_some]
        have hps := fs_ps (n := n) ht hf
        rw [if_neg (by decide), if_neg (by decide), ixQ_n (show t < 16 by omega), x5, ldI_n My1 6 (show 5 * t + f < 80 by omega)]
        simp only [Option.bind_some]
        rw [ldI_n Mx _ hf, h0.1.at _ _ hps.1 hps.2]
        simp only [Option.bind_some]
        by_cases h2 : My1 6 (5 * t + f) = 2
        · rw [if_pos h2, if_pos h2, place_eq h0.1 hs ht hn, plain_eq hs (show t < 16 by omega) hf]
          simp only [Option.bind_some]
          rw [pk_xP My1 hs t]
          simp only [Option.bind_some]
          rw [num_eqS h0.1 hs (show t < 16 by omega) hf]
          exact OpR.same h0 _ rfl rfl
        · rw [if_neg h2, if_neg h2]
          exact OpR.same h0 _ rfl rfl
      · rw [fx, fy]
        exact OpR.same h0 _ rfl rfl
    · rw [tx Mx h0.e5, ty My1 h0.e1]
      exact OpR.same h0 _ rfl rfl
  · rw [hx, hy]
    exact OpR.same h0 _ rfl rfl
theorem cnt_loop (h : Rel c n u Mx My) {s t : Nat} (hs : s < 4) (ht : t < n) (x3 : Int32) : ∀ (m j : Nat) (acc : Int32), j ≤ 5 → 5 - j < m → ∃ A, f_X6_countNotZero_13 m (nI t) (pk My s t) acc (nI j) Mx = some (A, Mx) ∧ f_X7_told_62 m (nI s) (nI t) x3 acc (nI j) My = (if x3 = 2 then some (A, My) else some (-102, My)) := by
  have hn := h.n16
  intro m
  induction m with
  | zero => intro j acc _ h; omega
  | succ m ih =>
    intro j acc hj hm
    show ∃ A, f_X6_countNotZero_13b (f_X6_countNotZero_13 m) (nI t) (pk My s t) acc (nI j) Mx = _ ∧ f_X7_told_62b (f_X7_told_62 m) (nI s) (nI t) x3 acc (nI j) My = _
    unfold f_X6_countNotZero_13b f_X7_told_62b
    by_cases hj5 : 5 ≤ j
    · rw [if_pos (show (5 : Int32) ≤ nI j from nI_le (a := 5) hj5 (by omega)), if_pos (show (5 : Int32) ≤ nI j from nI_le (a := 5) hj5 (by omega))]
      exact ⟨acc, rfl, rfl⟩
    · rw [if_neg (show ¬ (5 : Int32) ≤ nI j from nI_ge (a := j) (b := 5) (by omega) (by omega)), if_neg (show ¬ (5 : Int32) ≤ nI j from nI_ge (a := j) (b := 5) (by omega) (by omega)), ixQ_n (show t < 16 by omega), x5, ldI_n My 6 (show 5 * t + j < 80 by omega)]
      simp only [Option.bind_some]
      have hps := fs_ps (n := n) ht (show j < 5 by omega)
      rw [ldI_n Mx _ (show j < 5 by omega), h.1.at _ _ hps.1 hps.2]
      simp only [Option.bind_some]
      have one := ih (j + 1) (acc + 1) (by omega) (by omega)
      have nul := ih (j + 1) acc (by omega) (by omega)
      rw [← nI_1 j] at one nul
      by_cases h2 : My 6 (5 * t + j) = 2
      · rw [if_pos h2, if_pos h2, num_eqS h.1 hs (show t < 16 by omega) (show j < 5 by omega), plain_eq hs (show t < 16 by omega) (show j < 5 by omega)]
        simp only [Option.bind_some]
        by_cases h3 : My 11 (5 * pl My s t + j) = 0
        · rw [if_pos h3, if_pos h3]
          unfold f_X6_countNotZero_48 f_X7_told_100 f_X7_told_101
          rw [Int32.add_zero]
          exact nul
        · rw [if_neg h3, if_neg h3]
          unfold f_X6_countNotZero_48 f_X7_told_101
          exact one
      · rw [if_neg h2, if_neg h2]
        unfold f_X6_countNotZero_48 f_X7_told_100 f_X7_told_101
        rw [Int32.add_zero]
        exact nul
theorem op_told (h : Rel c n u Mx My) (x1 x2 x3 : Int32) : OpR c (f_X6_told x1 x2 x3 Mx) (f_X7_told x1 x2 x3 My) := by
  have hn := h.n16
  have h0 := h.y0 0
  unfold f_X6_told f_X6_told_0 f_X7_told f_X7_told_0
  simp only [stF, Option.bind_some]
  generalize mset My 0 0 0 = My1 at *
  rcases se_cases x1 with ⟨s, hs, rfl, hx, hy⟩ | ⟨-, hx, hy⟩
  · rw [hx, hy]
    simp only [Option.bind_some]
    rw [if_neg (show ¬ (1 : Int32) = 0 by decide), if_neg (show ¬ (1 : Int32) = 0 by decide)]
    rcases ty_cases (n := n) hn x2 with ⟨t, ht, rfl, tx, ty⟩ | ⟨-, tx, ty⟩
    · rw [tx Mx h0.e5, ty My1 h0.e1]
      simp only [Option.bind_some]
      have ht16 : t < 16 := by omega
      rw [if_neg (show ¬ (1 : Int32) = 0 by decide), if_neg (show ¬ (1 : Int32) = 0 by decide)]
      by_cases w0 : x3 = 0
      · rw [if_pos w0, if_pos w0, place_eq h0.1 hs ht hn, at_eq ht16]
        simp only [Option.bind_some]
        rw [pk_xP My1 hs t]
        simp only [Option.bind_some]
        have hp := st_ps (My := My1) (n := n) hs ht16
        rw [ldI_n Mx _ ht16, ldI_n My1 10 (pl_lt hs ht16), h0.1.at _ _ hp.1 hp.2]
        exact OpR.same h0 _ rfl rfl
      · rw [if_neg w0, if_neg w0]
        by_cases w1 : x3 = 1
        · have hp := th_ps (n := n) hs ht16
          rw [if_pos w1, if_pos w1, ixQ_n hs, x16, ldI_n My1 12 (show 16 * s + t < 64 by omega)]
          simp only [Option.bind_some]
          rw [ldI_n Mx _ ht16, h0.1.at _ _ hp.1 hp.2]
          exact OpR.same h0 _ rfl rfl
        · rw [if_neg w1, if_neg w1]
          obtain ⟨A, q1, q2⟩ := cnt_loop h0 hs ht x3 FU 0 0 (by omega) (by have := FU_ge; omega)
          have q2' : f_X7_told_62 FU (nI s) (nI t) x3 (0 : Int32) (0 : Int32) My1 = _ := q2
          rw [q2']
          by_cases w2 : x3 = 2
          · rw [if_pos w2, if_pos w2]
            unfold f_X6_countNotZero f_X6_countNotZero_0
            rw [place_eq h0.1 hs ht hn]
            simp only [Option.bind_some]
            rw [pk_xP My1 hs t]
            simp only [Option.bind_some]
            have q1' : f_X6_countNotZero_13 FU (nI t) (pk My1 s t) (0 : Int32) (0 : Int32) Mx = _ := q1
            rw [q1']
            exact OpR.same h0 _ rfl rfl
          · rw [if_neg w2, if_neg w2]
            exact OpR.same h0 _ rfl rfl
    · rw [tx Mx h0.e5, ty My1 h0.e1]
      exact OpR.same h0 _ rfl rfl
  · rw [hx, hy]
    exact OpR.same h0 _ rfl rfl
end OPA
