/-! type, face -/
theorem fill_loop {N k : Nat} {v : Int32} (hN : N < 1000) : ∀ (m j : Nat) (M : Mem), j ≤ N → N - j < m → ∃ M', f_J7_fill_53178_5 N m k v (nI j) (nI N) M = some (0, M') ∧ (∀ b, j ≤ b → b < N → M' k b = v) ∧ ∀ a b, a ≠ k ∨ b < j ∨ N ≤ b → M' a b = M a b := by
  intro m
  induction m with
  | zero => intro j M _ h; omega
  | succ m ih =>
    intro j M hj hm
    show ∃ M', f_J7_fill_53178_5b N (f_J7_fill_53178_5 N m) k v (nI j) (nI N) M = _ ∧ _
    unfold f_J7_fill_53178_5b
    by_cases hjN : N ≤ j
    · rw [if_pos (nI_le hjN (by omega))]
      exact ⟨M, rfl, fun b h1 h2 => by omega, fun _ _ _ => rfl⟩
    · rw [if_neg (nI_ge (by omega) (by omega)), stI_n M k v (show j < N by omega) (by omega)]
      simp only [Option.bind_some]
      obtain ⟨M', e1, e2, e3⟩ := ih (j + 1) (mset M k j v) (by omega) (by omega)
      refine ⟨M', ?_, fun b h1 h2 => ?_, fun a b h => ?_⟩
      · rw [← nI_1 j] at e1
        exact e1
      · by_cases e : b = j
        · subst e
          rw [e3 k b (by omega), mset_get]
        · exact e2 b (by omega) h2
      · rw [e3 a b (by omega), mset_get_ne _ _ (by omega)]
theorem fill_eq {N k : Nat} {v : Int32} (hN : N < 1000) (M : Mem) : ∃ M', f_J7_fill_53178 N k v M = some (0, M') ∧ (∀ b, b < N → M' k b = v) ∧ ∀ a b, a ≠ k ∨ N ≤ b → M' a b = M a b := by
  obtain ⟨M', e1, e2, e3⟩ := fill_loop (k := k) (v := v) hN FU 0 M (Nat.zero_le _) (by have := FU_ge; omega)
  exact ⟨M', e1, fun b hb => e2 b (Nat.zero_le _) hb, fun a b h => e3 a b (by omega)⟩
theorem begin_eq (M : Mem) (k : Nat) (x1 x2 x3 : Int32) (hb : isb x3 = true) : ∃ M', f_X4_begin k x1 x2 x3 M = some (0, M') ∧ M' k 0 = x1 ∧ M' k 1 = x2 ∧ M' k 2 = x3 ∧ M' k 12 = 0 ∧ RowIs M' (k + 1) [] ∧ (∀ f, f < 5 → M' (k + 7) f = 0) ∧ ∀ a b, a ≠ k → a ≠ k + 1 → a ≠ k + 7 → M' a b = M a b := by
  unfold f_X4_begin f_X4_begin_0
  rw [bindE (show stF M k 0 x1 = some _ from rfl), bindE (show stF _ k 1 x2 = some _ from rfl), bindE (stFZ_n _ k 2 hb)]
  rw [bindE (show f_X2_empty (k + 1) (mset (mset (mset M k 0 x1) k 1 x2) k 2 x3) = some (0, mset (mset (mset (mset (mset M k 0 x1) k 1 x2) k 2 x3) (k + 1) 1 0) (k + 1) 2 0) from rfl)]
  dsimp only
  obtain ⟨M10, f1, f2, f3⟩ := fill_eq (N := 5) (k := k + 7) (v := 0) (by omega) (mset (mset (mset (mset (mset M k 0 x1) k 1 x2) k 2 x3) (k + 1) 1 0) (k + 1) 2 0)
  rw [bindE f1]
  dsimp only
  rw [bindE (show stF M10 k 12 0 = some _ from rfl)]
  refine ⟨_, rfl, ?_, ?_, ?_, mset_get _ _ _ _, ⟨?_, by simp, fun j x hj => by simp at hj, List.nodup_nil, fun x hx => by simp at hx, fun x hx => ?_⟩, fun f hf => ?_, fun a b h1 h2 h3 => ?_⟩
  · rw [mset_get_ne _ _ (by omega), f3 _ _ (by omega), mset_get_ne _ _ (by omega), mset_get_ne _ _ (by omega), mset_get_ne _ _ (by omega), mset_get_ne _ _ (by omega), mset_get]
  · rw [mset_get_ne _ _ (by omega), f3 _ _ (by omega), mset_get_ne _ _ (by omega), mset_get_ne _ _ (by omega), mset_get_ne _ _ (by omega), mset_get]
  · rw [mset_get_ne _ _ (by omega), f3 _ _ (by omega), mset_get_ne _ _ (by omega), mset_get_ne _ _ (by omega), mset_get]
  · rw [mset_get_ne _ _ (by omega), f3 _ _ (by omega), mset_get_ne _ _ (by omega), mset_get]
    rfl
  · rw [mset_get_ne _ _ (by omega), f3 _ _ (by omega), mset_get, bit_iff _ hx, b_0]
    simp
  · rw [mset_get_ne _ _ (by omega)]
    exact f2 f hf
  · rw [mset_get_ne _ _ (by omega), f3 _ _ (by omega), mset_get_ne _ _ (by omega), mset_get_ne _ _ (by omega), mset_get_ne _ _ (by omega), mset_get_ne _ _ (by omega), mset_get_ne _ _ (by omega)]
theorem faY_at {A B : Mem} {v : Nat} (h4 : B 4 v = A 4 v) (h5 : ∀ j, j < (A 4 v).toNatClampNeg → B 5 (3 * v + j) = A 5 (3 * v + j)) : faY B v = faY A v := by
  unfold faY
  rw [h4]
  apply List.map_congr_left
  intro j hj
  rw [h5 j (List.mem_range.mp hj)]
theorem chY_at {A B : Mem} {v : Nat} (h2 : B 2 v = A 2 v) (h4 : B 4 v = A 4 v) (h5 : ∀ j, j < (A 4 v).toNatClampNeg → B 5 (3 * v + j) = A 5 (3 * v + j)) : chY B v = chY A v := by
  unfold chY paY
  rw [faY_at h4 h5, h2]
/-- the rows of a TYPE stay right while what is at or before it stays -/
theorem rows_at {n u : Nat} {My My' : Mem} (hw : WF n My) (hu : u < n) (h1 : ∀ v, v ≤ u → My' 1 v = My 1 v) (h2 : ∀ v, v ≤ u → My' 2 v = My 2 v) (h4 : ∀ v, v ≤ u → My' 4 v = My 4 v) (h5 : ∀ v j, v ≤ u → j < (My 4 v).toNatClampNeg → My' 5 (3 * v + j) = My 5 (3 * v + j)) : lk (chY My') u = lk (chY My) u ∧ ff (faY My') (owY My') u = ff (faY My) (owY My) u ∧ faY My' u = faY My u := by
  have hf : ∀ v, v ≤ u → faY My' v = faY My v := fun v hv => faY_at (h4 v hv) (fun j hj => h5 v j hv hj)
  refine ⟨lk_congr (chY_lt hw) u hu (fun v hv => chY_at (h2 v hv) (h4 v hv) (fun j hj => h5 v j hv hj)), ?_, hf u (Nat.le_refl u)⟩
  unfold ff
  rw [hf u (Nat.le_refl u)]
  apply flatMap_congr'
  intro f hfm
  have hfu := faY_lt hw u hu f hfm
  refine gg_congr (faY_lt hw) f (by omega) (fun v hv => hf v (by omega)) (fun v hv => ?_)
  unfold owY
  rw [h1 v (by omega)]
theorem und.n {n u : Nat} {Mx My : Mem} (h : und n u Mx My) {m : Nat} (hm : n ≤ m) : und m u Mx My := by
  intro s hs
  obtain ⟨l, l1, l2, l3⟩ := h s hs
  refine ⟨l, l1, l2, fun j k hj => ?_⟩
  obtain ⟨a, b, d⟩ := l3 j k hj
  refine ⟨a, b, d.elim Or.inl (fun ⟨t, ht, e⟩ => Or.inr ⟨t, by omega, e⟩)⟩
theorem ps_lo {n a b : Nat} (ha : 10 ≤ a) (h : dm n a b) : (ps a b).1 < 33 ∧ (ps a b).1 ≠ 0 := by
  rcases dm_cases h with ⟨rfl, q⟩ | ⟨rfl, q⟩ | ⟨rfl, q⟩ | ⟨rfl, q⟩ | ⟨rfl, q⟩ | ⟨rfl, q⟩ | ⟨rfl, q⟩ | ⟨rfl, q⟩ | ⟨rfl, q⟩ | ⟨rfl, q⟩ | ⟨rfl, q⟩ | ⟨rfl, q⟩ | ⟨rfl, q⟩ | ⟨rfl, q⟩ | ⟨rfl, q⟩
  all_goals try omega
  · show ((if b < 64 then (15 + 5 * (b / 16), b % 16) else (4, b - 64)) : Nat × Nat).1 < 33 ∧ ((if b < 64 then (15 + 5 * (b / 16), b % 16) else (4, b - 64)) : Nat × Nat).1 ≠ 0
    split
    · show 15 + 5 * (b / 16) < 33 ∧ 15 + 5 * (b / 16) ≠ 0
      omega
    · show 4 < 33 ∧ 4 ≠ 0
      omega
  · show ((if b < 320 then (16 + 5 * (b / 80), b % 80) else (5, b - 320)) : Nat × Nat).1 < 33 ∧ ((if b < 320 then (16 + 5 * (b / 80), b % 80) else (5, b - 320)) : Nat × Nat).1 ≠ 0
    split
    · show 16 + 5 * (b / 80) < 33 ∧ 16 + 5 * (b / 80) ≠ 0
      omega
    · show 5 < 33 ∧ 5 ≠ 0
      omega
  · show 17 + 5 * (b / 16) < 33 ∧ 17 + 5 * (b / 16) ≠ 0
    omega
  · show 13 + 5 * b < 33 ∧ 13 + 5 * b ≠ 0
    omega
  · show 11 < 33 ∧ 11 ≠ 0
    omega
  · show 12 < 33 ∧ 12 ≠ 0
    omega
section OPC
variable {c n u : Nat} {Mx My : Mem}
theorem type_new (h : Rel c n u Mx My) {k : Nat} (hk : k < 3) {x2 x3 : Int32} (hp : x2 = -1 ∨ ∃ q, q < n ∧ x2 = nI q ∧ k = 0) (hb : isb x3 = true) : OpR c (f_X6_type_56 (nI k) x2 x3 Mx) (f_X7_type_67 (nI k) x2 x3 My) := by
  have hn := h.n16
  unfold f_X6_type_56 f_X7_type_67
  rw [h.e5, h.e1]
  by_cases hn16 : n = 16
  · subst hn16
    rw [if_neg (show ¬ nI 16 < (16 : Int32) by decide), if_pos (show nI 16 = (16 : Int32) from rfl)]
    exact OpR.same h _ rfl rfl
  · have hlt : n < 16 := by omega
    rw [if_pos (show nI n < (16 : Int32) from nI_lt (b := 16) hlt (by omega)), if_neg (show ¬ nI n = (16 : Int32) from nI_ne (b := 16) (by omega) (by omega) hn16)]
    -- the reference
    have hY : ((stI My 1 16 (nI n) (nI k)).bind fun M2 => (stI M2 2 16 (M2 0 1) x2).bind fun M4 => (stZ M4 3 16 (M4 0 1) x3).bind fun M6 => (stF M6 0 1 ((M6 0 1) + (1 : Int32))).bind fun M8 => some (((M8 0 1) - (1 : Int32)), M8)) = some (nI n, mset (mset (mset (mset My 1 n (nI k)) 2 n x2) 3 n x3) 0 1 (nI (n + 1))) := by
      rw [stI_n My 1 (nI k) hlt]
      simp only [Option.bind_some]
      rw [mset_get_ne My _ (show 0 ≠ 1 ∨ 1 ≠ n by omega), h.e1, stI_n _ 2 x2 hlt]
      simp only [Option.bind_some]
      rw [mset_get_ne _ _ (show 0 ≠ 2 ∨ 1 ≠ n by omega), mset_get_ne My _ (show 0 ≠ 1 ∨ 1 ≠ n by omega), h.e1, stZ_n _ 3 x3 hlt hb]
      simp only [Option.bind_some, stF]
      rw [mset_get, mset_get_ne _ _ (show 0 ≠ 3 ∨ 1 ≠ n by omega), mset_get_ne _ _ (show 0 ≠ 2 ∨ 1 ≠ n by omega), mset_get_ne My _ (show 0 ≠ 1 ∨ 1 ≠ n by omega), h.e1, nI_1, nI_pred]
    rw [hY]
    clear hY
    have y1 : mset (mset (mset (mset My 1 n (nI k)) 2 n x2) 3 n x3) 0 1 (nI (n + 1)) 1 n = nI k := by
      rw [mset_get_ne _ _ (by omega), mset_get_ne _ _ (by omega), mset_get_ne _ _ (by omega), mset_get]
    have y2 : mset (mset (mset (mset My 1 n (nI k)) 2 n x2) 3 n x3) 0 1 (nI (n + 1)) 2 n = x2 := by
      rw [mset_get_ne _ _ (by omega), mset_get_ne _ _ (by omega), mset_get]
    have y3 : mset (mset (mset (mset My 1 n (nI k)) 2 n x2) 3 n x3) 0 1 (nI (n + 1)) 3 n = x3 := by
      rw [mset_get_ne _ _ (by omega), mset_get]
    have y01 : mset (mset (mset (mset My 1 n (nI k)) 2 n x2) 3 n x3) 0 1 (nI (n + 1)) 0 1 = nI (n + 1) := mset_get _ _ _ _
    have hyo : ∀ a b, ((a ≠ 1 ∧ a ≠ 2 ∧ a ≠ 3) ∨ b ≠ n) → (a ≠ 0 ∨ b ≠ 1) → mset (mset (mset (mset My 1 n (nI k)) 2 n x2) 3 n x3) 0 1 (nI (n + 1)) a b = My a b := fun a b q1 q2 => by
      rw [mset_get_ne _ _ q2, mset_get_ne _ _ (by omega), mset_get_ne _ _ (by omega), mset_get_ne _ _ (by omega)]
    generalize mset (mset (mset (mset My 1 n (nI k)) 2 n x2) 3 n x3) 0 1 (nI (n + 1)) = My' at *
    obtain ⟨r1, r2, r3, r4, r5, r6, r7, r8, r9, r10, r11, r12⟩ := h
    obtain ⟨g4, g8, g6⟩ := r8 n (Nat.le_refl n) hlt
    have z4 : My' 4 n = 0 := by rw [hyo 4 n (by omega) (by omega)]; exact g4
    have hfn : faY My' n = [] := by
      unfold faY
      rw [z4]
      rfl
    obtain ⟨w1, w2, w3, w4, w5, w6, w7, w8⟩ := r2.1
    have hw' : WF (n + 1) My' := by
      refine ⟨by omega, y01, fun t ht => ?_, fun t ht => ?_, fun t ht => ?_, fun t ht => ?_, fun q hq => ?_, fun t ht => ?_⟩
      · by_cases e : t = n
        · subst e
          rw [y1]
          have : k = 0 ∨ k = 1 ∨ k = 2 := by omega
          rcases this with rfl | rfl | rfl
          · exact Or.inl rfl
          · exact Or.inr (Or.inl rfl)
          · exact Or.inr (Or.inr rfl)
        · rw [hyo 1 t (by omega) (by omega)]
          exact w3 t (by omega)
      · by_cases e : t = n
        · subst e
          rw [y2, y1]
          rcases hp with hp | ⟨q, q1, q2, q3⟩
          · exact Or.inl hp
          · exact Or.inr ⟨q, q1, q2, by rw [q3]; rfl⟩
        · rw [hyo 2 t (by omega) (by omega), hyo 1 t (by omega) (by omega)]
          exact w4 t (by omega)
      · by_cases e : t = n
        · subst e
          rw [y3]
          simpa [isb] using hb
        · rw [hyo 3 t (by omega) (by omega)]
          exact w5 t (by omega)
      · by_cases e : t = n
        · subst e
          exact ⟨0, by omega, z4, fun j hj => by omega⟩
        · obtain ⟨d, d1, d2, d3⟩ := w6 t (by omega)
          exact ⟨d, d1, by rw [hyo 4 t (by omega) (by omega)]; exact d2, fun j hj => by rw [hyo 5 _ (by omega) (by omega)]; exact d3 j hj⟩
      · rw [hyo 6 q (by omega) (by omega)]
        by_cases e : q < 5 * n
        · exact w7 q e
        · have := g6 (q - 5 * n) (by omega)
          rw [show 5 * n + (q - 5 * n) = q by omega] at this
          exact Or.inl this
      · by_cases e : t = n
        · subst e
          exact ⟨0, by omega, by rw [hyo 8 _ (by omega) (by omega)]; exact g8, fun i hi => by omega⟩
        · obtain ⟨d, d1, d2, d3⟩ := w8 t (by omega)
          refine ⟨d, d1, by rw [hyo 8 t (by omega) (by omega)]; exact d2, fun i hi => ?_⟩
          rw [hyo 9 _ (by omega) (by omega), hyo 9 _ (by omega) (by omega), hyo 9 _ (by omega) (by omega), hyo 9 _ (by omega) (by omega)]
          exact d3 i hi
    have rw' : ∀ v, v < n → lk (chY My') v = lk (chY My) v ∧ ff (faY My') (owY My') v = ff (faY My) (owY My) v ∧ faY My' v = faY My v := fun v hv => rows_at r2.1 hv (fun x hx => hyo 1 x (by omega) (by omega)) (fun x hx => hyo 2 x (by omega) (by omega)) (fun x hx => hyo 4 x (by omega) (by omega)) (fun x j hx hj => hyo 5 _ (by omega) (by omega))
    -- the class
    rw [bindE (ixQ_n hlt)]
    obtain ⟨Mb, b1, b2, b3, b4, b5, b6, b7, b8⟩ := begin_eq Mx (33 + 13 * n) (nI k) x2 x3 hb
    rw [bindE b1]
    dsimp only
    obtain ⟨Ma, a1, a2, a3, a4⟩ := arr_eq (t := n) (Mx := Mb) hw' (by omega) (fun v hv => by
      obtain ⟨q1, q2, -⟩ := r2.2.2 v hv
      obtain ⟨p1, p2, -⟩ := rw' v hv
      rw [p1, p2]
      exact ⟨q1.fr (fun j => b8 _ j (by omega) (by omega) (by omega)) (fun j => b8 _ j (by omega) (by omega) (by omega)), q2.fr (fun j => b8 _ j (by omega) (by omega) (by omega)) (fun j => b8 _ j (by omega) (by omega) (by omega))⟩) (by rw [hfn]; exact b6) (fun v hv => by
      rw [b8 _ _ (by omega) (by omega) (by omega), hyo 1 v (by omega) (by omega)]
      exact r1.at 1 v hv rfl) (by rw [b3, y2])
    rw [bindE a1]
    dsimp only
    have e5a : Ma 0 5 = nI n := by rw [a4 0 5 (by omega) (by omega) (by omega) (by omega), b8 0 5 (by omega) (by omega) (by omega)]; exact (r1.at 0 1 (by simp [dm]) rfl).trans w2
    rw [bindE (show stF Ma 0 5 (Ma 0 5 + 1) = some (mset Ma 0 5 (Ma 0 5 + 1)) from rfl), e5a, nI_1]
    have hX : ∀ a b, a ≠ 33 + 13 * n → a ≠ 34 + 13 * n → a ≠ 36 + 13 * n → a ≠ 37 + 13 * n → a ≠ 38 + 13 * n → a ≠ 39 + 13 * n → a ≠ 40 + 13 * n → (a ≠ 0 ∨ b ≠ 5) → mset Ma 0 5 (nI (n + 1)) a b = Mx a b := fun a b q1 q2 q3 q4 q5 q6 q7 q8 => by
      rw [mset_get_ne _ _ q8, a4 a b q3 q4 q5 q6, b8 a b q1 (by omega) (by omega)]
    have hXn : ∀ a b, (a = 33 + 13 * n ∨ a = 34 + 13 * n ∨ a = 35 + 13 * n ∨ a = 40 + 13 * n) → mset Ma 0 5 (nI (n + 1)) a b = Mb a b := fun a b q => by
      rw [mset_get_ne _ _ (by omega), a4 a b (by omega) (by omega) (by omega) (by omega)]
    have hx05 : mset Ma 0 5 (nI (n + 1)) 0 5 = nI (n + 1) := mset_get _ _ _ _
    have a2' : RowIs (mset Ma 0 5 (nI (n + 1))) (33 + 13 * n + 3) (ddp (lk (chY My') n)) := a2.fr (fun j => mset_get_ne _ _ (by omega)) (fun j => mset_get_ne _ _ (by omega))
    have a3' : RowIs (mset Ma 0 5 (nI (n + 1))) (33 + 13 * n + 5) (ddp (ff (faY My') (owY My') n)) := a3.fr (fun j => mset_get_ne _ _ (by omega)) (fun j => mset_get_ne _ _ (by omega))
    generalize mset Ma 0 5 (nI (n + 1)) = Mx' at *
    refine ⟨_, Mx', My', n + 1, u, rfl, rfl, ?_⟩
    obtain ⟨s5, s9⟩ := r7 n (Nat.le_refl n) hlt
    refine ⟨?_, ⟨hw', ?_, ?_⟩, by rw [hyo 0 17 (by omega) (by omega)]; exact r3, by rw [hyo 0 19 (by omega) (by omega)]; exact r4, fun b hb => by rw [hyo 22 b (by omega) (by omega)]; exact r5 b hb, fun b hb => by rw [hyo 10 b (by omega) (by omega)]; exact r6 b hb, ?_, ?_, ?_, by rw [hyo 0 16 (by omega) (by omega)]; exact r10, by omega, ?_⟩
    · -- alike
      intro a b hd
      have old : ∀ a b, dm n a b → (a ≠ 0 ∨ b ≠ 1) → Mx' (ps a b).1 (ps a b).2 = My' a b := by
        intro a b hd h01
        have e := r1 a b hd
        rcases dm_cases hd with ⟨rfl, q⟩ | ⟨rfl, q⟩ | ⟨rfl, q⟩ | ⟨rfl, q⟩ | ⟨rfl, q⟩ | ⟨rfl, q⟩ | ⟨rfl, q⟩ | ⟨rfl, q⟩ | ⟨rfl, q⟩ | ⟨rfl, q⟩ | ⟨rfl, q⟩ | ⟨rfl, q⟩ | ⟨rfl, q⟩ | ⟨rfl, q⟩ | ⟨rfl, q⟩
        · rw [hyo 0 b (by omega) h01, ← e]
          rcases q with rfl | rfl | rfl | rfl | rfl | rfl | rfl
          · exact absurd rfl (h01.resolve_left (fun q => q rfl))
          all_goals exact hX _ _ (by show _ ≠ _; simp [ps]; omega) (by simp [ps]; omega) (by simp [ps]; omega) (by simp [ps]; omega) (by simp [ps]; omega) (by simp [ps]; omega) (by simp [ps]; omega) (by simp [ps])
        all_goals (rw [hyo _ b (by omega) h01, ← e])
        · exact hX _ _ (show 33 + 13 * b ≠ _ by omega) (show 33 + 13 * b ≠ _ by omega) (show 33 + 13 * b ≠ _ by omega) (show 33 + 13 * b ≠ _ by omega) (show 33 + 13 * b ≠ _ by omega) (show 33 + 13 * b ≠ _ by omega) (show 33 + 13 * b ≠ _ by omega) (Or.inl (show 33 + 13 * b ≠ 0 by omega))
        · exact hX _ _ (show 33 + 13 * b ≠ _ by omega) (show 33 + 13 * b ≠ _ by omega) (show 33 + 13 * b ≠ _ by omega) (show 33 + 13 * b ≠ _ by omega) (show 33 + 13 * b ≠ _ by omega) (show 33 + 13 * b ≠ _ by omega) (show 33 + 13 * b ≠ _ by omega) (Or.inl (show 33 + 13 * b ≠ 0 by omega))
        · exact hX _ _ (show 33 + 13 * b ≠ _ by omega) (show 33 + 13 * b ≠ _ by omega) (show 33 + 13 * b ≠ _ by omega) (show 33 + 13 * b ≠ _ by omega) (show 33 + 13 * b ≠ _ by omega) (show 33 + 13 * b ≠ _ by omega) (show 33 + 13 * b ≠ _ by omega) (Or.inl (show 33 + 13 * b ≠ 0 by omega))
        · exact hX _ _ (show 34 + 13 * b ≠ _ by omega) (show 34 + 13 * b ≠ _ by omega) (show 34 + 13 * b ≠ _ by omega) (show 34 + 13 * b ≠ _ by omega) (show 34 + 13 * b ≠ _ by omega) (show 34 + 13 * b ≠ _ by omega) (show 34 + 13 * b ≠ _ by omega) (Or.inl (show 34 + 13 * b ≠ 0 by omega))
        · exact hX _ _ (show 35 + 13 * (b / 3) ≠ _ by omega) (show 35 + 13 * (b / 3) ≠ _ by omega) (show 35 + 13 * (b / 3) ≠ _ by omega) (show 35 + 13 * (b / 3) ≠ _ by omega) (show 35 + 13 * (b / 3) ≠ _ by omega) (show 35 + 13 * (b / 3) ≠ _ by omega) (show 35 + 13 * (b / 3) ≠ _ by omega) (Or.inl (show 35 + 13 * (b / 3) ≠ 0 by omega))
        · exact hX _ _ (show 40 + 13 * (b / 5) ≠ _ by omega) (show 40 + 13 * (b / 5) ≠ _ by omega) (show 40 + 13 * (b / 5) ≠ _ by omega) (show 40 + 13 * (b / 5) ≠ _ by omega) (show 40 + 13 * (b / 5) ≠ _ by omega) (show 40 + 13 * (b / 5) ≠ _ by omega) (show 40 + 13 * (b / 5) ≠ _ by omega) (Or.inl (show 40 + 13 * (b / 5) ≠ 0 by omega))
        · exact hX _ _ (show 33 + 13 * b ≠ _ by omega) (show 33 + 13 * b ≠ _ by omega) (show 33 + 13 * b ≠ _ by omega) (show 33 + 13 * b ≠ _ by omega) (show 33 + 13 * b ≠ _ by omega) (show 33 + 13 * b ≠ _ by omega) (show 33 + 13 * b ≠ _ by omega) (Or.inl (show 33 + 13 * b ≠ 0 by omega))
        · exact hX _ _ (show 42 + 13 * (b / 32) + b % 4 ≠ _ by omega) (show 42 + 13 * (b / 32) + b % 4 ≠ _ by omega) (show 42 + 13 * (b / 32) + b % 4 ≠ _ by omega) (show 42 + 13 * (b / 32) + b % 4 ≠ _ by omega) (show 42 + 13 * (b / 32) + b % 4 ≠ _ by omega) (show 42 + 13 * (b / 32) + b % 4 ≠ _ by omega) (show 42 + 13 * (b / 32) + b % 4 ≠ _ by omega) (Or.inl (show 42 + 13 * (b / 32) + b % 4 ≠ 0 by omega))
        all_goals
          have hlo := ps_lo (by omega) hd
          exact hX _ _ (by omega) (by omega) (by omega) (by omega) (by omega) (by omega) (by omega) (Or.inl hlo.2)
      by_cases h01 : a = 0 ∧ b = 1
      · obtain ⟨rfl, rfl⟩ := h01
        rw [y01]
        exact hx05
      · have h01' : a ≠ 0 ∨ b ≠ 1 := by omega
        by_cases hdn : dm n a b
        · exact old a b hdn h01'
        · rcases dm_cases hd with ⟨rfl, q⟩ | ⟨rfl, q⟩ | ⟨rfl, q⟩ | ⟨rfl, q⟩ | ⟨rfl, q⟩ | ⟨rfl, q⟩ | ⟨rfl, q⟩ | ⟨rfl, q⟩ | ⟨rfl, q⟩ | ⟨rfl, q⟩ | ⟨rfl, q⟩ | ⟨rfl, q⟩ | ⟨rfl, q⟩ | ⟨rfl, q⟩ | ⟨rfl, q⟩
          · exact absurd q hdn
          · have e : b = n := by have : ¬ b < n := hdn; omega
            subst e
            show Mx' (33 + 13 * b) 0 = _
            rw [hXn _ _ (by omega), b2, y1]
          · have e : b = n := by have : ¬ b < n := hdn; omega
            subst e
            show Mx' (33 + 13 * b) 1 = _
            rw [hXn _ _ (by omega), b3, y2]
          · have e : b = n := by have : ¬ b < n := hdn; omega
            subst e
            show Mx' (33 + 13 * b) 2 = _
            rw [hXn _ _ (by omega), b4, y3]
          · have e : b = n := by have : ¬ b < n := hdn; omega
            subst e
            show Mx' (34 + 13 * b) 1 = _
            rw [hXn _ _ (by omega), z4]
            have := b6.1
            rw [show 33 + 13 * b + 1 = 34 + 13 * b by omega] at this
            exact this
          · have hb3 : ¬ b < 3 * n := hdn
            show Mx' (35 + 13 * (b / 3)) (b % 3) = _
            have e : b / 3 = n := by omega
            rw [e, hXn _ _ (by omega), b8 _ _ (by omega) (by omega) (by omega), hyo 5 b (by omega) (by omega)]
            have := s5 (b % 3) (by omega)
            rw [show 33 + 13 * n + 2 = 35 + 13 * n by omega, show 3 * n + b % 3 = b by omega] at this
            exact this
          · have hb3 : ¬ b < 5 * n := hdn
            show Mx' (40 + 13 * (b / 5)) (b % 5) = _
            have e : b / 5 = n := by omega
            rw [e, hXn _ _ (by omega), hyo 6 b (by omega) (by omega)]
            have h1 := b7 (b % 5) (by omega)
            have h2 := g6 (b % 5) (by omega)
            rw [show 33 + 13 * n + 7 = 40 + 13 * n by omega] at h1
            rw [show 5 * n + b % 5 = b by omega] at h2
            rw [h1, h2]
          · have e : b = n := by have : ¬ b < n := hdn; omega
            subst e
            show Mx' (33 + 13 * b) 12 = _
            rw [hXn _ _ (by omega), b5, hyo 8 b (by omega) (by omega), g8]
          · have hb3 : ¬ b < 32 * n := hdn
            show Mx' (42 + 13 * (b / 32) + b % 4) (b % 32 / 4) = _
            have e : b / 32 = n := by omega
            rw [e, hX _ _ (by omega) (by omega) (by omega) (by omega) (by omega) (by omega) (by omega) (by omega), hyo 9 b (by omega) (by omega)]
            have := s9 (b % 32 / 4) (b % 4) (by omega) (by omega)
            rw [show 33 + 13 * n + (9 + b % 4) = 42 + 13 * n + b % 4 by omega, show 32 * n + 4 * (b % 32 / 4) + b % 4 = b by omega] at this
            exact this
          all_goals exact absurd q hdn
    · intro t f ht hf he
      rw [hyo 6 _ (by omega) (by omega)] at he
      by_cases e : t = n
      · subst e
        rw [g6 f hf] at he
        exact absurd he (by decide)
      · rw [hX _ _ (by omega) (by omega) (by omega) (by omega) (by omega) (by omega) (by omega) (by omega), hyo 7 _ (by omega) (by omega)]
        exact r2.2.1 t f (by omega) hf he
    · intro t ht
      by_cases e : t = n
      · subst e
        refine ⟨a2', a3', ?_⟩
        rw [hfn]
        exact b6.fr (fun j => hXn _ j (by omega)) (fun j => hXn _ j (by omega))
      · obtain ⟨q1, q2, q3⟩ := r2.2.2 t (by omega)
        obtain ⟨p1, p2, p3⟩ := rw' t (by omega)
        rw [p1, p2, p3]
        exact ⟨q1.fr (fun j => hX _ j (by omega) (by omega) (by omega) (by omega) (by omega) (by omega) (by omega) (by omega)) (fun j => hX _ j (by omega) (by omega) (by omega) (by omega) (by omega) (by omega) (by omega) (by omega)), q2.fr (fun j => hX _ j (by omega) (by omega) (by omega) (by omega) (by omega) (by omega) (by omega) (by omega)) (fun j => hX _ j (by omega) (by omega) (by omega) (by omega) (by omega) (by omega) (by omega) (by omega)), q3.fr (fun j => hX _ j (by omega) (by omega) (by omega) (by omega) (by omega) (by omega) (by omega) (by omega)) (fun j => hX _ j (by omega) (by omega) (by omega) (by omega) (by omega) (by omega) (by omega) (by omega))⟩
    · intro t h1 h2
      obtain ⟨q1, q2⟩ := r7 t (by omega) h2
      exact ⟨fun j hj => by rw [hX _ _ (by omega) (by omega) (by omega) (by omega) (by omega) (by omega) (by omega) (by omega), hyo 5 _ (by omega) (by omega)]; exact q1 j hj, fun i r hi hr => by rw [hX _ _ (by omega) (by omega) (by omega) (by omega) (by omega) (by omega) (by omega) (by omega), hyo 9 _ (by omega) (by omega)]; exact q2 i r hi hr⟩
    · intro t h1 h2
      obtain ⟨q1, q2, q3⟩ := r8 t (by omega) h2
      exact ⟨by rw [hyo 4 _ (by omega) (by omega)]; exact q1, by rw [hyo 8 _ (by omega) (by omega)]; exact q2, fun g hg => by rw [hyo 6 _ (by omega) (by omega)]; exact q3 g hg⟩
    · intro t h1
      obtain ⟨q1, q2⟩ := r9 t h1
      refine ⟨fun s hs q => ?_, fun q => ?_⟩
      · have hq : n ≤ t ∨ My 3 t ≠ 0 := by
          by_cases e : n ≤ t
          · exact Or.inl e
          · rw [hyo 3 t (by omega) (by omega)] at q
            exact Or.inr (q.resolve_left (by omega))
        obtain ⟨p1, p2⟩ := q1 s hs hq
        exact ⟨by rw [hyo 10 _ (by omega) (by omega)]; exact p1, fun g hg => by rw [hyo 11 _ (by omega) (by omega)]; exact p2 g hg⟩
      · obtain ⟨p1, p2, p3⟩ := q2 (by omega)
        exact ⟨fun s hs => by rw [hyo 12 _ (by omega) (by omega)]; exact p1 s hs, by rw [hyo 10 _ (by omega) (by omega)]; exact p2, fun g hg => by rw [hyo 11 _ (by omega) (by omega)]; exact p3 g hg⟩
    · exact (r12.fr (fun k j _ _ => hX k j (by omega) (by omega) (by omega) (by omega) (by omega) (by omega) (by omega) (by omega)) (fun s hs => hX _ _ (by omega) (by omega) (by omega) (by omega) (by omega) (by omega) (by omega) (by omega)) (fun a b _ _ => hyo a b (by omega) (by omega))).n (by omega)
theorem op_type (h : Rel c n u Mx My) (x1 x2 x3 : Int32) (hb : isb x3 = true) : OpR c (f_X6_type x1 x2 x3 Mx) (f_X7_type x1 x2 x3 My) := by
  have hn := h.n16
  have h0 := h.y0 0
  unfold f_X6_type f_X6_type_0 f_X7_type f_X7_type_0
  simp only [stF, Option.bind_some]
  generalize mset My 0 0 0 = My1 at *
  rcases in_cases x1 0 2 with ⟨hr, ix, iy⟩ | ⟨-, ix, iy⟩
  · obtain ⟨k, hk, rfl⟩ := nI_range (n := 3) rfl rfl (by omega) hr
    rw [ix, iy]
    simp only [Option.bind_some]
    rw [if_neg (show ¬ (1 : Int32) = 0 by decide), if_neg (show ¬ (1 : Int32) = 0 by decide)]
    by_cases hp : x2 = -1
    · rw [if_pos hp, if_pos hp]
      unfold f_X6_type_32 f_X7_type_46
      have := type_new h0 hk (x2 := x2) (Or.inl hp) hb
      by_cases e3 : x3 = 0
      · rw [if_pos e3, if_pos e3]; exact this
      · rw [if_neg e3, if_neg e3, if_pos hp, if_pos hp]; exact this
    · rw [if_neg hp, if_neg hp]
      by_cases hk0 : k = 0
      · subst hk0
        rw [if_pos (show nI 0 = 0 from rfl), if_pos (show nI 0 = 0 from rfl)]
        unfold f_X6_isClass f_X6_isClass_0
        rcases ty_cases (n := n) hn x2 with ⟨q, hq, rfl, tx, ty⟩ | ⟨-, tx, ty⟩
        · rw [tx Mx h0.e5, ty My1 h0.e1]
          simp only [Option.bind_some]
          rw [if_neg (show ¬ (1 : Int32) = 0 by decide), if_neg (show ¬ (1 : Int32) = 0 by decide), ixQ_n (show q < 16 by omega), ldI_n My1 1 (show q < 16 by omega)]
          simp only [Option.bind_some]
          have ek : Mx (33 + 13 * q) 0 = My1 1 q := h0.1.at 1 q hq rfl
          rw [ek]
          by_cases hc : My1 1 q = 0
          · rw [if_pos hc, if_pos hc, rtZ1]
            simp only [Option.bind_some]
            rw [if_neg (show ¬ (1 : Int32) = 0 by decide)]
            unfold f_X6_type_32 f_X7_type_46
            have := type_new h0 hk (x2 := nI q) (Or.inr ⟨q, hq, rfl, rfl⟩) hb
            by_cases e3 : x3 = 0
            · rw [if_pos e3, if_pos e3]; exact this
            · rw [if_neg e3, if_neg e3, if_neg hp, if_neg hp, ixQ_n (show q < 16 by omega), ldI_n My1 3 (show q < 16 by omega)]
              simp only [Option.bind_some]
              have es : Mx (33 + 13 * q) 2 = My1 3 q := h0.1.at 3 q hq rfl
              rw [es]
              by_cases h3 : My1 3 q = 0
              · rw [if_pos h3, if_pos h3]
                exact OpR.same h0 _ rfl rfl
              · rw [if_neg h3, if_neg h3]; exact this
          · rw [if_neg hc, if_neg hc, rtZ0]
            exact OpR.same h0 _ rfl rfl
        · rw [tx Mx h0.e5, ty My1 h0.e1]
          exact OpR.same h0 _ rfl rfl
      · rw [if_neg (show ¬ nI k = 0 from nI_ne (b := 0) (by omega) (by omega) hk0), if_neg (show ¬ nI k = 0 from nI_ne (b := 0) (by omega) (by omega) hk0)]
        exact OpR.same h0 _ rfl rfl
  · rw [ix, iy]
    exact OpR.same h0 _ rfl rfl
end OPC
