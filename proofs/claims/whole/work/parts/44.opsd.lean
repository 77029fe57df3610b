/-! face -/
theorem ps_mod {n a b : Nat} (h : dm n a b) : (ps a b).1 < 33 ∨ (((ps a b).1 - 33) % 13 ≠ 3 ∧ ((ps a b).1 - 33) % 13 ≠ 4 ∧ ((ps a b).1 - 33) % 13 ≠ 5 ∧ ((ps a b).1 - 33) % 13 ≠ 6 ∧ 33 ≤ (ps a b).1) := by
  by_cases ha : 10 ≤ a
  · exact Or.inl (ps_lo ha h).1
  · rcases dm_cases h with ⟨rfl, q⟩ | ⟨rfl, q⟩ | ⟨rfl, q⟩ | ⟨rfl, q⟩ | ⟨rfl, q⟩ | ⟨rfl, q⟩ | ⟨rfl, q⟩ | ⟨rfl, q⟩ | ⟨rfl, q⟩ | ⟨rfl, q⟩ | ⟨rfl, q⟩ | ⟨rfl, q⟩ | ⟨rfl, q⟩ | ⟨rfl, q⟩ | ⟨rfl, q⟩
    all_goals try omega
    · rcases q with rfl | rfl | rfl | rfl | rfl | rfl | rfl <;> exact Or.inl (by decide)
    · show 33 + 13 * b < 33 ∨ ((33 + 13 * b - 33) % 13 ≠ 3 ∧ (33 + 13 * b - 33) % 13 ≠ 4 ∧ (33 + 13 * b - 33) % 13 ≠ 5 ∧ (33 + 13 * b - 33) % 13 ≠ 6 ∧ 33 ≤ 33 + 13 * b)
      omega
    · show 33 + 13 * b < 33 ∨ ((33 + 13 * b - 33) % 13 ≠ 3 ∧ (33 + 13 * b - 33) % 13 ≠ 4 ∧ (33 + 13 * b - 33) % 13 ≠ 5 ∧ (33 + 13 * b - 33) % 13 ≠ 6 ∧ 33 ≤ 33 + 13 * b)
      omega
    · show 33 + 13 * b < 33 ∨ ((33 + 13 * b - 33) % 13 ≠ 3 ∧ (33 + 13 * b - 33) % 13 ≠ 4 ∧ (33 + 13 * b - 33) % 13 ≠ 5 ∧ (33 + 13 * b - 33) % 13 ≠ 6 ∧ 33 ≤ 33 + 13 * b)
      omega
    · show 34 + 13 * b < 33 ∨ ((34 + 13 * b - 33) % 13 ≠ 3 ∧ (34 + 13 * b - 33) % 13 ≠ 4 ∧ (34 + 13 * b - 33) % 13 ≠ 5 ∧ (34 + 13 * b - 33) % 13 ≠ 6 ∧ 33 ≤ 34 + 13 * b)
      omega
    · show 35 + 13 * (b / 3) < 33 ∨ ((35 + 13 * (b / 3) - 33) % 13 ≠ 3 ∧ (35 + 13 * (b / 3) - 33) % 13 ≠ 4 ∧ (35 + 13 * (b / 3) - 33) % 13 ≠ 5 ∧ (35 + 13 * (b / 3) - 33) % 13 ≠ 6 ∧ 33 ≤ 35 + 13 * (b / 3))
      omega
    · show 40 + 13 * (b / 5) < 33 ∨ ((40 + 13 * (b / 5) - 33) % 13 ≠ 3 ∧ (40 + 13 * (b / 5) - 33) % 13 ≠ 4 ∧ (40 + 13 * (b / 5) - 33) % 13 ≠ 5 ∧ (40 + 13 * (b / 5) - 33) % 13 ≠ 6 ∧ 33 ≤ 40 + 13 * (b / 5))
      omega
    · show 33 + 13 * b < 33 ∨ ((33 + 13 * b - 33) % 13 ≠ 3 ∧ (33 + 13 * b - 33) % 13 ≠ 4 ∧ (33 + 13 * b - 33) % 13 ≠ 5 ∧ (33 + 13 * b - 33) % 13 ≠ 6 ∧ 33 ≤ 33 + 13 * b)
      omega
    · show 42 + 13 * (b / 32) + b % 4 < 33 ∨ ((42 + 13 * (b / 32) + b % 4 - 33) % 13 ≠ 3 ∧ (42 + 13 * (b / 32) + b % 4 - 33) % 13 ≠ 4 ∧ (42 + 13 * (b / 32) + b % 4 - 33) % 13 ≠ 5 ∧ (42 + 13 * (b / 32) + b % 4 - 33) % 13 ≠ 6 ∧ 33 ≤ 42 + 13 * (b / 32) + b % 4)
      omega
theorem addOnce_new {M : Mem} {k : Nat} {L : List Nat} (h : RowIs M k L) {x : Nat} (hx : x < 16) (hm : x ∉ L) : ∃ B, f_X2_addOnce k (nI x) M = some (0, mset (mset (mset M (k + 1) L.length (nI x)) k 1 (nI (L.length + 1))) k 2 B) ∧ RowIs (mset (mset (mset M (k + 1) L.length (nI x)) k 1 (nI (L.length + 1))) k 2 B) k (L ++ [x]) := by
  obtain ⟨M', q1, q2, -⟩ := addOnce_eq h hx
  rw [addU_out hm] at q2
  have hl : L.length + 1 ≤ 16 := by
    have := nodup_len 16 (x :: L) (List.nodup_cons.mpr ⟨hm, h.2.2.2.1⟩) (fun y hy => (List.mem_cons.mp hy).elim (fun e => e ▸ hx) (h.2.2.2.2.1 y))
    simpa using this
  have q3 := q1
  unfold f_X2_addOnce f_X2_addOnce_0 at q3
  rw [has_eq h hx] at q3
  simp only [Option.bind_some] at q3
  rw [if_neg hm, if_pos rfl, h.1, if_neg (show ¬ (16 : Int32) ≤ nI L.length from nI_ge (a := L.length) (b := 16) (by omega) (by omega)), stI_n M _ (nI x) (show L.length < 16 by omega)] at q3
  simp only [Option.bind_some, stF] at q3
  rw [mset_get_ne _ _ (show k ≠ k + 1 ∨ 1 ≠ L.length by omega), h.1, nI_1] at q3
  have q4 := congrArg (fun o : Option (Int32 × Mem) => o.map Prod.snd) q3
  simp only [Option.map_some, Option.some.injEq] at q4
  exact ⟨_, by rw [q1, ← q4], by rw [q4]; exact q2⟩
section OPD
variable {c n u : Nat} {Mx My : Mem}
theorem yface_loop {My : Mem} (hw : WF n My) {t f : Nat} (ht : t < n) (hf : f < 16) : ∀ (m j : Nat) (hs : Int32), (hs = 0 ∨ hs = 1) → j ≤ (faY My t).length → (faY My t).length - j < m → f_X7_face_65 m (nI t) (nI f) hs (nI j) My = (if hs = 0 ∧ f ∉ (faY My t).drop j then (if nI (faY My t).length = (3 : Int32) then some (-104, My) else some (nI ((faY My t).length + 1), mset (mset My 5 (3 * t + (faY My t).length) (nI f)) 4 t (nI ((faY My t).length + 1)))) else some (-103, My)) := by
  have hn := hw.1
  obtain ⟨c, c1, c2, c3, c4⟩ := faY_len hw ht
  rw [c3]
  intro m
  induction m with
  | zero => intro j hs _ _ h; omega
  | succ m ih =>
    intro j hs hh hj hm
    show f_X7_face_65b (f_X7_face_65 m) (nI t) (nI f) hs (nI j) My = _
    unfold f_X7_face_65b
    rw [ldI_n My 4 (show t < 16 by omega), c2]
    simp only [Option.bind_some]
    by_cases hcj : c ≤ j
    · rw [if_pos (nI_le hcj (by omega)), List.drop_eq_nil_of_le (by omega)]
      rcases hh with rfl | rfl
      · rw [if_pos (show (0 : Int32) = 0 from rfl), if_pos (show (0 : Int32) = 0 ∧ f ∉ ([] : List Nat) from ⟨rfl, by simp⟩)]
        by_cases h3 : nI c = 3
        · rw [if_pos h3, if_pos h3]
        · have hc3 : c < 3 := by
            rcases Nat.lt_or_ge c 3 with q | q
            · exact q
            · exact absurd (show nI c = 3 by rw [show c = 3 by omega]; rfl) h3
          rw [if_neg h3, if_neg h3, x3, stI_n My 5 (nI f) (show 3 * t + c < 48 by omega)]
          simp only [Option.bind_some]
          rw [ldI_n _ 4 (show t < 16 by omega), mset_get_ne _ _ (by omega), c2]
          simp only [Option.bind_some]
          rw [stI_n _ 4 _ (show t < 16 by omega), nI_1]
          simp only [Option.bind_some]
          rw [ldI_n _ 4 (show t < 16 by omega), mset_get]
          rfl
      · rw [if_neg (show ¬ (1 : Int32) = 0 by decide), if_neg (fun q => absurd q.1 (by decide))]
    · rw [if_neg (nI_ge (by omega) (by omega))]
      obtain ⟨g, g1, g2, g3⟩ := c4 j (by omega)
      have hdrop : (faY My t).drop j = g :: (faY My t).drop (j + 1) := by
        rw [List.drop_eq_getElem_cons (by omega)]
        congr 1
        have := List.getElem?_eq_getElem (l := faY My t) (i := j) (by omega)
        rw [g3] at this
        exact (Option.some.inj this).symm
      have yes : f_X7_face_95 (f_X7_face_65 m) (nI t) (nI f) (nI j) My = some (-103, My) := by
        unfold f_X7_face_95 f_X7_face_100
        have := ih (j + 1) 1 (Or.inr rfl) (by omega) (by omega)
        rw [← nI_1 j] at this
        rw [this, if_neg (fun q => absurd q.1 (by decide))]
      rcases hh with rfl | rfl
      · rw [if_pos (show (0 : Int32) = 0 from rfl), x3, ldI_n My 5 (show 3 * t + j < 48 by omega), g2]
        simp only [Option.bind_some]
        by_cases e : nI g = nI f
        · have eg : g = f := (nI_eq (by omega) (by omega)).mp e
          rw [if_pos e, yes, if_neg (fun q => q.2 (by rw [hdrop, eg]; exact List.mem_cons_self))]
        · rw [if_neg e]
          unfold f_X7_face_100
          have := ih (j + 1) 0 (Or.inl rfl) (by omega) (by omega)
          rw [← nI_1 j] at this
          rw [this, hdrop]
          have hfg : f ≠ g := fun q => e (by rw [q])
          by_cases hm2 : f ∈ (faY My t).drop (j + 1)
          · rw [if_neg (fun q => q.2 hm2), if_neg (fun q => q.2 (List.mem_cons_of_mem _ hm2))]
          · rw [if_pos (show (0 : Int32) = 0 ∧ f ∉ (faY My t).drop (j + 1) from ⟨rfl, hm2⟩), if_pos (show True ∧ f ∉ g :: (faY My t).drop (j + 1) from ⟨trivial, fun q => (List.mem_cons.mp q).elim hfg hm2⟩)]
      · rw [if_neg (show ¬ (1 : Int32) = 0 by decide), yes, if_neg (fun q => absurd q.1 (by decide))]
theorem xface_loop {t : Nat} {My' : Mem} (hw : WF n My') : ∀ (m v : Nat) (Mx : Mem), t ≤ v → v ≤ n → n - v < m → rowsB v Mx My' → (∀ w, w < n → RowIs Mx (33 + 13 * w + 1) (faY My' w) ∧ Mx (33 + 13 * w) 0 = My' 1 w ∧ Mx (33 + 13 * w) 1 = My' 2 w) → Mx 0 5 = nI n → ∃ Mx', f_X6_face_101 m (33 + 13 * t) (nI v) Mx = some (Mx (33 + 13 * t + 1) 1, Mx') ∧ rowsB n Mx' My' ∧ ∀ a b, (a < 33 ∨ ((a - 33) % 13 ≠ 3 ∧ (a - 33) % 13 ≠ 4 ∧ (a - 33) % 13 ≠ 5 ∧ (a - 33) % 13 ≠ 6)) → Mx' a b = Mx a b := by
  have hn := hw.1
  intro m
  induction m with
  | zero => intro v Mx _ _ h; omega
  | succ m ih =>
    intro v Mx htv hv hm hB hF h5
    show ∃ Mx', f_X6_face_101b (f_X6_face_101 m) (33 + 13 * t) (nI v) Mx = _ ∧ _
    unfold f_X6_face_101b
    rw [h5]
    by_cases hvn : n ≤ v
    · rw [if_pos (nI_le hvn (by omega))]
      exact ⟨Mx, rfl, fun w hw => hB w (by omega), fun _ _ _ => rfl⟩
    · rw [if_neg (nI_ge (by omega) (by omega))]
      obtain ⟨f1, f2, f3⟩ := hF v (by omega)
      obtain ⟨Ma, a1, a2, a3, a4⟩ := arr_eq (t := v) (Mx := Mx) hw (by omega) hB f1 (fun w hw => (hF w (by omega)).2.1) f3
      rw [bindE a1]
      dsimp only
      have hfr : ∀ a b, (a < 33 ∨ ((a - 33) % 13 ≠ 3 ∧ (a - 33) % 13 ≠ 4 ∧ (a - 33) % 13 ≠ 5 ∧ (a - 33) % 13 ≠ 6)) → Ma a b = Mx a b := fun a b q => a4 a b (by omega) (by omega) (by omega) (by omega)
      obtain ⟨Mx', q1, q2, q3⟩ := ih (v + 1) Ma (by omega) (by omega) (by omega) (fun w hw => by
        by_cases e : w = v
        · subst e
          exact ⟨a2, a3⟩
        · exact hB.fr (Nat.le_refl v) a4 w (by omega)) (fun w hw => by
        obtain ⟨p1, p2, p3⟩ := hF w hw
        exact ⟨p1.fr (fun j => hfr _ j (by omega)) (fun j => hfr _ j (by omega)), by rw [hfr _ _ (by omega)]; exact p2, by rw [hfr _ _ (by omega)]; exact p3⟩) (by rw [hfr 0 5 (by omega)]; exact h5)
      refine ⟨Mx', ?_, q2, fun a b q => by rw [q3 a b q]; exact hfr a b q⟩
      rw [hfr _ 1 (by omega)] at q1
      rw [nI_1]
      exact q1
theorem face_new (h : Rel c n u Mx My) {t f : Nat} (ht : t < n) (hft : f < t) (hm : f ∉ faY My t) (hc : (faY My t).length < 3) : ∃ r Mx', ((f_X2_addOnce (33 + 13 * t + 1) (nI f) Mx).bind fun (_, M6) => f_X6_face_101 FU (33 + 13 * t) (nI t) M6) = some (r, Mx') ∧ r = nI ((faY My t).length + 1) ∧ Rel (c + 1) n u Mx' (mset (mset My 5 (3 * t + (faY My t).length) (nI f)) 4 t (nI ((faY My t).length + 1))) := by
  have hn := h.n16
  obtain ⟨r1, r2, r3, r4, r5, r6, r7, r8, r9, r10, r11, r12⟩ := h
  obtain ⟨l, c1, c2, c3, c4⟩ := faY_len r2.1 ht
  obtain ⟨B, q1, q2⟩ := addOnce_new (r2.2.2 t ht).2.2 (show f < 16 by omega) hm
  rw [bindE q1]
  dsimp only
  rw [c3] at hc q1 q2 ⊢
  have hS6 : Sim n (mset (mset (mset Mx (33 + 13 * t + 1 + 1) l (nI f)) (33 + 13 * t + 1) 1 (nI (l + 1))) (33 + 13 * t + 1) 2 B) (mset (mset My 5 (3 * t + l) (nI f)) 4 t (nI (l + 1))) := by
    have p5 := fc_ps (n := n) (t := t) (j := l) ht hc
    have s1 := r1.set hn p5.1 p5.2 (nI f)
    have s2 := s1.set hn (a := 4) (b := t) (k := 33 + 13 * t + 1) (j := 1) ht (by show (34 + 13 * t, 1) = (33 + 13 * t + 1, 1); rw [show 34 + 13 * t = 33 + 13 * t + 1 by omega]) (nI (l + 1))
    refine s2.setX hn (Or.inr ?_) B
    have hq : qs (33 + 13 * t + 1) 2 = (4, t) := by
      unfold qs
      rw [if_neg (by omega), if_neg (by omega), if_neg (by omega), if_neg (by omega), if_neg (by omega), if_neg (by omega), if_neg (by omega), if_neg (by omega), if_neg (by omega)]
      have : (33 + 13 * t + 1 - 33) % 13 = 1 := by omega
      rw [this]
      show (4, (33 + 13 * t + 1 - 33) / 13) = (4, t)
      rw [show (33 + 13 * t + 1 - 33) / 13 = t by omega]
    rw [hq]
    intro e
    have := congrArg Prod.snd e
    have q : (1 : Nat) = 2 := this
    omega
  have hX6 : ∀ a b, a ≠ 33 + 13 * t + 1 → a ≠ 33 + 13 * t + 2 → mset (mset (mset Mx (33 + 13 * t + 1 + 1) l (nI f)) (33 + 13 * t + 1) 1 (nI (l + 1))) (33 + 13 * t + 1) 2 B a b = Mx a b := fun a b x y => by
    rw [mset_get_ne _ _ (by omega), mset_get_ne _ _ (by omega), mset_get_ne _ _ (by omega)]
  generalize mset (mset (mset Mx (33 + 13 * t + 1 + 1) l (nI f)) (33 + 13 * t + 1) 1 (nI (l + 1))) (33 + 13 * t + 1) 2 B = M6 at *
  have hyo : ∀ a b, (a ≠ 5 ∨ b ≠ 3 * t + l) → (a ≠ 4 ∨ b ≠ t) → mset (mset My 5 (3 * t + l) (nI f)) 4 t (nI (l + 1)) a b = My a b := fun a b x y => by
    rw [mset_get_ne _ _ y, mset_get_ne _ _ x]
  have y4 : mset (mset My 5 (3 * t + l) (nI f)) 4 t (nI (l + 1)) 4 t = nI (l + 1) := mset_get _ _ _ _
  have y5 : mset (mset My 5 (3 * t + l) (nI f)) 4 t (nI (l + 1)) 5 (3 * t + l) = nI f := by rw [mset_get_ne _ _ (by omega), mset_get]
  generalize mset (mset My 5 (3 * t + l) (nI f)) 4 t (nI (l + 1)) = My' at *
  obtain ⟨w1, w2, w3, w4, w5, w6, w7, w8⟩ := r2.1
  have hw' : WF n My' := by
    refine ⟨w1, by rw [hyo 0 1 (by omega) (by omega)]; exact w2, fun x hx => by rw [hyo 1 x (by omega) (by omega)]; exact w3 x hx, fun x hx => by rw [hyo 2 x (by omega) (by omega), hyo 1 x (by omega) (by omega)]; exact w4 x hx, fun x hx => by rw [hyo 3 x (by omega) (by omega)]; exact w5 x hx, fun x hx => ?_, fun q hq => by rw [hyo 6 q (by omega) (by omega)]; exact w7 q hq, fun x hx => ?_⟩
    · by_cases e : x = t
      · subst e
        refine ⟨l + 1, by omega, y4, fun j hj => ?_⟩
        by_cases ej : j = l
        · subst ej
          exact ⟨f, hft, y5⟩
        · obtain ⟨g, g1, g2, -⟩ := c4 j (by omega)
          exact ⟨g, g1, by rw [hyo 5 _ (by omega) (by omega)]; exact g2⟩
      · obtain ⟨d, d1, d2, d3⟩ := w6 x hx
        exact ⟨d, d1, by rw [hyo 4 x (by omega) (Or.inr e)]; exact d2, fun j hj => by rw [hyo 5 _ (by omega) (by omega)]; exact d3 j hj⟩
    · obtain ⟨d, d1, d2, d3⟩ := w8 x hx
      refine ⟨d, d1, by rw [hyo 8 x (by omega) (by omega)]; exact d2, fun i hi => ?_⟩
      rw [hyo 9 _ (by omega) (by omega), hyo 9 _ (by omega) (by omega), hyo 9 _ (by omega) (by omega), hyo 9 _ (by omega) (by omega)]
      exact d3 i hi
  have h4n : ∀ x, x < n → (My 4 x).toNatClampNeg ≤ 3 := fun x hx => by
    obtain ⟨d, d1, d2, -⟩ := w6 x hx
    rw [d2, nI_clamp (by omega)]
    exact d1
  have fal : ∀ x, x < n → x ≠ t → faY My' x = faY My x := fun x hx e => faY_at (hyo 4 x (by omega) (Or.inr e)) (fun j hj => hyo 5 _ (by have := h4n x hx; omega) (by omega))
  have fat : faY My' t = faY My t ++ [f] := by
    unfold faY
    rw [y4, c2, nI_clamp (show l + 1 < 2 ^ 31 by omega), nI_clamp (show l < 2 ^ 31 by omega), List.range_succ, List.map_append]
    congr 1
    · apply List.map_congr_left
      intro j hj
      have := List.mem_range.mp hj
      rw [hyo 5 _ (by omega) (by omega)]
    · simp only [List.map_cons, List.map_nil]
      rw [y5, nI_clamp (by omega)]
  have low : ∀ v, v < t → lk (chY My') v = lk (chY My) v ∧ ff (faY My') (owY My') v = ff (faY My) (owY My) v ∧ faY My' v = faY My v := fun v hv => rows_at r2.1 (by omega) (fun x hx => hyo 1 x (by omega) (by omega)) (fun x hx => hyo 2 x (by omega) (by omega)) (fun x hx => hyo 4 x (by omega) (by omega)) (fun x j hx hj => hyo 5 _ (by have := h4n x (by omega); omega) (by omega))
  obtain ⟨Mx', z1, z2, z3⟩ := xface_loop hw' FU t M6 (Nat.le_refl t) (by omega) (by have := FU_ge; omega) (fun v hv => by
    obtain ⟨p1, p2, -⟩ := r2.2.2 v (by omega)
    obtain ⟨e1, e2, -⟩ := low v hv
    rw [e1, e2]
    exact ⟨p1.fr (fun j => hX6 _ j (by omega) (by omega)) (fun j => hX6 _ j (by omega) (by omega)), p2.fr (fun j => hX6 _ j (by omega) (by omega)) (fun j => hX6 _ j (by omega) (by omega))⟩) (fun w hwn => by
    refine ⟨?_, ?_, ?_⟩
    · by_cases e : w = t
      · subst e
        rw [fat]
        exact q2
      · rw [fal w hwn e]
        exact (r2.2.2 w hwn).2.2.fr (fun j => hX6 _ j (by omega) (by omega)) (fun j => hX6 _ j (by omega) (by omega))
    · rw [hX6 _ _ (by omega) (by omega), hyo 1 w (by omega) (by omega)]
      exact r1.at 1 w hwn rfl
    · rw [hX6 _ _ (by omega) (by omega), hyo 2 w (by omega) (by omega)]
      exact r1.at 2 w hwn rfl) (by rw [hX6 _ _ (by omega) (by omega)]; exact (r1.at 0 1 (by simp [dm]) rfl).trans w2)
  refine ⟨_, Mx', z1, ?_, ?_⟩
  · have := q2.1
    rw [List.length_append, c3] at this
    exact this
  · have hX : ∀ a b, (a < 33 ∨ ((a - 33) % 13 ≠ 3 ∧ (a - 33) % 13 ≠ 4 ∧ (a - 33) % 13 ≠ 5 ∧ (a - 33) % 13 ≠ 6)) → a ≠ 33 + 13 * t + 1 → a ≠ 33 + 13 * t + 2 → Mx' a b = Mx a b := fun a b x y z => by rw [z3 a b x, hX6 a b y z]
    refine ⟨fun a b hd => ?_, ⟨hw', ?_, ?_⟩, by rw [hyo 0 17 (by omega) (by omega)]; exact r3, by rw [hyo 0 19 (by omega) (by omega)]; exact r4, fun b hb => by rw [hyo 22 b (by omega) (by omega)]; exact r5 b hb, fun b hb => by rw [hyo 10 b (by omega) (by omega)]; exact r6 b hb, ?_, ?_, ?_, by rw [hyo 0 16 (by omega) (by omega)]; exact r10, by omega, r12.fr (fun k j _ _ => hX k j (by omega) (by omega) (by omega)) (fun s hs => hX _ _ (by omega) (by omega) (by omega)) (fun a b _ _ => hyo a b (by omega) (by omega))⟩
    · rw [z3 _ _ (by have := ps_mod hd; omega)]
      exact hS6 a b hd
    · intro t' f' ht' hf' he
      rw [hyo 6 _ (by omega) (by omega)] at he
      rw [hX _ _ (by omega) (by omega) (by omega), hyo 7 _ (by omega) (by omega)]
      exact r2.2.1 t' f' ht' hf' he
    · intro w hwn
      obtain ⟨p1, p2⟩ := z2 w hwn
      refine ⟨p1, p2, ?_⟩
      by_cases e : w = t
      · subst e
        rw [fat]
        exact q2.fr (fun j => z3 _ j (by omega)) (fun j => z3 _ j (by omega))
      · rw [fal w hwn e]
        exact (r2.2.2 w hwn).2.2.fr (fun j => hX _ j (by omega) (by omega) (by omega)) (fun j => hX _ j (by omega) (by omega) (by omega))
    · intro t' h1 h2
      obtain ⟨a1, a2⟩ := r7 t' h1 h2
      exact ⟨fun j hj => by rw [hX _ _ (by omega) (by omega) (by omega), hyo 5 _ (by omega) (by omega)]; exact a1 j hj, fun i r hi hr => by rw [hX _ _ (by omega) (by omega) (by omega), hyo 9 _ (by omega) (by omega)]; exact a2 i r hi hr⟩
    · intro t' h1 h2
      obtain ⟨a1, a2, a3⟩ := r8 t' h1 h2
      exact ⟨by rw [hyo 4 _ (by omega) (by omega)]; exact a1, by rw [hyo 8 _ (by omega) (by omega)]; exact a2, fun g hg => by rw [hyo 6 _ (by omega) (by omega)]; exact a3 g hg⟩
    · intro t' h1
      obtain ⟨a1, a2⟩ := r9 t' h1
      refine ⟨fun s hs q => ?_, fun q => ?_⟩
      · rw [hyo 3 _ (by omega) (by omega)] at q
        obtain ⟨b1, b2⟩ := a1 s hs q
        exact ⟨by rw [hyo 10 _ (by omega) (by omega)]; exact b1, fun g hg => by rw [hyo 11 _ (by omega) (by omega)]; exact b2 g hg⟩
      · obtain ⟨b1, b2, b3⟩ := a2 q
        exact ⟨fun s hs => by rw [hyo 12 _ (by omega) (by omega)]; exact b1 s hs, by rw [hyo 10 _ (by omega) (by omega)]; exact b2, fun g hg => by rw [hyo 11 _ (by omega) (by omega)]; exact b3 g hg⟩
theorem op_face (h : Rel c n u Mx My) (x1 x2 : Int32) : OpR c (f_X6_face x1 x2 Mx) (f_X7_face x1 x2 My) := by
  have hn := h.n16
  have h0 := h.y0 0
  unfold f_X6_face f_X6_face_0 f_X7_face f_X7_face_0
  simp only [stF, Option.bind_some]
  generalize mset My 0 0 0 = My1 at *
  rcases ty_cases (n := n) hn x1 with ⟨t, ht, rfl, tx, ty⟩ | ⟨-, tx, ty⟩
  · rw [tx Mx h0.e5, ty My1 h0.e1]
    simp only [Option.bind_some]
    rw [if_neg (show ¬ (1 : Int32) = 0 by decide), if_neg (show ¬ (1 : Int32) = 0 by decide)]
    rcases ty_cases (n := n) hn x2 with ⟨f, hf, rfl, fx, fy⟩ | ⟨-, fx, fy⟩
    · rw [fx Mx h0.e5, fy My1 h0.e1]
      simp only [Option.bind_some]
      rw [if_neg (show ¬ (1 : Int32) = 0 by decide), if_neg (show ¬ (1 : Int32) = 0 by decide), ixQ_n (show f < 16 by omega), ldI_n My1 1 (show f < 16 by omega)]
      simp only [Option.bind_some]
      have ek : Mx (33 + 13 * f) 0 = My1 1 f := h0.1.at 1 f hf rfl
      rw [ek]
      by_cases htf : t ≤ f
      · rw [if_pos (nI_le htf (by omega)), if_neg (nI_nlt htf (by omega))]
        by_cases hk : My1 1 f = 0
        · rw [if_pos hk]; exact OpR.same h0 _ rfl rfl
        · rw [if_neg hk]; exact OpR.same h0 _ rfl rfl
      · have hft : f < t := by omega
        rw [if_neg (nI_ge hft (by omega)), if_pos (nI_lt hft (by omega))]
        by_cases hk : My1 1 f = 0
        · rw [if_pos hk, if_pos hk]; exact OpR.same h0 _ rfl rfl
        · rw [if_neg hk, if_neg hk, ixQ_n (show t < 16 by omega), ldI_n My1 3 (show t < 16 by omega)]
          simp only [Option.bind_some]
          have es : Mx (33 + 13 * t) 2 = My1 3 t := h0.1.at 3 t ht rfl
          have esf : Mx (33 + 13 * f) 2 = My1 3 f := h0.1.at 3 f hf rfl
          rw [es]
          have hyl : ∀ hs : Int32, (hs = 0 ∨ hs = 1) → f_X7_face_61 (nI t) (nI f) hs My1 = _ := fun hs hh => yface_loop h0.2.1.1 ht (show f < 16 by omega) FU 0 hs hh (Nat.zero_le _) (by have := FU_ge; have := faY_3 h0.2.1.1 t ht; omega)
          have main : OpR c (f_X6_face_62 (nI t) (nI f) (33 + 13 * t) Mx) (f_X7_face_60 (nI t) (nI f) My1) := by
            unfold f_X7_face_60
            rw [hyl 0 (Or.inl rfl), List.drop_zero]
            unfold f_X6_face_62
            have hrow := (h0.2.1.2.2 t ht).2.2
            rw [has_eq hrow (show f < 16 by omega)]
            simp only [Option.bind_some]
            by_cases hm : f ∈ faY My1 t
            · rw [if_pos hm, if_neg (show ¬ (1 : Int32) = 0 by decide), if_neg (fun q => q.2 hm)]
              exact OpR.same h0 _ rfl rfl
            · rw [if_neg hm, if_pos (show (0 : Int32) = 0 from rfl), if_pos (show True ∧ f ∉ faY My1 t from ⟨trivial, hm⟩), hrow.1]
              have h3 := faY_3 h0.2.1.1 t ht
              by_cases hc : (faY My1 t).length < 3
              · rw [if_pos (show nI (faY My1 t).length < (3 : Int32) from nI_lt (b := 3) hc (by omega)), if_neg (show ¬ nI (faY My1 t).length = (3 : Int32) from nI_ne (b := 3) (by omega) (by omega) (by omega))]
                obtain ⟨r, Mx', q1, q2, q3⟩ := face_new h0 ht hft hm hc
                exact ⟨r, Mx', _, n, u, q1, by rw [q2], q3⟩
              · have he : (faY My1 t).length = 3 := by omega
                rw [he, if_neg (show ¬ nI 3 < (3 : Int32) by decide), if_pos (show nI 3 = (3 : Int32) from rfl)]
                exact OpR.same h0 _ rfl rfl
          by_cases hs0 : My1 3 t = 0
          · rw [if_pos hs0, if_pos hs0]
            exact main
          · rw [if_neg hs0, if_neg hs0, ldI_n My1 3 (show f < 16 by omega)]
            simp only [Option.bind_some]
            rw [esf]
            by_cases hsf : My1 3 f = 0
            · rw [if_pos hsf, if_pos hsf, hyl 1 (Or.inr rfl), if_neg (fun q => absurd q.1 (by decide))]
              exact OpR.same h0 _ rfl rfl
            · rw [if_neg hsf, if_neg hsf]
              exact main
    · rw [fx Mx h0.e5, fy My1 h0.e1]
      exact OpR.same h0 _ rfl rfl
  · rw [tx Mx h0.e5, ty My1 h0.e1]
    exact OpR.same h0 _ rfl rfl
end OPD
