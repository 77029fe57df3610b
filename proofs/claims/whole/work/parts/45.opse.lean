/-! use: as it opens and closes -/
theorem rhome_loop {n : Nat} {Mx My : Mem} (hS : Sim n Mx My) (hT : St n Mx My) {f k : Nat} (hf : f < 5) {L : List Nat} (hL : RowIs Mx k L) (hlt : ∀ x ∈ L, x < n) : ∀ (m j : Nat), j ≤ L.length → L.length - j < m → f_X6_homeOf_13 m (nI f) k (nI j) Mx = some (enc ((L.drop j).find? (hasF My f)), Mx) := by
  intro m
  have hn := hT.1.1
  obtain ⟨r1, r2, r3, r4, r5, r6⟩ := hL
  induction m with
  | zero => intro j _ h; omega
  | succ m ih =>
    intro j hj hm
    show f_X6_homeOf_13b (f_X6_homeOf_13 m) (nI f) k (nI j) Mx = _
    unfold f_X6_homeOf_13b
    rw [r1]
    by_cases hlj : L.length ≤ j
    · rw [if_pos (nI_le hlj (by omega)), List.drop_eq_nil_of_le hlj]
      rfl
    · rw [if_neg (nI_ge (by omega) (by omega))]
      have hx : L[j]? = some (L[j]'(by omega)) := List.getElem?_eq_getElem (by omega)
      generalize hxe : L[j]'(by omega) = x at hx
      have hxm : x ∈ L := List.mem_of_getElem? hx
      have hxn := hlt x hxm
      rw [ldI_n Mx _ (show j < 16 by omega), r3 j x hx]
      simp only [Option.bind_some]
      rw [ixQ_n (show x < 16 by omega)]
      simp only [Option.bind_some]
      rw [ldI_n Mx _ hf]
      simp only [Option.bind_some]
      have hp := fs_ps (n := n) hxn hf
      rw [hS.at _ _ hp.1 hp.2]
      have hdrop : L.drop j = x :: L.drop (j + 1) := by
        rw [List.drop_eq_getElem_cons (by omega), hxe]
      rw [hdrop, List.find?_cons]
      by_cases h0 : My 6 (5 * x + f) = 0
      · rw [if_pos h0]
        have : hasF My f x = false := by simp [hasF, h0]
        rw [this]
        have := ih (j + 1) (by omega) (by omega)
        rw [← nI_1 j] at this
        exact this
      · rw [if_neg h0]
        have : hasF My f x = true := by simp [hasF, h0]
        rw [this]
        rfl
theorem rhome {n : Nat} {Mx My : Mem} (hS : Sim n Mx My) (hT : St n Mx My) {t f : Nat} (ht : t < n) (hf : f < 5) : f_X6_homeOf (nI t) (nI f) Mx = some (enc (home My t f), Mx) := by
  have hn := hT.1.1
  unfold f_X6_homeOf f_X6_homeOf_0
  rw [ixQ_n (show t < 16 by omega)]
  simp only [Option.bind_some]
  obtain ⟨hr, -, -⟩ := hT.2.2 t ht
  have hlen := hr.2.1
  have := rhome_loop hS hT hf hr (fun x hx => by
    have := lk_lt (chY_lt hT.1) t ht x (ddp_mem.mp hx)
    omega) FU 0 (Nat.zero_le _) (by have := FU_ge; omega)
  rw [List.drop_zero, find_ddp] at this
  exact this

theorem mset_comm (M : Mem) {a b c d : Nat} (v w : Int32) (h : a ≠ c ∨ b ≠ d) : mset (mset M a b v) c d w = mset (mset M c d w) a b v := by
  funext x y
  simp only [mset_if]
  by_cases h1 : x = c ∧ y = d
  · rw [if_pos h1, if_neg (by omega), if_pos h1]
  · rw [if_neg h1, if_neg h1]
theorem mset_id (M : Mem) (a b : Nat) : mset M a b (M a b) = M := by
  funext x y
  rw [mset_if]
  by_cases h1 : x = a ∧ y = b
  · rw [if_pos h1, h1.1, h1.2]
  · rw [if_neg h1]
section OPE
variable {c n u s : Nat} {Mx My : Mem}
theorem Rel.s29 (h : Rel c n u Mx My) {My' : Mem} (hm : sm29 My My') : Rel c n u Mx My' :=
  h.of (h.1.sm (fun a b hd => by
    have := (dm_b h.n16 hd).1
    exact hm a b (by omega) (by omega))) (fun _ _ _ => rfl) (fun _ _ => rfl) (fun a b q => hm a b (by omega) (by omega))
theorem cl_eq (h : Rel c n u Mx My) {t : Nat} (ht : t < n) : f_X6_isClass (nI t) Mx = some (if My 1 t = 0 then 1 else 0, Mx) := by
  have hn := h.n16
  unfold f_X6_isClass f_X6_isClass_0
  rcases ty_cases (n := n) hn (nI t) with ⟨q, hq, e, tx, ty⟩ | ⟨hne, -⟩
  · rw [tx Mx h.e5]
    simp only [Option.bind_some]
    have ek : Mx (33 + 13 * t) 0 = My 1 t := h.1.at 1 t ht rfl
    rw [if_neg (show ¬ (1 : Int32) = 0 by decide), ixQ_n (show t < 16 by omega)]
    simp only [Option.bind_some]
    rw [ek]
    by_cases hk : My 1 t = 0
    · rw [if_pos hk, if_pos hk]; rfl
    · rw [if_neg hk, if_neg hk]; rfl
  · exact absurd rfl (hne t ht)
/-- the memories as a USE opens -/
def opX (s u : Nat) (Mx : Mem) : Mem := mset (mset (mset (mset (mset (mset Mx 0 8 (nI s)) 0 9 0) 0 10 0) 7 u (Mx (13 + 5 * s) 3)) 6 3 (nI (u + 1))) (13 + 5 * s) 3 (nI u)
def opY (u : Nat) (My : Mem) : Mem := mset (mset My 0 16 (nI (u + 1))) 0 25 0
theorem opX_ne {a b : Nat} (h0 : ¬ (a = 0 ∧ (b = 8 ∨ b = 9 ∨ b = 10))) (h7 : ¬ (a = 7 ∧ b = u)) (h6 : ¬ (a = 6 ∧ b = 3)) (h3 : ¬ (a = 13 + 5 * s ∧ b = 3)) : opX s u Mx a b = Mx a b := by
  unfold opX
  rw [mset_get_ne _ _ (by omega), mset_get_ne _ _ (by omega), mset_get_ne _ _ (by omega), mset_get_ne _ _ (by omega), mset_get_ne _ _ (by omega), mset_get_ne _ _ (by omega)]
theorem opX_8 : opX s u Mx 0 8 = nI s := by
  unfold opX
  rw [mset_get_ne _ _ (by omega), mset_get_ne _ _ (by omega), mset_get_ne _ _ (by omega), mset_get_ne _ _ (by omega), mset_get_ne _ _ (by omega), mset_get]
theorem opX_7 : opX s u Mx 7 u = Mx (13 + 5 * s) 3 := by
  unfold opX
  rw [mset_get_ne _ _ (by omega), mset_get_ne _ _ (by omega), mset_get]
theorem opX_3 : opX s u Mx (13 + 5 * s) 3 = nI u := by
  unfold opX
  rw [mset_get]
theorem opX_63 : opX s u Mx 6 3 = nI (u + 1) := by
  unfold opX
  rw [mset_get_ne _ _ (by omega), mset_get]
theorem opY_ne {a b : Nat} (h : ¬ (a = 0 ∧ (b = 16 ∨ b = 25))) : opY u My a b = My a b := by
  unfold opY
  rw [mset_get_ne _ _ (by omega), mset_get_ne _ _ (by omega)]
theorem opY_16 : opY u My 0 16 = nI (u + 1) := by
  unfold opY
  rw [mset_get_ne _ _ (by omega), mset_get]
theorem rel_open (h : Rel c n u Mx My) (hs : s < 4) : RW n s (opX s u Mx) (opY u My) := by
  have hn := h.n16
  obtain ⟨r1, r2, r3, r4, r5, r6, r7, r8, r9, r10, r11, r12⟩ := h
  refine ⟨?_, r2.se (fun k j hk => opX_ne (by omega) (by omega) (by omega) (by omega)) ⟨fun a b x y => opY_ne (by omega), opY_ne (by omega)⟩, hs, opX_8, by rw [opY_ne (by omega)]; exact r3, by rw [opY_ne (by omega)]; exact r4, fun b hb => by rw [opY_ne (by omega)]; exact r5 b hb, fun t ht => ?_⟩
  · unfold opX opY
    rw [mset_comm My _ _ (by omega)]
    refine Sim.setX hn ?_ ?_ _
    · refine Sim.set hn ?_ (a := 0) (b := 16) (by simp [dm]) rfl _
      refine Sim.setX hn ?_ ?_ _
      · refine Sim.setX hn ?_ (Or.inr (by decide)) _
        refine Sim.set hn ?_ (a := 0) (b := 25) (by simp [dm]) rfl _
        exact r1.setX hn (Or.inr (by decide)) _
      · exact Or.inl (by simp [qs, dm])
    · rcases (show s = 0 ∨ s = 1 ∨ s = 2 ∨ s = 3 by omega) with rfl | rfl | rfl | rfl <;> exact Or.inr (by decide)
  · rw [opY_ne (by omega)]
    have : pl (opY u My) s t = pl My s t := by
      unfold pl
      rw [opY_ne (by omega)]
    rw [this]
    exact r6 _ (pl_lt hs (by omega))
theorem ps_use {a b : Nat} (hn : n ≤ 16) (hd : dm n a b) (hq : ¬ (a = 0 ∧ b = 15)) : ¬ ((ps a b).1 = 0 ∧ ((ps a b).2 = 7 ∨ (ps a b).2 = 10)) ∧ (ps a b).1 ≠ 8 ∧ (ps a b).1 ≠ 9 := by
  have hi := ps_inv hn hd
  refine ⟨fun q => ?_, fun q => ?_, fun q => ?_⟩
  · obtain ⟨q1, q2 | q2⟩ := q
    · rw [q1, q2] at hi
      have e : ((0, 15) : Nat × Nat) = (a, b) := hi
      cases e
      exact hq ⟨rfl, rfl⟩
    · rw [q1, q2] at hi
      have e : ((0, 25) : Nat × Nat) = (a, b) := hi
      cases e
      exact absurd q2 (by decide)
  · rw [q] at hi
    have e : ((99, 0) : Nat × Nat) = (a, b) := by rw [← hi]; simp [qs]
    cases e
    exact hd
  · rw [q] at hi
    have e : ((99, 0) : Nat × Nat) = (a, b) := by rw [← hi]; simp [qs]
    cases e
    exact hd
theorem use_close (h : Rel c n u Mx My) (hs : s < 4) (hc : c < 512) {Mx' My' Xf Yf : Mem} (hA : Act n s 0 (opX s u Mx) (opY u My) Mx' My') {r mk : Int32} {L : Nat} (hL : My 16 s = nI L) (hL6 : L < 600) (hmk : mk = -1 ∨ ∃ t, t < n ∧ mk = nI t) (x1 : Xf 0 7 = r) (x2 : Xf 8 u = mk) (x3 : Xf 9 u = Mx' 0 9) (x4 : ∀ a b, ¬ (a = 0 ∧ (b = 7 ∨ b = 10)) → ¬ (b = u ∧ (a = 8 ∨ a = 9)) → Xf a b = Mx' a b) (y1 : Yf 0 15 = r) (y2 : Yf 17 (600 * s + L) = mk) (y3 : Yf 18 (600 * s + L) = My' 0 25) (y4 : Yf 16 s = nI (L + 1)) (y5 : ∀ a b, ¬ (a = 0 ∧ (b = 15 ∨ b = 39)) → ¬ (b = 600 * s + L ∧ (a = 17 ∨ a = 18)) → ¬ (a = 16 ∧ b = s) → Yf a b = My' a b) : Rel (c + 1) n (u + 1) Xf Yf := by
  have hn := h.n16
  obtain ⟨r1, r2, r3, r4, r5, r6, r7, r8, r9, r10, r11, r12⟩ := h
  obtain ⟨hR, hx, hy, -, hz⟩ := hA
  have ex : ∀ a b, ¬ DX a b → ¬ (a = 0 ∧ (b = 7 ∨ b = 8 ∨ b = 9 ∨ b = 10)) → ¬ (a = 7 ∧ b = u) → ¬ (a = 6 ∧ b = 3) → ¬ (a = 13 + 5 * s ∧ b = 3) → ¬ (b = u ∧ (a = 8 ∨ a = 9)) → Xf a b = Mx a b := fun a b d1 d2 d3 d4 d5 d6 => by
    rw [x4 a b (by omega) d6, hx a b d1, opX_ne (by omega) d3 d4 d5]
  have ey : ∀ a b, ((1 ≤ a ∧ a ≤ 9) ∨ (16 ≤ a ∧ a ≤ 18)) → ¬ (b = 600 * s + L ∧ (a = 17 ∨ a = 18)) → ¬ (a = 16 ∧ b = s) → Yf a b = My a b := fun a b d1 d2 d3 => by
    rw [y5 a b (by omega) d2 d3, hy.st (by omega), opY_ne (by omega)]
  have epl : ∀ t, pl (opY u My) s t = pl My s t := fun t => by
    unfold pl
    rw [opY_ne (by omega)]
  have epl' : ∀ t, pl My' s t = pl My s t := fun t => by rw [pl_frm hy s t, epl]
  have z10 : ∀ b, (∀ t, t < n → b ≠ pl My s t) → Yf 10 b = My 10 b ∧ ∀ f, f < 5 → Yf 11 (5 * b + f) = My 11 (5 * b + f) := fun b hb => by
    obtain ⟨q1, q2⟩ := hz.1 b (fun t ht => by rw [epl]; exact hb t ht)
    refine ⟨by rw [y5 10 b (by omega) (by omega) (by omega), q1, opY_ne (by omega)], fun f hf => by rw [y5 11 _ (by omega) (by omega) (by omega), q2 f hf, opY_ne (by omega)]⟩
  have z12 : ∀ b, (∀ t, t < n → b ≠ 16 * s + t) → Yf 12 b = My 12 b := fun b hb => by
    rw [y5 12 b (by omega) (by omega) (by omega), hz.2 b hb, opY_ne (by omega)]
  refine ⟨fun a b hd => ?_, hR.2.1.se (fun k j hk => x4 k j (by omega) (by omega)) ⟨fun a b d1 d2 => y5 a b (by omega) (by omega) (by omega), y5 0 1 (by omega) (by omega) (by omega)⟩, by rw [y5 0 17 (by omega) (by omega) (by omega)]; exact hR.2.2.2.2.1, by rw [y5 0 19 (by omega) (by omega) (by omega)]; exact hR.2.2.2.2.2.1, fun b hb => by rw [y5 22 b (by omega) (by omega) (by omega)]; exact hR.2.2.2.2.2.2.1 b hb, fun b hb => ?_, ?_, ?_, ?_, ?_, by omega, ?_⟩
  · by_cases hq : a = 0 ∧ b = 15
    · obtain ⟨rfl, rfl⟩ := hq
      show Xf 0 7 = _
      rw [x1, y1]
    · obtain ⟨p1, p2, p3⟩ := ps_use hn hd hq
      have ha := (dm_b hn hd).1
      have hb : ¬ (a = 0 ∧ b = 39) := fun q => by
        obtain ⟨rfl, rfl⟩ := q
        exact ndm (n := n) (a := 0) (b := 39) (by omega) hd
      rw [x4 _ _ p1 (by omega), hR.1 a b hd, y5 a b (by omega) (by omega) (by omega)]
  · by_cases hq : ∃ t, t < n ∧ b = pl My s t
    · obtain ⟨t, ht, e⟩ := hq
      obtain ⟨v, v1, v2⟩ := hR.2.2.2.2.2.2.2 t ht
      rw [epl'] at v2
      exact ⟨v, v1, by rw [y5 10 b (by omega) (by omega) (by omega), e]; exact v2⟩
    · rw [(z10 b (fun t ht e => hq ⟨t, ht, e⟩)).1]
      exact r6 b hb
  · intro t h1 h2
    obtain ⟨a, b⟩ := r7 t h1 h2
    exact ⟨fun j hj => by rw [ex _ _ (by unfold DX; omega) (by omega) (by omega) (by omega) (by omega) (by omega), ey 5 _ (by omega) (by omega) (by omega)]; exact a j hj, fun i r hi hr => by rw [ex _ _ (by unfold DX; omega) (by omega) (by omega) (by omega) (by omega) (by omega), ey 9 _ (by omega) (by omega) (by omega)]; exact b i r hi hr⟩
  · intro t h1 h2
    obtain ⟨a, b, d⟩ := r8 t h1 h2
    exact ⟨by rw [ey 4 t (by omega) (by omega) (by omega)]; exact a, by rw [ey 8 t (by omega) (by omega) (by omega)]; exact b, fun f hf => by rw [ey 6 _ (by omega) (by omega) (by omega)]; exact d f hf⟩
  · intro t h1
    obtain ⟨a, b⟩ := r9 t h1
    refine ⟨fun s' hs' q => ?_, fun q => ?_⟩
    · rw [ey 3 t (by omega) (by omega) (by omega)] at q
      obtain ⟨a1, a2⟩ := a s' hs' q
      obtain ⟨q1, q2⟩ := z10 (16 * s' + t) (fun t' ht' e => by
        unfold pl at e
        split at e
        · rename_i e3
          have : t = t' := by omega
          subst this
          rcases q with q | q
          · omega
          · exact q e3
        · omega)
      exact ⟨by rw [q1]; exact a1, fun f hf => by rw [q2 f hf]; exact a2 f hf⟩
    · obtain ⟨b1, b2, b3⟩ := b q
      obtain ⟨q1, q2⟩ := z10 (64 + t) (fun t' ht' e => by
        unfold pl at e
        split at e <;> omega)
      exact ⟨fun s' hs' => by rw [z12 _ (fun t' ht' e => by omega)]; exact b1 s' hs', by rw [q1]; exact b2, fun f hf => by rw [q2 f hf]; exact b3 f hf⟩
  · rw [y5 0 16 (by omega) (by omega) (by omega), hy.st (by omega)]
    exact opY_16
  · intro s' hs'
    obtain ⟨l, l1, l2, l3⟩ := r12 s' hs'
    have hll := chn.len l u _ l1
    have hlt := chn.lt l u _ l1
    by_cases e : s' = s
    · subst e
      have hLl : l.length = L := (nI_eq (by omega) (by omega)).mp (l2.symm.trans hL)
      refine ⟨u :: l, ⟨?_, by omega, ?_⟩, by rw [y4, List.length_cons, hLl], fun j k hj => ?_⟩
      · rw [x4 _ _ (by omega) (by omega), hx _ _ (by unfold DX; omega), opX_3]
      · rw [x4 7 u (by omega) (by omega), hx 7 u (by unfold DX; omega), opX_7]
        exact l1.fr l u _ (fun k hk => ex 7 k (by unfold DX; omega) (by omega) (by omega) (by omega) (by omega) (by omega))
      · rw [List.reverse_cons] at hj
        by_cases hjl : j < l.reverse.length
        · rw [List.getElem?_append_left hjl] at hj
          have hku : k < u := hlt k (List.mem_reverse.mp (List.mem_of_getElem? hj))
          rw [List.length_reverse] at hjl
          rw [ey 17 _ (by omega) (by omega) (by omega), ey 18 _ (by omega) (by omega) (by omega), ex 8 k (by unfold DX; omega) (by omega) (by omega) (by omega) (by omega) (by omega), ex 9 k (by unfold DX; omega) (by omega) (by omega) (by omega) (by omega) (by omega)]
          exact l3 j k hj
        · rw [List.getElem?_append_right (by omega), List.length_reverse] at hj
          rw [List.length_reverse] at hjl
          have hj0 : j - l.length = 0 := by
            rcases Nat.eq_zero_or_pos (j - l.length) with q | q
            · exact q
            · rw [List.getElem?_eq_none (by simp; omega)] at hj
              cases hj
          rw [hj0] at hj
          have hk : u = k := by simpa using hj
          have hjL : j = L := by omega
          subst hk hjL
          rw [y2, y3, x2, x3]
          refine ⟨rfl, ?_, hmk⟩
          exact (hR.1.at 0 25 (by simp [dm]) rfl).symm
    · refine ⟨l, ?_, by rw [ey 16 s' (by omega) (by omega) (by omega)]; exact l2, fun j k hj => ?_⟩
      · rw [x4 _ _ (by omega) (by omega), hx _ _ (by unfold DX; omega), opX_ne (by omega) (by omega) (by omega) (by omega)]
        exact (l1.fr l u _ (fun k hk => ex 7 k (by unfold DX; omega) (by omega) (by omega) (by omega) (by omega) (by omega))).up (Nat.le_succ u) l _
      · have hku : k < u := hlt k (List.mem_reverse.mp (List.mem_of_getElem? hj))
        have hjl : j < l.reverse.length := (List.getElem?_eq_some_iff.mp hj).1
        rw [List.length_reverse] at hjl
        rw [ey 17 _ (by omega) (by omega) (by omega), ey 18 _ (by omega) (by omega) (by omega), ex 8 k (by unfold DX; omega) (by omega) (by omega) (by omega) (by omega) (by omega), ex 9 k (by unfold DX; omega) (by omega) (by omega) (by omega) (by omega) (by omega)]
        exact l3 j k hj
theorem xclose {M : Mem} (h6 : M 6 3 = nI (u + 1)) (hu : u < 512) (mk : Int32) : f_X6_use_113 (nI u) mk M = some (if M 0 7 = 0 then M 0 10 else 0, mset (mset M 8 u mk) 9 u (M 0 9)) := by
  unfold f_X6_use_113 f_X5_close f_X5_close_0
  rcases in_cases (nI u) 0 (M 6 3 - 1) with ⟨-, q, -⟩ | ⟨q, -⟩
  · rw [q]
    simp only [Option.bind_some]
    rw [if_neg (show ¬ (1 : Int32) = 0 by decide), stI_n M 8 mk hu]
    simp only [Option.bind_some]
    rw [stI_n _ 9 _ hu]
    simp only [Option.bind_some]
    rw [mset_get_ne _ _ (by omega), mset_get_ne _ _ (by omega), mset_get_ne _ _ (by omega), mset_get_ne _ _ (by omega)]
    by_cases h7 : M 0 7 = 0
    · rw [if_pos h7, if_pos h7]
    · rw [if_neg h7, if_neg h7]
  · refine absurd ⟨nI_pos' (by omega), ?_⟩ q
    rw [h6, nI_pred2 (by omega)]
    exact nI_le (by omega) (by omega)
theorem yclose {M : Mem} {L : Nat} (hs : s < 4) (hL : M 16 s = nI L) (hL6 : L < 600) (x8 mk : Int32) : f_X7_use_323 (nI s) x8 17 (nI (600 * s + L)) mk M = some (if M 0 15 = 0 then x8 else 0, mset (mset (mset M 17 (600 * s + L) mk) 18 (600 * s + L) (M 0 25)) 16 s (nI (L + 1))) := by
  unfold f_X7_use_323
  rw [stI_n M 17 mk (show 600 * s + L < 2400 by omega)]
  simp only [Option.bind_some]
  rw [ldI_n _ 16 hs, mset_get_ne _ _ (by omega), hL]
  simp only [Option.bind_some]
  rw [x600, stI_n _ 18 _ (show 600 * s + L < 2400 by omega)]
  simp only [Option.bind_some]
  rw [ldI_n _ 16 hs, mset_get_ne _ _ (by omega), mset_get_ne _ _ (by omega), hL]
  simp only [Option.bind_some]
  rw [stI_n _ 16 _ hs, nI_1]
  simp only [Option.bind_some]
  rw [mset_get_ne M _ (show 0 ≠ 17 ∨ 25 ≠ 600 * s + L by omega), mset_get_ne _ _ (by omega), mset_get_ne _ _ (by omega), mset_get_ne _ _ (by omega)]
  by_cases h7 : M 0 15 = 0
  · rw [if_pos h7, if_pos h7]
  · rw [if_neg h7, if_neg h7]
theorem use_end (h : Rel c n u Mx My) (hs : s < 4) (hc : c < 512) {t : Nat} (ht : t < n) {Mx' My' Xp Yp : Mem} (hA : Act n s 0 (opX s u Mx) (opY u My) Mx' My') {r x8 x3 : Int32} (hX : ∀ a b, ¬ (a = 0 ∧ b = 10) → Xp a b = Mx' a b) (h15 : Yp 0 15 = r) (hY : ∀ a b, ¬ (a = 0 ∧ (b = 15 ∨ b = 39)) → Yp a b = My' a b) (ha : r = 0 → Xp 0 10 = x8) : OpR c (if x3 = 0 then (if (mset Xp 0 7 r) 0 7 = 0 then f_X6_use_95 (nI t) (nI u) 1 (mset Xp 0 7 r) else f_X6_use_94 (nI t) (nI u) (mset Xp 0 7 r)) else f_X6_use_94 (nI t) (nI u) (mset Xp 0 7 r)) (f_X7_use_291 (nI s) (nI t) x3 x8 Yp) := by
  have hu : u ≤ c := h.2.2.2.2.2.2.2.2.2.2.1
  obtain ⟨l, l1, l2, -⟩ := h.2.2.2.2.2.2.2.2.2.2.2 s hs
  have hll := chn.len l u _ l1
  have hxx := hA.2.1
  have hyy := hA.2.2.1
  have e16 : Yp 16 s = nI l.length := by
    rw [hY 16 s (by omega), hyy.st (by omega), opY_ne (by omega)]
    exact l2
  have e63 : mset Xp 0 7 r 6 3 = nI (u + 1) := by
    rw [mset_get_ne _ _ (by omega), hX 6 3 (by omega), hxx 6 3 (by unfold DX; omega)]
    exact opX_63
  have fin : ∀ mk : Int32, (mk = -1 ∨ ∃ t, t < n ∧ mk = nI t) → OpR c (f_X6_use_113 (nI u) mk (mset Xp 0 7 r)) (f_X7_use_323 (nI s) x8 17 (nI (600 * s + l.length)) mk Yp) := fun mk hmk => by
    refine ⟨if r = 0 then x8 else 0, _, _, n, u + 1, ?_, ?_, use_close h hs hc hA (r := r) (mk := mk) (L := l.length) l2 (by omega) hmk (Xf := mset (mset (mset Xp 0 7 r) 8 u mk) 9 u (mset Xp 0 7 r 0 9)) (Yf := mset (mset (mset Yp 17 (600 * s + l.length) mk) 18 (600 * s + l.length) (Yp 0 25)) 16 s (nI (l.length + 1))) ?_ ?_ ?_ ?_ ?_ ?_ ?_ ?_ ?_⟩
    · rw [xclose e63 (by omega) mk, mset_get, mset_get_ne _ _ (show 0 ≠ 0 ∨ 10 ≠ 7 by omega)]
      by_cases hr : r = 0
      · rw [if_pos hr, if_pos hr, ha hr]
      · rw [if_neg hr, if_neg hr]
    · rw [yclose hs e16 (by omega) x8 mk, h15]
    · rw [mset_get_ne _ _ (by omega), mset_get_ne _ _ (by omega), mset_get]
    · rw [mset_get_ne _ _ (by omega), mset_get]
    · rw [mset_get, mset_get_ne _ _ (by omega), hX 0 9 (by omega)]
    · intro a b q1 q2
      rw [mset_get_ne _ _ (by omega), mset_get_ne _ _ (by omega), mset_get_ne _ _ (by omega), hX a b (by omega)]
    · rw [mset_get_ne _ _ (by omega), mset_get_ne _ _ (by omega), mset_get_ne _ _ (by omega), h15]
    · rw [mset_get_ne _ _ (by omega), mset_get_ne _ _ (by omega), mset_get]
    · rw [mset_get_ne _ _ (by omega), mset_get, hY 0 25 (by omega)]
    · rw [mset_get]
    · intro a b q1 q2 q3
      rw [mset_get_ne _ _ (by omega), mset_get_ne _ _ (by omega), mset_get_ne _ _ (by omega), hY a b (by omega)]
  unfold f_X7_use_291
  rw [ldI_n Yp 16 hs, e16]
  simp only [Option.bind_some]
  rw [x600, h15, mset_get]
  unfold f_X6_use_94 f_X6_use_95 f_X7_use_322
  rw [if_neg (show ¬ (1 : Int32) = 0 by decide), if_pos (show (0 : Int32) = 0 from rfl)]
  by_cases h3 : x3 = 0
  · rw [if_pos h3, if_pos h3]
    by_cases hr : r = 0
    · rw [if_pos hr, if_pos hr]
      exact fin _ (Or.inr ⟨t, ht, rfl⟩)
    · rw [if_neg hr, if_neg hr]
      exact fin _ (Or.inl rfl)
  · rw [if_neg h3, if_neg h3]
    exact fin _ (Or.inl rfl)
end OPE
