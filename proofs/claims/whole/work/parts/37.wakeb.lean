/-! The LINES of a START, at both sides -/
theorem lp_goes {s d : Nat} {M M' : Mem} {v : Int32} (h26 : M 0 26 = nI (d + 1)) (hd : d < 16) (h34 : M 0 34 = 0) (h : f_X7_goes (nI s) M = some (v, M')) (k : Nat) : f_X7_wakes_11 (k + 1) (nI s) M = f_X7_wakes_11 k (nI s) M' := by
  show f_X7_wakes_11b (f_X7_wakes_11 k) (nI s) M = _
  unfold f_X7_wakes_11b
  rw [h26, if_neg (nI_nle (by omega) (by omega)), if_pos h34, h]
  simp only [Option.bind_some]
theorem lp_heard {s d : Nat} {M M' : Mem} {v : Int32} (h26 : M 0 26 = nI (d + 1)) (hd : d < 16) (h34 : M 0 34 = 1) (h : f_X7_heard (nI s) M = some (v, M')) (k : Nat) : f_X7_wakes_11 (k + 1) (nI s) M = f_X7_wakes_11 k (nI s) M' := by
  show f_X7_wakes_11b (f_X7_wakes_11 k) (nI s) M = _
  unfold f_X7_wakes_11b
  rw [h26, if_neg (nI_nle (by omega) (by omega)), if_neg (by rw [h34]; decide), h]
  simp only [Option.bind_some]
def WIH (n s A : Nat) (wk : Int32 → Int32 → Mem → Option (Int32 × Mem)) : Prop := ∀ (Mx My : Mem) (u e : Nat), RW n s Mx My → My 0 26 = nI e → u < n → slp n s My ≤ A → e + slp n s My ≤ 16 → ∃ r Mx' My1 My' c, wk (nI u) (nI e) Mx = some (r, Mx') ∧ f_X7_ask (nI s) (nI u) My = some (0, My1) ∧ (∀ k, f_X7_wakes_11 (k + c) (nI s) My1 = f_X7_wakes_11 k (nI s) My') ∧ Act n s e Mx My Mx' My' ∧ My' 0 26 = nI e ∧ My' 0 34 = 1 ∧ My' 0 35 = r ∧ c + 60 * slp n s My' ≤ 60 * slp n s My
/-- the reference hears: the first rows of it -/
theorem heard_eq {n s d : Nat} {Mx My : Mem} (h : RW n s Mx My) {t : Nat} {L : List Nat} (hF : FI d t L My) {q : Nat} (hq : q < 509) (h22 : My 22 d = nI q) : f_X7_heard (nI s) My = (if My 21 d = 1 then f_X7_heard_64 (nI s) (nI d) (nI t) (nI q) (My 9 (q + 1)) (My 0 35) (mset My 0 34 0) else if My 21 d = 2 then f_X7_heard_64 (nI s) (nI d) (nI t) (nI q) (My 9 (q + 1)) (My 0 35) (mset My 0 34 0) else if My 21 d = 3 then (if My 0 35 = 0 then ((f_X7_plain (nI s) (nI t) (My 9 (q + 1)) (mset My 0 34 0)).bind fun (v21, M19) => (ldI M19 23 16 (nI d)).bind fun v22 => (ldI M19 9 512 (nI q + (3 : Int32))).bind fun v24 => (f_X7_plain (nI s) v22 v24 M19).bind fun (v28, M26) => (f_X7_write (nI s) (nI t) (My 9 (q + 1)) (v21 + v28) M26).bind fun (v31, M29) => f_X7_heard_195 (nI s) v31 M29) else f_X7_heard_195 (nI s) (My 0 35) (mset My 0 34 0)) else f_X7_heard_195 (nI s) (My 0 35) (mset My 0 34 0)) := by
  obtain ⟨hd, h26, h19, -⟩ := hF
  unfold f_X7_heard f_X7_heard_0
  rw [h26, nI_pred, ldI_n My 19 hd, h19]
  simp only [Option.bind_some]
  rw [ldI_n My 22 hd, h22]
  simp only [Option.bind_some]
  rw [nI_1, ldI_n My 9 (show q + 1 < 512 by omega)]
  simp only [Option.bind_some]
  rw [stFZ_n My 0 34 (show isb 0 = true from rfl)]
  simp only [Option.bind_some]
  rw [ldI_n _ 21 hd, mset_get_ne _ _ (show 21 ≠ 0 ∨ d ≠ 34 by omega)]
  simp only [Option.bind_some]
/-- what a step at place p of a START leaves: v = 0 goes on, else it has ended by v -/
def Res (n s d t : Nat) (L : List Nat) (p : Nat) (Mx My : Mem) (v : Int32) (Mx1 : Mem) : Prop := ∃ My1 c, Act n s d Mx My Mx1 My1 ∧ FI d t L My1 ∧ My1 20 d = nI (p + 1) ∧ (v = 0 → My1 0 34 = 0 ∧ ∀ k, f_X7_wakes_11 (k + c) (nI s) My = f_X7_wakes_11 k (nI s) My1) ∧ (v ≠ 0 → ∀ My2, f_X7_end (nI s) v My1 = some (0, My2) → ∀ k, f_X7_wakes_11 (k + c) (nI s) My = f_X7_wakes_11 k (nI s) My2) ∧ c + 60 * slp n s My1 ≤ 2 + 60 * slp n s My
theorem FI.fr {d t : Nat} {L : List Nat} {A B : Mem} (h : FI d t L A) (hL : L.length ≤ 16) (hf : FrM (d + 1) A B) (h26 : B 0 26 = nI (d + 1)) : FI d t L B := by
  obtain ⟨hd, -, h19, h25, h24⟩ := h
  refine ⟨hd, h26, by rw [hf 19 d (by unfold DY; omega) (by omega) (by omega) (by omega) (by omega)]; exact h19, by rw [hf 25 d (by unfold DY; omega) (by omega) (by omega) (by omega) (by omega)]; exact h25, fun j x hj => ?_⟩
  have := (List.getElem?_eq_some_iff.mp hj).1
  rw [hf 24 (16 * d + j) (by unfold DY; omega) (by omega) (by omega) (by omega) (by omega)]
  exact h24 j x hj
theorem FI.fry {d t : Nat} {L : List Nat} {A B : Mem} (h : FI d t L A) (hL : L.length ≤ 16) (hf : FrY A B) : FI d t L B := h.fr hL (FrM.of hf) (by rw [hf 0 26 (by unfold DY; omega)]; exact h.2.1)
theorem FI.set {d t : Nat} {L : List Nat} {A : Mem} (h : FI d t L A) {a b : Nat} {v : Int32} (hq : (a = 0 ∧ (b = 34 ∨ b = 35)) ∨ a = 20 ∨ a = 21 ∨ a = 22 ∨ a = 23) : FI d t L (mset A a b v) := by
  obtain ⟨hd, h26, h19, h25, h24⟩ := h
  refine ⟨hd, by rw [mset_get_ne _ _ (by omega)]; exact h26, by rw [mset_get_ne _ _ (by omega)]; exact h19, by rw [mset_get_ne _ _ (by omega)]; exact h25, fun j x hj => ?_⟩
  rw [mset_get_ne _ _ (by omega)]
  exact h24 j x hj
/-- the last rows of hearing and of doing -/
theorem fin_heard {n s d t p c0 : Nat} {L : List Nat} {Mx My Mx1 My1 M' : Mem} {r : Int32} (hA : Act n s d Mx My Mx1 My1) (hF : FI d t L My1) (hp : My1 20 d = nI (p + 1)) (h34 : My1 0 34 = 0) (hk : ∀ k, f_X7_wakes_11 (k + c0) (nI s) My = f_X7_wakes_11 k (nI s) M') (hM : M' 0 26 = nI (d + 1) ∧ M' 0 34 = 1) (hh : f_X7_heard (nI s) M' = f_X7_heard_195 (nI s) r My1) (hc : c0 + 60 * slp n s My1 ≤ 1 + 60 * slp n s My) : Res n s d t L p Mx My r Mx1 := by
  refine ⟨My1, c0 + 1, hA, hF, hp, fun hr => ⟨h34, fun k => ?_⟩, fun hr My2 he k => ?_, by omega⟩
  · have h1 : f_X7_heard (nI s) M' = some (0, My1) := by
      rw [hh]
      unfold f_X7_heard_195
      rw [if_pos hr]
    have h2 := hk (k + 1)
    rw [show k + (c0 + 1) = k + 1 + c0 by omega, h2]
    exact lp_heard hM.1 hF.1 hM.2 h1 k
  · have h1 : f_X7_heard (nI s) M' = some (0, My2) := by
      rw [hh]
      unfold f_X7_heard_195
      rw [if_neg hr, he]
      rfl
    have h2 := hk (k + 1)
    rw [show k + (c0 + 1) = k + 1 + c0 by omega, h2]
    exact lp_heard hM.1 hF.1 hM.2 h1 k
theorem fin_does {n s d t p : Nat} {L : List Nat} {Mx My Mx1 My0 My1 : Mem} {r : Int32} (h26 : My 0 26 = nI (d + 1)) (h340 : My 0 34 = 0) (hg : f_X7_goes (nI s) My = (f_X7_does (nI s) (nI d) My0).bind fun (_, M) => some ((0 : Int32), M)) (hA : Act n s d Mx My Mx1 My1) (hF : FI d t L My1) (hp : My1 20 d = nI (p + 1)) (h34 : My1 0 34 = 0) (hh : f_X7_does (nI s) (nI d) My0 = f_X7_does_248 (nI s) r My1) : Res n s d t L p Mx My r Mx1 := by
  have hs := slp_le hA
  refine ⟨My1, 1, hA, hF, hp, fun hr => ⟨h34, fun k => ?_⟩, fun hr My2 he k => ?_, by omega⟩
  · refine lp_goes (v := 0) h26 hF.1 h340 ?_ k
    rw [hg, hh]
    unfold f_X7_does_248
    rw [if_pos hr]
    rfl
  · refine lp_goes (v := 0) h26 hF.1 h340 ?_ k
    rw [hg, hh]
    unfold f_X7_does_248
    rw [if_neg hr, he]
    rfl
/-- one above it: the PARENT, or a FULL FACE -/
theorem res_ask {n s d t p A u : Nat} {L : List Nat} {Mx My : Mem} {wk : Int32 → Int32 → Mem → Option (Int32 × Mem)} (ih : WIH n s A wk) (h : RW n s Mx My) (hF : FI d t L My) (hL : L.length ≤ 16) (h34 : My 0 34 = 0) (hu : u < n) (hA : slp n s My ≤ A) (hd : d + 1 + slp n s My ≤ 16)
    (hg : f_X7_goes (nI s) My = (f_X7_ask (nI s) (nI u) (mset (mset My 20 d (nI (p + 1))) 21 d 0)).bind fun (_, M) => some ((0 : Int32), M)) : ∃ r Mx1, wk (nI u) (nI (d + 1)) Mx = some (r, Mx1) ∧ Res n s d t L p Mx My r Mx1 := by
  have a1 := Act.m1 (d := d) h (a := 20) (b := d) (nI (p + 1)) (by omega) (by omega)
  have a2 := a1.tr (Act.m1 (d := d) a1.1 (a := 21) (b := d) 0 (by omega) (by omega))
  have hF2 : FI d t L (mset (mset My 20 d (nI (p + 1))) 21 d 0) := (hF.set (by omega)).set (by omega)
  have hs2 := slp_le a2
  obtain ⟨r, Mx', My1, My', c, e1, e2, e3, e4, e5, e6, e7, e8⟩ := ih Mx _ u (d + 1) a2.1 hF2.2.1 hu (by omega) (by omega)
  refine ⟨r, Mx', e1, ?_⟩
  have hF' : FI d t L My' := hF2.fr hL e4.2.2.1 e5
  have h20' : My' 20 d = nI (p + 1) := by
    rw [e4.2.2.1 20 d (by unfold DY; omega) (by omega) (by omega) (by omega) (by omega), mset_get_ne _ _ (by omega), mset_get]
  have h21' : My' 21 d = 0 := by
    rw [e4.2.2.1 21 d (by unfold DY; omega) (by omega) (by omega) (by omega) (by omega), mset_get]
  obtain ⟨q, hq, h22'⟩ := e4.1.2.2.2.2.2.2.1 d hF.1
  have a3 := a2.tr (e4.dn (d := d) (by omega))
  have a4 := a3.tr (Act.m1 (d := d) a3.1 (a := 0) (b := 34) 0 (by omega) (by omega))
  have hs4 := slp_le (Act.m1 (d := d) a3.1 (a := 0) (b := 34) 0 (by omega) (by omega))
  refine fin_heard (c0 := c + 1) (M' := My') a4 (hF'.set (by omega)) (by rw [mset_get_ne _ _ (by omega)]; exact h20') (mset_get _ _ _ _) (fun k => ?_) ⟨e5, e6⟩ ?_ (by omega)
  · rw [show k + (c + 1) = k + c + 1 by omega, lp_goes (v := 0) hF.2.1 hF.1 h34 (by rw [hg, e2]; rfl), e3]
  · rw [heard_eq e4.1 hF' hq h22', h21', if_neg (by decide), if_neg (by decide), if_neg (by decide), e7]
/-- a thing is MADE -/
theorem mk_sim {n s d A u : Nat} {Mx My : Mem} {wk : Int32 → Int32 → Mem → Option (Int32 × Mem)} (ih : WIH n s A wk) (h : RW n s Mx My) (h26 : My 0 26 = nI d) (hu : u < 16) (hA : slp n s My ≤ A) (hd : d + slp n s My ≤ 16) : ∃ r Mx' My1 My' c, f_X7_make (nI s) (nI u) My = some (0, My1) ∧ (∀ k, f_X7_wakes_11 (k + c) (nI s) My1 = f_X7_wakes_11 k (nI s) My') ∧ Act n s d Mx My Mx' My' ∧ My' 0 26 = nI d ∧ My' 0 34 = 1 ∧ My' 0 35 = r ∧ c + 60 * slp n s My' ≤ 60 * slp n s My ∧ (r ≠ 0 → f_X6_makeThing wk (nI u) (nI d) Mx = some (r, Mx')) ∧ (r = 0 → u < n ∧ ∀ Mx2, stI Mx' (13 + 5 * s + 4) 16 (nI u) (My' 12 (16 * s + u) + 1) = some Mx2 → f_X6_makeThing wk (nI u) (nI d) Mx = some (0, Mx2)) := by
  have hn := h.n16
  have hs := h.2.2.1
  have e5 : Mx 0 5 = nI n := (h.1.at 0 1 (by simp [dm]) rfl).trans h.2.1.1.2.1
  have no : (f_X6_makeThing wk (nI u) (nI d) Mx = some (18, Mx)) → f_X7_make (nI s) (nI u) My = f_X7_make_26 My → ∃ r Mx' My1 My' c, f_X7_make (nI s) (nI u) My = some (0, My1) ∧ (∀ k, f_X7_wakes_11 (k + c) (nI s) My1 = f_X7_wakes_11 k (nI s) My') ∧ Act n s d Mx My Mx' My' ∧ My' 0 26 = nI d ∧ My' 0 34 = 1 ∧ My' 0 35 = r ∧ c + 60 * slp n s My' ≤ 60 * slp n s My ∧ (r ≠ 0 → f_X6_makeThing wk (nI u) (nI d) Mx = some (r, Mx')) ∧ (r = 0 → u < n ∧ ∀ Mx2, stI Mx' (13 + 5 * s + 4) 16 (nI u) (My' 12 (16 * s + u) + 1) = some Mx2 → f_X6_makeThing wk (nI u) (nI d) Mx = some (0, Mx2)) := by
    intro h1 h2
    have a1 := Act.m1 (d := d) h (a := 0) (b := 34) 1 (by omega) (by omega)
    have a2 := a1.tr (Act.m1 (d := d) a1.1 (a := 0) (b := 35) 18 (by omega) (by omega))
    have hs2 := slp_le a2
    refine ⟨18, Mx, _, _, 0, by rw [h2]; unfold f_X7_make_26; rw [stFZ_n My 0 34 (show isb 1 = true from rfl)]; rfl, fun k => rfl, a2, ?_, ?_, mset_get _ _ _ _, by omega, fun _ => h1, fun q => absurd q (by decide)⟩
    · rw [mset_get_ne _ _ (by omega), mset_get_ne _ _ (by omega)]; exact h26
    · rw [mset_get_ne _ _ (by omega), mset_get]
  rcases ty_cases (n := n) hn (nI u) with ⟨u', hu', he, hx, hy⟩ | ⟨hne, hx, hy⟩
  · have hue : u' = u := ((nI_eq (by omega) (by omega)).mp he).symm
    subst hue
    have ek : Mx (33 + 13 * u') 0 = My 1 u' := h.1.at 1 u' hu' rfl
    by_cases hk : My 1 u' = 0
    · obtain ⟨r, Mx', My1, My', c, q1, q2, q3, q4, q5, q6, q7, q8⟩ := ih Mx My u' d h h26 hu' hA hd
      have hcl : f_X6_isClass (nI u') Mx = some (1, Mx) := by
        unfold f_X6_isClass f_X6_isClass_0
        rw [hx Mx e5]
        simp only [Option.bind_some]
        rw [if_neg (by decide), ixQ_n hu]
        simp only [Option.bind_some]
        rw [ek, if_pos hk]
        rfl
      have hmk : f_X7_make (nI s) (nI u') My = some (0, My1) := by
        unfold f_X7_make f_X7_make_0
        rw [hy My h.2.1.1.2.1]
        simp only [Option.bind_some]
        rw [if_neg (by decide), ldI_n My 1 hu]
        simp only [Option.bind_some]
        rw [if_pos hk, q2]
        rfl
      have ht := (thing_sim (d := d) q4.1 hu').1
      refine ⟨r, Mx', My1, My', c, hmk, q3, q4, q5, q6, q7, q8, fun hr => ?_, fun hr => ⟨hu', fun Mx2 hM2 => ?_⟩⟩
      · unfold f_X6_makeThing f_X6_makeThing_0
        rw [hcl]
        simp only [Option.bind_some]
        rw [if_neg (by decide), q1]
        simp only [Option.bind_some]
        rw [if_neg hr]
      · unfold f_X6_makeThing f_X6_makeThing_0
        rw [hcl]
        simp only [Option.bind_some]
        rw [if_neg (by decide), q1]
        simp only [Option.bind_some]
        rw [if_pos hr, q4.1.2.2.2.1, ixQ_n hs]
        simp only [Option.bind_some]
        rw [ht]
        simp only [Option.bind_some]
        rw [hM2, hr]
        rfl
    · refine no ?_ ?_
      · unfold f_X6_makeThing f_X6_makeThing_0 f_X6_isClass f_X6_isClass_0
        rw [hx Mx e5]
        simp only [Option.bind_some]
        rw [if_neg (by decide), ixQ_n hu]
        simp only [Option.bind_some]
        rw [ek, if_neg hk]
        rfl
      · unfold f_X7_make f_X7_make_0
        rw [hy My h.2.1.1.2.1]
        simp only [Option.bind_some]
        rw [if_neg (by decide), ldI_n My 1 hu]
        simp only [Option.bind_some]
        rw [if_neg hk]
  · refine no ?_ ?_
    · unfold f_X6_makeThing f_X6_makeThing_0 f_X6_isClass f_X6_isClass_0
      rw [hx Mx e5]
      rfl
    · unfold f_X7_make f_X7_make_0
      rw [hy My h.2.1.1.2.1]
      rfl
