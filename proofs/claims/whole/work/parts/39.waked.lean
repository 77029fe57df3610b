/-! A whole START, at both sides -/
def Ends (n s d B : Nat) (Mx My : Mem) (X : Option (Int32 × Mem)) : Prop := ∃ r Mx' My' c, X = some (r, Mx') ∧ (∀ k, f_X7_wakes_11 (k + c) (nI s) My = f_X7_wakes_11 k (nI s) My') ∧ Act n s d Mx My Mx' My' ∧ My' 0 26 = nI d ∧ My' 0 34 = 1 ∧ My' 0 35 = r ∧ c + 60 * slp n s My' ≤ B + 60 * slp n s My
theorem Ends.bad {n s d t p : Nat} {L : List Nat} {Mx My Mx1 : Mem} {v : Int32} (wk : Int32 → Int32 → Mem → Option (Int32 × Mem)) (h : Res n s d t L p Mx My v Mx1) (hv : v ≠ 0) (ht : t < n) {K : Nat} (hK : K = pk My s t + 1) : Ends n s d 2 Mx My (f_X6_wake_70 wk (nI t) K v Mx1) := by
  obtain ⟨My1, c, a, hF, -, -, h2, hc⟩ := h
  obtain ⟨Mx', My', q1, q2, q3, q4, q5, q6⟩ := end_sim a.1 hF ht v wk
  have hs := slp_le q3
  rw [pk_frm a.2.2.1, ← hK] at q1
  exact ⟨v, Mx', My', c, q1, h2 hv My' q2, a.tr q3, q4, q5, q6, by omega⟩
theorem Ends.on {n s d t p B : Nat} {L : List Nat} {Mx My Mx1 : Mem} {X : Option (Int32 × Mem)} (h : Res n s d t L p Mx My 0 Mx1) (hk : ∀ My1, Act n s d Mx My Mx1 My1 → FI d t L My1 → My1 20 d = nI (p + 1) → My1 0 34 = 0 → slp n s My1 ≤ slp n s My → Ends n s d B Mx1 My1 X) : Ends n s d (B + 2) Mx My X := by
  obtain ⟨My1, c, a, hF, h20, h1, -, hc⟩ := h
  obtain ⟨h34, hl⟩ := h1 rfl
  obtain ⟨r, Mx', My', c', q1, q2, q3, q4, q5, q6, q7⟩ := hk My1 a hF h20 h34 (slp_le a)
  exact ⟨r, Mx', My', c + c', q1, fun k => by rw [show k + (c + c') = k + c' + c by omega, hl, q2], a.tr q3, q4, q5, q6, by omega⟩
theorem lines_ends {n s d t A lc : Nat} {L : List Nat} {wk : Int32 → Int32 → Mem → Option (Int32 × Mem)} (ih : WIH n s A wk) (hL : L.length ≤ 16) (ht : t < n) (h8 : lc ≤ 8) {K : Nat} : ∀ (j i F : Nat) (Mx My : Mem), RW n s Mx My → FI d t L My → My 20 d = nI (1 + L.length + i) → My 0 34 = 0 → My 8 t = nI lc → i + j = lc → j + 2 ≤ F → slp n s My ≤ A → d + 1 + slp n s My ≤ 16 → K = pk My s t + 1 → Ends n s d (2 * j + 2) Mx My ((f_X6_doLines_5 wk F (nI t) (nI d) 0 (nI i) Mx).bind fun (v24, M22) => f_X6_wake_70 wk (nI t) K v24 M22) := by
  intro j
  induction j with
  | zero =>
    intro i F Mx My h hF h20 h34 hlc hij hFu hA hd hK
    have hn := h.n16
    have hd16 := hF.1
    obtain ⟨F, rfl⟩ : ∃ F', F = F' + 1 := ⟨F - 1, by omega⟩
    have hx : f_X6_doLines_5 wk (F + 1) (nI t) (nI d) 0 (nI i) Mx = some (0, Mx) := by
      show f_X6_doLines_5b wk (f_X6_doLines_5 wk F) (nI t) (nI d) 0 (nI i) Mx = _
      unfold f_X6_doLines_5b
      have e : Mx (33 + 13 * t) 12 = My 8 t := h.1.at 8 t ht rfl
      rw [if_pos rfl, ixQ_n (show t < 16 by omega)]
      simp only [Option.bind_some]
      rw [e, hlc, if_pos (nI_le (by omega) (by omega))]
    rw [hx]
    simp only [Option.bind_some]
    have a1 := Act.m1 (d := d) h (a := 20) (b := d) (nI (1 + L.length + i + 1)) (by omega) (by omega)
    have hF1 : FI d t L (mset My 20 d (nI (1 + L.length + i + 1))) := hF.set (by omega)
    obtain ⟨Mx', My', q1, q2, q3, q4, q5, q6⟩ := end_sim a1.1 hF1 ht 0 wk
    rw [pk_frm a1.2.2.1, ← hK] at q1
    have hs1 := slp_le a1
    have hs2 := slp_le q3
    refine ⟨0, Mx', My', 1, q1, fun k => lp_goes (v := 0) hF.2.1 hF.1 h34 ?_ k, a1.tr q3, q4, q5, q6, by omega⟩
    obtain ⟨-, h26, h19, h25, h24⟩ := hF
    unfold f_X7_goes f_X7_goes_0
    rw [h26, nI_pred, ldI_n My 19 hd16, h19]
    simp only [Option.bind_some]
    rw [ldI_n My 20 hd16, h20]
    simp only [Option.bind_some]
    rw [stI_n My 20 _ hd16, nI_1]
    simp only [Option.bind_some]
    rw [if_neg (show ¬ nI (1 + L.length + i) = 0 from nI_ne (b := 0) (by omega) (by omega) (by omega)), ldI_n _ 25 hd16, mset_get_ne _ _ (by omega), h25]
    simp only [Option.bind_some]
    rw [if_pos (nI_lt (show L.length < 1 + L.length + i by omega) (by omega)), ldI_n _ 8 (show t < 16 by omega), mset_get_ne _ _ (by omega), hlc]
    simp only [Option.bind_some]
    have e1 : nI (1 + L.length + i) - (1 : Int32) - nI L.length = nI i := by
      rw [nI_pred2 (by omega), pk_sub (by omega)]
      congr 1
      omega
    rw [e1, if_pos (nI_le (by omega) (by omega)), q2]
    rfl
  | succ j ihj =>
    intro i F Mx My h hF h20 h34 hlc hij hFu hA hd hK
    have hn := h.n16
    obtain ⟨F, rfl⟩ : ∃ F', F = F' + 1 := ⟨F - 1, by omega⟩
    obtain ⟨c, c1, c2, c3⟩ := h.2.1.1.2.2.2.2.2.2.2 t ht
    have hc : c = lc := by
      rw [hlc] at c2
      exact ((nI_eq (by omega) (by omega)).mp c2).symm
    subst hc
    obtain ⟨v, Mx1, q1, q2⟩ := line_sim ih h hF hL ht h20 h34 rfl hlc (show i < c by omega) h8 (c3 i (by omega)) hA hd
    have hx : f_X6_doLines_5 wk (F + 1) (nI t) (nI d) 0 (nI i) Mx = f_X6_doLines_5 wk F (nI t) (nI d) v (nI (i + 1)) Mx1 := by
      show f_X6_doLines_5b wk (f_X6_doLines_5 wk F) (nI t) (nI d) 0 (nI i) Mx = _
      unfold f_X6_doLines_5b
      have e : Mx (33 + 13 * t) 12 = My 8 t := h.1.at 8 t ht rfl
      rw [if_pos rfl, ixQ_n (show t < 16 by omega)]
      simp only [Option.bind_some]
      rw [e, hlc, if_neg (nI_ge (by omega) (by omega)), q1]
      simp only [Option.bind_some]
      rw [nI_1]
    rw [hx]
    by_cases hv : v = 0
    · subst hv
      rw [show 2 * (j + 1) + 2 = (2 * j + 2) + 2 by omega]
      refine Ends.on q2 (fun My1 a hF1 h201 h341 hs1 => ?_)
      exact ihj (i + 1) F Mx1 My1 a.1 hF1 h201 h341 (by rw [a.2.2.1.st (by omega)]; exact hlc) (by omega) (by omega) (by omega) (by omega) (by rw [pk_frm a.2.2.1]; exact hK)
    · obtain ⟨F, rfl⟩ : ∃ F', F = F' + 1 := ⟨F - 1, by omega⟩
      have hx2 : f_X6_doLines_5 wk (F + 1) (nI t) (nI d) v (nI (i + 1)) Mx1 = some (v, Mx1) := by
        show f_X6_doLines_5b wk (f_X6_doLines_5 wk F) (nI t) (nI d) v (nI (i + 1)) Mx1 = _
        unfold f_X6_doLines_5b
        rw [if_neg hv]
      rw [hx2]
      simp only [Option.bind_some]
      obtain ⟨r, Mx', My', c', w1, w2, w3, w4, w5, w6, w7⟩ := Ends.bad wk q2 hv ht hK
      exact ⟨r, Mx', My', c', w1, w2, w3, w4, w5, w6, by omega⟩
/-- behind those above it -/
noncomputable def rstX (wk : Int32 → Int32 → Mem → Option (Int32 × Mem)) (t d K : Nat) (v : Int32) (M : Mem) : Option (Int32 × Mem) := if v = 0 then ((f_X6_doLines wk (nI t) (nI d) M).bind fun (v24, M22) => f_X6_wake_70 wk (nI t) K v24 M22) else f_X6_wake_70 wk (nI t) K v M
theorem rst_ends {n s d t A lc : Nat} {L : List Nat} {wk : Int32 → Int32 → Mem → Option (Int32 × Mem)} (ih : WIH n s A wk) (hL : L.length ≤ 16) (ht : t < n) (h8 : lc ≤ 8) {K : Nat} {Mx My : Mem} (h : RW n s Mx My) (hF : FI d t L My) (h20 : My 20 d = nI (1 + L.length)) (h34 : My 0 34 = 0) (hlc : My 8 t = nI lc) (hA : slp n s My ≤ A) (hd : d + 1 + slp n s My ≤ 16) (hK : K = pk My s t + 1) : Ends n s d 18 Mx My (rstX wk t d K 0 Mx) := by
  unfold rstX
  rw [if_pos rfl]
  obtain ⟨r, Mx', My', c', w1, w2, w3, w4, w5, w6, w7⟩ := lines_ends ih hL ht h8 lc 0 FU Mx My h hF h20 h34 hlc (by omega) (by have := FU_ge; omega) hA hd hK
  exact ⟨r, Mx', My', c', w1, w2, w3, w4, w5, w6, by omega⟩
theorem fulls_ends {n s d t A lc : Nat} {L : List Nat} {wk : Int32 → Int32 → Mem → Option (Int32 × Mem)} (ih : WIH n s A wk) (hL : L.length ≤ 16) (ht : t < n) (h8 : lc ≤ 8) {K : Nat} : ∀ (j i F : Nat) (Mx My : Mem), RW n s Mx My → RowIs Mx (33 + 13 * t + 5) L → (∀ x ∈ L, x < n) → FI d t L My → My 20 d = nI (1 + i) → My 0 34 = 0 → My 8 t = nI lc → i + j = L.length → j + 2 ≤ F → slp n s My ≤ A → d + 1 + slp n s My ≤ 16 → K = pk My s t + 1 → Ends n s d (2 * j + 18) Mx My ((f_X6_wakeAbove_44 wk F (nI d) (33 + 13 * t) 0 (nI i) Mx).bind fun (v20, M18) => rstX wk t d K v20 M18) := by
  intro j
  induction j with
  | zero =>
    intro i F Mx My h hR hRn hF h20 h34 hlc hij hFu hA hd hK
    obtain ⟨F, rfl⟩ : ∃ F', F = F' + 1 := ⟨F - 1, by omega⟩
    have hx : f_X6_wakeAbove_44 wk (F + 1) (nI d) (33 + 13 * t) 0 (nI i) Mx = some (0, Mx) := by
      show f_X6_wakeAbove_44b wk (f_X6_wakeAbove_44 wk F) (nI d) (33 + 13 * t) 0 (nI i) Mx = _
      unfold f_X6_wakeAbove_44b
      rw [if_pos rfl, hR.1, if_pos (nI_le (by omega) (by omega))]
    rw [hx]
    simp only [Option.bind_some]
    have hi : i = L.length := by omega
    subst hi
    exact rst_ends ih hL ht h8 h hF h20 h34 hlc hA hd hK
  | succ j ihj =>
    intro i F Mx My h hR hRn hF h20 h34 hlc hij hFu hA hd hK
    have hn := h.n16
    have hd16 := hF.1
    obtain ⟨F, rfl⟩ : ∃ F', F = F' + 1 := ⟨F - 1, by omega⟩
    have hx1 : L[i]? = some (L[i]'(by omega)) := List.getElem?_eq_getElem (by omega)
    generalize L[i]'(by omega) = u at hx1
    have hu : u < n := hRn u (List.mem_of_getElem? hx1)
    have hg : f_X7_goes (nI s) My = (f_X7_ask (nI s) (nI u) (mset (mset My 20 d (nI (1 + i + 1))) 21 d 0)).bind fun (_, M) => some ((0 : Int32), M) := by
      obtain ⟨-, h26, h19, h25, h24⟩ := hF
      unfold f_X7_goes f_X7_goes_0
      rw [h26, nI_pred, ldI_n My 19 hd16, h19]
      simp only [Option.bind_some]
      rw [ldI_n My 20 hd16, h20]
      simp only [Option.bind_some]
      rw [stI_n My 20 _ hd16, nI_1]
      simp only [Option.bind_some]
      rw [if_neg (show ¬ nI (1 + i) = 0 from nI_ne (b := 0) (by omega) (by omega) (by omega)), ldI_n _ 25 hd16, mset_get_ne _ _ (by omega), h25]
      simp only [Option.bind_some]
      rw [if_neg (nI_nlt (show 1 + i ≤ L.length by omega) (by omega)), stI_n _ 21 0 hd16]
      simp only [Option.bind_some]
      have e1 : (16 : Int32) * nI d + nI (1 + i) - (1 : Int32) = nI (16 * d + i) := by
        rw [x16, nI_pred2 (by omega)]
        congr 1
        omega
      rw [e1, ldI_n _ 24 (show 16 * d + i < 256 by omega), mset_get_ne _ _ (by omega), mset_get_ne _ _ (by omega), h24 i u hx1]
      simp only [Option.bind_some]
    obtain ⟨v, Mx1, q1, q2⟩ := res_ask (p := 1 + i) ih h hF hL h34 hu hA hd hg
    have hx : f_X6_wakeAbove_44 wk (F + 1) (nI d) (33 + 13 * t) 0 (nI i) Mx = f_X6_wakeAbove_44 wk F (nI d) (33 + 13 * t) v (nI (i + 1)) Mx1 := by
      show f_X6_wakeAbove_44b wk (f_X6_wakeAbove_44 wk F) (nI d) (33 + 13 * t) 0 (nI i) Mx = _
      unfold f_X6_wakeAbove_44b
      rw [if_pos rfl, hR.1, if_neg (nI_ge (by omega) (by omega)), ldI_n Mx _ (show i < 16 by omega), hR.2.2.1 i u hx1]
      simp only [Option.bind_some]
      rw [nI_1, q1]
      simp only [Option.bind_some]
      rw [nI_1]
    rw [hx]
    by_cases hv : v = 0
    · subst hv
      rw [show 2 * (j + 1) + 18 = (2 * j + 18) + 2 by omega]
      refine Ends.on q2 (fun My1 a hF1 h201 h341 hs1 => ?_)
      exact ihj (i + 1) F Mx1 My1 a.1 (hR.fr (fun x => a.2.1.ty (by omega) x) (fun x => a.2.1.ty (by omega) x)) hRn hF1 h201 h341 (by rw [a.2.2.1.st (by omega)]; exact hlc) (by omega) (by omega) (by omega) (by omega) (by rw [pk_frm a.2.2.1]; exact hK)
    · obtain ⟨F, rfl⟩ : ∃ F', F = F' + 1 := ⟨F - 1, by omega⟩
      have hx2 : f_X6_wakeAbove_44 wk (F + 1) (nI d) (33 + 13 * t) v (nI (i + 1)) Mx1 = some (v, Mx1) := by
        show f_X6_wakeAbove_44b wk (f_X6_wakeAbove_44 wk F) (nI d) (33 + 13 * t) v (nI (i + 1)) Mx1 = _
        unfold f_X6_wakeAbove_44b
        rw [if_neg hv]
      rw [hx2]
      simp only [Option.bind_some]
      unfold rstX
      rw [if_neg hv]
      obtain ⟨r, Mx', My', c', w1, w2, w3, w4, w5, w6, w7⟩ := Ends.bad wk q2 hv ht hK
      exact ⟨r, Mx', My', c', w1, w2, w3, w4, w5, w6, by omega⟩
theorem FLs_len {n s : Nat} {Mx My : Mem} (h : RW n s Mx My) {t : Nat} (ht : t < n) : (FLs My t).length ≤ 16 ∧ ∀ x ∈ FLs My t, x < n := by
  unfold FLs
  split
  · obtain ⟨-, hr, -⟩ := h.2.1.2.2 t ht
    refine ⟨hr.2.1, fun x hx => ?_⟩
    have hx' := ddp_mem.mp hx
    obtain ⟨f, hf, hx2⟩ := List.mem_flatMap.mp hx'
    have h1 := faY_lt h.2.1.1 t ht f hf
    have := gg_le (faY_lt h.2.1.1) (fun t u hu => by
      rcases owY_cases My t with e | e
      · rw [e] at hu; simp at hu
      · rw [e] at hu; simpa using hu) f (by omega) x hx2
    omega
  · exact ⟨by simp, fun x hx => by simp at hx⟩
/-- the whole of a frame, from its first place on -/
theorem frame_ends {n s d t A : Nat} {L : List Nat} {wk : Int32 → Int32 → Mem → Option (Int32 × Mem)} (ih : WIH n s A wk) (ht : t < n) {K : Nat} {Mx My : Mem} (h : RW n s Mx My) (hLe : L = FLs My t) (hF : FI d t L My) (h20 : My 20 d = nI 0) (h34 : My 0 34 = 0) (hA : slp n s My ≤ A) (hd : d + 1 + slp n s My ≤ 16) (hK : K = pk My s t + 1) : Ends n s d 52 Mx My ((f_X6_wakeAbove wk (nI t) (nI d) Mx).bind fun (v20, M18) => rstX wk t d K v20 M18) := by
  have hn := h.n16
  have hd16 := hF.1
  obtain ⟨hL, hLn⟩ := FLs_len h ht
  rw [← hLe] at hL hLn
  obtain ⟨lc, h8, hlc, -⟩ := h.2.1.1.2.2.2.2.2.2.2 t ht
  have ek : Mx (33 + 13 * t) 0 = My 1 t := h.1.at 1 t ht rfl
  have ep : Mx (33 + 13 * t) 1 = My 2 t := h.1.at 2 t ht rfl
  unfold f_X6_wakeAbove f_X6_wakeAbove_0
  rw [ixQ_n (show t < 16 by omega)]
  simp only [Option.bind_some]
  rw [ek, ep]
  -- no PARENT: one step
  have none1 : My 2 t = -1 → f_X7_goes (nI s) My = some (0, mset My 20 d (nI 1)) := by
    intro hpa
    obtain ⟨-, h26, h19, h25, h24⟩ := hF
    unfold f_X7_goes f_X7_goes_0
    rw [h26, nI_pred, ldI_n My 19 hd16, h19]
    simp only [Option.bind_some]
    rw [ldI_n My 20 hd16, h20]
    simp only [Option.bind_some]
    rw [stI_n My 20 _ hd16, nI_1]
    simp only [Option.bind_some]
    rw [if_pos (show nI 0 = 0 from rfl)]
    rw [ldI_n _ 2 (show t < 16 by omega), mset_get_ne _ _ (by omega), hpa]
    simp only [Option.bind_some]
    first | rw [if_pos rfl] | rw [if_pos trivial]
  have a1 := Act.m1 (d := d) h (a := 20) (b := d) (nI 1) (by omega) (by omega)
  have hF1 : FI d t L (mset My 20 d (nI 1)) := hF.set (by omega)
  have hs1 := slp_le a1
  have one : ∀ (B : Nat) (X : Option (Int32 × Mem)), My 2 t = -1 → Ends n s d B Mx (mset My 20 d (nI 1)) X → Ends n s d (B + 1) Mx My X := by
    intro B X hpa hE
    obtain ⟨r, Mx', My', c', w1, w2, w3, w4, w5, w6, w7⟩ := hE
    exact ⟨r, Mx', My', c' + 1, w1, fun k => by rw [show k + (c' + 1) = k + c' + 1 by omega, lp_goes hF.2.1 hF.1 h34 (none1 hpa), w2], a1.tr w3, w4, w5, w6, by omega⟩
  have h201 : mset My 20 d (nI 1) 20 d = nI (1 + 0) := mset_get _ _ _ _
  have h341 : mset My 20 d (nI 1) 0 34 = 0 := by rw [mset_get_ne _ _ (by omega)]; exact h34
  have hlc1 : mset My 20 d (nI 1) 8 t = nI lc := by rw [mset_get_ne _ _ (by omega)]; exact hlc
  by_cases hk : My 1 t = 0
  · rw [if_pos hk]
    have hLd : L = ddp (ff (faY My) (owY My) t) := by
      rw [hLe]
      exact if_pos hk
    have hR : RowIs Mx (33 + 13 * t + 5) L := by
      rw [hLd]
      exact (h.2.1.2.2 t ht).2.1
    by_cases hpa : My 2 t = -1
    · rw [if_pos hpa]
      unfold f_X6_wakeAbove_39
      have := one _ _ hpa (fulls_ends (K := K) ih hL ht h8 L.length 0 FU Mx _ a1.1 hR hLn hF1 h201 h341 hlc1 (by omega) (by have := FU_ge; omega) (by omega) (by omega) (by rw [pk_frm a1.2.2.1]; exact hK))
      obtain ⟨r, Mx', My', c', w1, w2, w3, w4, w5, w6, w7⟩ := this
      exact ⟨r, Mx', My', c', w1, w2, w3, w4, w5, w6, by omega⟩
    · rw [if_neg hpa]
      rcases h.2.1.1.2.2.2.1 t ht with e | ⟨q, q1, q2, -⟩
      · exact absurd e hpa
      · have hg : f_X7_goes (nI s) My = (f_X7_ask (nI s) (nI q) (mset (mset My 20 d (nI (0 + 1))) 21 d 0)).bind fun (_, M) => some ((0 : Int32), M) := by
          obtain ⟨-, h26, h19, h25, h24⟩ := hF
          unfold f_X7_goes f_X7_goes_0
          rw [h26, nI_pred, ldI_n My 19 hd16, h19]
          simp only [Option.bind_some]
          rw [ldI_n My 20 hd16, h20]
          simp only [Option.bind_some]
          rw [stI_n My 20 _ hd16, nI_1]
          simp only [Option.bind_some]
          rw [if_pos (show nI 0 = 0 from rfl)]
          rw [ldI_n _ 2 (show t < 16 by omega), mset_get_ne _ _ (by omega)]
          simp only [Option.bind_some]
          rw [if_neg hpa, stI_n _ 21 0 hd16]
          simp only [Option.bind_some]
          rw [ldI_n _ 2 (show t < 16 by omega), mset_get_ne _ _ (by omega), mset_get_ne _ _ (by omega), q2]
          simp only [Option.bind_some]
        obtain ⟨v, Mx1, w1, w2⟩ := res_ask (p := 0) ih h hF hL h34 (show q < n by omega) hA hd hg
        rw [q2, nI_1, w1]
        simp only [Option.bind_some]
        unfold f_X6_wakeAbove_39
        by_cases hv : v = 0
        · subst hv
          have := Ends.on w2 (X := (f_X6_wakeAbove_44 wk FU (nI d) (33 + 13 * t) 0 (nI 0) Mx1).bind fun (v20, M18) => rstX wk t d K v20 M18) (fun My1 a hF2 h202 h342 hs2 => fulls_ends (K := K) ih hL ht h8 L.length 0 FU Mx1 My1 a.1 (hR.fr (fun x => a.2.1.ty (by omega) x) (fun x => a.2.1.ty (by omega) x)) hLn hF2 h202 h342 (by rw [a.2.2.1.st (by omega)]; exact hlc) (by omega) (by have := FU_ge; omega) (by omega) (by omega) (by rw [pk_frm a.2.2.1]; exact hK))
          obtain ⟨r, Mx', My', c', u1, u2, u3, u4, u5, u6, u7⟩ := this
          exact ⟨r, Mx', My', c', u1, u2, u3, u4, u5, u6, by omega⟩
        · obtain ⟨F, hFU⟩ : ∃ F', FU = F' + 1 := ⟨FU - 1, by have := FU_ge; omega⟩
          have hx2 : f_X6_wakeAbove_44 wk FU (nI d) (33 + 13 * t) v (0 : Int32) Mx1 = some (v, Mx1) := by
            rw [hFU]
            show f_X6_wakeAbove_44b wk (f_X6_wakeAbove_44 wk F) (nI d) (33 + 13 * t) v 0 Mx1 = _
            unfold f_X6_wakeAbove_44b
            rw [if_neg hv]
          rw [hx2]
          simp only [Option.bind_some]
          unfold rstX
          rw [if_neg hv]
          obtain ⟨r, Mx', My', c', u1, u2, u3, u4, u5, u6, u7⟩ := Ends.bad wk w2 hv ht hK
          exact ⟨r, Mx', My', c', u1, u2, u3, u4, u5, u6, by omega⟩
  · rw [if_neg hk]
    have hL0 : L = [] := by
      rw [hLe]
      exact if_neg hk
    have hpa : My 2 t = -1 := by
      rcases h.2.1.1.2.2.2.1 t ht with e | ⟨q, q1, q2, q3⟩
      · exact e
      · exact absurd q3 hk
    simp only [Option.bind_some]
    subst hL0
    have := one _ _ hpa (rst_ends (K := K) ih hL ht h8 a1.1 hF1 h201 h341 hlc1 (by omega) (by omega) (by rw [pk_frm a1.2.2.1]; exact hK))
    obtain ⟨r, Mx', My', c', u1, u2, u3, u4, u5, u6, u7⟩ := this
    exact ⟨r, Mx', My', c', u1, u2, u3, u4, u5, u6, by omega⟩
theorem wake_all {n s : Nat} : ∀ A, WIH n s A (f_wake (A + 1)) := by
  have up : ∀ (A : Nat) (Mx My : Mem) (u e : Nat), RW n s Mx My → My 0 26 = nI e → u < n → My 10 (pl My s u) ≠ 0 → ∃ r Mx' My1 My' c, f_wake (A + 1) (nI u) (nI e) Mx = some (r, Mx') ∧ f_X7_ask (nI s) (nI u) My = some (0, My1) ∧ (∀ k, f_X7_wakes_11 (k + c) (nI s) My1 = f_X7_wakes_11 k (nI s) My') ∧ Act n s e Mx My Mx' My' ∧ My' 0 26 = nI e ∧ My' 0 34 = 1 ∧ My' 0 35 = r ∧ c + 60 * slp n s My' ≤ 60 * slp n s My := by
    intro A Mx My u e h h26 hu h0
    obtain ⟨r, My', q1, q2, q3, q4, q5, q6⟩ := ask_up h h26 hu h0 (f_wake A) (nI e)
    have := slp_le q3
    exact ⟨r, Mx, My', My', 0, q1, q2, fun k => rfl, q3, q4, q5, q6, by omega⟩
  intro A
  induction A with
  | zero =>
    intro Mx My u e h h26 hu hA hd
    by_cases h0 : My 10 (pl My s u) = 0
    · have := slp_pos hu h0
      omega
    · exact up 0 Mx My u e h h26 hu h0
  | succ A ih =>
    intro Mx My u e h h26 hu hA hd
    by_cases h0 : My 10 (pl My s u) = 0
    · have hpos := slp_pos hu h0
      have hn := h.n16
      have hs := h.2.2.1
      obtain ⟨Mx', My1, q1, q2, q3, q4, q5, q6, q7⟩ := ask_dn h h26 (by omega) hu h0
      have hFL : FLs My u = FLs My1 u := by
        unfold FLs
        rw [q3.2.2.1.st (a := 1) (b := u) (by omega), faY_fr q3.2.2.1, owY_fr q3.2.2.1]
      obtain ⟨r, Mx2, My2, c, w1, w2, w3, w4, w5, w6, w7⟩ := frame_ends ih hu q3.1 hFL q4 q5 q6 (by omega) (by omega) (K := pk My s u + 1) (by rw [pk_frm q3.2.2.1])
      refine ⟨r, Mx2, My1, My2, c, ?_, q2, w2, q3.tr w3, w4, w5, w6, by omega⟩
      show f_X6_wake (f_wake (A + 1)) (nI u) (nI e) Mx = _
      unfold f_X6_wake f_X6_wake_0
      rw [h.2.2.2.1, place_eq h.1 hs hu hn]
      simp only [Option.bind_some]
      rw [pk_xP My hs u]
      simp only [Option.bind_some]
      rw [ldI_n Mx _ (show u < 16 by omega), h.stv hu, h0]
      simp only [Option.bind_some]
      rw [if_neg (show ¬ (0 : Int32) = 2 by decide), if_neg (show ¬ (0 : Int32) = 1 by decide), if_neg (show ¬ (0 : Int32) = 3 by decide), if_pos (show nI e < (16 : Int32) from nI_lt (b := 16) (by omega) (by omega)), q1]
      simp only [Option.bind_some]
      exact w1
    · exact up (A + 1) Mx My u e h h26 hu h0
/-- a START asked for by a USE -/
theorem wakes_sim {n s : Nat} {Mx My : Mem} (h : RW n s Mx My) {t : Nat} (ht : t < n) : ∃ r Mx' My', f_wake 17 (nI t) 0 Mx = some (r, Mx') ∧ f_X7_wakes (nI s) (nI t) My = some (r, My') ∧ Act n s 0 Mx My Mx' My' := by
  have hn := h.n16
  have a1 := Act.m1 (d := 0) h (a := 0) (b := 26) 0 (by omega) (by omega)
  have hsl : slp n s (mset My 0 26 0) ≤ 16 := by
    unfold slp
    refine Nat.le_trans (List.length_filter_le _ _) ?_
    simp
    exact hn
  obtain ⟨r, Mx', My1, My', c, q1, q2, q3, q4, q5, q6, q7, q8⟩ := wake_all 16 Mx (mset My 0 26 0) t 0 a1.1 (by rw [mset_get]; rfl) ht hsl (by omega)
  refine ⟨r, Mx', My', q1, ?_, a1.tr q4⟩
  unfold f_X7_wakes f_X7_wakes_0
  simp only [stF, Option.bind_some]
  rw [q2]
  simp only [Option.bind_some]
  obtain ⟨k, hk⟩ : ∃ k, FU = k + 1 + c := ⟨FU - 1 - c, by have := FU_ge; omega⟩
  rw [hk, q3]
  show f_X7_wakes_11b (f_X7_wakes_11 k) (nI s) My' = _
  unfold f_X7_wakes_11b
  rw [q5, if_pos (show nI 0 ≤ 0 by decide), q7]
