/-! use -/
section OPF
variable {c n u s : Nat} {Mx My : Mem}
theorem cl_eqS (hS : Sim n Mx My) (hW : WF n My) {t : Nat} (ht : t < n) : f_X6_isClass (nI t) Mx = some (if My 1 t = 0 then 1 else 0, Mx) := by
  have hn := hW.1
  have h5 : Mx 0 5 = nI n := (hS.at 0 1 (by simp [dm]) rfl).trans hW.2.1
  unfold f_X6_isClass f_X6_isClass_0
  rcases ty_cases (n := n) hn (nI t) with ⟨q, hq, e, tx, ty⟩ | ⟨hne, -⟩
  · rw [tx Mx h5]
    simp only [Option.bind_some]
    have ek : Mx (33 + 13 * t) 0 = My 1 t := hS.at 1 t ht rfl
    rw [if_neg (show ¬ (1 : Int32) = 0 by decide), ixQ_n (show t < 16 by omega)]
    simp only [Option.bind_some]
    rw [ek]
    by_cases hk : My 1 t = 0
    · rw [if_pos hk, if_pos hk]; rfl
    · rw [if_neg hk, if_neg hk]; rfl
  · exact absurd rfl (hne t ht)
theorem ist_x (hn : n ≤ 16) {t : Nat} (ht : t < n) {M : Mem} (h : M 0 5 = nI n) : f_X6_isType (nI t) M = some (1, M) := by
  rcases ty_cases (n := n) hn (nI t) with ⟨q, hq, e, tx, ty⟩ | ⟨hne, -⟩
  · exact tx M h
  · exact absurd rfl (hne t ht)
theorem ist_y (hn : n ≤ 16) {t : Nat} (ht : t < n) {M : Mem} (h : M 0 1 = nI n) : f_X7_isType (nI t) M = some (1, M) := by
  rcases ty_cases (n := n) hn (nI t) with ⟨q, hq, e, tx, ty⟩ | ⟨hne, -⟩
  · exact ty M h
  · exact absurd rfl (hne t ht)
/-- the class's part behind the refusals -/
noncomputable def uX (u t : Nat) (x3 x4 x5 : Int32) (M : Mem) : Option (Int32 × Mem) := (f_X6_perform (nI t) x3 x4 x5 M).bind fun (v22, M20) => if x3 = 0 then (if (mset M20 0 7 v22) 0 7 = 0 then f_X6_use_95 (nI t) (nI u) 1 (mset M20 0 7 v22) else f_X6_use_94 (nI t) (nI u) (mset M20 0 7 v22)) else f_X6_use_94 (nI t) (nI u) (mset M20 0 7 v22)
theorem e63 (h : Rel c n u Mx My) : Mx 6 3 = nI u := (h.1.at 0 16 (by simp [dm]) rfl).trans h.2.2.2.2.2.2.2.2.2.1
theorem Rel.uc (h : Rel c n u Mx My) : u ≤ c := h.2.2.2.2.2.2.2.2.2.2.1
theorem ref103 (h : Rel c n u Mx My) (hc : c < 512) : f_X6_refusalOfUse_103 Mx = some (0, Mx) := by
  have := h.uc
  unfold f_X6_refusalOfUse_103
  rw [e63 h, if_pos (show nI u < (512 : Int32) from nI_lt (b := 512) (by omega) (by omega))]
theorem xuse (h : Rel c n u Mx My) (hs : s < 4) (hc : c < 512) {t : Nat} {x3 x4 x5 : Int32} (hr : f_X6_refusalOfUse (nI s) (nI t) x3 x4 x5 Mx = some (0, Mx)) : f_X6_use (nI s) (nI t) x3 x4 x5 Mx = uX u t x3 x4 x5 (opX s u Mx) := by
  have := h.uc
  unfold f_X6_use f_X6_use_0
  rw [hr]
  simp only [Option.bind_some, stF]
  rw [if_pos (show True from trivial), ixQ_n hs]
  simp only [Option.bind_some]
  unfold f_X5_open f_X5_open_0
  rw [mset_get_ne _ _ (show 6 ≠ 0 ∨ 3 ≠ 10 by omega), mset_get_ne _ _ (show 6 ≠ 0 ∨ 3 ≠ 9 by omega), mset_get_ne _ _ (show 6 ≠ 0 ∨ 3 ≠ 8 by omega), e63 h, if_pos (show nI u < (512 : Int32) from nI_lt (b := 512) (by omega) (by omega)), stI_n _ 7 _ (show u < 512 by omega)]
  simp only [Option.bind_some, stF]
  rw [mset_get_ne _ _ (show 6 ≠ 7 ∨ 3 ≠ u by omega), mset_get_ne _ _ (show 6 ≠ 0 ∨ 3 ≠ 10 by omega), mset_get_ne _ _ (show 6 ≠ 0 ∨ 3 ≠ 9 by omega), mset_get_ne _ _ (show 6 ≠ 0 ∨ 3 ≠ 8 by omega), e63 h, nI_1, mset_get_ne _ _ (show 13 + 5 * s ≠ 0 ∨ 3 ≠ 10 by omega), mset_get_ne _ _ (show 13 + 5 * s ≠ 0 ∨ 3 ≠ 9 by omega), mset_get_ne _ _ (show 13 + 5 * s ≠ 0 ∨ 3 ≠ 8 by omega)]
  rfl
theorem xref {x1 x2 x3 x4 x5 r : Int32} (hr : f_X6_refusalOfUse x1 x2 x3 x4 x5 Mx = some (r, Mx)) (h0 : r ≠ 0) : f_X6_use x1 x2 x3 x4 x5 Mx = some (r, Mx) := by
  unfold f_X6_use f_X6_use_0
  rw [hr]
  simp only [Option.bind_some]
  rw [if_neg h0]
theorem opY_eq (h : Rel c n u Mx My) : mset (mset My 0 16 (My 0 16 + 1)) 0 25 0 = opY u My := by
  unfold opY
  rw [h.2.2.2.2.2.2.2.2.2.1, nI_1]
theorem RW.e5 (h : RW n s Mx My) : Mx 0 5 = nI n := (h.1.at 0 1 (by simp [dm]) rfl).trans h.2.1.1.2.1
theorem RW.e1 (h : RW n s Mx My) : My 0 1 = nI n := h.2.1.1.2.1
theorem use_make (h : Rel c n u Mx My) (hs : s < 4) (hc : c < 512) {t : Nat} (ht : t < n) (hk : My 1 t = 0) (x4 x5 x7 : Int32) : OpR c (uX u t 0 x4 x5 (opX s u Mx)) (f_X7_use_147 (nI s) (nI t) 0 x4 x5 x7 My) := by
  have hn := h.n16
  have hR := rel_open h hs
  obtain ⟨r, Mx1, My1, w1, w2, w3⟩ := wakes_sim hR ht
  have hks : opY u My 1 t = 0 := by rw [opY_ne (by omega)]; exact hk
  have hcl := cl_eqS hR.1 hR.2.1.1 ht
  rw [if_pos hks] at hcl
  unfold f_X7_use_147
  simp only [stF, Option.bind_some]
  rw [opY_eq h, if_pos (show True from trivial)]
  unfold f_X7_makes f_X7_makes_0
  rw [ist_y hn ht hR.e1]
  simp only [Option.bind_some]
  rw [if_neg (show ¬ (1 : Int32) = 0 by decide), ldI_n _ 1 (show t < 16 by omega), hks]
  simp only [Option.bind_some]
  rw [if_pos (show True from trivial), w2]
  simp only [Option.bind_some]
  rw [x16, ldI_n My1 12 (show 16 * s + t < 64 by omega)]
  simp only [Option.bind_some]
  unfold uX f_X6_perform f_X6_perform_0
  rw [if_pos (show (0 : Int32) = 0 from rfl)]
  unfold f_X6_makeAndCount f_X6_makeAndCount_0 f_X6_makeThing f_X6_makeThing_0
  rw [hcl]
  simp only [Option.bind_some]
  rw [if_neg (show ¬ (1 : Int32) = 0 by decide), w1]
  simp only [Option.bind_some]
  obtain ⟨g1, g2⟩ := thing_sim (d := 0) w3.1 ht
  unfold f_X7_makes_48
  by_cases hr : r = 0
  · obtain ⟨Mx2, s1, s2⟩ := g2 (My1 12 (16 * s + t) + 1)
    obtain ⟨k1, -⟩ := thing_sim (d := 0) s2.1 ht
    rw [mset_get] at k1
    rw [if_pos hr, if_pos hr, w3.1.2.2.2.1, ixQ_n hs]
    simp only [Option.bind_some]
    rw [g1]
    simp only [Option.bind_some]
    rw [s1, stI_n My1 12 _ (show 16 * s + t < 64 by omega)]
    simp only [Option.bind_some]
    rw [s2.1.2.2.2.1, ixQ_n hs]
    simp only [Option.bind_some]
    rw [k1, ldI_n _ 12 (show 16 * s + t < 64 by omega)]
    simp only [Option.bind_some, stF]
    rw [mset_get_ne _ _ (show 12 ≠ 0 ∨ 16 * s + t ≠ 15 by omega), mset_get My1]
    have := use_end h hs hc ht (w3.tr s2) (Xp := mset Mx2 0 10 (My1 12 (16 * s + t) + 1)) (Yp := mset (mset My1 12 (16 * s + t) (My1 12 (16 * s + t) + 1)) 0 15 r) (r := r) (x8 := My1 12 (16 * s + t) + 1) (x3 := 0) (fun a b q => mset_get_ne _ _ (by omega)) (mset_get _ _ _ _) (fun a b q => mset_get_ne _ _ (by omega)) (fun _ => mset_get _ _ _ _)
    rw [if_pos (show (0 : Int32) = 0 from rfl)] at this
    exact this
  · rw [if_neg hr, if_neg hr]
    simp only [Option.bind_some]
    rw [w3.1.2.2.2.1, ixQ_n hs]
    simp only [Option.bind_some]
    rw [g1, Int32.add_zero, stI_n My1 12 _ (show 16 * s + t < 64 by omega), mset_id]
    simp only [Option.bind_some, stF]
    rw [ldI_n _ 12 (show 16 * s + t < 64 by omega), mset_get_ne _ _ (show 12 ≠ 0 ∨ 16 * s + t ≠ 15 by omega)]
    simp only [Option.bind_some]
    have := use_end h hs hc ht w3 (Xp := mset Mx1 0 10 (My1 12 (16 * s + t))) (Yp := mset My1 0 15 r) (r := r) (x8 := My1 12 (16 * s + t)) (x3 := 0) (fun a b q => mset_get_ne _ _ (by omega)) (mset_get _ _ _ _) (fun a b q => mset_get_ne _ _ (by omega)) (fun _ => mset_get _ _ _ _)
    rw [if_pos (show (0 : Int32) = 0 from rfl)] at this
    exact this
theorem use_row (h : Rel c n u Mx My) (hs : s < 4) (hc : c < 512) {t : Nat} (ht : t < n) (x4 x5 x7 : Int32) : OpR c (uX u t 3 x4 x5 (opX s u Mx)) (f_X7_use_147 (nI s) (nI t) 3 x4 x5 x7 My) := by
  have hR := rel_open h hs
  unfold f_X7_use_147 uX f_X6_perform f_X6_perform_0
  simp only [stF, Option.bind_some]
  rw [opY_eq h, if_neg (show ¬ (3 : Int32) = 0 by decide), if_neg (show ¬ (3 : Int32) = 0 by decide), if_neg (show ¬ (3 : Int32) = 1 by decide), if_neg (show ¬ (3 : Int32) = 1 by decide), if_neg (show ¬ (3 : Int32) = 2 by decide), if_neg (show ¬ (3 : Int32) = 2 by decide)]
  simp only [Option.bind_some]
  have := use_end h hs hc ht (Act.rf hR) (Xp := opX s u Mx) (Yp := mset (opY u My) 0 15 0) (r := 0) (x8 := 0) (x3 := 3) (fun a b q => rfl) (mset_get _ _ _ _) (fun a b q => mset_get_ne _ _ (by omega)) (fun _ => by
    unfold opX
    rw [mset_get_ne _ _ (by omega), mset_get_ne _ _ (by omega), mset_get_ne _ _ (by omega), mset_get])
  rw [if_neg (show ¬ (3 : Int32) = 0 by decide)] at this
  exact this
theorem wfE_12 (hW : WF n My) {v f : Nat} (hv : v < n) (hf : f < 5) (h0 : My 6 (5 * v + f) ≠ 0) (h1 : My 6 (5 * v + f) ≠ 1) : My 6 (5 * v + f) = 2 := by
  rcases hW.2.2.2.2.2.2.1 (5 * v + f) (by omega) with q | q | q
  · exact absurd q h0
  · exact absurd q h1
  · exact q
theorem use_ask (h : Rel c n u Mx My) (hs : s < 4) (hc : c < 512) {t f : Nat} (ht : t < n) (hf : f < 5) (w5 w7 : Int32) : OpR c (uX u t 1 (nI f) w5 (opX s u Mx)) (f_X7_use_147 (nI s) (nI t) 1 (nI f) w5 w7 My) := by
  have hn := h.n16
  have hR := rel_open h hs
  obtain ⟨M', m1, m2⟩ := yhome hR.2.1.1 ht hf
  have m0 := xhome hR ht hf
  have hA0 := Act.s29 (d := 0) hR m2
  have hR' := hA0.1
  unfold f_X7_use_147
  simp only [stF, Option.bind_some]
  rw [opY_eq h, if_neg (show ¬ (1 : Int32) = 0 by decide), if_pos (show True from trivial)]
  unfold f_X7_asks f_X7_asks_0
  rw [ist_y hn ht hR.e1]
  simp only [Option.bind_some]
  rw [if_neg (show ¬ (1 : Int32) = 0 by decide), m1]
  simp only [Option.bind_some]
  unfold uX f_X6_perform f_X6_perform_0
  rw [if_neg (show ¬ (1 : Int32) = 0 by decide), if_pos (show (1 : Int32) = 1 from rfl)]
  unfold f_X6_ask f_X6_ask_0
  rw [ist_x hn ht hR.e5]
  simp only [Option.bind_some]
  rw [if_neg (show ¬ (1 : Int32) = 0 by decide), m0]
  simp only [Option.bind_some]
  unfold f_X6_ask_18 f_X7_asks_18
  cases hh : home (opY u My) t f with
  | none =>
    rw [if_pos (show enc none = -1 from rfl), if_pos (show enc none = -1 from rfl)]
    simp only [Option.bind_some]
    have := use_end h hs hc ht hA0 (Xp := opX s u Mx) (Yp := mset M' 0 15 18) (r := 18) (x8 := mset M' 0 15 18 0 39) (x3 := 1) (fun a b q => rfl) (mset_get _ _ _ _) (fun a b q => mset_get_ne _ _ (by omega)) (fun q => absurd q (by decide))
    exact this
  | some v =>
    obtain ⟨hv, hv6⟩ := home_lt hR.2.1.1 ht hh
    have hv16 : v < 16 := by omega
    have hp := fs_ps (n := n) hv hf
    rw [show enc (some v) = nI v from rfl, if_neg (nI_m1 (by omega)), if_neg (nI_m1 (by omega)), ixQ_n hv16, x5, ldI_n M' 6 (show 5 * v + f < 80 by omega)]
    simp only [Option.bind_some]
    rw [ldI_n _ _ hf, hR'.1.at _ _ hp.1 hp.2]
    simp only [Option.bind_some]
    by_cases h1 : M' 6 (5 * v + f) = 1
    · rw [if_pos h1, if_pos h1, ldI_n _ _ hf, hR'.2.1.2.1 v f hv hf h1, ldI_n M' 7 (show 5 * v + f < 80 by omega)]
      simp only [Option.bind_some, stF]
      rw [mset_get_ne _ _ (show 0 ≠ 0 ∨ 39 ≠ 15 by omega), mset_get M']
      have := use_end h hs hc ht hA0 (Xp := mset (opX s u Mx) 0 10 (M' 7 (5 * v + f))) (Yp := mset (mset M' 0 39 (M' 7 (5 * v + f))) 0 15 0) (r := 0) (x8 := M' 7 (5 * v + f)) (x3 := 1) (fun a b q => mset_get_ne _ _ (by omega)) (mset_get _ _ _ _) (fun a b q => by rw [mset_get_ne _ _ (by omega), mset_get_ne _ _ (by omega)]) (fun _ => mset_get _ _ _ _)
      exact this
    · rw [if_neg h1, if_neg h1]
      obtain ⟨r, Mx1, My1, w1, w2, w3⟩ := wakes_sim hR' hv
      rw [w1, w2]
      simp only [Option.bind_some]
      rw [plain_eq hs hv16 hf]
      simp only [Option.bind_some, stF]
      rw [mset_get_ne _ _ (show 0 ≠ 0 ∨ 39 ≠ 15 by omega), mset_get My1]
      by_cases hr : r = 0
      · rw [if_pos hr, w3.1.2.2.2.1, place_eq w3.1.1 hs hv hn]
        simp only [Option.bind_some]
        rw [pk_xP My1 hs v]
        simp only [Option.bind_some]
        rw [num_eq w3.1 hv hf]
        simp only [Option.bind_some, stF]
        have := use_end h hs hc ht (hA0.tr w3) (Xp := mset Mx1 0 10 (My1 11 (5 * pl My1 s v + f))) (Yp := mset (mset My1 0 39 (My1 11 (5 * pl My1 s v + f))) 0 15 r) (r := r) (x8 := My1 11 (5 * pl My1 s v + f)) (x3 := 1) (fun a b q => mset_get_ne _ _ (by omega)) (mset_get _ _ _ _) (fun a b q => by rw [mset_get_ne _ _ (by omega), mset_get_ne _ _ (by omega)]) (fun _ => mset_get _ _ _ _)
        exact this
      · rw [if_neg hr]
        simp only [Option.bind_some]
        have := use_end h hs hc ht (hA0.tr w3) (Xp := Mx1) (Yp := mset (mset My1 0 39 (My1 11 (5 * pl My1 s v + f))) 0 15 r) (r := r) (x8 := My1 11 (5 * pl My1 s v + f)) (x3 := 1) (fun a b q => rfl) (mset_get _ _ _ _) (fun a b q => by rw [mset_get_ne _ _ (by omega), mset_get_ne _ _ (by omega)]) (fun q => absurd q hr)
        exact this
theorem xwrite_eq (h : RW n s Mx My) {t f : Nat} (ht : t < n) (hf : f < 5) (h2 : My 6 (5 * t + f) = 2) (v : Int32) : f_X6_write (nI t) (nI f) v Mx = some (0, mset (mset Mx (pk My s t + 2) (5 * t + f) v) 0 9 (Mx 0 9 + 1)) := by
  have hn := h.n16
  have hs := h.2.2.1
  have hp := fs_ps (n := n) ht hf
  unfold f_X6_write f_X6_write_0
  rw [ixQ_n (show t < 16 by omega)]
  simp only [Option.bind_some]
  rw [ldI_n Mx _ hf, h.1.at _ _ hp.1 hp.2]
  simp only [Option.bind_some]
  rw [if_pos h2, h.2.2.2.1, place_eq h.1 hs ht hn]
  simp only [Option.bind_some]
  rw [pk_xP My hs t]
  simp only [Option.bind_some]
  unfold f_X1_setNumber f_X1_setNumber_0
  rw [x5', stI_n Mx _ v (show 5 * t + f < 80 by omega)]
  simp only [Option.bind_some, stF]
  rw [mset_get_ne _ _ (show 0 ≠ pk My s t + 2 ∨ 9 ≠ 5 * t + f by omega)]
theorem ywrite_eq {M : Mem} (hs : s < 4) {t f : Nat} (ht : t < 16) (hf : f < 5) (h2 : M 6 (5 * t + f) = 2) (v : Int32) : f_X7_write (nI s) (nI t) (nI f) v M = some (0, mset (mset M 11 (5 * pl M s t + f) v) 0 25 (M 0 25 + 1)) := by
  have hpl := pl_lt (My := M) hs ht
  unfold f_X7_write f_X7_write_0
  rw [x5, ldI_n M 6 (show 5 * t + f < 80 by omega)]
  simp only [Option.bind_some]
  rw [if_pos h2, at_eq ht]
  simp only [Option.bind_some]
  rw [x5, stI_n M 11 v (show 5 * pl M s t + f < 400 by omega)]
  simp only [Option.bind_some, stF]
  rw [mset_get_ne _ _ (show 0 ≠ 11 ∨ 25 ≠ 5 * pl M s t + f by omega)]
theorem home_fr {d : Nat} {A B : Mem} (hf : FrM d A B) (t f : Nat) : home B t f = home A t f := by
  unfold home
  rw [chY_fr hf]
  congr 1
  funext v
  unfold hasF
  rw [hf.st (by omega)]
end OPF
