/-! use: a FIELD set; all of use -/
section OPG
variable {c n u s : Nat} {Mx My : Mem}
theorem use_set (h : Rel c n u Mx My) (hs : s < 4) (hc : c < 512) {t f v : Nat} (ht : t < n) (hf : f < 5) (hh : home My t f = some v) (h2 : My 6 (5 * v + f) = 2) (w5 : Int32) : OpR c (uX u t 2 (nI f) w5 (opX s u Mx)) (f_X7_use_147 (nI s) (nI t) 2 (nI f) w5 (nI v) My) := by
  have hn := h.n16
  have hR := rel_open h hs
  obtain ⟨hv, -⟩ := home_lt h.2.1.1 ht hh
  have hv16 : v < 16 := by omega
  have hoh : home (opY u My) t f = some v := by
    have hF : hasF (opY u My) f = hasF My f := by
      funext w
      unfold hasF
      rw [opY_ne (by omega)]
    rw [← hh]
    unfold home
    rw [chY_se (A := My) (B := opY u My) ⟨fun a b _ _ => opY_ne (by omega), opY_ne (by omega)⟩, hF]
  have ho2 : opY u My 6 (5 * v + f) = 2 := by rw [opY_ne (by omega)]; exact h2
  have m0 := xhome hR ht hf
  rw [hoh] at m0
  obtain ⟨r, Mx1, My1, w1, w2, w3⟩ := wakes_sim hR hv
  have hp := fs_ps (n := n) hv hf
  have h12 : My1 6 (5 * v + f) = 2 := by rw [w3.2.2.1.st (by omega)]; exact ho2
  unfold f_X7_use_147
  simp only [stF, Option.bind_some]
  rw [opY_eq h, if_neg (show ¬ (2 : Int32) = 0 by decide), if_neg (show ¬ (2 : Int32) = 1 by decide), if_pos (show True from trivial), w2]
  simp only [Option.bind_some]
  rw [plain_eq hs hv16 hf]
  simp only [Option.bind_some]
  have epl : pl (mset My1 0 15 r) s v = pl My1 s v := by
    unfold pl
    rw [mset_get_ne _ _ (by omega)]
  rw [mset_get, epl, mset_get_ne _ _ (show 11 ≠ 0 ∨ 5 * pl My1 s v + f ≠ 15 by omega)]
  unfold uX f_X6_perform f_X6_perform_0
  rw [if_neg (show ¬ (2 : Int32) = 0 by decide), if_neg (show ¬ (2 : Int32) = 1 by decide), if_pos (show (2 : Int32) = 2 from rfl)]
  unfold f_X6_askAndSet f_X6_askAndSet_0
  rw [m0]
  simp only [Option.bind_some]
  rw [show enc (some v) = nI v from rfl, if_neg (nI_m1 (by omega))]
  unfold f_X6_ask f_X6_ask_0
  rw [ist_x hn ht hR.e5]
  simp only [Option.bind_some]
  rw [if_neg (show ¬ (1 : Int32) = 0 by decide), m0]
  simp only [Option.bind_some]
  unfold f_X6_ask_18
  rw [show enc (some v) = nI v from rfl, if_neg (nI_m1 (by omega)), ixQ_n hv16]
  simp only [Option.bind_some]
  rw [ldI_n _ _ hf, hR.1.at _ _ hp.1 hp.2, ho2]
  simp only [Option.bind_some]
  rw [if_neg (show ¬ (2 : Int32) = 1 by decide), w1]
  simp only [Option.bind_some]
  by_cases hr : r = 0
  · subst hr
    have hB := Act.x10 (d := 0) w3.1 (My1 11 (5 * pl My1 s v + f))
    have hxw := xwrite_eq hB.1 hv hf h12 w5
    have hyw := ywrite_eq hs hv16 hf h12 w5
    obtain ⟨r2, Mx2, My2, a1, a2, a3, -⟩ := write_sim (d := 0) hB.1 hv hf w5
    rw [hxw] at a1
    rw [hyw] at a2
    have a1' := (Option.some.inj a1)
    have a2' := (Option.some.inj a2)
    have hMx2 := congrArg Prod.snd a1'
    have hMy2 := congrArg Prod.snd a2'
    simp only [] at hMx2 hMy2
    have h12' : mset My1 0 15 0 6 (5 * v + f) = 2 := by rw [mset_get_ne _ _ (by omega)]; exact h12
    rw [if_pos (show (0 : Int32) = 0 from rfl), if_pos (show (0 : Int32) = 0 from rfl), w3.1.2.2.2.1, place_eq w3.1.1 hs hv hn]
    simp only [Option.bind_some]
    rw [pk_xP My1 hs v]
    simp only [Option.bind_some]
    rw [num_eq w3.1 hv hf]
    simp only [Option.bind_some, stF]
    unfold f_X6_askAndSet_26
    rw [if_pos (show (0 : Int32) = 0 from rfl), hxw]
    simp only [Option.bind_some]
    rw [ywrite_eq hs hv16 hf h12' w5]
    simp only [Option.bind_some]
    rw [epl, hMx2]
    have e10 : Mx2 0 10 = My1 11 (5 * pl My1 s v + f) := by
      rw [← hMx2, mset_get_ne _ _ (by omega), mset_get_ne _ _ (by omega), mset_get]
    exact use_end h hs hc ht ((w3.tr hB).tr a3) (Xp := Mx2) (r := 0) (x8 := My1 11 (5 * pl My1 s v + f)) (x3 := 2) (fun a b q => rfl) (mset_get _ _ _ _) (fun a b q => by
      rw [← hMy2, mset_get_ne _ _ (by omega), mset_get_ne My1 _ (show 0 ≠ 0 ∨ 25 ≠ 15 by omega)]
      simp only [mset_if]
      by_cases e1 : a = 0 ∧ b = 25
      · rw [if_pos e1, if_pos e1]
      · rw [if_neg e1, if_neg e1]
        by_cases e2 : a = 11 ∧ b = 5 * pl My1 s v + f
        · rw [if_pos e2, if_pos e2]
        · rw [if_neg e2, if_neg e2, if_neg (by omega)]) (fun _ => e10)
  · rw [if_neg hr, if_neg hr]
    simp only [Option.bind_some]
    unfold f_X6_askAndSet_26
    rw [if_neg hr]
    simp only [Option.bind_some]
    exact use_end h hs hc ht w3 (Xp := Mx1) (Yp := mset My1 0 15 r) (r := r) (x8 := My1 11 (5 * pl My1 s v + f)) (x3 := 2) (fun a b q => rfl) (mset_get _ _ _ _) (fun a b q => mset_get_ne _ _ (by omega)) (fun q => absurd q hr)
theorem op_use (h : Rel c n u Mx My) (hc : c < 512) (v1 v2 v3 v4 v5 : Int32) : OpR c (f_X6_use v1 v2 v3 v4 v5 Mx) (f_X7_use v1 v2 v3 v4 v5 My) := by
  have hn := h.n16
  have h0 := h.y0 0
  unfold f_X7_use f_X7_use_0
  simp only [stF, Option.bind_some]
  generalize mset My 0 0 0 = My1 at *
  rcases se_cases v1 with ⟨s, hs, rfl, hx, hy⟩ | ⟨-, hx, hy⟩
  · rw [hy]
    simp only [Option.bind_some]
    rw [if_neg (show ¬ (1 : Int32) = 0 by decide)]
    rcases ty_cases (n := n) hn v2 with ⟨t, ht, rfl, tx, ty⟩ | ⟨-, tx, ty⟩
    · rw [ty My1 h0.e1]
      simp only [Option.bind_some]
      rw [if_neg (show ¬ (1 : Int32) = 0 by decide)]
      have ht16 : t < 16 := by omega
      have hrf : f_X6_refusalOfUse (nI s) (nI t) v3 v4 v5 Mx = (if v3 = (1 : Int32) then (f_X6_refusalOfUse_33 (nI t) v3 v4 v5 1 Mx) else (if v3 = (2 : Int32) then (f_X6_refusalOfUse_33 (nI t) v3 v4 v5 1 Mx) else (f_X6_refusalOfUse_33 (nI t) v3 v4 v5 (0 : Int32) Mx))) := by
        unfold f_X6_refusalOfUse f_X6_refusalOfUse_0
        rw [hx]
        simp only [Option.bind_some]
        rw [if_neg (show ¬ (1 : Int32) = 0 by decide), tx Mx h0.e5]
        simp only [Option.bind_some]
        rw [if_neg (show ¬ (1 : Int32) = 0 by decide)]
        rfl
      unfold f_X6_refusalOfUse_33 at hrf
      unfold f_X7_use_33 f_X7_use_38
      rcases in_cases v3 0 3 with ⟨hr3, ix, iy⟩ | ⟨hr3, ix, iy⟩
      · rw [ix] at hrf
        rw [iy]
        simp only [Option.bind_some] at hrf ⊢
        rw [if_neg (show ¬ (1 : Int32) = 0 by decide), if_neg (show ¬ (1 : Int32) = 0 by decide), if_neg (show ¬ (1 : Int32) = 0 by decide)] at hrf ⊢
        obtain ⟨k, hk, rfl⟩ := nI_range (n := 4) rfl rfl (by omega) hr3
        have hk4 : k = 0 ∨ k = 1 ∨ k = 2 ∨ k = 3 := by omega
        rcases hk4 with rfl | rfl | rfl | rfl
        · rw [if_neg (show ¬ nI 0 = 1 by decide), if_neg (show ¬ nI 0 = 2 by decide), if_pos (show True from trivial)] at hrf ⊢
          unfold f_X6_refusalOfUse_57 f_X6_refusalOfUse_73 f_X6_refusalOfUse_85 at hrf
          unfold f_X7_use_64 f_X7_use_86 f_X7_use_102 f_X7_use_117
          rw [if_neg (show ¬ nI 0 = 2 by decide), if_pos (show nI 0 = 0 from rfl), cl_eq h0 ht] at hrf
          rw [if_neg (show ¬ nI 0 = 2 by decide), if_neg (show ¬ nI 0 = 2 by decide), if_pos (show nI 0 = 0 from rfl), ldI_n My1 1 ht16]
          simp only [Option.bind_some] at hrf ⊢
          by_cases hk : My1 1 t = 0
          · rw [if_pos hk, if_neg (show ¬ (1 : Int32) = 0 by decide), if_neg (show ¬ nI 0 = 2 by decide), ref103 h0 hc] at hrf
            rw [if_pos hk, if_neg (show ¬ nI 0 = 2 by decide), xuse h0 hs hc hrf]
            exact use_make h0 hs hc ht hk _ _ _
          · rw [if_neg hk, if_pos (show (0 : Int32) = 0 from rfl)] at hrf
            rw [if_neg hk, xref hrf (by decide)]
            exact OpR.same h0 _ rfl rfl
        · rw [if_pos (show nI 1 = 1 from rfl)] at hrf ⊢
          rcases fi_cases v4 with ⟨f, hf, rfl, fx, fy⟩ | ⟨-, fx, fy⟩
          · rw [fx] at hrf
            rw [fy]
            simp only [Option.bind_some] at hrf ⊢
            unfold f_X6_refusalOfUse_57 f_X6_refusalOfUse_73 f_X6_refusalOfUse_85 at hrf
            unfold f_X7_use_64 f_X7_use_86 f_X7_use_102 f_X7_use_117
            rw [if_neg (show ¬ (1 : Int32) = 0 by decide), if_neg (show ¬ nI 1 = 2 by decide), if_neg (show ¬ nI 1 = 0 by decide), if_neg (show ¬ nI 1 = 2 by decide), ref103 h0 hc] at hrf
            rw [if_neg (show ¬ (1 : Int32) = 0 by decide), if_neg (show ¬ nI 1 = 2 by decide), if_neg (show ¬ nI 1 = 2 by decide), if_neg (show ¬ nI 1 = 0 by decide), if_neg (show ¬ nI 1 = 2 by decide), xuse h0 hs hc hrf]
            exact use_ask h0 hs hc ht hf _ _
          · rw [fx] at hrf
            rw [fy]
            simp only [Option.bind_some] at hrf ⊢
            rw [if_pos (show True from trivial)] at hrf
            rw [if_pos (show True from trivial), xref hrf (by decide)]
            exact OpR.same h0 _ rfl rfl
        · rw [if_neg (show ¬ nI 2 = 1 by decide), if_pos (show nI 2 = 2 from rfl)] at hrf ⊢
          rcases fi_cases v4 with ⟨f, hf, rfl, fx, fy⟩ | ⟨-, fx, fy⟩
          · rw [fx] at hrf
            rw [fy]
            simp only [Option.bind_some] at hrf ⊢
            unfold f_X6_refusalOfUse_57 f_X6_refusalOfUse_73 f_X6_refusalOfUse_85 at hrf
            unfold f_X7_use_64 f_X7_use_86 f_X7_use_102 f_X7_use_117
            rw [if_neg (show ¬ (1 : Int32) = 0 by decide), if_pos (show nI 2 = 2 from rfl)] at hrf
            rw [if_neg (show ¬ (1 : Int32) = 0 by decide), if_pos (show nI 2 = 2 from rfl)]
            rcases nu_cases v5 with ⟨-, nx, ny⟩ | ⟨-, nx, ny⟩
            · rw [nx] at hrf
              rw [ny]
              simp only [Option.bind_some] at hrf ⊢
              rw [if_neg (show ¬ (1 : Int32) = 0 by decide), if_neg (show ¬ nI 2 = 0 by decide), if_pos (show nI 2 = 2 from rfl)] at hrf
              rw [if_neg (show ¬ (1 : Int32) = 0 by decide), if_pos (show nI 2 = 2 from rfl)]
              obtain ⟨M', m1, m2⟩ := yhome h0.2.1.1 ht hf
              have hh0 := h0.s29 m2
              have m0 := rhome h0.1 h0.2.1 ht hf
              have hhm : home M' t f = home My1 t f := by
                have hF : hasF M' f = hasF My1 f := by
                  funext w
                  unfold hasF
                  rw [m2 6 _ (by omega) (by omega)]
                unfold home
                rw [chY_se (A := My1) (B := M') ⟨fun a b _ _ => m2 a b (by omega) (by omega), m2 0 1 (by omega) (by omega)⟩, hF]
              unfold f_X6_canBeSet f_X6_canBeSet_0 at hrf
              rw [m0] at hrf
              rw [m1]
              simp only [Option.bind_some] at hrf ⊢
              rw [if_neg (show ¬ nI 2 = 0 by decide), if_pos (show nI 2 = 2 from rfl)]
              cases hq : home My1 t f with
              | none =>
                rw [hq, if_pos (show enc none = -1 from rfl), rtZ0] at hrf
                simp only [Option.bind_some] at hrf
                rw [if_pos (show True from trivial)] at hrf
                rw [if_pos (show enc none = -1 from rfl), xref hrf (by decide)]
                exact OpR.same hh0 _ rfl rfl
              | some v =>
                obtain ⟨hv, hv0⟩ := home_lt h0.2.1.1 ht hq
                have hp := fs_ps (n := n) hv hf
                have em : M' 6 (5 * v + f) = My1 6 (5 * v + f) := m2 6 _ (by omega) (by omega)
                rw [hq, show enc (some v) = nI v from rfl, if_neg (nI_m1 (by omega)), ixQ_n (show v < 16 by omega)] at hrf
                simp only [Option.bind_some] at hrf
                rw [ldI_n _ _ hf, h0.1.at _ _ hp.1 hp.2] at hrf
                simp only [Option.bind_some] at hrf
                rw [show enc (some v) = nI v from rfl, if_neg (nI_m1 (by omega)), x5, ldI_n M' 6 (show 5 * v + f < 80 by omega), em]
                simp only [Option.bind_some]
                by_cases h1 : My1 6 (5 * v + f) = 1
                · rw [h1, if_neg (show ¬ (1 : Int32) = 2 by decide), rtZ0] at hrf
                  simp only [Option.bind_some] at hrf
                  rw [if_pos (show True from trivial)] at hrf
                  rw [if_pos h1, xref hrf (by decide)]
                  exact OpR.same hh0 _ rfl rfl
                · have h2 := wfE_12 h0.2.1.1 hv hf hv0 h1
                  rw [if_pos h2, rtZ1] at hrf
                  simp only [Option.bind_some] at hrf
                  rw [if_neg (show ¬ (1 : Int32) = 0 by decide), ref103 h0 hc] at hrf
                  rw [if_neg h1, xuse hh0 hs hc hrf]
                  exact use_set hh0 hs hc ht hf (by rw [hhm]; exact hq) (by rw [em]; exact h2) _
            · rw [nx] at hrf
              rw [ny]
              simp only [Option.bind_some] at hrf ⊢
              rw [if_pos (show True from trivial)] at hrf
              rw [if_pos (show True from trivial), xref hrf (by decide)]
              exact OpR.same h0 _ rfl rfl
          · rw [fx] at hrf
            rw [fy]
            simp only [Option.bind_some] at hrf ⊢
            rw [if_pos (show True from trivial)] at hrf
            rw [if_pos (show True from trivial), xref hrf (by decide)]
            exact OpR.same h0 _ rfl rfl
        · rw [if_neg (show ¬ nI 3 = 1 by decide), if_neg (show ¬ nI 3 = 2 by decide), if_pos (show True from trivial)] at hrf ⊢
          unfold f_X6_refusalOfUse_57 f_X6_refusalOfUse_73 f_X6_refusalOfUse_85 at hrf
          unfold f_X7_use_64 f_X7_use_86 f_X7_use_102 f_X7_use_117
          rw [if_neg (show ¬ nI 3 = 2 by decide), if_neg (show ¬ nI 3 = 0 by decide), if_neg (show ¬ nI 3 = 2 by decide), ref103 h0 hc] at hrf
          rw [if_neg (show ¬ nI 3 = 2 by decide), if_neg (show ¬ nI 3 = 2 by decide), if_neg (show ¬ nI 3 = 0 by decide), if_neg (show ¬ nI 3 = 2 by decide), xuse h0 hs hc hrf]
          exact use_row h0 hs hc ht _ _ _
      · rw [ix] at hrf
        rw [iy]
        simp only [Option.bind_some] at hrf ⊢
        have n1 : ¬ v3 = 1 := fun e => hr3 (by rw [e]; decide)
        have n2 : ¬ v3 = 2 := fun e => hr3 (by rw [e]; decide)
        rw [if_neg n1, if_neg n2] at hrf ⊢
        rw [if_pos (show True from trivial)] at hrf
        rw [if_pos (show True from trivial), xref hrf (by decide)]
        exact OpR.same h0 _ rfl rfl
    · have hrf : f_X6_refusalOfUse (nI s) v2 v3 v4 v5 Mx = some (-101, Mx) := by
        unfold f_X6_refusalOfUse f_X6_refusalOfUse_0
        rw [hx]
        simp only [Option.bind_some]
        rw [if_neg (show ¬ (1 : Int32) = 0 by decide), tx Mx h0.e5]
        rfl
      rw [ty My1 h0.e1, xref hrf (by decide)]
      exact OpR.same h0 _ rfl rfl
  · have hrf : f_X6_refusalOfUse v1 v2 v3 v4 v5 Mx = some (-101, Mx) := by
      unfold f_X6_refusalOfUse f_X6_refusalOfUse_0
      rw [hx]
      rfl
    rw [hy, xref hrf (by decide)]
    exact OpR.same h0 _ rfl rfl
end OPG
