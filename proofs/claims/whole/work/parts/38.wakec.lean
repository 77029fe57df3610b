/-! One LINE, at both sides -/
theorem Act.x10 {n s d : Nat} {Mx My : Mem} (h : RW n s Mx My) (v : Int32) : Act n s d Mx My (mset Mx 0 10 v) My := by
  have hfx : FrX Mx (mset Mx 0 10 v) := FrX.set Mx v (by unfold DX; omega)
  have hS : Sim n (mset Mx 0 10 v) My := h.1.setX h.n16 (Or.inr (by decide)) v
  exact ⟨h.act hS hfx (FrM.rf (d := d)) h.2.2.2.2.1 h.2.2.2.2.2.1 h.2.2.2.2.2.2.1 h.2.2.2.2.2.2.2, hfx, FrM.rf, fun _ _ h1 h2 => h1 h2, Zk.rf⟩
theorem Act.s29 {n s d : Nat} {Mx My My' : Mem} (h : RW n s Mx My) (hm : sm29 My My') : Act n s d Mx My Mx My' := by
  refine Act.mach h (h.1.sm (fun a b hd => ?_)) (fun a b d1 d2 d3 d4 d5 => hm a b (by omega) (by omega)) (fun a b hD => hm a b (by unfold DY at hD; omega) (by unfold DY at hD; omega)) (fun b hb => by rw [hm 22 b (by omega) (by omega)]; exact h.2.2.2.2.2.2.1 b hb)
  have := (dm_b h.n16 hd).1
  exact hm a b (by omega) (by omega)
theorem FI.s29 {d t : Nat} {L : List Nat} {A B : Mem} (h : FI d t L A) (hm : sm29 A B) : FI d t L B := by
  obtain ⟨hd, h26, h19, h25, h24⟩ := h
  exact ⟨hd, by rw [hm 0 26 (by omega) (by omega)]; exact h26, by rw [hm 19 d (by omega) (by omega)]; exact h19, by rw [hm 25 d (by omega) (by omega)]; exact h25, fun j x hj => by rw [hm 24 _ (by omega) (by omega)]; exact h24 j x hj⟩
theorem goes_line {n s d t p i lc : Nat} {L : List Nat} {Mx My : Mem} (h : RW n s Mx My) (hF : FI d t L My) (hL : L.length ≤ 16) (ht : t < n) (h20 : My 20 d = nI p) (hp : p = 1 + L.length + i) (hlc : My 8 t = nI lc) (hi : i < lc) (h8 : lc ≤ 8) : f_X7_goes (nI s) My = (f_X7_does (nI s) (nI d) (mset (mset My 20 d (nI (p + 1))) 22 d (nI (32 * t + 4 * i)))).bind fun (_, M) => some ((0 : Int32), M) := by
  have hn := h.n16
  obtain ⟨hd, h26, h19, h25, h24⟩ := hF
  unfold f_X7_goes f_X7_goes_0
  rw [h26, nI_pred, ldI_n My 19 hd, h19]
  simp only [Option.bind_some]
  rw [ldI_n My 20 hd, h20]
  simp only [Option.bind_some]
  rw [stI_n My 20 _ hd, nI_1]
  simp only [Option.bind_some]
  rw [if_neg (show ¬ nI p = 0 from nI_ne (b := 0) (by omega) (by omega) (by omega)), ldI_n _ 25 hd, mset_get_ne _ _ (by omega), h25]
  simp only [Option.bind_some]
  rw [if_pos (nI_lt (show L.length < p by omega) (by omega)), ldI_n _ 8 (show t < 16 by omega), mset_get_ne _ _ (by omega), hlc]
  simp only [Option.bind_some]
  have e1 : nI p - (1 : Int32) - nI L.length = nI i := by
    rw [nI_pred2 (by omega), pk_sub (by omega)]
    congr 1
    omega
  rw [e1, if_neg (nI_ge hi (by omega))]
  have e2 : (32 : Int32) * nI t + (4 : Int32) * nI i = nI (32 * t + 4 * i) := by
    show nI 32 * nI t + nI 4 * nI i = _
    rw [pk_mul, pk_mul, nI_add]
  rw [e2, stI_n _ 22 _ hd]
  simp only [Option.bind_some]
theorem line_sim {n s d t p i lc A : Nat} {L : List Nat} {Mx My : Mem} {wk : Int32 → Int32 → Mem → Option (Int32 × Mem)} (ih : WIH n s A wk) (h : RW n s Mx My) (hF : FI d t L My) (hL : L.length ≤ 16) (ht : t < n) (h20 : My 20 d = nI p) (h34 : My 0 34 = 0) (hp : p = 1 + L.length + i) (hlc : My 8 t = nI lc) (hi : i < lc) (h8 : lc ≤ 8) (hlok : lok (My 9 (32 * t + 4 * i)) (My 9 (32 * t + 4 * i + 1)) (My 9 (32 * t + 4 * i + 2)) (My 9 (32 * t + 4 * i + 3))) (hA : slp n s My ≤ A) (hd : d + 1 + slp n s My ≤ 16) : ∃ v Mx1, f_X6_doLine wk (nI t) (nI i) (nI d) Mx = some (v, Mx1) ∧ Res n s d t L p Mx My v Mx1 := by
  have hn := h.n16
  have hs := h.2.2.1
  have hd16 := hF.1
  have hg := goes_line h hF hL ht h20 hp hlc hi h8
  generalize hl : 32 * t + 4 * i = l at *
  have hl5 : l < 509 := by omega
  have a1 := Act.m1 (d := d) h (a := 20) (b := d) (nI (p + 1)) (by omega) (by omega)
  have a2 := a1.tr (Act.m1 (d := d) a1.1 (a := 22) (b := d) (nI l) (by omega) (fun _ => ⟨l, hl5, rfl⟩))
  have hF0 : FI d t L (mset (mset My 20 d (nI (p + 1))) 22 d (nI l)) := (hF.set (by omega)).set (by omega)
  have g20 : mset (mset My 20 d (nI (p + 1))) 22 d (nI l) 20 d = nI (p + 1) := by rw [mset_get_ne _ _ (by omega), mset_get]
  have g34 : mset (mset My 20 d (nI (p + 1))) 22 d (nI l) 0 34 = 0 := by rw [mset_get_ne _ _ (by omega), mset_get_ne _ _ (by omega)]; exact h34
  have g22 : mset (mset My 20 d (nI (p + 1))) 22 d (nI l) 22 d = nI l := mset_get _ _ _ _
  generalize hM0 : mset (mset My 20 d (nI (p + 1))) 22 d (nI l) = My0 at *
  have e9 : ∀ b, My0 9 b = My 9 b := fun b => a2.2.2.1.st (by omega)
  -- what both read of the LINE
  have lx : ∀ (X Y : Mem), RW n s X Y → ∀ r, r < 4 → X (33 + 13 * t + (9 + r)) i = Y 9 (l + r) := by
    intro X Y hXY r hr
    have := ln_ps (n := n) (t := t) (i := i) (r := r) ht (by omega) hr
    rw [hl] at this
    exact hXY.1.at _ _ this.1 this.2
  have m1 : nI l + (1 : Int32) = nI (l + 1) := nI_1 l
  have m2 : nI l + (2 : Int32) = nI (l + 2) := nI_add l 2
  have m3 : nI l + (3 : Int32) = nI (l + 3) := nI_add l 3
  have hdo : f_X7_does (nI s) (nI d) My0 = (if My 9 l = 4 then f_X7_does_47 (nI s) (nI d) (nI l) (nI t) (My 9 l) (My 9 (l + 1)) (1 + My 9 (l + 1)) My0 else f_X7_does_47 (nI s) (nI d) (nI l) (nI t) (My 9 l) (My 9 (l + 1)) 1 My0) := by
    unfold f_X7_does f_X7_does_0
    rw [ldI_n My0 22 hd16, g22]
    simp only [Option.bind_some]
    rw [ldI_n My0 19 hd16, hF0.2.2.1]
    simp only [Option.bind_some]
    rw [ldI_n My0 9 (show l < 512 by omega), m1]
    simp only [Option.bind_some]
    rw [ldI_n My0 9 (show l + 1 < 512 by omega), e9, e9]
    simp only [Option.bind_some]
  have hxo : f_X6_doLine wk (nI t) (nI i) (nI d) Mx = (if My 9 l = 4 then f_X6_doLine_46 wk (nI t) (nI i) (nI d) (33 + 13 * t) (My 9 (l + 1)) (My 9 (l + 2)) (1 + My 9 (l + 1)) Mx else f_X6_doLine_46 wk (nI t) (nI i) (nI d) (33 + 13 * t) (My 9 (l + 1)) (My 9 (l + 2)) 1 Mx) := by
    unfold f_X6_doLine f_X6_doLine_0
    rw [ixQ_n (show t < 16 by omega)]
    simp only [Option.bind_some]
    rw [ldI_n Mx _ (show i < 8 by omega), lx Mx My h 1 (by omega)]
    simp only [Option.bind_some]
    rw [ldI_n Mx _ (show i < 8 by omega), lx Mx My h 2 (by omega)]
    simp only [Option.bind_some]
    rw [ldI_n Mx _ (show i < 8 by omega), lx Mx My h 0 (by omega)]
    simp only [Option.bind_some, Nat.add_zero]
  -- for any number of STEPS
  suffices H : ∀ nd : Int32, f_X7_does (nI s) (nI d) My0 = f_X7_does_47 (nI s) (nI d) (nI l) (nI t) (My 9 l) (My 9 (l + 1)) nd My0 → ∃ v Mx1, f_X6_doLine_46 wk (nI t) (nI i) (nI d) (33 + 13 * t) (My 9 (l + 1)) (My 9 (l + 2)) nd Mx = some (v, Mx1) ∧ Res n s d t L p Mx My v Mx1 by
    rw [hxo]
    by_cases h4 : My 9 l = 4
    · rw [if_pos h4] at hdo ⊢
      exact H _ hdo
    · rw [if_neg h4] at hdo ⊢
      exact H _ hdo
  clear hdo hxo
  intro nd hdo
  unfold f_X6_doLine_46
  unfold f_X7_does_47 at hdo
  rw [ldI_n My0 13 hs] at hdo
  simp only [Option.bind_some] at hdo
  obtain ⟨tk1, tk2⟩ := take_sim (d := d) a2.1 nd
  by_cases hnd : nd ≤ My0 13 s
  · rw [if_pos hnd] at hdo
    obtain ⟨Mx2, tx, ta⟩ := tk1 hnd
    rw [tx]
    simp only [Option.bind_some]
    rw [if_neg (show ¬ (1 : Int32) = 0 by decide)]
    unfold f_X7_does_66 at hdo
    rw [if_pos rfl, ldI_n My0 13 hs] at hdo
    simp only [Option.bind_some] at hdo
    rw [stI_n My0 13 _ hs] at hdo
    simp only [Option.bind_some, stF] at hdo
    rw [mset_get_ne My0 _ (show 0 ≠ 13 ∨ 21 ≠ s by omega)] at hdo
    have a3 := a2.tr ta
    have hfy : FrY My0 (mset (mset My0 13 s (My0 13 s - nd)) 0 21 (My0 0 21 + nd)) := FrY.tr (FrY.set My0 _ (by unfold DY; omega)) (FrY.set _ _ (by unfold DY; omega))
    have hF2 := hF0.fry hL hfy
    have k20 : mset (mset My0 13 s (My0 13 s - nd)) 0 21 (My0 0 21 + nd) 20 d = nI (p + 1) := by rw [hfy 20 d (by unfold DY; omega)]; exact g20
    have k34 : mset (mset My0 13 s (My0 13 s - nd)) 0 21 (My0 0 21 + nd) 0 34 = 0 := by rw [hfy 0 34 (by unfold DY; omega)]; exact g34
    have k22 : mset (mset My0 13 s (My0 13 s - nd)) 0 21 (My0 0 21 + nd) 22 d = nI l := by rw [hfy 22 d (by unfold DY; omega)]; exact g22
    have k9 : ∀ b, mset (mset My0 13 s (My0 13 s - nd)) 0 21 (My0 0 21 + nd) 9 b = My 9 b := fun b => by rw [hfy 9 b (by unfold DY; omega)]; exact e9 b
    generalize mset (mset My0 13 s (My0 13 s - nd)) 0 21 (My0 0 21 + nd) = My2 at *
    have hs2 := slp_le a3
    rw [ldI_n Mx2 _ (show i < 8 by omega), show (33 + 13 * t + 9) = 33 + 13 * t + (9 + 0) from rfl, lx Mx2 My2 a3.1 0 (by omega), Nat.add_zero, k9]
    simp only [Option.bind_some]
    have imm : ∀ (r : Int32) (Mx3 My3 : Mem), Act n s d Mx2 My2 Mx3 My3 → FI d t L My3 → My3 20 d = nI (p + 1) → My3 0 34 = 0 → f_X7_does (nI s) (nI d) My0 = f_X7_does_248 (nI s) r My3 → Res n s d t L p Mx My r Mx3 := fun r Mx3 My3 q1 q2 q3 q4 q5 => fin_does hF.2.1 h34 hg (a3.tr q1) q2 q3 q4 q5
    -- an answer that is waited for, at depth d + 1
    have wait : ∀ (r : Int32) (Mx3 My3 My3' My4 Mx5 My5 : Mem) (c : Nat), f_X7_does (nI s) (nI d) My0 = some (0, My3') → (∀ k, f_X7_wakes_11 (k + c) (nI s) My3' = f_X7_wakes_11 k (nI s) My4) → Act n s d Mx2 My2 Mx3 My3 → Act n s (d + 1) Mx3 My3 Mx5 My4 → True → My4 0 26 = nI (d + 1) ∧ My4 0 34 = 1 → ∀ Mx6, Act n s d Mx5 My4 Mx6 My5 → FI d t L My5 → My5 20 d = nI (p + 1) → My5 0 34 = 0 → f_X7_heard (nI s) My4 = f_X7_heard_195 (nI s) r My5 → c + 60 * slp n s My4 ≤ 60 * slp n s My3 → Res n s d t L p Mx My r Mx6 := by
      intro r Mx3 My3 My3' My4 Mx5 My5 c q1 q2 q3 q4 _ q5 Mx6 q6 q7 q8 q9 q10 q11
      have b1 := a3.tr q3
      have b2 := (b1.tr (q4.dn (d := d) (by omega))).tr q6
      have s1 := slp_le b1
      have s2 := slp_le q6
      refine fin_heard (c0 := c + 1) (M' := My4) b2 q7 q8 q9 (fun k => ?_) q5 q10 (by omega)
      rw [show k + (c + 1) = k + c + 1 by omega, lp_goes (v := 0) hF.2.1 hF.1 h34 (by rw [hg, q1]; rfl), q2]
    generalize ha : My 9 (l + 1) = a at *
    rcases hlok with ⟨e, f, hf, ea⟩ | ⟨e, ⟨f, hf, ea⟩, ⟨u, hu, eb⟩, ⟨g, hgg, ec⟩⟩ | ⟨e, u, hu, ea⟩ | e | e | e | ⟨e, ⟨f, hf, ea⟩, ⟨u, hu, eb⟩⟩
    · -- PUT
      rw [e] at hdo ⊢
      rw [if_pos rfl] at hdo ⊢
      rw [m2, ldI_n My2 9 (show l + 2 < 512 by omega), k9] at hdo
      simp only [Option.bind_some] at hdo
      subst ea
      obtain ⟨r, Mx3, My3, q1, q2, q3, q4⟩ := write_sim (d := d) a3.1 ht hf (My 9 (l + 2))
      rw [q1]
      rw [q2] at hdo
      exact ⟨r, Mx3, rfl, imm r Mx3 My3 q3 (hF2.fry hL q4) (by rw [q4 20 d (by unfold DY; omega)]; exact k20) (by rw [q4 0 34 (by unfold DY; omega)]; exact k34) hdo⟩
    · -- ADD
      rw [e] at hdo ⊢
      rw [if_neg (show ¬ (1 : Int32) = 0 by decide), if_pos rfl] at hdo ⊢
      rw [ldI_n Mx2 _ (show i < 8 by omega), show (33 + 13 * t + 12) = 33 + 13 * t + (9 + 3) from rfl, lx Mx2 My2 a3.1 3 (by omega), k9, ec, eb]
      simp only [Option.bind_some]
      subst ea
      unfold f_X6_askAndAdd f_X6_askAndAdd_0 f_X6_ask f_X6_ask_0
      have hwf := a3.1.2.1.1
      have e5 : Mx2 0 5 = nI n := (a3.1.1.at 0 1 (by simp [dm]) rfl).trans hwf.2.1
      have hdo2 : f_X7_asksFor (nI s) (nI d) My2 = ((f_X7_isType (nI u) My2).bind fun (v9, M7) => if v9 = 0 then (f_X7_asksFor_48 (nI s) (nI d) (nI l) (nI g) (-1 : Int32) M7) else ((f_X7_homeOf (nI u) (nI g) M7).bind fun (v13, M11) => f_X7_asksFor_48 (nI s) (nI d) (nI l) (nI g) v13 M11)) := by
        unfold f_X7_asksFor f_X7_asksFor_0
        rw [ldI_n My2 22 hd16, k22]
        simp only [Option.bind_some]
        rw [m2, m3, ldI_n My2 9 (show l + 2 < 512 by omega), k9, eb]
        simp only [Option.bind_some]
        rw [ldI_n My2 9 (show l + 3 < 512 by omega), k9, ec]
        simp only [Option.bind_some]
      rcases ty_cases (n := n) hn (nI u) with ⟨u', hu', he, hx, hy⟩ | ⟨hne, hx, hy⟩
      · have hue : u' = u := ((nI_eq (by omega) (by omega)).mp he).symm
        subst hue
        rw [hx Mx2 e5]
        rw [hy My2 hwf.2.1] at hdo2
        simp only [Option.bind_some] at hdo2 ⊢
        rw [if_neg (show ¬ (1 : Int32) = 0 by decide)] at hdo2 ⊢
        rw [xhome a3.1 hu' hgg]
        obtain ⟨My2', y1, y2⟩ := yhome hwf hu' hgg
        rw [y1] at hdo2
        simp only [Option.bind_some] at hdo2 ⊢
        have b1 := Act.s29 (d := d) a3.1 y2
        have hF3 := hF2.s29 y2
        have j20 : My2' 20 d = nI (p + 1) := by rw [y2 20 d (by omega) (by omega)]; exact k20
        have j34 : My2' 0 34 = 0 := by rw [y2 0 34 (by omega) (by omega)]; exact k34
        have j9 : ∀ b, My2' 9 b = My 9 b := fun b => by rw [y2 9 b (by omega) (by omega)]; exact k9 b
        have j22 : My2' 22 d = nI l := by rw [y2 22 d (by omega) (by omega)]; exact k22
        cases hh : home My2 u' g with
        | none =>
          rw [hh, show enc none = (-1 : Int32) from rfl] at hdo2
          rw [show enc none = (-1 : Int32) from rfl]
          unfold f_X6_ask_18
          unfold f_X7_asksFor_48 at hdo2
          first | rw [if_pos rfl] at hdo2 | rw [if_pos trivial] at hdo2
          rw [hdo2] at hdo
          first | rw [if_pos rfl] | rw [if_pos trivial]
          simp only [Option.bind_some] at hdo ⊢
          rw [if_neg (show ¬ (18 : Int32) = 0 by decide)]
          exact ⟨18, Mx2, rfl, imm 18 Mx2 My2' b1 hF3 j20 j34 hdo⟩
        | some v =>
          obtain ⟨hv, hv0⟩ := home_lt hwf hu' hh
          rw [hh, show enc (some v) = nI v from rfl] at hdo2
          rw [show enc (some v) = nI v from rfl]
          unfold f_X6_ask_18
          unfold f_X7_asksFor_48 at hdo2
          rw [if_neg (nI_m1 (show v < 2 ^ 31 by omega)), x5, ldI_n My2' 6 (show 5 * v + g < 80 by omega), y2 6 _ (by omega) (by omega)] at hdo2
          rw [if_neg (nI_m1 (show v < 2 ^ 31 by omega)), ixQ_n (show v < 16 by omega)]
          simp only [Option.bind_some] at hdo2 ⊢
          have hps := fs_ps (n := n) hv hgg
          rw [ldI_n Mx2 _ hgg, a3.1.1.at _ _ hps.1 hps.2]
          simp only [Option.bind_some]
          by_cases h1 : My2 6 (5 * v + g) = 1
          · -- a CONSTANT
            rw [if_pos h1] at hdo2 ⊢
            rw [ldI_n Mx2 _ hgg, a3.1.2.1.2.1 v g hv hgg h1]
            simp only [Option.bind_some, stF]
            rw [ldI_n My2' 19 hd16, hF3.2.2.1] at hdo2
            simp only [Option.bind_some] at hdo2
            rw [m1, ldI_n My2' 9 (show l + 1 < 512 by omega), j9] at hdo2
            simp only [Option.bind_some] at hdo2
            have ha1 : My 9 (l + 1) = nI f := ha
            rw [ha1, plain_eq hs (show t < 16 by omega) hf] at hdo2
            simp only [Option.bind_some] at hdo2
            rw [ldI_n My2' 7 (show 5 * v + g < 80 by omega), y2 7 _ (by omega) (by omega)] at hdo2
            simp only [Option.bind_some] at hdo2
            have b2 := b1.tr (Act.x10 (d := d) b1.1 (My2 7 (5 * v + g)))
            rw [if_pos trivial, b2.1.2.2.2.1, place_eq b2.1.1 hs ht hn]
            simp only [Option.bind_some]
            rw [pk_xP My2' hs t]
            simp only [Option.bind_some]
            rw [num_eq b2.1 ht hf]
            simp only [Option.bind_some]
            rw [mset_get]
            obtain ⟨r, Mx3, My3, q1, q2, q3, q4⟩ := write_sim (d := d) b2.1 ht hf (My2' 11 (5 * pl My2' s t + f) + My2 7 (5 * v + g))
            rw [q1]
            rw [q2] at hdo2
            rw [hdo2] at hdo
            simp only [Option.bind_some] at hdo ⊢
            exact ⟨r, Mx3, rfl, imm r Mx3 My3 (b2.tr q3) (hF3.fry hL q4) (by rw [q4 20 d (by unfold DY; omega)]; exact j20) (by rw [q4 0 34 (by unfold DY; omega)]; exact j34) hdo⟩
          · -- a PLAIN one: its HOME is STARTED
            rw [if_neg h1] at hdo2 ⊢
            rw [stI_n My2' 21 3 hd16] at hdo2
            simp only [Option.bind_some] at hdo2
            rw [stI_n _ 23 (nI v) hd16] at hdo2
            simp only [Option.bind_some] at hdo2
            have b2 := b1.tr (Act.m1 (d := d) b1.1 (a := 21) (b := d) 3 (by omega) (by omega))
            have b3 := b2.tr (Act.m1 (d := d) b2.1 (a := 23) (b := d) (nI v) (by omega) (by omega))
            have hF4 : FI d t L (mset (mset My2' 21 d 3) 23 d (nI v)) := (hF3.set (by omega)).set (by omega)
            have s3 := slp_le b3
            obtain ⟨r, Mx', My3', My4, c, q1, q2, q3, q4, q5, q6, q7, q8⟩ := ih Mx2 _ v (d + 1) b3.1 hF4.2.1 hv (by omega) (by omega)
            rw [q2] at hdo2
            rw [hdo2] at hdo
            simp only [Option.bind_some] at hdo
            have e1 : nI d + (1 : Int32) = nI (d + 1) := nI_1 d
            rw [e1, q1]
            simp only [Option.bind_some]
            have hF5 : FI d t L My4 := hF4.fr hL q4.2.2.1 q5
            have i20 : My4 20 d = nI (p + 1) := by rw [q4.2.2.1 20 d (by unfold DY; omega) (by omega) (by omega) (by omega) (by omega), mset_get_ne _ _ (by omega), mset_get_ne _ _ (by omega)]; exact j20
            have i21 : My4 21 d = 3 := by rw [q4.2.2.1 21 d (by unfold DY; omega) (by omega) (by omega) (by omega) (by omega), mset_get_ne _ _ (by omega), mset_get]
            have i23 : My4 23 d = nI v := by rw [q4.2.2.1 23 d (by unfold DY; omega) (by omega) (by omega) (by omega) (by omega), mset_get]
            have i22 : My4 22 d = nI l := by rw [q4.2.2.1 22 d (by unfold DY; omega) (by omega) (by omega) (by omega) (by omega), mset_get_ne _ _ (by omega), mset_get_ne _ _ (by omega)]; exact j22
            have i9 : ∀ b, My4 9 b = My 9 b := fun b => by rw [q4.2.2.1.st (by omega), mset_get_ne _ _ (by omega), mset_get_ne _ _ (by omega)]; exact j9 b
            have ha1 : My 9 (l + 1) = nI f := ha
            have b4 := Act.m1 (d := d) q4.1 (a := 0) (b := 34) 0 (by omega) (by omega)
            have hF6 : FI d t L (mset My4 0 34 0) := hF5.set (by omega)
            have hhd := heard_eq q4.1 hF5 hl5 i22
            rw [i21, if_neg (by decide), if_neg (by decide), if_pos rfl, q7, i9, ha1] at hhd
            have hq1 : f_X7_does (nI s) (nI d) My0 = some (0, My3') := by
              rw [hdo]
              unfold f_X7_does_248
              first | rw [if_pos rfl] | rw [if_pos trivial]
            by_cases hr : r = 0
            · rw [if_pos hr] at hhd ⊢
              rw [plain_eq hs (show t < 16 by omega) hf] at hhd
              simp only [Option.bind_some] at hhd
              rw [ldI_n _ 23 hd16, mset_get_ne _ _ (show 23 ≠ 0 ∨ d ≠ 34 by omega), i23] at hhd
              simp only [Option.bind_some] at hhd
              rw [m3, ldI_n _ 9 (show l + 3 < 512 by omega), mset_get_ne _ _ (show 9 ≠ 0 ∨ l + 3 ≠ 34 by omega), i9, ec] at hhd
              simp only [Option.bind_some] at hhd
              rw [plain_eq hs (show v < 16 by omega) hgg] at hhd
              simp only [Option.bind_some] at hhd
              rw [b4.1.2.2.2.1, place_eq b4.1.1 hs hv hn]
              simp only [Option.bind_some]
              rw [pk_xP _ hs v]
              simp only [Option.bind_some]
              rw [num_eq b4.1 hv hgg]
              simp only [Option.bind_some, stF]
              have b5 := b4.tr (Act.x10 (d := d) b4.1 (mset My4 0 34 0 11 (5 * pl (mset My4 0 34 0) s v + g)))
              rw [if_pos hr, b5.1.2.2.2.1, place_eq b5.1.1 hs ht hn]
              simp only [Option.bind_some]
              rw [pk_xP _ hs t]
              simp only [Option.bind_some]
              rw [num_eq b5.1 ht hf]
              simp only [Option.bind_some]
              rw [mset_get]
              obtain ⟨r2, Mx3, My3, w1, w2, w3, w4⟩ := write_sim (d := d) b5.1 ht hf (mset My4 0 34 0 11 (5 * pl (mset My4 0 34 0) s t + f) + mset My4 0 34 0 11 (5 * pl (mset My4 0 34 0) s v + g))
              rw [w1]
              rw [w2] at hhd
              simp only [Option.bind_some] at hhd ⊢
              exact ⟨r2, Mx3, rfl, wait r2 Mx2 _ My3' My4 Mx' My3 c hq1 q3 b3 q4 trivial ⟨q5, q6⟩ Mx3 (b5.tr w3) (hF6.fry hL w4) (by rw [w4 20 d (by unfold DY; omega), mset_get_ne _ _ (by omega)]; exact i20) (by rw [w4 0 34 (by unfold DY; omega), mset_get]) hhd q8⟩
            · rw [if_neg hr] at hhd ⊢
              simp only [Option.bind_some]
              rw [if_neg hr]
              exact ⟨r, Mx', rfl, wait r Mx2 _ My3' My4 Mx' _ c hq1 q3 b3 q4 trivial ⟨q5, q6⟩ Mx' b4 hF6 (by rw [mset_get_ne _ _ (by omega)]; exact i20) (mset_get _ _ _ _) hhd q8⟩
      · rw [hx Mx2 e5]
        rw [hy My2 hwf.2.1] at hdo2
        simp only [Option.bind_some] at hdo2 ⊢
        first | rw [if_pos rfl] at hdo2 ⊢ | rw [if_pos trivial] at hdo2 ⊢
        unfold f_X6_ask_18
        unfold f_X7_asksFor_48 at hdo2
        rw [if_pos rfl] at hdo2 ⊢
        rw [hdo2] at hdo
        simp only [Option.bind_some] at hdo ⊢
        rw [if_neg (show ¬ (18 : Int32) = 0 by decide)]
        exact ⟨18, Mx2, rfl, imm 18 Mx2 My2 (Act.rf a3.1) hF2 k20 k34 hdo⟩
    · -- MAKE
      rw [e] at hdo ⊢
      rw [if_neg (show ¬ (2 : Int32) = 0 by decide), if_neg (show ¬ (2 : Int32) = 1 by decide), if_pos rfl] at hdo ⊢
      subst ea
      unfold f_X7_does_152 at hdo
      rw [if_pos rfl] at hdo
      unfold f_X7_does_168 at hdo
      rw [stI_n My2 21 1 hd16] at hdo
      simp only [Option.bind_some] at hdo
      first | rw [if_pos rfl] at hdo | rw [if_pos trivial] at hdo
      unfold f_X7_does_190 at hdo
      have b1 := Act.m1 (d := d) a3.1 (a := 21) (b := d) 1 (by omega) (by omega)
      have hF3 : FI d t L (mset My2 21 d 1) := hF2.set (by omega)
      have s3 := slp_le b1
      obtain ⟨r, Mx', My3', My4, c, q2, q3, q4, q5, q6, q7, q8, q9, q10⟩ := mk_sim (d := d + 1) ih b1.1 hF3.2.1 hu (by omega) (by omega)
      rw [q2] at hdo
      simp only [Option.bind_some] at hdo
      have hq1 : f_X7_does (nI s) (nI d) My0 = some (0, My3') := by
        rw [hdo]
        unfold f_X7_does_248
        first | rw [if_pos rfl] | rw [if_pos trivial]
      have e1 : nI d + (1 : Int32) = nI (d + 1) := nI_1 d
      rw [e1]
      have hF5 : FI d t L My4 := hF3.fr hL q4.2.2.1 q5
      have i20 : My4 20 d = nI (p + 1) := by rw [q4.2.2.1 20 d (by unfold DY; omega) (by omega) (by omega) (by omega) (by omega), mset_get_ne _ _ (by omega)]; exact k20
      have i21 : My4 21 d = 1 := by rw [q4.2.2.1 21 d (by unfold DY; omega) (by omega) (by omega) (by omega) (by omega), mset_get]
      have i22 : My4 22 d = nI l := by rw [q4.2.2.1 22 d (by unfold DY; omega) (by omega) (by omega) (by omega) (by omega), mset_get_ne _ _ (by omega)]; exact k22
      have i9 : ∀ b, My4 9 b = My 9 b := fun b => by rw [q4.2.2.1.st (by omega), mset_get_ne _ _ (by omega)]; exact k9 b
      have ha1 : My 9 (l + 1) = nI u := ha
      have b4 := Act.m1 (d := d) q4.1 (a := 0) (b := 34) 0 (by omega) (by omega)
      have hF6 : FI d t L (mset My4 0 34 0) := hF5.set (by omega)
      have hhd := heard_eq q4.1 hF5 hl5 i22
      rw [i21, if_pos rfl, q7, i9, ha1] at hhd
      unfold f_X7_heard_64 at hhd
      rw [ldI_n _ 21 hd16, mset_get_ne _ _ (show 21 ≠ 0 ∨ d ≠ 34 by omega), i21] at hhd
      simp only [Option.bind_some] at hhd
      first | rw [if_pos rfl] at hhd | rw [if_pos trivial] at hhd
      unfold f_X7_heard_88 at hhd
      by_cases hr : r = 0
      · obtain ⟨hun, hmk⟩ := q10 hr
        obtain ⟨t1, t2⟩ := thing_sim (d := d) b4.1 hun
        have t12 : mset My4 0 34 0 12 (16 * s + u) = My4 12 (16 * s + u) := mset_get_ne _ _ (by omega)
        obtain ⟨Mx3, t3, t4⟩ := t2 (My4 12 (16 * s + u) + 1)
        rw [hmk Mx3 t3]
        simp only [Option.bind_some]
        rw [if_pos hr, x16, ldI_n _ 12 (show 16 * s + u < 64 by omega)] at hhd
        simp only [Option.bind_some] at hhd
        rw [stI_n _ 12 _ (show 16 * s + u < 64 by omega), t12] at hhd
        simp only [Option.bind_some] at hhd
        unfold f_X7_heard_111 at hhd
        rw [ldI_n _ 21 hd16, mset_get_ne _ _ (show 21 ≠ 12 ∨ d ≠ 16 * s + u by omega), mset_get_ne _ _ (show 21 ≠ 0 ∨ d ≠ 34 by omega), i21] at hhd
        simp only [Option.bind_some] at hhd
        first | rw [if_pos rfl] at hhd | rw [if_pos trivial] at hhd
        unfold f_X7_heard_136 at hhd
        have hfy2 : FrY (mset My4 0 34 0) (mset (mset My4 0 34 0) 12 (16 * s + u) (My4 12 (16 * s + u) + 1)) := FrY.set _ _ (by unfold DY; omega)
        refine ⟨0, Mx3, rfl, wait 0 Mx2 _ My3' My4 Mx' _ c hq1 q3 b1 q4 trivial ⟨q5, q6⟩ Mx3 (b4.tr t4) (hF6.fry hL hfy2) (by rw [hfy2 20 d (by unfold DY; omega), mset_get_ne _ _ (by omega)]; exact i20) (by rw [hfy2 0 34 (by unfold DY; omega), mset_get]) (by rw [hhd, hr]) q8⟩
      · rw [q9 hr]
        simp only [Option.bind_some]
        rw [if_neg hr] at hhd
        unfold f_X7_heard_111 at hhd
        rw [ldI_n _ 21 hd16, mset_get_ne _ _ (show 21 ≠ 0 ∨ d ≠ 34 by omega), i21] at hhd
        simp only [Option.bind_some] at hhd
        first | rw [if_pos rfl] at hhd | rw [if_pos trivial] at hhd
        unfold f_X7_heard_136 at hhd
        exact ⟨r, Mx', rfl, wait r Mx2 _ My3' My4 Mx' _ c hq1 q3 b1 q4 trivial ⟨q5, q6⟩ Mx' b4 hF6 (by rw [mset_get_ne _ _ (by omega)]; exact i20) (mset_get _ _ _ _) hhd q8⟩
    · -- FAIL
      rw [e] at hdo ⊢
      rw [if_neg (show ¬ (3 : Int32) = 0 by decide), if_neg (show ¬ (3 : Int32) = 1 by decide), if_neg (show ¬ (3 : Int32) = 2 by decide), if_neg (show ¬ (3 : Int32) = 6 by decide), if_pos rfl] at hdo
      rw [if_neg (show ¬ (3 : Int32) = 0 by decide), if_neg (show ¬ (3 : Int32) = 1 by decide), if_neg (show ¬ (3 : Int32) = 2 by decide), if_pos rfl]
      exact ⟨_, Mx2, rfl, imm _ Mx2 My2 (Act.rf a3.1) hF2 k20 k34 hdo⟩
    · -- WAIT
      rw [e] at hdo ⊢
      rw [if_neg (show ¬ (4 : Int32) = 0 by decide), if_neg (show ¬ (4 : Int32) = 1 by decide), if_neg (show ¬ (4 : Int32) = 2 by decide), if_neg (show ¬ (4 : Int32) = 6 by decide), if_neg (show ¬ (4 : Int32) = 3 by decide), if_neg (show ¬ (4 : Int32) = 5 by decide)] at hdo
      rw [if_neg (show ¬ (4 : Int32) = 0 by decide), if_neg (show ¬ (4 : Int32) = 1 by decide), if_neg (show ¬ (4 : Int32) = 2 by decide), if_neg (show ¬ (4 : Int32) = 3 by decide), if_pos rfl]
      exact ⟨_, Mx2, rfl, imm _ Mx2 My2 (Act.rf a3.1) hF2 k20 k34 hdo⟩
    · -- TELL
      rw [e] at hdo ⊢
      rw [if_neg (show ¬ (5 : Int32) = 0 by decide), if_neg (show ¬ (5 : Int32) = 1 by decide), if_neg (show ¬ (5 : Int32) = 2 by decide), if_neg (show ¬ (5 : Int32) = 6 by decide), if_neg (show ¬ (5 : Int32) = 3 by decide), if_pos rfl] at hdo
      rw [if_neg (show ¬ (5 : Int32) = 0 by decide), if_neg (show ¬ (5 : Int32) = 1 by decide), if_neg (show ¬ (5 : Int32) = 2 by decide), if_neg (show ¬ (5 : Int32) = 3 by decide), if_neg (show ¬ (5 : Int32) = 4 by decide), if_pos rfl]
      obtain ⟨Mx3, My3, q1, q2, q3⟩ := msg_sim (d := d) a3.1 a
      rw [q1]
      simp only [Option.bind_some]
      have hm : FrY My2 My3 ∧ f_X7_does (nI s) (nI d) My0 = f_X7_does_248 (nI s) 0 My3 := by
        by_cases h100 : (100 : Int32) ≤ My2 0 19
        · rw [if_pos h100] at hdo q2
          cases q2
          exact ⟨FrY.rf, hdo⟩
        · rw [if_neg h100] at hdo q2
          obtain ⟨M15, w1, w2⟩ := bindS q2
          rw [w1] at hdo
          simp only [Option.bind_some] at hdo
          unfold stF at w2
          cases w2
          refine ⟨?_, hdo⟩
          unfold stI at w1
          split at w1
          · cases w1
            exact FrY.tr (FrY.set _ _ (by unfold DY; omega)) (FrY.set _ _ (by unfold DY; omega))
          · cases w1
      exact ⟨0, Mx3, rfl, imm 0 Mx3 My3 q3 (hF2.fry hL hm.1) (by rw [hm.1 20 d (by unfold DY; omega)]; exact k20) (by rw [hm.1 0 34 (by unfold DY; omega)]; exact k34) hm.2⟩
    · -- TRY
      rw [e] at hdo ⊢
      rw [if_neg (show ¬ (6 : Int32) = 0 by decide), if_neg (show ¬ (6 : Int32) = 1 by decide), if_neg (show ¬ (6 : Int32) = 2 by decide), if_pos rfl] at hdo
      rw [if_neg (show ¬ (6 : Int32) = 0 by decide), if_neg (show ¬ (6 : Int32) = 1 by decide), if_neg (show ¬ (6 : Int32) = 2 by decide), if_neg (show ¬ (6 : Int32) = 3 by decide), if_neg (show ¬ (6 : Int32) = 4 by decide), if_neg (show ¬ (6 : Int32) = 5 by decide), if_pos rfl, eb]
      subst ea
      unfold f_X7_does_152 at hdo
      rw [if_neg (show ¬ (6 : Int32) = 2 by decide)] at hdo
      unfold f_X7_does_168 at hdo
      rw [stI_n My2 21 2 hd16] at hdo
      simp only [Option.bind_some] at hdo
      rw [if_neg (show ¬ (6 : Int32) = 2 by decide), m2, ldI_n _ 9 (show l + 2 < 512 by omega), mset_get_ne _ _ (by omega), k9, eb] at hdo
      simp only [Option.bind_some] at hdo
      unfold f_X7_does_190 at hdo
      have b1 := Act.m1 (d := d) a3.1 (a := 21) (b := d) 2 (by omega) (by omega)
      have hF3 : FI d t L (mset My2 21 d 2) := hF2.set (by omega)
      have s3 := slp_le b1
      obtain ⟨r, Mx', My3', My4, c, q2, q3, q4, q5, q6, q7, q8, q9, q10⟩ := mk_sim (d := d + 1) ih b1.1 hF3.2.1 hu (by omega) (by omega)
      rw [q2] at hdo
      simp only [Option.bind_some] at hdo
      have hq1 : f_X7_does (nI s) (nI d) My0 = some (0, My3') := by
        rw [hdo]
        unfold f_X7_does_248
        first | rw [if_pos rfl] | rw [if_pos trivial]
      have e1 : nI d + (1 : Int32) = nI (d + 1) := nI_1 d
      rw [e1]
      have hF5 : FI d t L My4 := hF3.fr hL q4.2.2.1 q5
      have i20 : My4 20 d = nI (p + 1) := by rw [q4.2.2.1 20 d (by unfold DY; omega) (by omega) (by omega) (by omega) (by omega), mset_get_ne _ _ (by omega)]; exact k20
      have i21 : My4 21 d = 2 := by rw [q4.2.2.1 21 d (by unfold DY; omega) (by omega) (by omega) (by omega) (by omega), mset_get]
      have i22 : My4 22 d = nI l := by rw [q4.2.2.1 22 d (by unfold DY; omega) (by omega) (by omega) (by omega) (by omega), mset_get_ne _ _ (by omega)]; exact k22
      have i9 : ∀ b, My4 9 b = My 9 b := fun b => by rw [q4.2.2.1.st (by omega), mset_get_ne _ _ (by omega)]; exact k9 b
      have ha1 : My 9 (l + 1) = nI f := ha
      have b4 := Act.m1 (d := d) q4.1 (a := 0) (b := 34) 0 (by omega) (by omega)
      have hF6 : FI d t L (mset My4 0 34 0) := hF5.set (by omega)
      have hhd := heard_eq q4.1 hF5 hl5 i22
      rw [i21, if_neg (by decide), if_pos rfl, q7, i9, ha1] at hhd
      unfold f_X7_heard_64 at hhd
      rw [ldI_n _ 21 hd16, mset_get_ne _ _ (show 21 ≠ 0 ∨ d ≠ 34 by omega), i21] at hhd
      simp only [Option.bind_some] at hhd
      rw [if_neg (show ¬ (2 : Int32) = 1 by decide), m2, ldI_n _ 9 (show l + 2 < 512 by omega), mset_get_ne _ _ (show 9 ≠ 0 ∨ l + 2 ≠ 34 by omega), i9, eb] at hhd
      simp only [Option.bind_some] at hhd
      unfold f_X7_heard_88 at hhd
      by_cases hr : r = 0
      · obtain ⟨hun, hmk⟩ := q10 hr
        obtain ⟨t1, t2⟩ := thing_sim (d := d) b4.1 hun
        have t12 : mset My4 0 34 0 12 (16 * s + u) = My4 12 (16 * s + u) := mset_get_ne _ _ (by omega)
        obtain ⟨Mx3, t3, t4⟩ := t2 (My4 12 (16 * s + u) + 1)
        rw [hmk Mx3 t3]
        simp only [Option.bind_some]
        rw [if_pos hr, x16, ldI_n _ 12 (show 16 * s + u < 64 by omega)] at hhd
        simp only [Option.bind_some] at hhd
        rw [stI_n _ 12 _ (show 16 * s + u < 64 by omega), t12] at hhd
        simp only [Option.bind_some] at hhd
        unfold f_X7_heard_111 at hhd
        rw [ldI_n _ 21 hd16, mset_get_ne _ _ (show 21 ≠ 12 ∨ d ≠ 16 * s + u by omega), mset_get_ne _ _ (show 21 ≠ 0 ∨ d ≠ 34 by omega), i21] at hhd
        simp only [Option.bind_some] at hhd
        rw [if_neg (show ¬ (2 : Int32) = 1 by decide), hr] at hhd
        have hfy2 : FrY (mset My4 0 34 0) (mset (mset My4 0 34 0) 12 (16 * s + u) (My4 12 (16 * s + u) + 1)) := FrY.set _ _ (by unfold DY; omega)
        obtain ⟨r2, Mx7, My7, w1, w2, w3, w4⟩ := write_sim (d := d) t4.1 ht hf 0
        rw [w1]
        rw [w2] at hhd
        simp only [Option.bind_some] at hhd ⊢
        unfold f_X7_heard_136 at hhd
        have hfy3 := hfy2.tr w4
        refine ⟨r2, Mx7, rfl, wait r2 Mx2 _ My3' My4 Mx' _ c hq1 q3 b1 q4 trivial ⟨q5, q6⟩ Mx7 ((b4.tr t4).tr w3) (hF6.fry hL hfy3) (by rw [hfy3 20 d (by unfold DY; omega), mset_get_ne _ _ (by omega)]; exact i20) (by rw [hfy3 0 34 (by unfold DY; omega), mset_get]) hhd q8⟩
      · rw [q9 hr]
        simp only [Option.bind_some]
        rw [if_neg hr] at hhd
        unfold f_X7_heard_111 at hhd
        rw [ldI_n _ 21 hd16, mset_get_ne _ _ (show 21 ≠ 0 ∨ d ≠ 34 by omega), i21] at hhd
        simp only [Option.bind_some] at hhd
        rw [if_neg (show ¬ (2 : Int32) = 1 by decide)] at hhd
        obtain ⟨r2, Mx7, My7, w1, w2, w3, w4⟩ := write_sim (d := d) b4.1 ht hf r
        rw [w1]
        rw [w2] at hhd
        simp only [Option.bind_some] at hhd ⊢
        unfold f_X7_heard_136 at hhd
        exact ⟨r2, Mx7, rfl, wait r2 Mx2 _ My3' My4 Mx' _ c hq1 q3 b1 q4 trivial ⟨q5, q6⟩ Mx7 (b4.tr w3) (hF6.fry hL w4) (by rw [w4 20 d (by unfold DY; omega), mset_get_ne _ _ (by omega)]; exact i20) (by rw [w4 0 34 (by unfold DY; omega), mset_get]) hhd q8⟩
  · rw [if_neg hnd] at hdo
    rw [tk2 hnd]
    simp only [Option.bind_some]
    first | rw [if_pos rfl] | rw [if_pos trivial]
    unfold f_X7_does_66 at hdo
    rw [if_neg (show ¬ (17 : Int32) = 0 by decide)] at hdo
    exact ⟨17, Mx, rfl, fin_does hF.2.1 h34 hg a2 hF0 g20 g34 hdo⟩
