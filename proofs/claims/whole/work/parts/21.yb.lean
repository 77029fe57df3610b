noncomputable section GENX
variable {p : Program} {l : Launch} {e : Env} {h : Nat} {R : Room} {s : State} {m : MethodId} {args : Array Value} {below : List Frame} {meth : Method} {c : Code} {H : Heap} {locs : List Loc} {cells slots : Nat} {Q : State → Prop} {cc : ByteArray} {nL pc : Nat} {ls : Array Slot} {rest : List Value} {D : va_G} {ad : Nat → Nat} {M M1 : Mem} {cI cT cS cZ : ClassId}
theorem kf_X7_89 : Cond.fieldLink RX7 89 (TX7 37).1 (TX7 37).2.1 (TX7 37).2.2.1 ∈ gW := gw_in 613 (by decide +kernel) rfl
theorem gt_X7_89 (C : gC p s m args c RX7 cc nL D (yty cI cZ) 30 (yE cI cZ) ad) (w : gWd D 30 (yE cI cZ) ad M s H locs) (hdg : decode cc pc = .ok (.getfield 89, 3)) (kk : W p l e R s m args below meth c H locs cells slots Q (F0 m (pc + 3) ls (.ref (ad 27) :: rest))) : W p l e R s m args below meth c H locs cells slots Q (F0 m pc ls (.ref (ad 0) :: rest)) := g_get C w ob_X7 rfl ginX7 37 (by decide) kf_X7_89 rfl hdg kk
theorem kf_X7_92 : Cond.fieldLink RX7 92 (TX7 38).1 (TX7 38).2.1 (TX7 38).2.2.1 ∈ gW := gw_in 614 (by decide +kernel) rfl
theorem gt_X7_92 (C : gC p s m args c RX7 cc nL D (yty cI cZ) 30 (yE cI cZ) ad) (w : gWd D 30 (yE cI cZ) ad M s H locs) (hdg : decode cc pc = .ok (.getfield 92, 3)) (kk : W p l e R s m args below meth c H locs cells slots Q (F0 m (pc + 3) ls (.ref (ad 28) :: rest))) : W p l e R s m args below meth c H locs cells slots Q (F0 m pc ls (.ref (ad 0) :: rest)) := g_get C w ob_X7 rfl ginX7 38 (by decide) kf_X7_92 rfl hdg kk
theorem kf_X7_80 : Cond.fieldLink RX7 80 (TX7 32).1 (TX7 32).2.1 (TX7 32).2.2.1 ∈ gW := gw_in 608 (by decide +kernel) rfl
theorem gt_X7_80 (C : gC p s m args c RX7 cc nL D (yty cI cZ) 30 (yE cI cZ) ad) (w : gWd D 30 (yE cI cZ) ad M s H locs) (hdg : decode cc pc = .ok (.getfield 80, 3)) (kk : W p l e R s m args below meth c H locs cells slots Q (F0 m (pc + 3) ls (.ref (ad 24) :: rest))) : W p l e R s m args below meth c H locs cells slots Q (F0 m pc ls (.ref (ad 0) :: rest)) := g_get C w ob_X7 rfl ginX7 32 (by decide) kf_X7_80 rfl hdg kk
theorem kf_X7_135 : Cond.fieldLink RX7 135 (TX7 26).1 (TX7 26).2.1 (TX7 26).2.2.1 ∈ gW := gw_in 602 (by decide +kernel) rfl
theorem gt_X7_135 (C : gC p s m args c RX7 cc nL D (yty cI cZ) 30 (yE cI cZ) ad) (w : gWd D 30 (yE cI cZ) ad M s H locs) (hdg : decode cc pc = .ok (.getfield 135, 3)) (kk : W p l e R s m args below meth c H locs cells slots Q (F0 m (pc + 3) ls (.int (M 0 26) :: rest))) : W p l e R s m args below meth c H locs cells slots Q (F0 m pc ls (.ref (ad 0) :: rest)) := g_get C w ob_X7 rfl ginX7 26 (by decide) kf_X7_135 rfl hdg kk
theorem kf_X7_83 : Cond.fieldLink RX7 83 (TX7 33).1 (TX7 33).2.1 (TX7 33).2.2.1 ∈ gW := gw_in 609 (by decide +kernel) rfl
theorem gt_X7_83 (C : gC p s m args c RX7 cc nL D (yty cI cZ) 30 (yE cI cZ) ad) (w : gWd D 30 (yE cI cZ) ad M s H locs) (hdg : decode cc pc = .ok (.getfield 83, 3)) (kk : W p l e R s m args below meth c H locs cells slots Q (F0 m (pc + 3) ls (.ref (ad 25) :: rest))) : W p l e R s m args below meth c H locs cells slots Q (F0 m pc ls (.ref (ad 0) :: rest)) := g_get C w ob_X7 rfl ginX7 33 (by decide) kf_X7_83 rfl hdg kk
theorem kf_X7_86 : Cond.fieldLink RX7 86 (TX7 36).1 (TX7 36).2.1 (TX7 36).2.2.1 ∈ gW := gw_in 612 (by decide +kernel) rfl
theorem gt_X7_86 (C : gC p s m args c RX7 cc nL D (yty cI cZ) 30 (yE cI cZ) ad) (w : gWd D 30 (yE cI cZ) ad M s H locs) (hdg : decode cc pc = .ok (.getfield 86, 3)) (kk : W p l e R s m args below meth c H locs cells slots Q (F0 m (pc + 3) ls (.ref (ad 26) :: rest))) : W p l e R s m args below meth c H locs cells slots Q (F0 m pc ls (.ref (ad 0) :: rest)) := g_get C w ob_X7 rfl ginX7 36 (by decide) kf_X7_86 rfl hdg kk
theorem pt_X7_135 {x : Int32} (C : gC p s m args c RX7 cc nL D (yty cI cZ) 30 (yE cI cZ) ad) (w : gWd D 30 (yE cI cZ) ad M s H locs) (e1 : stF M 0 26 x = some M1) (hdg : decode cc pc = .ok (.putfield 135, 3)) (kk : ∀ (H1 : Heap) (locs1 : List Loc), gWd D 30 (yE cI cZ) ad M1 s H1 locs1 → W p l e R s m args below meth c H1 locs1 cells slots Q (F0 m (pc + 3) ls rest)) : W p l e R s m args below meth c H locs cells slots Q (F0 m pc ls (.int x :: .ref (ad 0) :: rest)) := by
  cases e1
  exact g_put C w ob_X7 rfl ginX7 tyX7 tyX7_ok nmX7 26 (by decide) kf_X7_135 rfl rfl rfl (Nat.le_of_ble_eq_true rfl) (by simp [fX7, mset, upd]) hdg kk
theorem kf_X7_153 : Cond.fieldLink RX7 153 (TX7 35).1 (TX7 35).2.1 (TX7 35).2.2.1 ∈ gW := gw_in 611 (by decide +kernel) rfl
theorem pt_X7_153 {x : Int32} (C : gC p s m args c RX7 cc nL D (yty cI cZ) 30 (yE cI cZ) ad) (w : gWd D 30 (yE cI cZ) ad M s H locs) (e1 : stF M 0 35 x = some M1) (hdg : decode cc pc = .ok (.putfield 153, 3)) (kk : ∀ (H1 : Heap) (locs1 : List Loc), gWd D 30 (yE cI cZ) ad M1 s H1 locs1 → W p l e R s m args below meth c H1 locs1 cells slots Q (F0 m (pc + 3) ls rest)) : W p l e R s m args below meth c H locs cells slots Q (F0 m pc ls (.int x :: .ref (ad 0) :: rest)) := by
  cases e1
  exact g_put C w ob_X7 rfl ginX7 tyX7 tyX7_ok nmX7 35 (by decide) kf_X7_153 rfl rfl rfl (Nat.le_of_ble_eq_true rfl) (by simp [fX7, mset, upd]) hdg kk
theorem kc_X7_at : Cond.code yX7_at cX7_at 3 (some .int) ∈ gW := gw_in 757 (by decide +kernel) rfl
theorem md_X7_at : gMd yX7_at 2 := ⟨by decide +kernel, by decide +kernel, by decide +kernel⟩
theorem kl_X7_156 : Cond.methodLink RX7 156 yX7_at ∈ gW := gw_in 754 (by decide +kernel) rfl
theorem kn_X7_at : Cond.instanceMethod yX7_at ∈ gW := gw_in 756 (by decide +kernel) rfl
theorem ks_X7_at : Cond.selects RX7 yX7_at yX7_at ∈ gW := gw_in 27 (by decide +kernel) rfl
theorem gv_X7_156 : gWv RX7 156 yX7_at cX7_at 3 (some .int) := ⟨kl_X7_156, kn_X7_at, ks_X7_at, ki_X7, kc_X7_at⟩
theorem kf_X7_65 : Cond.fieldLink RX7 65 (TX7 27).1 (TX7 27).2.1 (TX7 27).2.2.1 ∈ gW := gw_in 603 (by decide +kernel) rfl
theorem gt_X7_65 (C : gC p s m args c RX7 cc nL D (yty cI cZ) 30 (yE cI cZ) ad) (w : gWd D 30 (yE cI cZ) ad M s H locs) (hdg : decode cc pc = .ok (.getfield 65, 3)) (kk : W p l e R s m args below meth c H locs cells slots Q (F0 m (pc + 3) ls (.ref (ad 19) :: rest))) : W p l e R s m args below meth c H locs cells slots Q (F0 m pc ls (.ref (ad 0) :: rest)) := g_get C w ob_X7 rfl ginX7 27 (by decide) kf_X7_65 rfl hdg kk
theorem kf_X7_68 : Cond.fieldLink RX7 68 (TX7 28).1 (TX7 28).2.1 (TX7 28).2.2.1 ∈ gW := gw_in 604 (by decide +kernel) rfl
theorem gt_X7_68 (C : gC p s m args c RX7 cc nL D (yty cI cZ) 30 (yE cI cZ) ad) (w : gWd D 30 (yE cI cZ) ad M s H locs) (hdg : decode cc pc = .ok (.getfield 68, 3)) (kk : W p l e R s m args below meth c H locs cells slots Q (F0 m (pc + 3) ls (.ref (ad 20) :: rest))) : W p l e R s m args below meth c H locs cells slots Q (F0 m pc ls (.ref (ad 0) :: rest)) := g_get C w ob_X7 rfl ginX7 28 (by decide) kf_X7_68 rfl hdg kk
theorem kc_X7_listFulls : Cond.code yX7_listFulls cX7_listFulls 5 none ∈ gW := gw_in 761 (by decide +kernel) rfl
theorem md_X7_listFulls : gMd yX7_listFulls 1 := ⟨by decide +kernel, by decide +kernel, by decide +kernel⟩
theorem kl_X7_160 : Cond.methodLink RX7 160 yX7_listFulls ∈ gW := gw_in 758 (by decide +kernel) rfl
theorem kn_X7_listFulls : Cond.instanceMethod yX7_listFulls ∈ gW := gw_in 760 (by decide +kernel) rfl
theorem ks_X7_listFulls : Cond.selects RX7 yX7_listFulls yX7_listFulls ∈ gW := gw_in 28 (by decide +kernel) rfl
theorem gv_X7_160 : gWv RX7 160 yX7_listFulls cX7_listFulls 5 none := ⟨kl_X7_160, kn_X7_listFulls, ks_X7_listFulls, ki_X7, kc_X7_listFulls⟩
theorem kf_X7_142 : Cond.fieldLink RX7 142 (TX7 34).1 (TX7 34).2.1 (TX7 34).2.2.1 ∈ gW := gw_in 610 (by decide +kernel) rfl
theorem pt_X7_142 {x : Int32} (C : gC p s m args c RX7 cc nL D (yty cI cZ) 30 (yE cI cZ) ad) (w : gWd D 30 (yE cI cZ) ad M s H locs) (e1 : stFZ M 0 34 x = some M1) (hdg : decode cc pc = .ok (.putfield 142, 3)) (kk : ∀ (H1 : Heap) (locs1 : List Loc), gWd D 30 (yE cI cZ) ad M1 s H1 locs1 → W p l e R s m args below meth c H1 locs1 cells slots Q (F0 m (pc + 3) ls rest)) : W p l e R s m args below meth c H locs cells slots Q (F0 m pc ls (.int x :: .ref (ad 0) :: rest)) := by
  unfold stFZ at e1
  split at e1
  · next hb =>
    cases e1
    exact g_put C w ob_X7 rfl ginX7 tyX7 tyX7_ok nmX7 34 (by decide) kf_X7_142 rfl (isb_nar hb) (isb_fit hb) (Nat.le_of_ble_eq_true rfl) (by simp [fX7, mset, upd]) hdg kk
  · cases e1
theorem gt_X7_111 (C : gC p s m args c RX7 cc nL D (yty cI cZ) 30 (yE cI cZ) ad) (w : gWd D 30 (yE cI cZ) ad M s H locs) (hdg : decode cc pc = .ok (.getfield 111, 3)) (kk : W p l e R s m args below meth c H locs cells slots Q (F0 m (pc + 3) ls (.int (M 0 17) :: rest))) : W p l e R s m args below meth c H locs cells slots Q (F0 m pc ls (.ref (ad 0) :: rest)) := g_get C w ob_X7 rfl ginX7 17 (by decide) kf_X7_111 rfl hdg kk
theorem kf_X7_50 : Cond.fieldLink RX7 50 (TX7 18).1 (TX7 18).2.1 (TX7 18).2.2.1 ∈ gW := gw_in 594 (by decide +kernel) rfl
theorem gt_X7_50 (C : gC p s m args c RX7 cc nL D (yty cI cZ) 30 (yE cI cZ) ad) (w : gWd D 30 (yE cI cZ) ad M s H locs) (hdg : decode cc pc = .ok (.getfield 50, 3)) (kk : W p l e R s m args below meth c H locs cells slots Q (F0 m (pc + 3) ls (.ref (ad 14) :: rest))) : W p l e R s m args below meth c H locs cells slots Q (F0 m pc ls (.ref (ad 0) :: rest)) := g_get C w ob_X7 rfl ginX7 18 (by decide) kf_X7_50 rfl hdg kk
theorem gt_X7_108 (C : gC p s m args c RX7 cc nL D (yty cI cZ) 30 (yE cI cZ) ad) (w : gWd D 30 (yE cI cZ) ad M s H locs) (hdg : decode cc pc = .ok (.getfield 108, 3)) (kk : W p l e R s m args below meth c H locs cells slots Q (F0 m (pc + 3) ls (.int (M 0 16) :: rest))) : W p l e R s m args below meth c H locs cells slots Q (F0 m pc ls (.ref (ad 0) :: rest)) := g_get C w ob_X7 rfl ginX7 16 (by decide) kf_X7_108 rfl hdg kk
theorem kf_X7_186 : Cond.fieldLink RX7 186 (TX7 25).1 (TX7 25).2.1 (TX7 25).2.2.1 ∈ gW := gw_in 601 (by decide +kernel) rfl
theorem gt_X7_186 (C : gC p s m args c RX7 cc nL D (yty cI cZ) 30 (yE cI cZ) ad) (w : gWd D 30 (yE cI cZ) ad M s H locs) (hdg : decode cc pc = .ok (.getfield 186, 3)) (kk : W p l e R s m args below meth c H locs cells slots Q (F0 m (pc + 3) ls (.int (M 0 25) :: rest))) : W p l e R s m args below meth c H locs cells slots Q (F0 m pc ls (.ref (ad 0) :: rest)) := g_get C w ob_X7 rfl ginX7 25 (by decide) kf_X7_186 rfl hdg kk
theorem pt_X7_186 {x : Int32} (C : gC p s m args c RX7 cc nL D (yty cI cZ) 30 (yE cI cZ) ad) (w : gWd D 30 (yE cI cZ) ad M s H locs) (e1 : stF M 0 25 x = some M1) (hdg : decode cc pc = .ok (.putfield 186, 3)) (kk : ∀ (H1 : Heap) (locs1 : List Loc), gWd D 30 (yE cI cZ) ad M1 s H1 locs1 → W p l e R s m args below meth c H1 locs1 cells slots Q (F0 m (pc + 3) ls rest)) : W p l e R s m args below meth c H locs cells slots Q (F0 m pc ls (.int x :: .ref (ad 0) :: rest)) := by
  cases e1
  exact g_put C w ob_X7 rfl ginX7 tyX7 tyX7_ok nmX7 25 (by decide) kf_X7_186 rfl rfl rfl (Nat.le_of_ble_eq_true rfl) (by simp [fX7, mset, upd]) hdg kk
theorem kc_X7_end : Cond.code yX7_end cX7_end 4 none ∈ gW := gw_in 777 (by decide +kernel) rfl
theorem md_X7_end : gMd yX7_end 2 := ⟨by decide +kernel, by decide +kernel, by decide +kernel⟩
theorem kl_X7_171 : Cond.methodLink RX7 171 yX7_end ∈ gW := gw_in 774 (by decide +kernel) rfl
theorem kn_X7_end : Cond.instanceMethod yX7_end ∈ gW := gw_in 776 (by decide +kernel) rfl
theorem ks_X7_end : Cond.selects RX7 yX7_end yX7_end ∈ gW := gw_in 32 (by decide +kernel) rfl
theorem gv_X7_171 : gWv RX7 171 yX7_end cX7_end 4 none := ⟨kl_X7_171, kn_X7_end, ks_X7_end, ki_X7, kc_X7_end⟩
theorem kf_X7_71 : Cond.fieldLink RX7 71 (TX7 29).1 (TX7 29).2.1 (TX7 29).2.2.1 ∈ gW := gw_in 605 (by decide +kernel) rfl
theorem gt_X7_71 (C : gC p s m args c RX7 cc nL D (yty cI cZ) 30 (yE cI cZ) ad) (w : gWd D 30 (yE cI cZ) ad M s H locs) (hdg : decode cc pc = .ok (.getfield 71, 3)) (kk : W p l e R s m args below meth c H locs cells slots Q (F0 m (pc + 3) ls (.ref (ad 21) :: rest))) : W p l e R s m args below meth c H locs cells slots Q (F0 m pc ls (.ref (ad 0) :: rest)) := g_get C w ob_X7 rfl ginX7 29 (by decide) kf_X7_71 rfl hdg kk
theorem kc_X7_write : Cond.code yX7_write cX7_write 5 (some .int) ∈ gW := gw_in 769 (by decide +kernel) rfl
theorem md_X7_write : gMd yX7_write 4 := ⟨by decide +kernel, by decide +kernel, by decide +kernel⟩
theorem kl_X7_163 : Cond.methodLink RX7 163 yX7_write ∈ gW := gw_in 766 (by decide +kernel) rfl
theorem kn_X7_write : Cond.instanceMethod yX7_write ∈ gW := gw_in 768 (by decide +kernel) rfl
theorem ks_X7_write : Cond.selects RX7 yX7_write yX7_write ∈ gW := gw_in 30 (by decide +kernel) rfl
theorem gv_X7_163 : gWv RX7 163 yX7_write cX7_write 5 (some .int) := ⟨kl_X7_163, kn_X7_write, ks_X7_write, ki_X7, kc_X7_write⟩
theorem kf_X7_74 : Cond.fieldLink RX7 74 (TX7 30).1 (TX7 30).2.1 (TX7 30).2.2.1 ∈ gW := gw_in 606 (by decide +kernel) rfl
theorem gt_X7_74 (C : gC p s m args c RX7 cc nL D (yty cI cZ) 30 (yE cI cZ) ad) (w : gWd D 30 (yE cI cZ) ad M s H locs) (hdg : decode cc pc = .ok (.getfield 74, 3)) (kk : W p l e R s m args below meth c H locs cells slots Q (F0 m (pc + 3) ls (.ref (ad 22) :: rest))) : W p l e R s m args below meth c H locs cells slots Q (F0 m pc ls (.ref (ad 0) :: rest)) := g_get C w ob_X7 rfl ginX7 30 (by decide) kf_X7_74 rfl hdg kk
theorem gt_X7_153 (C : gC p s m args c RX7 cc nL D (yty cI cZ) 30 (yE cI cZ) ad) (w : gWd D 30 (yE cI cZ) ad M s H locs) (hdg : decode cc pc = .ok (.getfield 153, 3)) (kk : W p l e R s m args below meth c H locs cells slots Q (F0 m (pc + 3) ls (.int (M 0 35) :: rest))) : W p l e R s m args below meth c H locs cells slots Q (F0 m pc ls (.ref (ad 0) :: rest)) := g_get C w ob_X7 rfl ginX7 35 (by decide) kf_X7_153 rfl hdg kk
theorem kc_X7_plain : Cond.code yX7_plain cX7_plain 4 (some .int) ∈ gW := gw_in 773 (by decide +kernel) rfl
theorem md_X7_plain : gMd yX7_plain 3 := ⟨by decide +kernel, by decide +kernel, by decide +kernel⟩
theorem kl_X7_167 : Cond.methodLink RX7 167 yX7_plain ∈ gW := gw_in 770 (by decide +kernel) rfl
theorem kn_X7_plain : Cond.instanceMethod yX7_plain ∈ gW := gw_in 772 (by decide +kernel) rfl
theorem ks_X7_plain : Cond.selects RX7 yX7_plain yX7_plain ∈ gW := gw_in 31 (by decide +kernel) rfl
theorem gv_X7_167 : gWv RX7 167 yX7_plain cX7_plain 4 (some .int) := ⟨kl_X7_167, kn_X7_plain, ks_X7_plain, ki_X7, kc_X7_plain⟩
theorem kf_X7_77 : Cond.fieldLink RX7 77 (TX7 31).1 (TX7 31).2.1 (TX7 31).2.2.1 ∈ gW := gw_in 607 (by decide +kernel) rfl
theorem gt_X7_77 (C : gC p s m args c RX7 cc nL D (yty cI cZ) 30 (yE cI cZ) ad) (w : gWd D 30 (yE cI cZ) ad M s H locs) (hdg : decode cc pc = .ok (.getfield 77, 3)) (kk : W p l e R s m args below meth c H locs cells slots Q (F0 m (pc + 3) ls (.ref (ad 23) :: rest))) : W p l e R s m args below meth c H locs cells slots Q (F0 m pc ls (.ref (ad 0) :: rest)) := g_get C w ob_X7 rfl ginX7 31 (by decide) kf_X7_77 rfl hdg kk
theorem kc_X7_ask : Cond.code yX7_ask cX7_ask 4 none ∈ gW := gw_in 753 (by decide +kernel) rfl
theorem md_X7_ask : gMd yX7_ask 2 := ⟨by decide +kernel, by decide +kernel, by decide +kernel⟩
theorem kl_X7_138 : Cond.methodLink RX7 138 yX7_ask ∈ gW := gw_in 750 (by decide +kernel) rfl
theorem kn_X7_ask : Cond.instanceMethod yX7_ask ∈ gW := gw_in 752 (by decide +kernel) rfl
theorem ks_X7_ask : Cond.selects RX7 yX7_ask yX7_ask ∈ gW := gw_in 26 (by decide +kernel) rfl
theorem gv_X7_138 : gWv RX7 138 yX7_ask cX7_ask 4 none := ⟨kl_X7_138, kn_X7_ask, ks_X7_ask, ki_X7, kc_X7_ask⟩
theorem kf_X7_95 : Cond.fieldLink RX7 95 (TX7 40).1 (TX7 40).2.1 (TX7 40).2.2.1 ∈ gW := gw_in 616 (by decide +kernel) rfl
theorem gt_X7_95 (C : gC p s m args c RX7 cc nL D (yty cI cZ) 30 (yE cI cZ) ad) (w : gWd D 30 (yE cI cZ) ad M s H locs) (hdg : decode cc pc = .ok (.getfield 95, 3)) (kk : W p l e R s m args below meth c H locs cells slots Q (F0 m (pc + 3) ls (.ref (ad 29) :: rest))) : W p l e R s m args below meth c H locs cells slots Q (F0 m pc ls (.ref (ad 0) :: rest)) := g_get C w ob_X7 rfl ginX7 40 (by decide) kf_X7_95 rfl hdg kk
theorem kc_X7_homeOf : Cond.code yX7_homeOf cX7_homeOf 6 (some .int) ∈ gW := gw_in 741 (by decide +kernel) rfl
theorem md_X7_homeOf : gMd yX7_homeOf 2 := ⟨by decide +kernel, by decide +kernel, by decide +kernel⟩
theorem kl_X7_183 : Cond.methodLink RX7 183 yX7_homeOf ∈ gW := gw_in 738 (by decide +kernel) rfl
theorem kn_X7_homeOf : Cond.instanceMethod yX7_homeOf ∈ gW := gw_in 740 (by decide +kernel) rfl
theorem ks_X7_homeOf : Cond.selects RX7 yX7_homeOf yX7_homeOf ∈ gW := gw_in 23 (by decide +kernel) rfl
theorem gv_X7_183 : gWv RX7 183 yX7_homeOf cX7_homeOf 6 (some .int) := ⟨kl_X7_183, kn_X7_homeOf, ks_X7_homeOf, ki_X7, kc_X7_homeOf⟩
theorem kc_X7_make : Cond.code yX7_make cX7_make 3 none ∈ gW := gw_in 793 (by decide +kernel) rfl
theorem md_X7_make : gMd yX7_make 2 := ⟨by decide +kernel, by decide +kernel, by decide +kernel⟩
theorem kl_X7_180 : Cond.methodLink RX7 180 yX7_make ∈ gW := gw_in 790 (by decide +kernel) rfl
theorem kn_X7_make : Cond.instanceMethod yX7_make ∈ gW := gw_in 792 (by decide +kernel) rfl
theorem ks_X7_make : Cond.selects RX7 yX7_make yX7_make ∈ gW := gw_in 36 (by decide +kernel) rfl
theorem gv_X7_180 : gWv RX7 180 yX7_make cX7_make 3 none := ⟨kl_X7_180, kn_X7_make, ks_X7_make, ki_X7, kc_X7_make⟩
theorem gt_X7_117 (C : gC p s m args c RX7 cc nL D (yty cI cZ) 30 (yE cI cZ) ad) (w : gWd D 30 (yE cI cZ) ad M s H locs) (hdg : decode cc pc = .ok (.getfield 117, 3)) (kk : W p l e R s m args below meth c H locs cells slots Q (F0 m (pc + 3) ls (.int (M 0 21) :: rest))) : W p l e R s m args below meth c H locs cells slots Q (F0 m pc ls (.ref (ad 0) :: rest)) := g_get C w ob_X7 rfl ginX7 21 (by decide) kf_X7_117 rfl hdg kk
theorem gt_X7_114 (C : gC p s m args c RX7 cc nL D (yty cI cZ) 30 (yE cI cZ) ad) (w : gWd D 30 (yE cI cZ) ad M s H locs) (hdg : decode cc pc = .ok (.getfield 114, 3)) (kk : W p l e R s m args below meth c H locs cells slots Q (F0 m (pc + 3) ls (.int (M 0 19) :: rest))) : W p l e R s m args below meth c H locs cells slots Q (F0 m pc ls (.ref (ad 0) :: rest)) := g_get C w ob_X7 rfl ginX7 19 (by decide) kf_X7_114 rfl hdg kk
theorem kf_X7_53 : Cond.fieldLink RX7 53 (TX7 20).1 (TX7 20).2.1 (TX7 20).2.2.1 ∈ gW := gw_in 596 (by decide +kernel) rfl
theorem gt_X7_53 (C : gC p s m args c RX7 cc nL D (yty cI cZ) 30 (yE cI cZ) ad) (w : gWd D 30 (yE cI cZ) ad M s H locs) (hdg : decode cc pc = .ok (.getfield 53, 3)) (kk : W p l e R s m args below meth c H locs cells slots Q (F0 m (pc + 3) ls (.ref (ad 15) :: rest))) : W p l e R s m args below meth c H locs cells slots Q (F0 m pc ls (.ref (ad 0) :: rest)) := g_get C w ob_X7 rfl ginX7 20 (by decide) kf_X7_53 rfl hdg kk
theorem kc_X7_asksFor : Cond.code yX7_asksFor cX7_asksFor 7 (some .int) ∈ gW := gw_in 789 (by decide +kernel) rfl
theorem md_X7_asksFor : gMd yX7_asksFor 2 := ⟨by decide +kernel, by decide +kernel, by decide +kernel⟩
theorem kl_X7_177 : Cond.methodLink RX7 177 yX7_asksFor ∈ gW := gw_in 786 (by decide +kernel) rfl
theorem kn_X7_asksFor : Cond.instanceMethod yX7_asksFor ∈ gW := gw_in 788 (by decide +kernel) rfl
theorem ks_X7_asksFor : Cond.selects RX7 yX7_asksFor yX7_asksFor ∈ gW := gw_in 35 (by decide +kernel) rfl
theorem gv_X7_177 : gWv RX7 177 yX7_asksFor cX7_asksFor 7 (some .int) := ⟨kl_X7_177, kn_X7_asksFor, ks_X7_asksFor, ki_X7, kc_X7_asksFor⟩
theorem kc_X7_does : Cond.code yX7_does cX7_does 9 none ∈ gW := gw_in 785 (by decide +kernel) rfl
theorem md_X7_does : gMd yX7_does 2 := ⟨by decide +kernel, by decide +kernel, by decide +kernel⟩
theorem kl_X7_174 : Cond.methodLink RX7 174 yX7_does ∈ gW := gw_in 782 (by decide +kernel) rfl
theorem kn_X7_does : Cond.instanceMethod yX7_does ∈ gW := gw_in 784 (by decide +kernel) rfl
theorem ks_X7_does : Cond.selects RX7 yX7_does yX7_does ∈ gW := gw_in 34 (by decide +kernel) rfl
theorem gv_X7_174 : gWv RX7 174 yX7_does cX7_does 9 none := ⟨kl_X7_174, kn_X7_does, ks_X7_does, ki_X7, kc_X7_does⟩
theorem gt_X7_142 (C : gC p s m args c RX7 cc nL D (yty cI cZ) 30 (yE cI cZ) ad) (w : gWd D 30 (yE cI cZ) ad M s H locs) (hdg : decode cc pc = .ok (.getfield 142, 3)) (kk : W p l e R s m args below meth c H locs cells slots Q (F0 m (pc + 3) ls (.int (M 0 34) :: rest))) : W p l e R s m args below meth c H locs cells slots Q (F0 m pc ls (.ref (ad 0) :: rest)) := g_get C w ob_X7 rfl ginX7 34 (by decide) kf_X7_142 rfl hdg kk
theorem kc_X7_goes : Cond.code yX7_goes cX7_goes 5 none ∈ gW := gw_in 781 (by decide +kernel) rfl
theorem md_X7_goes : gMd yX7_goes 1 := ⟨by decide +kernel, by decide +kernel, by decide +kernel⟩
theorem kl_X7_150 : Cond.methodLink RX7 150 yX7_goes ∈ gW := gw_in 778 (by decide +kernel) rfl
theorem kn_X7_goes : Cond.instanceMethod yX7_goes ∈ gW := gw_in 780 (by decide +kernel) rfl
theorem ks_X7_goes : Cond.selects RX7 yX7_goes yX7_goes ∈ gW := gw_in 33 (by decide +kernel) rfl
theorem gv_X7_150 : gWv RX7 150 yX7_goes cX7_goes 5 none := ⟨kl_X7_150, kn_X7_goes, ks_X7_goes, ki_X7, kc_X7_goes⟩
theorem kc_X7_heard : Cond.code yX7_heard cX7_heard 8 none ∈ gW := gw_in 765 (by decide +kernel) rfl
theorem md_X7_heard : gMd yX7_heard 1 := ⟨by decide +kernel, by decide +kernel, by decide +kernel⟩
theorem kl_X7_146 : Cond.methodLink RX7 146 yX7_heard ∈ gW := gw_in 762 (by decide +kernel) rfl
theorem kn_X7_heard : Cond.instanceMethod yX7_heard ∈ gW := gw_in 764 (by decide +kernel) rfl
theorem ks_X7_heard : Cond.selects RX7 yX7_heard yX7_heard ∈ gW := gw_in 29 (by decide +kernel) rfl
theorem gv_X7_146 : gWv RX7 146 yX7_heard cX7_heard 8 none := ⟨kl_X7_146, kn_X7_heard, ks_X7_heard, ki_X7, kc_X7_heard⟩
def f_X7_listFulls_190 (k37_ : (Int32 → Mem → Option (Int32 × Mem))) (x2 : Int32) (M : Mem) : Option (Int32 × Mem) :=
  k37_ x2 M
def f_X7_listFulls_134 (k37_ : (Int32 → Mem → Option (Int32 × Mem))) (x2 : Int32) (M : Mem) : Option (Int32 × Mem) :=
  f_X7_listFulls_190 k37_ x2 M
def f_X7_listFulls_37b (k37_ : (Int32 → Mem → Option (Int32 × Mem))) (x2 : Int32) (M : Mem) : Option (Int32 × Mem) :=
  if x2 ≤ 0 then (some ((0 : Int32), M)) else ((ldI M 27 17 (x2 - (1 : Int32))).bind fun v2 =>
  (ldI M 28 17 (x2 - (1 : Int32))).bind fun v4 =>
  (ldI M 4 16 v2).bind fun v6 =>
  if v6 ≤ v4 then (if (x2 + (-1)) ≤ 0 then (f_X7_listFulls_190 k37_ (x2 + (-1)) M) else ((ldI M 1 16 v2).bind fun v10 =>
  if v10 = (2 : Int32) then ((ldI M 25 16 (M 0 26)).bind fun v13 =>
  (stI M 24 256 (((16 : Int32) * (M 0 26)) + v13) v2).bind fun M15 =>
  (ldI M15 25 16 (M15 0 26)).bind fun v17 =>
  (stI M15 25 16 (M15 0 26) (v17 + (1 : Int32))).bind fun M19 =>
  f_X7_listFulls_190 k37_ (x2 + (-1)) M19) else (f_X7_listFulls_190 k37_ (x2 + (-1)) M))) else ((ldI M 28 17 (x2 - (1 : Int32))).bind fun v21 =>
  (ldI M 5 48 (((3 : Int32) * v2) + v21)).bind fun v23 =>
  (ldI M 28 17 (x2 - (1 : Int32))).bind fun v25 =>
  (stI M 28 17 (x2 - (1 : Int32)) (v25 + (1 : Int32))).bind fun M27 =>
  (ldI M27 26 16 v23).bind fun v29 =>
  if v29 = 0 then ((stZ M27 26 16 v23 (1 : Int32)).bind fun M32 =>
  (stI M32 27 17 x2 v23).bind fun M34 =>
  (stI M34 28 17 x2 (0 : Int32)).bind fun M36 =>
  f_X7_listFulls_134 k37_ (x2 + 1) M36) else (f_X7_listFulls_134 k37_ x2 M27)))
def f_X7_listFulls_37 : Nat → Int32 → Mem → Option (Int32 × Mem)
  | 0, _, _ => none
  | n + 1, x2, M => f_X7_listFulls_37b (f_X7_listFulls_37  n) x2 M
def f_X7_listFulls_2b (k2_ : (Int32 → Int32 → Mem → Option (Int32 × Mem))) (x1 : Int32) (x2 : Int32) (M : Mem) : Option (Int32 × Mem) :=
  if (16 : Int32) ≤ x2 then ((stI M 27 17 (0 : Int32) x1).bind fun M2 =>
  (stI M2 28 17 (0 : Int32) (0 : Int32)).bind fun M4 =>
  f_X7_listFulls_37 FU (1 : Int32) M4) else ((stZ M 26 16 x2 (0 : Int32)).bind fun M6 =>
  k2_ x1 (x2 + 1) M6)
def f_X7_listFulls_2 : Nat → Int32 → Int32 → Mem → Option (Int32 × Mem)
  | 0, _, _, _ => none
  | n + 1, x1, x2, M => f_X7_listFulls_2b (f_X7_listFulls_2  n) x1 x2 M
def f_X7_listFulls_0 (x1 : Int32) (M : Mem) : Option (Int32 × Mem) :=
  f_X7_listFulls_2 FU x1 (0 : Int32) M
set_option maxRecDepth 100000 in
set_option maxHeartbeats 4000000 in
theorem w_X7_listFulls_190 (C : gC p s m args c RX7 cX7_listFulls 5 D (yty cI cZ) 30 (yE cI cZ) ad) (hr : meth.sig.returnType = none) (hq : meth.locks = false) {k37_ : (Int32 → Mem → Option (Int32 × Mem))} {Rs : Int32 × Mem} (hk37_ : ∀ {x2 : Int32} {M : Mem} {H : Heap} {locs : List Loc} {ls : Array Slot}, gWd D 30 (yE cI cZ) ad M s H locs → lv_has ls 5 [(0, .ref (ad 0)), (2, .int x2)] → k37_ x2 M = some Rs → W p l e (rmH 0) s m args below meth c H locs 0 0 (MQ below (qV D 30 (yE cI cZ) ad Rs) args s 0 0 (gA 30 ad)) (F0 m 37 ls [])) {x2 : Int32} (w : gWd D 30 (yE cI cZ) ad M s H locs) (hl : lv_has ls 5 [(0, .ref (ad 0)), (2, .int x2)]) (hf : f_X7_listFulls_190 k37_ x2 M = some Rs) : W p l e (rmH 0) s m args below meth c H locs 0 0 (MQ below (qV D 30 (yE cI cZ) ad Rs) args s 0 0 (gA 30 ad)) (F0 m 190 ls []) := by
  unfold f_X7_listFulls_190 at hf
  have hx := C.1.1
  have hb := C.1.2.1
  have hi := C.2.2.2.1
  refine lv_goto (tgt := 37) hx hb dX7_listFulls_190 (by decide) ?_
  exact hk37_ w (lv_sub hl [0, 1] rfl) hf
set_option maxRecDepth 100000 in
set_option maxHeartbeats 4000000 in
theorem w_X7_listFulls_134 (C : gC p s m args c RX7 cX7_listFulls 5 D (yty cI cZ) 30 (yE cI cZ) ad) (hr : meth.sig.returnType = none) (hq : meth.locks = false) {k37_ : (Int32 → Mem → Option (Int32 × Mem))} {Rs : Int32 × Mem} (hk37_ : ∀ {x2 : Int32} {M : Mem} {H : Heap} {locs : List Loc} {ls : Array Slot}, gWd D 30 (yE cI cZ) ad M s H locs → lv_has ls 5 [(0, .ref (ad 0)), (2, .int x2)] → k37_ x2 M = some Rs → W p l e (rmH 0) s m args below meth c H locs 0 0 (MQ below (qV D 30 (yE cI cZ) ad Rs) args s 0 0 (gA 30 ad)) (F0 m 37 ls [])) {x2 : Int32} (w : gWd D 30 (yE cI cZ) ad M s H locs) (hl : lv_has ls 5 [(0, .ref (ad 0)), (2, .int x2)]) (hf : f_X7_listFulls_134 k37_ x2 M = some Rs) : W p l e (rmH 0) s m args below meth c H locs 0 0 (MQ below (qV D 30 (yE cI cZ) ad Rs) args s 0 0 (gA 30 ad)) (F0 m 134 ls []) := by
  unfold f_X7_listFulls_134 at hf
  have hx := C.1.1
  have hb := C.1.2.1
  have hi := C.2.2.2.1
  refine lv_goto (tgt := 190) hx hb dX7_listFulls_134 (by decide) ?_
  exact w_X7_listFulls_190 C hr hq hk37_ w (lv_sub hl [0, 1] rfl) hf
set_option maxRecDepth 100000 in
set_option maxHeartbeats 4000000 in
theorem w_X7_listFulls_37b (C : gC p s m args c RX7 cX7_listFulls 5 D (yty cI cZ) 30 (yE cI cZ) ad) (hr : meth.sig.returnType = none) (hq : meth.locks = false) {k37_ : (Int32 → Mem → Option (Int32 × Mem))} {Rs : Int32 × Mem} (hk37_ : ∀ {x2 : Int32} {M : Mem} {H : Heap} {locs : List Loc} {ls : Array Slot}, gWd D 30 (yE cI cZ) ad M s H locs → lv_has ls 5 [(0, .ref (ad 0)), (2, .int x2)] → k37_ x2 M = some Rs → W p l e (rmH 0) s m args below meth c H locs 0 0 (MQ below (qV D 30 (yE cI cZ) ad Rs) args s 0 0 (gA 30 ad)) (F0 m 37 ls [])) {x2 : Int32} (w : gWd D 30 (yE cI cZ) ad M s H locs) (hl : lv_has ls 5 [(0, .ref (ad 0)), (2, .int x2)]) (hf : f_X7_listFulls_37b k37_ x2 M = some Rs) : W p l e (rmH 0) s m args below meth c H locs 0 0 (MQ below (qV D 30 (yE cI cZ) ad Rs) args s 0 0 (gA 30 ad)) (F0 m 37 ls []) := by
  unfold f_X7_listFulls_37b at hf
  have hx := C.1.1
  have hb := C.1.2.1
  have hi := C.2.2.2.1
  refine lv_iload_n hx hb dX7_listFulls_37 rfl (lv_at hl 1 rfl) ?_
  refine lv_if_le (tgt := 193) hx hb dX7_listFulls_38 (by decide) (fun c1 => ?_) (fun c1 => ?_)
  · replace hf := (if_pos c1).symm.trans hf
    exact g_vret C w hr hq hf dX7_listFulls_193
  · replace hf := (if_neg c1).symm.trans hf
    refine lv_aload_n hx hb dX7_listFulls_41 rfl (lv_at hl 0 rfl) ?_
    refine gt_X7_89 C w dX7_listFulls_42 ?_
    refine lv_iload_n hx hb dX7_listFulls_45 rfl (lv_at hl 1 rfl) ?_
    refine lv_iconst (v := 1) hx hb dX7_listFulls_46 (by decide) ?_
    refine lv_isub hx hb dX7_listFulls_47 ?_
    obtain ⟨v2, e3, hf⟩ := bindS hf
    refine g_iald C w y_a27 e3 dX7_listFulls_48 ?_
    refine lv_istore_n (lv' := [(3, .int v2), (0, .ref (ad 0)), (2, .int x2)]) hx hb dX7_listFulls_49 rfl hl (by decide) rfl (fun ls hl => ?_)
    refine lv_aload_n hx hb dX7_listFulls_50 rfl (lv_at hl 1 rfl) ?_
    refine gt_X7_92 C w dX7_listFulls_51 ?_
    refine lv_iload_n hx hb dX7_listFulls_54 rfl (lv_at hl 2 rfl) ?_
    refine lv_iconst (v := 1) hx hb dX7_listFulls_55 (by decide) ?_
    refine lv_isub hx hb dX7_listFulls_56 ?_
    obtain ⟨v4, e5, hf⟩ := bindS hf
    refine g_iald C w y_a28 e5 dX7_listFulls_57 ?_
    refine lv_aload_n hx hb dX7_listFulls_58 rfl (lv_at hl 1 rfl) ?_
    refine gt_X7_20 C w dX7_listFulls_59 ?_
    refine lv_iload_n hx hb dX7_listFulls_62 rfl (lv_at hl 0 rfl) ?_
    obtain ⟨v6, e7, hf⟩ := bindS hf
    refine g_iald C w y_a4 e7 dX7_listFulls_63 ?_
    refine lv_icmp_ge (tgt := 137) hx hb dX7_listFulls_64 (by decide) (fun c8 => ?_) (fun c8 => ?_)
    · replace hf := (if_pos c8).symm.trans hf
      refine lv_iinc (v := (x2 + (-1))) (lv' := [(2, .int (x2 + (-1))), (3, .int v2), (0, .ref (ad 0))]) hx hb dX7_listFulls_137 hl (k := 2) rfl rfl (by decide) rfl (fun ls hl => ?_)
      refine lv_iload_n hx hb dX7_listFulls_140 rfl (lv_at hl 0 rfl) ?_
      refine lv_if_le (tgt := 190) hx hb dX7_listFulls_141 (by decide) (fun c9 => ?_) (fun c9 => ?_)
      · replace hf := (if_pos c9).symm.trans hf
        exact w_X7_listFulls_190 C hr hq hk37_ w (lv_sub hl [2, 0] rfl) hf
      · replace hf := (if_neg c9).symm.trans hf
        refine lv_aload_n hx hb dX7_listFulls_144 rfl (lv_at hl 2 rfl) ?_
        refine gt_X7_7 C w dX7_listFulls_145 ?_
        refine lv_iload_n hx hb dX7_listFulls_148 rfl (lv_at hl 1 rfl) ?_
        obtain ⟨v10, e11, hf⟩ := bindS hf
        refine g_iald C w y_a1 e11 dX7_listFulls_149 ?_
        refine lv_iconst (v := 2) hx hb dX7_listFulls_150 (by decide) ?_
        refine lv_icmp_ne (tgt := 190) hx hb dX7_listFulls_151 (by decide) (fun c12 => ?_) (fun c12 => ?_)
        · replace hf := (if_neg c12).symm.trans hf
          exact w_X7_listFulls_190 C hr hq hk37_ w (lv_sub hl [2, 0] rfl) hf
        · replace hf := (if_pos c12).symm.trans hf
          refine lv_aload_n hx hb dX7_listFulls_154 rfl (lv_at hl 2 rfl) ?_
          refine gt_X7_80 C w dX7_listFulls_155 ?_
          refine lv_bipush (v := 16) hx hb dX7_listFulls_158 (by decide) ?_
          refine lv_aload_n hx hb dX7_listFulls_160 rfl (lv_at hl 2 rfl) ?_
          refine gt_X7_135 C w dX7_listFulls_161 ?_
          refine lv_imul hx hb dX7_listFulls_164 ?_
          refine lv_aload_n hx hb dX7_listFulls_165 rfl (lv_at hl 2 rfl) ?_
          refine gt_X7_83 C w dX7_listFulls_166 ?_
          refine lv_aload_n hx hb dX7_listFulls_169 rfl (lv_at hl 2 rfl) ?_
          refine gt_X7_135 C w dX7_listFulls_170 ?_
          obtain ⟨v13, e14, hf⟩ := bindS hf
          refine g_iald C w y_a25 e14 dX7_listFulls_173 ?_
          refine lv_iadd hx hb dX7_listFulls_174 ?_
          refine lv_iload_n hx hb dX7_listFulls_175 rfl (lv_at hl 1 rfl) ?_
          obtain ⟨M15, e16, hf⟩ := bindS hf
          refine g_iast C w y_a24 e16 dX7_listFulls_176 (fun H locs w => ?_)
          refine lv_aload_n hx hb dX7_listFulls_177 rfl (lv_at hl 2 rfl) ?_
          refine gt_X7_83 C w dX7_listFulls_178 ?_
          refine lv_aload_n hx hb dX7_listFulls_181 rfl (lv_at hl 2 rfl) ?_
          refine gt_X7_135 C w dX7_listFulls_182 ?_
          refine lv_dup2_11 hx hb dX7_listFulls_185 rfl rfl ?_
          obtain ⟨v17, e18, hf⟩ := bindS hf
          refine g_iald C w y_a25 e18 dX7_listFulls_186 ?_
          refine lv_iconst (v := 1) hx hb dX7_listFulls_187 (by decide) ?_
          refine lv_iadd hx hb dX7_listFulls_188 ?_
          obtain ⟨M19, e20, hf⟩ := bindS hf
          refine g_iast C w y_a25 e20 dX7_listFulls_189 (fun H locs w => ?_)
          exact w_X7_listFulls_190 C hr hq hk37_ w (lv_sub hl [2, 0] rfl) hf
    · replace hf := (if_neg c8).symm.trans hf
      refine lv_aload_n hx hb dX7_listFulls_67 rfl (lv_at hl 1 rfl) ?_
      refine gt_X7_23 C w dX7_listFulls_68 ?_
      refine lv_iconst (v := 3) hx hb dX7_listFulls_71 (by decide) ?_
      refine lv_iload_n hx hb dX7_listFulls_72 rfl (lv_at hl 0 rfl) ?_
      refine lv_imul hx hb dX7_listFulls_73 ?_
      refine lv_aload_n hx hb dX7_listFulls_74 rfl (lv_at hl 1 rfl) ?_
      refine gt_X7_92 C w dX7_listFulls_75 ?_
      refine lv_iload_n hx hb dX7_listFulls_78 rfl (lv_at hl 2 rfl) ?_
      refine lv_iconst (v := 1) hx hb dX7_listFulls_79 (by decide) ?_
      refine lv_isub hx hb dX7_listFulls_80 ?_
      obtain ⟨v21, e22, hf⟩ := bindS hf
      refine g_iald C w y_a28 e22 dX7_listFulls_81 ?_
      refine lv_iadd hx hb dX7_listFulls_82 ?_
      obtain ⟨v23, e24, hf⟩ := bindS hf
      refine g_iald C w y_a5 e24 dX7_listFulls_83 ?_
      refine lv_istore (lv' := [(4, .int v23), (3, .int v2), (0, .ref (ad 0)), (2, .int x2)]) hx hb dX7_listFulls_84 hl (by decide) rfl (fun ls hl => ?_)
      refine lv_aload_n hx hb dX7_listFulls_86 rfl (lv_at hl 2 rfl) ?_
      refine gt_X7_92 C w dX7_listFulls_87 ?_
      refine lv_iload_n hx hb dX7_listFulls_90 rfl (lv_at hl 3 rfl) ?_
      refine lv_iconst (v := 1) hx hb dX7_listFulls_91 (by decide) ?_
      refine lv_isub hx hb dX7_listFulls_92 ?_
      refine lv_dup2_11 hx hb dX7_listFulls_93 rfl rfl ?_
      obtain ⟨v25, e26, hf⟩ := bindS hf
      refine g_iald C w y_a28 e26 dX7_listFulls_94 ?_
      refine lv_iconst (v := 1) hx hb dX7_listFulls_95 (by decide) ?_
      refine lv_iadd hx hb dX7_listFulls_96 ?_
      obtain ⟨M27, e28, hf⟩ := bindS hf
      refine g_iast C w y_a28 e28 dX7_listFulls_97 (fun H locs w => ?_)
      refine lv_aload_n hx hb dX7_listFulls_98 rfl (lv_at hl 2 rfl) ?_
      refine gt_X7_86 C w dX7_listFulls_99 ?_
      refine lv_iload hx hb dX7_listFulls_102 (lv_at hl 0 rfl) ?_
      obtain ⟨v29, e30, hf⟩ := bindS hf
      refine g_zald C w y_a26 e30 dX7_listFulls_104 ?_
      refine lv_if_ne (tgt := 134) hx hb dX7_listFulls_105 (by decide) (fun c31 => ?_) (fun c31 => ?_)
      · replace hf := (if_neg c31).symm.trans hf
        exact w_X7_listFulls_134 C hr hq hk37_ w (lv_sub hl [2, 3] rfl) hf
      · replace hf := (if_pos c31).symm.trans hf
        refine lv_aload_n hx hb dX7_listFulls_108 rfl (lv_at hl 2 rfl) ?_
        refine gt_X7_86 C w dX7_listFulls_109 ?_
        refine lv_iload hx hb dX7_listFulls_112 (lv_at hl 0 rfl) ?_
        refine lv_iconst (v := 1) hx hb dX7_listFulls_114 (by decide) ?_
        obtain ⟨M32, e33, hf⟩ := bindS hf
        refine g_zast C w y_a26 e33 dX7_listFulls_115 (fun H locs w => ?_)
        refine lv_aload_n hx hb dX7_listFulls_116 rfl (lv_at hl 2 rfl) ?_
        refine gt_X7_89 C w dX7_listFulls_117 ?_
        refine lv_iload_n hx hb dX7_listFulls_120 rfl (lv_at hl 3 rfl) ?_
        refine lv_iload hx hb dX7_listFulls_121 (lv_at hl 0 rfl) ?_
        obtain ⟨M34, e35, hf⟩ := bindS hf
        refine g_iast C w y_a27 e35 dX7_listFulls_123 (fun H locs w => ?_)
        refine lv_aload_n hx hb dX7_listFulls_124 rfl (lv_at hl 2 rfl) ?_
        refine gt_X7_92 C w dX7_listFulls_125 ?_
        refine lv_iload_n hx hb dX7_listFulls_128 rfl (lv_at hl 3 rfl) ?_
        refine lv_iconst (v := 0) hx hb dX7_listFulls_129 (by decide) ?_
        obtain ⟨M36, e37, hf⟩ := bindS hf
        refine g_iast C w y_a28 e37 dX7_listFulls_130 (fun H locs w => ?_)
        refine lv_iinc (v := (x2 + 1)) (lv' := [(2, .int (x2 + 1)), (4, .int v23), (3, .int v2), (0, .ref (ad 0))]) hx hb dX7_listFulls_131 hl (k := 3) rfl rfl (by decide) rfl (fun ls hl => ?_)
        exact w_X7_listFulls_134 C hr hq hk37_ w (lv_sub hl [3, 0] rfl) hf
theorem w_X7_listFulls_37 (C : gC p s m args c RX7 cX7_listFulls 5 D (yty cI cZ) 30 (yE cI cZ) ad) (hr : meth.sig.returnType = none) (hq : meth.locks = false) {Rs : Int32 × Mem} : ∀ (n : Nat) {x2 : Int32} {M : Mem} {H : Heap} {locs : List Loc} {ls : Array Slot}, gWd D 30 (yE cI cZ) ad M s H locs → lv_has ls 5 [(0, .ref (ad 0)), (2, .int x2)] → f_X7_listFulls_37  n x2 M = some Rs → W p l e (rmH 0) s m args below meth c H locs 0 0 (MQ below (qV D 30 (yE cI cZ) ad Rs) args s 0 0 (gA 30 ad)) (F0 m 37 ls []) := by
  intro n
  induction n with
  | zero =>
    intro x2 M H locs ls w hl hf
    cases hf
  | succ n ih =>
    intro x2 M H locs ls w hl hf
    exact w_X7_listFulls_37b C hr hq ih  w hl hf
set_option maxRecDepth 100000 in
set_option maxHeartbeats 4000000 in
theorem w_X7_listFulls_2b (C : gC p s m args c RX7 cX7_listFulls 5 D (yty cI cZ) 30 (yE cI cZ) ad) (hr : meth.sig.returnType = none) (hq : meth.locks = false) {k2_ : (Int32 → Int32 → Mem → Option (Int32 × Mem))} {Rs : Int32 × Mem} (hk2_ : ∀ {x1 : Int32} {x2 : Int32} {M : Mem} {H : Heap} {locs : List Loc} {ls : Array Slot}, gWd D 30 (yE cI cZ) ad M s H locs → lv_has ls 5 [(0, .ref (ad 0)), (1, .int x1), (2, .int x2)] → k2_ x1 x2 M = some Rs → W p l e (rmH 0) s m args below meth c H locs 0 0 (MQ below (qV D 30 (yE cI cZ) ad Rs) args s 0 0 (gA 30 ad)) (F0 m 2 ls [])) {x1 : Int32} {x2 : Int32} (w : gWd D 30 (yE cI cZ) ad M s H locs) (hl : lv_has ls 5 [(0, .ref (ad 0)), (1, .int x1), (2, .int x2)]) (hf : f_X7_listFulls_2b k2_ x1 x2 M = some Rs) : W p l e (rmH 0) s m args below meth c H locs 0 0 (MQ below (qV D 30 (yE cI cZ) ad Rs) args s 0 0 (gA 30 ad)) (F0 m 2 ls []) := by
  unfold f_X7_listFulls_2b at hf
  have hx := C.1.1
  have hb := C.1.2.1
  have hi := C.2.2.2.1
  refine lv_iload_n hx hb dX7_listFulls_2 rfl (lv_at hl 2 rfl) ?_
  refine lv_bipush (v := 16) hx hb dX7_listFulls_3 (by decide) ?_
  refine lv_icmp_ge (tgt := 21) hx hb dX7_listFulls_5 (by decide) (fun c1 => ?_) (fun c1 => ?_)
  · replace hf := (if_pos c1).symm.trans hf
    refine lv_iconst (v := 1) hx hb dX7_listFulls_21 (by decide) ?_
    refine lv_istore_n (lv' := [(2, .int (1 : Int32)), (0, .ref (ad 0)), (1, .int x1)]) hx hb dX7_listFulls_22 rfl hl (by decide) rfl (fun ls hl => ?_)
    refine lv_aload_n hx hb dX7_listFulls_23 rfl (lv_at hl 1 rfl) ?_
    refine gt_X7_89 C w dX7_listFulls_24 ?_
    refine lv_iconst (v := 0) hx hb dX7_listFulls_27 (by decide) ?_
    refine lv_iload_n hx hb dX7_listFulls_28 rfl (lv_at hl 2 rfl) ?_
    obtain ⟨M2, e3, hf⟩ := bindS hf
    refine g_iast C w y_a27 e3 dX7_listFulls_29 (fun H locs w => ?_)
    refine lv_aload_n hx hb dX7_listFulls_30 rfl (lv_at hl 1 rfl) ?_
    refine gt_X7_92 C w dX7_listFulls_31 ?_
    refine lv_iconst (v := 0) hx hb dX7_listFulls_34 (by decide) ?_
    refine lv_iconst (v := 0) hx hb dX7_listFulls_35 (by decide) ?_
    obtain ⟨M4, e5, hf⟩ := bindS hf
    refine g_iast C w y_a28 e5 dX7_listFulls_36 (fun H locs w => ?_)
    exact w_X7_listFulls_37 C hr hq FU w (lv_sub hl [1, 0] rfl) hf
  · replace hf := (if_neg c1).symm.trans hf
    refine lv_aload_n hx hb dX7_listFulls_8 rfl (lv_at hl 0 rfl) ?_
    refine gt_X7_86 C w dX7_listFulls_9 ?_
    refine lv_iload_n hx hb dX7_listFulls_12 rfl (lv_at hl 2 rfl) ?_
    refine lv_iconst (v := 0) hx hb dX7_listFulls_13 (by decide) ?_
    obtain ⟨M6, e7, hf⟩ := bindS hf
    refine g_zast C w y_a26 e7 dX7_listFulls_14 (fun H locs w => ?_)
    refine lv_iinc (v := (x2 + 1)) (lv' := [(2, .int (x2 + 1)), (0, .ref (ad 0)), (1, .int x1)]) hx hb dX7_listFulls_15 hl (k := 2) rfl rfl (by decide) rfl (fun ls hl => ?_)
    refine lv_goto (tgt := 2) hx hb dX7_listFulls_18 (by decide) ?_
    exact hk2_ w (lv_sub hl [1, 2, 0] rfl) hf
theorem w_X7_listFulls_2 (C : gC p s m args c RX7 cX7_listFulls 5 D (yty cI cZ) 30 (yE cI cZ) ad) (hr : meth.sig.returnType = none) (hq : meth.locks = false) {Rs : Int32 × Mem} : ∀ (n : Nat) {x1 : Int32} {x2 : Int32} {M : Mem} {H : Heap} {locs : List Loc} {ls : Array Slot}, gWd D 30 (yE cI cZ) ad M s H locs → lv_has ls 5 [(0, .ref (ad 0)), (1, .int x1), (2, .int x2)] → f_X7_listFulls_2  n x1 x2 M = some Rs → W p l e (rmH 0) s m args below meth c H locs 0 0 (MQ below (qV D 30 (yE cI cZ) ad Rs) args s 0 0 (gA 30 ad)) (F0 m 2 ls []) := by
  intro n
  induction n with
  | zero =>
    intro x1 x2 M H locs ls w hl hf
    cases hf
  | succ n ih =>
    intro x1 x2 M H locs ls w hl hf
    exact w_X7_listFulls_2b C hr hq ih  w hl hf
set_option maxRecDepth 100000 in
set_option maxHeartbeats 4000000 in
theorem w_X7_listFulls_0 (C : gC p s m args c RX7 cX7_listFulls 5 D (yty cI cZ) 30 (yE cI cZ) ad) (hr : meth.sig.returnType = none) (hq : meth.locks = false) {Rs : Int32 × Mem} {x1 : Int32} (w : gWd D 30 (yE cI cZ) ad M s H locs) (hl : lv_has ls 5 [(0, .ref (ad 0)), (1, .int x1)]) (hf : f_X7_listFulls_0  x1 M = some Rs) : W p l e (rmH 0) s m args below meth c H locs 0 0 (MQ below (qV D 30 (yE cI cZ) ad Rs) args s 0 0 (gA 30 ad)) (F0 m 0 ls []) := by
  unfold f_X7_listFulls_0 at hf
  have hx := C.1.1
  have hb := C.1.2.1
  have hi := C.2.2.2.1
  refine lv_iconst (v := 0) hx hb dX7_listFulls_0 (by decide) ?_
  refine lv_istore_n (lv' := [(2, .int (0 : Int32)), (0, .ref (ad 0)), (1, .int x1)]) hx hb dX7_listFulls_1 rfl hl (by decide) rfl (fun ls hl => ?_)
  exact w_X7_listFulls_2 C hr hq FU w (lv_sub hl [1, 2, 0] rfl) hf
abbrev f_X7_listFulls (x1 : Int32) (M : Mem) : Option (Int32 × Mem) := f_X7_listFulls_0 x1 M
theorem c_X7_listFulls (hi : gInj 30 ad) {x1 : Int32} {Rs : Int32 × Mem} (hf : f_X7_listFulls x1 M = some Rs) : gMet l yX7_listFulls cX7_listFulls 5 none 0 D (yty cI cZ) 30 (yE cI cZ) ad [.ref (ad 0), .int x1] M (qV D 30 (yE cI cZ) ad Rs) := gMet_of (by decide) hi (yE_loc cI cZ) (Nat.le_of_ble_eq_true rfl) (fun p e s m args below meth c ls C hr hq w hl => w_X7_listFulls_0 C hr hq  w hl hf)
def f_X7_ask_100 (M : Mem) : Option (Int32 × Mem) :=
  (stF M 0 26 ((M 0 26) + (1 : Int32))).bind fun M1 =>
  some ((0 : Int32), M1)
def f_X7_ask_37 (x1 : Int32) (x2 : Int32) (x3 : Int32) (s1 : Int32) (M : Mem) : Option (Int32 × Mem) :=
  (stF M 0 35 s1).bind fun M1 =>
  if x3 = 0 then ((f_X7_at x1 x2 M1).bind fun (v6, M4) =>
  (stI M4 10 80 v6 (1 : Int32)).bind fun M7 =>
  (stI M7 19 16 (M7 0 26) x2).bind fun M9 =>
  (stI M9 20 16 (M9 0 26) (0 : Int32)).bind fun M11 =>
  (stI M11 25 16 (M11 0 26) (0 : Int32)).bind fun M13 =>
  (ldI M13 1 16 x2).bind fun v15 =>
  if v15 = 0 then ((f_X7_listFulls x2 M13).bind fun (v20, M18) =>
  f_X7_ask_100 M18) else (f_X7_ask_100 M13)) else (some ((0 : Int32), M1))
def f_X7_ask_22 (x1 : Int32) (x2 : Int32) (x3 : Int32) (s1 : Int32) (M : Mem) : Option (Int32 × Mem) :=
  (stFZ M 0 34 s1).bind fun M1 =>
  if x3 = (3 : Int32) then (f_X7_ask_37 x1 x2 x3 (18 : Int32) M1) else (f_X7_ask_37 x1 x2 x3 (0 : Int32) M1)
def f_X7_ask_0 (x1 : Int32) (x2 : Int32) (M : Mem) : Option (Int32 × Mem) :=
  (f_X7_at x1 x2 M).bind fun (v3, M1) =>
  (ldI M1 10 80 v3).bind fun v4 =>
  if v4 = 0 then (f_X7_ask_22 x1 x2 v4 (0 : Int32) M1) else (f_X7_ask_22 x1 x2 v4 (1 : Int32) M1)
set_option maxRecDepth 100000 in
set_option maxHeartbeats 4000000 in
theorem w_X7_ask_100 (C : gC p s m args c RX7 cX7_ask 4 D (yty cI cZ) 30 (yE cI cZ) ad) (hr : meth.sig.returnType = none) (hq : meth.locks = false) {Rs : Int32 × Mem}  (w : gWd D 30 (yE cI cZ) ad M s H locs) (hl : lv_has ls 4 [(0, .ref (ad 0))]) (hf : f_X7_ask_100  M = some Rs) : W p l e (rmH 1) s m args below meth c H locs 0 0 (MQ below (qV D 30 (yE cI cZ) ad Rs) args s 0 0 (gA 30 ad)) (F0 m 100 ls []) := by
  unfold f_X7_ask_100 at hf
  have hx := C.1.1
  have hb := C.1.2.1
  have hi := C.2.2.2.1
  refine lv_aload_n hx hb dX7_ask_100 rfl (lv_at hl 0 rfl) ?_
  refine lv_dup hx hb dX7_ask_101 rfl ?_
  refine gt_X7_135 C w dX7_ask_102 ?_
  refine lv_iconst (v := 1) hx hb dX7_ask_105 (by decide) ?_
  refine lv_iadd hx hb dX7_ask_106 ?_
  obtain ⟨M1, e2, hf⟩ := bindS hf
  refine pt_X7_135 C w e2 dX7_ask_107 (fun H locs w => ?_)
  exact g_vret C w hr hq hf dX7_ask_110
set_option maxRecDepth 100000 in
set_option maxHeartbeats 4000000 in
theorem w_X7_ask_37 (C : gC p s m args c RX7 cX7_ask 4 D (yty cI cZ) 30 (yE cI cZ) ad) (hr : meth.sig.returnType = none) (hq : meth.locks = false) {Rs : Int32 × Mem} {x1 : Int32} {x2 : Int32} {x3 : Int32} {s1 : Int32} (w : gWd D 30 (yE cI cZ) ad M s H locs) (hl : lv_has ls 4 [(0, .ref (ad 0)), (1, .int x1), (2, .int x2), (3, .int x3)]) (hf : f_X7_ask_37  x1 x2 x3 s1 M = some Rs) : W p l e (rmH 1) s m args below meth c H locs 0 0 (MQ below (qV D 30 (yE cI cZ) ad Rs) args s 0 0 (gA 30 ad)) (F0 m 37 ls [.int s1, .ref (ad 0)]) := by
  unfold f_X7_ask_37 at hf
  have hx := C.1.1
  have hb := C.1.2.1
  have hi := C.2.2.2.1
  obtain ⟨M1, e2, hf⟩ := bindS hf
  refine pt_X7_153 C w e2 dX7_ask_37 (fun H locs w => ?_)
  refine lv_iload_n hx hb dX7_ask_40 rfl (lv_at hl 3 rfl) ?_
  refine lv_if_ne (tgt := 110) hx hb dX7_ask_41 (by decide) (fun c3 => ?_) (fun c3 => ?_)
  · replace hf := (if_neg c3).symm.trans hf
    exact g_vret C w hr hq hf dX7_ask_110
  · replace hf := (if_pos c3).symm.trans hf
    refine lv_aload_n hx hb dX7_ask_44 rfl (lv_at hl 0 rfl) ?_
    refine gt_X7_38 C w dX7_ask_45 ?_
    refine lv_aload_n hx hb dX7_ask_48 rfl (lv_at hl 0 rfl) ?_
    refine lv_iload_n hx hb dX7_ask_49 rfl (lv_at hl 1 rfl) ?_
    refine lv_iload_n hx hb dX7_ask_50 rfl (lv_at hl 2 rfl) ?_
    obtain ⟨⟨v6, M4⟩, e5, hf⟩ := bindS hf
    refine g_backI w (g_runV (rest := [.ref (ad 10)]) C w (c_X7_at hi  e5) ob_X7 rfl gv_X7_156 md_X7_at rfl (by omega) (by decide) hl.1 rfl (Nat.le_of_ble_eq_true rfl) dX7_ask_51) (fun H locs w => ?_)
    refine lv_iconst (v := 1) hx hb dX7_ask_54 (by decide) ?_
    obtain ⟨M7, e8, hf⟩ := bindS hf
    refine g_iast C w y_a10 e8 dX7_ask_55 (fun H locs w => ?_)
    refine lv_aload_n hx hb dX7_ask_56 rfl (lv_at hl 0 rfl) ?_
    refine gt_X7_65 C w dX7_ask_57 ?_
    refine lv_aload_n hx hb dX7_ask_60 rfl (lv_at hl 0 rfl) ?_
    refine gt_X7_135 C w dX7_ask_61 ?_
    refine lv_iload_n hx hb dX7_ask_64 rfl (lv_at hl 2 rfl) ?_
    obtain ⟨M9, e10, hf⟩ := bindS hf
    refine g_iast C w y_a19 e10 dX7_ask_65 (fun H locs w => ?_)
    refine lv_aload_n hx hb dX7_ask_66 rfl (lv_at hl 0 rfl) ?_
    refine gt_X7_68 C w dX7_ask_67 ?_
    refine lv_aload_n hx hb dX7_ask_70 rfl (lv_at hl 0 rfl) ?_
    refine gt_X7_135 C w dX7_ask_71 ?_
    refine lv_iconst (v := 0) hx hb dX7_ask_74 (by decide) ?_
    obtain ⟨M11, e12, hf⟩ := bindS hf
    refine g_iast C w y_a20 e12 dX7_ask_75 (fun H locs w => ?_)
    refine lv_aload_n hx hb dX7_ask_76 rfl (lv_at hl 0 rfl) ?_
    refine gt_X7_83 C w dX7_ask_77 ?_
    refine lv_aload_n hx hb dX7_ask_80 rfl (lv_at hl 0 rfl) ?_
    refine gt_X7_135 C w dX7_ask_81 ?_
    refine lv_iconst (v := 0) hx hb dX7_ask_84 (by decide) ?_
    obtain ⟨M13, e14, hf⟩ := bindS hf
    refine g_iast C w y_a25 e14 dX7_ask_85 (fun H locs w => ?_)
    refine lv_aload_n hx hb dX7_ask_86 rfl (lv_at hl 0 rfl) ?_
    refine gt_X7_7 C w dX7_ask_87 ?_
    refine lv_iload_n hx hb dX7_ask_90 rfl (lv_at hl 2 rfl) ?_
    obtain ⟨v15, e16, hf⟩ := bindS hf
    refine g_iald C w y_a1 e16 dX7_ask_91 ?_
    refine lv_if_ne (tgt := 100) hx hb dX7_ask_92 (by decide) (fun c17 => ?_) (fun c17 => ?_)
    · replace hf := (if_neg c17).symm.trans hf
      exact w_X7_ask_100 C hr hq w (lv_sub hl [0] rfl) hf
    · replace hf := (if_pos c17).symm.trans hf
      refine lv_aload_n hx hb dX7_ask_95 rfl (lv_at hl 0 rfl) ?_
      refine lv_iload_n hx hb dX7_ask_96 rfl (lv_at hl 2 rfl) ?_
      obtain ⟨⟨v20, M18⟩, e19, hf⟩ := bindS hf
      refine g_backV w (g_runV (rest := []) C w (c_X7_listFulls hi  e19) ob_X7 rfl gv_X7_160 md_X7_listFulls rfl (by omega) (by decide) hl.1 rfl (Nat.le_of_ble_eq_true rfl) dX7_ask_97) (fun H locs w => ?_)
      exact w_X7_ask_100 C hr hq w (lv_sub hl [0] rfl) hf
set_option maxRecDepth 100000 in
set_option maxHeartbeats 4000000 in
theorem w_X7_ask_22 (C : gC p s m args c RX7 cX7_ask 4 D (yty cI cZ) 30 (yE cI cZ) ad) (hr : meth.sig.returnType = none) (hq : meth.locks = false) {Rs : Int32 × Mem} {x1 : Int32} {x2 : Int32} {x3 : Int32} {s1 : Int32} (w : gWd D 30 (yE cI cZ) ad M s H locs) (hl : lv_has ls 4 [(0, .ref (ad 0)), (1, .int x1), (2, .int x2), (3, .int x3)]) (hf : f_X7_ask_22  x1 x2 x3 s1 M = some Rs) : W p l e (rmH 1) s m args below meth c H locs 0 0 (MQ below (qV D 30 (yE cI cZ) ad Rs) args s 0 0 (gA 30 ad)) (F0 m 22 ls [.int s1, .ref (ad 0)]) := by
  unfold f_X7_ask_22 at hf
  have hx := C.1.1
  have hb := C.1.2.1
  have hi := C.2.2.2.1
  obtain ⟨M1, e2, hf⟩ := bindS hf
  refine pt_X7_142 C w e2 dX7_ask_22 (fun H locs w => ?_)
  refine lv_aload_n hx hb dX7_ask_25 rfl (lv_at hl 0 rfl) ?_
  refine lv_iload_n hx hb dX7_ask_26 rfl (lv_at hl 3 rfl) ?_
  refine lv_iconst (v := 3) hx hb dX7_ask_27 (by decide) ?_
  refine lv_icmp_ne (tgt := 36) hx hb dX7_ask_28 (by decide) (fun c3 => ?_) (fun c3 => ?_)
  · replace hf := (if_neg c3).symm.trans hf
    refine lv_iconst (v := 0) hx hb dX7_ask_36 (by decide) ?_
    exact w_X7_ask_37 C hr hq w (lv_sub hl [0, 1, 2, 3] rfl) hf
  · replace hf := (if_pos c3).symm.trans hf
    refine lv_bipush (v := 18) hx hb dX7_ask_31 (by decide) ?_
    refine lv_goto (tgt := 37) hx hb dX7_ask_33 (by decide) ?_
    exact w_X7_ask_37 C hr hq w (lv_sub hl [0, 1, 2, 3] rfl) hf
set_option maxRecDepth 100000 in
set_option maxHeartbeats 4000000 in
theorem w_X7_ask_0 (C : gC p s m args c RX7 cX7_ask 4 D (yty cI cZ) 30 (yE cI cZ) ad) (hr : meth.sig.returnType = none) (hq : meth.locks = false) {Rs : Int32 × Mem} {x1 : Int32} {x2 : Int32} (w : gWd D 30 (yE cI cZ) ad M s H locs) (hl : lv_has ls 4 [(0, .ref (ad 0)), (1, .int x1), (2, .int x2)]) (hf : f_X7_ask_0  x1 x2 M = some Rs) : W p l e (rmH 1) s m args below meth c H locs 0 0 (MQ below (qV D 30 (yE cI cZ) ad Rs) args s 0 0 (gA 30 ad)) (F0 m 0 ls []) := by
  unfold f_X7_ask_0 at hf
  have hx := C.1.1
  have hb := C.1.2.1
  have hi := C.2.2.2.1
  refine lv_aload_n hx hb dX7_ask_0 rfl (lv_at hl 0 rfl) ?_
  refine gt_X7_38 C w dX7_ask_1 ?_
  refine lv_aload_n hx hb dX7_ask_4 rfl (lv_at hl 0 rfl) ?_
  refine lv_iload_n hx hb dX7_ask_5 rfl (lv_at hl 1 rfl) ?_
  refine lv_iload_n hx hb dX7_ask_6 rfl (lv_at hl 2 rfl) ?_
  obtain ⟨⟨v3, M1⟩, e2, hf⟩ := bindS hf
  refine g_backI w (g_runV (rest := [.ref (ad 10)]) C w (c_X7_at hi  e2) ob_X7 rfl gv_X7_156 md_X7_at rfl (by omega) (by decide) hl.1 rfl (Nat.le_of_ble_eq_true rfl) dX7_ask_7) (fun H locs w => ?_)
  obtain ⟨v4, e5, hf⟩ := bindS hf
  refine g_iald C w y_a10 e5 dX7_ask_10 ?_
  refine lv_istore_n (lv' := [(3, .int v4), (0, .ref (ad 0)), (1, .int x1), (2, .int x2)]) hx hb dX7_ask_11 rfl hl (by decide) rfl (fun ls hl => ?_)
  refine lv_aload_n hx hb dX7_ask_12 rfl (lv_at hl 1 rfl) ?_
  refine lv_iload_n hx hb dX7_ask_13 rfl (lv_at hl 0 rfl) ?_
  refine lv_if_eq (tgt := 21) hx hb dX7_ask_14 (by decide) (fun c6 => ?_) (fun c6 => ?_)
  · replace hf := (if_pos c6).symm.trans hf
    refine lv_iconst (v := 0) hx hb dX7_ask_21 (by decide) ?_
    exact w_X7_ask_22 C hr hq w (lv_sub hl [1, 2, 3, 0] rfl) hf
  · replace hf := (if_neg c6).symm.trans hf
    refine lv_iconst (v := 1) hx hb dX7_ask_17 (by decide) ?_
    refine lv_goto (tgt := 22) hx hb dX7_ask_18 (by decide) ?_
    exact w_X7_ask_22 C hr hq w (lv_sub hl [1, 2, 3, 0] rfl) hf
abbrev f_X7_ask (x1 : Int32) (x2 : Int32) (M : Mem) : Option (Int32 × Mem) := f_X7_ask_0 x1 x2 M
theorem c_X7_ask (hi : gInj 30 ad) {x1 : Int32} {x2 : Int32} {Rs : Int32 × Mem} (hf : f_X7_ask x1 x2 M = some Rs) : gMet l yX7_ask cX7_ask 4 none 1 D (yty cI cZ) 30 (yE cI cZ) ad [.ref (ad 0), .int x1, .int x2] M (qV D 30 (yE cI cZ) ad Rs) := gMet_of (by decide) hi (yE_loc cI cZ) (Nat.le_of_ble_eq_true rfl) (fun p e s m args below meth c ls C hr hq w hl => w_X7_ask_0 C hr hq  w hl hf)
def f_X7_end_117 (x2 : Int32) (M : Mem) : Option (Int32 × Mem) :=
  (stFZ M 0 34 (1 : Int32)).bind fun M1 =>
  (stF M1 0 35 x2).bind fun M3 =>
  some ((0 : Int32), M3)
def f_X7_end_39 (x1 : Int32) (x2 : Int32) (x3 : Int32) (q0 : Nat) (s1 : Int32) (s2 : Int32) (M : Mem) : Option (Int32 × Mem) :=
  (stI M q0 80 s1 s2).bind fun M1 =>
  if (150 : Int32) ≤ (M1 0 17) then (f_X7_end_117 x2 M1) else ((stI M1 14 600 ((4 : Int32) * (M1 0 17)) x3).bind fun M4 =>
  (stI M4 14 600 (((4 : Int32) * (M4 0 17)) + (1 : Int32)) x1).bind fun M6 =>
  (stI M6 14 600 (((4 : Int32) * (M6 0 17)) + (2 : Int32)) x2).bind fun M8 =>
  (stI M8 14 600 (((4 : Int32) * (M8 0 17)) + (3 : Int32)) (M8 0 16)).bind fun M10 =>
  (stF M10 0 17 ((M10 0 17) + (1 : Int32))).bind fun M12 =>
  f_X7_end_117 x2 M12)
def f_X7_end_0 (x1 : Int32) (x2 : Int32) (M : Mem) : Option (Int32 × Mem) :=
  (stF M 0 26 ((M 0 26) - (1 : Int32))).bind fun M1 =>
  (ldI M1 19 16 (M1 0 26)).bind fun v3 =>
  (f_X7_at x1 v3 M1).bind fun (v7, M5) =>
  if x2 = 0 then (f_X7_end_39 x1 x2 v3 10 v7 (2 : Int32) M5) else (f_X7_end_39 x1 x2 v3 10 v7 (3 : Int32) M5)
set_option maxRecDepth 100000 in
set_option maxHeartbeats 4000000 in
theorem w_X7_end_117 (C : gC p s m args c RX7 cX7_end 4 D (yty cI cZ) 30 (yE cI cZ) ad) (hr : meth.sig.returnType = none) (hq : meth.locks = false) {Rs : Int32 × Mem} {x2 : Int32} (w : gWd D 30 (yE cI cZ) ad M s H locs) (hl : lv_has ls 4 [(0, .ref (ad 0)), (2, .int x2)]) (hf : f_X7_end_117  x2 M = some Rs) : W p l e (rmH 1) s m args below meth c H locs 0 0 (MQ below (qV D 30 (yE cI cZ) ad Rs) args s 0 0 (gA 30 ad)) (F0 m 117 ls []) := by
  unfold f_X7_end_117 at hf
  have hx := C.1.1
  have hb := C.1.2.1
  have hi := C.2.2.2.1
  refine lv_aload_n hx hb dX7_end_117 rfl (lv_at hl 0 rfl) ?_
  refine lv_iconst (v := 1) hx hb dX7_end_118 (by decide) ?_
  obtain ⟨M1, e2, hf⟩ := bindS hf
  refine pt_X7_142 C w e2 dX7_end_119 (fun H locs w => ?_)
  refine lv_aload_n hx hb dX7_end_122 rfl (lv_at hl 0 rfl) ?_
  refine lv_iload_n hx hb dX7_end_123 rfl (lv_at hl 1 rfl) ?_
  obtain ⟨M3, e4, hf⟩ := bindS hf
  refine pt_X7_153 C w e4 dX7_end_124 (fun H locs w => ?_)
  exact g_vret C w hr hq hf dX7_end_127
set_option maxRecDepth 100000 in
set_option maxHeartbeats 4000000 in
theorem w_X7_end_39 (C : gC p s m args c RX7 cX7_end 4 D (yty cI cZ) 30 (yE cI cZ) ad) (hr : meth.sig.returnType = none) (hq : meth.locks = false) {Rs : Int32 × Mem} {x1 : Int32} {x2 : Int32} {x3 : Int32} {q0 : Nat} {s1 : Int32} {s2 : Int32} (g0 : gAr 30 (yE cI cZ) ad cI q0 80) (w : gWd D 30 (yE cI cZ) ad M s H locs) (hl : lv_has ls 4 [(0, .ref (ad 0)), (1, .int x1), (2, .int x2), (3, .int x3)]) (hf : f_X7_end_39  x1 x2 x3 q0 s1 s2 M = some Rs) : W p l e (rmH 1) s m args below meth c H locs 0 0 (MQ below (qV D 30 (yE cI cZ) ad Rs) args s 0 0 (gA 30 ad)) (F0 m 39 ls [.int s2, .int s1, .ref (ad q0)]) := by
  unfold f_X7_end_39 at hf
  have hx := C.1.1
  have hb := C.1.2.1
  have hi := C.2.2.2.1
  obtain ⟨M1, e2, hf⟩ := bindS hf
  refine g_iast C w g0 e2 dX7_end_39 (fun H locs w => ?_)
  refine lv_aload_n hx hb dX7_end_40 rfl (lv_at hl 0 rfl) ?_
  refine gt_X7_111 C w dX7_end_41 ?_
  refine lv_sipush (v := 150) hx hb dX7_end_44 (by decide) ?_
  refine lv_icmp_ge (tgt := 117) hx hb dX7_end_47 (by decide) (fun c3 => ?_) (fun c3 => ?_)
  · replace hf := (if_pos c3).symm.trans hf
    exact w_X7_end_117 C hr hq w (lv_sub hl [0, 2] rfl) hf
  · replace hf := (if_neg c3).symm.trans hf
    refine lv_aload_n hx hb dX7_end_50 rfl (lv_at hl 0 rfl) ?_
    refine gt_X7_50 C w dX7_end_51 ?_
    refine lv_iconst (v := 4) hx hb dX7_end_54 (by decide) ?_
    refine lv_aload_n hx hb dX7_end_55 rfl (lv_at hl 0 rfl) ?_
    refine gt_X7_111 C w dX7_end_56 ?_
    refine lv_imul hx hb dX7_end_59 ?_
    refine lv_iload_n hx hb dX7_end_60 rfl (lv_at hl 3 rfl) ?_
    obtain ⟨M4, e5, hf⟩ := bindS hf
    refine g_iast C w y_a14 e5 dX7_end_61 (fun H locs w => ?_)
    refine lv_aload_n hx hb dX7_end_62 rfl (lv_at hl 0 rfl) ?_
    refine gt_X7_50 C w dX7_end_63 ?_
    refine lv_iconst (v := 4) hx hb dX7_end_66 (by decide) ?_
    refine lv_aload_n hx hb dX7_end_67 rfl (lv_at hl 0 rfl) ?_
    refine gt_X7_111 C w dX7_end_68 ?_
    refine lv_imul hx hb dX7_end_71 ?_
    refine lv_iconst (v := 1) hx hb dX7_end_72 (by decide) ?_
    refine lv_iadd hx hb dX7_end_73 ?_
    refine lv_iload_n hx hb dX7_end_74 rfl (lv_at hl 1 rfl) ?_
    obtain ⟨M6, e7, hf⟩ := bindS hf
    refine g_iast C w y_a14 e7 dX7_end_75 (fun H locs w => ?_)
    refine lv_aload_n hx hb dX7_end_76 rfl (lv_at hl 0 rfl) ?_
    refine gt_X7_50 C w dX7_end_77 ?_
    refine lv_iconst (v := 4) hx hb dX7_end_80 (by decide) ?_
    refine lv_aload_n hx hb dX7_end_81 rfl (lv_at hl 0 rfl) ?_
    refine gt_X7_111 C w dX7_end_82 ?_
    refine lv_imul hx hb dX7_end_85 ?_
    refine lv_iconst (v := 2) hx hb dX7_end_86 (by decide) ?_
    refine lv_iadd hx hb dX7_end_87 ?_
    refine lv_iload_n hx hb dX7_end_88 rfl (lv_at hl 2 rfl) ?_
    obtain ⟨M8, e9, hf⟩ := bindS hf
    refine g_iast C w y_a14 e9 dX7_end_89 (fun H locs w => ?_)
    refine lv_aload_n hx hb dX7_end_90 rfl (lv_at hl 0 rfl) ?_
    refine gt_X7_50 C w dX7_end_91 ?_
    refine lv_iconst (v := 4) hx hb dX7_end_94 (by decide) ?_
    refine lv_aload_n hx hb dX7_end_95 rfl (lv_at hl 0 rfl) ?_
    refine gt_X7_111 C w dX7_end_96 ?_
    refine lv_imul hx hb dX7_end_99 ?_
    refine lv_iconst (v := 3) hx hb dX7_end_100 (by decide) ?_
    refine lv_iadd hx hb dX7_end_101 ?_
    refine lv_aload_n hx hb dX7_end_102 rfl (lv_at hl 0 rfl) ?_
    refine gt_X7_108 C w dX7_end_103 ?_
    obtain ⟨M10, e11, hf⟩ := bindS hf
    refine g_iast C w y_a14 e11 dX7_end_106 (fun H locs w => ?_)
    refine lv_aload_n hx hb dX7_end_107 rfl (lv_at hl 0 rfl) ?_
    refine lv_dup hx hb dX7_end_108 rfl ?_
    refine gt_X7_111 C w dX7_end_109 ?_
    refine lv_iconst (v := 1) hx hb dX7_end_112 (by decide) ?_
    refine lv_iadd hx hb dX7_end_113 ?_
    obtain ⟨M12, e13, hf⟩ := bindS hf
    refine pt_X7_111 C w e13 dX7_end_114 (fun H locs w => ?_)
    exact w_X7_end_117 C hr hq w (lv_sub hl [0, 2] rfl) hf
set_option maxRecDepth 100000 in
set_option maxHeartbeats 4000000 in
theorem w_X7_end_0 (C : gC p s m args c RX7 cX7_end 4 D (yty cI cZ) 30 (yE cI cZ) ad) (hr : meth.sig.returnType = none) (hq : meth.locks = false) {Rs : Int32 × Mem} {x1 : Int32} {x2 : Int32} (w : gWd D 30 (yE cI cZ) ad M s H locs) (hl : lv_has ls 4 [(0, .ref (ad 0)), (1, .int x1), (2, .int x2)]) (hf : f_X7_end_0  x1 x2 M = some Rs) : W p l e (rmH 1) s m args below meth c H locs 0 0 (MQ below (qV D 30 (yE cI cZ) ad Rs) args s 0 0 (gA 30 ad)) (F0 m 0 ls []) := by
  unfold f_X7_end_0 at hf
  have hx := C.1.1
  have hb := C.1.2.1
  have hi := C.2.2.2.1
  refine lv_aload_n hx hb dX7_end_0 rfl (lv_at hl 0 rfl) ?_
  refine lv_dup hx hb dX7_end_1 rfl ?_
  refine gt_X7_135 C w dX7_end_2 ?_
  refine lv_iconst (v := 1) hx hb dX7_end_5 (by decide) ?_
  refine lv_isub hx hb dX7_end_6 ?_
  obtain ⟨M1, e2, hf⟩ := bindS hf
  refine pt_X7_135 C w e2 dX7_end_7 (fun H locs w => ?_)
  refine lv_aload_n hx hb dX7_end_10 rfl (lv_at hl 0 rfl) ?_
  refine gt_X7_65 C w dX7_end_11 ?_
  refine lv_aload_n hx hb dX7_end_14 rfl (lv_at hl 0 rfl) ?_
  refine gt_X7_135 C w dX7_end_15 ?_
  obtain ⟨v3, e4, hf⟩ := bindS hf
  refine g_iald C w y_a19 e4 dX7_end_18 ?_
  refine lv_istore_n (lv' := [(3, .int v3), (0, .ref (ad 0)), (1, .int x1), (2, .int x2)]) hx hb dX7_end_19 rfl hl (by decide) rfl (fun ls hl => ?_)
  refine lv_aload_n hx hb dX7_end_20 rfl (lv_at hl 1 rfl) ?_
  refine gt_X7_38 C w dX7_end_21 ?_
  refine lv_aload_n hx hb dX7_end_24 rfl (lv_at hl 1 rfl) ?_
  refine lv_iload_n hx hb dX7_end_25 rfl (lv_at hl 2 rfl) ?_
  refine lv_iload_n hx hb dX7_end_26 rfl (lv_at hl 0 rfl) ?_
  obtain ⟨⟨v7, M5⟩, e6, hf⟩ := bindS hf
  refine g_backI w (g_runV (rest := [.ref (ad 10)]) C w (c_X7_at hi  e6) ob_X7 rfl gv_X7_156 md_X7_at rfl (by omega) (by decide) hl.1 rfl (Nat.le_of_ble_eq_true rfl) dX7_end_27) (fun H locs w => ?_)
  refine lv_iload_n hx hb dX7_end_30 rfl (lv_at hl 3 rfl) ?_
  refine lv_if_ne (tgt := 38) hx hb dX7_end_31 (by decide) (fun c8 => ?_) (fun c8 => ?_)
  · replace hf := (if_neg c8).symm.trans hf
    refine lv_iconst (v := 3) hx hb dX7_end_38 (by decide) ?_
    exact w_X7_end_39 C hr hq y_a10 w (lv_sub hl [1, 2, 3, 0] rfl) hf
  · replace hf := (if_pos c8).symm.trans hf
    refine lv_iconst (v := 2) hx hb dX7_end_34 (by decide) ?_
    refine lv_goto (tgt := 39) hx hb dX7_end_35 (by decide) ?_
    exact w_X7_end_39 C hr hq y_a10 w (lv_sub hl [1, 2, 3, 0] rfl) hf
abbrev f_X7_end (x1 : Int32) (x2 : Int32) (M : Mem) : Option (Int32 × Mem) := f_X7_end_0 x1 x2 M
theorem c_X7_end (hi : gInj 30 ad) {x1 : Int32} {x2 : Int32} {Rs : Int32 × Mem} (hf : f_X7_end x1 x2 M = some Rs) : gMet l yX7_end cX7_end 4 none 1 D (yty cI cZ) 30 (yE cI cZ) ad [.ref (ad 0), .int x1, .int x2] M (qV D 30 (yE cI cZ) ad Rs) := gMet_of (by decide) hi (yE_loc cI cZ) (Nat.le_of_ble_eq_true rfl) (fun p e s m args below meth c ls C hr hq w hl => w_X7_end_0 C hr hq  w hl hf)
def f_X7_plain_0 (x1 : Int32) (x2 : Int32) (x3 : Int32) (M : Mem) : Option (Int32 × Mem) :=
  (f_X7_at x1 x2 M).bind fun (v3, M1) =>
  (ldI M1 11 400 (((5 : Int32) * v3) + x3)).bind fun v4 =>
  some (v4, M1)
set_option maxRecDepth 100000 in
set_option maxHeartbeats 4000000 in
theorem w_X7_plain_0 (C : gC p s m args c RX7 cX7_plain 4 D (yty cI cZ) 30 (yE cI cZ) ad) (hr : meth.sig.returnType = (some .int)) (hq : meth.locks = false) {Rs : Int32 × Mem} {x1 : Int32} {x2 : Int32} {x3 : Int32} (w : gWd D 30 (yE cI cZ) ad M s H locs) (hl : lv_has ls 4 [(0, .ref (ad 0)), (1, .int x1), (2, .int x2), (3, .int x3)]) (hf : f_X7_plain_0  x1 x2 x3 M = some Rs) : W p l e (rmH 1) s m args below meth c H locs 0 0 (MQ below (qI D 30 (yE cI cZ) ad Rs) args s 0 0 (gA 30 ad)) (F0 m 0 ls []) := by
  unfold f_X7_plain_0 at hf
  have hx := C.1.1
  have hb := C.1.2.1
  have hi := C.2.2.2.1
  refine lv_aload_n hx hb dX7_plain_0 rfl (lv_at hl 0 rfl) ?_
  refine gt_X7_41 C w dX7_plain_1 ?_
  refine lv_iconst (v := 5) hx hb dX7_plain_4 (by decide) ?_
  refine lv_aload_n hx hb dX7_plain_5 rfl (lv_at hl 0 rfl) ?_
  refine lv_iload_n hx hb dX7_plain_6 rfl (lv_at hl 1 rfl) ?_
  refine lv_iload_n hx hb dX7_plain_7 rfl (lv_at hl 2 rfl) ?_
  obtain ⟨⟨v3, M1⟩, e2, hf⟩ := bindS hf
  refine g_backI w (g_runV (rest := [.int (5 : Int32), .ref (ad 11)]) C w (c_X7_at hi  e2) ob_X7 rfl gv_X7_156 md_X7_at rfl (by omega) (by decide) hl.1 rfl (Nat.le_of_ble_eq_true rfl) dX7_plain_8) (fun H locs w => ?_)
  refine lv_imul hx hb dX7_plain_11 ?_
  refine lv_iload_n hx hb dX7_plain_12 rfl (lv_at hl 3 rfl) ?_
  refine lv_iadd hx hb dX7_plain_13 ?_
  obtain ⟨v4, e5, hf⟩ := bindS hf
  refine g_iald C w y_a11 e5 dX7_plain_14 ?_
  exact g_iret C w hr hq hf dX7_plain_15
abbrev f_X7_plain (x1 : Int32) (x2 : Int32) (x3 : Int32) (M : Mem) : Option (Int32 × Mem) := f_X7_plain_0 x1 x2 x3 M
theorem c_X7_plain (hi : gInj 30 ad) {x1 : Int32} {x2 : Int32} {x3 : Int32} {Rs : Int32 × Mem} (hf : f_X7_plain x1 x2 x3 M = some Rs) : gMet l yX7_plain cX7_plain 4 (some .int) 1 D (yty cI cZ) 30 (yE cI cZ) ad [.ref (ad 0), .int x1, .int x2, .int x3] M (qI D 30 (yE cI cZ) ad Rs) := gMet_of (by decide) hi (yE_loc cI cZ) (Nat.le_of_ble_eq_true rfl) (fun p e s m args below meth c ls C hr hq w hl => w_X7_plain_0 C hr hq  w hl hf)
def f_X7_write_0 (x1 : Int32) (x2 : Int32) (x3 : Int32) (x4 : Int32) (M : Mem) : Option (Int32 × Mem) :=
  (ldI M 6 80 (((5 : Int32) * x2) + x3)).bind fun v1 =>
  if v1 = (2 : Int32) then ((f_X7_at x1 x2 M).bind fun (v6, M4) =>
  (stI M4 11 400 (((5 : Int32) * v6) + x3) x4).bind fun M7 =>
  (stF M7 0 25 ((M7 0 25) + (1 : Int32))).bind fun M9 =>
  some ((0 : Int32), M9)) else (some ((12 : Int32), M))
set_option maxRecDepth 100000 in
set_option maxHeartbeats 4000000 in
theorem w_X7_write_0 (C : gC p s m args c RX7 cX7_write 5 D (yty cI cZ) 30 (yE cI cZ) ad) (hr : meth.sig.returnType = (some .int)) (hq : meth.locks = false) {Rs : Int32 × Mem} {x1 : Int32} {x2 : Int32} {x3 : Int32} {x4 : Int32} (w : gWd D 30 (yE cI cZ) ad M s H locs) (hl : lv_has ls 5 [(0, .ref (ad 0)), (1, .int x1), (2, .int x2), (3, .int x3), (4, .int x4)]) (hf : f_X7_write_0  x1 x2 x3 x4 M = some Rs) : W p l e (rmH 1) s m args below meth c H locs 0 0 (MQ below (qI D 30 (yE cI cZ) ad Rs) args s 0 0 (gA 30 ad)) (F0 m 0 ls []) := by
  unfold f_X7_write_0 at hf
  have hx := C.1.1
  have hb := C.1.2.1
  have hi := C.2.2.2.1
  refine lv_aload_n hx hb dX7_write_0 rfl (lv_at hl 0 rfl) ?_
  refine gt_X7_26 C w dX7_write_1 ?_
  refine lv_iconst (v := 5) hx hb dX7_write_4 (by decide) ?_
  refine lv_iload_n hx hb dX7_write_5 rfl (lv_at hl 2 rfl) ?_
  refine lv_imul hx hb dX7_write_6 ?_
  refine lv_iload_n hx hb dX7_write_7 rfl (lv_at hl 3 rfl) ?_
  refine lv_iadd hx hb dX7_write_8 ?_
  obtain ⟨v1, e2, hf⟩ := bindS hf
  refine g_iald C w y_a6 e2 dX7_write_9 ?_
  refine lv_iconst (v := 2) hx hb dX7_write_10 (by decide) ?_
  refine lv_icmp_eq (tgt := 17) hx hb dX7_write_11 (by decide) (fun c3 => ?_) (fun c3 => ?_)
  · replace hf := (if_pos c3).symm.trans hf
    refine lv_aload_n hx hb dX7_write_17 rfl (lv_at hl 0 rfl) ?_
    refine gt_X7_41 C w dX7_write_18 ?_
    refine lv_iconst (v := 5) hx hb dX7_write_21 (by decide) ?_
    refine lv_aload_n hx hb dX7_write_22 rfl (lv_at hl 0 rfl) ?_
    refine lv_iload_n hx hb dX7_write_23 rfl (lv_at hl 1 rfl) ?_
    refine lv_iload_n hx hb dX7_write_24 rfl (lv_at hl 2 rfl) ?_
    obtain ⟨⟨v6, M4⟩, e5, hf⟩ := bindS hf
    refine g_backI w (g_runV (rest := [.int (5 : Int32), .ref (ad 11)]) C w (c_X7_at hi  e5) ob_X7 rfl gv_X7_156 md_X7_at rfl (by omega) (by decide) hl.1 rfl (Nat.le_of_ble_eq_true rfl) dX7_write_25) (fun H locs w => ?_)
    refine lv_imul hx hb dX7_write_28 ?_
    refine lv_iload_n hx hb dX7_write_29 rfl (lv_at hl 3 rfl) ?_
    refine lv_iadd hx hb dX7_write_30 ?_
    refine lv_iload hx hb dX7_write_31 (lv_at hl 4 rfl) ?_
    obtain ⟨M7, e8, hf⟩ := bindS hf
    refine g_iast C w y_a11 e8 dX7_write_33 (fun H locs w => ?_)
    refine lv_aload_n hx hb dX7_write_34 rfl (lv_at hl 0 rfl) ?_
    refine lv_dup hx hb dX7_write_35 rfl ?_
    refine gt_X7_186 C w dX7_write_36 ?_
    refine lv_iconst (v := 1) hx hb dX7_write_39 (by decide) ?_
    refine lv_iadd hx hb dX7_write_40 ?_
    obtain ⟨M9, e10, hf⟩ := bindS hf
    refine pt_X7_186 C w e10 dX7_write_41 (fun H locs w => ?_)
    refine lv_iconst (v := 0) hx hb dX7_write_44 (by decide) ?_
    exact g_iret C w hr hq hf dX7_write_45
  · replace hf := (if_neg c3).symm.trans hf
    refine lv_bipush (v := 12) hx hb dX7_write_14 (by decide) ?_
    exact g_iret C w hr hq hf dX7_write_16
abbrev f_X7_write (x1 : Int32) (x2 : Int32) (x3 : Int32) (x4 : Int32) (M : Mem) : Option (Int32 × Mem) := f_X7_write_0 x1 x2 x3 x4 M
theorem c_X7_write (hi : gInj 30 ad) {x1 : Int32} {x2 : Int32} {x3 : Int32} {x4 : Int32} {Rs : Int32 × Mem} (hf : f_X7_write x1 x2 x3 x4 M = some Rs) : gMet l yX7_write cX7_write 5 (some .int) 1 D (yty cI cZ) 30 (yE cI cZ) ad [.ref (ad 0), .int x1, .int x2, .int x3, .int x4] M (qI D 30 (yE cI cZ) ad Rs) := gMet_of (by decide) hi (yE_loc cI cZ) (Nat.le_of_ble_eq_true rfl) (fun p e s m args below meth c ls C hr hq w hl => w_X7_write_0 C hr hq  w hl hf)
def f_X7_heard_195 (x1 : Int32) (x6 : Int32) (M : Mem) : Option (Int32 × Mem) :=
  if x6 = 0 then (some ((0 : Int32), M)) else ((f_X7_end x1 x6 M).bind fun (v4, M2) =>
  some ((0 : Int32), M2))
def f_X7_heard_136 (x1 : Int32) (s0 : Int32) (M : Mem) : Option (Int32 × Mem) :=
  f_X7_heard_195 x1 s0 M
def f_X7_heard_111 (x1 : Int32) (x2 : Int32) (x3 : Int32) (x5 : Int32) (x6 : Int32) (M : Mem) : Option (Int32 × Mem) :=
  (ldI M 21 16 x2).bind fun v1 =>
  if v1 = (1 : Int32) then (f_X7_heard_136 x1 x6 M) else ((f_X7_write x1 x3 x5 x6 M).bind fun (v6, M4) =>
  f_X7_heard_136 x1 v6 M4)
def f_X7_heard_88 (x1 : Int32) (x2 : Int32) (x3 : Int32) (x5 : Int32) (x6 : Int32) (s0 : Int32) (M : Mem) : Option (Int32 × Mem) :=
  if x6 = 0 then ((ldI M 12 64 (((16 : Int32) * x1) + s0)).bind fun v2 =>
  (stI M 12 64 (((16 : Int32) * x1) + s0) (v2 + (1 : Int32))).bind fun M4 =>
  f_X7_heard_111 x1 x2 x3 x5 x6 M4) else (f_X7_heard_111 x1 x2 x3 x5 x6 M)
def f_X7_heard_64 (x1 : Int32) (x2 : Int32) (x3 : Int32) (x4 : Int32) (x5 : Int32) (x6 : Int32) (M : Mem) : Option (Int32 × Mem) :=
  (ldI M 21 16 x2).bind fun v1 =>
  if v1 = (1 : Int32) then (f_X7_heard_88 x1 x2 x3 x5 x6 x5 M) else ((ldI M 9 512 (x4 + (2 : Int32))).bind fun v4 =>
  f_X7_heard_88 x1 x2 x3 x5 x6 v4 M)
def f_X7_heard_0 (x1 : Int32) (M : Mem) : Option (Int32 × Mem) :=
  (ldI M 19 16 ((M 0 26) - (1 : Int32))).bind fun v1 =>
  (ldI M 22 16 ((M 0 26) - (1 : Int32))).bind fun v3 =>
  (ldI M 9 512 (v3 + (1 : Int32))).bind fun v5 =>
  (stFZ M 0 34 (0 : Int32)).bind fun M7 =>
  (ldI M7 21 16 ((M 0 26) - (1 : Int32))).bind fun v9 =>
  if v9 = (1 : Int32) then (f_X7_heard_64 x1 ((M 0 26) - (1 : Int32)) v1 v3 v5 (M 0 35) M7) else ((ldI M7 21 16 ((M 0 26) - (1 : Int32))).bind fun v12 =>
  if v12 = (2 : Int32) then (f_X7_heard_64 x1 ((M 0 26) - (1 : Int32)) v1 v3 v5 (M 0 35) M7) else ((ldI M7 21 16 ((M 0 26) - (1 : Int32))).bind fun v15 =>
  if v15 = (3 : Int32) then (if (M 0 35) = 0 then ((f_X7_plain x1 v1 v5 M7).bind fun (v21, M19) =>
  (ldI M19 23 16 ((M 0 26) - (1 : Int32))).bind fun v22 =>
  (ldI M19 9 512 (v3 + (3 : Int32))).bind fun v24 =>
  (f_X7_plain x1 v22 v24 M19).bind fun (v28, M26) =>
  (f_X7_write x1 v1 v5 (v21 + v28) M26).bind fun (v31, M29) =>
  f_X7_heard_195 x1 v31 M29) else (f_X7_heard_195 x1 (M 0 35) M7)) else (f_X7_heard_195 x1 (M 0 35) M7)))
set_option maxRecDepth 100000 in
set_option maxHeartbeats 4000000 in
theorem w_X7_heard_195 (C : gC p s m args c RX7 cX7_heard 8 D (yty cI cZ) 30 (yE cI cZ) ad) (hr : meth.sig.returnType = none) (hq : meth.locks = false) {Rs : Int32 × Mem} {x1 : Int32} {x6 : Int32} (w : gWd D 30 (yE cI cZ) ad M s H locs) (hl : lv_has ls 8 [(0, .ref (ad 0)), (1, .int x1), (6, .int x6)]) (hf : f_X7_heard_195  x1 x6 M = some Rs) : W p l e (rmH 2) s m args below meth c H locs 0 0 (MQ below (qV D 30 (yE cI cZ) ad Rs) args s 0 0 (gA 30 ad)) (F0 m 195 ls []) := by
  unfold f_X7_heard_195 at hf
  have hx := C.1.1
  have hb := C.1.2.1
  have hi := C.2.2.2.1
  refine lv_iload hx hb dX7_heard_195 (lv_at hl 2 rfl) ?_
  refine lv_if_eq (tgt := 207) hx hb dX7_heard_197 (by decide) (fun c1 => ?_) (fun c1 => ?_)
  · replace hf := (if_pos c1).symm.trans hf
    exact g_vret C w hr hq hf dX7_heard_207
  · replace hf := (if_neg c1).symm.trans hf
    refine lv_aload_n hx hb dX7_heard_200 rfl (lv_at hl 0 rfl) ?_
    refine lv_iload_n hx hb dX7_heard_201 rfl (lv_at hl 1 rfl) ?_
    refine lv_iload hx hb dX7_heard_202 (lv_at hl 2 rfl) ?_
    obtain ⟨⟨v4, M2⟩, e3, hf⟩ := bindS hf
    refine g_backV w (g_runV (rest := []) C w (c_X7_end hi  e3) ob_X7 rfl gv_X7_171 md_X7_end rfl (by omega) (by decide) hl.1 rfl (Nat.le_of_ble_eq_true rfl) dX7_heard_204) (fun H locs w => ?_)
    exact g_vret C w hr hq hf dX7_heard_207
set_option maxRecDepth 100000 in
set_option maxHeartbeats 4000000 in
theorem w_X7_heard_136 (C : gC p s m args c RX7 cX7_heard 8 D (yty cI cZ) 30 (yE cI cZ) ad) (hr : meth.sig.returnType = none) (hq : meth.locks = false) {Rs : Int32 × Mem} {x1 : Int32} {s0 : Int32} (w : gWd D 30 (yE cI cZ) ad M s H locs) (hl : lv_has ls 8 [(0, .ref (ad 0)), (1, .int x1)]) (hf : f_X7_heard_136  x1 s0 M = some Rs) : W p l e (rmH 2) s m args below meth c H locs 0 0 (MQ below (qV D 30 (yE cI cZ) ad Rs) args s 0 0 (gA 30 ad)) (F0 m 136 ls [.int s0]) := by
  unfold f_X7_heard_136 at hf
  have hx := C.1.1
  have hb := C.1.2.1
  have hi := C.2.2.2.1
  refine lv_istore (lv' := [(6, .int s0), (0, .ref (ad 0)), (1, .int x1)]) hx hb dX7_heard_136 hl (by decide) rfl (fun ls hl => ?_)
  refine lv_goto (tgt := 195) hx hb dX7_heard_138 (by decide) ?_
  exact w_X7_heard_195 C hr hq w (lv_sub hl [1, 2, 0] rfl) hf
set_option maxRecDepth 100000 in
set_option maxHeartbeats 4000000 in
theorem w_X7_heard_111 (C : gC p s m args c RX7 cX7_heard 8 D (yty cI cZ) 30 (yE cI cZ) ad) (hr : meth.sig.returnType = none) (hq : meth.locks = false) {Rs : Int32 × Mem} {x1 : Int32} {x2 : Int32} {x3 : Int32} {x5 : Int32} {x6 : Int32} (w : gWd D 30 (yE cI cZ) ad M s H locs) (hl : lv_has ls 8 [(0, .ref (ad 0)), (1, .int x1), (2, .int x2), (3, .int x3), (5, .int x5), (6, .int x6)]) (hf : f_X7_heard_111  x1 x2 x3 x5 x6 M = some Rs) : W p l e (rmH 2) s m args below meth c H locs 0 0 (MQ below (qV D 30 (yE cI cZ) ad Rs) args s 0 0 (gA 30 ad)) (F0 m 111 ls []) := by
  unfold f_X7_heard_111 at hf
  have hx := C.1.1
  have hb := C.1.2.1
  have hi := C.2.2.2.1
  refine lv_aload_n hx hb dX7_heard_111 rfl (lv_at hl 0 rfl) ?_
  refine gt_X7_71 C w dX7_heard_112 ?_
  refine lv_iload_n hx hb dX7_heard_115 rfl (lv_at hl 2 rfl) ?_
  obtain ⟨v1, e2, hf⟩ := bindS hf
  refine g_iald C w y_a21 e2 dX7_heard_116 ?_
  refine lv_iconst (v := 1) hx hb dX7_heard_117 (by decide) ?_
  refine lv_icmp_ne (tgt := 126) hx hb dX7_heard_118 (by decide) (fun c3 => ?_) (fun c3 => ?_)
  · replace hf := (if_neg c3).symm.trans hf
    refine lv_aload_n hx hb dX7_heard_126 rfl (lv_at hl 0 rfl) ?_
    refine lv_iload_n hx hb dX7_heard_127 rfl (lv_at hl 1 rfl) ?_
    refine lv_iload_n hx hb dX7_heard_128 rfl (lv_at hl 3 rfl) ?_
    refine lv_iload hx hb dX7_heard_129 (lv_at hl 4 rfl) ?_
    refine lv_iload hx hb dX7_heard_131 (lv_at hl 5 rfl) ?_
    obtain ⟨⟨v6, M4⟩, e5, hf⟩ := bindS hf
    refine g_backI w (g_runV (rest := []) C w (c_X7_write hi  e5) ob_X7 rfl gv_X7_163 md_X7_write rfl (by omega) (by decide) hl.1 rfl (Nat.le_of_ble_eq_true rfl) dX7_heard_133) (fun H locs w => ?_)
    exact w_X7_heard_136 C hr hq w (lv_sub hl [0, 1] rfl) hf
  · replace hf := (if_pos c3).symm.trans hf
    refine lv_iload hx hb dX7_heard_121 (lv_at hl 5 rfl) ?_
    refine lv_goto (tgt := 136) hx hb dX7_heard_123 (by decide) ?_
    exact w_X7_heard_136 C hr hq w (lv_sub hl [0, 1] rfl) hf
set_option maxRecDepth 100000 in
set_option maxHeartbeats 4000000 in
theorem w_X7_heard_88 (C : gC p s m args c RX7 cX7_heard 8 D (yty cI cZ) 30 (yE cI cZ) ad) (hr : meth.sig.returnType = none) (hq : meth.locks = false) {Rs : Int32 × Mem} {x1 : Int32} {x2 : Int32} {x3 : Int32} {x5 : Int32} {x6 : Int32} {s0 : Int32} (w : gWd D 30 (yE cI cZ) ad M s H locs) (hl : lv_has ls 8 [(0, .ref (ad 0)), (1, .int x1), (2, .int x2), (3, .int x3), (5, .int x5), (6, .int x6)]) (hf : f_X7_heard_88  x1 x2 x3 x5 x6 s0 M = some Rs) : W p l e (rmH 2) s m args below meth c H locs 0 0 (MQ below (qV D 30 (yE cI cZ) ad Rs) args s 0 0 (gA 30 ad)) (F0 m 88 ls [.int s0]) := by
  unfold f_X7_heard_88 at hf
  have hx := C.1.1
  have hb := C.1.2.1
  have hi := C.2.2.2.1
  refine lv_istore (lv' := [(7, .int s0), (0, .ref (ad 0)), (1, .int x1), (2, .int x2), (3, .int x3), (5, .int x5), (6, .int x6)]) hx hb dX7_heard_88 hl (by decide) rfl (fun ls hl => ?_)
  refine lv_iload hx hb dX7_heard_90 (lv_at hl 6 rfl) ?_
  refine lv_if_ne (tgt := 111) hx hb dX7_heard_92 (by decide) (fun c1 => ?_) (fun c1 => ?_)
  · replace hf := (if_neg c1).symm.trans hf
    exact w_X7_heard_111 C hr hq w (lv_sub hl [1, 2, 3, 4, 5, 6] rfl) hf
  · replace hf := (if_pos c1).symm.trans hf
    refine lv_aload_n hx hb dX7_heard_95 rfl (lv_at hl 1 rfl) ?_
    refine gt_X7_44 C w dX7_heard_96 ?_
    refine lv_bipush (v := 16) hx hb dX7_heard_99 (by decide) ?_
    refine lv_iload_n hx hb dX7_heard_101 rfl (lv_at hl 2 rfl) ?_
    refine lv_imul hx hb dX7_heard_102 ?_
    refine lv_iload hx hb dX7_heard_103 (lv_at hl 0 rfl) ?_
    refine lv_iadd hx hb dX7_heard_105 ?_
    refine lv_dup2_11 hx hb dX7_heard_106 rfl rfl ?_
    obtain ⟨v2, e3, hf⟩ := bindS hf
    refine g_iald C w y_a12 e3 dX7_heard_107 ?_
    refine lv_iconst (v := 1) hx hb dX7_heard_108 (by decide) ?_
    refine lv_iadd hx hb dX7_heard_109 ?_
    obtain ⟨M4, e5, hf⟩ := bindS hf
    refine g_iast C w y_a12 e5 dX7_heard_110 (fun H locs w => ?_)
    exact w_X7_heard_111 C hr hq w (lv_sub hl [1, 2, 3, 4, 5, 6] rfl) hf
set_option maxRecDepth 100000 in
set_option maxHeartbeats 4000000 in
theorem w_X7_heard_64 (C : gC p s m args c RX7 cX7_heard 8 D (yty cI cZ) 30 (yE cI cZ) ad) (hr : meth.sig.returnType = none) (hq : meth.locks = false) {Rs : Int32 × Mem} {x1 : Int32} {x2 : Int32} {x3 : Int32} {x4 : Int32} {x5 : Int32} {x6 : Int32} (w : gWd D 30 (yE cI cZ) ad M s H locs) (hl : lv_has ls 8 [(0, .ref (ad 0)), (1, .int x1), (2, .int x2), (3, .int x3), (4, .int x4), (5, .int x5), (6, .int x6)]) (hf : f_X7_heard_64  x1 x2 x3 x4 x5 x6 M = some Rs) : W p l e (rmH 2) s m args below meth c H locs 0 0 (MQ below (qV D 30 (yE cI cZ) ad Rs) args s 0 0 (gA 30 ad)) (F0 m 64 ls []) := by
  unfold f_X7_heard_64 at hf
  have hx := C.1.1
  have hb := C.1.2.1
  have hi := C.2.2.2.1
  refine lv_aload_n hx hb dX7_heard_64 rfl (lv_at hl 0 rfl) ?_
  refine gt_X7_71 C w dX7_heard_65 ?_
  refine lv_iload_n hx hb dX7_heard_68 rfl (lv_at hl 2 rfl) ?_
  obtain ⟨v1, e2, hf⟩ := bindS hf
  refine g_iald C w y_a21 e2 dX7_heard_69 ?_
  refine lv_iconst (v := 1) hx hb dX7_heard_70 (by decide) ?_
  refine lv_icmp_ne (tgt := 79) hx hb dX7_heard_71 (by decide) (fun c3 => ?_) (fun c3 => ?_)
  · replace hf := (if_neg c3).symm.trans hf
    refine lv_aload_n hx hb dX7_heard_79 rfl (lv_at hl 0 rfl) ?_
    refine gt_X7_35 C w dX7_heard_80 ?_
    refine lv_iload hx hb dX7_heard_83 (lv_at hl 4 rfl) ?_
    refine lv_iconst (v := 2) hx hb dX7_heard_85 (by decide) ?_
    refine lv_iadd hx hb dX7_heard_86 ?_
    obtain ⟨v4, e5, hf⟩ := bindS hf
    refine g_iald C w y_a9 e5 dX7_heard_87 ?_
    exact w_X7_heard_88 C hr hq w (lv_sub hl [0, 1, 2, 3, 5, 6] rfl) hf
  · replace hf := (if_pos c3).symm.trans hf
    refine lv_iload hx hb dX7_heard_74 (lv_at hl 5 rfl) ?_
    refine lv_goto (tgt := 88) hx hb dX7_heard_76 (by decide) ?_
    exact w_X7_heard_88 C hr hq w (lv_sub hl [0, 1, 2, 3, 5, 6] rfl) hf
set_option maxRecDepth 100000 in
set_option maxHeartbeats 4000000 in
theorem w_X7_heard_0 (C : gC p s m args c RX7 cX7_heard 8 D (yty cI cZ) 30 (yE cI cZ) ad) (hr : meth.sig.returnType = none) (hq : meth.locks = false) {Rs : Int32 × Mem} {x1 : Int32} (w : gWd D 30 (yE cI cZ) ad M s H locs) (hl : lv_has ls 8 [(0, .ref (ad 0)), (1, .int x1)]) (hf : f_X7_heard_0  x1 M = some Rs) : W p l e (rmH 2) s m args below meth c H locs 0 0 (MQ below (qV D 30 (yE cI cZ) ad Rs) args s 0 0 (gA 30 ad)) (F0 m 0 ls []) := by
  unfold f_X7_heard_0 at hf
  have hx := C.1.1
  have hb := C.1.2.1
  have hi := C.2.2.2.1
  refine lv_aload_n hx hb dX7_heard_0 rfl (lv_at hl 0 rfl) ?_
  refine gt_X7_135 C w dX7_heard_1 ?_
  refine lv_iconst (v := 1) hx hb dX7_heard_4 (by decide) ?_
  refine lv_isub hx hb dX7_heard_5 ?_
  refine lv_istore_n (lv' := [(2, .int ((M 0 26) - (1 : Int32))), (0, .ref (ad 0)), (1, .int x1)]) hx hb dX7_heard_6 rfl hl (by decide) rfl (fun ls hl => ?_)
  refine lv_aload_n hx hb dX7_heard_7 rfl (lv_at hl 1 rfl) ?_
  refine gt_X7_65 C w dX7_heard_8 ?_
  refine lv_iload_n hx hb dX7_heard_11 rfl (lv_at hl 0 rfl) ?_
  obtain ⟨v1, e2, hf⟩ := bindS hf
  refine g_iald C w y_a19 e2 dX7_heard_12 ?_
  refine lv_istore_n (lv' := [(3, .int v1), (2, .int ((M 0 26) - (1 : Int32))), (0, .ref (ad 0)), (1, .int x1)]) hx hb dX7_heard_13 rfl hl (by decide) rfl (fun ls hl => ?_)
  refine lv_aload_n hx hb dX7_heard_14 rfl (lv_at hl 2 rfl) ?_
  refine gt_X7_74 C w dX7_heard_15 ?_
  refine lv_iload_n hx hb dX7_heard_18 rfl (lv_at hl 1 rfl) ?_
  obtain ⟨v3, e4, hf⟩ := bindS hf
  refine g_iald C w y_a22 e4 dX7_heard_19 ?_
  refine lv_istore (lv' := [(4, .int v3), (3, .int v1), (2, .int ((M 0 26) - (1 : Int32))), (0, .ref (ad 0)), (1, .int x1)]) hx hb dX7_heard_20 hl (by decide) rfl (fun ls hl => ?_)
  refine lv_aload_n hx hb dX7_heard_22 rfl (lv_at hl 3 rfl) ?_
  refine gt_X7_35 C w dX7_heard_23 ?_
  refine lv_iload hx hb dX7_heard_26 (lv_at hl 0 rfl) ?_
  refine lv_iconst (v := 1) hx hb dX7_heard_28 (by decide) ?_
  refine lv_iadd hx hb dX7_heard_29 ?_
  obtain ⟨v5, e6, hf⟩ := bindS hf
  refine g_iald C w y_a9 e6 dX7_heard_30 ?_
  refine lv_istore (lv' := [(5, .int v5), (4, .int v3), (3, .int v1), (2, .int ((M 0 26) - (1 : Int32))), (0, .ref (ad 0)), (1, .int x1)]) hx hb dX7_heard_31 hl (by decide) rfl (fun ls hl => ?_)
  refine lv_aload_n hx hb dX7_heard_33 rfl (lv_at hl 4 rfl) ?_
  refine gt_X7_153 C w dX7_heard_34 ?_
  refine lv_istore (lv' := [(6, .int (M 0 35)), (5, .int v5), (4, .int v3), (3, .int v1), (2, .int ((M 0 26) - (1 : Int32))), (0, .ref (ad 0)), (1, .int x1)]) hx hb dX7_heard_37 hl (by decide) rfl (fun ls hl => ?_)
  refine lv_aload_n hx hb dX7_heard_39 rfl (lv_at hl 5 rfl) ?_
  refine lv_iconst (v := 0) hx hb dX7_heard_40 (by decide) ?_
  obtain ⟨M7, e8, hf⟩ := bindS hf
  refine pt_X7_142 C w e8 dX7_heard_41 (fun H locs w => ?_)
  refine lv_aload_n hx hb dX7_heard_44 rfl (lv_at hl 5 rfl) ?_
  refine gt_X7_71 C w dX7_heard_45 ?_
  refine lv_iload_n hx hb dX7_heard_48 rfl (lv_at hl 4 rfl) ?_
  obtain ⟨v9, e10, hf⟩ := bindS hf
  refine g_iald C w y_a21 e10 dX7_heard_49 ?_
  refine lv_iconst (v := 1) hx hb dX7_heard_50 (by decide) ?_
  refine lv_icmp_eq (tgt := 64) hx hb dX7_heard_51 (by decide) (fun c11 => ?_) (fun c11 => ?_)
  · replace hf := (if_pos c11).symm.trans hf
    exact w_X7_heard_64 C hr hq w (lv_sub hl [5, 6, 4, 3, 2, 1, 0] rfl) hf
  · replace hf := (if_neg c11).symm.trans hf
    refine lv_aload_n hx hb dX7_heard_54 rfl (lv_at hl 5 rfl) ?_
    refine gt_X7_71 C w dX7_heard_55 ?_
    refine lv_iload_n hx hb dX7_heard_58 rfl (lv_at hl 4 rfl) ?_
    obtain ⟨v12, e13, hf⟩ := bindS hf
    refine g_iald C w y_a21 e13 dX7_heard_59 ?_
    refine lv_iconst (v := 2) hx hb dX7_heard_60 (by decide) ?_
    refine lv_icmp_ne (tgt := 141) hx hb dX7_heard_61 (by decide) (fun c14 => ?_) (fun c14 => ?_)
    · replace hf := (if_neg c14).symm.trans hf
      refine lv_aload_n hx hb dX7_heard_141 rfl (lv_at hl 5 rfl) ?_
      refine gt_X7_71 C w dX7_heard_142 ?_
      refine lv_iload_n hx hb dX7_heard_145 rfl (lv_at hl 4 rfl) ?_
      obtain ⟨v15, e16, hf⟩ := bindS hf
      refine g_iald C w y_a21 e16 dX7_heard_146 ?_
      refine lv_iconst (v := 3) hx hb dX7_heard_147 (by decide) ?_
      refine lv_icmp_ne (tgt := 195) hx hb dX7_heard_148 (by decide) (fun c17 => ?_) (fun c17 => ?_)
      · replace hf := (if_neg c17).symm.trans hf
        exact w_X7_heard_195 C hr hq w (lv_sub hl [5, 6, 0] rfl) hf
      · replace hf := (if_pos c17).symm.trans hf
        refine lv_iload hx hb dX7_heard_151 (lv_at hl 0 rfl) ?_
        refine lv_if_ne (tgt := 195) hx hb dX7_heard_153 (by decide) (fun c18 => ?_) (fun c18 => ?_)
        · replace hf := (if_neg c18).symm.trans hf
          exact w_X7_heard_195 C hr hq w (lv_sub hl [5, 6, 0] rfl) hf
        · replace hf := (if_pos c18).symm.trans hf
          refine lv_aload_n hx hb dX7_heard_156 rfl (lv_at hl 5 rfl) ?_
          refine lv_iload_n hx hb dX7_heard_157 rfl (lv_at hl 6 rfl) ?_
          refine lv_iload_n hx hb dX7_heard_158 rfl (lv_at hl 3 rfl) ?_
          refine lv_iload hx hb dX7_heard_159 (lv_at hl 1 rfl) ?_
          refine lv_aload_n hx hb dX7_heard_161 rfl (lv_at hl 5 rfl) ?_
          refine lv_iload_n hx hb dX7_heard_162 rfl (lv_at hl 6 rfl) ?_
          refine lv_iload_n hx hb dX7_heard_163 rfl (lv_at hl 3 rfl) ?_
          refine lv_iload hx hb dX7_heard_164 (lv_at hl 1 rfl) ?_
          obtain ⟨⟨v21, M19⟩, e20, hf⟩ := bindS hf
          refine g_backI w (g_runV (rest := [.int v5, .int v1, .int x1, .ref (ad 0)]) C w (c_X7_plain hi  e20) ob_X7 rfl gv_X7_167 md_X7_plain rfl (by omega) (by decide) hl.1 rfl (Nat.le_of_ble_eq_true rfl) dX7_heard_166) (fun H locs w => ?_)
          refine lv_aload_n hx hb dX7_heard_169 rfl (lv_at hl 5 rfl) ?_
          refine lv_iload_n hx hb dX7_heard_170 rfl (lv_at hl 6 rfl) ?_
          refine lv_aload_n hx hb dX7_heard_171 rfl (lv_at hl 5 rfl) ?_
          refine gt_X7_77 C w dX7_heard_172 ?_
          refine lv_iload_n hx hb dX7_heard_175 rfl (lv_at hl 4 rfl) ?_
          obtain ⟨v22, e23, hf⟩ := bindS hf
          refine g_iald C w y_a23 e23 dX7_heard_176 ?_
          refine lv_aload_n hx hb dX7_heard_177 rfl (lv_at hl 5 rfl) ?_
          refine gt_X7_35 C w dX7_heard_178 ?_
          refine lv_iload hx hb dX7_heard_181 (lv_at hl 2 rfl) ?_
          refine lv_iconst (v := 3) hx hb dX7_heard_183 (by decide) ?_
          refine lv_iadd hx hb dX7_heard_184 ?_
          obtain ⟨v24, e25, hf⟩ := bindS hf
          refine g_iald C w y_a9 e25 dX7_heard_185 ?_
          obtain ⟨⟨v28, M26⟩, e27, hf⟩ := bindS hf
          refine g_backI w (g_runV (rest := [.int v21, .int v5, .int v1, .int x1, .ref (ad 0)]) C w (c_X7_plain hi  e27) ob_X7 rfl gv_X7_167 md_X7_plain rfl (by omega) (by decide) hl.1 rfl (Nat.le_of_ble_eq_true rfl) dX7_heard_186) (fun H locs w => ?_)
          refine lv_iadd hx hb dX7_heard_189 ?_
          obtain ⟨⟨v31, M29⟩, e30, hf⟩ := bindS hf
          refine g_backI w (g_runV (rest := []) C w (c_X7_write hi  e30) ob_X7 rfl gv_X7_163 md_X7_write rfl (by omega) (by decide) hl.1 rfl (Nat.le_of_ble_eq_true rfl) dX7_heard_190) (fun H locs w => ?_)
          refine lv_istore (lv' := [(6, .int v31), (5, .int v5), (4, .int v3), (3, .int v1), (2, .int ((M 0 26) - (1 : Int32))), (0, .ref (ad 0)), (1, .int x1)]) hx hb dX7_heard_193 hl (by decide) rfl (fun ls hl => ?_)
          exact w_X7_heard_195 C hr hq w (lv_sub hl [5, 6, 0] rfl) hf
    · replace hf := (if_pos c14).symm.trans hf
      exact w_X7_heard_64 C hr hq w (lv_sub hl [5, 6, 4, 3, 2, 1, 0] rfl) hf
abbrev f_X7_heard (x1 : Int32) (M : Mem) : Option (Int32 × Mem) := f_X7_heard_0 x1 M
theorem c_X7_heard (hi : gInj 30 ad) {x1 : Int32} {Rs : Int32 × Mem} (hf : f_X7_heard x1 M = some Rs) : gMet l yX7_heard cX7_heard 8 none 2 D (yty cI cZ) 30 (yE cI cZ) ad [.ref (ad 0), .int x1] M (qV D 30 (yE cI cZ) ad Rs) := gMet_of (by decide) hi (yE_loc cI cZ) (Nat.le_of_ble_eq_true rfl) (fun p e s m args below meth c ls C hr hq w hl => w_X7_heard_0 C hr hq  w hl hf)
def f_X7_make_26 (M : Mem) : Option (Int32 × Mem) :=
  (stFZ M 0 34 (1 : Int32)).bind fun M1 =>
  (stF M1 0 35 (18 : Int32)).bind fun M3 =>
  some ((0 : Int32), M3)
def f_X7_make_0 (x1 : Int32) (x2 : Int32) (M : Mem) : Option (Int32 × Mem) :=
  (f_X7_isType x2 M).bind fun (v3, M1) =>
  if v3 = 0 then (f_X7_make_26 M1) else ((ldI M1 1 16 x2).bind fun v5 =>
  if v5 = 0 then ((f_X7_ask x1 x2 M1).bind fun (v10, M8) =>
  some ((0 : Int32), M8)) else (f_X7_make_26 M1))
set_option maxRecDepth 100000 in
set_option maxHeartbeats 4000000 in
theorem w_X7_make_26 (C : gC p s m args c RX7 cX7_make 3 D (yty cI cZ) 30 (yE cI cZ) ad) (hr : meth.sig.returnType = none) (hq : meth.locks = false) {Rs : Int32 × Mem}  (w : gWd D 30 (yE cI cZ) ad M s H locs) (hl : lv_has ls 3 [(0, .ref (ad 0))]) (hf : f_X7_make_26  M = some Rs) : W p l e (rmH 2) s m args below meth c H locs 0 0 (MQ below (qV D 30 (yE cI cZ) ad Rs) args s 0 0 (gA 30 ad)) (F0 m 26 ls []) := by
  unfold f_X7_make_26 at hf
  have hx := C.1.1
  have hb := C.1.2.1
  have hi := C.2.2.2.1
  refine lv_aload_n hx hb dX7_make_26 rfl (lv_at hl 0 rfl) ?_
  refine lv_iconst (v := 1) hx hb dX7_make_27 (by decide) ?_
  obtain ⟨M1, e2, hf⟩ := bindS hf
  refine pt_X7_142 C w e2 dX7_make_28 (fun H locs w => ?_)
  refine lv_aload_n hx hb dX7_make_31 rfl (lv_at hl 0 rfl) ?_
  refine lv_bipush (v := 18) hx hb dX7_make_32 (by decide) ?_
  obtain ⟨M3, e4, hf⟩ := bindS hf
  refine pt_X7_153 C w e4 dX7_make_34 (fun H locs w => ?_)
  exact g_vret C w hr hq hf dX7_make_37
set_option maxRecDepth 100000 in
set_option maxHeartbeats 4000000 in
theorem w_X7_make_0 (C : gC p s m args c RX7 cX7_make 3 D (yty cI cZ) 30 (yE cI cZ) ad) (hr : meth.sig.returnType = none) (hq : meth.locks = false) {Rs : Int32 × Mem} {x1 : Int32} {x2 : Int32} (w : gWd D 30 (yE cI cZ) ad M s H locs) (hl : lv_has ls 3 [(0, .ref (ad 0)), (1, .int x1), (2, .int x2)]) (hf : f_X7_make_0  x1 x2 M = some Rs) : W p l e (rmH 2) s m args below meth c H locs 0 0 (MQ below (qV D 30 (yE cI cZ) ad Rs) args s 0 0 (gA 30 ad)) (F0 m 0 ls []) := by
  unfold f_X7_make_0 at hf
  have hx := C.1.1
  have hb := C.1.2.1
  have hi := C.2.2.2.1
  refine lv_aload_n hx hb dX7_make_0 rfl (lv_at hl 0 rfl) ?_
  refine lv_iload_n hx hb dX7_make_1 rfl (lv_at hl 2 rfl) ?_
  obtain ⟨⟨v3, M1⟩, e2, hf⟩ := bindS hf
  refine g_backI w (g_runV (rest := []) C w (c_X7_isType hi  e2) ob_X7 rfl gv_X7_127 md_X7_isType rfl (by omega) (by decide) hl.1 rfl (Nat.le_of_ble_eq_true rfl) dX7_make_2) (fun H locs w => ?_)
  refine lv_if_eq (tgt := 26) hx hb dX7_make_5 (by decide) (fun c4 => ?_) (fun c4 => ?_)
  · replace hf := (if_pos c4).symm.trans hf
    exact w_X7_make_26 C hr hq w (lv_sub hl [0] rfl) hf
  · replace hf := (if_neg c4).symm.trans hf
    refine lv_aload_n hx hb dX7_make_8 rfl (lv_at hl 0 rfl) ?_
    refine gt_X7_7 C w dX7_make_9 ?_
    refine lv_iload_n hx hb dX7_make_12 rfl (lv_at hl 2 rfl) ?_
    obtain ⟨v5, e6, hf⟩ := bindS hf
    refine g_iald C w y_a1 e6 dX7_make_13 ?_
    refine lv_if_ne (tgt := 26) hx hb dX7_make_14 (by decide) (fun c7 => ?_) (fun c7 => ?_)
    · replace hf := (if_neg c7).symm.trans hf
      exact w_X7_make_26 C hr hq w (lv_sub hl [0] rfl) hf
    · replace hf := (if_pos c7).symm.trans hf
      refine lv_aload_n hx hb dX7_make_17 rfl (lv_at hl 0 rfl) ?_
      refine lv_iload_n hx hb dX7_make_18 rfl (lv_at hl 1 rfl) ?_
      refine lv_iload_n hx hb dX7_make_19 rfl (lv_at hl 2 rfl) ?_
      obtain ⟨⟨v10, M8⟩, e9, hf⟩ := bindS hf
      refine g_backV w (g_runV (rest := []) C w (c_X7_ask hi  e9) ob_X7 rfl gv_X7_138 md_X7_ask rfl (by omega) (by decide) hl.1 rfl (Nat.le_of_ble_eq_true rfl) dX7_make_20) (fun H locs w => ?_)
      refine lv_goto (tgt := 37) hx hb dX7_make_23 (by decide) ?_
      exact g_vret C w hr hq hf dX7_make_37
abbrev f_X7_make (x1 : Int32) (x2 : Int32) (M : Mem) : Option (Int32 × Mem) := f_X7_make_0 x1 x2 M
theorem c_X7_make (hi : gInj 30 ad) {x1 : Int32} {x2 : Int32} {Rs : Int32 × Mem} (hf : f_X7_make x1 x2 M = some Rs) : gMet l yX7_make cX7_make 3 none 2 D (yty cI cZ) 30 (yE cI cZ) ad [.ref (ad 0), .int x1, .int x2] M (qV D 30 (yE cI cZ) ad Rs) := gMet_of (by decide) hi (yE_loc cI cZ) (Nat.le_of_ble_eq_true rfl) (fun p e s m args below meth c ls C hr hq w hl => w_X7_make_0 C hr hq  w hl hf)
def f_X7_homeOf_150 (k30_ : (Int32 → Int32 → Mem → Option (Int32 × Mem))) (x2 : Int32) (x3 : Int32) (M : Mem) : Option (Int32 × Mem) :=
  k30_ x2 x3 M
def f_X7_homeOf_118b (k30_ : (Int32 → Int32 → Mem → Option (Int32 × Mem))) (k118_ : (Int32 → Int32 → Int32 → Int32 → Mem → Option (Int32 × Mem))) (x2 : Int32) (x3 : Int32) (x4 : Int32) (x5 : Int32) (M : Mem) : Option (Int32 × Mem) :=
  if x5 < 0 then (f_X7_homeOf_150 k30_ x2 x3 M) else ((ldI M 5 48 (((3 : Int32) * x4) + x5)).bind fun v2 =>
  (stI M 29 80 x3 v2).bind fun M4 =>
  k118_ x2 (x3 + 1) x4 (x5 + (-1)) M4)
def f_X7_homeOf_118 (k30_ : (Int32 → Int32 → Mem → Option (Int32 × Mem))) : Nat → Int32 → Int32 → Int32 → Int32 → Mem → Option (Int32 × Mem)
  | 0, _, _, _, _, _ => none
  | n + 1, x2, x3, x4, x5, M => f_X7_homeOf_118b k30_ (f_X7_homeOf_118 k30_ n) x2 x3 x4 x5 M
def f_X7_homeOf_107 (k30_ : (Int32 → Int32 → Mem → Option (Int32 × Mem))) (x2 : Int32) (x3 : Int32) (x4 : Int32) (M : Mem) : Option (Int32 × Mem) :=
  (ldI M 4 16 x4).bind fun v1 =>
  f_X7_homeOf_118 k30_ FU x2 x3 x4 (v1 - (1 : Int32)) M
def f_X7_homeOf_30b (k30_ : (Int32 → Int32 → Mem → Option (Int32 × Mem))) (x2 : Int32) (x3 : Int32) (M : Mem) : Option (Int32 × Mem) :=
  if x3 ≤ 0 then (some ((-1 : Int32), M)) else ((ldI M 29 80 (x3 + (-1))).bind fun v2 =>
  (ldI M 26 16 v2).bind fun v4 =>
  if v4 = 0 then ((stZ M 26 16 v2 (1 : Int32)).bind fun M7 =>
  (ldI M7 6 80 (((5 : Int32) * v2) + x2)).bind fun v9 =>
  if v9 ≤ 0 then ((ldI M7 2 16 v2).bind fun v12 =>
  if v12 = (-1 : Int32) then (f_X7_homeOf_107 k30_ x2 (x3 + (-1)) v2 M7) else ((ldI M7 2 16 v2).bind fun v15 =>
  (stI M7 29 80 (x3 + (-1)) v15).bind fun M17 =>
  f_X7_homeOf_107 k30_ x2 ((x3 + (-1)) + 1) v2 M17)) else (some (v2, M7))) else (f_X7_homeOf_150 k30_ x2 (x3 + (-1)) M))
def f_X7_homeOf_30 : Nat → Int32 → Int32 → Mem → Option (Int32 × Mem)
  | 0, _, _, _ => none
  | n + 1, x2, x3, M => f_X7_homeOf_30b (f_X7_homeOf_30  n) x2 x3 M
def f_X7_homeOf_2b (k2_ : (Int32 → Int32 → Int32 → Mem → Option (Int32 × Mem))) (x1 : Int32) (x2 : Int32) (x3 : Int32) (M : Mem) : Option (Int32 × Mem) :=
  if (16 : Int32) ≤ x3 then ((stI M 29 80 (0 : Int32) x1).bind fun M2 =>
  f_X7_homeOf_30 FU x2 (1 : Int32) M2) else ((stZ M 26 16 x3 (0 : Int32)).bind fun M4 =>
  k2_ x1 x2 (x3 + 1) M4)
def f_X7_homeOf_2 : Nat → Int32 → Int32 → Int32 → Mem → Option (Int32 × Mem)
  | 0, _, _, _, _ => none
  | n + 1, x1, x2, x3, M => f_X7_homeOf_2b (f_X7_homeOf_2  n) x1 x2 x3 M
def f_X7_homeOf_0 (x1 : Int32) (x2 : Int32) (M : Mem) : Option (Int32 × Mem) :=
  f_X7_homeOf_2 FU x1 x2 (0 : Int32) M
set_option maxRecDepth 100000 in
set_option maxHeartbeats 4000000 in
theorem w_X7_homeOf_150 (C : gC p s m args c RX7 cX7_homeOf 6 D (yty cI cZ) 30 (yE cI cZ) ad) (hr : meth.sig.returnType = (some .int)) (hq : meth.locks = false) {k30_ : (Int32 → Int32 → Mem → Option (Int32 × Mem))} {Rs : Int32 × Mem} (hk30_ : ∀ {x2 : Int32} {x3 : Int32} {M : Mem} {H : Heap} {locs : List Loc} {ls : Array Slot}, gWd D 30 (yE cI cZ) ad M s H locs → lv_has ls 6 [(0, .ref (ad 0)), (2, .int x2), (3, .int x3)] → k30_ x2 x3 M = some Rs → W p l e (rmH 0) s m args below meth c H locs 0 0 (MQ below (qI D 30 (yE cI cZ) ad Rs) args s 0 0 (gA 30 ad)) (F0 m 30 ls [])) {x2 : Int32} {x3 : Int32} (w : gWd D 30 (yE cI cZ) ad M s H locs) (hl : lv_has ls 6 [(0, .ref (ad 0)), (2, .int x2), (3, .int x3)]) (hf : f_X7_homeOf_150 k30_ x2 x3 M = some Rs) : W p l e (rmH 0) s m args below meth c H locs 0 0 (MQ below (qI D 30 (yE cI cZ) ad Rs) args s 0 0 (gA 30 ad)) (F0 m 150 ls []) := by
  unfold f_X7_homeOf_150 at hf
  have hx := C.1.1
  have hb := C.1.2.1
  have hi := C.2.2.2.1
  refine lv_goto (tgt := 30) hx hb dX7_homeOf_150 (by decide) ?_
  exact hk30_ w (lv_sub hl [0, 1, 2] rfl) hf
set_option maxRecDepth 100000 in
set_option maxHeartbeats 4000000 in
theorem w_X7_homeOf_118b (C : gC p s m args c RX7 cX7_homeOf 6 D (yty cI cZ) 30 (yE cI cZ) ad) (hr : meth.sig.returnType = (some .int)) (hq : meth.locks = false) {k30_ : (Int32 → Int32 → Mem → Option (Int32 × Mem))} {k118_ : (Int32 → Int32 → Int32 → Int32 → Mem → Option (Int32 × Mem))} {Rs : Int32 × Mem} (hk30_ : ∀ {x2 : Int32} {x3 : Int32} {M : Mem} {H : Heap} {locs : List Loc} {ls : Array Slot}, gWd D 30 (yE cI cZ) ad M s H locs → lv_has ls 6 [(0, .ref (ad 0)), (2, .int x2), (3, .int x3)] → k30_ x2 x3 M = some Rs → W p l e (rmH 0) s m args below meth c H locs 0 0 (MQ below (qI D 30 (yE cI cZ) ad Rs) args s 0 0 (gA 30 ad)) (F0 m 30 ls [])) (hk118_ : ∀ {x2 : Int32} {x3 : Int32} {x4 : Int32} {x5 : Int32} {M : Mem} {H : Heap} {locs : List Loc} {ls : Array Slot}, gWd D 30 (yE cI cZ) ad M s H locs → lv_has ls 6 [(0, .ref (ad 0)), (2, .int x2), (3, .int x3), (4, .int x4), (5, .int x5)] → k118_ x2 x3 x4 x5 M = some Rs → W p l e (rmH 0) s m args below meth c H locs 0 0 (MQ below (qI D 30 (yE cI cZ) ad Rs) args s 0 0 (gA 30 ad)) (F0 m 118 ls [])) {x2 : Int32} {x3 : Int32} {x4 : Int32} {x5 : Int32} (w : gWd D 30 (yE cI cZ) ad M s H locs) (hl : lv_has ls 6 [(0, .ref (ad 0)), (2, .int x2), (3, .int x3), (4, .int x4), (5, .int x5)]) (hf : f_X7_homeOf_118b k30_ k118_ x2 x3 x4 x5 M = some Rs) : W p l e (rmH 0) s m args below meth c H locs 0 0 (MQ below (qI D 30 (yE cI cZ) ad Rs) args s 0 0 (gA 30 ad)) (F0 m 118 ls []) := by
  unfold f_X7_homeOf_118b at hf
  have hx := C.1.1
  have hb := C.1.2.1
  have hi := C.2.2.2.1
  refine lv_iload hx hb dX7_homeOf_118 (lv_at hl 4 rfl) ?_
  refine lv_if_lt (tgt := 150) hx hb dX7_homeOf_120 (by decide) (fun c1 => ?_) (fun c1 => ?_)
  · replace hf := (if_pos c1).symm.trans hf
    exact w_X7_homeOf_150 C hr hq hk30_ w (lv_sub hl [0, 1, 2] rfl) hf
  · replace hf := (if_neg c1).symm.trans hf
    refine lv_aload_n hx hb dX7_homeOf_123 rfl (lv_at hl 0 rfl) ?_
    refine gt_X7_95 C w dX7_homeOf_124 ?_
    refine lv_iload_n hx hb dX7_homeOf_127 rfl (lv_at hl 2 rfl) ?_
    refine lv_aload_n hx hb dX7_homeOf_128 rfl (lv_at hl 0 rfl) ?_
    refine gt_X7_23 C w dX7_homeOf_129 ?_
    refine lv_iconst (v := 3) hx hb dX7_homeOf_132 (by decide) ?_
    refine lv_iload hx hb dX7_homeOf_133 (lv_at hl 3 rfl) ?_
    refine lv_imul hx hb dX7_homeOf_135 ?_
    refine lv_iload hx hb dX7_homeOf_136 (lv_at hl 4 rfl) ?_
    refine lv_iadd hx hb dX7_homeOf_138 ?_
    obtain ⟨v2, e3, hf⟩ := bindS hf
    refine g_iald C w y_a5 e3 dX7_homeOf_139 ?_
    obtain ⟨M4, e5, hf⟩ := bindS hf
    refine g_iast C w y_a29 e5 dX7_homeOf_140 (fun H locs w => ?_)
    refine lv_iinc (v := (x3 + 1)) (lv' := [(3, .int (x3 + 1)), (0, .ref (ad 0)), (2, .int x2), (4, .int x4), (5, .int x5)]) hx hb dX7_homeOf_141 hl (k := 2) rfl rfl (by decide) rfl (fun ls hl => ?_)
    refine lv_iinc (v := (x5 + (-1))) (lv' := [(5, .int (x5 + (-1))), (3, .int (x3 + 1)), (0, .ref (ad 0)), (2, .int x2), (4, .int x4)]) hx hb dX7_homeOf_144 hl (k := 4) rfl rfl (by decide) rfl (fun ls hl => ?_)
    refine lv_goto (tgt := 118) hx hb dX7_homeOf_147 (by decide) ?_
    exact hk118_ w (lv_sub hl [2, 3, 1, 4, 0] rfl) hf
theorem w_X7_homeOf_118 (C : gC p s m args c RX7 cX7_homeOf 6 D (yty cI cZ) 30 (yE cI cZ) ad) (hr : meth.sig.returnType = (some .int)) (hq : meth.locks = false) {k30_ : (Int32 → Int32 → Mem → Option (Int32 × Mem))} {Rs : Int32 × Mem} (hk30_ : ∀ {x2 : Int32} {x3 : Int32} {M : Mem} {H : Heap} {locs : List Loc} {ls : Array Slot}, gWd D 30 (yE cI cZ) ad M s H locs → lv_has ls 6 [(0, .ref (ad 0)), (2, .int x2), (3, .int x3)] → k30_ x2 x3 M = some Rs → W p l e (rmH 0) s m args below meth c H locs 0 0 (MQ below (qI D 30 (yE cI cZ) ad Rs) args s 0 0 (gA 30 ad)) (F0 m 30 ls [])) : ∀ (n : Nat) {x2 : Int32} {x3 : Int32} {x4 : Int32} {x5 : Int32} {M : Mem} {H : Heap} {locs : List Loc} {ls : Array Slot}, gWd D 30 (yE cI cZ) ad M s H locs → lv_has ls 6 [(0, .ref (ad 0)), (2, .int x2), (3, .int x3), (4, .int x4), (5, .int x5)] → f_X7_homeOf_118 k30_ n x2 x3 x4 x5 M = some Rs → W p l e (rmH 0) s m args below meth c H locs 0 0 (MQ below (qI D 30 (yE cI cZ) ad Rs) args s 0 0 (gA 30 ad)) (F0 m 118 ls []) := by
  intro n
  induction n with
  | zero =>
    intro x2 x3 x4 x5 M H locs ls w hl hf
    cases hf
  | succ n ih =>
    intro x2 x3 x4 x5 M H locs ls w hl hf
    exact w_X7_homeOf_118b C hr hq hk30_ ih  w hl hf
set_option maxRecDepth 100000 in
set_option maxHeartbeats 4000000 in
theorem w_X7_homeOf_107 (C : gC p s m args c RX7 cX7_homeOf 6 D (yty cI cZ) 30 (yE cI cZ) ad) (hr : meth.sig.returnType = (some .int)) (hq : meth.locks = false) {k30_ : (Int32 → Int32 → Mem → Option (Int32 × Mem))} {Rs : Int32 × Mem} (hk30_ : ∀ {x2 : Int32} {x3 : Int32} {M : Mem} {H : Heap} {locs : List Loc} {ls : Array Slot}, gWd D 30 (yE cI cZ) ad M s H locs → lv_has ls 6 [(0, .ref (ad 0)), (2, .int x2), (3, .int x3)] → k30_ x2 x3 M = some Rs → W p l e (rmH 0) s m args below meth c H locs 0 0 (MQ below (qI D 30 (yE cI cZ) ad Rs) args s 0 0 (gA 30 ad)) (F0 m 30 ls [])) {x2 : Int32} {x3 : Int32} {x4 : Int32} (w : gWd D 30 (yE cI cZ) ad M s H locs) (hl : lv_has ls 6 [(0, .ref (ad 0)), (2, .int x2), (3, .int x3), (4, .int x4)]) (hf : f_X7_homeOf_107 k30_ x2 x3 x4 M = some Rs) : W p l e (rmH 0) s m args below meth c H locs 0 0 (MQ below (qI D 30 (yE cI cZ) ad Rs) args s 0 0 (gA 30 ad)) (F0 m 107 ls []) := by
  unfold f_X7_homeOf_107 at hf
  have hx := C.1.1
  have hb := C.1.2.1
  have hi := C.2.2.2.1
  refine lv_aload_n hx hb dX7_homeOf_107 rfl (lv_at hl 0 rfl) ?_
  refine gt_X7_20 C w dX7_homeOf_108 ?_
  refine lv_iload hx hb dX7_homeOf_111 (lv_at hl 3 rfl) ?_
  obtain ⟨v1, e2, hf⟩ := bindS hf
  refine g_iald C w y_a4 e2 dX7_homeOf_113 ?_
  refine lv_iconst (v := 1) hx hb dX7_homeOf_114 (by decide) ?_
  refine lv_isub hx hb dX7_homeOf_115 ?_
  refine lv_istore (lv' := [(5, .int (v1 - (1 : Int32))), (0, .ref (ad 0)), (2, .int x2), (3, .int x3), (4, .int x4)]) hx hb dX7_homeOf_116 hl (by decide) rfl (fun ls hl => ?_)
  exact w_X7_homeOf_118 C hr hq hk30_ FU w (lv_sub hl [1, 2, 3, 4, 0] rfl) hf
set_option maxRecDepth 100000 in
set_option maxHeartbeats 4000000 in
theorem w_X7_homeOf_30b (C : gC p s m args c RX7 cX7_homeOf 6 D (yty cI cZ) 30 (yE cI cZ) ad) (hr : meth.sig.returnType = (some .int)) (hq : meth.locks = false) {k30_ : (Int32 → Int32 → Mem → Option (Int32 × Mem))} {Rs : Int32 × Mem} (hk30_ : ∀ {x2 : Int32} {x3 : Int32} {M : Mem} {H : Heap} {locs : List Loc} {ls : Array Slot}, gWd D 30 (yE cI cZ) ad M s H locs → lv_has ls 6 [(0, .ref (ad 0)), (2, .int x2), (3, .int x3)] → k30_ x2 x3 M = some Rs → W p l e (rmH 0) s m args below meth c H locs 0 0 (MQ below (qI D 30 (yE cI cZ) ad Rs) args s 0 0 (gA 30 ad)) (F0 m 30 ls [])) {x2 : Int32} {x3 : Int32} (w : gWd D 30 (yE cI cZ) ad M s H locs) (hl : lv_has ls 6 [(0, .ref (ad 0)), (2, .int x2), (3, .int x3)]) (hf : f_X7_homeOf_30b k30_ x2 x3 M = some Rs) : W p l e (rmH 0) s m args below meth c H locs 0 0 (MQ below (qI D 30 (yE cI cZ) ad Rs) args s 0 0 (gA 30 ad)) (F0 m 30 ls []) := by
  unfold f_X7_homeOf_30b at hf
  have hx := C.1.1
  have hb := C.1.2.1
  have hi := C.2.2.2.1
  refine lv_iload_n hx hb dX7_homeOf_30 rfl (lv_at hl 2 rfl) ?_
  refine lv_if_le (tgt := 153) hx hb dX7_homeOf_31 (by decide) (fun c1 => ?_) (fun c1 => ?_)
  · replace hf := (if_pos c1).symm.trans hf
    refine lv_iconst (v := -1) hx hb dX7_homeOf_153 (by decide) ?_
    exact g_iret C w hr hq hf dX7_homeOf_154
  · replace hf := (if_neg c1).symm.trans hf
    refine lv_iinc (v := (x3 + (-1))) (lv' := [(3, .int (x3 + (-1))), (0, .ref (ad 0)), (2, .int x2)]) hx hb dX7_homeOf_34 hl (k := 2) rfl rfl (by decide) rfl (fun ls hl => ?_)
    refine lv_aload_n hx hb dX7_homeOf_37 rfl (lv_at hl 1 rfl) ?_
    refine gt_X7_95 C w dX7_homeOf_38 ?_
    refine lv_iload_n hx hb dX7_homeOf_41 rfl (lv_at hl 0 rfl) ?_
    obtain ⟨v2, e3, hf⟩ := bindS hf
    refine g_iald C w y_a29 e3 dX7_homeOf_42 ?_
    refine lv_istore (lv' := [(4, .int v2), (3, .int (x3 + (-1))), (0, .ref (ad 0)), (2, .int x2)]) hx hb dX7_homeOf_43 hl (by decide) rfl (fun ls hl => ?_)
    refine lv_aload_n hx hb dX7_homeOf_45 rfl (lv_at hl 2 rfl) ?_
    refine gt_X7_86 C w dX7_homeOf_46 ?_
    refine lv_iload hx hb dX7_homeOf_49 (lv_at hl 0 rfl) ?_
    obtain ⟨v4, e5, hf⟩ := bindS hf
    refine g_zald C w y_a26 e5 dX7_homeOf_51 ?_
    refine lv_if_ne (tgt := 150) hx hb dX7_homeOf_52 (by decide) (fun c6 => ?_) (fun c6 => ?_)
    · replace hf := (if_neg c6).symm.trans hf
      exact w_X7_homeOf_150 C hr hq hk30_ w (lv_sub hl [2, 3, 1] rfl) hf
    · replace hf := (if_pos c6).symm.trans hf
      refine lv_aload_n hx hb dX7_homeOf_55 rfl (lv_at hl 2 rfl) ?_
      refine gt_X7_86 C w dX7_homeOf_56 ?_
      refine lv_iload hx hb dX7_homeOf_59 (lv_at hl 0 rfl) ?_
      refine lv_iconst (v := 1) hx hb dX7_homeOf_61 (by decide) ?_
      obtain ⟨M7, e8, hf⟩ := bindS hf
      refine g_zast C w y_a26 e8 dX7_homeOf_62 (fun H locs w => ?_)
      refine lv_aload_n hx hb dX7_homeOf_63 rfl (lv_at hl 2 rfl) ?_
      refine gt_X7_26 C w dX7_homeOf_64 ?_
      refine lv_iconst (v := 5) hx hb dX7_homeOf_67 (by decide) ?_
      refine lv_iload hx hb dX7_homeOf_68 (lv_at hl 0 rfl) ?_
      refine lv_imul hx hb dX7_homeOf_70 ?_
      refine lv_iload_n hx hb dX7_homeOf_71 rfl (lv_at hl 3 rfl) ?_
      refine lv_iadd hx hb dX7_homeOf_72 ?_
      obtain ⟨v9, e10, hf⟩ := bindS hf
      refine g_iald C w y_a6 e10 dX7_homeOf_73 ?_
      refine lv_if_le (tgt := 80) hx hb dX7_homeOf_74 (by decide) (fun c11 => ?_) (fun c11 => ?_)
      · replace hf := (if_pos c11).symm.trans hf
        refine lv_aload_n hx hb dX7_homeOf_80 rfl (lv_at hl 2 rfl) ?_
        refine gt_X7_13 C w dX7_homeOf_81 ?_
        refine lv_iload hx hb dX7_homeOf_84 (lv_at hl 0 rfl) ?_
        obtain ⟨v12, e13, hf⟩ := bindS hf
        refine g_iald C w y_a2 e13 dX7_homeOf_86 ?_
        refine lv_iconst (v := -1) hx hb dX7_homeOf_87 (by decide) ?_
        refine lv_icmp_eq (tgt := 107) hx hb dX7_homeOf_88 (by decide) (fun c14 => ?_) (fun c14 => ?_)
        · replace hf := (if_pos c14).symm.trans hf
          exact w_X7_homeOf_107 C hr hq hk30_ w (lv_sub hl [2, 3, 1, 0] rfl) hf
        · replace hf := (if_neg c14).symm.trans hf
          refine lv_aload_n hx hb dX7_homeOf_91 rfl (lv_at hl 2 rfl) ?_
          refine gt_X7_95 C w dX7_homeOf_92 ?_
          refine lv_iload_n hx hb dX7_homeOf_95 rfl (lv_at hl 1 rfl) ?_
          refine lv_aload_n hx hb dX7_homeOf_96 rfl (lv_at hl 2 rfl) ?_
          refine gt_X7_13 C w dX7_homeOf_97 ?_
          refine lv_iload hx hb dX7_homeOf_100 (lv_at hl 0 rfl) ?_
          obtain ⟨v15, e16, hf⟩ := bindS hf
          refine g_iald C w y_a2 e16 dX7_homeOf_102 ?_
          obtain ⟨M17, e18, hf⟩ := bindS hf
          refine g_iast C w y_a29 e18 dX7_homeOf_103 (fun H locs w => ?_)
          refine lv_iinc (v := ((x3 + (-1)) + 1)) (lv' := [(3, .int ((x3 + (-1)) + 1)), (4, .int v2), (0, .ref (ad 0)), (2, .int x2)]) hx hb dX7_homeOf_104 hl (k := 1) rfl rfl (by decide) rfl (fun ls hl => ?_)
          exact w_X7_homeOf_107 C hr hq hk30_ w (lv_sub hl [2, 3, 0, 1] rfl) hf
      · replace hf := (if_neg c11).symm.trans hf
        refine lv_iload hx hb dX7_homeOf_77 (lv_at hl 0 rfl) ?_
        exact g_iret C w hr hq hf dX7_homeOf_79
theorem w_X7_homeOf_30 (C : gC p s m args c RX7 cX7_homeOf 6 D (yty cI cZ) 30 (yE cI cZ) ad) (hr : meth.sig.returnType = (some .int)) (hq : meth.locks = false) {Rs : Int32 × Mem} : ∀ (n : Nat) {x2 : Int32} {x3 : Int32} {M : Mem} {H : Heap} {locs : List Loc} {ls : Array Slot}, gWd D 30 (yE cI cZ) ad M s H locs → lv_has ls 6 [(0, .ref (ad 0)), (2, .int x2), (3, .int x3)] → f_X7_homeOf_30  n x2 x3 M = some Rs → W p l e (rmH 0) s m args below meth c H locs 0 0 (MQ below (qI D 30 (yE cI cZ) ad Rs) args s 0 0 (gA 30 ad)) (F0 m 30 ls []) := by
  intro n
  induction n with
  | zero =>
    intro x2 x3 M H locs ls w hl hf
    cases hf
  | succ n ih =>
    intro x2 x3 M H locs ls w hl hf
    exact w_X7_homeOf_30b C hr hq ih  w hl hf
set_option maxRecDepth 100000 in
set_option maxHeartbeats 4000000 in
theorem w_X7_homeOf_2b (C : gC p s m args c RX7 cX7_homeOf 6 D (yty cI cZ) 30 (yE cI cZ) ad) (hr : meth.sig.returnType = (some .int)) (hq : meth.locks = false) {k2_ : (Int32 → Int32 → Int32 → Mem → Option (Int32 × Mem))} {Rs : Int32 × Mem} (hk2_ : ∀ {x1 : Int32} {x2 : Int32} {x3 : Int32} {M : Mem} {H : Heap} {locs : List Loc} {ls : Array Slot}, gWd D 30 (yE cI cZ) ad M s H locs → lv_has ls 6 [(0, .ref (ad 0)), (1, .int x1), (2, .int x2), (3, .int x3)] → k2_ x1 x2 x3 M = some Rs → W p l e (rmH 0) s m args below meth c H locs 0 0 (MQ below (qI D 30 (yE cI cZ) ad Rs) args s 0 0 (gA 30 ad)) (F0 m 2 ls [])) {x1 : Int32} {x2 : Int32} {x3 : Int32} (w : gWd D 30 (yE cI cZ) ad M s H locs) (hl : lv_has ls 6 [(0, .ref (ad 0)), (1, .int x1), (2, .int x2), (3, .int x3)]) (hf : f_X7_homeOf_2b k2_ x1 x2 x3 M = some Rs) : W p l e (rmH 0) s m args below meth c H locs 0 0 (MQ below (qI D 30 (yE cI cZ) ad Rs) args s 0 0 (gA 30 ad)) (F0 m 2 ls []) := by
  unfold f_X7_homeOf_2b at hf
  have hx := C.1.1
  have hb := C.1.2.1
  have hi := C.2.2.2.1
  refine lv_iload_n hx hb dX7_homeOf_2 rfl (lv_at hl 3 rfl) ?_
  refine lv_bipush (v := 16) hx hb dX7_homeOf_3 (by decide) ?_
  refine lv_icmp_ge (tgt := 21) hx hb dX7_homeOf_5 (by decide) (fun c1 => ?_) (fun c1 => ?_)
  · replace hf := (if_pos c1).symm.trans hf
    refine lv_iconst (v := 1) hx hb dX7_homeOf_21 (by decide) ?_
    refine lv_istore_n (lv' := [(3, .int (1 : Int32)), (0, .ref (ad 0)), (1, .int x1), (2, .int x2)]) hx hb dX7_homeOf_22 rfl hl (by decide) rfl (fun ls hl => ?_)
    refine lv_aload_n hx hb dX7_homeOf_23 rfl (lv_at hl 1 rfl) ?_
    refine gt_X7_95 C w dX7_homeOf_24 ?_
    refine lv_iconst (v := 0) hx hb dX7_homeOf_27 (by decide) ?_
    refine lv_iload_n hx hb dX7_homeOf_28 rfl (lv_at hl 2 rfl) ?_
    obtain ⟨M2, e3, hf⟩ := bindS hf
    refine g_iast C w y_a29 e3 dX7_homeOf_29 (fun H locs w => ?_)
    exact w_X7_homeOf_30 C hr hq FU w (lv_sub hl [1, 3, 0] rfl) hf
  · replace hf := (if_neg c1).symm.trans hf
    refine lv_aload_n hx hb dX7_homeOf_8 rfl (lv_at hl 0 rfl) ?_
    refine gt_X7_86 C w dX7_homeOf_9 ?_
    refine lv_iload_n hx hb dX7_homeOf_12 rfl (lv_at hl 3 rfl) ?_
    refine lv_iconst (v := 0) hx hb dX7_homeOf_13 (by decide) ?_
    obtain ⟨M4, e5, hf⟩ := bindS hf
    refine g_zast C w y_a26 e5 dX7_homeOf_14 (fun H locs w => ?_)
    refine lv_iinc (v := (x3 + 1)) (lv' := [(3, .int (x3 + 1)), (0, .ref (ad 0)), (1, .int x1), (2, .int x2)]) hx hb dX7_homeOf_15 hl (k := 3) rfl rfl (by decide) rfl (fun ls hl => ?_)
    refine lv_goto (tgt := 2) hx hb dX7_homeOf_18 (by decide) ?_
    exact hk2_ w (lv_sub hl [1, 2, 3, 0] rfl) hf
theorem w_X7_homeOf_2 (C : gC p s m args c RX7 cX7_homeOf 6 D (yty cI cZ) 30 (yE cI cZ) ad) (hr : meth.sig.returnType = (some .int)) (hq : meth.locks = false) {Rs : Int32 × Mem} : ∀ (n : Nat) {x1 : Int32} {x2 : Int32} {x3 : Int32} {M : Mem} {H : Heap} {locs : List Loc} {ls : Array Slot}, gWd D 30 (yE cI cZ) ad M s H locs → lv_has ls 6 [(0, .ref (ad 0)), (1, .int x1), (2, .int x2), (3, .int x3)] → f_X7_homeOf_2  n x1 x2 x3 M = some Rs → W p l e (rmH 0) s m args below meth c H locs 0 0 (MQ below (qI D 30 (yE cI cZ) ad Rs) args s 0 0 (gA 30 ad)) (F0 m 2 ls []) := by
  intro n
  induction n with
  | zero =>
    intro x1 x2 x3 M H locs ls w hl hf
    cases hf
  | succ n ih =>
    intro x1 x2 x3 M H locs ls w hl hf
    exact w_X7_homeOf_2b C hr hq ih  w hl hf
set_option maxRecDepth 100000 in
set_option maxHeartbeats 4000000 in
theorem w_X7_homeOf_0 (C : gC p s m args c RX7 cX7_homeOf 6 D (yty cI cZ) 30 (yE cI cZ) ad) (hr : meth.sig.returnType = (some .int)) (hq : meth.locks = false) {Rs : Int32 × Mem} {x1 : Int32} {x2 : Int32} (w : gWd D 30 (yE cI cZ) ad M s H locs) (hl : lv_has ls 6 [(0, .ref (ad 0)), (1, .int x1), (2, .int x2)]) (hf : f_X7_homeOf_0  x1 x2 M = some Rs) : W p l e (rmH 0) s m args below meth c H locs 0 0 (MQ below (qI D 30 (yE cI cZ) ad Rs) args s 0 0 (gA 30 ad)) (F0 m 0 ls []) := by
  unfold f_X7_homeOf_0 at hf
  have hx := C.1.1
  have hb := C.1.2.1
  have hi := C.2.2.2.1
  refine lv_iconst (v := 0) hx hb dX7_homeOf_0 (by decide) ?_
  refine lv_istore_n (lv' := [(3, .int (0 : Int32)), (0, .ref (ad 0)), (1, .int x1), (2, .int x2)]) hx hb dX7_homeOf_1 rfl hl (by decide) rfl (fun ls hl => ?_)
  exact w_X7_homeOf_2 C hr hq FU w (lv_sub hl [1, 2, 3, 0] rfl) hf
abbrev f_X7_homeOf (x1 : Int32) (x2 : Int32) (M : Mem) : Option (Int32 × Mem) := f_X7_homeOf_0 x1 x2 M
theorem c_X7_homeOf (hi : gInj 30 ad) {x1 : Int32} {x2 : Int32} {Rs : Int32 × Mem} (hf : f_X7_homeOf x1 x2 M = some Rs) : gMet l yX7_homeOf cX7_homeOf 6 (some .int) 0 D (yty cI cZ) 30 (yE cI cZ) ad [.ref (ad 0), .int x1, .int x2] M (qI D 30 (yE cI cZ) ad Rs) := gMet_of (by decide) hi (yE_loc cI cZ) (Nat.le_of_ble_eq_true rfl) (fun p e s m args below meth c ls C hr hq w hl => w_X7_homeOf_0 C hr hq  w hl hf)
def f_X7_asksFor_48 (x1 : Int32) (x2 : Int32) (x3 : Int32) (x5 : Int32) (s0 : Int32) (M : Mem) : Option (Int32 × Mem) :=
  if s0 = (-1 : Int32) then (some ((18 : Int32), M)) else ((ldI M 6 80 (((5 : Int32) * s0) + x5)).bind fun v2 =>
  if v2 = (1 : Int32) then ((ldI M 19 16 x2).bind fun v12 =>
  (ldI M 9 512 (x3 + (1 : Int32))).bind fun v14 =>
  (ldI M 19 16 x2).bind fun v16 =>
  (ldI M 9 512 (x3 + (1 : Int32))).bind fun v18 =>
  (f_X7_plain x1 v16 v18 M).bind fun (v22, M20) =>
  (ldI M20 7 80 (((5 : Int32) * s0) + x5)).bind fun v23 =>
  (f_X7_write x1 v12 v14 (v22 + v23) M20).bind fun (v27, M25) =>
  some (v27, M25)) else ((stI M 21 16 x2 (3 : Int32)).bind fun M5 =>
  (stI M5 23 16 x2 s0).bind fun M7 =>
  (f_X7_ask x1 s0 M7).bind fun (v11, M9) =>
  some ((0 : Int32), M9)))
def f_X7_asksFor_0 (x1 : Int32) (x2 : Int32) (M : Mem) : Option (Int32 × Mem) :=
  (ldI M 22 16 x2).bind fun v1 =>
  (ldI M 9 512 (v1 + (2 : Int32))).bind fun v3 =>
  (ldI M 9 512 (v1 + (3 : Int32))).bind fun v5 =>
  (f_X7_isType v3 M).bind fun (v9, M7) =>
  if v9 = 0 then (f_X7_asksFor_48 x1 x2 v1 v5 (-1 : Int32) M7) else ((f_X7_homeOf v3 v5 M7).bind fun (v13, M11) =>
  f_X7_asksFor_48 x1 x2 v1 v5 v13 M11)
set_option maxRecDepth 100000 in
set_option maxHeartbeats 4000000 in
theorem w_X7_asksFor_48 (C : gC p s m args c RX7 cX7_asksFor 7 D (yty cI cZ) 30 (yE cI cZ) ad) (hr : meth.sig.returnType = (some .int)) (hq : meth.locks = false) {Rs : Int32 × Mem} {x1 : Int32} {x2 : Int32} {x3 : Int32} {x5 : Int32} {s0 : Int32} (w : gWd D 30 (yE cI cZ) ad M s H locs) (hl : lv_has ls 7 [(0, .ref (ad 0)), (1, .int x1), (2, .int x2), (3, .int x3), (5, .int x5)]) (hf : f_X7_asksFor_48  x1 x2 x3 x5 s0 M = some Rs) : W p l e (rmH 2) s m args below meth c H locs 0 0 (MQ below (qI D 30 (yE cI cZ) ad Rs) args s 0 0 (gA 30 ad)) (F0 m 48 ls [.int s0]) := by
  unfold f_X7_asksFor_48 at hf
  have hx := C.1.1
  have hb := C.1.2.1
  have hi := C.2.2.2.1
  refine lv_istore (lv' := [(6, .int s0), (0, .ref (ad 0)), (1, .int x1), (2, .int x2), (3, .int x3), (5, .int x5)]) hx hb dX7_asksFor_48 hl (by decide) rfl (fun ls hl => ?_)
  refine lv_iload hx hb dX7_asksFor_50 (lv_at hl 0 rfl) ?_
  refine lv_iconst (v := -1) hx hb dX7_asksFor_52 (by decide) ?_
  refine lv_icmp_ne (tgt := 59) hx hb dX7_asksFor_53 (by decide) (fun c1 => ?_) (fun c1 => ?_)
  · replace hf := (if_neg c1).symm.trans hf
    refine lv_aload_n hx hb dX7_asksFor_59 rfl (lv_at hl 1 rfl) ?_
    refine gt_X7_26 C w dX7_asksFor_60 ?_
    refine lv_iconst (v := 5) hx hb dX7_asksFor_63 (by decide) ?_
    refine lv_iload hx hb dX7_asksFor_64 (lv_at hl 0 rfl) ?_
    refine lv_imul hx hb dX7_asksFor_66 ?_
    refine lv_iload hx hb dX7_asksFor_67 (lv_at hl 5 rfl) ?_
    refine lv_iadd hx hb dX7_asksFor_69 ?_
    obtain ⟨v2, e3, hf⟩ := bindS hf
    refine g_iald C w y_a6 e3 dX7_asksFor_70 ?_
    refine lv_iconst (v := 1) hx hb dX7_asksFor_71 (by decide) ?_
    refine lv_icmp_ne (tgt := 127) hx hb dX7_asksFor_72 (by decide) (fun c4 => ?_) (fun c4 => ?_)
    · replace hf := (if_neg c4).symm.trans hf
      refine lv_aload_n hx hb dX7_asksFor_127 rfl (lv_at hl 1 rfl) ?_
      refine gt_X7_71 C w dX7_asksFor_128 ?_
      refine lv_iload_n hx hb dX7_asksFor_131 rfl (lv_at hl 3 rfl) ?_
      refine lv_iconst (v := 3) hx hb dX7_asksFor_132 (by decide) ?_
      obtain ⟨M5, e6, hf⟩ := bindS hf
      refine g_iast C w y_a21 e6 dX7_asksFor_133 (fun H locs w => ?_)
      refine lv_aload_n hx hb dX7_asksFor_134 rfl (lv_at hl 1 rfl) ?_
      refine gt_X7_77 C w dX7_asksFor_135 ?_
      refine lv_iload_n hx hb dX7_asksFor_138 rfl (lv_at hl 3 rfl) ?_
      refine lv_iload hx hb dX7_asksFor_139 (lv_at hl 0 rfl) ?_
      obtain ⟨M7, e8, hf⟩ := bindS hf
      refine g_iast C w y_a23 e8 dX7_asksFor_141 (fun H locs w => ?_)
      refine lv_aload_n hx hb dX7_asksFor_142 rfl (lv_at hl 1 rfl) ?_
      refine lv_iload_n hx hb dX7_asksFor_143 rfl (lv_at hl 2 rfl) ?_
      refine lv_iload hx hb dX7_asksFor_144 (lv_at hl 0 rfl) ?_
      obtain ⟨⟨v11, M9⟩, e10, hf⟩ := bindS hf
      refine g_backV w (g_runV (rest := []) C w (c_X7_ask hi  e10) ob_X7 rfl gv_X7_138 md_X7_ask rfl (by omega) (by decide) hl.1 rfl (Nat.le_of_ble_eq_true rfl) dX7_asksFor_146) (fun H locs w => ?_)
      refine lv_iconst (v := 0) hx hb dX7_asksFor_149 (by decide) ?_
      exact g_iret C w hr hq hf dX7_asksFor_150
    · replace hf := (if_pos c4).symm.trans hf
      refine lv_aload_n hx hb dX7_asksFor_75 rfl (lv_at hl 1 rfl) ?_
      refine lv_iload_n hx hb dX7_asksFor_76 rfl (lv_at hl 2 rfl) ?_
      refine lv_aload_n hx hb dX7_asksFor_77 rfl (lv_at hl 1 rfl) ?_
      refine gt_X7_65 C w dX7_asksFor_78 ?_
      refine lv_iload_n hx hb dX7_asksFor_81 rfl (lv_at hl 3 rfl) ?_
      obtain ⟨v12, e13, hf⟩ := bindS hf
      refine g_iald C w y_a19 e13 dX7_asksFor_82 ?_
      refine lv_aload_n hx hb dX7_asksFor_83 rfl (lv_at hl 1 rfl) ?_
      refine gt_X7_35 C w dX7_asksFor_84 ?_
      refine lv_iload_n hx hb dX7_asksFor_87 rfl (lv_at hl 4 rfl) ?_
      refine lv_iconst (v := 1) hx hb dX7_asksFor_88 (by decide) ?_
      refine lv_iadd hx hb dX7_asksFor_89 ?_
      obtain ⟨v14, e15, hf⟩ := bindS hf
      refine g_iald C w y_a9 e15 dX7_asksFor_90 ?_
      refine lv_aload_n hx hb dX7_asksFor_91 rfl (lv_at hl 1 rfl) ?_
      refine lv_iload_n hx hb dX7_asksFor_92 rfl (lv_at hl 2 rfl) ?_
      refine lv_aload_n hx hb dX7_asksFor_93 rfl (lv_at hl 1 rfl) ?_
      refine gt_X7_65 C w dX7_asksFor_94 ?_
      refine lv_iload_n hx hb dX7_asksFor_97 rfl (lv_at hl 3 rfl) ?_
      obtain ⟨v16, e17, hf⟩ := bindS hf
      refine g_iald C w y_a19 e17 dX7_asksFor_98 ?_
      refine lv_aload_n hx hb dX7_asksFor_99 rfl (lv_at hl 1 rfl) ?_
      refine gt_X7_35 C w dX7_asksFor_100 ?_
      refine lv_iload_n hx hb dX7_asksFor_103 rfl (lv_at hl 4 rfl) ?_
      refine lv_iconst (v := 1) hx hb dX7_asksFor_104 (by decide) ?_
      refine lv_iadd hx hb dX7_asksFor_105 ?_
      obtain ⟨v18, e19, hf⟩ := bindS hf
      refine g_iald C w y_a9 e19 dX7_asksFor_106 ?_
      obtain ⟨⟨v22, M20⟩, e21, hf⟩ := bindS hf
      refine g_backI w (g_runV (rest := [.int v14, .int v12, .int x1, .ref (ad 0)]) C w (c_X7_plain hi  e21) ob_X7 rfl gv_X7_167 md_X7_plain rfl (by omega) (by decide) hl.1 rfl (Nat.le_of_ble_eq_true rfl) dX7_asksFor_107) (fun H locs w => ?_)
      refine lv_aload_n hx hb dX7_asksFor_110 rfl (lv_at hl 1 rfl) ?_
      refine gt_X7_29 C w dX7_asksFor_111 ?_
      refine lv_iconst (v := 5) hx hb dX7_asksFor_114 (by decide) ?_
      refine lv_iload hx hb dX7_asksFor_115 (lv_at hl 0 rfl) ?_
      refine lv_imul hx hb dX7_asksFor_117 ?_
      refine lv_iload hx hb dX7_asksFor_118 (lv_at hl 5 rfl) ?_
      refine lv_iadd hx hb dX7_asksFor_120 ?_
      obtain ⟨v23, e24, hf⟩ := bindS hf
      refine g_iald C w y_a7 e24 dX7_asksFor_121 ?_
      refine lv_iadd hx hb dX7_asksFor_122 ?_
      obtain ⟨⟨v27, M25⟩, e26, hf⟩ := bindS hf
      refine g_backI w (g_runV (rest := []) C w (c_X7_write hi  e26) ob_X7 rfl gv_X7_163 md_X7_write rfl (by omega) (by decide) hl.1 rfl (Nat.le_of_ble_eq_true rfl) dX7_asksFor_123) (fun H locs w => ?_)
      exact g_iret C w hr hq hf dX7_asksFor_126
  · replace hf := (if_pos c1).symm.trans hf
    refine lv_bipush (v := 18) hx hb dX7_asksFor_56 (by decide) ?_
    exact g_iret C w hr hq hf dX7_asksFor_58
set_option maxRecDepth 100000 in
set_option maxHeartbeats 4000000 in
theorem w_X7_asksFor_0 (C : gC p s m args c RX7 cX7_asksFor 7 D (yty cI cZ) 30 (yE cI cZ) ad) (hr : meth.sig.returnType = (some .int)) (hq : meth.locks = false) {Rs : Int32 × Mem} {x1 : Int32} {x2 : Int32} (w : gWd D 30 (yE cI cZ) ad M s H locs) (hl : lv_has ls 7 [(0, .ref (ad 0)), (1, .int x1), (2, .int x2)]) (hf : f_X7_asksFor_0  x1 x2 M = some Rs) : W p l e (rmH 2) s m args below meth c H locs 0 0 (MQ below (qI D 30 (yE cI cZ) ad Rs) args s 0 0 (gA 30 ad)) (F0 m 0 ls []) := by
  unfold f_X7_asksFor_0 at hf
  have hx := C.1.1
  have hb := C.1.2.1
  have hi := C.2.2.2.1
  refine lv_aload_n hx hb dX7_asksFor_0 rfl (lv_at hl 0 rfl) ?_
  refine gt_X7_74 C w dX7_asksFor_1 ?_
  refine lv_iload_n hx hb dX7_asksFor_4 rfl (lv_at hl 2 rfl) ?_
  obtain ⟨v1, e2, hf⟩ := bindS hf
  refine g_iald C w y_a22 e2 dX7_asksFor_5 ?_
  refine lv_istore_n (lv' := [(3, .int v1), (0, .ref (ad 0)), (1, .int x1), (2, .int x2)]) hx hb dX7_asksFor_6 rfl hl (by decide) rfl (fun ls hl => ?_)
  refine lv_aload_n hx hb dX7_asksFor_7 rfl (lv_at hl 1 rfl) ?_
  refine gt_X7_35 C w dX7_asksFor_8 ?_
  refine lv_iload_n hx hb dX7_asksFor_11 rfl (lv_at hl 0 rfl) ?_
  refine lv_iconst (v := 2) hx hb dX7_asksFor_12 (by decide) ?_
  refine lv_iadd hx hb dX7_asksFor_13 ?_
  obtain ⟨v3, e4, hf⟩ := bindS hf
  refine g_iald C w y_a9 e4 dX7_asksFor_14 ?_
  refine lv_istore (lv' := [(4, .int v3), (3, .int v1), (0, .ref (ad 0)), (1, .int x1), (2, .int x2)]) hx hb dX7_asksFor_15 hl (by decide) rfl (fun ls hl => ?_)
  refine lv_aload_n hx hb dX7_asksFor_17 rfl (lv_at hl 2 rfl) ?_
  refine gt_X7_35 C w dX7_asksFor_18 ?_
  refine lv_iload_n hx hb dX7_asksFor_21 rfl (lv_at hl 1 rfl) ?_
  refine lv_iconst (v := 3) hx hb dX7_asksFor_22 (by decide) ?_
  refine lv_iadd hx hb dX7_asksFor_23 ?_
  obtain ⟨v5, e6, hf⟩ := bindS hf
  refine g_iald C w y_a9 e6 dX7_asksFor_24 ?_
  refine lv_istore (lv' := [(5, .int v5), (4, .int v3), (3, .int v1), (0, .ref (ad 0)), (1, .int x1), (2, .int x2)]) hx hb dX7_asksFor_25 hl (by decide) rfl (fun ls hl => ?_)
  refine lv_aload_n hx hb dX7_asksFor_27 rfl (lv_at hl 3 rfl) ?_
  refine lv_iload hx hb dX7_asksFor_28 (lv_at hl 1 rfl) ?_
  obtain ⟨⟨v9, M7⟩, e8, hf⟩ := bindS hf
  refine g_backI w (g_runV (rest := []) C w (c_X7_isType hi  e8) ob_X7 rfl gv_X7_127 md_X7_isType rfl (by omega) (by decide) hl.1 rfl (Nat.le_of_ble_eq_true rfl) dX7_asksFor_30) (fun H locs w => ?_)
  refine lv_if_eq (tgt := 47) hx hb dX7_asksFor_33 (by decide) (fun c10 => ?_) (fun c10 => ?_)
  · replace hf := (if_pos c10).symm.trans hf
    refine lv_iconst (v := -1) hx hb dX7_asksFor_47 (by decide) ?_
    exact w_X7_asksFor_48 C hr hq w (lv_sub hl [3, 4, 5, 2, 0] rfl) hf
  · replace hf := (if_neg c10).symm.trans hf
    refine lv_aload_n hx hb dX7_asksFor_36 rfl (lv_at hl 3 rfl) ?_
    refine lv_iload hx hb dX7_asksFor_37 (lv_at hl 1 rfl) ?_
    refine lv_iload hx hb dX7_asksFor_39 (lv_at hl 0 rfl) ?_
    obtain ⟨⟨v13, M11⟩, e12, hf⟩ := bindS hf
    refine g_backI w (g_runV (rest := []) C w (c_X7_homeOf hi  e12) ob_X7 rfl gv_X7_183 md_X7_homeOf rfl (by omega) (by decide) hl.1 rfl (Nat.le_of_ble_eq_true rfl) dX7_asksFor_41) (fun H locs w => ?_)
    refine lv_goto (tgt := 48) hx hb dX7_asksFor_44 (by decide) ?_
    exact w_X7_asksFor_48 C hr hq w (lv_sub hl [3, 4, 5, 2, 0] rfl) hf
abbrev f_X7_asksFor (x1 : Int32) (x2 : Int32) (M : Mem) : Option (Int32 × Mem) := f_X7_asksFor_0 x1 x2 M
theorem c_X7_asksFor (hi : gInj 30 ad) {x1 : Int32} {x2 : Int32} {Rs : Int32 × Mem} (hf : f_X7_asksFor x1 x2 M = some Rs) : gMet l yX7_asksFor cX7_asksFor 7 (some .int) 2 D (yty cI cZ) 30 (yE cI cZ) ad [.ref (ad 0), .int x1, .int x2] M (qI D 30 (yE cI cZ) ad Rs) := gMet_of (by decide) hi (yE_loc cI cZ) (Nat.le_of_ble_eq_true rfl) (fun p e s m args below meth c ls C hr hq w hl => w_X7_asksFor_0 C hr hq  w hl hf)
def f_X7_does_248 (x1 : Int32) (x8 : Int32) (M : Mem) : Option (Int32 × Mem) :=
  if x8 = 0 then (some ((0 : Int32), M)) else ((f_X7_end x1 x8 M).bind fun (v4, M2) =>
  some ((0 : Int32), M2))
def f_X7_does_190 (x1 : Int32) (x8 : Int32) (s1 : Int32) (s2 : Int32) (M : Mem) : Option (Int32 × Mem) :=
  (f_X7_make s1 s2 M).bind fun (v3, M1) =>
  f_X7_does_248 x1 x8 M1
def f_X7_does_168 (x1 : Int32) (x3 : Int32) (x5 : Int32) (x6 : Int32) (x8 : Int32) (q0 : Nat) (s1 : Int32) (s2 : Int32) (M : Mem) : Option (Int32 × Mem) :=
  (stI M q0 16 s1 s2).bind fun M1 =>
  if x5 = (2 : Int32) then (f_X7_does_190 x1 x8 x1 x6 M1) else ((ldI M1 9 512 (x3 + (2 : Int32))).bind fun v4 =>
  f_X7_does_190 x1 x8 x1 v4 M1)
def f_X7_does_152 (x1 : Int32) (x2 : Int32) (x3 : Int32) (x5 : Int32) (x6 : Int32) (x8 : Int32) (M : Mem) : Option (Int32 × Mem) :=
  if x5 = (2 : Int32) then (f_X7_does_168 x1 x3 x5 x6 x8 21 x2 (1 : Int32) M) else (f_X7_does_168 x1 x3 x5 x6 x8 21 x2 (2 : Int32) M)
def f_X7_does_66 (x1 : Int32) (x2 : Int32) (x3 : Int32) (x4 : Int32) (x5 : Int32) (x6 : Int32) (x7 : Int32) (s0 : Int32) (M : Mem) : Option (Int32 × Mem) :=
  if s0 = 0 then ((ldI M 13 4 x1).bind fun v2 =>
  (stI M 13 4 x1 (v2 - x7)).bind fun M4 =>
  (stF M4 0 21 ((M4 0 21) + x7)).bind fun M6 =>
  if x5 = 0 then ((ldI M6 9 512 (x3 + (2 : Int32))).bind fun v22 =>
  (f_X7_write x1 x4 x6 v22 M6).bind fun (v26, M24) =>
  f_X7_does_248 x1 v26 M24) else (if x5 = (1 : Int32) then ((f_X7_asksFor x1 x2 M6).bind fun (v21, M19) =>
  f_X7_does_248 x1 v21 M19) else (if x5 = (2 : Int32) then (f_X7_does_152 x1 x2 x3 x5 x6 s0 M6) else (if x5 = (6 : Int32) then (f_X7_does_152 x1 x2 x3 x5 x6 s0 M6) else (if x5 = (3 : Int32) then (f_X7_does_248 x1 ((10 : Int32) + x6) M6) else (if x5 = (5 : Int32) then (if (100 : Int32) ≤ (M6 0 19) then (f_X7_does_248 x1 s0 M6) else ((stI M6 15 100 (M6 0 19) x6).bind fun M15 =>
  (stF M15 0 19 ((M15 0 19) + (1 : Int32))).bind fun M17 =>
  f_X7_does_248 x1 s0 M17)) else (f_X7_does_248 x1 s0 M6))))))) else (f_X7_does_248 x1 s0 M)
def f_X7_does_47 (x1 : Int32) (x2 : Int32) (x3 : Int32) (x4 : Int32) (x5 : Int32) (x6 : Int32) (s0 : Int32) (M : Mem) : Option (Int32 × Mem) :=
  (ldI M 13 4 x1).bind fun v1 =>
  if s0 ≤ v1 then (f_X7_does_66 x1 x2 x3 x4 x5 x6 s0 (0 : Int32) M) else (f_X7_does_66 x1 x2 x3 x4 x5 x6 s0 (17 : Int32) M)
def f_X7_does_0 (x1 : Int32) (x2 : Int32) (M : Mem) : Option (Int32 × Mem) :=
  (ldI M 22 16 x2).bind fun v1 =>
  (ldI M 19 16 x2).bind fun v3 =>
  (ldI M 9 512 v1).bind fun v5 =>
  (ldI M 9 512 (v1 + (1 : Int32))).bind fun v7 =>
  if v5 = (4 : Int32) then (f_X7_does_47 x1 x2 v1 v3 v5 v7 ((1 : Int32) + v7) M) else (f_X7_does_47 x1 x2 v1 v3 v5 v7 (1 : Int32) M)
set_option maxRecDepth 100000 in
set_option maxHeartbeats 4000000 in
theorem w_X7_does_248 (C : gC p s m args c RX7 cX7_does 9 D (yty cI cZ) 30 (yE cI cZ) ad) (hr : meth.sig.returnType = none) (hq : meth.locks = false) {Rs : Int32 × Mem} {x1 : Int32} {x8 : Int32} (w : gWd D 30 (yE cI cZ) ad M s H locs) (hl : lv_has ls 9 [(0, .ref (ad 0)), (1, .int x1), (8, .int x8)]) (hf : f_X7_does_248  x1 x8 M = some Rs) : W p l e (rmH 3) s m args below meth c H locs 0 0 (MQ below (qV D 30 (yE cI cZ) ad Rs) args s 0 0 (gA 30 ad)) (F0 m 248 ls []) := by
  unfold f_X7_does_248 at hf
  have hx := C.1.1
  have hb := C.1.2.1
  have hi := C.2.2.2.1
  refine lv_iload hx hb dX7_does_248 (lv_at hl 2 rfl) ?_
  refine lv_if_eq (tgt := 260) hx hb dX7_does_250 (by decide) (fun c1 => ?_) (fun c1 => ?_)
  · replace hf := (if_pos c1).symm.trans hf
    exact g_vret C w hr hq hf dX7_does_260
  · replace hf := (if_neg c1).symm.trans hf
    refine lv_aload_n hx hb dX7_does_253 rfl (lv_at hl 0 rfl) ?_
    refine lv_iload_n hx hb dX7_does_254 rfl (lv_at hl 1 rfl) ?_
    refine lv_iload hx hb dX7_does_255 (lv_at hl 2 rfl) ?_
    obtain ⟨⟨v4, M2⟩, e3, hf⟩ := bindS hf
    refine g_backV w (g_runV (rest := []) C w (c_X7_end hi  e3) ob_X7 rfl gv_X7_171 md_X7_end rfl (by omega) (by decide) hl.1 rfl (Nat.le_of_ble_eq_true rfl) dX7_does_257) (fun H locs w => ?_)
    exact g_vret C w hr hq hf dX7_does_260
set_option maxRecDepth 100000 in
set_option maxHeartbeats 4000000 in
theorem w_X7_does_190 (C : gC p s m args c RX7 cX7_does 9 D (yty cI cZ) 30 (yE cI cZ) ad) (hr : meth.sig.returnType = none) (hq : meth.locks = false) {Rs : Int32 × Mem} {x1 : Int32} {x8 : Int32} {s1 : Int32} {s2 : Int32} (w : gWd D 30 (yE cI cZ) ad M s H locs) (hl : lv_has ls 9 [(0, .ref (ad 0)), (1, .int x1), (8, .int x8)]) (hf : f_X7_does_190  x1 x8 s1 s2 M = some Rs) : W p l e (rmH 3) s m args below meth c H locs 0 0 (MQ below (qV D 30 (yE cI cZ) ad Rs) args s 0 0 (gA 30 ad)) (F0 m 190 ls [.int s2, .int s1, .ref (ad 0)]) := by
  unfold f_X7_does_190 at hf
  have hx := C.1.1
  have hb := C.1.2.1
  have hi := C.2.2.2.1
  obtain ⟨⟨v3, M1⟩, e2, hf⟩ := bindS hf
  refine g_backV w (g_runV (rest := []) C w (c_X7_make hi  e2) ob_X7 rfl gv_X7_180 md_X7_make rfl (by omega) (by decide) hl.1 rfl (Nat.le_of_ble_eq_true rfl) dX7_does_190) (fun H locs w => ?_)
  refine lv_goto (tgt := 248) hx hb dX7_does_193 (by decide) ?_
  exact w_X7_does_248 C hr hq w (lv_sub hl [0, 1, 2] rfl) hf
set_option maxRecDepth 100000 in
set_option maxHeartbeats 4000000 in
theorem w_X7_does_168 (C : gC p s m args c RX7 cX7_does 9 D (yty cI cZ) 30 (yE cI cZ) ad) (hr : meth.sig.returnType = none) (hq : meth.locks = false) {Rs : Int32 × Mem} {x1 : Int32} {x3 : Int32} {x5 : Int32} {x6 : Int32} {x8 : Int32} {q0 : Nat} {s1 : Int32} {s2 : Int32} (g0 : gAr 30 (yE cI cZ) ad cI q0 16) (w : gWd D 30 (yE cI cZ) ad M s H locs) (hl : lv_has ls 9 [(0, .ref (ad 0)), (1, .int x1), (3, .int x3), (5, .int x5), (6, .int x6), (8, .int x8)]) (hf : f_X7_does_168  x1 x3 x5 x6 x8 q0 s1 s2 M = some Rs) : W p l e (rmH 3) s m args below meth c H locs 0 0 (MQ below (qV D 30 (yE cI cZ) ad Rs) args s 0 0 (gA 30 ad)) (F0 m 168 ls [.int s2, .int s1, .ref (ad q0)]) := by
  unfold f_X7_does_168 at hf
  have hx := C.1.1
  have hb := C.1.2.1
  have hi := C.2.2.2.1
  obtain ⟨M1, e2, hf⟩ := bindS hf
  refine g_iast C w g0 e2 dX7_does_168 (fun H locs w => ?_)
  refine lv_aload_n hx hb dX7_does_169 rfl (lv_at hl 0 rfl) ?_
  refine lv_iload_n hx hb dX7_does_170 rfl (lv_at hl 1 rfl) ?_
  refine lv_iload hx hb dX7_does_171 (lv_at hl 3 rfl) ?_
  refine lv_iconst (v := 2) hx hb dX7_does_173 (by decide) ?_
  refine lv_icmp_ne (tgt := 182) hx hb dX7_does_174 (by decide) (fun c3 => ?_) (fun c3 => ?_)
  · replace hf := (if_neg c3).symm.trans hf
    refine lv_aload_n hx hb dX7_does_182 rfl (lv_at hl 0 rfl) ?_
    refine gt_X7_35 C w dX7_does_183 ?_
    refine lv_iload_n hx hb dX7_does_186 rfl (lv_at hl 2 rfl) ?_
    refine lv_iconst (v := 2) hx hb dX7_does_187 (by decide) ?_
    refine lv_iadd hx hb dX7_does_188 ?_
    obtain ⟨v4, e5, hf⟩ := bindS hf
    refine g_iald C w y_a9 e5 dX7_does_189 ?_
    exact w_X7_does_190 C hr hq w (lv_sub hl [0, 1, 5] rfl) hf
  · replace hf := (if_pos c3).symm.trans hf
    refine lv_iload hx hb dX7_does_177 (lv_at hl 4 rfl) ?_
    refine lv_goto (tgt := 190) hx hb dX7_does_179 (by decide) ?_
    exact w_X7_does_190 C hr hq w (lv_sub hl [0, 1, 5] rfl) hf
set_option maxRecDepth 100000 in
set_option maxHeartbeats 4000000 in
theorem w_X7_does_152 (C : gC p s m args c RX7 cX7_does 9 D (yty cI cZ) 30 (yE cI cZ) ad) (hr : meth.sig.returnType = none) (hq : meth.locks = false) {Rs : Int32 × Mem} {x1 : Int32} {x2 : Int32} {x3 : Int32} {x5 : Int32} {x6 : Int32} {x8 : Int32} (w : gWd D 30 (yE cI cZ) ad M s H locs) (hl : lv_has ls 9 [(0, .ref (ad 0)), (1, .int x1), (2, .int x2), (3, .int x3), (5, .int x5), (6, .int x6), (8, .int x8)]) (hf : f_X7_does_152  x1 x2 x3 x5 x6 x8 M = some Rs) : W p l e (rmH 3) s m args below meth c H locs 0 0 (MQ below (qV D 30 (yE cI cZ) ad Rs) args s 0 0 (gA 30 ad)) (F0 m 152 ls []) := by
  unfold f_X7_does_152 at hf
  have hx := C.1.1
  have hb := C.1.2.1
  have hi := C.2.2.2.1
  refine lv_aload_n hx hb dX7_does_152 rfl (lv_at hl 0 rfl) ?_
  refine gt_X7_71 C w dX7_does_153 ?_
  refine lv_iload_n hx hb dX7_does_156 rfl (lv_at hl 2 rfl) ?_
  refine lv_iload hx hb dX7_does_157 (lv_at hl 4 rfl) ?_
  refine lv_iconst (v := 2) hx hb dX7_does_159 (by decide) ?_
  refine lv_icmp_ne (tgt := 167) hx hb dX7_does_160 (by decide) (fun c1 => ?_) (fun c1 => ?_)
  · replace hf := (if_neg c1).symm.trans hf
    refine lv_iconst (v := 2) hx hb dX7_does_167 (by decide) ?_
    exact w_X7_does_168 C hr hq y_a21 w (lv_sub hl [0, 1, 3, 4, 5, 6] rfl) hf
  · replace hf := (if_pos c1).symm.trans hf
    refine lv_iconst (v := 1) hx hb dX7_does_163 (by decide) ?_
    refine lv_goto (tgt := 168) hx hb dX7_does_164 (by decide) ?_
    exact w_X7_does_168 C hr hq y_a21 w (lv_sub hl [0, 1, 3, 4, 5, 6] rfl) hf
set_option maxRecDepth 100000 in
set_option maxHeartbeats 4000000 in
theorem w_X7_does_66 (C : gC p s m args c RX7 cX7_does 9 D (yty cI cZ) 30 (yE cI cZ) ad) (hr : meth.sig.returnType = none) (hq : meth.locks = false) {Rs : Int32 × Mem} {x1 : Int32} {x2 : Int32} {x3 : Int32} {x4 : Int32} {x5 : Int32} {x6 : Int32} {x7 : Int32} {s0 : Int32} (w : gWd D 30 (yE cI cZ) ad M s H locs) (hl : lv_has ls 9 [(0, .ref (ad 0)), (1, .int x1), (2, .int x2), (3, .int x3), (4, .int x4), (5, .int x5), (6, .int x6), (7, .int x7)]) (hf : f_X7_does_66  x1 x2 x3 x4 x5 x6 x7 s0 M = some Rs) : W p l e (rmH 3) s m args below meth c H locs 0 0 (MQ below (qV D 30 (yE cI cZ) ad Rs) args s 0 0 (gA 30 ad)) (F0 m 66 ls [.int s0]) := by
  unfold f_X7_does_66 at hf
  have hx := C.1.1
  have hb := C.1.2.1
  have hi := C.2.2.2.1
  refine lv_istore (lv' := [(8, .int s0), (0, .ref (ad 0)), (1, .int x1), (2, .int x2), (3, .int x3), (4, .int x4), (5, .int x5), (6, .int x6), (7, .int x7)]) hx hb dX7_does_66 hl (by decide) rfl (fun ls hl => ?_)
  refine lv_iload hx hb dX7_does_68 (lv_at hl 0 rfl) ?_
  refine lv_if_ne (tgt := 248) hx hb dX7_does_70 (by decide) (fun c1 => ?_) (fun c1 => ?_)
  · replace hf := (if_neg c1).symm.trans hf
    exact w_X7_does_248 C hr hq w (lv_sub hl [1, 2, 0] rfl) hf
  · replace hf := (if_pos c1).symm.trans hf
    refine lv_aload_n hx hb dX7_does_73 rfl (lv_at hl 1 rfl) ?_
    refine gt_X7_47 C w dX7_does_74 ?_
    refine lv_iload_n hx hb dX7_does_77 rfl (lv_at hl 2 rfl) ?_
    refine lv_dup2_11 hx hb dX7_does_78 rfl rfl ?_
    obtain ⟨v2, e3, hf⟩ := bindS hf
    refine g_iald C w y_a13 e3 dX7_does_79 ?_
    refine lv_iload hx hb dX7_does_80 (lv_at hl 8 rfl) ?_
    refine lv_isub hx hb dX7_does_82 ?_
    obtain ⟨M4, e5, hf⟩ := bindS hf
    refine g_iast C w y_a13 e5 dX7_does_83 (fun H locs w => ?_)
    refine lv_aload_n hx hb dX7_does_84 rfl (lv_at hl 1 rfl) ?_
    refine lv_dup hx hb dX7_does_85 rfl ?_
    refine gt_X7_117 C w dX7_does_86 ?_
    refine lv_iload hx hb dX7_does_89 (lv_at hl 8 rfl) ?_
    refine lv_iadd hx hb dX7_does_91 ?_
    obtain ⟨M6, e7, hf⟩ := bindS hf
    refine pt_X7_117 C w e7 dX7_does_92 (fun H locs w => ?_)
    refine lv_iload hx hb dX7_does_95 (lv_at hl 6 rfl) ?_
    refine lv_if_ne (tgt := 122) hx hb dX7_does_97 (by decide) (fun c8 => ?_) (fun c8 => ?_)
    · replace hf := (if_neg c8).symm.trans hf
      refine lv_iload hx hb dX7_does_122 (lv_at hl 6 rfl) ?_
      refine lv_iconst (v := 1) hx hb dX7_does_124 (by decide) ?_
      refine lv_icmp_ne (tgt := 139) hx hb dX7_does_125 (by decide) (fun c9 => ?_) (fun c9 => ?_)
      · replace hf := (if_neg c9).symm.trans hf
        refine lv_iload hx hb dX7_does_139 (lv_at hl 6 rfl) ?_
        refine lv_iconst (v := 2) hx hb dX7_does_141 (by decide) ?_
        refine lv_icmp_eq (tgt := 152) hx hb dX7_does_142 (by decide) (fun c10 => ?_) (fun c10 => ?_)
        · replace hf := (if_pos c10).symm.trans hf
          exact w_X7_does_152 C hr hq w (lv_sub hl [1, 2, 3, 4, 6, 7, 0] rfl) hf
        · replace hf := (if_neg c10).symm.trans hf
          refine lv_iload hx hb dX7_does_145 (lv_at hl 6 rfl) ?_
          refine lv_bipush (v := 6) hx hb dX7_does_147 (by decide) ?_
          refine lv_icmp_ne (tgt := 196) hx hb dX7_does_149 (by decide) (fun c11 => ?_) (fun c11 => ?_)
          · replace hf := (if_neg c11).symm.trans hf
            refine lv_iload hx hb dX7_does_196 (lv_at hl 6 rfl) ?_
            refine lv_iconst (v := 3) hx hb dX7_does_198 (by decide) ?_
            refine lv_icmp_ne (tgt := 212) hx hb dX7_does_199 (by decide) (fun c12 => ?_) (fun c12 => ?_)
            · replace hf := (if_neg c12).symm.trans hf
              refine lv_iload hx hb dX7_does_212 (lv_at hl 6 rfl) ?_
              refine lv_iconst (v := 5) hx hb dX7_does_214 (by decide) ?_
              refine lv_icmp_ne (tgt := 248) hx hb dX7_does_215 (by decide) (fun c13 => ?_) (fun c13 => ?_)
              · replace hf := (if_neg c13).symm.trans hf
                exact w_X7_does_248 C hr hq w (lv_sub hl [1, 2, 0] rfl) hf
              · replace hf := (if_pos c13).symm.trans hf
                refine lv_aload_n hx hb dX7_does_218 rfl (lv_at hl 1 rfl) ?_
                refine gt_X7_114 C w dX7_does_219 ?_
                refine lv_bipush (v := 100) hx hb dX7_does_222 (by decide) ?_
                refine lv_icmp_ge (tgt := 248) hx hb dX7_does_224 (by decide) (fun c14 => ?_) (fun c14 => ?_)
                · replace hf := (if_pos c14).symm.trans hf
                  exact w_X7_does_248 C hr hq w (lv_sub hl [1, 2, 0] rfl) hf
                · replace hf := (if_neg c14).symm.trans hf
                  refine lv_aload_n hx hb dX7_does_227 rfl (lv_at hl 1 rfl) ?_
                  refine gt_X7_53 C w dX7_does_228 ?_
                  refine lv_aload_n hx hb dX7_does_231 rfl (lv_at hl 1 rfl) ?_
                  refine gt_X7_114 C w dX7_does_232 ?_
                  refine lv_iload hx hb dX7_does_235 (lv_at hl 7 rfl) ?_
                  obtain ⟨M15, e16, hf⟩ := bindS hf
                  refine g_iast C w y_a15 e16 dX7_does_237 (fun H locs w => ?_)
                  refine lv_aload_n hx hb dX7_does_238 rfl (lv_at hl 1 rfl) ?_
                  refine lv_dup hx hb dX7_does_239 rfl ?_
                  refine gt_X7_114 C w dX7_does_240 ?_
                  refine lv_iconst (v := 1) hx hb dX7_does_243 (by decide) ?_
                  refine lv_iadd hx hb dX7_does_244 ?_
                  obtain ⟨M17, e18, hf⟩ := bindS hf
                  refine pt_X7_114 C w e18 dX7_does_245 (fun H locs w => ?_)
                  exact w_X7_does_248 C hr hq w (lv_sub hl [1, 2, 0] rfl) hf
            · replace hf := (if_pos c12).symm.trans hf
              refine lv_bipush (v := 10) hx hb dX7_does_202 (by decide) ?_
              refine lv_iload hx hb dX7_does_204 (lv_at hl 7 rfl) ?_
              refine lv_iadd hx hb dX7_does_206 ?_
              refine lv_istore (lv' := [(8, .int ((10 : Int32) + x6)), (0, .ref (ad 0)), (1, .int x1), (2, .int x2), (3, .int x3), (4, .int x4), (5, .int x5), (6, .int x6), (7, .int x7)]) hx hb dX7_does_207 hl (by decide) rfl (fun ls hl => ?_)
              refine lv_goto (tgt := 248) hx hb dX7_does_209 (by decide) ?_
              exact w_X7_does_248 C hr hq w (lv_sub hl [1, 2, 0] rfl) hf
          · replace hf := (if_pos c11).symm.trans hf
            exact w_X7_does_152 C hr hq w (lv_sub hl [1, 2, 3, 4, 6, 7, 0] rfl) hf
      · replace hf := (if_pos c9).symm.trans hf
        refine lv_aload_n hx hb dX7_does_128 rfl (lv_at hl 1 rfl) ?_
        refine lv_iload_n hx hb dX7_does_129 rfl (lv_at hl 2 rfl) ?_
        refine lv_iload_n hx hb dX7_does_130 rfl (lv_at hl 3 rfl) ?_
        obtain ⟨⟨v21, M19⟩, e20, hf⟩ := bindS hf
        refine g_backI w (g_runV (rest := []) C w (c_X7_asksFor hi  e20) ob_X7 rfl gv_X7_177 md_X7_asksFor rfl (by omega) (by decide) hl.1 rfl (Nat.le_of_ble_eq_true rfl) dX7_does_131) (fun H locs w => ?_)
        refine lv_istore (lv' := [(8, .int v21), (0, .ref (ad 0)), (1, .int x1), (2, .int x2), (3, .int x3), (4, .int x4), (5, .int x5), (6, .int x6), (7, .int x7)]) hx hb dX7_does_134 hl (by decide) rfl (fun ls hl => ?_)
        refine lv_goto (tgt := 248) hx hb dX7_does_136 (by decide) ?_
        exact w_X7_does_248 C hr hq w (lv_sub hl [1, 2, 0] rfl) hf
    · replace hf := (if_pos c8).symm.trans hf
      refine lv_aload_n hx hb dX7_does_100 rfl (lv_at hl 1 rfl) ?_
      refine lv_iload_n hx hb dX7_does_101 rfl (lv_at hl 2 rfl) ?_
      refine lv_iload hx hb dX7_does_102 (lv_at hl 5 rfl) ?_
      refine lv_iload hx hb dX7_does_104 (lv_at hl 7 rfl) ?_
      refine lv_aload_n hx hb dX7_does_106 rfl (lv_at hl 1 rfl) ?_
      refine gt_X7_35 C w dX7_does_107 ?_
      refine lv_iload_n hx hb dX7_does_110 rfl (lv_at hl 4 rfl) ?_
      refine lv_iconst (v := 2) hx hb dX7_does_111 (by decide) ?_
      refine lv_iadd hx hb dX7_does_112 ?_
      obtain ⟨v22, e23, hf⟩ := bindS hf
      refine g_iald C w y_a9 e23 dX7_does_113 ?_
      obtain ⟨⟨v26, M24⟩, e25, hf⟩ := bindS hf
      refine g_backI w (g_runV (rest := []) C w (c_X7_write hi  e25) ob_X7 rfl gv_X7_163 md_X7_write rfl (by omega) (by decide) hl.1 rfl (Nat.le_of_ble_eq_true rfl) dX7_does_114) (fun H locs w => ?_)
      refine lv_istore (lv' := [(8, .int v26), (0, .ref (ad 0)), (1, .int x1), (2, .int x2), (3, .int x3), (4, .int x4), (5, .int x5), (6, .int x6), (7, .int x7)]) hx hb dX7_does_117 hl (by decide) rfl (fun ls hl => ?_)
      refine lv_goto (tgt := 248) hx hb dX7_does_119 (by decide) ?_
      exact w_X7_does_248 C hr hq w (lv_sub hl [1, 2, 0] rfl) hf
set_option maxRecDepth 100000 in
set_option maxHeartbeats 4000000 in
theorem w_X7_does_47 (C : gC p s m args c RX7 cX7_does 9 D (yty cI cZ) 30 (yE cI cZ) ad) (hr : meth.sig.returnType = none) (hq : meth.locks = false) {Rs : Int32 × Mem} {x1 : Int32} {x2 : Int32} {x3 : Int32} {x4 : Int32} {x5 : Int32} {x6 : Int32} {s0 : Int32} (w : gWd D 30 (yE cI cZ) ad M s H locs) (hl : lv_has ls 9 [(0, .ref (ad 0)), (1, .int x1), (2, .int x2), (3, .int x3), (4, .int x4), (5, .int x5), (6, .int x6)]) (hf : f_X7_does_47  x1 x2 x3 x4 x5 x6 s0 M = some Rs) : W p l e (rmH 3) s m args below meth c H locs 0 0 (MQ below (qV D 30 (yE cI cZ) ad Rs) args s 0 0 (gA 30 ad)) (F0 m 47 ls [.int s0]) := by
  unfold f_X7_does_47 at hf
  have hx := C.1.1
  have hb := C.1.2.1
  have hi := C.2.2.2.1
  refine lv_istore (lv' := [(7, .int s0), (0, .ref (ad 0)), (1, .int x1), (2, .int x2), (3, .int x3), (4, .int x4), (5, .int x5), (6, .int x6)]) hx hb dX7_does_47 hl (by decide) rfl (fun ls hl => ?_)
  refine lv_aload_n hx hb dX7_does_49 rfl (lv_at hl 1 rfl) ?_
  refine gt_X7_47 C w dX7_does_50 ?_
  refine lv_iload_n hx hb dX7_does_53 rfl (lv_at hl 2 rfl) ?_
  obtain ⟨v1, e2, hf⟩ := bindS hf
  refine g_iald C w y_a13 e2 dX7_does_54 ?_
  refine lv_iload hx hb dX7_does_55 (lv_at hl 0 rfl) ?_
  refine lv_icmp_ge (tgt := 65) hx hb dX7_does_57 (by decide) (fun c3 => ?_) (fun c3 => ?_)
  · replace hf := (if_pos c3).symm.trans hf
    refine lv_iconst (v := 0) hx hb dX7_does_65 (by decide) ?_
    exact w_X7_does_66 C hr hq w (lv_sub hl [1, 2, 3, 4, 5, 6, 7, 0] rfl) hf
  · replace hf := (if_neg c3).symm.trans hf
    refine lv_bipush (v := 17) hx hb dX7_does_60 (by decide) ?_
    refine lv_goto (tgt := 66) hx hb dX7_does_62 (by decide) ?_
    exact w_X7_does_66 C hr hq w (lv_sub hl [1, 2, 3, 4, 5, 6, 7, 0] rfl) hf
set_option maxRecDepth 100000 in
set_option maxHeartbeats 4000000 in
theorem w_X7_does_0 (C : gC p s m args c RX7 cX7_does 9 D (yty cI cZ) 30 (yE cI cZ) ad) (hr : meth.sig.returnType = none) (hq : meth.locks = false) {Rs : Int32 × Mem} {x1 : Int32} {x2 : Int32} (w : gWd D 30 (yE cI cZ) ad M s H locs) (hl : lv_has ls 9 [(0, .ref (ad 0)), (1, .int x1), (2, .int x2)]) (hf : f_X7_does_0  x1 x2 M = some Rs) : W p l e (rmH 3) s m args below meth c H locs 0 0 (MQ below (qV D 30 (yE cI cZ) ad Rs) args s 0 0 (gA 30 ad)) (F0 m 0 ls []) := by
  unfold f_X7_does_0 at hf
  have hx := C.1.1
  have hb := C.1.2.1
  have hi := C.2.2.2.1
  refine lv_aload_n hx hb dX7_does_0 rfl (lv_at hl 0 rfl) ?_
  refine gt_X7_74 C w dX7_does_1 ?_
  refine lv_iload_n hx hb dX7_does_4 rfl (lv_at hl 2 rfl) ?_
  obtain ⟨v1, e2, hf⟩ := bindS hf
  refine g_iald C w y_a22 e2 dX7_does_5 ?_
  refine lv_istore_n (lv' := [(3, .int v1), (0, .ref (ad 0)), (1, .int x1), (2, .int x2)]) hx hb dX7_does_6 rfl hl (by decide) rfl (fun ls hl => ?_)
  refine lv_aload_n hx hb dX7_does_7 rfl (lv_at hl 1 rfl) ?_
  refine gt_X7_65 C w dX7_does_8 ?_
  refine lv_iload_n hx hb dX7_does_11 rfl (lv_at hl 3 rfl) ?_
  obtain ⟨v3, e4, hf⟩ := bindS hf
  refine g_iald C w y_a19 e4 dX7_does_12 ?_
  refine lv_istore (lv' := [(4, .int v3), (3, .int v1), (0, .ref (ad 0)), (1, .int x1), (2, .int x2)]) hx hb dX7_does_13 hl (by decide) rfl (fun ls hl => ?_)
  refine lv_aload_n hx hb dX7_does_15 rfl (lv_at hl 2 rfl) ?_
  refine gt_X7_35 C w dX7_does_16 ?_
  refine lv_iload_n hx hb dX7_does_19 rfl (lv_at hl 1 rfl) ?_
  obtain ⟨v5, e6, hf⟩ := bindS hf
  refine g_iald C w y_a9 e6 dX7_does_20 ?_
  refine lv_istore (lv' := [(5, .int v5), (4, .int v3), (3, .int v1), (0, .ref (ad 0)), (1, .int x1), (2, .int x2)]) hx hb dX7_does_21 hl (by decide) rfl (fun ls hl => ?_)
  refine lv_aload_n hx hb dX7_does_23 rfl (lv_at hl 3 rfl) ?_
  refine gt_X7_35 C w dX7_does_24 ?_
  refine lv_iload_n hx hb dX7_does_27 rfl (lv_at hl 2 rfl) ?_
  refine lv_iconst (v := 1) hx hb dX7_does_28 (by decide) ?_
  refine lv_iadd hx hb dX7_does_29 ?_
  obtain ⟨v7, e8, hf⟩ := bindS hf
  refine g_iald C w y_a9 e8 dX7_does_30 ?_
  refine lv_istore (lv' := [(6, .int v7), (5, .int v5), (4, .int v3), (3, .int v1), (0, .ref (ad 0)), (1, .int x1), (2, .int x2)]) hx hb dX7_does_31 hl (by decide) rfl (fun ls hl => ?_)
  refine lv_iload hx hb dX7_does_33 (lv_at hl 1 rfl) ?_
  refine lv_iconst (v := 4) hx hb dX7_does_35 (by decide) ?_
  refine lv_icmp_ne (tgt := 46) hx hb dX7_does_36 (by decide) (fun c9 => ?_) (fun c9 => ?_)
  · replace hf := (if_neg c9).symm.trans hf
    refine lv_iconst (v := 1) hx hb dX7_does_46 (by decide) ?_
    exact w_X7_does_47 C hr hq w (lv_sub hl [4, 5, 6, 3, 2, 1, 0] rfl) hf
  · replace hf := (if_pos c9).symm.trans hf
    refine lv_iconst (v := 1) hx hb dX7_does_39 (by decide) ?_
    refine lv_iload hx hb dX7_does_40 (lv_at hl 0 rfl) ?_
    refine lv_iadd hx hb dX7_does_42 ?_
    refine lv_goto (tgt := 47) hx hb dX7_does_43 (by decide) ?_
    exact w_X7_does_47 C hr hq w (lv_sub hl [4, 5, 6, 3, 2, 1, 0] rfl) hf
abbrev f_X7_does (x1 : Int32) (x2 : Int32) (M : Mem) : Option (Int32 × Mem) := f_X7_does_0 x1 x2 M
theorem c_X7_does (hi : gInj 30 ad) {x1 : Int32} {x2 : Int32} {Rs : Int32 × Mem} (hf : f_X7_does x1 x2 M = some Rs) : gMet l yX7_does cX7_does 9 none 3 D (yty cI cZ) 30 (yE cI cZ) ad [.ref (ad 0), .int x1, .int x2] M (qV D 30 (yE cI cZ) ad Rs) := gMet_of (by decide) hi (yE_loc cI cZ) (Nat.le_of_ble_eq_true rfl) (fun p e s m args below meth c ls C hr hq w hl => w_X7_does_0 C hr hq  w hl hf)
def f_X7_goes_0 (x1 : Int32) (M : Mem) : Option (Int32 × Mem) :=
  (ldI M 19 16 ((M 0 26) - (1 : Int32))).bind fun v1 =>
  (ldI M 20 16 ((M 0 26) - (1 : Int32))).bind fun v3 =>
  (ldI M 20 16 ((M 0 26) - (1 : Int32))).bind fun v5 =>
  (stI M 20 16 ((M 0 26) - (1 : Int32)) (v5 + (1 : Int32))).bind fun M7 =>
  if v3 = 0 then ((ldI M7 2 16 v1).bind fun v35 =>
  if v35 = (-1 : Int32) then (some ((0 : Int32), M7)) else ((stI M7 21 16 ((M 0 26) - (1 : Int32)) (0 : Int32)).bind fun M38 =>
  (ldI M38 2 16 v1).bind fun v40 =>
  (f_X7_ask x1 v40 M38).bind fun (v44, M42) =>
  some ((0 : Int32), M42))) else ((ldI M7 25 16 ((M 0 26) - (1 : Int32))).bind fun v10 =>
  if v10 < v3 then ((ldI M7 25 16 ((M 0 26) - (1 : Int32))).bind fun v13 =>
  (ldI M7 8 16 v1).bind fun v15 =>
  if v15 ≤ ((v3 - (1 : Int32)) - v13) then ((f_X7_end x1 (0 : Int32) M7).bind fun (v20, M18) =>
  some ((0 : Int32), M18)) else ((ldI M7 25 16 ((M 0 26) - (1 : Int32))).bind fun v21 =>
  (stI M7 22 16 ((M 0 26) - (1 : Int32)) (((32 : Int32) * v1) + ((4 : Int32) * ((v3 - (1 : Int32)) - v21)))).bind fun M23 =>
  (f_X7_does x1 ((M 0 26) - (1 : Int32)) M23).bind fun (v27, M25) =>
  some ((0 : Int32), M25))) else ((stI M7 21 16 ((M 0 26) - (1 : Int32)) (0 : Int32)).bind fun M28 =>
  (ldI M28 24 256 ((((16 : Int32) * ((M 0 26) - (1 : Int32))) + v3) - (1 : Int32))).bind fun v30 =>
  (f_X7_ask x1 v30 M28).bind fun (v34, M32) =>
  some ((0 : Int32), M32)))
set_option maxRecDepth 100000 in
set_option maxHeartbeats 4000000 in
theorem w_X7_goes_0 (C : gC p s m args c RX7 cX7_goes 5 D (yty cI cZ) 30 (yE cI cZ) ad) (hr : meth.sig.returnType = none) (hq : meth.locks = false) {Rs : Int32 × Mem} {x1 : Int32} (w : gWd D 30 (yE cI cZ) ad M s H locs) (hl : lv_has ls 5 [(0, .ref (ad 0)), (1, .int x1)]) (hf : f_X7_goes_0  x1 M = some Rs) : W p l e (rmH 4) s m args below meth c H locs 0 0 (MQ below (qV D 30 (yE cI cZ) ad Rs) args s 0 0 (gA 30 ad)) (F0 m 0 ls []) := by
  unfold f_X7_goes_0 at hf
  have hx := C.1.1
  have hb := C.1.2.1
  have hi := C.2.2.2.1
  refine lv_aload_n hx hb dX7_goes_0 rfl (lv_at hl 0 rfl) ?_
  refine gt_X7_135 C w dX7_goes_1 ?_
  refine lv_iconst (v := 1) hx hb dX7_goes_4 (by decide) ?_
  refine lv_isub hx hb dX7_goes_5 ?_
  refine lv_istore_n (lv' := [(2, .int ((M 0 26) - (1 : Int32))), (0, .ref (ad 0)), (1, .int x1)]) hx hb dX7_goes_6 rfl hl (by decide) rfl (fun ls hl => ?_)
  refine lv_aload_n hx hb dX7_goes_7 rfl (lv_at hl 1 rfl) ?_
  refine gt_X7_65 C w dX7_goes_8 ?_
  refine lv_iload_n hx hb dX7_goes_11 rfl (lv_at hl 0 rfl) ?_
  obtain ⟨v1, e2, hf⟩ := bindS hf
  refine g_iald C w y_a19 e2 dX7_goes_12 ?_
  refine lv_istore_n (lv' := [(3, .int v1), (2, .int ((M 0 26) - (1 : Int32))), (0, .ref (ad 0)), (1, .int x1)]) hx hb dX7_goes_13 rfl hl (by decide) rfl (fun ls hl => ?_)
  refine lv_aload_n hx hb dX7_goes_14 rfl (lv_at hl 2 rfl) ?_
  refine gt_X7_68 C w dX7_goes_15 ?_
  refine lv_iload_n hx hb dX7_goes_18 rfl (lv_at hl 1 rfl) ?_
  obtain ⟨v3, e4, hf⟩ := bindS hf
  refine g_iald C w y_a20 e4 dX7_goes_19 ?_
  refine lv_istore (lv' := [(4, .int v3), (3, .int v1), (2, .int ((M 0 26) - (1 : Int32))), (0, .ref (ad 0)), (1, .int x1)]) hx hb dX7_goes_20 hl (by decide) rfl (fun ls hl => ?_)
  refine lv_aload_n hx hb dX7_goes_22 rfl (lv_at hl 3 rfl) ?_
  refine gt_X7_68 C w dX7_goes_23 ?_
  refine lv_iload_n hx hb dX7_goes_26 rfl (lv_at hl 2 rfl) ?_
  refine lv_dup2_11 hx hb dX7_goes_27 rfl rfl ?_
  obtain ⟨v5, e6, hf⟩ := bindS hf
  refine g_iald C w y_a20 e6 dX7_goes_28 ?_
  refine lv_iconst (v := 1) hx hb dX7_goes_29 (by decide) ?_
  refine lv_iadd hx hb dX7_goes_30 ?_
  obtain ⟨M7, e8, hf⟩ := bindS hf
  refine g_iast C w y_a20 e8 dX7_goes_31 (fun H locs w => ?_)
  refine lv_iload hx hb dX7_goes_32 (lv_at hl 0 rfl) ?_
  refine lv_if_ne (tgt := 68) hx hb dX7_goes_34 (by decide) (fun c9 => ?_) (fun c9 => ?_)
  · replace hf := (if_neg c9).symm.trans hf
    refine lv_iload hx hb dX7_goes_68 (lv_at hl 0 rfl) ?_
    refine lv_aload_n hx hb dX7_goes_70 rfl (lv_at hl 3 rfl) ?_
    refine gt_X7_83 C w dX7_goes_71 ?_
    refine lv_iload_n hx hb dX7_goes_74 rfl (lv_at hl 2 rfl) ?_
    obtain ⟨v10, e11, hf⟩ := bindS hf
    refine g_iald C w y_a25 e11 dX7_goes_75 ?_
    refine lv_icmp_gt (tgt := 108) hx hb dX7_goes_76 (by decide) (fun c12 => ?_) (fun c12 => ?_)
    · replace hf := (if_pos c12).symm.trans hf
      refine lv_iload hx hb dX7_goes_108 (lv_at hl 0 rfl) ?_
      refine lv_iconst (v := 1) hx hb dX7_goes_110 (by decide) ?_
      refine lv_isub hx hb dX7_goes_111 ?_
      refine lv_aload_n hx hb dX7_goes_112 rfl (lv_at hl 3 rfl) ?_
      refine gt_X7_83 C w dX7_goes_113 ?_
      refine lv_iload_n hx hb dX7_goes_116 rfl (lv_at hl 2 rfl) ?_
      obtain ⟨v13, e14, hf⟩ := bindS hf
      refine g_iald C w y_a25 e14 dX7_goes_117 ?_
      refine lv_isub hx hb dX7_goes_118 ?_
      refine lv_aload_n hx hb dX7_goes_119 rfl (lv_at hl 3 rfl) ?_
      refine gt_X7_32 C w dX7_goes_120 ?_
      refine lv_iload_n hx hb dX7_goes_123 rfl (lv_at hl 1 rfl) ?_
      obtain ⟨v15, e16, hf⟩ := bindS hf
      refine g_iald C w y_a8 e16 dX7_goes_124 ?_
      refine lv_icmp_ge (tgt := 161) hx hb dX7_goes_125 (by decide) (fun c17 => ?_) (fun c17 => ?_)
      · replace hf := (if_pos c17).symm.trans hf
        refine lv_aload_n hx hb dX7_goes_161 rfl (lv_at hl 3 rfl) ?_
        refine lv_iload_n hx hb dX7_goes_162 rfl (lv_at hl 4 rfl) ?_
        refine lv_iconst (v := 0) hx hb dX7_goes_163 (by decide) ?_
        obtain ⟨⟨v20, M18⟩, e19, hf⟩ := bindS hf
        refine g_backV w (g_runV (rest := []) C w (c_X7_end hi  e19) ob_X7 rfl gv_X7_171 md_X7_end rfl (by omega) (by decide) hl.1 rfl (Nat.le_of_ble_eq_true rfl) dX7_goes_164) (fun H locs w => ?_)
        exact g_vret C w hr hq hf dX7_goes_167
      · replace hf := (if_neg c17).symm.trans hf
        refine lv_aload_n hx hb dX7_goes_128 rfl (lv_at hl 3 rfl) ?_
        refine gt_X7_74 C w dX7_goes_129 ?_
        refine lv_iload_n hx hb dX7_goes_132 rfl (lv_at hl 2 rfl) ?_
        refine lv_bipush (v := 32) hx hb dX7_goes_133 (by decide) ?_
        refine lv_iload_n hx hb dX7_goes_135 rfl (lv_at hl 1 rfl) ?_
        refine lv_imul hx hb dX7_goes_136 ?_
        refine lv_iconst (v := 4) hx hb dX7_goes_137 (by decide) ?_
        refine lv_iload hx hb dX7_goes_138 (lv_at hl 0 rfl) ?_
        refine lv_iconst (v := 1) hx hb dX7_goes_140 (by decide) ?_
        refine lv_isub hx hb dX7_goes_141 ?_
        refine lv_aload_n hx hb dX7_goes_142 rfl (lv_at hl 3 rfl) ?_
        refine gt_X7_83 C w dX7_goes_143 ?_
        refine lv_iload_n hx hb dX7_goes_146 rfl (lv_at hl 2 rfl) ?_
        obtain ⟨v21, e22, hf⟩ := bindS hf
        refine g_iald C w y_a25 e22 dX7_goes_147 ?_
        refine lv_isub hx hb dX7_goes_148 ?_
        refine lv_imul hx hb dX7_goes_149 ?_
        refine lv_iadd hx hb dX7_goes_150 ?_
        obtain ⟨M23, e24, hf⟩ := bindS hf
        refine g_iast C w y_a22 e24 dX7_goes_151 (fun H locs w => ?_)
        refine lv_aload_n hx hb dX7_goes_152 rfl (lv_at hl 3 rfl) ?_
        refine lv_iload_n hx hb dX7_goes_153 rfl (lv_at hl 4 rfl) ?_
        refine lv_iload_n hx hb dX7_goes_154 rfl (lv_at hl 2 rfl) ?_
        obtain ⟨⟨v27, M25⟩, e26, hf⟩ := bindS hf
        refine g_backV w (g_runV (rest := []) C w (c_X7_does hi  e26) ob_X7 rfl gv_X7_174 md_X7_does rfl (by omega) (by decide) hl.1 rfl (Nat.le_of_ble_eq_true rfl) dX7_goes_155) (fun H locs w => ?_)
        refine lv_goto (tgt := 167) hx hb dX7_goes_158 (by decide) ?_
        exact g_vret C w hr hq hf dX7_goes_167
    · replace hf := (if_neg c12).symm.trans hf
      refine lv_aload_n hx hb dX7_goes_79 rfl (lv_at hl 3 rfl) ?_
      refine gt_X7_71 C w dX7_goes_80 ?_
      refine lv_iload_n hx hb dX7_goes_83 rfl (lv_at hl 2 rfl) ?_
      refine lv_iconst (v := 0) hx hb dX7_goes_84 (by decide) ?_
      obtain ⟨M28, e29, hf⟩ := bindS hf
      refine g_iast C w y_a21 e29 dX7_goes_85 (fun H locs w => ?_)
      refine lv_aload_n hx hb dX7_goes_86 rfl (lv_at hl 3 rfl) ?_
      refine lv_iload_n hx hb dX7_goes_87 rfl (lv_at hl 4 rfl) ?_
      refine lv_aload_n hx hb dX7_goes_88 rfl (lv_at hl 3 rfl) ?_
      refine gt_X7_80 C w dX7_goes_89 ?_
      refine lv_bipush (v := 16) hx hb dX7_goes_92 (by decide) ?_
      refine lv_iload_n hx hb dX7_goes_94 rfl (lv_at hl 2 rfl) ?_
      refine lv_imul hx hb dX7_goes_95 ?_
      refine lv_iload hx hb dX7_goes_96 (lv_at hl 0 rfl) ?_
      refine lv_iadd hx hb dX7_goes_98 ?_
      refine lv_iconst (v := 1) hx hb dX7_goes_99 (by decide) ?_
      refine lv_isub hx hb dX7_goes_100 ?_
      obtain ⟨v30, e31, hf⟩ := bindS hf
      refine g_iald C w y_a24 e31 dX7_goes_101 ?_
      obtain ⟨⟨v34, M32⟩, e33, hf⟩ := bindS hf
      refine g_backV w (g_runV (rest := []) C w (c_X7_ask hi  e33) ob_X7 rfl gv_X7_138 md_X7_ask rfl (by omega) (by decide) hl.1 rfl (Nat.le_of_ble_eq_true rfl) dX7_goes_102) (fun H locs w => ?_)
      refine lv_goto (tgt := 167) hx hb dX7_goes_105 (by decide) ?_
      exact g_vret C w hr hq hf dX7_goes_167
  · replace hf := (if_pos c9).symm.trans hf
    refine lv_aload_n hx hb dX7_goes_37 rfl (lv_at hl 3 rfl) ?_
    refine gt_X7_13 C w dX7_goes_38 ?_
    refine lv_iload_n hx hb dX7_goes_41 rfl (lv_at hl 1 rfl) ?_
    obtain ⟨v35, e36, hf⟩ := bindS hf
    refine g_iald C w y_a2 e36 dX7_goes_42 ?_
    refine lv_iconst (v := -1) hx hb dX7_goes_43 (by decide) ?_
    refine lv_icmp_eq (tgt := 167) hx hb dX7_goes_44 (by decide) (fun c37 => ?_) (fun c37 => ?_)
    · replace hf := (if_pos c37).symm.trans hf
      exact g_vret C w hr hq hf dX7_goes_167
    · replace hf := (if_neg c37).symm.trans hf
      refine lv_aload_n hx hb dX7_goes_47 rfl (lv_at hl 3 rfl) ?_
      refine gt_X7_71 C w dX7_goes_48 ?_
      refine lv_iload_n hx hb dX7_goes_51 rfl (lv_at hl 2 rfl) ?_
      refine lv_iconst (v := 0) hx hb dX7_goes_52 (by decide) ?_
      obtain ⟨M38, e39, hf⟩ := bindS hf
      refine g_iast C w y_a21 e39 dX7_goes_53 (fun H locs w => ?_)
      refine lv_aload_n hx hb dX7_goes_54 rfl (lv_at hl 3 rfl) ?_
      refine lv_iload_n hx hb dX7_goes_55 rfl (lv_at hl 4 rfl) ?_
      refine lv_aload_n hx hb dX7_goes_56 rfl (lv_at hl 3 rfl) ?_
      refine gt_X7_13 C w dX7_goes_57 ?_
      refine lv_iload_n hx hb dX7_goes_60 rfl (lv_at hl 1 rfl) ?_
      obtain ⟨v40, e41, hf⟩ := bindS hf
      refine g_iald C w y_a2 e41 dX7_goes_61 ?_
      obtain ⟨⟨v44, M42⟩, e43, hf⟩ := bindS hf
      refine g_backV w (g_runV (rest := []) C w (c_X7_ask hi  e43) ob_X7 rfl gv_X7_138 md_X7_ask rfl (by omega) (by decide) hl.1 rfl (Nat.le_of_ble_eq_true rfl) dX7_goes_62) (fun H locs w => ?_)
      refine lv_goto (tgt := 167) hx hb dX7_goes_65 (by decide) ?_
      exact g_vret C w hr hq hf dX7_goes_167
abbrev f_X7_goes (x1 : Int32) (M : Mem) : Option (Int32 × Mem) := f_X7_goes_0 x1 M
theorem c_X7_goes (hi : gInj 30 ad) {x1 : Int32} {Rs : Int32 × Mem} (hf : f_X7_goes x1 M = some Rs) : gMet l yX7_goes cX7_goes 5 none 4 D (yty cI cZ) 30 (yE cI cZ) ad [.ref (ad 0), .int x1] M (qV D 30 (yE cI cZ) ad Rs) := gMet_of (by decide) hi (yE_loc cI cZ) (Nat.le_of_ble_eq_true rfl) (fun p e s m args below meth c ls C hr hq w hl => w_X7_goes_0 C hr hq  w hl hf)
def f_X7_wakes_11b (k11_ : (Int32 → Mem → Option (Int32 × Mem))) (x1 : Int32) (M : Mem) : Option (Int32 × Mem) :=
  if (M 0 26) ≤ 0 then (some ((M 0 35), M)) else (if (M 0 34) = 0 then ((f_X7_goes x1 M).bind fun (v5, M3) =>
  k11_ x1 M3) else ((f_X7_heard x1 M).bind fun (v8, M6) =>
  k11_ x1 M6))
def f_X7_wakes_11 : Nat → Int32 → Mem → Option (Int32 × Mem)
  | 0, _, _ => none
  | n + 1, x1, M => f_X7_wakes_11b (f_X7_wakes_11  n) x1 M
def f_X7_wakes_0 (x1 : Int32) (x2 : Int32) (M : Mem) : Option (Int32 × Mem) :=
  (stF M 0 26 (0 : Int32)).bind fun M1 =>
  (f_X7_ask x1 x2 M1).bind fun (v5, M3) =>
  f_X7_wakes_11 FU x1 M3
set_option maxRecDepth 100000 in
set_option maxHeartbeats 4000000 in
theorem w_X7_wakes_11b (C : gC p s m args c RX7 cX7_wakes 3 D (yty cI cZ) 30 (yE cI cZ) ad) (hr : meth.sig.returnType = (some .int)) (hq : meth.locks = false) {k11_ : (Int32 → Mem → Option (Int32 × Mem))} {Rs : Int32 × Mem} (hk11_ : ∀ {x1 : Int32} {M : Mem} {H : Heap} {locs : List Loc} {ls : Array Slot}, gWd D 30 (yE cI cZ) ad M s H locs → lv_has ls 3 [(0, .ref (ad 0)), (1, .int x1)] → k11_ x1 M = some Rs → W p l e (rmH 5) s m args below meth c H locs 0 0 (MQ below (qI D 30 (yE cI cZ) ad Rs) args s 0 0 (gA 30 ad)) (F0 m 11 ls [])) {x1 : Int32} (w : gWd D 30 (yE cI cZ) ad M s H locs) (hl : lv_has ls 3 [(0, .ref (ad 0)), (1, .int x1)]) (hf : f_X7_wakes_11b k11_ x1 M = some Rs) : W p l e (rmH 5) s m args below meth c H locs 0 0 (MQ below (qI D 30 (yE cI cZ) ad Rs) args s 0 0 (gA 30 ad)) (F0 m 11 ls []) := by
  unfold f_X7_wakes_11b at hf
  have hx := C.1.1
  have hb := C.1.2.1
  have hi := C.2.2.2.1
  refine lv_aload_n hx hb dX7_wakes_11 rfl (lv_at hl 0 rfl) ?_
  refine gt_X7_135 C w dX7_wakes_12 ?_
  refine lv_if_le (tgt := 41) hx hb dX7_wakes_15 (by decide) (fun c1 => ?_) (fun c1 => ?_)
  · replace hf := (if_pos c1).symm.trans hf
    refine lv_aload_n hx hb dX7_wakes_41 rfl (lv_at hl 0 rfl) ?_
    refine gt_X7_153 C w dX7_wakes_42 ?_
    exact g_iret C w hr hq hf dX7_wakes_45
  · replace hf := (if_neg c1).symm.trans hf
    refine lv_aload_n hx hb dX7_wakes_18 rfl (lv_at hl 0 rfl) ?_
    refine gt_X7_142 C w dX7_wakes_19 ?_
    refine lv_if_eq (tgt := 33) hx hb dX7_wakes_22 (by decide) (fun c2 => ?_) (fun c2 => ?_)
    · replace hf := (if_pos c2).symm.trans hf
      refine lv_aload_n hx hb dX7_wakes_33 rfl (lv_at hl 0 rfl) ?_
      refine lv_iload_n hx hb dX7_wakes_34 rfl (lv_at hl 1 rfl) ?_
      obtain ⟨⟨v5, M3⟩, e4, hf⟩ := bindS hf
      refine g_backV w (g_runV (rest := []) C w (c_X7_goes hi  e4) ob_X7 rfl gv_X7_150 md_X7_goes rfl (by omega) (by decide) hl.1 rfl (Nat.le_of_ble_eq_true rfl) dX7_wakes_35) (fun H locs w => ?_)
      refine lv_goto (tgt := 11) hx hb dX7_wakes_38 (by decide) ?_
      exact hk11_ w (lv_sub hl [0, 1] rfl) hf
    · replace hf := (if_neg c2).symm.trans hf
      refine lv_aload_n hx hb dX7_wakes_25 rfl (lv_at hl 0 rfl) ?_
      refine lv_iload_n hx hb dX7_wakes_26 rfl (lv_at hl 1 rfl) ?_
      obtain ⟨⟨v8, M6⟩, e7, hf⟩ := bindS hf
      refine g_backV w (g_runV (rest := []) C w (c_X7_heard hi  e7) ob_X7 rfl gv_X7_146 md_X7_heard rfl (by omega) (by decide) hl.1 rfl (Nat.le_of_ble_eq_true rfl) dX7_wakes_27) (fun H locs w => ?_)
      refine lv_goto (tgt := 11) hx hb dX7_wakes_30 (by decide) ?_
      exact hk11_ w (lv_sub hl [0, 1] rfl) hf
theorem w_X7_wakes_11 (C : gC p s m args c RX7 cX7_wakes 3 D (yty cI cZ) 30 (yE cI cZ) ad) (hr : meth.sig.returnType = (some .int)) (hq : meth.locks = false) {Rs : Int32 × Mem} : ∀ (n : Nat) {x1 : Int32} {M : Mem} {H : Heap} {locs : List Loc} {ls : Array Slot}, gWd D 30 (yE cI cZ) ad M s H locs → lv_has ls 3 [(0, .ref (ad 0)), (1, .int x1)] → f_X7_wakes_11  n x1 M = some Rs → W p l e (rmH 5) s m args below meth c H locs 0 0 (MQ below (qI D 30 (yE cI cZ) ad Rs) args s 0 0 (gA 30 ad)) (F0 m 11 ls []) := by
  intro n
  induction n with
  | zero =>
    intro x1 M H locs ls w hl hf
    cases hf
  | succ n ih =>
    intro x1 M H locs ls w hl hf
    exact w_X7_wakes_11b C hr hq ih  w hl hf
set_option maxRecDepth 100000 in
set_option maxHeartbeats 4000000 in
theorem w_X7_wakes_0 (C : gC p s m args c RX7 cX7_wakes 3 D (yty cI cZ) 30 (yE cI cZ) ad) (hr : meth.sig.returnType = (some .int)) (hq : meth.locks = false) {Rs : Int32 × Mem} {x1 : Int32} {x2 : Int32} (w : gWd D 30 (yE cI cZ) ad M s H locs) (hl : lv_has ls 3 [(0, .ref (ad 0)), (1, .int x1), (2, .int x2)]) (hf : f_X7_wakes_0  x1 x2 M = some Rs) : W p l e (rmH 5) s m args below meth c H locs 0 0 (MQ below (qI D 30 (yE cI cZ) ad Rs) args s 0 0 (gA 30 ad)) (F0 m 0 ls []) := by
  unfold f_X7_wakes_0 at hf
  have hx := C.1.1
  have hb := C.1.2.1
  have hi := C.2.2.2.1
  refine lv_aload_n hx hb dX7_wakes_0 rfl (lv_at hl 0 rfl) ?_
  refine lv_iconst (v := 0) hx hb dX7_wakes_1 (by decide) ?_
  obtain ⟨M1, e2, hf⟩ := bindS hf
  refine pt_X7_135 C w e2 dX7_wakes_2 (fun H locs w => ?_)
  refine lv_aload_n hx hb dX7_wakes_5 rfl (lv_at hl 0 rfl) ?_
  refine lv_iload_n hx hb dX7_wakes_6 rfl (lv_at hl 1 rfl) ?_
  refine lv_iload_n hx hb dX7_wakes_7 rfl (lv_at hl 2 rfl) ?_
  obtain ⟨⟨v5, M3⟩, e4, hf⟩ := bindS hf
  refine g_backV w (g_runV (rest := []) C w (c_X7_ask hi  e4) ob_X7 rfl gv_X7_138 md_X7_ask rfl (by omega) (by decide) hl.1 rfl (Nat.le_of_ble_eq_true rfl) dX7_wakes_8) (fun H locs w => ?_)
  exact w_X7_wakes_11 C hr hq FU w (lv_sub hl [0, 1] rfl) hf
abbrev f_X7_wakes (x1 : Int32) (x2 : Int32) (M : Mem) : Option (Int32 × Mem) := f_X7_wakes_0 x1 x2 M
theorem c_X7_wakes (hi : gInj 30 ad) {x1 : Int32} {x2 : Int32} {Rs : Int32 × Mem} (hf : f_X7_wakes x1 x2 M = some Rs) : gMet l yX7_wakes cX7_wakes 3 (some .int) 5 D (yty cI cZ) 30 (yE cI cZ) ad [.ref (ad 0), .int x1, .int x2] M (qI D 30 (yE cI cZ) ad Rs) := gMet_of (by decide) hi (yE_loc cI cZ) (Nat.le_of_ble_eq_true rfl) (fun p e s m args below meth c ls C hr hq w hl => w_X7_wakes_0 C hr hq  w hl hf)
end GENX
