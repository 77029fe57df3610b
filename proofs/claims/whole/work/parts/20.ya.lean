noncomputable section GENX
variable {p : Program} {l : Launch} {e : Env} {h : Nat} {R : Room} {s : State} {m : MethodId} {args : Array Value} {below : List Frame} {meth : Method} {c : Code} {H : Heap} {locs : List Loc} {cells slots : Nat} {Q : State → Prop} {cc : ByteArray} {nL pc : Nat} {ls : Array Slot} {rest : List Value} {D : va_G} {ad : Nat → Nat} {M M1 : Mem} {cI cT cS cZ : ClassId}
theorem kf_X7_101 : Cond.fieldLink RX7 101 (TX7 1).1 (TX7 1).2.1 (TX7 1).2.2.1 ∈ gW := gw_in 577 (by decide +kernel) rfl
theorem gt_X7_101 (C : gC p s m args c RX7 cc nL D (yty cI cZ) 30 (yE cI cZ) ad) (w : gWd D 30 (yE cI cZ) ad M s H locs) (hdg : decode cc pc = .ok (.getfield 101, 3)) (kk : W p l e R s m args below meth c H locs cells slots Q (F0 m (pc + 3) ls (.int (M 0 1) :: rest))) : W p l e R s m args below meth c H locs cells slots Q (F0 m pc ls (.ref (ad 0) :: rest)) := g_get C w ob_X7 rfl ginX7 1 (by decide) kf_X7_101 rfl hdg kk
theorem kc_X7_in : Cond.code yX7_in cX7_in 3 (some .boolean) ∈ gW := gw_in 711 (by decide +kernel) rfl
theorem ki_X7 : Cond.initialized RX7 ∈ gW := gw_in 46 (by decide +kernel) rfl
theorem md_X7_in : gMd yX7_in 3 := ⟨by decide +kernel, by decide +kernel, by decide +kernel⟩
theorem kt_X7_in : Cond.static yX7_in ∈ gW := gw_in 710 (by decide +kernel) rfl
theorem kl_X7_123 : Cond.methodLink RX7 123 yX7_in ∈ gW := gw_in 709 (by decide +kernel) rfl
theorem gs_X7_123 : gWs RX7 123 yX7_in cX7_in 3 (some .boolean) := ⟨kl_X7_123, kt_X7_in, ki_X7, kc_X7_in⟩
theorem kf_X7_47 : Cond.fieldLink RX7 47 (TX7 14).1 (TX7 14).2.1 (TX7 14).2.2.1 ∈ gW := gw_in 590 (by decide +kernel) rfl
theorem gt_X7_47 (C : gC p s m args c RX7 cc nL D (yty cI cZ) 30 (yE cI cZ) ad) (w : gWd D 30 (yE cI cZ) ad M s H locs) (hdg : decode cc pc = .ok (.getfield 47, 3)) (kk : W p l e R s m args below meth c H locs cells slots Q (F0 m (pc + 3) ls (.ref (ad 13) :: rest))) : W p l e R s m args below meth c H locs cells slots Q (F0 m pc ls (.ref (ad 0) :: rest)) := g_get C w ob_X7 rfl ginX7 14 (by decide) kf_X7_47 rfl hdg kk
theorem kf_X7_56 : Cond.fieldLink RX7 56 (TX7 22).1 (TX7 22).2.1 (TX7 22).2.2.1 ∈ gW := gw_in 598 (by decide +kernel) rfl
theorem gt_X7_56 (C : gC p s m args c RX7 cc nL D (yty cI cZ) 30 (yE cI cZ) ad) (w : gWd D 30 (yE cI cZ) ad M s H locs) (hdg : decode cc pc = .ok (.getfield 56, 3)) (kk : W p l e R s m args below meth c H locs cells slots Q (F0 m (pc + 3) ls (.ref (ad 16) :: rest))) : W p l e R s m args below meth c H locs cells slots Q (F0 m pc ls (.ref (ad 0) :: rest)) := g_get C w ob_X7 rfl ginX7 22 (by decide) kf_X7_56 rfl hdg kk
theorem kf_X7_44 : Cond.fieldLink RX7 44 (TX7 13).1 (TX7 13).2.1 (TX7 13).2.2.1 ∈ gW := gw_in 589 (by decide +kernel) rfl
theorem gt_X7_44 (C : gC p s m args c RX7 cc nL D (yty cI cZ) 30 (yE cI cZ) ad) (w : gWd D 30 (yE cI cZ) ad M s H locs) (hdg : decode cc pc = .ok (.getfield 44, 3)) (kk : W p l e R s m args below meth c H locs cells slots Q (F0 m (pc + 3) ls (.ref (ad 12) :: rest))) : W p l e R s m args below meth c H locs cells slots Q (F0 m pc ls (.ref (ad 0) :: rest)) := g_get C w ob_X7 rfl ginX7 13 (by decide) kf_X7_44 rfl hdg kk
theorem kf_X7_41 : Cond.fieldLink RX7 41 (TX7 12).1 (TX7 12).2.1 (TX7 12).2.2.1 ∈ gW := gw_in 588 (by decide +kernel) rfl
theorem gt_X7_41 (C : gC p s m args c RX7 cc nL D (yty cI cZ) 30 (yE cI cZ) ad) (w : gWd D 30 (yE cI cZ) ad M s H locs) (hdg : decode cc pc = .ok (.getfield 41, 3)) (kk : W p l e R s m args below meth c H locs cells slots Q (F0 m (pc + 3) ls (.ref (ad 11) :: rest))) : W p l e R s m args below meth c H locs cells slots Q (F0 m pc ls (.ref (ad 0) :: rest)) := g_get C w ob_X7 rfl ginX7 12 (by decide) kf_X7_41 rfl hdg kk
theorem kf_X7_26 : Cond.fieldLink RX7 26 (TX7 7).1 (TX7 7).2.1 (TX7 7).2.2.1 ∈ gW := gw_in 583 (by decide +kernel) rfl
theorem gt_X7_26 (C : gC p s m args c RX7 cc nL D (yty cI cZ) 30 (yE cI cZ) ad) (w : gWd D 30 (yE cI cZ) ad M s H locs) (hdg : decode cc pc = .ok (.getfield 26, 3)) (kk : W p l e R s m args below meth c H locs cells slots Q (F0 m (pc + 3) ls (.ref (ad 6) :: rest))) : W p l e R s m args below meth c H locs cells slots Q (F0 m pc ls (.ref (ad 0) :: rest)) := g_get C w ob_X7 rfl ginX7 7 (by decide) kf_X7_26 rfl hdg kk
theorem kf_X7_38 : Cond.fieldLink RX7 38 (TX7 11).1 (TX7 11).2.1 (TX7 11).2.2.1 ∈ gW := gw_in 587 (by decide +kernel) rfl
theorem gt_X7_38 (C : gC p s m args c RX7 cc nL D (yty cI cZ) 30 (yE cI cZ) ad) (w : gWd D 30 (yE cI cZ) ad M s H locs) (hdg : decode cc pc = .ok (.getfield 38, 3)) (kk : W p l e R s m args below meth c H locs cells slots Q (F0 m (pc + 3) ls (.ref (ad 10) :: rest))) : W p l e R s m args below meth c H locs cells slots Q (F0 m pc ls (.ref (ad 0) :: rest)) := g_get C w ob_X7 rfl ginX7 11 (by decide) kf_X7_38 rfl hdg kk
theorem kf_X7_20 : Cond.fieldLink RX7 20 (TX7 5).1 (TX7 5).2.1 (TX7 5).2.2.1 ∈ gW := gw_in 581 (by decide +kernel) rfl
theorem gt_X7_20 (C : gC p s m args c RX7 cc nL D (yty cI cZ) 30 (yE cI cZ) ad) (w : gWd D 30 (yE cI cZ) ad M s H locs) (hdg : decode cc pc = .ok (.getfield 20, 3)) (kk : W p l e R s m args below meth c H locs cells slots Q (F0 m (pc + 3) ls (.ref (ad 4) :: rest))) : W p l e R s m args below meth c H locs cells slots Q (F0 m pc ls (.ref (ad 0) :: rest)) := g_get C w ob_X7 rfl ginX7 5 (by decide) kf_X7_20 rfl hdg kk
theorem kf_X7_32 : Cond.fieldLink RX7 32 (TX7 9).1 (TX7 9).2.1 (TX7 9).2.2.1 ∈ gW := gw_in 585 (by decide +kernel) rfl
theorem gt_X7_32 (C : gC p s m args c RX7 cc nL D (yty cI cZ) 30 (yE cI cZ) ad) (w : gWd D 30 (yE cI cZ) ad M s H locs) (hdg : decode cc pc = .ok (.getfield 32, 3)) (kk : W p l e R s m args below meth c H locs cells slots Q (F0 m (pc + 3) ls (.ref (ad 8) :: rest))) : W p l e R s m args below meth c H locs cells slots Q (F0 m pc ls (.ref (ad 0) :: rest)) := g_get C w ob_X7 rfl ginX7 9 (by decide) kf_X7_32 rfl hdg kk
theorem pt_X7_101 {x : Int32} (C : gC p s m args c RX7 cc nL D (yty cI cZ) 30 (yE cI cZ) ad) (w : gWd D 30 (yE cI cZ) ad M s H locs) (e1 : stF M 0 1 x = some M1) (hdg : decode cc pc = .ok (.putfield 101, 3)) (kk : ∀ (H1 : Heap) (locs1 : List Loc), gWd D 30 (yE cI cZ) ad M1 s H1 locs1 → W p l e R s m args below meth c H1 locs1 cells slots Q (F0 m (pc + 3) ls rest)) : W p l e R s m args below meth c H locs cells slots Q (F0 m pc ls (.int x :: .ref (ad 0) :: rest)) := by
  cases e1
  exact g_put C w ob_X7 rfl ginX7 tyX7 tyX7_ok nmX7 1 (by decide) kf_X7_101 rfl rfl rfl (Nat.le_of_ble_eq_true rfl) (by simp [fX7, mset, upd]) hdg kk
theorem kf_X7_105 : Cond.fieldLink RX7 105 (TX7 15).1 (TX7 15).2.1 (TX7 15).2.2.1 ∈ gW := gw_in 591 (by decide +kernel) rfl
theorem pt_X7_105 {x : Int32} (C : gC p s m args c RX7 cc nL D (yty cI cZ) 30 (yE cI cZ) ad) (w : gWd D 30 (yE cI cZ) ad M s H locs) (e1 : stF M 0 15 x = some M1) (hdg : decode cc pc = .ok (.putfield 105, 3)) (kk : ∀ (H1 : Heap) (locs1 : List Loc), gWd D 30 (yE cI cZ) ad M1 s H1 locs1 → W p l e R s m args below meth c H1 locs1 cells slots Q (F0 m (pc + 3) ls rest)) : W p l e R s m args below meth c H locs cells slots Q (F0 m pc ls (.int x :: .ref (ad 0) :: rest)) := by
  cases e1
  exact g_put C w ob_X7 rfl ginX7 tyX7 tyX7_ok nmX7 15 (by decide) kf_X7_105 rfl rfl rfl (Nat.le_of_ble_eq_true rfl) (by simp [fX7, mset, upd]) hdg kk
theorem kf_X7_108 : Cond.fieldLink RX7 108 (TX7 16).1 (TX7 16).2.1 (TX7 16).2.2.1 ∈ gW := gw_in 592 (by decide +kernel) rfl
theorem pt_X7_108 {x : Int32} (C : gC p s m args c RX7 cc nL D (yty cI cZ) 30 (yE cI cZ) ad) (w : gWd D 30 (yE cI cZ) ad M s H locs) (e1 : stF M 0 16 x = some M1) (hdg : decode cc pc = .ok (.putfield 108, 3)) (kk : ∀ (H1 : Heap) (locs1 : List Loc), gWd D 30 (yE cI cZ) ad M1 s H1 locs1 → W p l e R s m args below meth c H1 locs1 cells slots Q (F0 m (pc + 3) ls rest)) : W p l e R s m args below meth c H locs cells slots Q (F0 m pc ls (.int x :: .ref (ad 0) :: rest)) := by
  cases e1
  exact g_put C w ob_X7 rfl ginX7 tyX7 tyX7_ok nmX7 16 (by decide) kf_X7_108 rfl rfl rfl (Nat.le_of_ble_eq_true rfl) (by simp [fX7, mset, upd]) hdg kk
theorem kf_X7_111 : Cond.fieldLink RX7 111 (TX7 17).1 (TX7 17).2.1 (TX7 17).2.2.1 ∈ gW := gw_in 593 (by decide +kernel) rfl
theorem pt_X7_111 {x : Int32} (C : gC p s m args c RX7 cc nL D (yty cI cZ) 30 (yE cI cZ) ad) (w : gWd D 30 (yE cI cZ) ad M s H locs) (e1 : stF M 0 17 x = some M1) (hdg : decode cc pc = .ok (.putfield 111, 3)) (kk : ∀ (H1 : Heap) (locs1 : List Loc), gWd D 30 (yE cI cZ) ad M1 s H1 locs1 → W p l e R s m args below meth c H1 locs1 cells slots Q (F0 m (pc + 3) ls rest)) : W p l e R s m args below meth c H locs cells slots Q (F0 m pc ls (.int x :: .ref (ad 0) :: rest)) := by
  cases e1
  exact g_put C w ob_X7 rfl ginX7 tyX7 tyX7_ok nmX7 17 (by decide) kf_X7_111 rfl rfl rfl (Nat.le_of_ble_eq_true rfl) (by simp [fX7, mset, upd]) hdg kk
theorem kf_X7_114 : Cond.fieldLink RX7 114 (TX7 19).1 (TX7 19).2.1 (TX7 19).2.2.1 ∈ gW := gw_in 595 (by decide +kernel) rfl
theorem pt_X7_114 {x : Int32} (C : gC p s m args c RX7 cc nL D (yty cI cZ) 30 (yE cI cZ) ad) (w : gWd D 30 (yE cI cZ) ad M s H locs) (e1 : stF M 0 19 x = some M1) (hdg : decode cc pc = .ok (.putfield 114, 3)) (kk : ∀ (H1 : Heap) (locs1 : List Loc), gWd D 30 (yE cI cZ) ad M1 s H1 locs1 → W p l e R s m args below meth c H1 locs1 cells slots Q (F0 m (pc + 3) ls rest)) : W p l e R s m args below meth c H locs cells slots Q (F0 m pc ls (.int x :: .ref (ad 0) :: rest)) := by
  cases e1
  exact g_put C w ob_X7 rfl ginX7 tyX7 tyX7_ok nmX7 19 (by decide) kf_X7_114 rfl rfl rfl (Nat.le_of_ble_eq_true rfl) (by simp [fX7, mset, upd]) hdg kk
theorem kf_X7_117 : Cond.fieldLink RX7 117 (TX7 21).1 (TX7 21).2.1 (TX7 21).2.2.1 ∈ gW := gw_in 597 (by decide +kernel) rfl
theorem pt_X7_117 {x : Int32} (C : gC p s m args c RX7 cc nL D (yty cI cZ) 30 (yE cI cZ) ad) (w : gWd D 30 (yE cI cZ) ad M s H locs) (e1 : stF M 0 21 x = some M1) (hdg : decode cc pc = .ok (.putfield 117, 3)) (kk : ∀ (H1 : Heap) (locs1 : List Loc), gWd D 30 (yE cI cZ) ad M1 s H1 locs1 → W p l e R s m args below meth c H1 locs1 cells slots Q (F0 m (pc + 3) ls rest)) : W p l e R s m args below meth c H locs cells slots Q (F0 m pc ls (.int x :: .ref (ad 0) :: rest)) := by
  cases e1
  exact g_put C w ob_X7 rfl ginX7 tyX7 tyX7_ok nmX7 21 (by decide) kf_X7_117 rfl rfl rfl (Nat.le_of_ble_eq_true rfl) (by simp [fX7, mset, upd]) hdg kk
theorem kf_X7_120 : Cond.fieldLink RX7 120 (TX7 0).1 (TX7 0).2.1 (TX7 0).2.2.1 ∈ gW := gw_in 576 (by decide +kernel) rfl
theorem gt_X7_120 (C : gC p s m args c RX7 cc nL D (yty cI cZ) 30 (yE cI cZ) ad) (w : gWd D 30 (yE cI cZ) ad M s H locs) (hdg : decode cc pc = .ok (.getfield 120, 3)) (kk : W p l e R s m args below meth c H locs cells slots Q (F0 m (pc + 3) ls (.int (M 0 0) :: rest))) : W p l e R s m args below meth c H locs cells slots Q (F0 m pc ls (.ref (ad 0) :: rest)) := g_get C w ob_X7 rfl ginX7 0 (by decide) kf_X7_120 rfl hdg kk
theorem kf_X7_7 : Cond.fieldLink RX7 7 (TX7 2).1 (TX7 2).2.1 (TX7 2).2.2.1 ∈ gW := gw_in 578 (by decide +kernel) rfl
theorem gt_X7_7 (C : gC p s m args c RX7 cc nL D (yty cI cZ) 30 (yE cI cZ) ad) (w : gWd D 30 (yE cI cZ) ad M s H locs) (hdg : decode cc pc = .ok (.getfield 7, 3)) (kk : W p l e R s m args below meth c H locs cells slots Q (F0 m (pc + 3) ls (.ref (ad 1) :: rest))) : W p l e R s m args below meth c H locs cells slots Q (F0 m pc ls (.ref (ad 0) :: rest)) := g_get C w ob_X7 rfl ginX7 2 (by decide) kf_X7_7 rfl hdg kk
theorem kf_X7_13 : Cond.fieldLink RX7 13 (TX7 3).1 (TX7 3).2.1 (TX7 3).2.2.1 ∈ gW := gw_in 579 (by decide +kernel) rfl
theorem gt_X7_13 (C : gC p s m args c RX7 cc nL D (yty cI cZ) 30 (yE cI cZ) ad) (w : gWd D 30 (yE cI cZ) ad M s H locs) (hdg : decode cc pc = .ok (.getfield 13, 3)) (kk : W p l e R s m args below meth c H locs cells slots Q (F0 m (pc + 3) ls (.ref (ad 2) :: rest))) : W p l e R s m args below meth c H locs cells slots Q (F0 m pc ls (.ref (ad 0) :: rest)) := g_get C w ob_X7 rfl ginX7 3 (by decide) kf_X7_13 rfl hdg kk
theorem kf_X7_16 : Cond.fieldLink RX7 16 (TX7 4).1 (TX7 4).2.1 (TX7 4).2.2.1 ∈ gW := gw_in 580 (by decide +kernel) rfl
theorem gt_X7_16 (C : gC p s m args c RX7 cc nL D (yty cI cZ) 30 (yE cI cZ) ad) (w : gWd D 30 (yE cI cZ) ad M s H locs) (hdg : decode cc pc = .ok (.getfield 16, 3)) (kk : W p l e R s m args below meth c H locs cells slots Q (F0 m (pc + 3) ls (.ref (ad 3) :: rest))) : W p l e R s m args below meth c H locs cells slots Q (F0 m pc ls (.ref (ad 0) :: rest)) := g_get C w ob_X7 rfl ginX7 4 (by decide) kf_X7_16 rfl hdg kk
theorem pt_X7_120 {x : Int32} (C : gC p s m args c RX7 cc nL D (yty cI cZ) 30 (yE cI cZ) ad) (w : gWd D 30 (yE cI cZ) ad M s H locs) (e1 : stF M 0 0 x = some M1) (hdg : decode cc pc = .ok (.putfield 120, 3)) (kk : ∀ (H1 : Heap) (locs1 : List Loc), gWd D 30 (yE cI cZ) ad M1 s H1 locs1 → W p l e R s m args below meth c H1 locs1 cells slots Q (F0 m (pc + 3) ls rest)) : W p l e R s m args below meth c H locs cells slots Q (F0 m pc ls (.int x :: .ref (ad 0) :: rest)) := by
  cases e1
  exact g_put C w ob_X7 rfl ginX7 tyX7 tyX7_ok nmX7 0 (by decide) kf_X7_120 rfl rfl rfl (Nat.le_of_ble_eq_true rfl) (by simp [fX7, mset, upd]) hdg kk
theorem kc_X7_isType : Cond.code yX7_isType cX7_isType 2 (some .boolean) ∈ gW := gw_in 715 (by decide +kernel) rfl
theorem md_X7_isType : gMd yX7_isType 1 := ⟨by decide +kernel, by decide +kernel, by decide +kernel⟩
theorem kl_X7_127 : Cond.methodLink RX7 127 yX7_isType ∈ gW := gw_in 712 (by decide +kernel) rfl
theorem kn_X7_isType : Cond.instanceMethod yX7_isType ∈ gW := gw_in 714 (by decide +kernel) rfl
theorem ks_X7_isType : Cond.selects RX7 yX7_isType yX7_isType ∈ gW := gw_in 22 (by decide +kernel) rfl
theorem gv_X7_127 : gWv RX7 127 yX7_isType cX7_isType 2 (some .boolean) := ⟨kl_X7_127, kn_X7_isType, ks_X7_isType, ki_X7, kc_X7_isType⟩
theorem kf_X7_23 : Cond.fieldLink RX7 23 (TX7 6).1 (TX7 6).2.1 (TX7 6).2.2.1 ∈ gW := gw_in 582 (by decide +kernel) rfl
theorem gt_X7_23 (C : gC p s m args c RX7 cc nL D (yty cI cZ) 30 (yE cI cZ) ad) (w : gWd D 30 (yE cI cZ) ad M s H locs) (hdg : decode cc pc = .ok (.getfield 23, 3)) (kk : W p l e R s m args below meth c H locs cells slots Q (F0 m (pc + 3) ls (.ref (ad 5) :: rest))) : W p l e R s m args below meth c H locs cells slots Q (F0 m pc ls (.ref (ad 0) :: rest)) := g_get C w ob_X7 rfl ginX7 6 (by decide) kf_X7_23 rfl hdg kk
theorem kf_X7_29 : Cond.fieldLink RX7 29 (TX7 8).1 (TX7 8).2.1 (TX7 8).2.2.1 ∈ gW := gw_in 584 (by decide +kernel) rfl
theorem gt_X7_29 (C : gC p s m args c RX7 cc nL D (yty cI cZ) 30 (yE cI cZ) ad) (w : gWd D 30 (yE cI cZ) ad M s H locs) (hdg : decode cc pc = .ok (.getfield 29, 3)) (kk : W p l e R s m args below meth c H locs cells slots Q (F0 m (pc + 3) ls (.ref (ad 7) :: rest))) : W p l e R s m args below meth c H locs cells slots Q (F0 m pc ls (.ref (ad 0) :: rest)) := g_get C w ob_X7 rfl ginX7 8 (by decide) kf_X7_29 rfl hdg kk
theorem kc_X7_isLine : Cond.code yX7_isLine cX7_isLine 4 (some .boolean) ∈ gW := gw_in 730 (by decide +kernel) rfl
theorem md_X7_isLine : gMd yX7_isLine 4 := ⟨by decide +kernel, by decide +kernel, by decide +kernel⟩
theorem kt_X7_isLine : Cond.static yX7_isLine ∈ gW := gw_in 729 (by decide +kernel) rfl
theorem kl_X7_131 : Cond.methodLink RX7 131 yX7_isLine ∈ gW := gw_in 728 (by decide +kernel) rfl
theorem gs_X7_131 : gWs RX7 131 yX7_isLine cX7_isLine 4 (some .boolean) := ⟨kl_X7_131, kt_X7_isLine, ki_X7, kc_X7_isLine⟩
theorem kf_X7_35 : Cond.fieldLink RX7 35 (TX7 10).1 (TX7 10).2.1 (TX7 10).2.2.1 ∈ gW := gw_in 586 (by decide +kernel) rfl
theorem gt_X7_35 (C : gC p s m args c RX7 cc nL D (yty cI cZ) 30 (yE cI cZ) ad) (w : gWd D 30 (yE cI cZ) ad M s H locs) (hdg : decode cc pc = .ok (.getfield 35, 3)) (kk : W p l e R s m args below meth c H locs cells slots Q (F0 m (pc + 3) ls (.ref (ad 9) :: rest))) : W p l e R s m args below meth c H locs cells slots Q (F0 m pc ls (.ref (ad 0) :: rest)) := g_get C w ob_X7 rfl ginX7 10 (by decide) kf_X7_35 rfl hdg kk
def f_X7_in_0 (x0 : Int32) (x1 : Int32) (x2 : Int32) (M : Mem) : Option (Int32 × Mem) :=
  if x0 < x1 then (rtZ (0 : Int32) M) else (if x2 < x0 then (rtZ (0 : Int32) M) else (rtZ (1 : Int32) M))
set_option maxRecDepth 100000 in
set_option maxHeartbeats 4000000 in
theorem w_X7_in_0 (C : gC p s m args c RX7 cX7_in 3 D (yty cI cZ) 30 (yE cI cZ) ad) (hr : meth.sig.returnType = (some .boolean)) (hq : meth.locks = false) {Rs : Int32 × Mem} {x0 : Int32} {x1 : Int32} {x2 : Int32} (w : gWd D 30 (yE cI cZ) ad M s H locs) (hl : lv_has ls 3 [(0, .int x0), (1, .int x1), (2, .int x2)]) (hf : f_X7_in_0  x0 x1 x2 M = some Rs) : W p l e (rmH 0) s m args below meth c H locs 0 0 (MQ below (qI D 30 (yE cI cZ) ad Rs) args s 0 0 (gA 30 ad)) (F0 m 0 ls []) := by
  unfold f_X7_in_0 at hf
  have hx := C.1.1
  have hb := C.1.2.1
  have hi := C.2.2.2.1
  refine lv_iload_n hx hb dX7_in_0 rfl (lv_at hl 0 rfl) ?_
  refine lv_iload_n hx hb dX7_in_1 rfl (lv_at hl 1 rfl) ?_
  refine lv_icmp_lt (tgt := 14) hx hb dX7_in_2 (by decide) (fun c1 => ?_) (fun c1 => ?_)
  · replace hf := (if_pos c1).symm.trans hf
    refine lv_iconst (v := 0) hx hb dX7_in_14 (by decide) ?_
    exact g_zret C w hr hq hf dX7_in_15
  · replace hf := (if_neg c1).symm.trans hf
    refine lv_iload_n hx hb dX7_in_5 rfl (lv_at hl 0 rfl) ?_
    refine lv_iload_n hx hb dX7_in_6 rfl (lv_at hl 2 rfl) ?_
    refine lv_icmp_gt (tgt := 14) hx hb dX7_in_7 (by decide) (fun c2 => ?_) (fun c2 => ?_)
    · replace hf := (if_pos c2).symm.trans hf
      refine lv_iconst (v := 0) hx hb dX7_in_14 (by decide) ?_
      exact g_zret C w hr hq hf dX7_in_15
    · replace hf := (if_neg c2).symm.trans hf
      refine lv_iconst (v := 1) hx hb dX7_in_10 (by decide) ?_
      refine lv_goto (tgt := 15) hx hb dX7_in_11 (by decide) ?_
      exact g_zret C w hr hq hf dX7_in_15
abbrev f_X7_in (x0 : Int32) (x1 : Int32) (x2 : Int32) (M : Mem) : Option (Int32 × Mem) := f_X7_in_0 x0 x1 x2 M
theorem c_X7_in (hi : gInj 30 ad) {x0 : Int32} {x1 : Int32} {x2 : Int32} {Rs : Int32 × Mem} (hf : f_X7_in x0 x1 x2 M = some Rs) : gMet l yX7_in cX7_in 3 (some .boolean) 0 D (yty cI cZ) 30 (yE cI cZ) ad [.int x0, .int x1, .int x2] M (qI D 30 (yE cI cZ) ad Rs) := gMet_of (by decide) hi (yE_loc cI cZ) (Nat.le_of_ble_eq_true rfl) (fun p e s m args below meth c ls C hr hq w hl => w_X7_in_0 C hr hq  w hl hf)
def f_X7_isType_0 (x1 : Int32) (M : Mem) : Option (Int32 × Mem) :=
  (f_X7_in x1 (0 : Int32) ((M 0 1) - (1 : Int32)) M).bind fun (v3, M1) =>
  rtZ v3 M1
set_option maxRecDepth 100000 in
set_option maxHeartbeats 4000000 in
theorem w_X7_isType_0 (C : gC p s m args c RX7 cX7_isType 2 D (yty cI cZ) 30 (yE cI cZ) ad) (hr : meth.sig.returnType = (some .boolean)) (hq : meth.locks = false) {Rs : Int32 × Mem} {x1 : Int32} (w : gWd D 30 (yE cI cZ) ad M s H locs) (hl : lv_has ls 2 [(0, .ref (ad 0)), (1, .int x1)]) (hf : f_X7_isType_0  x1 M = some Rs) : W p l e (rmH 1) s m args below meth c H locs 0 0 (MQ below (qI D 30 (yE cI cZ) ad Rs) args s 0 0 (gA 30 ad)) (F0 m 0 ls []) := by
  unfold f_X7_isType_0 at hf
  have hx := C.1.1
  have hb := C.1.2.1
  have hi := C.2.2.2.1
  refine lv_iload_n hx hb dX7_isType_0 rfl (lv_at hl 1 rfl) ?_
  refine lv_iconst (v := 0) hx hb dX7_isType_1 (by decide) ?_
  refine lv_aload_n hx hb dX7_isType_2 rfl (lv_at hl 0 rfl) ?_
  refine gt_X7_101 C w dX7_isType_3 ?_
  refine lv_iconst (v := 1) hx hb dX7_isType_6 (by decide) ?_
  refine lv_isub hx hb dX7_isType_7 ?_
  obtain ⟨⟨v3, M1⟩, e2, hf⟩ := bindS hf
  refine g_backI w (g_runS (rest := []) C w (c_X7_in hi  e2) gs_X7_123 md_X7_in rfl (by omega) (by decide) hl.1 rfl (Nat.le_of_ble_eq_true rfl) dX7_isType_8) (fun H locs w => ?_)
  exact g_zret C w hr hq hf dX7_isType_11
abbrev f_X7_isType (x1 : Int32) (M : Mem) : Option (Int32 × Mem) := f_X7_isType_0 x1 M
theorem c_X7_isType (hi : gInj 30 ad) {x1 : Int32} {Rs : Int32 × Mem} (hf : f_X7_isType x1 M = some Rs) : gMet l yX7_isType cX7_isType 2 (some .boolean) 1 D (yty cI cZ) 30 (yE cI cZ) ad [.ref (ad 0), .int x1] M (qI D 30 (yE cI cZ) ad Rs) := gMet_of (by decide) hi (yE_loc cI cZ) (Nat.le_of_ble_eq_true rfl) (fun p e s m args below meth c ls C hr hq w hl => w_X7_isType_0 C hr hq  w hl hf)
def f_X7_isSession_0 (x0 : Int32) (M : Mem) : Option (Int32 × Mem) :=
  (f_X7_in x0 (0 : Int32) (3 : Int32) M).bind fun (v3, M1) =>
  rtZ v3 M1
set_option maxRecDepth 100000 in
set_option maxHeartbeats 4000000 in
theorem w_X7_isSession_0 (C : gC p s m args c RX7 cX7_isSession 1 D (yty cI cZ) 30 (yE cI cZ) ad) (hr : meth.sig.returnType = (some .boolean)) (hq : meth.locks = false) {Rs : Int32 × Mem} {x0 : Int32} (w : gWd D 30 (yE cI cZ) ad M s H locs) (hl : lv_has ls 1 [(0, .int x0)]) (hf : f_X7_isSession_0  x0 M = some Rs) : W p l e (rmH 1) s m args below meth c H locs 0 0 (MQ below (qI D 30 (yE cI cZ) ad Rs) args s 0 0 (gA 30 ad)) (F0 m 0 ls []) := by
  unfold f_X7_isSession_0 at hf
  have hx := C.1.1
  have hb := C.1.2.1
  have hi := C.2.2.2.1
  refine lv_iload_n hx hb dX7_isSession_0 rfl (lv_at hl 0 rfl) ?_
  refine lv_iconst (v := 0) hx hb dX7_isSession_1 (by decide) ?_
  refine lv_iconst (v := 3) hx hb dX7_isSession_2 (by decide) ?_
  obtain ⟨⟨v3, M1⟩, e2, hf⟩ := bindS hf
  refine g_backI w (g_runS (rest := []) C w (c_X7_in hi  e2) gs_X7_123 md_X7_in rfl (by omega) (by decide) hl.1 rfl (Nat.le_of_ble_eq_true rfl) dX7_isSession_3) (fun H locs w => ?_)
  exact g_zret C w hr hq hf dX7_isSession_6
abbrev f_X7_isSession (x0 : Int32) (M : Mem) : Option (Int32 × Mem) := f_X7_isSession_0 x0 M
theorem c_X7_isSession (hi : gInj 30 ad) {x0 : Int32} {Rs : Int32 × Mem} (hf : f_X7_isSession x0 M = some Rs) : gMet l yX7_isSession cX7_isSession 1 (some .boolean) 1 D (yty cI cZ) 30 (yE cI cZ) ad [.int x0] M (qI D 30 (yE cI cZ) ad Rs) := gMet_of (by decide) hi (yE_loc cI cZ) (Nat.le_of_ble_eq_true rfl) (fun p e s m args below meth c ls C hr hq w hl => w_X7_isSession_0 C hr hq  w hl hf)
def f_X7_begins_131b (k131_ : (Int32 → Mem → Option (Int32 × Mem))) (x1 : Int32) (M : Mem) : Option (Int32 × Mem) :=
  if (4 : Int32) ≤ x1 then (some ((0 : Int32), M)) else ((stI M 13 4 x1 (1000 : Int32)).bind fun M2 =>
  (stI M2 16 4 x1 (0 : Int32)).bind fun M4 =>
  k131_ (x1 + 1) M4)
def f_X7_begins_131 : Nat → Int32 → Mem → Option (Int32 × Mem)
  | 0, _, _ => none
  | n + 1, x1, M => f_X7_begins_131b (f_X7_begins_131  n) x1 M
def f_X7_begins_110b (k110_ : (Int32 → Mem → Option (Int32 × Mem))) (x1 : Int32) (M : Mem) : Option (Int32 × Mem) :=
  if (64 : Int32) ≤ x1 then (f_X7_begins_131 FU (0 : Int32) M) else ((stI M 12 64 x1 (0 : Int32)).bind fun M2 =>
  k110_ (x1 + 1) M2)
def f_X7_begins_110 : Nat → Int32 → Mem → Option (Int32 × Mem)
  | 0, _, _ => none
  | n + 1, x1, M => f_X7_begins_110b (f_X7_begins_110  n) x1 M
def f_X7_begins_88b (k88_ : (Int32 → Mem → Option (Int32 × Mem))) (x1 : Int32) (M : Mem) : Option (Int32 × Mem) :=
  if (400 : Int32) ≤ x1 then (f_X7_begins_110 FU (0 : Int32) M) else ((stI M 11 400 x1 (0 : Int32)).bind fun M2 =>
  k88_ (x1 + 1) M2)
def f_X7_begins_88 : Nat → Int32 → Mem → Option (Int32 × Mem)
  | 0, _, _ => none
  | n + 1, x1, M => f_X7_begins_88b (f_X7_begins_88  n) x1 M
def f_X7_begins_60b (k60_ : (Int32 → Mem → Option (Int32 × Mem))) (x1 : Int32) (M : Mem) : Option (Int32 × Mem) :=
  if (80 : Int32) ≤ x1 then (f_X7_begins_88 FU (0 : Int32) M) else ((stI M 6 80 x1 (0 : Int32)).bind fun M2 =>
  (stI M2 10 80 x1 (0 : Int32)).bind fun M4 =>
  k60_ (x1 + 1) M4)
def f_X7_begins_60 : Nat → Int32 → Mem → Option (Int32 × Mem)
  | 0, _, _ => none
  | n + 1, x1, M => f_X7_begins_60b (f_X7_begins_60  n) x1 M
def f_X7_begins_32b (k32_ : (Int32 → Mem → Option (Int32 × Mem))) (x1 : Int32) (M : Mem) : Option (Int32 × Mem) :=
  if (16 : Int32) ≤ x1 then (f_X7_begins_60 FU (0 : Int32) M) else ((stI M 4 16 x1 (0 : Int32)).bind fun M2 =>
  (stI M2 8 16 x1 (0 : Int32)).bind fun M4 =>
  k32_ (x1 + 1) M4)
def f_X7_begins_32 : Nat → Int32 → Mem → Option (Int32 × Mem)
  | 0, _, _ => none
  | n + 1, x1, M => f_X7_begins_32b (f_X7_begins_32  n) x1 M
def f_X7_begins_0 (M : Mem) : Option (Int32 × Mem) :=
  (stF M 0 1 (0 : Int32)).bind fun M1 =>
  (stF M1 0 15 (0 : Int32)).bind fun M3 =>
  (stF M3 0 16 (0 : Int32)).bind fun M5 =>
  (stF M5 0 17 (0 : Int32)).bind fun M7 =>
  (stF M7 0 19 (0 : Int32)).bind fun M9 =>
  (stF M9 0 21 (0 : Int32)).bind fun M11 =>
  f_X7_begins_32 FU (0 : Int32) M11
set_option maxRecDepth 100000 in
set_option maxHeartbeats 4000000 in
theorem w_X7_begins_131b (C : gC p s m args c RX7 cX7_begins 2 D (yty cI cZ) 30 (yE cI cZ) ad) (hr : meth.sig.returnType = none) (hq : meth.locks = false) {k131_ : (Int32 → Mem → Option (Int32 × Mem))} {Rs : Int32 × Mem} (hk131_ : ∀ {x1 : Int32} {M : Mem} {H : Heap} {locs : List Loc} {ls : Array Slot}, gWd D 30 (yE cI cZ) ad M s H locs → lv_has ls 2 [(0, .ref (ad 0)), (1, .int x1)] → k131_ x1 M = some Rs → W p l e (rmH 0) s m args below meth c H locs 0 0 (MQ below (qV D 30 (yE cI cZ) ad Rs) args s 0 0 (gA 30 ad)) (F0 m 131 ls [])) {x1 : Int32} (w : gWd D 30 (yE cI cZ) ad M s H locs) (hl : lv_has ls 2 [(0, .ref (ad 0)), (1, .int x1)]) (hf : f_X7_begins_131b k131_ x1 M = some Rs) : W p l e (rmH 0) s m args below meth c H locs 0 0 (MQ below (qV D 30 (yE cI cZ) ad Rs) args s 0 0 (gA 30 ad)) (F0 m 131 ls []) := by
  unfold f_X7_begins_131b at hf
  have hx := C.1.1
  have hb := C.1.2.1
  have hi := C.2.2.2.1
  refine lv_iload_n hx hb dX7_begins_131 rfl (lv_at hl 1 rfl) ?_
  refine lv_iconst (v := 4) hx hb dX7_begins_132 (by decide) ?_
  refine lv_icmp_ge (tgt := 158) hx hb dX7_begins_133 (by decide) (fun c1 => ?_) (fun c1 => ?_)
  · replace hf := (if_pos c1).symm.trans hf
    exact g_vret C w hr hq hf dX7_begins_158
  · replace hf := (if_neg c1).symm.trans hf
    refine lv_aload_n hx hb dX7_begins_136 rfl (lv_at hl 0 rfl) ?_
    refine gt_X7_47 C w dX7_begins_137 ?_
    refine lv_iload_n hx hb dX7_begins_140 rfl (lv_at hl 1 rfl) ?_
    refine lv_sipush (v := 1000) hx hb dX7_begins_141 (by decide) ?_
    obtain ⟨M2, e3, hf⟩ := bindS hf
    refine g_iast C w y_a13 e3 dX7_begins_144 (fun H locs w => ?_)
    refine lv_aload_n hx hb dX7_begins_145 rfl (lv_at hl 0 rfl) ?_
    refine gt_X7_56 C w dX7_begins_146 ?_
    refine lv_iload_n hx hb dX7_begins_149 rfl (lv_at hl 1 rfl) ?_
    refine lv_iconst (v := 0) hx hb dX7_begins_150 (by decide) ?_
    obtain ⟨M4, e5, hf⟩ := bindS hf
    refine g_iast C w y_a16 e5 dX7_begins_151 (fun H locs w => ?_)
    refine lv_iinc (v := (x1 + 1)) (lv' := [(1, .int (x1 + 1)), (0, .ref (ad 0))]) hx hb dX7_begins_152 hl (k := 1) rfl rfl (by decide) rfl (fun ls hl => ?_)
    refine lv_goto (tgt := 131) hx hb dX7_begins_155 (by decide) ?_
    exact hk131_ w (lv_sub hl [1, 0] rfl) hf
theorem w_X7_begins_131 (C : gC p s m args c RX7 cX7_begins 2 D (yty cI cZ) 30 (yE cI cZ) ad) (hr : meth.sig.returnType = none) (hq : meth.locks = false) {Rs : Int32 × Mem} : ∀ (n : Nat) {x1 : Int32} {M : Mem} {H : Heap} {locs : List Loc} {ls : Array Slot}, gWd D 30 (yE cI cZ) ad M s H locs → lv_has ls 2 [(0, .ref (ad 0)), (1, .int x1)] → f_X7_begins_131  n x1 M = some Rs → W p l e (rmH 0) s m args below meth c H locs 0 0 (MQ below (qV D 30 (yE cI cZ) ad Rs) args s 0 0 (gA 30 ad)) (F0 m 131 ls []) := by
  intro n
  induction n with
  | zero =>
    intro x1 M H locs ls w hl hf
    cases hf
  | succ n ih =>
    intro x1 M H locs ls w hl hf
    exact w_X7_begins_131b C hr hq ih  w hl hf
set_option maxRecDepth 100000 in
set_option maxHeartbeats 4000000 in
theorem w_X7_begins_110b (C : gC p s m args c RX7 cX7_begins 2 D (yty cI cZ) 30 (yE cI cZ) ad) (hr : meth.sig.returnType = none) (hq : meth.locks = false) {k110_ : (Int32 → Mem → Option (Int32 × Mem))} {Rs : Int32 × Mem} (hk110_ : ∀ {x1 : Int32} {M : Mem} {H : Heap} {locs : List Loc} {ls : Array Slot}, gWd D 30 (yE cI cZ) ad M s H locs → lv_has ls 2 [(0, .ref (ad 0)), (1, .int x1)] → k110_ x1 M = some Rs → W p l e (rmH 0) s m args below meth c H locs 0 0 (MQ below (qV D 30 (yE cI cZ) ad Rs) args s 0 0 (gA 30 ad)) (F0 m 110 ls [])) {x1 : Int32} (w : gWd D 30 (yE cI cZ) ad M s H locs) (hl : lv_has ls 2 [(0, .ref (ad 0)), (1, .int x1)]) (hf : f_X7_begins_110b k110_ x1 M = some Rs) : W p l e (rmH 0) s m args below meth c H locs 0 0 (MQ below (qV D 30 (yE cI cZ) ad Rs) args s 0 0 (gA 30 ad)) (F0 m 110 ls []) := by
  unfold f_X7_begins_110b at hf
  have hx := C.1.1
  have hb := C.1.2.1
  have hi := C.2.2.2.1
  refine lv_iload_n hx hb dX7_begins_110 rfl (lv_at hl 1 rfl) ?_
  refine lv_bipush (v := 64) hx hb dX7_begins_111 (by decide) ?_
  refine lv_icmp_ge (tgt := 129) hx hb dX7_begins_113 (by decide) (fun c1 => ?_) (fun c1 => ?_)
  · replace hf := (if_pos c1).symm.trans hf
    refine lv_iconst (v := 0) hx hb dX7_begins_129 (by decide) ?_
    refine lv_istore_n (lv' := [(1, .int (0 : Int32)), (0, .ref (ad 0))]) hx hb dX7_begins_130 rfl hl (by decide) rfl (fun ls hl => ?_)
    exact w_X7_begins_131 C hr hq FU w (lv_sub hl [1, 0] rfl) hf
  · replace hf := (if_neg c1).symm.trans hf
    refine lv_aload_n hx hb dX7_begins_116 rfl (lv_at hl 0 rfl) ?_
    refine gt_X7_44 C w dX7_begins_117 ?_
    refine lv_iload_n hx hb dX7_begins_120 rfl (lv_at hl 1 rfl) ?_
    refine lv_iconst (v := 0) hx hb dX7_begins_121 (by decide) ?_
    obtain ⟨M2, e3, hf⟩ := bindS hf
    refine g_iast C w y_a12 e3 dX7_begins_122 (fun H locs w => ?_)
    refine lv_iinc (v := (x1 + 1)) (lv' := [(1, .int (x1 + 1)), (0, .ref (ad 0))]) hx hb dX7_begins_123 hl (k := 1) rfl rfl (by decide) rfl (fun ls hl => ?_)
    refine lv_goto (tgt := 110) hx hb dX7_begins_126 (by decide) ?_
    exact hk110_ w (lv_sub hl [1, 0] rfl) hf
theorem w_X7_begins_110 (C : gC p s m args c RX7 cX7_begins 2 D (yty cI cZ) 30 (yE cI cZ) ad) (hr : meth.sig.returnType = none) (hq : meth.locks = false) {Rs : Int32 × Mem} : ∀ (n : Nat) {x1 : Int32} {M : Mem} {H : Heap} {locs : List Loc} {ls : Array Slot}, gWd D 30 (yE cI cZ) ad M s H locs → lv_has ls 2 [(0, .ref (ad 0)), (1, .int x1)] → f_X7_begins_110  n x1 M = some Rs → W p l e (rmH 0) s m args below meth c H locs 0 0 (MQ below (qV D 30 (yE cI cZ) ad Rs) args s 0 0 (gA 30 ad)) (F0 m 110 ls []) := by
  intro n
  induction n with
  | zero =>
    intro x1 M H locs ls w hl hf
    cases hf
  | succ n ih =>
    intro x1 M H locs ls w hl hf
    exact w_X7_begins_110b C hr hq ih  w hl hf
set_option maxRecDepth 100000 in
set_option maxHeartbeats 4000000 in
theorem w_X7_begins_88b (C : gC p s m args c RX7 cX7_begins 2 D (yty cI cZ) 30 (yE cI cZ) ad) (hr : meth.sig.returnType = none) (hq : meth.locks = false) {k88_ : (Int32 → Mem → Option (Int32 × Mem))} {Rs : Int32 × Mem} (hk88_ : ∀ {x1 : Int32} {M : Mem} {H : Heap} {locs : List Loc} {ls : Array Slot}, gWd D 30 (yE cI cZ) ad M s H locs → lv_has ls 2 [(0, .ref (ad 0)), (1, .int x1)] → k88_ x1 M = some Rs → W p l e (rmH 0) s m args below meth c H locs 0 0 (MQ below (qV D 30 (yE cI cZ) ad Rs) args s 0 0 (gA 30 ad)) (F0 m 88 ls [])) {x1 : Int32} (w : gWd D 30 (yE cI cZ) ad M s H locs) (hl : lv_has ls 2 [(0, .ref (ad 0)), (1, .int x1)]) (hf : f_X7_begins_88b k88_ x1 M = some Rs) : W p l e (rmH 0) s m args below meth c H locs 0 0 (MQ below (qV D 30 (yE cI cZ) ad Rs) args s 0 0 (gA 30 ad)) (F0 m 88 ls []) := by
  unfold f_X7_begins_88b at hf
  have hx := C.1.1
  have hb := C.1.2.1
  have hi := C.2.2.2.1
  refine lv_iload_n hx hb dX7_begins_88 rfl (lv_at hl 1 rfl) ?_
  refine lv_sipush (v := 400) hx hb dX7_begins_89 (by decide) ?_
  refine lv_icmp_ge (tgt := 108) hx hb dX7_begins_92 (by decide) (fun c1 => ?_) (fun c1 => ?_)
  · replace hf := (if_pos c1).symm.trans hf
    refine lv_iconst (v := 0) hx hb dX7_begins_108 (by decide) ?_
    refine lv_istore_n (lv' := [(1, .int (0 : Int32)), (0, .ref (ad 0))]) hx hb dX7_begins_109 rfl hl (by decide) rfl (fun ls hl => ?_)
    exact w_X7_begins_110 C hr hq FU w (lv_sub hl [1, 0] rfl) hf
  · replace hf := (if_neg c1).symm.trans hf
    refine lv_aload_n hx hb dX7_begins_95 rfl (lv_at hl 0 rfl) ?_
    refine gt_X7_41 C w dX7_begins_96 ?_
    refine lv_iload_n hx hb dX7_begins_99 rfl (lv_at hl 1 rfl) ?_
    refine lv_iconst (v := 0) hx hb dX7_begins_100 (by decide) ?_
    obtain ⟨M2, e3, hf⟩ := bindS hf
    refine g_iast C w y_a11 e3 dX7_begins_101 (fun H locs w => ?_)
    refine lv_iinc (v := (x1 + 1)) (lv' := [(1, .int (x1 + 1)), (0, .ref (ad 0))]) hx hb dX7_begins_102 hl (k := 1) rfl rfl (by decide) rfl (fun ls hl => ?_)
    refine lv_goto (tgt := 88) hx hb dX7_begins_105 (by decide) ?_
    exact hk88_ w (lv_sub hl [1, 0] rfl) hf
theorem w_X7_begins_88 (C : gC p s m args c RX7 cX7_begins 2 D (yty cI cZ) 30 (yE cI cZ) ad) (hr : meth.sig.returnType = none) (hq : meth.locks = false) {Rs : Int32 × Mem} : ∀ (n : Nat) {x1 : Int32} {M : Mem} {H : Heap} {locs : List Loc} {ls : Array Slot}, gWd D 30 (yE cI cZ) ad M s H locs → lv_has ls 2 [(0, .ref (ad 0)), (1, .int x1)] → f_X7_begins_88  n x1 M = some Rs → W p l e (rmH 0) s m args below meth c H locs 0 0 (MQ below (qV D 30 (yE cI cZ) ad Rs) args s 0 0 (gA 30 ad)) (F0 m 88 ls []) := by
  intro n
  induction n with
  | zero =>
    intro x1 M H locs ls w hl hf
    cases hf
  | succ n ih =>
    intro x1 M H locs ls w hl hf
    exact w_X7_begins_88b C hr hq ih  w hl hf
set_option maxRecDepth 100000 in
set_option maxHeartbeats 4000000 in
theorem w_X7_begins_60b (C : gC p s m args c RX7 cX7_begins 2 D (yty cI cZ) 30 (yE cI cZ) ad) (hr : meth.sig.returnType = none) (hq : meth.locks = false) {k60_ : (Int32 → Mem → Option (Int32 × Mem))} {Rs : Int32 × Mem} (hk60_ : ∀ {x1 : Int32} {M : Mem} {H : Heap} {locs : List Loc} {ls : Array Slot}, gWd D 30 (yE cI cZ) ad M s H locs → lv_has ls 2 [(0, .ref (ad 0)), (1, .int x1)] → k60_ x1 M = some Rs → W p l e (rmH 0) s m args below meth c H locs 0 0 (MQ below (qV D 30 (yE cI cZ) ad Rs) args s 0 0 (gA 30 ad)) (F0 m 60 ls [])) {x1 : Int32} (w : gWd D 30 (yE cI cZ) ad M s H locs) (hl : lv_has ls 2 [(0, .ref (ad 0)), (1, .int x1)]) (hf : f_X7_begins_60b k60_ x1 M = some Rs) : W p l e (rmH 0) s m args below meth c H locs 0 0 (MQ below (qV D 30 (yE cI cZ) ad Rs) args s 0 0 (gA 30 ad)) (F0 m 60 ls []) := by
  unfold f_X7_begins_60b at hf
  have hx := C.1.1
  have hb := C.1.2.1
  have hi := C.2.2.2.1
  refine lv_iload_n hx hb dX7_begins_60 rfl (lv_at hl 1 rfl) ?_
  refine lv_bipush (v := 80) hx hb dX7_begins_61 (by decide) ?_
  refine lv_icmp_ge (tgt := 86) hx hb dX7_begins_63 (by decide) (fun c1 => ?_) (fun c1 => ?_)
  · replace hf := (if_pos c1).symm.trans hf
    refine lv_iconst (v := 0) hx hb dX7_begins_86 (by decide) ?_
    refine lv_istore_n (lv' := [(1, .int (0 : Int32)), (0, .ref (ad 0))]) hx hb dX7_begins_87 rfl hl (by decide) rfl (fun ls hl => ?_)
    exact w_X7_begins_88 C hr hq FU w (lv_sub hl [1, 0] rfl) hf
  · replace hf := (if_neg c1).symm.trans hf
    refine lv_aload_n hx hb dX7_begins_66 rfl (lv_at hl 0 rfl) ?_
    refine gt_X7_26 C w dX7_begins_67 ?_
    refine lv_iload_n hx hb dX7_begins_70 rfl (lv_at hl 1 rfl) ?_
    refine lv_iconst (v := 0) hx hb dX7_begins_71 (by decide) ?_
    obtain ⟨M2, e3, hf⟩ := bindS hf
    refine g_iast C w y_a6 e3 dX7_begins_72 (fun H locs w => ?_)
    refine lv_aload_n hx hb dX7_begins_73 rfl (lv_at hl 0 rfl) ?_
    refine gt_X7_38 C w dX7_begins_74 ?_
    refine lv_iload_n hx hb dX7_begins_77 rfl (lv_at hl 1 rfl) ?_
    refine lv_iconst (v := 0) hx hb dX7_begins_78 (by decide) ?_
    obtain ⟨M4, e5, hf⟩ := bindS hf
    refine g_iast C w y_a10 e5 dX7_begins_79 (fun H locs w => ?_)
    refine lv_iinc (v := (x1 + 1)) (lv' := [(1, .int (x1 + 1)), (0, .ref (ad 0))]) hx hb dX7_begins_80 hl (k := 1) rfl rfl (by decide) rfl (fun ls hl => ?_)
    refine lv_goto (tgt := 60) hx hb dX7_begins_83 (by decide) ?_
    exact hk60_ w (lv_sub hl [1, 0] rfl) hf
theorem w_X7_begins_60 (C : gC p s m args c RX7 cX7_begins 2 D (yty cI cZ) 30 (yE cI cZ) ad) (hr : meth.sig.returnType = none) (hq : meth.locks = false) {Rs : Int32 × Mem} : ∀ (n : Nat) {x1 : Int32} {M : Mem} {H : Heap} {locs : List Loc} {ls : Array Slot}, gWd D 30 (yE cI cZ) ad M s H locs → lv_has ls 2 [(0, .ref (ad 0)), (1, .int x1)] → f_X7_begins_60  n x1 M = some Rs → W p l e (rmH 0) s m args below meth c H locs 0 0 (MQ below (qV D 30 (yE cI cZ) ad Rs) args s 0 0 (gA 30 ad)) (F0 m 60 ls []) := by
  intro n
  induction n with
  | zero =>
    intro x1 M H locs ls w hl hf
    cases hf
  | succ n ih =>
    intro x1 M H locs ls w hl hf
    exact w_X7_begins_60b C hr hq ih  w hl hf
set_option maxRecDepth 100000 in
set_option maxHeartbeats 4000000 in
theorem w_X7_begins_32b (C : gC p s m args c RX7 cX7_begins 2 D (yty cI cZ) 30 (yE cI cZ) ad) (hr : meth.sig.returnType = none) (hq : meth.locks = false) {k32_ : (Int32 → Mem → Option (Int32 × Mem))} {Rs : Int32 × Mem} (hk32_ : ∀ {x1 : Int32} {M : Mem} {H : Heap} {locs : List Loc} {ls : Array Slot}, gWd D 30 (yE cI cZ) ad M s H locs → lv_has ls 2 [(0, .ref (ad 0)), (1, .int x1)] → k32_ x1 M = some Rs → W p l e (rmH 0) s m args below meth c H locs 0 0 (MQ below (qV D 30 (yE cI cZ) ad Rs) args s 0 0 (gA 30 ad)) (F0 m 32 ls [])) {x1 : Int32} (w : gWd D 30 (yE cI cZ) ad M s H locs) (hl : lv_has ls 2 [(0, .ref (ad 0)), (1, .int x1)]) (hf : f_X7_begins_32b k32_ x1 M = some Rs) : W p l e (rmH 0) s m args below meth c H locs 0 0 (MQ below (qV D 30 (yE cI cZ) ad Rs) args s 0 0 (gA 30 ad)) (F0 m 32 ls []) := by
  unfold f_X7_begins_32b at hf
  have hx := C.1.1
  have hb := C.1.2.1
  have hi := C.2.2.2.1
  refine lv_iload_n hx hb dX7_begins_32 rfl (lv_at hl 1 rfl) ?_
  refine lv_bipush (v := 16) hx hb dX7_begins_33 (by decide) ?_
  refine lv_icmp_ge (tgt := 58) hx hb dX7_begins_35 (by decide) (fun c1 => ?_) (fun c1 => ?_)
  · replace hf := (if_pos c1).symm.trans hf
    refine lv_iconst (v := 0) hx hb dX7_begins_58 (by decide) ?_
    refine lv_istore_n (lv' := [(1, .int (0 : Int32)), (0, .ref (ad 0))]) hx hb dX7_begins_59 rfl hl (by decide) rfl (fun ls hl => ?_)
    exact w_X7_begins_60 C hr hq FU w (lv_sub hl [1, 0] rfl) hf
  · replace hf := (if_neg c1).symm.trans hf
    refine lv_aload_n hx hb dX7_begins_38 rfl (lv_at hl 0 rfl) ?_
    refine gt_X7_20 C w dX7_begins_39 ?_
    refine lv_iload_n hx hb dX7_begins_42 rfl (lv_at hl 1 rfl) ?_
    refine lv_iconst (v := 0) hx hb dX7_begins_43 (by decide) ?_
    obtain ⟨M2, e3, hf⟩ := bindS hf
    refine g_iast C w y_a4 e3 dX7_begins_44 (fun H locs w => ?_)
    refine lv_aload_n hx hb dX7_begins_45 rfl (lv_at hl 0 rfl) ?_
    refine gt_X7_32 C w dX7_begins_46 ?_
    refine lv_iload_n hx hb dX7_begins_49 rfl (lv_at hl 1 rfl) ?_
    refine lv_iconst (v := 0) hx hb dX7_begins_50 (by decide) ?_
    obtain ⟨M4, e5, hf⟩ := bindS hf
    refine g_iast C w y_a8 e5 dX7_begins_51 (fun H locs w => ?_)
    refine lv_iinc (v := (x1 + 1)) (lv' := [(1, .int (x1 + 1)), (0, .ref (ad 0))]) hx hb dX7_begins_52 hl (k := 1) rfl rfl (by decide) rfl (fun ls hl => ?_)
    refine lv_goto (tgt := 32) hx hb dX7_begins_55 (by decide) ?_
    exact hk32_ w (lv_sub hl [1, 0] rfl) hf
theorem w_X7_begins_32 (C : gC p s m args c RX7 cX7_begins 2 D (yty cI cZ) 30 (yE cI cZ) ad) (hr : meth.sig.returnType = none) (hq : meth.locks = false) {Rs : Int32 × Mem} : ∀ (n : Nat) {x1 : Int32} {M : Mem} {H : Heap} {locs : List Loc} {ls : Array Slot}, gWd D 30 (yE cI cZ) ad M s H locs → lv_has ls 2 [(0, .ref (ad 0)), (1, .int x1)] → f_X7_begins_32  n x1 M = some Rs → W p l e (rmH 0) s m args below meth c H locs 0 0 (MQ below (qV D 30 (yE cI cZ) ad Rs) args s 0 0 (gA 30 ad)) (F0 m 32 ls []) := by
  intro n
  induction n with
  | zero =>
    intro x1 M H locs ls w hl hf
    cases hf
  | succ n ih =>
    intro x1 M H locs ls w hl hf
    exact w_X7_begins_32b C hr hq ih  w hl hf
set_option maxRecDepth 100000 in
set_option maxHeartbeats 4000000 in
theorem w_X7_begins_0 (C : gC p s m args c RX7 cX7_begins 2 D (yty cI cZ) 30 (yE cI cZ) ad) (hr : meth.sig.returnType = none) (hq : meth.locks = false) {Rs : Int32 × Mem}  (w : gWd D 30 (yE cI cZ) ad M s H locs) (hl : lv_has ls 2 [(0, .ref (ad 0))]) (hf : f_X7_begins_0  M = some Rs) : W p l e (rmH 0) s m args below meth c H locs 0 0 (MQ below (qV D 30 (yE cI cZ) ad Rs) args s 0 0 (gA 30 ad)) (F0 m 0 ls []) := by
  unfold f_X7_begins_0 at hf
  have hx := C.1.1
  have hb := C.1.2.1
  have hi := C.2.2.2.1
  refine lv_aload_n hx hb dX7_begins_0 rfl (lv_at hl 0 rfl) ?_
  refine lv_iconst (v := 0) hx hb dX7_begins_1 (by decide) ?_
  obtain ⟨M1, e2, hf⟩ := bindS hf
  refine pt_X7_101 C w e2 dX7_begins_2 (fun H locs w => ?_)
  refine lv_aload_n hx hb dX7_begins_5 rfl (lv_at hl 0 rfl) ?_
  refine lv_iconst (v := 0) hx hb dX7_begins_6 (by decide) ?_
  obtain ⟨M3, e4, hf⟩ := bindS hf
  refine pt_X7_105 C w e4 dX7_begins_7 (fun H locs w => ?_)
  refine lv_aload_n hx hb dX7_begins_10 rfl (lv_at hl 0 rfl) ?_
  refine lv_iconst (v := 0) hx hb dX7_begins_11 (by decide) ?_
  obtain ⟨M5, e6, hf⟩ := bindS hf
  refine pt_X7_108 C w e6 dX7_begins_12 (fun H locs w => ?_)
  refine lv_aload_n hx hb dX7_begins_15 rfl (lv_at hl 0 rfl) ?_
  refine lv_iconst (v := 0) hx hb dX7_begins_16 (by decide) ?_
  obtain ⟨M7, e8, hf⟩ := bindS hf
  refine pt_X7_111 C w e8 dX7_begins_17 (fun H locs w => ?_)
  refine lv_aload_n hx hb dX7_begins_20 rfl (lv_at hl 0 rfl) ?_
  refine lv_iconst (v := 0) hx hb dX7_begins_21 (by decide) ?_
  obtain ⟨M9, e10, hf⟩ := bindS hf
  refine pt_X7_114 C w e10 dX7_begins_22 (fun H locs w => ?_)
  refine lv_aload_n hx hb dX7_begins_25 rfl (lv_at hl 0 rfl) ?_
  refine lv_iconst (v := 0) hx hb dX7_begins_26 (by decide) ?_
  obtain ⟨M11, e12, hf⟩ := bindS hf
  refine pt_X7_117 C w e12 dX7_begins_27 (fun H locs w => ?_)
  refine lv_iconst (v := 0) hx hb dX7_begins_30 (by decide) ?_
  refine lv_istore_n (lv' := [(1, .int (0 : Int32)), (0, .ref (ad 0))]) hx hb dX7_begins_31 rfl hl (by decide) rfl (fun ls hl => ?_)
  exact w_X7_begins_32 C hr hq FU w (lv_sub hl [1, 0] rfl) hf
abbrev f_X7_begins (M : Mem) : Option (Int32 × Mem) := f_X7_begins_0 M
theorem c_X7_begins (hi : gInj 30 ad)  {Rs : Int32 × Mem} (hf : f_X7_begins M = some Rs) : gMet l yX7_begins cX7_begins 2 none 0 D (yty cI cZ) 30 (yE cI cZ) ad [.ref (ad 0)] M (qV D 30 (yE cI cZ) ad Rs) := gMet_of (by decide) hi (yE_loc cI cZ) (Nat.le_of_ble_eq_true rfl) (fun p e s m args below meth c ls C hr hq w hl => w_X7_begins_0 C hr hq  w hl hf)
def f_X7_thrown_0 (M : Mem) : Option (Int32 × Mem) :=
  some ((M 0 0), M)
set_option maxRecDepth 100000 in
set_option maxHeartbeats 4000000 in
theorem w_X7_thrown_0 (C : gC p s m args c RX7 cX7_thrown 1 D (yty cI cZ) 30 (yE cI cZ) ad) (hr : meth.sig.returnType = (some .int)) (hq : meth.locks = false) {Rs : Int32 × Mem}  (w : gWd D 30 (yE cI cZ) ad M s H locs) (hl : lv_has ls 1 [(0, .ref (ad 0))]) (hf : f_X7_thrown_0  M = some Rs) : W p l e (rmH 0) s m args below meth c H locs 0 0 (MQ below (qI D 30 (yE cI cZ) ad Rs) args s 0 0 (gA 30 ad)) (F0 m 0 ls []) := by
  unfold f_X7_thrown_0 at hf
  have hx := C.1.1
  have hb := C.1.2.1
  have hi := C.2.2.2.1
  refine lv_aload_n hx hb dX7_thrown_0 rfl (lv_at hl 0 rfl) ?_
  refine gt_X7_120 C w dX7_thrown_1 ?_
  exact g_iret C w hr hq hf dX7_thrown_4
abbrev f_X7_thrown (M : Mem) : Option (Int32 × Mem) := f_X7_thrown_0 M
theorem c_X7_thrown (hi : gInj 30 ad)  {Rs : Int32 × Mem} (hf : f_X7_thrown M = some Rs) : gMet l yX7_thrown cX7_thrown 1 (some .int) 0 D (yty cI cZ) 30 (yE cI cZ) ad [.ref (ad 0)] M (qI D 30 (yE cI cZ) ad Rs) := gMet_of (by decide) hi (yE_loc cI cZ) (Nat.le_of_ble_eq_true rfl) (fun p e s m args below meth c ls C hr hq w hl => w_X7_thrown_0 C hr hq  w hl hf)
def f_X7_type_67 (x1 : Int32) (x2 : Int32) (x3 : Int32) (M : Mem) : Option (Int32 × Mem) :=
  if (M 0 1) = (16 : Int32) then (some ((-104 : Int32), M)) else ((stI M 1 16 (M 0 1) x1).bind fun M2 =>
  (stI M2 2 16 (M2 0 1) x2).bind fun M4 =>
  (stZ M4 3 16 (M4 0 1) x3).bind fun M6 =>
  (stF M6 0 1 ((M6 0 1) + (1 : Int32))).bind fun M8 =>
  some (((M8 0 1) - (1 : Int32)), M8))
def f_X7_type_46 (x1 : Int32) (x2 : Int32) (x3 : Int32) (M : Mem) : Option (Int32 × Mem) :=
  if x3 = 0 then (f_X7_type_67 x1 x2 x3 M) else (if x2 = (-1 : Int32) then (f_X7_type_67 x1 x2 x3 M) else ((ldI M 3 16 x2).bind fun v3 =>
  if v3 = 0 then (some ((-103 : Int32), M)) else (f_X7_type_67 x1 x2 x3 M)))
def f_X7_type_0 (x1 : Int32) (x2 : Int32) (x3 : Int32) (M : Mem) : Option (Int32 × Mem) :=
  (stF M 0 0 (0 : Int32)).bind fun M1 =>
  (f_X7_in x1 (0 : Int32) (2 : Int32) M1).bind fun (v5, M3) =>
  if v5 = 0 then (some ((-102 : Int32), M3)) else (if x2 = (-1 : Int32) then (f_X7_type_46 x1 x2 x3 M3) else (if x1 = 0 then ((f_X7_isType x2 M3).bind fun (v11, M9) =>
  if v11 = 0 then (some ((-101 : Int32), M9)) else ((ldI M9 1 16 x2).bind fun v13 =>
  if v13 = 0 then (f_X7_type_46 x1 x2 x3 M9) else (some ((-101 : Int32), M9)))) else (some ((-101 : Int32), M3))))
set_option maxRecDepth 100000 in
set_option maxHeartbeats 4000000 in
theorem w_X7_type_67 (C : gC p s m args c RX7 cX7_type 4 D (yty cI cZ) 30 (yE cI cZ) ad) (hr : meth.sig.returnType = (some .int)) (hq : meth.locks = false) {Rs : Int32 × Mem} {x1 : Int32} {x2 : Int32} {x3 : Int32} (w : gWd D 30 (yE cI cZ) ad M s H locs) (hl : lv_has ls 4 [(0, .ref (ad 0)), (1, .int x1), (2, .int x2), (3, .int x3)]) (hf : f_X7_type_67  x1 x2 x3 M = some Rs) : W p l e (rmH 2) s m args below meth c H locs 0 0 (MQ below (qI D 30 (yE cI cZ) ad Rs) args s 0 0 (gA 30 ad)) (F0 m 67 ls []) := by
  unfold f_X7_type_67 at hf
  have hx := C.1.1
  have hb := C.1.2.1
  have hi := C.2.2.2.1
  refine lv_aload_n hx hb dX7_type_67 rfl (lv_at hl 0 rfl) ?_
  refine gt_X7_101 C w dX7_type_68 ?_
  refine lv_bipush (v := 16) hx hb dX7_type_71 (by decide) ?_
  refine lv_icmp_ne (tgt := 79) hx hb dX7_type_73 (by decide) (fun c1 => ?_) (fun c1 => ?_)
  · replace hf := (if_neg c1).symm.trans hf
    refine lv_aload_n hx hb dX7_type_79 rfl (lv_at hl 0 rfl) ?_
    refine gt_X7_7 C w dX7_type_80 ?_
    refine lv_aload_n hx hb dX7_type_83 rfl (lv_at hl 0 rfl) ?_
    refine gt_X7_101 C w dX7_type_84 ?_
    refine lv_iload_n hx hb dX7_type_87 rfl (lv_at hl 1 rfl) ?_
    obtain ⟨M2, e3, hf⟩ := bindS hf
    refine g_iast C w y_a1 e3 dX7_type_88 (fun H locs w => ?_)
    refine lv_aload_n hx hb dX7_type_89 rfl (lv_at hl 0 rfl) ?_
    refine gt_X7_13 C w dX7_type_90 ?_
    refine lv_aload_n hx hb dX7_type_93 rfl (lv_at hl 0 rfl) ?_
    refine gt_X7_101 C w dX7_type_94 ?_
    refine lv_iload_n hx hb dX7_type_97 rfl (lv_at hl 2 rfl) ?_
    obtain ⟨M4, e5, hf⟩ := bindS hf
    refine g_iast C w y_a2 e5 dX7_type_98 (fun H locs w => ?_)
    refine lv_aload_n hx hb dX7_type_99 rfl (lv_at hl 0 rfl) ?_
    refine gt_X7_16 C w dX7_type_100 ?_
    refine lv_aload_n hx hb dX7_type_103 rfl (lv_at hl 0 rfl) ?_
    refine gt_X7_101 C w dX7_type_104 ?_
    refine lv_iload_n hx hb dX7_type_107 rfl (lv_at hl 3 rfl) ?_
    obtain ⟨M6, e7, hf⟩ := bindS hf
    refine g_zast C w y_a3 e7 dX7_type_108 (fun H locs w => ?_)
    refine lv_aload_n hx hb dX7_type_109 rfl (lv_at hl 0 rfl) ?_
    refine lv_dup hx hb dX7_type_110 rfl ?_
    refine gt_X7_101 C w dX7_type_111 ?_
    refine lv_iconst (v := 1) hx hb dX7_type_114 (by decide) ?_
    refine lv_iadd hx hb dX7_type_115 ?_
    obtain ⟨M8, e9, hf⟩ := bindS hf
    refine pt_X7_101 C w e9 dX7_type_116 (fun H locs w => ?_)
    refine lv_aload_n hx hb dX7_type_119 rfl (lv_at hl 0 rfl) ?_
    refine gt_X7_101 C w dX7_type_120 ?_
    refine lv_iconst (v := 1) hx hb dX7_type_123 (by decide) ?_
    refine lv_isub hx hb dX7_type_124 ?_
    exact g_iret C w hr hq hf dX7_type_125
  · replace hf := (if_pos c1).symm.trans hf
    refine lv_bipush (v := -104) hx hb dX7_type_76 (by decide) ?_
    exact g_iret C w hr hq hf dX7_type_78
set_option maxRecDepth 100000 in
set_option maxHeartbeats 4000000 in
theorem w_X7_type_46 (C : gC p s m args c RX7 cX7_type 4 D (yty cI cZ) 30 (yE cI cZ) ad) (hr : meth.sig.returnType = (some .int)) (hq : meth.locks = false) {Rs : Int32 × Mem} {x1 : Int32} {x2 : Int32} {x3 : Int32} (w : gWd D 30 (yE cI cZ) ad M s H locs) (hl : lv_has ls 4 [(0, .ref (ad 0)), (1, .int x1), (2, .int x2), (3, .int x3)]) (hf : f_X7_type_46  x1 x2 x3 M = some Rs) : W p l e (rmH 2) s m args below meth c H locs 0 0 (MQ below (qI D 30 (yE cI cZ) ad Rs) args s 0 0 (gA 30 ad)) (F0 m 46 ls []) := by
  unfold f_X7_type_46 at hf
  have hx := C.1.1
  have hb := C.1.2.1
  have hi := C.2.2.2.1
  refine lv_iload_n hx hb dX7_type_46 rfl (lv_at hl 3 rfl) ?_
  refine lv_if_eq (tgt := 67) hx hb dX7_type_47 (by decide) (fun c1 => ?_) (fun c1 => ?_)
  · replace hf := (if_pos c1).symm.trans hf
    exact w_X7_type_67 C hr hq w (lv_sub hl [0, 1, 2, 3] rfl) hf
  · replace hf := (if_neg c1).symm.trans hf
    refine lv_iload_n hx hb dX7_type_50 rfl (lv_at hl 2 rfl) ?_
    refine lv_iconst (v := -1) hx hb dX7_type_51 (by decide) ?_
    refine lv_icmp_eq (tgt := 67) hx hb dX7_type_52 (by decide) (fun c2 => ?_) (fun c2 => ?_)
    · replace hf := (if_pos c2).symm.trans hf
      exact w_X7_type_67 C hr hq w (lv_sub hl [0, 1, 2, 3] rfl) hf
    · replace hf := (if_neg c2).symm.trans hf
      refine lv_aload_n hx hb dX7_type_55 rfl (lv_at hl 0 rfl) ?_
      refine gt_X7_16 C w dX7_type_56 ?_
      refine lv_iload_n hx hb dX7_type_59 rfl (lv_at hl 2 rfl) ?_
      obtain ⟨v3, e4, hf⟩ := bindS hf
      refine g_zald C w y_a3 e4 dX7_type_60 ?_
      refine lv_if_ne (tgt := 67) hx hb dX7_type_61 (by decide) (fun c5 => ?_) (fun c5 => ?_)
      · replace hf := (if_neg c5).symm.trans hf
        exact w_X7_type_67 C hr hq w (lv_sub hl [0, 1, 2, 3] rfl) hf
      · replace hf := (if_pos c5).symm.trans hf
        refine lv_bipush (v := -103) hx hb dX7_type_64 (by decide) ?_
        exact g_iret C w hr hq hf dX7_type_66
set_option maxRecDepth 100000 in
set_option maxHeartbeats 4000000 in
theorem w_X7_type_0 (C : gC p s m args c RX7 cX7_type 4 D (yty cI cZ) 30 (yE cI cZ) ad) (hr : meth.sig.returnType = (some .int)) (hq : meth.locks = false) {Rs : Int32 × Mem} {x1 : Int32} {x2 : Int32} {x3 : Int32} (w : gWd D 30 (yE cI cZ) ad M s H locs) (hl : lv_has ls 4 [(0, .ref (ad 0)), (1, .int x1), (2, .int x2), (3, .int x3)]) (hf : f_X7_type_0  x1 x2 x3 M = some Rs) : W p l e (rmH 2) s m args below meth c H locs 0 0 (MQ below (qI D 30 (yE cI cZ) ad Rs) args s 0 0 (gA 30 ad)) (F0 m 0 ls []) := by
  unfold f_X7_type_0 at hf
  have hx := C.1.1
  have hb := C.1.2.1
  have hi := C.2.2.2.1
  refine lv_aload_n hx hb dX7_type_0 rfl (lv_at hl 0 rfl) ?_
  refine lv_iconst (v := 0) hx hb dX7_type_1 (by decide) ?_
  obtain ⟨M1, e2, hf⟩ := bindS hf
  refine pt_X7_120 C w e2 dX7_type_2 (fun H locs w => ?_)
  refine lv_iload_n hx hb dX7_type_5 rfl (lv_at hl 1 rfl) ?_
  refine lv_iconst (v := 0) hx hb dX7_type_6 (by decide) ?_
  refine lv_iconst (v := 2) hx hb dX7_type_7 (by decide) ?_
  obtain ⟨⟨v5, M3⟩, e4, hf⟩ := bindS hf
  refine g_backI w (g_runS (rest := []) C w (c_X7_in hi  e4) gs_X7_123 md_X7_in rfl (by omega) (by decide) hl.1 rfl (Nat.le_of_ble_eq_true rfl) dX7_type_8) (fun H locs w => ?_)
  refine lv_if_ne (tgt := 17) hx hb dX7_type_11 (by decide) (fun c6 => ?_) (fun c6 => ?_)
  · replace hf := (if_neg c6).symm.trans hf
    refine lv_iload_n hx hb dX7_type_17 rfl (lv_at hl 2 rfl) ?_
    refine lv_iconst (v := -1) hx hb dX7_type_18 (by decide) ?_
    refine lv_icmp_eq (tgt := 46) hx hb dX7_type_19 (by decide) (fun c7 => ?_) (fun c7 => ?_)
    · replace hf := (if_pos c7).symm.trans hf
      exact w_X7_type_46 C hr hq w (lv_sub hl [0, 1, 2, 3] rfl) hf
    · replace hf := (if_neg c7).symm.trans hf
      refine lv_iload_n hx hb dX7_type_22 rfl (lv_at hl 1 rfl) ?_
      refine lv_if_ne (tgt := 43) hx hb dX7_type_23 (by decide) (fun c8 => ?_) (fun c8 => ?_)
      · replace hf := (if_neg c8).symm.trans hf
        refine lv_bipush (v := -101) hx hb dX7_type_43 (by decide) ?_
        exact g_iret C w hr hq hf dX7_type_45
      · replace hf := (if_pos c8).symm.trans hf
        refine lv_aload_n hx hb dX7_type_26 rfl (lv_at hl 0 rfl) ?_
        refine lv_iload_n hx hb dX7_type_27 rfl (lv_at hl 2 rfl) ?_
        obtain ⟨⟨v11, M9⟩, e10, hf⟩ := bindS hf
        refine g_backI w (g_runV (rest := []) C w (c_X7_isType hi  e10) ob_X7 rfl gv_X7_127 md_X7_isType rfl (by omega) (by decide) hl.1 rfl (Nat.le_of_ble_eq_true rfl) dX7_type_28) (fun H locs w => ?_)
        refine lv_if_eq (tgt := 43) hx hb dX7_type_31 (by decide) (fun c12 => ?_) (fun c12 => ?_)
        · replace hf := (if_pos c12).symm.trans hf
          refine lv_bipush (v := -101) hx hb dX7_type_43 (by decide) ?_
          exact g_iret C w hr hq hf dX7_type_45
        · replace hf := (if_neg c12).symm.trans hf
          refine lv_aload_n hx hb dX7_type_34 rfl (lv_at hl 0 rfl) ?_
          refine gt_X7_7 C w dX7_type_35 ?_
          refine lv_iload_n hx hb dX7_type_38 rfl (lv_at hl 2 rfl) ?_
          obtain ⟨v13, e14, hf⟩ := bindS hf
          refine g_iald C w y_a1 e14 dX7_type_39 ?_
          refine lv_if_eq (tgt := 46) hx hb dX7_type_40 (by decide) (fun c15 => ?_) (fun c15 => ?_)
          · replace hf := (if_pos c15).symm.trans hf
            exact w_X7_type_46 C hr hq w (lv_sub hl [0, 1, 2, 3] rfl) hf
          · replace hf := (if_neg c15).symm.trans hf
            refine lv_bipush (v := -101) hx hb dX7_type_43 (by decide) ?_
            exact g_iret C w hr hq hf dX7_type_45
  · replace hf := (if_pos c6).symm.trans hf
    refine lv_bipush (v := -102) hx hb dX7_type_14 (by decide) ?_
    exact g_iret C w hr hq hf dX7_type_16
abbrev f_X7_type (x1 : Int32) (x2 : Int32) (x3 : Int32) (M : Mem) : Option (Int32 × Mem) := f_X7_type_0 x1 x2 x3 M
theorem c_X7_type (hi : gInj 30 ad) {x1 : Int32} {x2 : Int32} {x3 : Int32} {Rs : Int32 × Mem} (hf : f_X7_type x1 x2 x3 M = some Rs) : gMet l yX7_type cX7_type 4 (some .int) 2 D (yty cI cZ) 30 (yE cI cZ) ad [.ref (ad 0), .int x1, .int x2, .int x3] M (qI D 30 (yE cI cZ) ad Rs) := gMet_of (by decide) hi (yE_loc cI cZ) (Nat.le_of_ble_eq_true rfl) (fun p e s m args below meth c ls C hr hq w hl => w_X7_type_0 C hr hq  w hl hf)
def f_X7_face_100 (k65_ : (Int32 → Int32 → Int32 → Int32 → Mem → Option (Int32 × Mem))) (x1 : Int32) (x2 : Int32) (x4 : Int32) (s0 : Int32) (M : Mem) : Option (Int32 × Mem) :=
  k65_ x1 x2 s0 (x4 + 1) M
def f_X7_face_95 (k65_ : (Int32 → Int32 → Int32 → Int32 → Mem → Option (Int32 × Mem))) (x1 : Int32) (x2 : Int32) (x4 : Int32) (M : Mem) : Option (Int32 × Mem) :=
  f_X7_face_100 k65_ x1 x2 x4 (1 : Int32) M
def f_X7_face_65b (k65_ : (Int32 → Int32 → Int32 → Int32 → Mem → Option (Int32 × Mem))) (x1 : Int32) (x2 : Int32) (x3 : Int32) (x4 : Int32) (M : Mem) : Option (Int32 × Mem) :=
  (ldI M 4 16 x1).bind fun v1 =>
  if v1 ≤ x4 then (if x3 = 0 then ((ldI M 4 16 x1).bind fun v5 =>
  if v5 = (3 : Int32) then (some ((-104 : Int32), M)) else ((ldI M 4 16 x1).bind fun v8 =>
  (stI M 5 48 (((3 : Int32) * x1) + v8) x2).bind fun M10 =>
  (ldI M10 4 16 x1).bind fun v12 =>
  (stI M10 4 16 x1 (v12 + (1 : Int32))).bind fun M14 =>
  (ldI M14 4 16 x1).bind fun v16 =>
  some (v16, M14))) else (some ((-103 : Int32), M))) else (if x3 = 0 then ((ldI M 5 48 (((3 : Int32) * x1) + x4)).bind fun v19 =>
  if v19 = x2 then (f_X7_face_95 k65_ x1 x2 x4 M) else (f_X7_face_100 k65_ x1 x2 x4 (0 : Int32) M)) else (f_X7_face_95 k65_ x1 x2 x4 M))
def f_X7_face_65 : Nat → Int32 → Int32 → Int32 → Int32 → Mem → Option (Int32 × Mem)
  | 0, _, _, _, _, _ => none
  | n + 1, x1, x2, x3, x4, M => f_X7_face_65b (f_X7_face_65  n) x1 x2 x3 x4 M
def f_X7_face_61 (x1 : Int32) (x2 : Int32) (s0 : Int32) (M : Mem) : Option (Int32 × Mem) :=
  f_X7_face_65 FU x1 x2 s0 (0 : Int32) M
def f_X7_face_60 (x1 : Int32) (x2 : Int32) (M : Mem) : Option (Int32 × Mem) :=
  f_X7_face_61 x1 x2 (0 : Int32) M
def f_X7_face_0 (x1 : Int32) (x2 : Int32) (M : Mem) : Option (Int32 × Mem) :=
  (stF M 0 0 (0 : Int32)).bind fun M1 =>
  (f_X7_isType x1 M1).bind fun (v5, M3) =>
  if v5 = 0 then (some ((-101 : Int32), M3)) else ((f_X7_isType x2 M3).bind fun (v9, M7) =>
  if v9 = 0 then (some ((-101 : Int32), M7)) else ((ldI M7 1 16 x2).bind fun v11 =>
  if v11 = 0 then (some ((-101 : Int32), M7)) else (if x2 < x1 then ((ldI M7 3 16 x1).bind fun v15 =>
  if v15 = 0 then (f_X7_face_60 x1 x2 M7) else ((ldI M7 3 16 x2).bind fun v18 =>
  if v18 = 0 then (f_X7_face_61 x1 x2 (1 : Int32) M7) else (f_X7_face_60 x1 x2 M7))) else (some ((-101 : Int32), M7)))))
set_option maxRecDepth 100000 in
set_option maxHeartbeats 4000000 in
theorem w_X7_face_100 (C : gC p s m args c RX7 cX7_face 5 D (yty cI cZ) 30 (yE cI cZ) ad) (hr : meth.sig.returnType = (some .int)) (hq : meth.locks = false) {k65_ : (Int32 → Int32 → Int32 → Int32 → Mem → Option (Int32 × Mem))} {Rs : Int32 × Mem} (hk65_ : ∀ {x1 : Int32} {x2 : Int32} {x3 : Int32} {x4 : Int32} {M : Mem} {H : Heap} {locs : List Loc} {ls : Array Slot}, gWd D 30 (yE cI cZ) ad M s H locs → lv_has ls 5 [(0, .ref (ad 0)), (1, .int x1), (2, .int x2), (3, .int x3), (4, .int x4)] → k65_ x1 x2 x3 x4 M = some Rs → W p l e (rmH 2) s m args below meth c H locs 0 0 (MQ below (qI D 30 (yE cI cZ) ad Rs) args s 0 0 (gA 30 ad)) (F0 m 65 ls [])) {x1 : Int32} {x2 : Int32} {x4 : Int32} {s0 : Int32} (w : gWd D 30 (yE cI cZ) ad M s H locs) (hl : lv_has ls 5 [(0, .ref (ad 0)), (1, .int x1), (2, .int x2), (4, .int x4)]) (hf : f_X7_face_100 k65_ x1 x2 x4 s0 M = some Rs) : W p l e (rmH 2) s m args below meth c H locs 0 0 (MQ below (qI D 30 (yE cI cZ) ad Rs) args s 0 0 (gA 30 ad)) (F0 m 100 ls [.int s0]) := by
  unfold f_X7_face_100 at hf
  have hx := C.1.1
  have hb := C.1.2.1
  have hi := C.2.2.2.1
  refine lv_istore_n (lv' := [(3, .int s0), (0, .ref (ad 0)), (1, .int x1), (2, .int x2), (4, .int x4)]) hx hb dX7_face_100 rfl hl (by decide) rfl (fun ls hl => ?_)
  refine lv_iinc (v := (x4 + 1)) (lv' := [(4, .int (x4 + 1)), (3, .int s0), (0, .ref (ad 0)), (1, .int x1), (2, .int x2)]) hx hb dX7_face_101 hl (k := 4) rfl rfl (by decide) rfl (fun ls hl => ?_)
  refine lv_goto (tgt := 65) hx hb dX7_face_104 (by decide) ?_
  exact hk65_ w (lv_sub hl [2, 3, 4, 1, 0] rfl) hf
set_option maxRecDepth 100000 in
set_option maxHeartbeats 4000000 in
theorem w_X7_face_95 (C : gC p s m args c RX7 cX7_face 5 D (yty cI cZ) 30 (yE cI cZ) ad) (hr : meth.sig.returnType = (some .int)) (hq : meth.locks = false) {k65_ : (Int32 → Int32 → Int32 → Int32 → Mem → Option (Int32 × Mem))} {Rs : Int32 × Mem} (hk65_ : ∀ {x1 : Int32} {x2 : Int32} {x3 : Int32} {x4 : Int32} {M : Mem} {H : Heap} {locs : List Loc} {ls : Array Slot}, gWd D 30 (yE cI cZ) ad M s H locs → lv_has ls 5 [(0, .ref (ad 0)), (1, .int x1), (2, .int x2), (3, .int x3), (4, .int x4)] → k65_ x1 x2 x3 x4 M = some Rs → W p l e (rmH 2) s m args below meth c H locs 0 0 (MQ below (qI D 30 (yE cI cZ) ad Rs) args s 0 0 (gA 30 ad)) (F0 m 65 ls [])) {x1 : Int32} {x2 : Int32} {x4 : Int32} (w : gWd D 30 (yE cI cZ) ad M s H locs) (hl : lv_has ls 5 [(0, .ref (ad 0)), (1, .int x1), (2, .int x2), (4, .int x4)]) (hf : f_X7_face_95 k65_ x1 x2 x4 M = some Rs) : W p l e (rmH 2) s m args below meth c H locs 0 0 (MQ below (qI D 30 (yE cI cZ) ad Rs) args s 0 0 (gA 30 ad)) (F0 m 95 ls []) := by
  unfold f_X7_face_95 at hf
  have hx := C.1.1
  have hb := C.1.2.1
  have hi := C.2.2.2.1
  refine lv_iconst (v := 1) hx hb dX7_face_95 (by decide) ?_
  refine lv_goto (tgt := 100) hx hb dX7_face_96 (by decide) ?_
  exact w_X7_face_100 C hr hq hk65_ w (lv_sub hl [0, 1, 2, 3] rfl) hf
set_option maxRecDepth 100000 in
set_option maxHeartbeats 4000000 in
theorem w_X7_face_65b (C : gC p s m args c RX7 cX7_face 5 D (yty cI cZ) 30 (yE cI cZ) ad) (hr : meth.sig.returnType = (some .int)) (hq : meth.locks = false) {k65_ : (Int32 → Int32 → Int32 → Int32 → Mem → Option (Int32 × Mem))} {Rs : Int32 × Mem} (hk65_ : ∀ {x1 : Int32} {x2 : Int32} {x3 : Int32} {x4 : Int32} {M : Mem} {H : Heap} {locs : List Loc} {ls : Array Slot}, gWd D 30 (yE cI cZ) ad M s H locs → lv_has ls 5 [(0, .ref (ad 0)), (1, .int x1), (2, .int x2), (3, .int x3), (4, .int x4)] → k65_ x1 x2 x3 x4 M = some Rs → W p l e (rmH 2) s m args below meth c H locs 0 0 (MQ below (qI D 30 (yE cI cZ) ad Rs) args s 0 0 (gA 30 ad)) (F0 m 65 ls [])) {x1 : Int32} {x2 : Int32} {x3 : Int32} {x4 : Int32} (w : gWd D 30 (yE cI cZ) ad M s H locs) (hl : lv_has ls 5 [(0, .ref (ad 0)), (1, .int x1), (2, .int x2), (3, .int x3), (4, .int x4)]) (hf : f_X7_face_65b k65_ x1 x2 x3 x4 M = some Rs) : W p l e (rmH 2) s m args below meth c H locs 0 0 (MQ below (qI D 30 (yE cI cZ) ad Rs) args s 0 0 (gA 30 ad)) (F0 m 65 ls []) := by
  unfold f_X7_face_65b at hf
  have hx := C.1.1
  have hb := C.1.2.1
  have hi := C.2.2.2.1
  refine lv_iload hx hb dX7_face_65 (lv_at hl 4 rfl) ?_
  refine lv_aload_n hx hb dX7_face_67 rfl (lv_at hl 0 rfl) ?_
  refine gt_X7_20 C w dX7_face_68 ?_
  refine lv_iload_n hx hb dX7_face_71 rfl (lv_at hl 1 rfl) ?_
  obtain ⟨v1, e2, hf⟩ := bindS hf
  refine g_iald C w y_a4 e2 dX7_face_72 ?_
  refine lv_icmp_ge (tgt := 107) hx hb dX7_face_73 (by decide) (fun c3 => ?_) (fun c3 => ?_)
  · replace hf := (if_pos c3).symm.trans hf
    refine lv_iload_n hx hb dX7_face_107 rfl (lv_at hl 3 rfl) ?_
    refine lv_if_eq (tgt := 114) hx hb dX7_face_108 (by decide) (fun c4 => ?_) (fun c4 => ?_)
    · replace hf := (if_pos c4).symm.trans hf
      refine lv_aload_n hx hb dX7_face_114 rfl (lv_at hl 0 rfl) ?_
      refine gt_X7_20 C w dX7_face_115 ?_
      refine lv_iload_n hx hb dX7_face_118 rfl (lv_at hl 1 rfl) ?_
      obtain ⟨v5, e6, hf⟩ := bindS hf
      refine g_iald C w y_a4 e6 dX7_face_119 ?_
      refine lv_iconst (v := 3) hx hb dX7_face_120 (by decide) ?_
      refine lv_icmp_ne (tgt := 127) hx hb dX7_face_121 (by decide) (fun c7 => ?_) (fun c7 => ?_)
      · replace hf := (if_neg c7).symm.trans hf
        refine lv_aload_n hx hb dX7_face_127 rfl (lv_at hl 0 rfl) ?_
        refine gt_X7_23 C w dX7_face_128 ?_
        refine lv_iconst (v := 3) hx hb dX7_face_131 (by decide) ?_
        refine lv_iload_n hx hb dX7_face_132 rfl (lv_at hl 1 rfl) ?_
        refine lv_imul hx hb dX7_face_133 ?_
        refine lv_aload_n hx hb dX7_face_134 rfl (lv_at hl 0 rfl) ?_
        refine gt_X7_20 C w dX7_face_135 ?_
        refine lv_iload_n hx hb dX7_face_138 rfl (lv_at hl 1 rfl) ?_
        obtain ⟨v8, e9, hf⟩ := bindS hf
        refine g_iald C w y_a4 e9 dX7_face_139 ?_
        refine lv_iadd hx hb dX7_face_140 ?_
        refine lv_iload_n hx hb dX7_face_141 rfl (lv_at hl 2 rfl) ?_
        obtain ⟨M10, e11, hf⟩ := bindS hf
        refine g_iast C w y_a5 e11 dX7_face_142 (fun H locs w => ?_)
        refine lv_aload_n hx hb dX7_face_143 rfl (lv_at hl 0 rfl) ?_
        refine gt_X7_20 C w dX7_face_144 ?_
        refine lv_iload_n hx hb dX7_face_147 rfl (lv_at hl 1 rfl) ?_
        refine lv_dup2_11 hx hb dX7_face_148 rfl rfl ?_
        obtain ⟨v12, e13, hf⟩ := bindS hf
        refine g_iald C w y_a4 e13 dX7_face_149 ?_
        refine lv_iconst (v := 1) hx hb dX7_face_150 (by decide) ?_
        refine lv_iadd hx hb dX7_face_151 ?_
        obtain ⟨M14, e15, hf⟩ := bindS hf
        refine g_iast C w y_a4 e15 dX7_face_152 (fun H locs w => ?_)
        refine lv_aload_n hx hb dX7_face_153 rfl (lv_at hl 0 rfl) ?_
        refine gt_X7_20 C w dX7_face_154 ?_
        refine lv_iload_n hx hb dX7_face_157 rfl (lv_at hl 1 rfl) ?_
        obtain ⟨v16, e17, hf⟩ := bindS hf
        refine g_iald C w y_a4 e17 dX7_face_158 ?_
        exact g_iret C w hr hq hf dX7_face_159
      · replace hf := (if_pos c7).symm.trans hf
        refine lv_bipush (v := -104) hx hb dX7_face_124 (by decide) ?_
        exact g_iret C w hr hq hf dX7_face_126
    · replace hf := (if_neg c4).symm.trans hf
      refine lv_bipush (v := -103) hx hb dX7_face_111 (by decide) ?_
      exact g_iret C w hr hq hf dX7_face_113
  · replace hf := (if_neg c3).symm.trans hf
    refine lv_iload_n hx hb dX7_face_76 rfl (lv_at hl 3 rfl) ?_
    refine lv_if_ne (tgt := 95) hx hb dX7_face_77 (by decide) (fun c18 => ?_) (fun c18 => ?_)
    · replace hf := (if_neg c18).symm.trans hf
      exact w_X7_face_95 C hr hq hk65_ w (lv_sub hl [0, 1, 2, 4] rfl) hf
    · replace hf := (if_pos c18).symm.trans hf
      refine lv_aload_n hx hb dX7_face_80 rfl (lv_at hl 0 rfl) ?_
      refine gt_X7_23 C w dX7_face_81 ?_
      refine lv_iconst (v := 3) hx hb dX7_face_84 (by decide) ?_
      refine lv_iload_n hx hb dX7_face_85 rfl (lv_at hl 1 rfl) ?_
      refine lv_imul hx hb dX7_face_86 ?_
      refine lv_iload hx hb dX7_face_87 (lv_at hl 4 rfl) ?_
      refine lv_iadd hx hb dX7_face_89 ?_
      obtain ⟨v19, e20, hf⟩ := bindS hf
      refine g_iald C w y_a5 e20 dX7_face_90 ?_
      refine lv_iload_n hx hb dX7_face_91 rfl (lv_at hl 2 rfl) ?_
      refine lv_icmp_ne (tgt := 99) hx hb dX7_face_92 (by decide) (fun c21 => ?_) (fun c21 => ?_)
      · replace hf := (if_neg c21).symm.trans hf
        refine lv_iconst (v := 0) hx hb dX7_face_99 (by decide) ?_
        exact w_X7_face_100 C hr hq hk65_ w (lv_sub hl [0, 1, 2, 4] rfl) hf
      · replace hf := (if_pos c21).symm.trans hf
        exact w_X7_face_95 C hr hq hk65_ w (lv_sub hl [0, 1, 2, 4] rfl) hf
theorem w_X7_face_65 (C : gC p s m args c RX7 cX7_face 5 D (yty cI cZ) 30 (yE cI cZ) ad) (hr : meth.sig.returnType = (some .int)) (hq : meth.locks = false) {Rs : Int32 × Mem} : ∀ (n : Nat) {x1 : Int32} {x2 : Int32} {x3 : Int32} {x4 : Int32} {M : Mem} {H : Heap} {locs : List Loc} {ls : Array Slot}, gWd D 30 (yE cI cZ) ad M s H locs → lv_has ls 5 [(0, .ref (ad 0)), (1, .int x1), (2, .int x2), (3, .int x3), (4, .int x4)] → f_X7_face_65  n x1 x2 x3 x4 M = some Rs → W p l e (rmH 2) s m args below meth c H locs 0 0 (MQ below (qI D 30 (yE cI cZ) ad Rs) args s 0 0 (gA 30 ad)) (F0 m 65 ls []) := by
  intro n
  induction n with
  | zero =>
    intro x1 x2 x3 x4 M H locs ls w hl hf
    cases hf
  | succ n ih =>
    intro x1 x2 x3 x4 M H locs ls w hl hf
    exact w_X7_face_65b C hr hq ih  w hl hf
set_option maxRecDepth 100000 in
set_option maxHeartbeats 4000000 in
theorem w_X7_face_61 (C : gC p s m args c RX7 cX7_face 5 D (yty cI cZ) 30 (yE cI cZ) ad) (hr : meth.sig.returnType = (some .int)) (hq : meth.locks = false) {Rs : Int32 × Mem} {x1 : Int32} {x2 : Int32} {s0 : Int32} (w : gWd D 30 (yE cI cZ) ad M s H locs) (hl : lv_has ls 5 [(0, .ref (ad 0)), (1, .int x1), (2, .int x2)]) (hf : f_X7_face_61  x1 x2 s0 M = some Rs) : W p l e (rmH 2) s m args below meth c H locs 0 0 (MQ below (qI D 30 (yE cI cZ) ad Rs) args s 0 0 (gA 30 ad)) (F0 m 61 ls [.int s0]) := by
  unfold f_X7_face_61 at hf
  have hx := C.1.1
  have hb := C.1.2.1
  have hi := C.2.2.2.1
  refine lv_istore_n (lv' := [(3, .int s0), (0, .ref (ad 0)), (1, .int x1), (2, .int x2)]) hx hb dX7_face_61 rfl hl (by decide) rfl (fun ls hl => ?_)
  refine lv_iconst (v := 0) hx hb dX7_face_62 (by decide) ?_
  refine lv_istore (lv' := [(4, .int (0 : Int32)), (3, .int s0), (0, .ref (ad 0)), (1, .int x1), (2, .int x2)]) hx hb dX7_face_63 hl (by decide) rfl (fun ls hl => ?_)
  exact w_X7_face_65 C hr hq FU w (lv_sub hl [2, 3, 4, 1, 0] rfl) hf
set_option maxRecDepth 100000 in
set_option maxHeartbeats 4000000 in
theorem w_X7_face_60 (C : gC p s m args c RX7 cX7_face 5 D (yty cI cZ) 30 (yE cI cZ) ad) (hr : meth.sig.returnType = (some .int)) (hq : meth.locks = false) {Rs : Int32 × Mem} {x1 : Int32} {x2 : Int32} (w : gWd D 30 (yE cI cZ) ad M s H locs) (hl : lv_has ls 5 [(0, .ref (ad 0)), (1, .int x1), (2, .int x2)]) (hf : f_X7_face_60  x1 x2 M = some Rs) : W p l e (rmH 2) s m args below meth c H locs 0 0 (MQ below (qI D 30 (yE cI cZ) ad Rs) args s 0 0 (gA 30 ad)) (F0 m 60 ls []) := by
  unfold f_X7_face_60 at hf
  have hx := C.1.1
  have hb := C.1.2.1
  have hi := C.2.2.2.1
  refine lv_iconst (v := 0) hx hb dX7_face_60 (by decide) ?_
  exact w_X7_face_61 C hr hq w (lv_sub hl [0, 1, 2] rfl) hf
set_option maxRecDepth 100000 in
set_option maxHeartbeats 4000000 in
theorem w_X7_face_0 (C : gC p s m args c RX7 cX7_face 5 D (yty cI cZ) 30 (yE cI cZ) ad) (hr : meth.sig.returnType = (some .int)) (hq : meth.locks = false) {Rs : Int32 × Mem} {x1 : Int32} {x2 : Int32} (w : gWd D 30 (yE cI cZ) ad M s H locs) (hl : lv_has ls 5 [(0, .ref (ad 0)), (1, .int x1), (2, .int x2)]) (hf : f_X7_face_0  x1 x2 M = some Rs) : W p l e (rmH 2) s m args below meth c H locs 0 0 (MQ below (qI D 30 (yE cI cZ) ad Rs) args s 0 0 (gA 30 ad)) (F0 m 0 ls []) := by
  unfold f_X7_face_0 at hf
  have hx := C.1.1
  have hb := C.1.2.1
  have hi := C.2.2.2.1
  refine lv_aload_n hx hb dX7_face_0 rfl (lv_at hl 0 rfl) ?_
  refine lv_iconst (v := 0) hx hb dX7_face_1 (by decide) ?_
  obtain ⟨M1, e2, hf⟩ := bindS hf
  refine pt_X7_120 C w e2 dX7_face_2 (fun H locs w => ?_)
  refine lv_aload_n hx hb dX7_face_5 rfl (lv_at hl 0 rfl) ?_
  refine lv_iload_n hx hb dX7_face_6 rfl (lv_at hl 1 rfl) ?_
  obtain ⟨⟨v5, M3⟩, e4, hf⟩ := bindS hf
  refine g_backI w (g_runV (rest := []) C w (c_X7_isType hi  e4) ob_X7 rfl gv_X7_127 md_X7_isType rfl (by omega) (by decide) hl.1 rfl (Nat.le_of_ble_eq_true rfl) dX7_face_7) (fun H locs w => ?_)
  refine lv_if_eq (tgt := 35) hx hb dX7_face_10 (by decide) (fun c6 => ?_) (fun c6 => ?_)
  · replace hf := (if_pos c6).symm.trans hf
    refine lv_bipush (v := -101) hx hb dX7_face_35 (by decide) ?_
    exact g_iret C w hr hq hf dX7_face_37
  · replace hf := (if_neg c6).symm.trans hf
    refine lv_aload_n hx hb dX7_face_13 rfl (lv_at hl 0 rfl) ?_
    refine lv_iload_n hx hb dX7_face_14 rfl (lv_at hl 2 rfl) ?_
    obtain ⟨⟨v9, M7⟩, e8, hf⟩ := bindS hf
    refine g_backI w (g_runV (rest := []) C w (c_X7_isType hi  e8) ob_X7 rfl gv_X7_127 md_X7_isType rfl (by omega) (by decide) hl.1 rfl (Nat.le_of_ble_eq_true rfl) dX7_face_15) (fun H locs w => ?_)
    refine lv_if_eq (tgt := 35) hx hb dX7_face_18 (by decide) (fun c10 => ?_) (fun c10 => ?_)
    · replace hf := (if_pos c10).symm.trans hf
      refine lv_bipush (v := -101) hx hb dX7_face_35 (by decide) ?_
      exact g_iret C w hr hq hf dX7_face_37
    · replace hf := (if_neg c10).symm.trans hf
      refine lv_aload_n hx hb dX7_face_21 rfl (lv_at hl 0 rfl) ?_
      refine gt_X7_7 C w dX7_face_22 ?_
      refine lv_iload_n hx hb dX7_face_25 rfl (lv_at hl 2 rfl) ?_
      obtain ⟨v11, e12, hf⟩ := bindS hf
      refine g_iald C w y_a1 e12 dX7_face_26 ?_
      refine lv_if_eq (tgt := 35) hx hb dX7_face_27 (by decide) (fun c13 => ?_) (fun c13 => ?_)
      · replace hf := (if_pos c13).symm.trans hf
        refine lv_bipush (v := -101) hx hb dX7_face_35 (by decide) ?_
        exact g_iret C w hr hq hf dX7_face_37
      · replace hf := (if_neg c13).symm.trans hf
        refine lv_iload_n hx hb dX7_face_30 rfl (lv_at hl 2 rfl) ?_
        refine lv_iload_n hx hb dX7_face_31 rfl (lv_at hl 1 rfl) ?_
        refine lv_icmp_lt (tgt := 38) hx hb dX7_face_32 (by decide) (fun c14 => ?_) (fun c14 => ?_)
        · replace hf := (if_pos c14).symm.trans hf
          refine lv_aload_n hx hb dX7_face_38 rfl (lv_at hl 0 rfl) ?_
          refine gt_X7_16 C w dX7_face_39 ?_
          refine lv_iload_n hx hb dX7_face_42 rfl (lv_at hl 1 rfl) ?_
          obtain ⟨v15, e16, hf⟩ := bindS hf
          refine g_zald C w y_a3 e16 dX7_face_43 ?_
          refine lv_if_eq (tgt := 60) hx hb dX7_face_44 (by decide) (fun c17 => ?_) (fun c17 => ?_)
          · replace hf := (if_pos c17).symm.trans hf
            exact w_X7_face_60 C hr hq w (lv_sub hl [0, 1, 2] rfl) hf
          · replace hf := (if_neg c17).symm.trans hf
            refine lv_aload_n hx hb dX7_face_47 rfl (lv_at hl 0 rfl) ?_
            refine gt_X7_16 C w dX7_face_48 ?_
            refine lv_iload_n hx hb dX7_face_51 rfl (lv_at hl 2 rfl) ?_
            obtain ⟨v18, e19, hf⟩ := bindS hf
            refine g_zald C w y_a3 e19 dX7_face_52 ?_
            refine lv_if_ne (tgt := 60) hx hb dX7_face_53 (by decide) (fun c20 => ?_) (fun c20 => ?_)
            · replace hf := (if_neg c20).symm.trans hf
              exact w_X7_face_60 C hr hq w (lv_sub hl [0, 1, 2] rfl) hf
            · replace hf := (if_pos c20).symm.trans hf
              refine lv_iconst (v := 1) hx hb dX7_face_56 (by decide) ?_
              refine lv_goto (tgt := 61) hx hb dX7_face_57 (by decide) ?_
              exact w_X7_face_61 C hr hq w (lv_sub hl [0, 1, 2] rfl) hf
        · replace hf := (if_neg c14).symm.trans hf
          refine lv_bipush (v := -101) hx hb dX7_face_35 (by decide) ?_
          exact g_iret C w hr hq hf dX7_face_37
abbrev f_X7_face (x1 : Int32) (x2 : Int32) (M : Mem) : Option (Int32 × Mem) := f_X7_face_0 x1 x2 M
theorem c_X7_face (hi : gInj 30 ad) {x1 : Int32} {x2 : Int32} {Rs : Int32 × Mem} (hf : f_X7_face x1 x2 M = some Rs) : gMet l yX7_face cX7_face 5 (some .int) 2 D (yty cI cZ) 30 (yE cI cZ) ad [.ref (ad 0), .int x1, .int x2] M (qI D 30 (yE cI cZ) ad Rs) := gMet_of (by decide) hi (yE_loc cI cZ) (Nat.le_of_ble_eq_true rfl) (fun p e s m args below meth c ls C hr hq w hl => w_X7_face_0 C hr hq  w hl hf)
def f_X7_field_84 (x3 : Int32) (q0 : Nat) (s1 : Int32) (s2 : Int32) (M : Mem) : Option (Int32 × Mem) :=
  (stI M q0 80 s1 s2).bind fun M1 =>
  if x3 = 0 then (some ((0 : Int32), M1)) else (some ((1 : Int32), M1))
def f_X7_field_64 (x1 : Int32) (x2 : Int32) (x3 : Int32) (x4 : Int32) (q0 : Nat) (s1 : Int32) (s2 : Int32) (M : Mem) : Option (Int32 × Mem) :=
  (stI M q0 80 s1 s2).bind fun M1 =>
  if x3 = 0 then (f_X7_field_84 x3 7 (((5 : Int32) * x1) + x2) (0 : Int32) M1) else (f_X7_field_84 x3 7 (((5 : Int32) * x1) + x2) x4 M1)
def f_X7_field_46 (x1 : Int32) (x2 : Int32) (x3 : Int32) (x4 : Int32) (M : Mem) : Option (Int32 × Mem) :=
  if x3 = 0 then (f_X7_field_64 x1 x2 x3 x4 6 (((5 : Int32) * x1) + x2) (2 : Int32) M) else (f_X7_field_64 x1 x2 x3 x4 6 (((5 : Int32) * x1) + x2) (1 : Int32) M)
def f_X7_field_0 (x1 : Int32) (x2 : Int32) (x3 : Int32) (x4 : Int32) (M : Mem) : Option (Int32 × Mem) :=
  (stF M 0 0 (0 : Int32)).bind fun M1 =>
  (f_X7_isType x1 M1).bind fun (v5, M3) =>
  if v5 = 0 then (some ((-101 : Int32), M3)) else ((f_X7_in x2 (0 : Int32) (4 : Int32) M3).bind fun (v9, M7) =>
  if v9 = 0 then (some ((-102 : Int32), M7)) else (if x3 = 0 then (f_X7_field_46 x1 x2 x3 x4 M7) else ((f_X7_in x4 (-999 : Int32) (999 : Int32) M7).bind fun (v14, M12) =>
  if v14 = 0 then (some ((-102 : Int32), M12)) else (f_X7_field_46 x1 x2 x3 x4 M12))))
set_option maxRecDepth 100000 in
set_option maxHeartbeats 4000000 in
theorem w_X7_field_84 (C : gC p s m args c RX7 cX7_field 5 D (yty cI cZ) 30 (yE cI cZ) ad) (hr : meth.sig.returnType = (some .int)) (hq : meth.locks = false) {Rs : Int32 × Mem} {x3 : Int32} {q0 : Nat} {s1 : Int32} {s2 : Int32} (g0 : gAr 30 (yE cI cZ) ad cI q0 80) (w : gWd D 30 (yE cI cZ) ad M s H locs) (hl : lv_has ls 5 [(3, .int x3)]) (hf : f_X7_field_84  x3 q0 s1 s2 M = some Rs) : W p l e (rmH 2) s m args below meth c H locs 0 0 (MQ below (qI D 30 (yE cI cZ) ad Rs) args s 0 0 (gA 30 ad)) (F0 m 84 ls [.int s2, .int s1, .ref (ad q0)]) := by
  unfold f_X7_field_84 at hf
  have hx := C.1.1
  have hb := C.1.2.1
  have hi := C.2.2.2.1
  obtain ⟨M1, e2, hf⟩ := bindS hf
  refine g_iast C w g0 e2 dX7_field_84 (fun H locs w => ?_)
  refine lv_iload_n hx hb dX7_field_85 rfl (lv_at hl 0 rfl) ?_
  refine lv_if_eq (tgt := 93) hx hb dX7_field_86 (by decide) (fun c3 => ?_) (fun c3 => ?_)
  · replace hf := (if_pos c3).symm.trans hf
    refine lv_iconst (v := 0) hx hb dX7_field_93 (by decide) ?_
    exact g_iret C w hr hq hf dX7_field_94
  · replace hf := (if_neg c3).symm.trans hf
    refine lv_iconst (v := 1) hx hb dX7_field_89 (by decide) ?_
    refine lv_goto (tgt := 94) hx hb dX7_field_90 (by decide) ?_
    exact g_iret C w hr hq hf dX7_field_94
set_option maxRecDepth 100000 in
set_option maxHeartbeats 4000000 in
theorem w_X7_field_64 (C : gC p s m args c RX7 cX7_field 5 D (yty cI cZ) 30 (yE cI cZ) ad) (hr : meth.sig.returnType = (some .int)) (hq : meth.locks = false) {Rs : Int32 × Mem} {x1 : Int32} {x2 : Int32} {x3 : Int32} {x4 : Int32} {q0 : Nat} {s1 : Int32} {s2 : Int32} (g0 : gAr 30 (yE cI cZ) ad cI q0 80) (w : gWd D 30 (yE cI cZ) ad M s H locs) (hl : lv_has ls 5 [(0, .ref (ad 0)), (1, .int x1), (2, .int x2), (3, .int x3), (4, .int x4)]) (hf : f_X7_field_64  x1 x2 x3 x4 q0 s1 s2 M = some Rs) : W p l e (rmH 2) s m args below meth c H locs 0 0 (MQ below (qI D 30 (yE cI cZ) ad Rs) args s 0 0 (gA 30 ad)) (F0 m 64 ls [.int s2, .int s1, .ref (ad q0)]) := by
  unfold f_X7_field_64 at hf
  have hx := C.1.1
  have hb := C.1.2.1
  have hi := C.2.2.2.1
  obtain ⟨M1, e2, hf⟩ := bindS hf
  refine g_iast C w g0 e2 dX7_field_64 (fun H locs w => ?_)
  refine lv_aload_n hx hb dX7_field_65 rfl (lv_at hl 0 rfl) ?_
  refine gt_X7_29 C w dX7_field_66 ?_
  refine lv_iconst (v := 5) hx hb dX7_field_69 (by decide) ?_
  refine lv_iload_n hx hb dX7_field_70 rfl (lv_at hl 1 rfl) ?_
  refine lv_imul hx hb dX7_field_71 ?_
  refine lv_iload_n hx hb dX7_field_72 rfl (lv_at hl 2 rfl) ?_
  refine lv_iadd hx hb dX7_field_73 ?_
  refine lv_iload_n hx hb dX7_field_74 rfl (lv_at hl 3 rfl) ?_
  refine lv_if_eq (tgt := 83) hx hb dX7_field_75 (by decide) (fun c3 => ?_) (fun c3 => ?_)
  · replace hf := (if_pos c3).symm.trans hf
    refine lv_iconst (v := 0) hx hb dX7_field_83 (by decide) ?_
    exact w_X7_field_84 C hr hq y_a7 w (lv_sub hl [3] rfl) hf
  · replace hf := (if_neg c3).symm.trans hf
    refine lv_iload hx hb dX7_field_78 (lv_at hl 4 rfl) ?_
    refine lv_goto (tgt := 84) hx hb dX7_field_80 (by decide) ?_
    exact w_X7_field_84 C hr hq y_a7 w (lv_sub hl [3] rfl) hf
set_option maxRecDepth 100000 in
set_option maxHeartbeats 4000000 in
theorem w_X7_field_46 (C : gC p s m args c RX7 cX7_field 5 D (yty cI cZ) 30 (yE cI cZ) ad) (hr : meth.sig.returnType = (some .int)) (hq : meth.locks = false) {Rs : Int32 × Mem} {x1 : Int32} {x2 : Int32} {x3 : Int32} {x4 : Int32} (w : gWd D 30 (yE cI cZ) ad M s H locs) (hl : lv_has ls 5 [(0, .ref (ad 0)), (1, .int x1), (2, .int x2), (3, .int x3), (4, .int x4)]) (hf : f_X7_field_46  x1 x2 x3 x4 M = some Rs) : W p l e (rmH 2) s m args below meth c H locs 0 0 (MQ below (qI D 30 (yE cI cZ) ad Rs) args s 0 0 (gA 30 ad)) (F0 m 46 ls []) := by
  unfold f_X7_field_46 at hf
  have hx := C.1.1
  have hb := C.1.2.1
  have hi := C.2.2.2.1
  refine lv_aload_n hx hb dX7_field_46 rfl (lv_at hl 0 rfl) ?_
  refine gt_X7_26 C w dX7_field_47 ?_
  refine lv_iconst (v := 5) hx hb dX7_field_50 (by decide) ?_
  refine lv_iload_n hx hb dX7_field_51 rfl (lv_at hl 1 rfl) ?_
  refine lv_imul hx hb dX7_field_52 ?_
  refine lv_iload_n hx hb dX7_field_53 rfl (lv_at hl 2 rfl) ?_
  refine lv_iadd hx hb dX7_field_54 ?_
  refine lv_iload_n hx hb dX7_field_55 rfl (lv_at hl 3 rfl) ?_
  refine lv_if_eq (tgt := 63) hx hb dX7_field_56 (by decide) (fun c1 => ?_) (fun c1 => ?_)
  · replace hf := (if_pos c1).symm.trans hf
    refine lv_iconst (v := 2) hx hb dX7_field_63 (by decide) ?_
    exact w_X7_field_64 C hr hq y_a6 w (lv_sub hl [0, 1, 2, 3, 4] rfl) hf
  · replace hf := (if_neg c1).symm.trans hf
    refine lv_iconst (v := 1) hx hb dX7_field_59 (by decide) ?_
    refine lv_goto (tgt := 64) hx hb dX7_field_60 (by decide) ?_
    exact w_X7_field_64 C hr hq y_a6 w (lv_sub hl [0, 1, 2, 3, 4] rfl) hf
set_option maxRecDepth 100000 in
set_option maxHeartbeats 4000000 in
theorem w_X7_field_0 (C : gC p s m args c RX7 cX7_field 5 D (yty cI cZ) 30 (yE cI cZ) ad) (hr : meth.sig.returnType = (some .int)) (hq : meth.locks = false) {Rs : Int32 × Mem} {x1 : Int32} {x2 : Int32} {x3 : Int32} {x4 : Int32} (w : gWd D 30 (yE cI cZ) ad M s H locs) (hl : lv_has ls 5 [(0, .ref (ad 0)), (1, .int x1), (2, .int x2), (3, .int x3), (4, .int x4)]) (hf : f_X7_field_0  x1 x2 x3 x4 M = some Rs) : W p l e (rmH 2) s m args below meth c H locs 0 0 (MQ below (qI D 30 (yE cI cZ) ad Rs) args s 0 0 (gA 30 ad)) (F0 m 0 ls []) := by
  unfold f_X7_field_0 at hf
  have hx := C.1.1
  have hb := C.1.2.1
  have hi := C.2.2.2.1
  refine lv_aload_n hx hb dX7_field_0 rfl (lv_at hl 0 rfl) ?_
  refine lv_iconst (v := 0) hx hb dX7_field_1 (by decide) ?_
  obtain ⟨M1, e2, hf⟩ := bindS hf
  refine pt_X7_120 C w e2 dX7_field_2 (fun H locs w => ?_)
  refine lv_aload_n hx hb dX7_field_5 rfl (lv_at hl 0 rfl) ?_
  refine lv_iload_n hx hb dX7_field_6 rfl (lv_at hl 1 rfl) ?_
  obtain ⟨⟨v5, M3⟩, e4, hf⟩ := bindS hf
  refine g_backI w (g_runV (rest := []) C w (c_X7_isType hi  e4) ob_X7 rfl gv_X7_127 md_X7_isType rfl (by omega) (by decide) hl.1 rfl (Nat.le_of_ble_eq_true rfl) dX7_field_7) (fun H locs w => ?_)
  refine lv_if_ne (tgt := 16) hx hb dX7_field_10 (by decide) (fun c6 => ?_) (fun c6 => ?_)
  · replace hf := (if_neg c6).symm.trans hf
    refine lv_iload_n hx hb dX7_field_16 rfl (lv_at hl 2 rfl) ?_
    refine lv_iconst (v := 0) hx hb dX7_field_17 (by decide) ?_
    refine lv_iconst (v := 4) hx hb dX7_field_18 (by decide) ?_
    obtain ⟨⟨v9, M7⟩, e8, hf⟩ := bindS hf
    refine g_backI w (g_runS (rest := []) C w (c_X7_in hi  e8) gs_X7_123 md_X7_in rfl (by omega) (by decide) hl.1 rfl (Nat.le_of_ble_eq_true rfl) dX7_field_19) (fun H locs w => ?_)
    refine lv_if_eq (tgt := 43) hx hb dX7_field_22 (by decide) (fun c10 => ?_) (fun c10 => ?_)
    · replace hf := (if_pos c10).symm.trans hf
      refine lv_bipush (v := -102) hx hb dX7_field_43 (by decide) ?_
      exact g_iret C w hr hq hf dX7_field_45
    · replace hf := (if_neg c10).symm.trans hf
      refine lv_iload_n hx hb dX7_field_25 rfl (lv_at hl 3 rfl) ?_
      refine lv_if_eq (tgt := 46) hx hb dX7_field_26 (by decide) (fun c11 => ?_) (fun c11 => ?_)
      · replace hf := (if_pos c11).symm.trans hf
        exact w_X7_field_46 C hr hq w (lv_sub hl [0, 1, 2, 3, 4] rfl) hf
      · replace hf := (if_neg c11).symm.trans hf
        refine lv_iload hx hb dX7_field_29 (lv_at hl 4 rfl) ?_
        refine lv_sipush (v := -999) hx hb dX7_field_31 (by decide) ?_
        refine lv_sipush (v := 999) hx hb dX7_field_34 (by decide) ?_
        obtain ⟨⟨v14, M12⟩, e13, hf⟩ := bindS hf
        refine g_backI w (g_runS (rest := []) C w (c_X7_in hi  e13) gs_X7_123 md_X7_in rfl (by omega) (by decide) hl.1 rfl (Nat.le_of_ble_eq_true rfl) dX7_field_37) (fun H locs w => ?_)
        refine lv_if_ne (tgt := 46) hx hb dX7_field_40 (by decide) (fun c15 => ?_) (fun c15 => ?_)
        · replace hf := (if_neg c15).symm.trans hf
          exact w_X7_field_46 C hr hq w (lv_sub hl [0, 1, 2, 3, 4] rfl) hf
        · replace hf := (if_pos c15).symm.trans hf
          refine lv_bipush (v := -102) hx hb dX7_field_43 (by decide) ?_
          exact g_iret C w hr hq hf dX7_field_45
  · replace hf := (if_pos c6).symm.trans hf
    refine lv_bipush (v := -101) hx hb dX7_field_13 (by decide) ?_
    exact g_iret C w hr hq hf dX7_field_15
abbrev f_X7_field (x1 : Int32) (x2 : Int32) (x3 : Int32) (x4 : Int32) (M : Mem) : Option (Int32 × Mem) := f_X7_field_0 x1 x2 x3 x4 M
theorem c_X7_field (hi : gInj 30 ad) {x1 : Int32} {x2 : Int32} {x3 : Int32} {x4 : Int32} {Rs : Int32 × Mem} (hf : f_X7_field x1 x2 x3 x4 M = some Rs) : gMet l yX7_field cX7_field 5 (some .int) 2 D (yty cI cZ) 30 (yE cI cZ) ad [.ref (ad 0), .int x1, .int x2, .int x3, .int x4] M (qI D 30 (yE cI cZ) ad Rs) := gMet_of (by decide) hi (yE_loc cI cZ) (Nat.le_of_ble_eq_true rfl) (fun p e s m args below meth c ls C hr hq w hl => w_X7_field_0 C hr hq  w hl hf)
def f_X7_isLine_0 (x0 : Int32) (x1 : Int32) (x2 : Int32) (x3 : Int32) (M : Mem) : Option (Int32 × Mem) :=
  if x0 = 0 then ((f_X7_in x1 (0 : Int32) (4 : Int32) M).bind fun (v4, M2) =>
  if v4 = 0 then (rtZ (0 : Int32) M2) else ((f_X7_in x2 (-999 : Int32) (999 : Int32) M2).bind fun (v8, M6) =>
  if v8 = 0 then (rtZ (0 : Int32) M6) else (rtZ (1 : Int32) M6))) else if x0 = 1 then ((f_X7_in x1 (0 : Int32) (4 : Int32) M).bind fun (v13, M11) =>
  if v13 = 0 then (rtZ (0 : Int32) M11) else ((f_X7_in x2 (0 : Int32) (15 : Int32) M11).bind fun (v17, M15) =>
  if v17 = 0 then (rtZ (0 : Int32) M15) else ((f_X7_in x3 (0 : Int32) (4 : Int32) M15).bind fun (v21, M19) =>
  if v21 = 0 then (rtZ (0 : Int32) M19) else (rtZ (1 : Int32) M19)))) else if x0 = 2 then ((f_X7_in x1 (0 : Int32) (15 : Int32) M).bind fun (v26, M24) =>
  rtZ v26 M24) else if x0 = 3 then ((f_X7_in x1 (0 : Int32) (6 : Int32) M).bind fun (v30, M28) =>
  rtZ v30 M28) else if x0 = 4 then ((f_X7_in x1 (0 : Int32) (1000 : Int32) M).bind fun (v34, M32) =>
  rtZ v34 M32) else if x0 = 5 then ((f_X7_in x1 (-999 : Int32) (999 : Int32) M).bind fun (v38, M36) =>
  rtZ v38 M36) else if x0 = 6 then ((f_X7_in x1 (0 : Int32) (4 : Int32) M).bind fun (v42, M40) =>
  if v42 = 0 then (rtZ (0 : Int32) M40) else ((f_X7_in x2 (0 : Int32) (15 : Int32) M40).bind fun (v46, M44) =>
  if v46 = 0 then (rtZ (0 : Int32) M44) else (rtZ (1 : Int32) M44))) else (rtZ (0 : Int32) M)
set_option maxRecDepth 100000 in
set_option maxHeartbeats 4000000 in
theorem w_X7_isLine_0 (C : gC p s m args c RX7 cX7_isLine 4 D (yty cI cZ) 30 (yE cI cZ) ad) (hr : meth.sig.returnType = (some .boolean)) (hq : meth.locks = false) {Rs : Int32 × Mem} {x0 : Int32} {x1 : Int32} {x2 : Int32} {x3 : Int32} (w : gWd D 30 (yE cI cZ) ad M s H locs) (hl : lv_has ls 4 [(0, .int x0), (1, .int x1), (2, .int x2), (3, .int x3)]) (hf : f_X7_isLine_0  x0 x1 x2 x3 M = some Rs) : W p l e (rmH 1) s m args below meth c H locs 0 0 (MQ below (qI D 30 (yE cI cZ) ad Rs) args s 0 0 (gA 30 ad)) (F0 m 0 ls []) := by
  unfold f_X7_isLine_0 at hf
  have hx := C.1.1
  have hb := C.1.2.1
  have hi := C.2.2.2.1
  refine lv_iload_n hx hb dX7_isLine_0 rfl (lv_at hl 0 rfl) ?_
  by_cases c1 : x0 = 0
  · replace hf := (if_pos c1).symm.trans hf
    refine lv_tableIn (tgt := 44) hx hb dX7_isLine_1 (by rw [c1]; decide) (by rw [c1]; decide) (by rw [c1]; rfl) (by decide) ?_
    refine lv_iload_n hx hb dX7_isLine_44 rfl (lv_at hl 1 rfl) ?_
    refine lv_iconst (v := 0) hx hb dX7_isLine_45 (by decide) ?_
    refine lv_iconst (v := 4) hx hb dX7_isLine_46 (by decide) ?_
    obtain ⟨⟨v4, M2⟩, e3, hf⟩ := bindS hf
    refine g_backI w (g_runS (rest := []) C w (c_X7_in hi  e3) gs_X7_123 md_X7_in rfl (by omega) (by decide) hl.1 rfl (Nat.le_of_ble_eq_true rfl) dX7_isLine_47) (fun H locs w => ?_)
    refine lv_if_eq (tgt := 70) hx hb dX7_isLine_50 (by decide) (fun c5 => ?_) (fun c5 => ?_)
    · replace hf := (if_pos c5).symm.trans hf
      refine lv_iconst (v := 0) hx hb dX7_isLine_70 (by decide) ?_
      exact g_zret C w hr hq hf dX7_isLine_71
    · replace hf := (if_neg c5).symm.trans hf
      refine lv_iload_n hx hb dX7_isLine_53 rfl (lv_at hl 2 rfl) ?_
      refine lv_sipush (v := -999) hx hb dX7_isLine_54 (by decide) ?_
      refine lv_sipush (v := 999) hx hb dX7_isLine_57 (by decide) ?_
      obtain ⟨⟨v8, M6⟩, e7, hf⟩ := bindS hf
      refine g_backI w (g_runS (rest := []) C w (c_X7_in hi  e7) gs_X7_123 md_X7_in rfl (by omega) (by decide) hl.1 rfl (Nat.le_of_ble_eq_true rfl) dX7_isLine_60) (fun H locs w => ?_)
      refine lv_if_eq (tgt := 70) hx hb dX7_isLine_63 (by decide) (fun c9 => ?_) (fun c9 => ?_)
      · replace hf := (if_pos c9).symm.trans hf
        refine lv_iconst (v := 0) hx hb dX7_isLine_70 (by decide) ?_
        exact g_zret C w hr hq hf dX7_isLine_71
      · replace hf := (if_neg c9).symm.trans hf
        refine lv_iconst (v := 1) hx hb dX7_isLine_66 (by decide) ?_
        refine lv_goto (tgt := 71) hx hb dX7_isLine_67 (by decide) ?_
        exact g_zret C w hr hq hf dX7_isLine_71
  · replace hf := (if_neg c1).symm.trans hf
    by_cases c10 : x0 = 1
    · replace hf := (if_pos c10).symm.trans hf
      refine lv_tableIn (tgt := 72) hx hb dX7_isLine_1 (by rw [c10]; decide) (by rw [c10]; decide) (by rw [c10]; rfl) (by decide) ?_
      refine lv_iload_n hx hb dX7_isLine_72 rfl (lv_at hl 1 rfl) ?_
      refine lv_iconst (v := 0) hx hb dX7_isLine_73 (by decide) ?_
      refine lv_iconst (v := 4) hx hb dX7_isLine_74 (by decide) ?_
      obtain ⟨⟨v13, M11⟩, e12, hf⟩ := bindS hf
      refine g_backI w (g_runS (rest := []) C w (c_X7_in hi  e12) gs_X7_123 md_X7_in rfl (by omega) (by decide) hl.1 rfl (Nat.le_of_ble_eq_true rfl) dX7_isLine_75) (fun H locs w => ?_)
      refine lv_if_eq (tgt := 104) hx hb dX7_isLine_78 (by decide) (fun c14 => ?_) (fun c14 => ?_)
      · replace hf := (if_pos c14).symm.trans hf
        refine lv_iconst (v := 0) hx hb dX7_isLine_104 (by decide) ?_
        exact g_zret C w hr hq hf dX7_isLine_105
      · replace hf := (if_neg c14).symm.trans hf
        refine lv_iload_n hx hb dX7_isLine_81 rfl (lv_at hl 2 rfl) ?_
        refine lv_iconst (v := 0) hx hb dX7_isLine_82 (by decide) ?_
        refine lv_bipush (v := 15) hx hb dX7_isLine_83 (by decide) ?_
        obtain ⟨⟨v17, M15⟩, e16, hf⟩ := bindS hf
        refine g_backI w (g_runS (rest := []) C w (c_X7_in hi  e16) gs_X7_123 md_X7_in rfl (by omega) (by decide) hl.1 rfl (Nat.le_of_ble_eq_true rfl) dX7_isLine_85) (fun H locs w => ?_)
        refine lv_if_eq (tgt := 104) hx hb dX7_isLine_88 (by decide) (fun c18 => ?_) (fun c18 => ?_)
        · replace hf := (if_pos c18).symm.trans hf
          refine lv_iconst (v := 0) hx hb dX7_isLine_104 (by decide) ?_
          exact g_zret C w hr hq hf dX7_isLine_105
        · replace hf := (if_neg c18).symm.trans hf
          refine lv_iload_n hx hb dX7_isLine_91 rfl (lv_at hl 3 rfl) ?_
          refine lv_iconst (v := 0) hx hb dX7_isLine_92 (by decide) ?_
          refine lv_iconst (v := 4) hx hb dX7_isLine_93 (by decide) ?_
          obtain ⟨⟨v21, M19⟩, e20, hf⟩ := bindS hf
          refine g_backI w (g_runS (rest := []) C w (c_X7_in hi  e20) gs_X7_123 md_X7_in rfl (by omega) (by decide) hl.1 rfl (Nat.le_of_ble_eq_true rfl) dX7_isLine_94) (fun H locs w => ?_)
          refine lv_if_eq (tgt := 104) hx hb dX7_isLine_97 (by decide) (fun c22 => ?_) (fun c22 => ?_)
          · replace hf := (if_pos c22).symm.trans hf
            refine lv_iconst (v := 0) hx hb dX7_isLine_104 (by decide) ?_
            exact g_zret C w hr hq hf dX7_isLine_105
          · replace hf := (if_neg c22).symm.trans hf
            refine lv_iconst (v := 1) hx hb dX7_isLine_100 (by decide) ?_
            refine lv_goto (tgt := 105) hx hb dX7_isLine_101 (by decide) ?_
            exact g_zret C w hr hq hf dX7_isLine_105
    · replace hf := (if_neg c10).symm.trans hf
      by_cases c23 : x0 = 2
      · replace hf := (if_pos c23).symm.trans hf
        refine lv_tableIn (tgt := 106) hx hb dX7_isLine_1 (by rw [c23]; decide) (by rw [c23]; decide) (by rw [c23]; rfl) (by decide) ?_
        refine lv_iload_n hx hb dX7_isLine_106 rfl (lv_at hl 1 rfl) ?_
        refine lv_iconst (v := 0) hx hb dX7_isLine_107 (by decide) ?_
        refine lv_bipush (v := 15) hx hb dX7_isLine_108 (by decide) ?_
        obtain ⟨⟨v26, M24⟩, e25, hf⟩ := bindS hf
        refine g_backI w (g_runS (rest := []) C w (c_X7_in hi  e25) gs_X7_123 md_X7_in rfl (by omega) (by decide) hl.1 rfl (Nat.le_of_ble_eq_true rfl) dX7_isLine_110) (fun H locs w => ?_)
        exact g_zret C w hr hq hf dX7_isLine_113
      · replace hf := (if_neg c23).symm.trans hf
        by_cases c27 : x0 = 3
        · replace hf := (if_pos c27).symm.trans hf
          refine lv_tableIn (tgt := 114) hx hb dX7_isLine_1 (by rw [c27]; decide) (by rw [c27]; decide) (by rw [c27]; rfl) (by decide) ?_
          refine lv_iload_n hx hb dX7_isLine_114 rfl (lv_at hl 1 rfl) ?_
          refine lv_iconst (v := 0) hx hb dX7_isLine_115 (by decide) ?_
          refine lv_bipush (v := 6) hx hb dX7_isLine_116 (by decide) ?_
          obtain ⟨⟨v30, M28⟩, e29, hf⟩ := bindS hf
          refine g_backI w (g_runS (rest := []) C w (c_X7_in hi  e29) gs_X7_123 md_X7_in rfl (by omega) (by decide) hl.1 rfl (Nat.le_of_ble_eq_true rfl) dX7_isLine_118) (fun H locs w => ?_)
          exact g_zret C w hr hq hf dX7_isLine_121
        · replace hf := (if_neg c27).symm.trans hf
          by_cases c31 : x0 = 4
          · replace hf := (if_pos c31).symm.trans hf
            refine lv_tableIn (tgt := 122) hx hb dX7_isLine_1 (by rw [c31]; decide) (by rw [c31]; decide) (by rw [c31]; rfl) (by decide) ?_
            refine lv_iload_n hx hb dX7_isLine_122 rfl (lv_at hl 1 rfl) ?_
            refine lv_iconst (v := 0) hx hb dX7_isLine_123 (by decide) ?_
            refine lv_sipush (v := 1000) hx hb dX7_isLine_124 (by decide) ?_
            obtain ⟨⟨v34, M32⟩, e33, hf⟩ := bindS hf
            refine g_backI w (g_runS (rest := []) C w (c_X7_in hi  e33) gs_X7_123 md_X7_in rfl (by omega) (by decide) hl.1 rfl (Nat.le_of_ble_eq_true rfl) dX7_isLine_127) (fun H locs w => ?_)
            exact g_zret C w hr hq hf dX7_isLine_130
          · replace hf := (if_neg c31).symm.trans hf
            by_cases c35 : x0 = 5
            · replace hf := (if_pos c35).symm.trans hf
              refine lv_tableIn (tgt := 131) hx hb dX7_isLine_1 (by rw [c35]; decide) (by rw [c35]; decide) (by rw [c35]; rfl) (by decide) ?_
              refine lv_iload_n hx hb dX7_isLine_131 rfl (lv_at hl 1 rfl) ?_
              refine lv_sipush (v := -999) hx hb dX7_isLine_132 (by decide) ?_
              refine lv_sipush (v := 999) hx hb dX7_isLine_135 (by decide) ?_
              obtain ⟨⟨v38, M36⟩, e37, hf⟩ := bindS hf
              refine g_backI w (g_runS (rest := []) C w (c_X7_in hi  e37) gs_X7_123 md_X7_in rfl (by omega) (by decide) hl.1 rfl (Nat.le_of_ble_eq_true rfl) dX7_isLine_138) (fun H locs w => ?_)
              exact g_zret C w hr hq hf dX7_isLine_141
            · replace hf := (if_neg c35).symm.trans hf
              by_cases c39 : x0 = 6
              · replace hf := (if_pos c39).symm.trans hf
                refine lv_tableIn (tgt := 142) hx hb dX7_isLine_1 (by rw [c39]; decide) (by rw [c39]; decide) (by rw [c39]; rfl) (by decide) ?_
                refine lv_iload_n hx hb dX7_isLine_142 rfl (lv_at hl 1 rfl) ?_
                refine lv_iconst (v := 0) hx hb dX7_isLine_143 (by decide) ?_
                refine lv_iconst (v := 4) hx hb dX7_isLine_144 (by decide) ?_
                obtain ⟨⟨v42, M40⟩, e41, hf⟩ := bindS hf
                refine g_backI w (g_runS (rest := []) C w (c_X7_in hi  e41) gs_X7_123 md_X7_in rfl (by omega) (by decide) hl.1 rfl (Nat.le_of_ble_eq_true rfl) dX7_isLine_145) (fun H locs w => ?_)
                refine lv_if_eq (tgt := 165) hx hb dX7_isLine_148 (by decide) (fun c43 => ?_) (fun c43 => ?_)
                · replace hf := (if_pos c43).symm.trans hf
                  refine lv_iconst (v := 0) hx hb dX7_isLine_165 (by decide) ?_
                  exact g_zret C w hr hq hf dX7_isLine_166
                · replace hf := (if_neg c43).symm.trans hf
                  refine lv_iload_n hx hb dX7_isLine_151 rfl (lv_at hl 2 rfl) ?_
                  refine lv_iconst (v := 0) hx hb dX7_isLine_152 (by decide) ?_
                  refine lv_bipush (v := 15) hx hb dX7_isLine_153 (by decide) ?_
                  obtain ⟨⟨v46, M44⟩, e45, hf⟩ := bindS hf
                  refine g_backI w (g_runS (rest := []) C w (c_X7_in hi  e45) gs_X7_123 md_X7_in rfl (by omega) (by decide) hl.1 rfl (Nat.le_of_ble_eq_true rfl) dX7_isLine_155) (fun H locs w => ?_)
                  refine lv_if_eq (tgt := 165) hx hb dX7_isLine_158 (by decide) (fun c47 => ?_) (fun c47 => ?_)
                  · replace hf := (if_pos c47).symm.trans hf
                    refine lv_iconst (v := 0) hx hb dX7_isLine_165 (by decide) ?_
                    exact g_zret C w hr hq hf dX7_isLine_166
                  · replace hf := (if_neg c47).symm.trans hf
                    refine lv_iconst (v := 1) hx hb dX7_isLine_161 (by decide) ?_
                    refine lv_goto (tgt := 166) hx hb dX7_isLine_162 (by decide) ?_
                    exact g_zret C w hr hq hf dX7_isLine_166
              · replace hf := (if_neg c39).symm.trans hf
                refine lv_tableOut (tgt := 167) hx hb dX7_isLine_1 (by have := lv_neT c1 (show (0 : Int32).toInt = 0 from rfl); have := lv_neT c10 (show (1 : Int32).toInt = 1 from rfl); have := lv_neT c23 (show (2 : Int32).toInt = 2 from rfl); have := lv_neT c27 (show (3 : Int32).toInt = 3 from rfl); have := lv_neT c31 (show (4 : Int32).toInt = 4 from rfl); have := lv_neT c35 (show (5 : Int32).toInt = 5 from rfl); have := lv_neT c39 (show (6 : Int32).toInt = 6 from rfl); omega) (by decide) ?_
                refine lv_iconst (v := 0) hx hb dX7_isLine_167 (by decide) ?_
                exact g_zret C w hr hq hf dX7_isLine_168
abbrev f_X7_isLine (x0 : Int32) (x1 : Int32) (x2 : Int32) (x3 : Int32) (M : Mem) : Option (Int32 × Mem) := f_X7_isLine_0 x0 x1 x2 x3 M
theorem c_X7_isLine (hi : gInj 30 ad) {x0 : Int32} {x1 : Int32} {x2 : Int32} {x3 : Int32} {Rs : Int32 × Mem} (hf : f_X7_isLine x0 x1 x2 x3 M = some Rs) : gMet l yX7_isLine cX7_isLine 4 (some .boolean) 1 D (yty cI cZ) 30 (yE cI cZ) ad [.int x0, .int x1, .int x2, .int x3] M (qI D 30 (yE cI cZ) ad Rs) := gMet_of (by decide) hi (yE_loc cI cZ) (Nat.le_of_ble_eq_true rfl) (fun p e s m args below meth c ls C hr hq w hl => w_X7_isLine_0 C hr hq  w hl hf)
def f_X7_line_0 (x1 : Int32) (x2 : Int32) (x3 : Int32) (x4 : Int32) (x5 : Int32) (M : Mem) : Option (Int32 × Mem) :=
  (stF M 0 0 (0 : Int32)).bind fun M1 =>
  (f_X7_isType x1 M1).bind fun (v5, M3) =>
  if v5 = 0 then (some ((-101 : Int32), M3)) else ((f_X7_isLine x2 x3 x4 x5 M3).bind fun (v9, M7) =>
  if v9 = 0 then (some ((-102 : Int32), M7)) else ((ldI M7 8 16 x1).bind fun v11 =>
  if v11 = (8 : Int32) then (some ((-104 : Int32), M7)) else ((ldI M7 8 16 x1).bind fun v14 =>
  (stI M7 9 512 (((32 : Int32) * x1) + ((4 : Int32) * v14)) x2).bind fun M16 =>
  (stI M16 9 512 ((((32 : Int32) * x1) + ((4 : Int32) * v14)) + (1 : Int32)) x3).bind fun M18 =>
  (stI M18 9 512 ((((32 : Int32) * x1) + ((4 : Int32) * v14)) + (2 : Int32)) x4).bind fun M20 =>
  (stI M20 9 512 ((((32 : Int32) * x1) + ((4 : Int32) * v14)) + (3 : Int32)) x5).bind fun M22 =>
  (ldI M22 8 16 x1).bind fun v24 =>
  (stI M22 8 16 x1 (v24 + (1 : Int32))).bind fun M26 =>
  (ldI M26 8 16 x1).bind fun v28 =>
  some (v28, M26))))
set_option maxRecDepth 100000 in
set_option maxHeartbeats 4000000 in
theorem w_X7_line_0 (C : gC p s m args c RX7 cX7_line 7 D (yty cI cZ) 30 (yE cI cZ) ad) (hr : meth.sig.returnType = (some .int)) (hq : meth.locks = false) {Rs : Int32 × Mem} {x1 : Int32} {x2 : Int32} {x3 : Int32} {x4 : Int32} {x5 : Int32} (w : gWd D 30 (yE cI cZ) ad M s H locs) (hl : lv_has ls 7 [(0, .ref (ad 0)), (1, .int x1), (2, .int x2), (3, .int x3), (4, .int x4), (5, .int x5)]) (hf : f_X7_line_0  x1 x2 x3 x4 x5 M = some Rs) : W p l e (rmH 2) s m args below meth c H locs 0 0 (MQ below (qI D 30 (yE cI cZ) ad Rs) args s 0 0 (gA 30 ad)) (F0 m 0 ls []) := by
  unfold f_X7_line_0 at hf
  have hx := C.1.1
  have hb := C.1.2.1
  have hi := C.2.2.2.1
  refine lv_aload_n hx hb dX7_line_0 rfl (lv_at hl 0 rfl) ?_
  refine lv_iconst (v := 0) hx hb dX7_line_1 (by decide) ?_
  obtain ⟨M1, e2, hf⟩ := bindS hf
  refine pt_X7_120 C w e2 dX7_line_2 (fun H locs w => ?_)
  refine lv_aload_n hx hb dX7_line_5 rfl (lv_at hl 0 rfl) ?_
  refine lv_iload_n hx hb dX7_line_6 rfl (lv_at hl 1 rfl) ?_
  obtain ⟨⟨v5, M3⟩, e4, hf⟩ := bindS hf
  refine g_backI w (g_runV (rest := []) C w (c_X7_isType hi  e4) ob_X7 rfl gv_X7_127 md_X7_isType rfl (by omega) (by decide) hl.1 rfl (Nat.le_of_ble_eq_true rfl) dX7_line_7) (fun H locs w => ?_)
  refine lv_if_ne (tgt := 16) hx hb dX7_line_10 (by decide) (fun c6 => ?_) (fun c6 => ?_)
  · replace hf := (if_neg c6).symm.trans hf
    refine lv_iload_n hx hb dX7_line_16 rfl (lv_at hl 2 rfl) ?_
    refine lv_iload_n hx hb dX7_line_17 rfl (lv_at hl 3 rfl) ?_
    refine lv_iload hx hb dX7_line_18 (lv_at hl 4 rfl) ?_
    refine lv_iload hx hb dX7_line_20 (lv_at hl 5 rfl) ?_
    obtain ⟨⟨v9, M7⟩, e8, hf⟩ := bindS hf
    refine g_backI w (g_runS (rest := []) C w (c_X7_isLine hi  e8) gs_X7_131 md_X7_isLine rfl (by omega) (by decide) hl.1 rfl (Nat.le_of_ble_eq_true rfl) dX7_line_22) (fun H locs w => ?_)
    refine lv_if_ne (tgt := 31) hx hb dX7_line_25 (by decide) (fun c10 => ?_) (fun c10 => ?_)
    · replace hf := (if_neg c10).symm.trans hf
      refine lv_aload_n hx hb dX7_line_31 rfl (lv_at hl 0 rfl) ?_
      refine gt_X7_32 C w dX7_line_32 ?_
      refine lv_iload_n hx hb dX7_line_35 rfl (lv_at hl 1 rfl) ?_
      obtain ⟨v11, e12, hf⟩ := bindS hf
      refine g_iald C w y_a8 e12 dX7_line_36 ?_
      refine lv_bipush (v := 8) hx hb dX7_line_37 (by decide) ?_
      refine lv_icmp_ne (tgt := 45) hx hb dX7_line_39 (by decide) (fun c13 => ?_) (fun c13 => ?_)
      · replace hf := (if_neg c13).symm.trans hf
        refine lv_bipush (v := 32) hx hb dX7_line_45 (by decide) ?_
        refine lv_iload_n hx hb dX7_line_47 rfl (lv_at hl 1 rfl) ?_
        refine lv_imul hx hb dX7_line_48 ?_
        refine lv_iconst (v := 4) hx hb dX7_line_49 (by decide) ?_
        refine lv_aload_n hx hb dX7_line_50 rfl (lv_at hl 0 rfl) ?_
        refine gt_X7_32 C w dX7_line_51 ?_
        refine lv_iload_n hx hb dX7_line_54 rfl (lv_at hl 1 rfl) ?_
        obtain ⟨v14, e15, hf⟩ := bindS hf
        refine g_iald C w y_a8 e15 dX7_line_55 ?_
        refine lv_imul hx hb dX7_line_56 ?_
        refine lv_iadd hx hb dX7_line_57 ?_
        refine lv_istore (lv' := [(6, .int (((32 : Int32) * x1) + ((4 : Int32) * v14))), (0, .ref (ad 0)), (1, .int x1), (2, .int x2), (3, .int x3), (4, .int x4), (5, .int x5)]) hx hb dX7_line_58 hl (by decide) rfl (fun ls hl => ?_)
        refine lv_aload_n hx hb dX7_line_60 rfl (lv_at hl 1 rfl) ?_
        refine gt_X7_35 C w dX7_line_61 ?_
        refine lv_iload hx hb dX7_line_64 (lv_at hl 0 rfl) ?_
        refine lv_iload_n hx hb dX7_line_66 rfl (lv_at hl 3 rfl) ?_
        obtain ⟨M16, e17, hf⟩ := bindS hf
        refine g_iast C w y_a9 e17 dX7_line_67 (fun H locs w => ?_)
        refine lv_aload_n hx hb dX7_line_68 rfl (lv_at hl 1 rfl) ?_
        refine gt_X7_35 C w dX7_line_69 ?_
        refine lv_iload hx hb dX7_line_72 (lv_at hl 0 rfl) ?_
        refine lv_iconst (v := 1) hx hb dX7_line_74 (by decide) ?_
        refine lv_iadd hx hb dX7_line_75 ?_
        refine lv_iload_n hx hb dX7_line_76 rfl (lv_at hl 4 rfl) ?_
        obtain ⟨M18, e19, hf⟩ := bindS hf
        refine g_iast C w y_a9 e19 dX7_line_77 (fun H locs w => ?_)
        refine lv_aload_n hx hb dX7_line_78 rfl (lv_at hl 1 rfl) ?_
        refine gt_X7_35 C w dX7_line_79 ?_
        refine lv_iload hx hb dX7_line_82 (lv_at hl 0 rfl) ?_
        refine lv_iconst (v := 2) hx hb dX7_line_84 (by decide) ?_
        refine lv_iadd hx hb dX7_line_85 ?_
        refine lv_iload hx hb dX7_line_86 (lv_at hl 5 rfl) ?_
        obtain ⟨M20, e21, hf⟩ := bindS hf
        refine g_iast C w y_a9 e21 dX7_line_88 (fun H locs w => ?_)
        refine lv_aload_n hx hb dX7_line_89 rfl (lv_at hl 1 rfl) ?_
        refine gt_X7_35 C w dX7_line_90 ?_
        refine lv_iload hx hb dX7_line_93 (lv_at hl 0 rfl) ?_
        refine lv_iconst (v := 3) hx hb dX7_line_95 (by decide) ?_
        refine lv_iadd hx hb dX7_line_96 ?_
        refine lv_iload hx hb dX7_line_97 (lv_at hl 6 rfl) ?_
        obtain ⟨M22, e23, hf⟩ := bindS hf
        refine g_iast C w y_a9 e23 dX7_line_99 (fun H locs w => ?_)
        refine lv_aload_n hx hb dX7_line_100 rfl (lv_at hl 1 rfl) ?_
        refine gt_X7_32 C w dX7_line_101 ?_
        refine lv_iload_n hx hb dX7_line_104 rfl (lv_at hl 2 rfl) ?_
        refine lv_dup2_11 hx hb dX7_line_105 rfl rfl ?_
        obtain ⟨v24, e25, hf⟩ := bindS hf
        refine g_iald C w y_a8 e25 dX7_line_106 ?_
        refine lv_iconst (v := 1) hx hb dX7_line_107 (by decide) ?_
        refine lv_iadd hx hb dX7_line_108 ?_
        obtain ⟨M26, e27, hf⟩ := bindS hf
        refine g_iast C w y_a8 e27 dX7_line_109 (fun H locs w => ?_)
        refine lv_aload_n hx hb dX7_line_110 rfl (lv_at hl 1 rfl) ?_
        refine gt_X7_32 C w dX7_line_111 ?_
        refine lv_iload_n hx hb dX7_line_114 rfl (lv_at hl 2 rfl) ?_
        obtain ⟨v28, e29, hf⟩ := bindS hf
        refine g_iald C w y_a8 e29 dX7_line_115 ?_
        exact g_iret C w hr hq hf dX7_line_116
      · replace hf := (if_pos c13).symm.trans hf
        refine lv_bipush (v := -104) hx hb dX7_line_42 (by decide) ?_
        exact g_iret C w hr hq hf dX7_line_44
    · replace hf := (if_pos c10).symm.trans hf
      refine lv_bipush (v := -102) hx hb dX7_line_28 (by decide) ?_
      exact g_iret C w hr hq hf dX7_line_30
  · replace hf := (if_pos c6).symm.trans hf
    refine lv_bipush (v := -101) hx hb dX7_line_13 (by decide) ?_
    exact g_iret C w hr hq hf dX7_line_15
abbrev f_X7_line (x1 : Int32) (x2 : Int32) (x3 : Int32) (x4 : Int32) (x5 : Int32) (M : Mem) : Option (Int32 × Mem) := f_X7_line_0 x1 x2 x3 x4 x5 M
theorem c_X7_line (hi : gInj 30 ad) {x1 : Int32} {x2 : Int32} {x3 : Int32} {x4 : Int32} {x5 : Int32} {Rs : Int32 × Mem} (hf : f_X7_line x1 x2 x3 x4 x5 M = some Rs) : gMet l yX7_line cX7_line 7 (some .int) 2 D (yty cI cZ) 30 (yE cI cZ) ad [.ref (ad 0), .int x1, .int x2, .int x3, .int x4, .int x5] M (qI D 30 (yE cI cZ) ad Rs) := gMet_of (by decide) hi (yE_loc cI cZ) (Nat.le_of_ble_eq_true rfl) (fun p e s m args below meth c ls C hr hq w hl => w_X7_line_0 C hr hq  w hl hf)
def f_X7_at_0 (x1 : Int32) (x2 : Int32) (M : Mem) : Option (Int32 × Mem) :=
  (ldI M 3 16 x2).bind fun v1 =>
  if v1 = 0 then (some ((((16 : Int32) * x1) + x2), M)) else (some (((64 : Int32) + x2), M))
set_option maxRecDepth 100000 in
set_option maxHeartbeats 4000000 in
theorem w_X7_at_0 (C : gC p s m args c RX7 cX7_at 3 D (yty cI cZ) 30 (yE cI cZ) ad) (hr : meth.sig.returnType = (some .int)) (hq : meth.locks = false) {Rs : Int32 × Mem} {x1 : Int32} {x2 : Int32} (w : gWd D 30 (yE cI cZ) ad M s H locs) (hl : lv_has ls 3 [(0, .ref (ad 0)), (1, .int x1), (2, .int x2)]) (hf : f_X7_at_0  x1 x2 M = some Rs) : W p l e (rmH 0) s m args below meth c H locs 0 0 (MQ below (qI D 30 (yE cI cZ) ad Rs) args s 0 0 (gA 30 ad)) (F0 m 0 ls []) := by
  unfold f_X7_at_0 at hf
  have hx := C.1.1
  have hb := C.1.2.1
  have hi := C.2.2.2.1
  refine lv_aload_n hx hb dX7_at_0 rfl (lv_at hl 0 rfl) ?_
  refine gt_X7_16 C w dX7_at_1 ?_
  refine lv_iload_n hx hb dX7_at_4 rfl (lv_at hl 2 rfl) ?_
  obtain ⟨v1, e2, hf⟩ := bindS hf
  refine g_zald C w y_a3 e2 dX7_at_5 ?_
  refine lv_if_eq (tgt := 16) hx hb dX7_at_6 (by decide) (fun c3 => ?_) (fun c3 => ?_)
  · replace hf := (if_pos c3).symm.trans hf
    refine lv_bipush (v := 16) hx hb dX7_at_16 (by decide) ?_
    refine lv_iload_n hx hb dX7_at_18 rfl (lv_at hl 1 rfl) ?_
    refine lv_imul hx hb dX7_at_19 ?_
    refine lv_iload_n hx hb dX7_at_20 rfl (lv_at hl 2 rfl) ?_
    refine lv_iadd hx hb dX7_at_21 ?_
    exact g_iret C w hr hq hf dX7_at_22
  · replace hf := (if_neg c3).symm.trans hf
    refine lv_bipush (v := 64) hx hb dX7_at_9 (by decide) ?_
    refine lv_iload_n hx hb dX7_at_11 rfl (lv_at hl 2 rfl) ?_
    refine lv_iadd hx hb dX7_at_12 ?_
    refine lv_goto (tgt := 22) hx hb dX7_at_13 (by decide) ?_
    exact g_iret C w hr hq hf dX7_at_22
abbrev f_X7_at (x1 : Int32) (x2 : Int32) (M : Mem) : Option (Int32 × Mem) := f_X7_at_0 x1 x2 M
theorem c_X7_at (hi : gInj 30 ad) {x1 : Int32} {x2 : Int32} {Rs : Int32 × Mem} (hf : f_X7_at x1 x2 M = some Rs) : gMet l yX7_at cX7_at 3 (some .int) 0 D (yty cI cZ) 30 (yE cI cZ) ad [.ref (ad 0), .int x1, .int x2] M (qI D 30 (yE cI cZ) ad Rs) := gMet_of (by decide) hi (yE_loc cI cZ) (Nat.le_of_ble_eq_true rfl) (fun p e s m args below meth c ls C hr hq w hl => w_X7_at_0 C hr hq  w hl hf)
end GENX
