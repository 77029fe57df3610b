noncomputable section GENX
variable {p : Program} {l : Launch} {e : Env} {h : Nat} {R : Room} {s : State} {m : MethodId} {args : Array Value} {below : List Frame} {meth : Method} {c : Code} {H : Heap} {locs : List Loc} {cells slots : Nat} {Q : State → Prop} {cc : ByteArray} {nL pc : Nat} {ls : Array Slot} {rest : List Value} {D : va_G} {ad : Nat → Nat} {M M1 : Mem} {cI cT cS cZ : ClassId}
theorem kf_X2_15 : Cond.fieldLink RX2 15 (TX2 1).1 (TX2 1).2.1 (TX2 1).2.2.1 ∈ gW := gw_in 140 (by decide +kernel) rfl
theorem pt_X2_15 {k : Nat} (hk : xR k) {x : Int32} (C : gC p s m args c RX2 cc nL D (xty cI cT cS) 241 (xE cI cT cS) ad) (w : gWd D 241 (xE cI cT cS) ad M s H locs) (e1 : stF M k 1 x = some M1) (hdg : decode cc pc = .ok (.putfield 15, 3)) (kk : ∀ (H1 : Heap) (locs1 : List Loc), gWd D 241 (xE cI cT cS) ad M1 s H1 locs1 → W p l e R s m args below meth c H1 locs1 cells slots Q (F0 m (pc + 3) ls rest)) : W p l e R s m args below meth c H locs cells slots Q (F0 m pc ls (.int x :: .ref (ad k) :: rest)) := by
  cases e1
  exact g_put C w (ob_X2 hk) rfl ginX2 tyX2 tyX2_ok nmX2 1 (by decide) kf_X2_15 rfl rfl rfl (Nat.le_of_ble_eq_true rfl) (by simp [fX2, mset, upd]) hdg kk
theorem kf_X2_19 : Cond.fieldLink RX2 19 (TX2 2).1 (TX2 2).2.1 (TX2 2).2.2.1 ∈ gW := gw_in 142 (by decide +kernel) rfl
theorem pt_X2_19 {k : Nat} (hk : xR k) {x : Int32} (C : gC p s m args c RX2 cc nL D (xty cI cT cS) 241 (xE cI cT cS) ad) (w : gWd D 241 (xE cI cT cS) ad M s H locs) (e1 : stF M k 2 x = some M1) (hdg : decode cc pc = .ok (.putfield 19, 3)) (kk : ∀ (H1 : Heap) (locs1 : List Loc), gWd D 241 (xE cI cT cS) ad M1 s H1 locs1 → W p l e R s m args below meth c H1 locs1 cells slots Q (F0 m (pc + 3) ls rest)) : W p l e R s m args below meth c H locs cells slots Q (F0 m pc ls (.int x :: .ref (ad k) :: rest)) := by
  cases e1
  exact g_put C w (ob_X2 hk) rfl ginX2 tyX2 tyX2_ok nmX2 2 (by decide) kf_X2_19 rfl rfl rfl (Nat.le_of_ble_eq_true rfl) (by simp [fX2, mset, upd]) hdg kk
theorem gt_X2_19 {k : Nat} (hk : xR k) (C : gC p s m args c RX2 cc nL D (xty cI cT cS) 241 (xE cI cT cS) ad) (w : gWd D 241 (xE cI cT cS) ad M s H locs) (hdg : decode cc pc = .ok (.getfield 19, 3)) (kk : W p l e R s m args below meth c H locs cells slots Q (F0 m (pc + 3) ls (.int (M k 2) :: rest))) : W p l e R s m args below meth c H locs cells slots Q (F0 m pc ls (.ref (ad k) :: rest)) := g_get C w (ob_X2 hk) rfl ginX2 2 (by decide) kf_X2_19 rfl hdg kk
theorem kc_X2_has : Cond.code yX2_has cX2_has 2 (some .boolean) ∈ gW := gw_in 299 (by decide +kernel) rfl
theorem ki_X2 : Cond.initialized RX2 ∈ gW := gw_in 44 (by decide +kernel) rfl
theorem md_X2_has : gMd yX2_has 1 := ⟨by decide +kernel, by decide +kernel, by decide +kernel⟩
theorem kl_X2_22 : Cond.methodLink RX2 22 yX2_has ∈ gW := gw_in 296 (by decide +kernel) rfl
theorem kn_X2_has : Cond.instanceMethod yX2_has ∈ gW := gw_in 297 (by decide +kernel) rfl
theorem ks_X2_has : Cond.selects RX2 yX2_has yX2_has ∈ gW := gw_in 298 (by decide +kernel) rfl
theorem gv_X2_22 : gWv RX2 22 yX2_has cX2_has 2 (some .boolean) := ⟨kl_X2_22, kn_X2_has, ks_X2_has, ki_X2, kc_X2_has⟩
theorem gt_X2_15 {k : Nat} (hk : xR k) (C : gC p s m args c RX2 cc nL D (xty cI cT cS) 241 (xE cI cT cS) ad) (w : gWd D 241 (xE cI cT cS) ad M s H locs) (hdg : decode cc pc = .ok (.getfield 15, 3)) (kk : W p l e R s m args below meth c H locs cells slots Q (F0 m (pc + 3) ls (.int (M k 1) :: rest))) : W p l e R s m args below meth c H locs cells slots Q (F0 m pc ls (.ref (ad k) :: rest)) := g_get C w (ob_X2 hk) rfl ginX2 1 (by decide) kf_X2_15 rfl hdg kk
theorem kf_X2_9 : Cond.fieldLink RX2 9 (TX2 0).1 (TX2 0).2.1 (TX2 0).2.2.1 ∈ gW := gw_in 138 (by decide +kernel) rfl
theorem gt_X2_9 {k : Nat} (hk : xR k) (C : gC p s m args c RX2 cc nL D (xty cI cT cS) 241 (xE cI cT cS) ad) (w : gWd D 241 (xE cI cT cS) ad M s H locs) (hdg : decode cc pc = .ok (.getfield 9, 3)) (kk : W p l e R s m args below meth c H locs cells slots Q (F0 m (pc + 3) ls (.ref (ad (k + 1)) :: rest))) : W p l e R s m args below meth c H locs cells slots Q (F0 m pc ls (.ref (ad k) :: rest)) := g_get C w (ob_X2 hk) rfl ginX2 0 (by decide) kf_X2_9 rfl hdg kk
theorem kc_X2_addOnce : Cond.code yX2_addOnce cX2_addOnce 2 none ∈ gW := gw_in 295 (by decide +kernel) rfl
theorem md_X2_addOnce : gMd yX2_addOnce 1 := ⟨by decide +kernel, by decide +kernel, by decide +kernel⟩
theorem kl_X2_26 : Cond.methodLink RX2 26 yX2_addOnce ∈ gW := gw_in 304 (by decide +kernel) rfl
theorem kn_X2_addOnce : Cond.instanceMethod yX2_addOnce ∈ gW := gw_in 293 (by decide +kernel) rfl
theorem ks_X2_addOnce : Cond.selects RX2 yX2_addOnce yX2_addOnce ∈ gW := gw_in 294 (by decide +kernel) rfl
theorem gv_X2_26 : gWv RX2 26 yX2_addOnce cX2_addOnce 2 none := ⟨kl_X2_26, kn_X2_addOnce, ks_X2_addOnce, ki_X2, kc_X2_addOnce⟩
theorem kf_X1_15 : Cond.fieldLink RX1 15 (TX1 1).1 (TX1 1).2.1 (TX1 1).2.2.1 ∈ gW := gw_in 74 (by decide +kernel) rfl
theorem gt_X1_15 {k : Nat} (hk : xP k) (C : gC p s m args c RX1 cc nL D (xty cI cT cS) 241 (xE cI cT cS) ad) (w : gWd D 241 (xE cI cT cS) ad M s H locs) (hdg : decode cc pc = .ok (.getfield 15, 3)) (kk : W p l e R s m args below meth c H locs cells slots Q (F0 m (pc + 3) ls (.ref (ad (k + 2)) :: rest))) : W p l e R s m args below meth c H locs cells slots Q (F0 m pc ls (.ref (ad k) :: rest)) := g_get C w (ob_X1 hk) rfl ginX1 1 (by decide) kf_X1_15 rfl hdg kk
theorem kf_X1_9 : Cond.fieldLink RX1 9 (TX1 0).1 (TX1 0).2.1 (TX1 0).2.2.1 ∈ gW := gw_in 72 (by decide +kernel) rfl
theorem gt_X1_9 {k : Nat} (hk : xP k) (C : gC p s m args c RX1 cc nL D (xty cI cT cS) 241 (xE cI cT cS) ad) (w : gWd D 241 (xE cI cT cS) ad M s H locs) (hdg : decode cc pc = .ok (.getfield 9, 3)) (kk : W p l e R s m args below meth c H locs cells slots Q (F0 m (pc + 3) ls (.ref (ad (k + 1)) :: rest))) : W p l e R s m args below meth c H locs cells slots Q (F0 m pc ls (.ref (ad k) :: rest)) := g_get C w (ob_X1 hk) rfl ginX1 0 (by decide) kf_X1_9 rfl hdg kk
theorem kc_J7_fill_53178 : Cond.code yJ7_fill_53178 cJ7_fill_53178 4 none ∈ gW := gw_in 286 (by decide +kernel) rfl
theorem ki_J7 : Cond.initialized RJ7 ∈ gW := gw_in 47 (by decide +kernel) rfl
theorem md_J7_fill_53178 : gMd yJ7_fill_53178 2 := ⟨by decide +kernel, by decide +kernel, by decide +kernel⟩
theorem kt_J7_fill_53178 : Cond.static yJ7_fill_53178 ∈ gW := gw_in 285 (by decide +kernel) rfl
theorem kl_X1_18 : Cond.methodLink RX1 18 yJ7_fill_53178 ∈ gW := gw_in 472 (by decide +kernel) rfl
theorem gs_X1_18 : gWs RX1 18 yJ7_fill_53178 cJ7_fill_53178 4 none := ⟨kl_X1_18, kt_J7_fill_53178, ki_J7, kc_J7_fill_53178⟩
theorem kf_X3_18 : Cond.fieldLink RX3 18 (TX3 1).1 (TX3 1).2.1 (TX3 1).2.2.1 ∈ gW := gw_in 212 (by decide +kernel) rfl
theorem gt_X3_18 {k : Nat} (hk : xS k) (C : gC p s m args c RX3 cc nL D (xty cI cT cS) 241 (xE cI cT cS) ad) (w : gWd D 241 (xE cI cT cS) ad M s H locs) (hdg : decode cc pc = .ok (.getfield 18, 3)) (kk : W p l e R s m args below meth c H locs cells slots Q (F0 m (pc + 3) ls (.ref (ad (k + 4)) :: rest))) : W p l e R s m args below meth c H locs cells slots Q (F0 m pc ls (.ref (ad k) :: rest)) := g_get C w (ob_X3 hk) rfl ginX3 1 (by decide) kf_X3_18 rfl hdg kk
theorem kl_X3_29 : Cond.methodLink RX3 29 yJ7_fill_53178 ∈ gW := gw_in 467 (by decide +kernel) rfl
theorem gs_X3_29 : gWs RX3 29 yJ7_fill_53178 cJ7_fill_53178 4 none := ⟨kl_X3_29, kt_J7_fill_53178, ki_J7, kc_J7_fill_53178⟩
theorem kf_X3_26 : Cond.fieldLink RX3 26 (TX3 3).1 (TX3 3).2.1 (TX3 3).2.2.1 ∈ gW := gw_in 216 (by decide +kernel) rfl
theorem pt_X3_26 {k : Nat} (hk : xS k) {x : Int32} (C : gC p s m args c RX3 cc nL D (xty cI cT cS) 241 (xE cI cT cS) ad) (w : gWd D 241 (xE cI cT cS) ad M s H locs) (e1 : stF M k 3 x = some M1) (hdg : decode cc pc = .ok (.putfield 26, 3)) (kk : ∀ (H1 : Heap) (locs1 : List Loc), gWd D 241 (xE cI cT cS) ad M1 s H1 locs1 → W p l e R s m args below meth c H1 locs1 cells slots Q (F0 m (pc + 3) ls rest)) : W p l e R s m args below meth c H locs cells slots Q (F0 m pc ls (.int x :: .ref (ad k) :: rest)) := by
  cases e1
  exact g_put C w (ob_X3 hk) rfl ginX3 tyX3 tyX3_ok nmX3 3 (by decide) kf_X3_26 rfl rfl rfl (Nat.le_of_ble_eq_true rfl) (by simp [fX3, mset, upd]) hdg kk
theorem kf_X3_12 : Cond.fieldLink RX3 12 (TX3 0).1 (TX3 0).2.1 (TX3 0).2.2.1 ∈ gW := gw_in 210 (by decide +kernel) rfl
theorem gt_X3_12 {k : Nat} (hk : xS k) (C : gC p s m args c RX3 cc nL D (xty cI cT cS) 241 (xE cI cT cS) ad) (w : gWd D 241 (xE cI cT cS) ad M s H locs) (hdg : decode cc pc = .ok (.getfield 12, 3)) (kk : W p l e R s m args below meth c H locs cells slots Q (F0 m (pc + 3) ls (.ref (ad (k + 1)) :: rest))) : W p l e R s m args below meth c H locs cells slots Q (F0 m pc ls (.ref (ad k) :: rest)) := g_get C w (ob_X3 hk) rfl ginX3 0 (by decide) kf_X3_12 rfl hdg kk
theorem kc_X1_forget : Cond.code yX1_forget cX1_forget 3 (some .int) ∈ gW := gw_in 471 (by decide +kernel) rfl
theorem ki_X1 : Cond.initialized RX1 ∈ gW := gw_in 40 (by decide +kernel) rfl
theorem md_X1_forget : gMd yX1_forget 0 := ⟨by decide +kernel, by decide +kernel, by decide +kernel⟩
theorem kl_X3_35 : Cond.methodLink RX3 35 yX1_forget ∈ gW := gw_in 468 (by decide +kernel) rfl
theorem kn_X1_forget : Cond.instanceMethod yX1_forget ∈ gW := gw_in 469 (by decide +kernel) rfl
theorem ks_X1_forget : Cond.selects RX1 yX1_forget yX1_forget ∈ gW := gw_in 470 (by decide +kernel) rfl
theorem gv_X3_35 : gWv RX3 35 yX1_forget cX1_forget 3 (some .int) := ⟨kl_X3_35, kn_X1_forget, ks_X1_forget, ki_X1, kc_X1_forget⟩
theorem kf_X4_47 : Cond.fieldLink RX4 47 (TX4 0).1 (TX4 0).2.1 (TX4 0).2.2.1 ∈ gW := gw_in 150 (by decide +kernel) rfl
theorem pt_X4_47 {k : Nat} (hk : xT k) {x : Int32} (C : gC p s m args c RX4 cc nL D (xty cI cT cS) 241 (xE cI cT cS) ad) (w : gWd D 241 (xE cI cT cS) ad M s H locs) (e1 : stF M k 0 x = some M1) (hdg : decode cc pc = .ok (.putfield 47, 3)) (kk : ∀ (H1 : Heap) (locs1 : List Loc), gWd D 241 (xE cI cT cS) ad M1 s H1 locs1 → W p l e R s m args below meth c H1 locs1 cells slots Q (F0 m (pc + 3) ls rest)) : W p l e R s m args below meth c H locs cells slots Q (F0 m pc ls (.int x :: .ref (ad k) :: rest)) := by
  cases e1
  exact g_put C w (ob_X4 hk) rfl ginX4 tyX4 tyX4_ok nmX4 0 (by decide) kf_X4_47 rfl rfl rfl (Nat.le_of_ble_eq_true rfl) (by simp [fX4, mset, upd]) hdg kk
theorem kf_X4_9 : Cond.fieldLink RX4 9 (TX4 1).1 (TX4 1).2.1 (TX4 1).2.2.1 ∈ gW := gw_in 152 (by decide +kernel) rfl
theorem pt_X4_9 {k : Nat} (hk : xT k) {x : Int32} (C : gC p s m args c RX4 cc nL D (xty cI cT cS) 241 (xE cI cT cS) ad) (w : gWd D 241 (xE cI cT cS) ad M s H locs) (e1 : stF M k 1 x = some M1) (hdg : decode cc pc = .ok (.putfield 9, 3)) (kk : ∀ (H1 : Heap) (locs1 : List Loc), gWd D 241 (xE cI cT cS) ad M1 s H1 locs1 → W p l e R s m args below meth c H1 locs1 cells slots Q (F0 m (pc + 3) ls rest)) : W p l e R s m args below meth c H locs cells slots Q (F0 m pc ls (.int x :: .ref (ad k) :: rest)) := by
  cases e1
  exact g_put C w (ob_X4 hk) rfl ginX4 tyX4 tyX4_ok nmX4 1 (by decide) kf_X4_9 rfl rfl rfl (Nat.le_of_ble_eq_true rfl) (by simp [fX4, mset, upd]) hdg kk
theorem kf_X4_50 : Cond.fieldLink RX4 50 (TX4 2).1 (TX4 2).2.1 (TX4 2).2.2.1 ∈ gW := gw_in 154 (by decide +kernel) rfl
theorem pt_X4_50 {k : Nat} (hk : xT k) {x : Int32} (C : gC p s m args c RX4 cc nL D (xty cI cT cS) 241 (xE cI cT cS) ad) (w : gWd D 241 (xE cI cT cS) ad M s H locs) (e1 : stFZ M k 2 x = some M1) (hdg : decode cc pc = .ok (.putfield 50, 3)) (kk : ∀ (H1 : Heap) (locs1 : List Loc), gWd D 241 (xE cI cT cS) ad M1 s H1 locs1 → W p l e R s m args below meth c H1 locs1 cells slots Q (F0 m (pc + 3) ls rest)) : W p l e R s m args below meth c H locs cells slots Q (F0 m pc ls (.int x :: .ref (ad k) :: rest)) := by
  unfold stFZ at e1
  split at e1
  · next hb =>
    cases e1
    exact g_put C w (ob_X4 hk) rfl ginX4 tyX4 tyX4_ok nmX4 2 (by decide) kf_X4_50 rfl (isb_nar hb) (isb_fit hb) (Nat.le_of_ble_eq_true rfl) (by simp [fX4, mset, upd]) hdg kk
  · cases e1
theorem kf_X4_18 : Cond.fieldLink RX4 18 (TX4 3).1 (TX4 3).2.1 (TX4 3).2.2.1 ∈ gW := gw_in 156 (by decide +kernel) rfl
theorem gt_X4_18 {k : Nat} (hk : xT k) (C : gC p s m args c RX4 cc nL D (xty cI cT cS) 241 (xE cI cT cS) ad) (w : gWd D 241 (xE cI cT cS) ad M s H locs) (hdg : decode cc pc = .ok (.getfield 18, 3)) (kk : W p l e R s m args below meth c H locs cells slots Q (F0 m (pc + 3) ls (.ref (ad (k + 1)) :: rest))) : W p l e R s m args below meth c H locs cells slots Q (F0 m pc ls (.ref (ad k) :: rest)) := g_get C w (ob_X4 hk) rfl ginX4 3 (by decide) kf_X4_18 rfl hdg kk
theorem kc_X2_empty : Cond.code yX2_empty cX2_empty 1 none ∈ gW := gw_in 283 (by decide +kernel) rfl
theorem md_X2_empty : gMd yX2_empty 0 := ⟨by decide +kernel, by decide +kernel, by decide +kernel⟩
theorem kl_X4_54 : Cond.methodLink RX4 54 yX2_empty ∈ gW := gw_in 280 (by decide +kernel) rfl
theorem kn_X2_empty : Cond.instanceMethod yX2_empty ∈ gW := gw_in 281 (by decide +kernel) rfl
theorem ks_X2_empty : Cond.selects RX2 yX2_empty yX2_empty ∈ gW := gw_in 282 (by decide +kernel) rfl
theorem gv_X4_54 : gWv RX4 54 yX2_empty cX2_empty 1 none := ⟨kl_X4_54, kn_X2_empty, ks_X2_empty, ki_X2, kc_X2_empty⟩
theorem kf_X4_28 : Cond.fieldLink RX4 28 (TX4 6).1 (TX4 6).2.1 (TX4 6).2.2.1 ∈ gW := gw_in 162 (by decide +kernel) rfl
theorem gt_X4_28 {k : Nat} (hk : xT k) (C : gC p s m args c RX4 cc nL D (xty cI cT cS) 241 (xE cI cT cS) ad) (w : gWd D 241 (xE cI cT cS) ad M s H locs) (hdg : decode cc pc = .ok (.getfield 28, 3)) (kk : W p l e R s m args below meth c H locs cells slots Q (F0 m (pc + 3) ls (.ref (ad (k + 7)) :: rest))) : W p l e R s m args below meth c H locs cells slots Q (F0 m pc ls (.ref (ad k) :: rest)) := g_get C w (ob_X4 hk) rfl ginX4 6 (by decide) kf_X4_28 rfl hdg kk
theorem kl_X4_57 : Cond.methodLink RX4 57 yJ7_fill_53178 ∈ gW := gw_in 284 (by decide +kernel) rfl
theorem gs_X4_57 : gWs RX4 57 yJ7_fill_53178 cJ7_fill_53178 4 none := ⟨kl_X4_57, kt_J7_fill_53178, ki_J7, kc_J7_fill_53178⟩
theorem kf_X4_63 : Cond.fieldLink RX4 63 (TX4 12).1 (TX4 12).2.1 (TX4 12).2.2.1 ∈ gW := gw_in 174 (by decide +kernel) rfl
theorem pt_X4_63 {k : Nat} (hk : xT k) {x : Int32} (C : gC p s m args c RX4 cc nL D (xty cI cT cS) 241 (xE cI cT cS) ad) (w : gWd D 241 (xE cI cT cS) ad M s H locs) (e1 : stF M k 12 x = some M1) (hdg : decode cc pc = .ok (.putfield 63, 3)) (kk : ∀ (H1 : Heap) (locs1 : List Loc), gWd D 241 (xE cI cT cS) ad M1 s H1 locs1 → W p l e R s m args below meth c H1 locs1 cells slots Q (F0 m (pc + 3) ls rest)) : W p l e R s m args below meth c H locs cells slots Q (F0 m pc ls (.int x :: .ref (ad k) :: rest)) := by
  cases e1
  exact g_put C w (ob_X4 hk) rfl ginX4 tyX4 tyX4_ok nmX4 12 (by decide) kf_X4_63 rfl rfl rfl (Nat.le_of_ble_eq_true rfl) (by simp [fX4, mset, upd]) hdg kk
theorem gt_X4_63 {k : Nat} (hk : xT k) (C : gC p s m args c RX4 cc nL D (xty cI cT cS) 241 (xE cI cT cS) ad) (w : gWd D 241 (xE cI cT cS) ad M s H locs) (hdg : decode cc pc = .ok (.getfield 63, 3)) (kk : W p l e R s m args below meth c H locs cells slots Q (F0 m (pc + 3) ls (.int (M k 12) :: rest))) : W p l e R s m args below meth c H locs cells slots Q (F0 m pc ls (.ref (ad k) :: rest)) := g_get C w (ob_X4 hk) rfl ginX4 12 (by decide) kf_X4_63 rfl hdg kk
theorem kf_X4_35 : Cond.fieldLink RX4 35 (TX4 8).1 (TX4 8).2.1 (TX4 8).2.2.1 ∈ gW := gw_in 166 (by decide +kernel) rfl
theorem gt_X4_35 {k : Nat} (hk : xT k) (C : gC p s m args c RX4 cc nL D (xty cI cT cS) 241 (xE cI cT cS) ad) (w : gWd D 241 (xE cI cT cS) ad M s H locs) (hdg : decode cc pc = .ok (.getfield 35, 3)) (kk : W p l e R s m args below meth c H locs cells slots Q (F0 m (pc + 3) ls (.ref (ad (k + 9)) :: rest))) : W p l e R s m args below meth c H locs cells slots Q (F0 m pc ls (.ref (ad k) :: rest)) := g_get C w (ob_X4 hk) rfl ginX4 8 (by decide) kf_X4_35 rfl hdg kk
theorem kf_X4_38 : Cond.fieldLink RX4 38 (TX4 9).1 (TX4 9).2.1 (TX4 9).2.2.1 ∈ gW := gw_in 168 (by decide +kernel) rfl
theorem gt_X4_38 {k : Nat} (hk : xT k) (C : gC p s m args c RX4 cc nL D (xty cI cT cS) 241 (xE cI cT cS) ad) (w : gWd D 241 (xE cI cT cS) ad M s H locs) (hdg : decode cc pc = .ok (.getfield 38, 3)) (kk : W p l e R s m args below meth c H locs cells slots Q (F0 m (pc + 3) ls (.ref (ad (k + 10)) :: rest))) : W p l e R s m args below meth c H locs cells slots Q (F0 m pc ls (.ref (ad k) :: rest)) := g_get C w (ob_X4 hk) rfl ginX4 9 (by decide) kf_X4_38 rfl hdg kk
theorem kf_X4_41 : Cond.fieldLink RX4 41 (TX4 10).1 (TX4 10).2.1 (TX4 10).2.2.1 ∈ gW := gw_in 170 (by decide +kernel) rfl
theorem gt_X4_41 {k : Nat} (hk : xT k) (C : gC p s m args c RX4 cc nL D (xty cI cT cS) 241 (xE cI cT cS) ad) (w : gWd D 241 (xE cI cT cS) ad M s H locs) (hdg : decode cc pc = .ok (.getfield 41, 3)) (kk : W p l e R s m args below meth c H locs cells slots Q (F0 m (pc + 3) ls (.ref (ad (k + 11)) :: rest))) : W p l e R s m args below meth c H locs cells slots Q (F0 m pc ls (.ref (ad k) :: rest)) := g_get C w (ob_X4 hk) rfl ginX4 10 (by decide) kf_X4_41 rfl hdg kk
theorem kf_X4_44 : Cond.fieldLink RX4 44 (TX4 11).1 (TX4 11).2.1 (TX4 11).2.2.1 ∈ gW := gw_in 172 (by decide +kernel) rfl
theorem gt_X4_44 {k : Nat} (hk : xT k) (C : gC p s m args c RX4 cc nL D (xty cI cT cS) 241 (xE cI cT cS) ad) (w : gWd D 241 (xE cI cT cS) ad M s H locs) (hdg : decode cc pc = .ok (.getfield 44, 3)) (kk : W p l e R s m args below meth c H locs cells slots Q (F0 m (pc + 3) ls (.ref (ad (k + 12)) :: rest))) : W p l e R s m args below meth c H locs cells slots Q (F0 m pc ls (.ref (ad k) :: rest)) := g_get C w (ob_X4 hk) rfl ginX4 11 (by decide) kf_X4_44 rfl hdg kk
theorem kf_X5_21 : Cond.fieldLink RX5 21 (TX5 3).1 (TX5 3).2.1 (TX5 3).2.2.1 ∈ gW := gw_in 93 (by decide +kernel) rfl
theorem gt_X5_21 (C : gC p s m args c RX5 cc nL D (xty cI cT cS) 241 (xE cI cT cS) ad) (w : gWd D 241 (xE cI cT cS) ad M s H locs) (hdg : decode cc pc = .ok (.getfield 21, 3)) (kk : W p l e R s m args below meth c H locs cells slots Q (F0 m (pc + 3) ls (.int (M 6 3) :: rest))) : W p l e R s m args below meth c H locs cells slots Q (F0 m pc ls (.ref (ad 6) :: rest)) := g_get C w ob_X5 rfl ginX5 3 (by decide) kf_X5_21 rfl hdg kk
theorem kf_X5_9 : Cond.fieldLink RX5 9 (TX5 0).1 (TX5 0).2.1 (TX5 0).2.2.1 ∈ gW := gw_in 87 (by decide +kernel) rfl
theorem gt_X5_9 (C : gC p s m args c RX5 cc nL D (xty cI cT cS) 241 (xE cI cT cS) ad) (w : gWd D 241 (xE cI cT cS) ad M s H locs) (hdg : decode cc pc = .ok (.getfield 9, 3)) (kk : W p l e R s m args below meth c H locs cells slots Q (F0 m (pc + 3) ls (.ref (ad 7) :: rest))) : W p l e R s m args below meth c H locs cells slots Q (F0 m pc ls (.ref (ad 6) :: rest)) := g_get C w ob_X5 rfl ginX5 0 (by decide) kf_X5_9 rfl hdg kk
theorem pt_X5_21 {x : Int32} (C : gC p s m args c RX5 cc nL D (xty cI cT cS) 241 (xE cI cT cS) ad) (w : gWd D 241 (xE cI cT cS) ad M s H locs) (e1 : stF M 6 3 x = some M1) (hdg : decode cc pc = .ok (.putfield 21, 3)) (kk : ∀ (H1 : Heap) (locs1 : List Loc), gWd D 241 (xE cI cT cS) ad M1 s H1 locs1 → W p l e R s m args below meth c H1 locs1 cells slots Q (F0 m (pc + 3) ls rest)) : W p l e R s m args below meth c H locs cells slots Q (F0 m pc ls (.int x :: .ref (ad 6) :: rest)) := by
  cases e1
  exact g_put C w ob_X5 rfl ginX5 tyX5 tyX5_ok nmX5 3 (by decide) kf_X5_21 rfl rfl rfl (Nat.le_of_ble_eq_true rfl) (by simp [fX5, mset, upd]) hdg kk
theorem gs_X5_25 : Cond.static yX6_within ∈ gW ∧ Cond.initialized RX6 ∈ gW ∧ Cond.code yX6_within cX6_within 3 (some .boolean) ∈ gW := ⟨kt_X6_within, ki_X6, kc_X6_within⟩
theorem kf_X5_15 : Cond.fieldLink RX5 15 (TX5 1).1 (TX5 1).2.1 (TX5 1).2.2.1 ∈ gW := gw_in 89 (by decide +kernel) rfl
theorem gt_X5_15 (C : gC p s m args c RX5 cc nL D (xty cI cT cS) 241 (xE cI cT cS) ad) (w : gWd D 241 (xE cI cT cS) ad M s H locs) (hdg : decode cc pc = .ok (.getfield 15, 3)) (kk : W p l e R s m args below meth c H locs cells slots Q (F0 m (pc + 3) ls (.ref (ad 8) :: rest))) : W p l e R s m args below meth c H locs cells slots Q (F0 m pc ls (.ref (ad 6) :: rest)) := g_get C w ob_X5 rfl ginX5 1 (by decide) kf_X5_15 rfl hdg kk
theorem kf_X5_18 : Cond.fieldLink RX5 18 (TX5 2).1 (TX5 2).2.1 (TX5 2).2.2.1 ∈ gW := gw_in 91 (by decide +kernel) rfl
theorem gt_X5_18 (C : gC p s m args c RX5 cc nL D (xty cI cT cS) 241 (xE cI cT cS) ad) (w : gWd D 241 (xE cI cT cS) ad M s H locs) (hdg : decode cc pc = .ok (.getfield 18, 3)) (kk : W p l e R s m args below meth c H locs cells slots Q (F0 m (pc + 3) ls (.ref (ad 9) :: rest))) : W p l e R s m args below meth c H locs cells slots Q (F0 m pc ls (.ref (ad 6) :: rest)) := g_get C w ob_X5 rfl ginX5 2 (by decide) kf_X5_18 rfl hdg kk
theorem kf_X0_18 : Cond.fieldLink RX0 18 (TX0 2).1 (TX0 2).2.1 (TX0 2).2.2.1 ∈ gW := gw_in 114 (by decide +kernel) rfl
theorem gt_X0_18 (C : gC p s m args c RX0 cc nL D (xty cI cT cS) 241 (xE cI cT cS) ad) (w : gWd D 241 (xE cI cT cS) ad M s H locs) (hdg : decode cc pc = .ok (.getfield 18, 3)) (kk : W p l e R s m args below meth c H locs cells slots Q (F0 m (pc + 3) ls (.int (M 10 2) :: rest))) : W p l e R s m args below meth c H locs cells slots Q (F0 m pc ls (.ref (ad 10) :: rest)) := g_get C w ob_X0 rfl ginX0 2 (by decide) kf_X0_18 rfl hdg kk
theorem kf_X0_11 : Cond.fieldLink RX0 11 (TX0 0).1 (TX0 0).2.1 (TX0 0).2.2.1 ∈ gW := gw_in 110 (by decide +kernel) rfl
theorem gt_X0_11 (C : gC p s m args c RX0 cc nL D (xty cI cT cS) 241 (xE cI cT cS) ad) (w : gWd D 241 (xE cI cT cS) ad M s H locs) (hdg : decode cc pc = .ok (.getfield 11, 3)) (kk : W p l e R s m args below meth c H locs cells slots Q (F0 m (pc + 3) ls (.ref (ad 11) :: rest))) : W p l e R s m args below meth c H locs cells slots Q (F0 m pc ls (.ref (ad 10) :: rest)) := g_get C w ob_X0 rfl ginX0 0 (by decide) kf_X0_11 rfl hdg kk
theorem pt_X0_18 {x : Int32} (C : gC p s m args c RX0 cc nL D (xty cI cT cS) 241 (xE cI cT cS) ad) (w : gWd D 241 (xE cI cT cS) ad M s H locs) (e1 : stF M 10 2 x = some M1) (hdg : decode cc pc = .ok (.putfield 18, 3)) (kk : ∀ (H1 : Heap) (locs1 : List Loc), gWd D 241 (xE cI cT cS) ad M1 s H1 locs1 → W p l e R s m args below meth c H1 locs1 cells slots Q (F0 m (pc + 3) ls rest)) : W p l e R s m args below meth c H locs cells slots Q (F0 m pc ls (.int x :: .ref (ad 10) :: rest)) := by
  cases e1
  exact g_put C w ob_X0 rfl ginX0 tyX0 tyX0_ok nmX0 2 (by decide) kf_X0_18 rfl rfl rfl (Nat.le_of_ble_eq_true rfl) (by simp [fX0, mset, upd]) hdg kk
theorem kf_X0_22 : Cond.fieldLink RX0 22 (TX0 3).1 (TX0 3).2.1 (TX0 3).2.2.1 ∈ gW := gw_in 116 (by decide +kernel) rfl
theorem gt_X0_22 (C : gC p s m args c RX0 cc nL D (xty cI cT cS) 241 (xE cI cT cS) ad) (w : gWd D 241 (xE cI cT cS) ad M s H locs) (hdg : decode cc pc = .ok (.getfield 22, 3)) (kk : W p l e R s m args below meth c H locs cells slots Q (F0 m (pc + 3) ls (.int (M 10 3) :: rest))) : W p l e R s m args below meth c H locs cells slots Q (F0 m pc ls (.ref (ad 10) :: rest)) := g_get C w ob_X0 rfl ginX0 3 (by decide) kf_X0_22 rfl hdg kk
theorem kf_X0_15 : Cond.fieldLink RX0 15 (TX0 1).1 (TX0 1).2.1 (TX0 1).2.2.1 ∈ gW := gw_in 112 (by decide +kernel) rfl
theorem gt_X0_15 (C : gC p s m args c RX0 cc nL D (xty cI cT cS) 241 (xE cI cT cS) ad) (w : gWd D 241 (xE cI cT cS) ad M s H locs) (hdg : decode cc pc = .ok (.getfield 15, 3)) (kk : W p l e R s m args below meth c H locs cells slots Q (F0 m (pc + 3) ls (.ref (ad 12) :: rest))) : W p l e R s m args below meth c H locs cells slots Q (F0 m pc ls (.ref (ad 10) :: rest)) := g_get C w ob_X0 rfl ginX0 1 (by decide) kf_X0_15 rfl hdg kk
theorem pt_X0_22 {x : Int32} (C : gC p s m args c RX0 cc nL D (xty cI cT cS) 241 (xE cI cT cS) ad) (w : gWd D 241 (xE cI cT cS) ad M s H locs) (e1 : stF M 10 3 x = some M1) (hdg : decode cc pc = .ok (.putfield 22, 3)) (kk : ∀ (H1 : Heap) (locs1 : List Loc), gWd D 241 (xE cI cT cS) ad M1 s H1 locs1 → W p l e R s m args below meth c H1 locs1 cells slots Q (F0 m (pc + 3) ls rest)) : W p l e R s m args below meth c H locs cells slots Q (F0 m pc ls (.int x :: .ref (ad 10) :: rest)) := by
  cases e1
  exact g_put C w ob_X0 rfl ginX0 tyX0 tyX0_ok nmX0 3 (by decide) kf_X0_22 rfl rfl rfl (Nat.le_of_ble_eq_true rfl) (by simp [fX0, mset, upd]) hdg kk
def f_J7_fill_53178_5b (n0 : Nat) (k5_ : (Nat → Int32 → Int32 → Int32 → Mem → Option (Int32 × Mem))) (k0 : Nat) (x1 : Int32) (x2 : Int32) (x3 : Int32) (M : Mem) : Option (Int32 × Mem) :=
  if x3 ≤ x2 then (some ((0 : Int32), M)) else ((stI M k0 n0 x2 x1).bind fun M2 =>
  k5_ k0 x1 (x2 + 1) x3 M2)
def f_J7_fill_53178_5 (n0 : Nat) : Nat → Nat → Int32 → Int32 → Int32 → Mem → Option (Int32 × Mem)
  | 0, _, _, _, _, _ => none
  | n + 1, k0, x1, x2, x3, M => f_J7_fill_53178_5b n0 (f_J7_fill_53178_5 n0 n) k0 x1 x2 x3 M
def f_J7_fill_53178_0 (n0 : Nat) (k0 : Nat) (x1 : Int32) (M : Mem) : Option (Int32 × Mem) :=
  f_J7_fill_53178_5 n0 FU k0 x1 (0 : Int32) (Int32.ofNat n0) M
set_option maxRecDepth 100000 in
set_option maxHeartbeats 4000000 in
theorem w_J7_fill_53178_5b {n0 : Nat} (C : gC p s m args c RJ7 cJ7_fill_53178 4 D (xty cI cT cS) 241 (xE cI cT cS) ad) (hr : meth.sig.returnType = none) (hq : meth.locks = false) {k5_ : (Nat → Int32 → Int32 → Int32 → Mem → Option (Int32 × Mem))} {Rs : Int32 × Mem} (hk5_ : ∀ {k0 : Nat} {x1 : Int32} {x2 : Int32} {x3 : Int32} {M : Mem} {H : Heap} {locs : List Loc} {ls : Array Slot} (h0 : gAr 241 (xE cI cT cS) ad cI k0 n0), gWd D 241 (xE cI cT cS) ad M s H locs → lv_has ls 4 [(0, .ref (ad k0)), (1, .int x1), (2, .int x2), (3, .int x3)] → k5_ k0 x1 x2 x3 M = some Rs → W p l e (rmH 0) s m args below meth c H locs 0 0 (MQ below (qV D 241 (xE cI cT cS) ad Rs) args s 0 0 (gA 241 ad)) (F0 m 5 ls [])) {k0 : Nat} {x1 : Int32} {x2 : Int32} {x3 : Int32} (h0 : gAr 241 (xE cI cT cS) ad cI k0 n0) (w : gWd D 241 (xE cI cT cS) ad M s H locs) (hl : lv_has ls 4 [(0, .ref (ad k0)), (1, .int x1), (2, .int x2), (3, .int x3)]) (hf : f_J7_fill_53178_5b n0 k5_ k0 x1 x2 x3 M = some Rs) : W p l e (rmH 0) s m args below meth c H locs 0 0 (MQ below (qV D 241 (xE cI cT cS) ad Rs) args s 0 0 (gA 241 ad)) (F0 m 5 ls []) := by
  unfold f_J7_fill_53178_5b at hf
  have hx := C.1.1
  have hb := C.1.2.1
  have hi := C.2.2.2.1
  refine lv_iload_n hx hb dJ7_fill_53178_5 rfl (lv_at hl 2 rfl) ?_
  refine lv_iload_n hx hb dJ7_fill_53178_6 rfl (lv_at hl 3 rfl) ?_
  refine lv_icmp_ge (tgt := 20) hx hb dJ7_fill_53178_7 (by decide) (fun c1 => ?_) (fun c1 => ?_)
  · replace hf := (if_pos c1).symm.trans hf
    exact g_vret C w hr hq hf dJ7_fill_53178_20
  · replace hf := (if_neg c1).symm.trans hf
    refine lv_aload_n hx hb dJ7_fill_53178_10 rfl (lv_at hl 0 rfl) ?_
    refine lv_iload_n hx hb dJ7_fill_53178_11 rfl (lv_at hl 2 rfl) ?_
    refine lv_iload_n hx hb dJ7_fill_53178_12 rfl (lv_at hl 1 rfl) ?_
    obtain ⟨M2, e3, hf⟩ := bindS hf
    refine g_iast C w h0 e3 dJ7_fill_53178_13 (fun H locs w => ?_)
    refine lv_iinc (v := (x2 + 1)) (lv' := [(2, .int (x2 + 1)), (0, .ref (ad k0)), (1, .int x1), (3, .int x3)]) hx hb dJ7_fill_53178_14 hl (k := 2) rfl rfl (by decide) rfl (fun ls hl => ?_)
    refine lv_goto (tgt := 5) hx hb dJ7_fill_53178_17 (by decide) ?_
    exact hk5_ h0 w (lv_sub hl [1, 2, 0, 3] rfl) hf
theorem w_J7_fill_53178_5 {n0 : Nat} (C : gC p s m args c RJ7 cJ7_fill_53178 4 D (xty cI cT cS) 241 (xE cI cT cS) ad) (hr : meth.sig.returnType = none) (hq : meth.locks = false) {Rs : Int32 × Mem} : ∀ (n : Nat) {k0 : Nat} {x1 : Int32} {x2 : Int32} {x3 : Int32} {M : Mem} {H : Heap} {locs : List Loc} {ls : Array Slot} (h0 : gAr 241 (xE cI cT cS) ad cI k0 n0), gWd D 241 (xE cI cT cS) ad M s H locs → lv_has ls 4 [(0, .ref (ad k0)), (1, .int x1), (2, .int x2), (3, .int x3)] → f_J7_fill_53178_5 n0 n k0 x1 x2 x3 M = some Rs → W p l e (rmH 0) s m args below meth c H locs 0 0 (MQ below (qV D 241 (xE cI cT cS) ad Rs) args s 0 0 (gA 241 ad)) (F0 m 5 ls []) := by
  intro n
  induction n with
  | zero =>
    intro k0 x1 x2 x3 M H locs ls h0 w hl hf
    cases hf
  | succ n ih =>
    intro k0 x1 x2 x3 M H locs ls h0 w hl hf
    exact w_J7_fill_53178_5b C hr hq ih h0 w hl hf
set_option maxRecDepth 100000 in
set_option maxHeartbeats 4000000 in
theorem w_J7_fill_53178_0 {n0 : Nat} (C : gC p s m args c RJ7 cJ7_fill_53178 4 D (xty cI cT cS) 241 (xE cI cT cS) ad) (hr : meth.sig.returnType = none) (hq : meth.locks = false) {Rs : Int32 × Mem} {k0 : Nat} {x1 : Int32} (h0 : gAr 241 (xE cI cT cS) ad cI k0 n0) (w : gWd D 241 (xE cI cT cS) ad M s H locs) (hl : lv_has ls 4 [(0, .ref (ad k0)), (1, .int x1)]) (hf : f_J7_fill_53178_0 n0 k0 x1 M = some Rs) : W p l e (rmH 0) s m args below meth c H locs 0 0 (MQ below (qV D 241 (xE cI cT cS) ad Rs) args s 0 0 (gA 241 ad)) (F0 m 0 ls []) := by
  unfold f_J7_fill_53178_0 at hf
  have hx := C.1.1
  have hb := C.1.2.1
  have hi := C.2.2.2.1
  refine lv_iconst (v := 0) hx hb dJ7_fill_53178_0 (by decide) ?_
  refine lv_istore_n (lv' := [(2, .int (0 : Int32)), (0, .ref (ad k0)), (1, .int x1)]) hx hb dJ7_fill_53178_1 rfl hl (by decide) rfl (fun ls hl => ?_)
  refine lv_aload_n hx hb dJ7_fill_53178_2 rfl (lv_at hl 1 rfl) ?_
  refine g_alen (v := Int32.ofNat n0) C w h0 rfl dJ7_fill_53178_3 ?_
  refine lv_istore_n (lv' := [(3, .int (Int32.ofNat n0)), (2, .int (0 : Int32)), (0, .ref (ad k0)), (1, .int x1)]) hx hb dJ7_fill_53178_4 rfl hl (by decide) rfl (fun ls hl => ?_)
  exact w_J7_fill_53178_5 C hr hq FU h0 w (lv_sub hl [2, 3, 1, 0] rfl) hf
abbrev f_J7_fill_53178 (n0 : Nat) (k0 : Nat) (x1 : Int32) (M : Mem) : Option (Int32 × Mem) := f_J7_fill_53178_0 n0 k0 x1 M
theorem c_J7_fill_53178 {n0 : Nat} (hi : gInj 241 ad) {k0 : Nat} {x1 : Int32} (h0 : gAr 241 (xE cI cT cS) ad cI k0 n0) {Rs : Int32 × Mem} (hf : f_J7_fill_53178 n0 k0 x1 M = some Rs) : gMet l yJ7_fill_53178 cJ7_fill_53178 4 none 0 D (xty cI cT cS) 241 (xE cI cT cS) ad [.ref (ad k0), .int x1] M (qV D 241 (xE cI cT cS) ad Rs) := gMet_of (by decide) hi (xE_loc cI cT cS) (Nat.le_of_ble_eq_true rfl) (fun p e s m args below meth c ls C hr hq w hl => w_J7_fill_53178_0 C hr hq h0 w hl hf)
def f_X2_empty_0 (k0 : Nat) (M : Mem) : Option (Int32 × Mem) :=
  (stF M k0 1 (0 : Int32)).bind fun M1 =>
  (stF M1 k0 2 (0 : Int32)).bind fun M3 =>
  some ((0 : Int32), M3)
set_option maxRecDepth 100000 in
set_option maxHeartbeats 4000000 in
theorem w_X2_empty_0 (C : gC p s m args c RX2 cX2_empty 1 D (xty cI cT cS) 241 (xE cI cT cS) ad) (hr : meth.sig.returnType = none) (hq : meth.locks = false) {Rs : Int32 × Mem} {k0 : Nat} (h0 : xR k0) (w : gWd D 241 (xE cI cT cS) ad M s H locs) (hl : lv_has ls 1 [(0, .ref (ad k0))]) (hf : f_X2_empty_0  k0 M = some Rs) : W p l e (rmH 0) s m args below meth c H locs 0 0 (MQ below (qV D 241 (xE cI cT cS) ad Rs) args s 0 0 (gA 241 ad)) (F0 m 0 ls []) := by
  unfold f_X2_empty_0 at hf
  have hx := C.1.1
  have hb := C.1.2.1
  have hi := C.2.2.2.1
  refine lv_aload_n hx hb dX2_empty_0 rfl (lv_at hl 0 rfl) ?_
  refine lv_iconst (v := 0) hx hb dX2_empty_1 (by decide) ?_
  obtain ⟨M1, e2, hf⟩ := bindS hf
  refine pt_X2_15 h0 C w e2 dX2_empty_2 (fun H locs w => ?_)
  refine lv_aload_n hx hb dX2_empty_5 rfl (lv_at hl 0 rfl) ?_
  refine lv_iconst (v := 0) hx hb dX2_empty_6 (by decide) ?_
  obtain ⟨M3, e4, hf⟩ := bindS hf
  refine pt_X2_19 h0 C w e4 dX2_empty_7 (fun H locs w => ?_)
  exact g_vret C w hr hq hf dX2_empty_10
abbrev f_X2_empty (k0 : Nat) (M : Mem) : Option (Int32 × Mem) := f_X2_empty_0 k0 M
theorem c_X2_empty (hi : gInj 241 ad) {k0 : Nat} (h0 : xR k0) {Rs : Int32 × Mem} (hf : f_X2_empty k0 M = some Rs) : gMet l yX2_empty cX2_empty 1 none 0 D (xty cI cT cS) 241 (xE cI cT cS) ad [.ref (ad k0)] M (qV D 241 (xE cI cT cS) ad Rs) := gMet_of (by decide) hi (xE_loc cI cT cS) (Nat.le_of_ble_eq_true rfl) (fun p e s m args below meth c ls C hr hq w hl => w_X2_empty_0 C hr hq h0 w hl hf)
def f_X2_has_0 (k0 : Nat) (x1 : Int32) (M : Mem) : Option (Int32 × Mem) :=
  if (((M k0 2) >>> (x1 &&& 31)) &&& (1 : Int32)) = 0 then (rtZ (0 : Int32) M) else (rtZ (1 : Int32) M)
set_option maxRecDepth 100000 in
set_option maxHeartbeats 4000000 in
theorem w_X2_has_0 (C : gC p s m args c RX2 cX2_has 2 D (xty cI cT cS) 241 (xE cI cT cS) ad) (hr : meth.sig.returnType = (some .boolean)) (hq : meth.locks = false) {Rs : Int32 × Mem} {k0 : Nat} {x1 : Int32} (h0 : xR k0) (w : gWd D 241 (xE cI cT cS) ad M s H locs) (hl : lv_has ls 2 [(0, .ref (ad k0)), (1, .int x1)]) (hf : f_X2_has_0  k0 x1 M = some Rs) : W p l e (rmH 0) s m args below meth c H locs 0 0 (MQ below (qI D 241 (xE cI cT cS) ad Rs) args s 0 0 (gA 241 ad)) (F0 m 0 ls []) := by
  unfold f_X2_has_0 at hf
  have hx := C.1.1
  have hb := C.1.2.1
  have hi := C.2.2.2.1
  refine lv_aload_n hx hb dX2_has_0 rfl (lv_at hl 0 rfl) ?_
  refine gt_X2_19 h0 C w dX2_has_1 ?_
  refine lv_iload_n hx hb dX2_has_4 rfl (lv_at hl 1 rfl) ?_
  refine lv_ishr hx hb dX2_has_5 ?_
  refine lv_iconst (v := 1) hx hb dX2_has_6 (by decide) ?_
  refine lv_iand hx hb dX2_has_7 ?_
  refine lv_if_eq (tgt := 15) hx hb dX2_has_8 (by decide) (fun c1 => ?_) (fun c1 => ?_)
  · replace hf := (if_pos c1).symm.trans hf
    refine lv_iconst (v := 0) hx hb dX2_has_15 (by decide) ?_
    exact g_zret C w hr hq hf dX2_has_16
  · replace hf := (if_neg c1).symm.trans hf
    refine lv_iconst (v := 1) hx hb dX2_has_11 (by decide) ?_
    refine lv_goto (tgt := 16) hx hb dX2_has_12 (by decide) ?_
    exact g_zret C w hr hq hf dX2_has_16
abbrev f_X2_has (k0 : Nat) (x1 : Int32) (M : Mem) : Option (Int32 × Mem) := f_X2_has_0 k0 x1 M
theorem c_X2_has (hi : gInj 241 ad) {k0 : Nat} {x1 : Int32} (h0 : xR k0) {Rs : Int32 × Mem} (hf : f_X2_has k0 x1 M = some Rs) : gMet l yX2_has cX2_has 2 (some .boolean) 0 D (xty cI cT cS) 241 (xE cI cT cS) ad [.ref (ad k0), .int x1] M (qI D 241 (xE cI cT cS) ad Rs) := gMet_of (by decide) hi (xE_loc cI cT cS) (Nat.le_of_ble_eq_true rfl) (fun p e s m args below meth c ls C hr hq w hl => w_X2_has_0 C hr hq h0 w hl hf)
def f_X2_addOnce_0 (k0 : Nat) (x1 : Int32) (M : Mem) : Option (Int32 × Mem) :=
  (f_X2_has k0 x1 M).bind fun (v3, M1) =>
  if v3 = 0 then (if (16 : Int32) ≤ (M1 k0 1) then (some ((0 : Int32), M1)) else ((stI M1 (k0 + 1) 16 (M1 k0 1) x1).bind fun M6 =>
  (stF M6 k0 1 ((M6 k0 1) + (1 : Int32))).bind fun M8 =>
  (stF M8 k0 2 ((M8 k0 2) ||| ((1 : Int32) <<< (x1 &&& 31)))).bind fun M10 =>
  some ((0 : Int32), M10))) else (some ((0 : Int32), M1))
set_option maxRecDepth 100000 in
set_option maxHeartbeats 4000000 in
theorem w_X2_addOnce_0 (C : gC p s m args c RX2 cX2_addOnce 2 D (xty cI cT cS) 241 (xE cI cT cS) ad) (hr : meth.sig.returnType = none) (hq : meth.locks = false) {Rs : Int32 × Mem} {k0 : Nat} {x1 : Int32} (h0 : xR k0) (w : gWd D 241 (xE cI cT cS) ad M s H locs) (hl : lv_has ls 2 [(0, .ref (ad k0)), (1, .int x1)]) (hf : f_X2_addOnce_0  k0 x1 M = some Rs) : W p l e (rmH 1) s m args below meth c H locs 0 0 (MQ below (qV D 241 (xE cI cT cS) ad Rs) args s 0 0 (gA 241 ad)) (F0 m 0 ls []) := by
  unfold f_X2_addOnce_0 at hf
  have hx := C.1.1
  have hb := C.1.2.1
  have hi := C.2.2.2.1
  refine lv_aload_n hx hb dX2_addOnce_0 rfl (lv_at hl 0 rfl) ?_
  refine lv_iload_n hx hb dX2_addOnce_1 rfl (lv_at hl 1 rfl) ?_
  obtain ⟨⟨v3, M1⟩, e2, hf⟩ := bindS hf
  refine g_backI w (g_runV (rest := []) C w (c_X2_has hi h0 e2) (ob_X2 h0) rfl gv_X2_22 md_X2_has rfl (by omega) (by decide) hl.1 rfl (Nat.le_of_ble_eq_true rfl) dX2_addOnce_2) (fun H locs w => ?_)
  refine lv_if_ne (tgt := 49) hx hb dX2_addOnce_5 (by decide) (fun c4 => ?_) (fun c4 => ?_)
  · replace hf := (if_neg c4).symm.trans hf
    exact g_vret C w hr hq hf dX2_addOnce_49
  · replace hf := (if_pos c4).symm.trans hf
    refine lv_aload_n hx hb dX2_addOnce_8 rfl (lv_at hl 0 rfl) ?_
    refine gt_X2_15 h0 C w dX2_addOnce_9 ?_
    refine lv_bipush (v := 16) hx hb dX2_addOnce_12 (by decide) ?_
    refine lv_icmp_ge (tgt := 49) hx hb dX2_addOnce_14 (by decide) (fun c5 => ?_) (fun c5 => ?_)
    · replace hf := (if_pos c5).symm.trans hf
      exact g_vret C w hr hq hf dX2_addOnce_49
    · replace hf := (if_neg c5).symm.trans hf
      refine lv_aload_n hx hb dX2_addOnce_17 rfl (lv_at hl 0 rfl) ?_
      refine gt_X2_9 h0 C w dX2_addOnce_18 ?_
      refine lv_aload_n hx hb dX2_addOnce_21 rfl (lv_at hl 0 rfl) ?_
      refine gt_X2_15 h0 C w dX2_addOnce_22 ?_
      refine lv_iload_n hx hb dX2_addOnce_25 rfl (lv_at hl 1 rfl) ?_
      obtain ⟨M6, e7, hf⟩ := bindS hf
      refine g_iast C w (xR_a h0) e7 dX2_addOnce_26 (fun H locs w => ?_)
      refine lv_aload_n hx hb dX2_addOnce_27 rfl (lv_at hl 0 rfl) ?_
      refine lv_dup hx hb dX2_addOnce_28 rfl ?_
      refine gt_X2_15 h0 C w dX2_addOnce_29 ?_
      refine lv_iconst (v := 1) hx hb dX2_addOnce_32 (by decide) ?_
      refine lv_iadd hx hb dX2_addOnce_33 ?_
      obtain ⟨M8, e9, hf⟩ := bindS hf
      refine pt_X2_15 h0 C w e9 dX2_addOnce_34 (fun H locs w => ?_)
      refine lv_aload_n hx hb dX2_addOnce_37 rfl (lv_at hl 0 rfl) ?_
      refine lv_dup hx hb dX2_addOnce_38 rfl ?_
      refine gt_X2_19 h0 C w dX2_addOnce_39 ?_
      refine lv_iconst (v := 1) hx hb dX2_addOnce_42 (by decide) ?_
      refine lv_iload_n hx hb dX2_addOnce_43 rfl (lv_at hl 1 rfl) ?_
      refine lv_ishl hx hb dX2_addOnce_44 ?_
      refine lv_ior hx hb dX2_addOnce_45 ?_
      obtain ⟨M10, e11, hf⟩ := bindS hf
      refine pt_X2_19 h0 C w e11 dX2_addOnce_46 (fun H locs w => ?_)
      exact g_vret C w hr hq hf dX2_addOnce_49
abbrev f_X2_addOnce (k0 : Nat) (x1 : Int32) (M : Mem) : Option (Int32 × Mem) := f_X2_addOnce_0 k0 x1 M
theorem c_X2_addOnce (hi : gInj 241 ad) {k0 : Nat} {x1 : Int32} (h0 : xR k0) {Rs : Int32 × Mem} (hf : f_X2_addOnce k0 x1 M = some Rs) : gMet l yX2_addOnce cX2_addOnce 2 none 1 D (xty cI cT cS) 241 (xE cI cT cS) ad [.ref (ad k0), .int x1] M (qV D 241 (xE cI cT cS) ad Rs) := gMet_of (by decide) hi (xE_loc cI cT cS) (Nat.le_of_ble_eq_true rfl) (fun p e s m args below meth c ls C hr hq w hl => w_X2_addOnce_0 C hr hq h0 w hl hf)
def f_X2_addAllOnce_2b (k2_ : (Nat → Nat → Int32 → Mem → Option (Int32 × Mem))) (k0 : Nat) (k1 : Nat) (x2 : Int32) (M : Mem) : Option (Int32 × Mem) :=
  if (M k1 1) ≤ x2 then (some ((0 : Int32), M)) else ((ldI M (k1 + 1) 16 x2).bind fun v2 =>
  (f_X2_addOnce k0 v2 M).bind fun (v6, M4) =>
  k2_ k0 k1 (x2 + 1) M4)
def f_X2_addAllOnce_2 : Nat → Nat → Nat → Int32 → Mem → Option (Int32 × Mem)
  | 0, _, _, _, _ => none
  | n + 1, k0, k1, x2, M => f_X2_addAllOnce_2b (f_X2_addAllOnce_2  n) k0 k1 x2 M
def f_X2_addAllOnce_0 (k0 : Nat) (k1 : Nat) (M : Mem) : Option (Int32 × Mem) :=
  f_X2_addAllOnce_2 FU k0 k1 (0 : Int32) M
set_option maxRecDepth 100000 in
set_option maxHeartbeats 4000000 in
theorem w_X2_addAllOnce_2b (C : gC p s m args c RX2 cX2_addAllOnce 3 D (xty cI cT cS) 241 (xE cI cT cS) ad) (hr : meth.sig.returnType = none) (hq : meth.locks = false) {k2_ : (Nat → Nat → Int32 → Mem → Option (Int32 × Mem))} {Rs : Int32 × Mem} (hk2_ : ∀ {k0 : Nat} {k1 : Nat} {x2 : Int32} {M : Mem} {H : Heap} {locs : List Loc} {ls : Array Slot} (h0 : xR k0) (h1 : xR k1), gWd D 241 (xE cI cT cS) ad M s H locs → lv_has ls 3 [(0, .ref (ad k0)), (1, .ref (ad k1)), (2, .int x2)] → k2_ k0 k1 x2 M = some Rs → W p l e (rmH 2) s m args below meth c H locs 0 0 (MQ below (qV D 241 (xE cI cT cS) ad Rs) args s 0 0 (gA 241 ad)) (F0 m 2 ls [])) {k0 : Nat} {k1 : Nat} {x2 : Int32} (h0 : xR k0) (h1 : xR k1) (w : gWd D 241 (xE cI cT cS) ad M s H locs) (hl : lv_has ls 3 [(0, .ref (ad k0)), (1, .ref (ad k1)), (2, .int x2)]) (hf : f_X2_addAllOnce_2b k2_ k0 k1 x2 M = some Rs) : W p l e (rmH 2) s m args below meth c H locs 0 0 (MQ below (qV D 241 (xE cI cT cS) ad Rs) args s 0 0 (gA 241 ad)) (F0 m 2 ls []) := by
  unfold f_X2_addAllOnce_2b at hf
  have hx := C.1.1
  have hb := C.1.2.1
  have hi := C.2.2.2.1
  refine lv_iload_n hx hb dX2_addAllOnce_2 rfl (lv_at hl 2 rfl) ?_
  refine lv_aload_n hx hb dX2_addAllOnce_3 rfl (lv_at hl 1 rfl) ?_
  refine gt_X2_15 h1 C w dX2_addAllOnce_4 ?_
  refine lv_icmp_ge (tgt := 26) hx hb dX2_addAllOnce_7 (by decide) (fun c1 => ?_) (fun c1 => ?_)
  · replace hf := (if_pos c1).symm.trans hf
    exact g_vret C w hr hq hf dX2_addAllOnce_26
  · replace hf := (if_neg c1).symm.trans hf
    refine lv_aload_n hx hb dX2_addAllOnce_10 rfl (lv_at hl 0 rfl) ?_
    refine lv_aload_n hx hb dX2_addAllOnce_11 rfl (lv_at hl 1 rfl) ?_
    refine gt_X2_9 h1 C w dX2_addAllOnce_12 ?_
    refine lv_iload_n hx hb dX2_addAllOnce_15 rfl (lv_at hl 2 rfl) ?_
    obtain ⟨v2, e3, hf⟩ := bindS hf
    refine g_iald C w (xR_a h1) e3 dX2_addAllOnce_16 ?_
    obtain ⟨⟨v6, M4⟩, e5, hf⟩ := bindS hf
    refine g_backV w (g_runV (rest := []) C w (c_X2_addOnce hi h0 e5) (ob_X2 h0) rfl gv_X2_26 md_X2_addOnce rfl (by omega) (by decide) hl.1 rfl (Nat.le_of_ble_eq_true rfl) dX2_addAllOnce_17) (fun H locs w => ?_)
    refine lv_iinc (v := (x2 + 1)) (lv' := [(2, .int (x2 + 1)), (0, .ref (ad k0)), (1, .ref (ad k1))]) hx hb dX2_addAllOnce_20 hl (k := 2) rfl rfl (by decide) rfl (fun ls hl => ?_)
    refine lv_goto (tgt := 2) hx hb dX2_addAllOnce_23 (by decide) ?_
    exact hk2_ h0 h1 w (lv_sub hl [1, 2, 0] rfl) hf
theorem w_X2_addAllOnce_2 (C : gC p s m args c RX2 cX2_addAllOnce 3 D (xty cI cT cS) 241 (xE cI cT cS) ad) (hr : meth.sig.returnType = none) (hq : meth.locks = false) {Rs : Int32 × Mem} : ∀ (n : Nat) {k0 : Nat} {k1 : Nat} {x2 : Int32} {M : Mem} {H : Heap} {locs : List Loc} {ls : Array Slot} (h0 : xR k0) (h1 : xR k1), gWd D 241 (xE cI cT cS) ad M s H locs → lv_has ls 3 [(0, .ref (ad k0)), (1, .ref (ad k1)), (2, .int x2)] → f_X2_addAllOnce_2  n k0 k1 x2 M = some Rs → W p l e (rmH 2) s m args below meth c H locs 0 0 (MQ below (qV D 241 (xE cI cT cS) ad Rs) args s 0 0 (gA 241 ad)) (F0 m 2 ls []) := by
  intro n
  induction n with
  | zero =>
    intro k0 k1 x2 M H locs ls h0 h1 w hl hf
    cases hf
  | succ n ih =>
    intro k0 k1 x2 M H locs ls h0 h1 w hl hf
    exact w_X2_addAllOnce_2b C hr hq ih h0 h1 w hl hf
set_option maxRecDepth 100000 in
set_option maxHeartbeats 4000000 in
theorem w_X2_addAllOnce_0 (C : gC p s m args c RX2 cX2_addAllOnce 3 D (xty cI cT cS) 241 (xE cI cT cS) ad) (hr : meth.sig.returnType = none) (hq : meth.locks = false) {Rs : Int32 × Mem} {k0 : Nat} {k1 : Nat} (h0 : xR k0) (h1 : xR k1) (w : gWd D 241 (xE cI cT cS) ad M s H locs) (hl : lv_has ls 3 [(0, .ref (ad k0)), (1, .ref (ad k1))]) (hf : f_X2_addAllOnce_0  k0 k1 M = some Rs) : W p l e (rmH 2) s m args below meth c H locs 0 0 (MQ below (qV D 241 (xE cI cT cS) ad Rs) args s 0 0 (gA 241 ad)) (F0 m 0 ls []) := by
  unfold f_X2_addAllOnce_0 at hf
  have hx := C.1.1
  have hb := C.1.2.1
  have hi := C.2.2.2.1
  refine lv_iconst (v := 0) hx hb dX2_addAllOnce_0 (by decide) ?_
  refine lv_istore_n (lv' := [(2, .int (0 : Int32)), (0, .ref (ad k0)), (1, .ref (ad k1))]) hx hb dX2_addAllOnce_1 rfl hl (by decide) rfl (fun ls hl => ?_)
  exact w_X2_addAllOnce_2 C hr hq FU h0 h1 w (lv_sub hl [1, 2, 0] rfl) hf
abbrev f_X2_addAllOnce (k0 : Nat) (k1 : Nat) (M : Mem) : Option (Int32 × Mem) := f_X2_addAllOnce_0 k0 k1 M
theorem c_X2_addAllOnce (hi : gInj 241 ad) {k0 : Nat} {k1 : Nat} (h0 : xR k0) (h1 : xR k1) {Rs : Int32 × Mem} (hf : f_X2_addAllOnce k0 k1 M = some Rs) : gMet l yX2_addAllOnce cX2_addAllOnce 3 none 2 D (xty cI cT cS) 241 (xE cI cT cS) ad [.ref (ad k0), .ref (ad k1)] M (qV D 241 (xE cI cT cS) ad Rs) := gMet_of (by decide) hi (xE_loc cI cT cS) (Nat.le_of_ble_eq_true rfl) (fun p e s m args below meth c ls C hr hq w hl => w_X2_addAllOnce_0 C hr hq h0 h1 w hl hf)
def f_X1_numberOf_0 (k0 : Nat) (x1 : Int32) (x2 : Int32) (M : Mem) : Option (Int32 × Mem) :=
  (ldI M (k0 + 2) 80 ((x1 * (5 : Int32)) + x2)).bind fun v1 =>
  some (v1, M)
set_option maxRecDepth 100000 in
set_option maxHeartbeats 4000000 in
theorem w_X1_numberOf_0 (C : gC p s m args c RX1 cX1_numberOf 3 D (xty cI cT cS) 241 (xE cI cT cS) ad) (hr : meth.sig.returnType = (some .int)) (hq : meth.locks = false) {Rs : Int32 × Mem} {k0 : Nat} {x1 : Int32} {x2 : Int32} (h0 : xP k0) (w : gWd D 241 (xE cI cT cS) ad M s H locs) (hl : lv_has ls 3 [(0, .ref (ad k0)), (1, .int x1), (2, .int x2)]) (hf : f_X1_numberOf_0  k0 x1 x2 M = some Rs) : W p l e (rmH 0) s m args below meth c H locs 0 0 (MQ below (qI D 241 (xE cI cT cS) ad Rs) args s 0 0 (gA 241 ad)) (F0 m 0 ls []) := by
  unfold f_X1_numberOf_0 at hf
  have hx := C.1.1
  have hb := C.1.2.1
  have hi := C.2.2.2.1
  refine lv_aload_n hx hb dX1_numberOf_0 rfl (lv_at hl 0 rfl) ?_
  refine gt_X1_15 h0 C w dX1_numberOf_1 ?_
  refine lv_iload_n hx hb dX1_numberOf_4 rfl (lv_at hl 1 rfl) ?_
  refine lv_iconst (v := 5) hx hb dX1_numberOf_5 (by decide) ?_
  refine lv_imul hx hb dX1_numberOf_6 ?_
  refine lv_iload_n hx hb dX1_numberOf_7 rfl (lv_at hl 2 rfl) ?_
  refine lv_iadd hx hb dX1_numberOf_8 ?_
  obtain ⟨v1, e2, hf⟩ := bindS hf
  refine g_iald C w (xP_n h0) e2 dX1_numberOf_9 ?_
  exact g_iret C w hr hq hf dX1_numberOf_10
abbrev f_X1_numberOf (k0 : Nat) (x1 : Int32) (x2 : Int32) (M : Mem) : Option (Int32 × Mem) := f_X1_numberOf_0 k0 x1 x2 M
theorem c_X1_numberOf (hi : gInj 241 ad) {k0 : Nat} {x1 : Int32} {x2 : Int32} (h0 : xP k0) {Rs : Int32 × Mem} (hf : f_X1_numberOf k0 x1 x2 M = some Rs) : gMet l yX1_numberOf cX1_numberOf 3 (some .int) 0 D (xty cI cT cS) 241 (xE cI cT cS) ad [.ref (ad k0), .int x1, .int x2] M (qI D 241 (xE cI cT cS) ad Rs) := gMet_of (by decide) hi (xE_loc cI cT cS) (Nat.le_of_ble_eq_true rfl) (fun p e s m args below meth c ls C hr hq w hl => w_X1_numberOf_0 C hr hq h0 w hl hf)
def f_X1_setNumber_0 (k0 : Nat) (x1 : Int32) (x2 : Int32) (x3 : Int32) (M : Mem) : Option (Int32 × Mem) :=
  (stI M (k0 + 2) 80 ((x1 * (5 : Int32)) + x2) x3).bind fun M1 =>
  some ((0 : Int32), M1)
set_option maxRecDepth 100000 in
set_option maxHeartbeats 4000000 in
theorem w_X1_setNumber_0 (C : gC p s m args c RX1 cX1_setNumber 4 D (xty cI cT cS) 241 (xE cI cT cS) ad) (hr : meth.sig.returnType = none) (hq : meth.locks = false) {Rs : Int32 × Mem} {k0 : Nat} {x1 : Int32} {x2 : Int32} {x3 : Int32} (h0 : xP k0) (w : gWd D 241 (xE cI cT cS) ad M s H locs) (hl : lv_has ls 4 [(0, .ref (ad k0)), (1, .int x1), (2, .int x2), (3, .int x3)]) (hf : f_X1_setNumber_0  k0 x1 x2 x3 M = some Rs) : W p l e (rmH 0) s m args below meth c H locs 0 0 (MQ below (qV D 241 (xE cI cT cS) ad Rs) args s 0 0 (gA 241 ad)) (F0 m 0 ls []) := by
  unfold f_X1_setNumber_0 at hf
  have hx := C.1.1
  have hb := C.1.2.1
  have hi := C.2.2.2.1
  refine lv_aload_n hx hb dX1_setNumber_0 rfl (lv_at hl 0 rfl) ?_
  refine gt_X1_15 h0 C w dX1_setNumber_1 ?_
  refine lv_iload_n hx hb dX1_setNumber_4 rfl (lv_at hl 1 rfl) ?_
  refine lv_iconst (v := 5) hx hb dX1_setNumber_5 (by decide) ?_
  refine lv_imul hx hb dX1_setNumber_6 ?_
  refine lv_iload_n hx hb dX1_setNumber_7 rfl (lv_at hl 2 rfl) ?_
  refine lv_iadd hx hb dX1_setNumber_8 ?_
  refine lv_iload_n hx hb dX1_setNumber_9 rfl (lv_at hl 3 rfl) ?_
  obtain ⟨M1, e2, hf⟩ := bindS hf
  refine g_iast C w (xP_n h0) e2 dX1_setNumber_10 (fun H locs w => ?_)
  exact g_vret C w hr hq hf dX1_setNumber_11
abbrev f_X1_setNumber (k0 : Nat) (x1 : Int32) (x2 : Int32) (x3 : Int32) (M : Mem) : Option (Int32 × Mem) := f_X1_setNumber_0 k0 x1 x2 x3 M
theorem c_X1_setNumber (hi : gInj 241 ad) {k0 : Nat} {x1 : Int32} {x2 : Int32} {x3 : Int32} (h0 : xP k0) {Rs : Int32 × Mem} (hf : f_X1_setNumber k0 x1 x2 x3 M = some Rs) : gMet l yX1_setNumber cX1_setNumber 4 none 0 D (xty cI cT cS) 241 (xE cI cT cS) ad [.ref (ad k0), .int x1, .int x2, .int x3] M (qV D 241 (xE cI cT cS) ad Rs) := gMet_of (by decide) hi (xE_loc cI cT cS) (Nat.le_of_ble_eq_true rfl) (fun p e s m args below meth c ls C hr hq w hl => w_X1_setNumber_0 C hr hq h0 w hl hf)
def f_X1_forget_22 (k4_ : (Nat → Int32 → Int32 → Mem → Option (Int32 × Mem))) (k0 : Nat) (x1 : Int32) (x2 : Int32) (M : Mem) : Option (Int32 × Mem) :=
  k4_ k0 x1 (x2 + 1) M
def f_X1_forget_4b (k4_ : (Nat → Int32 → Int32 → Mem → Option (Int32 × Mem))) (k0 : Nat) (x1 : Int32) (x2 : Int32) (M : Mem) : Option (Int32 × Mem) :=
  if (16 : Int32) ≤ x2 then ((f_J7_fill_53178 16 (k0 + 1) (0 : Int32) M).bind fun (v4, M2) =>
  (f_J7_fill_53178 80 (k0 + 2) (0 : Int32) M2).bind fun (v7, M5) =>
  some (x1, M5)) else ((ldI M (k0 + 1) 16 x2).bind fun v8 =>
  if v8 = 0 then (f_X1_forget_22 k4_ k0 x1 x2 M) else (f_X1_forget_22 k4_ k0 (x1 + 1) x2 M))
def f_X1_forget_4 : Nat → Nat → Int32 → Int32 → Mem → Option (Int32 × Mem)
  | 0, _, _, _, _ => none
  | n + 1, k0, x1, x2, M => f_X1_forget_4b (f_X1_forget_4  n) k0 x1 x2 M
def f_X1_forget_0 (k0 : Nat) (M : Mem) : Option (Int32 × Mem) :=
  f_X1_forget_4 FU k0 (0 : Int32) (0 : Int32) M
set_option maxRecDepth 100000 in
set_option maxHeartbeats 4000000 in
theorem w_X1_forget_22 (C : gC p s m args c RX1 cX1_forget 3 D (xty cI cT cS) 241 (xE cI cT cS) ad) (hr : meth.sig.returnType = (some .int)) (hq : meth.locks = false) {k4_ : (Nat → Int32 → Int32 → Mem → Option (Int32 × Mem))} {Rs : Int32 × Mem} (hk4_ : ∀ {k0 : Nat} {x1 : Int32} {x2 : Int32} {M : Mem} {H : Heap} {locs : List Loc} {ls : Array Slot} (h0 : xP k0), gWd D 241 (xE cI cT cS) ad M s H locs → lv_has ls 3 [(0, .ref (ad k0)), (1, .int x1), (2, .int x2)] → k4_ k0 x1 x2 M = some Rs → W p l e (rmH 1) s m args below meth c H locs 0 0 (MQ below (qI D 241 (xE cI cT cS) ad Rs) args s 0 0 (gA 241 ad)) (F0 m 4 ls [])) {k0 : Nat} {x1 : Int32} {x2 : Int32} (h0 : xP k0) (w : gWd D 241 (xE cI cT cS) ad M s H locs) (hl : lv_has ls 3 [(0, .ref (ad k0)), (1, .int x1), (2, .int x2)]) (hf : f_X1_forget_22 k4_ k0 x1 x2 M = some Rs) : W p l e (rmH 1) s m args below meth c H locs 0 0 (MQ below (qI D 241 (xE cI cT cS) ad Rs) args s 0 0 (gA 241 ad)) (F0 m 22 ls []) := by
  unfold f_X1_forget_22 at hf
  have hx := C.1.1
  have hb := C.1.2.1
  have hi := C.2.2.2.1
  refine lv_iinc (v := (x2 + 1)) (lv' := [(2, .int (x2 + 1)), (0, .ref (ad k0)), (1, .int x1)]) hx hb dX1_forget_22 hl (k := 2) rfl rfl (by decide) rfl (fun ls hl => ?_)
  refine lv_goto (tgt := 4) hx hb dX1_forget_25 (by decide) ?_
  exact hk4_ h0 w (lv_sub hl [1, 2, 0] rfl) hf
set_option maxRecDepth 100000 in
set_option maxHeartbeats 4000000 in
theorem w_X1_forget_4b (C : gC p s m args c RX1 cX1_forget 3 D (xty cI cT cS) 241 (xE cI cT cS) ad) (hr : meth.sig.returnType = (some .int)) (hq : meth.locks = false) {k4_ : (Nat → Int32 → Int32 → Mem → Option (Int32 × Mem))} {Rs : Int32 × Mem} (hk4_ : ∀ {k0 : Nat} {x1 : Int32} {x2 : Int32} {M : Mem} {H : Heap} {locs : List Loc} {ls : Array Slot} (h0 : xP k0), gWd D 241 (xE cI cT cS) ad M s H locs → lv_has ls 3 [(0, .ref (ad k0)), (1, .int x1), (2, .int x2)] → k4_ k0 x1 x2 M = some Rs → W p l e (rmH 1) s m args below meth c H locs 0 0 (MQ below (qI D 241 (xE cI cT cS) ad Rs) args s 0 0 (gA 241 ad)) (F0 m 4 ls [])) {k0 : Nat} {x1 : Int32} {x2 : Int32} (h0 : xP k0) (w : gWd D 241 (xE cI cT cS) ad M s H locs) (hl : lv_has ls 3 [(0, .ref (ad k0)), (1, .int x1), (2, .int x2)]) (hf : f_X1_forget_4b k4_ k0 x1 x2 M = some Rs) : W p l e (rmH 1) s m args below meth c H locs 0 0 (MQ below (qI D 241 (xE cI cT cS) ad Rs) args s 0 0 (gA 241 ad)) (F0 m 4 ls []) := by
  unfold f_X1_forget_4b at hf
  have hx := C.1.1
  have hb := C.1.2.1
  have hi := C.2.2.2.1
  refine lv_iload_n hx hb dX1_forget_4 rfl (lv_at hl 2 rfl) ?_
  refine lv_bipush (v := 16) hx hb dX1_forget_5 (by decide) ?_
  refine lv_icmp_ge (tgt := 28) hx hb dX1_forget_7 (by decide) (fun c1 => ?_) (fun c1 => ?_)
  · replace hf := (if_pos c1).symm.trans hf
    refine lv_aload_n hx hb dX1_forget_28 rfl (lv_at hl 0 rfl) ?_
    refine gt_X1_9 h0 C w dX1_forget_29 ?_
    refine lv_iconst (v := 0) hx hb dX1_forget_32 (by decide) ?_
    obtain ⟨⟨v4, M2⟩, e3, hf⟩ := bindS hf
    refine g_backV w (g_runS (rest := []) C w (c_J7_fill_53178 hi (xP_s h0) e3) gs_X1_18 md_J7_fill_53178 rfl (by omega) (by decide) hl.1 rfl (Nat.le_of_ble_eq_true rfl) dX1_forget_33) (fun H locs w => ?_)
    refine lv_aload_n hx hb dX1_forget_36 rfl (lv_at hl 0 rfl) ?_
    refine gt_X1_15 h0 C w dX1_forget_37 ?_
    refine lv_iconst (v := 0) hx hb dX1_forget_40 (by decide) ?_
    obtain ⟨⟨v7, M5⟩, e6, hf⟩ := bindS hf
    refine g_backV w (g_runS (rest := []) C w (c_J7_fill_53178 hi (xP_n h0) e6) gs_X1_18 md_J7_fill_53178 rfl (by omega) (by decide) hl.1 rfl (Nat.le_of_ble_eq_true rfl) dX1_forget_41) (fun H locs w => ?_)
    refine lv_iload_n hx hb dX1_forget_44 rfl (lv_at hl 1 rfl) ?_
    exact g_iret C w hr hq hf dX1_forget_45
  · replace hf := (if_neg c1).symm.trans hf
    refine lv_aload_n hx hb dX1_forget_10 rfl (lv_at hl 0 rfl) ?_
    refine gt_X1_9 h0 C w dX1_forget_11 ?_
    refine lv_iload_n hx hb dX1_forget_14 rfl (lv_at hl 2 rfl) ?_
    obtain ⟨v8, e9, hf⟩ := bindS hf
    refine g_iald C w (xP_s h0) e9 dX1_forget_15 ?_
    refine lv_if_eq (tgt := 22) hx hb dX1_forget_16 (by decide) (fun c10 => ?_) (fun c10 => ?_)
    · replace hf := (if_pos c10).symm.trans hf
      exact w_X1_forget_22 C hr hq hk4_ h0 w (lv_sub hl [0, 1, 2] rfl) hf
    · replace hf := (if_neg c10).symm.trans hf
      refine lv_iinc (v := (x1 + 1)) (lv' := [(1, .int (x1 + 1)), (0, .ref (ad k0)), (2, .int x2)]) hx hb dX1_forget_19 hl (k := 1) rfl rfl (by decide) rfl (fun ls hl => ?_)
      exact w_X1_forget_22 C hr hq hk4_ h0 w (lv_sub hl [1, 0, 2] rfl) hf
theorem w_X1_forget_4 (C : gC p s m args c RX1 cX1_forget 3 D (xty cI cT cS) 241 (xE cI cT cS) ad) (hr : meth.sig.returnType = (some .int)) (hq : meth.locks = false) {Rs : Int32 × Mem} : ∀ (n : Nat) {k0 : Nat} {x1 : Int32} {x2 : Int32} {M : Mem} {H : Heap} {locs : List Loc} {ls : Array Slot} (h0 : xP k0), gWd D 241 (xE cI cT cS) ad M s H locs → lv_has ls 3 [(0, .ref (ad k0)), (1, .int x1), (2, .int x2)] → f_X1_forget_4  n k0 x1 x2 M = some Rs → W p l e (rmH 1) s m args below meth c H locs 0 0 (MQ below (qI D 241 (xE cI cT cS) ad Rs) args s 0 0 (gA 241 ad)) (F0 m 4 ls []) := by
  intro n
  induction n with
  | zero =>
    intro k0 x1 x2 M H locs ls h0 w hl hf
    cases hf
  | succ n ih =>
    intro k0 x1 x2 M H locs ls h0 w hl hf
    exact w_X1_forget_4b C hr hq ih h0 w hl hf
set_option maxRecDepth 100000 in
set_option maxHeartbeats 4000000 in
theorem w_X1_forget_0 (C : gC p s m args c RX1 cX1_forget 3 D (xty cI cT cS) 241 (xE cI cT cS) ad) (hr : meth.sig.returnType = (some .int)) (hq : meth.locks = false) {Rs : Int32 × Mem} {k0 : Nat} (h0 : xP k0) (w : gWd D 241 (xE cI cT cS) ad M s H locs) (hl : lv_has ls 3 [(0, .ref (ad k0))]) (hf : f_X1_forget_0  k0 M = some Rs) : W p l e (rmH 1) s m args below meth c H locs 0 0 (MQ below (qI D 241 (xE cI cT cS) ad Rs) args s 0 0 (gA 241 ad)) (F0 m 0 ls []) := by
  unfold f_X1_forget_0 at hf
  have hx := C.1.1
  have hb := C.1.2.1
  have hi := C.2.2.2.1
  refine lv_iconst (v := 0) hx hb dX1_forget_0 (by decide) ?_
  refine lv_istore_n (lv' := [(1, .int (0 : Int32)), (0, .ref (ad k0))]) hx hb dX1_forget_1 rfl hl (by decide) rfl (fun ls hl => ?_)
  refine lv_iconst (v := 0) hx hb dX1_forget_2 (by decide) ?_
  refine lv_istore_n (lv' := [(2, .int (0 : Int32)), (1, .int (0 : Int32)), (0, .ref (ad k0))]) hx hb dX1_forget_3 rfl hl (by decide) rfl (fun ls hl => ?_)
  exact w_X1_forget_4 C hr hq FU h0 w (lv_sub hl [2, 1, 0] rfl) hf
abbrev f_X1_forget (k0 : Nat) (M : Mem) : Option (Int32 × Mem) := f_X1_forget_0 k0 M
theorem c_X1_forget (hi : gInj 241 ad) {k0 : Nat} (h0 : xP k0) {Rs : Int32 × Mem} (hf : f_X1_forget k0 M = some Rs) : gMet l yX1_forget cX1_forget 3 (some .int) 1 D (xty cI cT cS) 241 (xE cI cT cS) ad [.ref (ad k0)] M (qI D 241 (xE cI cT cS) ad Rs) := gMet_of (by decide) hi (xE_loc cI cT cS) (Nat.le_of_ble_eq_true rfl) (fun p e s m args below meth c ls C hr hq w hl => w_X1_forget_0 C hr hq h0 w hl hf)
def f_X3_forget_0 (k0 : Nat) (M : Mem) : Option (Int32 × Mem) :=
  (f_J7_fill_53178 16 (k0 + 4) (0 : Int32) M).bind fun (v3, M1) =>
  (stF M1 k0 3 (-1 : Int32)).bind fun M4 =>
  (f_X1_forget (k0 + 1) M4).bind fun (v8, M6) =>
  some (v8, M6)
set_option maxRecDepth 100000 in
set_option maxHeartbeats 4000000 in
theorem w_X3_forget_0 (C : gC p s m args c RX3 cX3_forget 1 D (xty cI cT cS) 241 (xE cI cT cS) ad) (hr : meth.sig.returnType = (some .int)) (hq : meth.locks = false) {Rs : Int32 × Mem} {k0 : Nat} (h0 : xS k0) (w : gWd D 241 (xE cI cT cS) ad M s H locs) (hl : lv_has ls 1 [(0, .ref (ad k0))]) (hf : f_X3_forget_0  k0 M = some Rs) : W p l e (rmH 2) s m args below meth c H locs 0 0 (MQ below (qI D 241 (xE cI cT cS) ad Rs) args s 0 0 (gA 241 ad)) (F0 m 0 ls []) := by
  unfold f_X3_forget_0 at hf
  have hx := C.1.1
  have hb := C.1.2.1
  have hi := C.2.2.2.1
  refine lv_aload_n hx hb dX3_forget_0 rfl (lv_at hl 0 rfl) ?_
  refine gt_X3_18 h0 C w dX3_forget_1 ?_
  refine lv_iconst (v := 0) hx hb dX3_forget_4 (by decide) ?_
  obtain ⟨⟨v3, M1⟩, e2, hf⟩ := bindS hf
  refine g_backV w (g_runS (rest := []) C w (c_J7_fill_53178 hi (xS_g h0) e2) gs_X3_29 md_J7_fill_53178 rfl (by omega) (by decide) hl.1 rfl (Nat.le_of_ble_eq_true rfl) dX3_forget_5) (fun H locs w => ?_)
  refine lv_aload_n hx hb dX3_forget_8 rfl (lv_at hl 0 rfl) ?_
  refine lv_iconst (v := -1) hx hb dX3_forget_9 (by decide) ?_
  obtain ⟨M4, e5, hf⟩ := bindS hf
  refine pt_X3_26 h0 C w e5 dX3_forget_10 (fun H locs w => ?_)
  refine lv_aload_n hx hb dX3_forget_13 rfl (lv_at hl 0 rfl) ?_
  refine gt_X3_12 h0 C w dX3_forget_14 ?_
  obtain ⟨⟨v8, M6⟩, e7, hf⟩ := bindS hf
  refine g_backI w (g_runV (rest := []) C w (c_X1_forget hi (xS_p h0) e7) (ob_X1 (xS_p h0)) rfl gv_X3_35 md_X1_forget rfl (by omega) (by decide) hl.1 rfl (Nat.le_of_ble_eq_true rfl) dX3_forget_17) (fun H locs w => ?_)
  exact g_iret C w hr hq hf dX3_forget_20
abbrev f_X3_forget (k0 : Nat) (M : Mem) : Option (Int32 × Mem) := f_X3_forget_0 k0 M
theorem c_X3_forget (hi : gInj 241 ad) {k0 : Nat} (h0 : xS k0) {Rs : Int32 × Mem} (hf : f_X3_forget k0 M = some Rs) : gMet l yX3_forget cX3_forget 1 (some .int) 2 D (xty cI cT cS) 241 (xE cI cT cS) ad [.ref (ad k0)] M (qI D 241 (xE cI cT cS) ad Rs) := gMet_of (by decide) hi (xE_loc cI cT cS) (Nat.le_of_ble_eq_true rfl) (fun p e s m args below meth c ls C hr hq w hl => w_X3_forget_0 C hr hq h0 w hl hf)
def f_X4_begin_0 (k0 : Nat) (x1 : Int32) (x2 : Int32) (x3 : Int32) (M : Mem) : Option (Int32 × Mem) :=
  (stF M k0 0 x1).bind fun M1 =>
  (stF M1 k0 1 x2).bind fun M3 =>
  (stFZ M3 k0 2 x3).bind fun M5 =>
  (f_X2_empty (k0 + 1) M5).bind fun (v9, M7) =>
  (f_J7_fill_53178 5 (k0 + 7) (0 : Int32) M7).bind fun (v12, M10) =>
  (stF M10 k0 12 (0 : Int32)).bind fun M13 =>
  some ((0 : Int32), M13)
set_option maxRecDepth 100000 in
set_option maxHeartbeats 4000000 in
theorem w_X4_begin_0 (C : gC p s m args c RX4 cX4_begin 4 D (xty cI cT cS) 241 (xE cI cT cS) ad) (hr : meth.sig.returnType = none) (hq : meth.locks = false) {Rs : Int32 × Mem} {k0 : Nat} {x1 : Int32} {x2 : Int32} {x3 : Int32} (h0 : xT k0) (w : gWd D 241 (xE cI cT cS) ad M s H locs) (hl : lv_has ls 4 [(0, .ref (ad k0)), (1, .int x1), (2, .int x2), (3, .int x3)]) (hf : f_X4_begin_0  k0 x1 x2 x3 M = some Rs) : W p l e (rmH 1) s m args below meth c H locs 0 0 (MQ below (qV D 241 (xE cI cT cS) ad Rs) args s 0 0 (gA 241 ad)) (F0 m 0 ls []) := by
  unfold f_X4_begin_0 at hf
  have hx := C.1.1
  have hb := C.1.2.1
  have hi := C.2.2.2.1
  refine lv_aload_n hx hb dX4_begin_0 rfl (lv_at hl 0 rfl) ?_
  refine lv_iload_n hx hb dX4_begin_1 rfl (lv_at hl 1 rfl) ?_
  obtain ⟨M1, e2, hf⟩ := bindS hf
  refine pt_X4_47 h0 C w e2 dX4_begin_2 (fun H locs w => ?_)
  refine lv_aload_n hx hb dX4_begin_5 rfl (lv_at hl 0 rfl) ?_
  refine lv_iload_n hx hb dX4_begin_6 rfl (lv_at hl 2 rfl) ?_
  obtain ⟨M3, e4, hf⟩ := bindS hf
  refine pt_X4_9 h0 C w e4 dX4_begin_7 (fun H locs w => ?_)
  refine lv_aload_n hx hb dX4_begin_10 rfl (lv_at hl 0 rfl) ?_
  refine lv_iload_n hx hb dX4_begin_11 rfl (lv_at hl 3 rfl) ?_
  obtain ⟨M5, e6, hf⟩ := bindS hf
  refine pt_X4_50 h0 C w e6 dX4_begin_12 (fun H locs w => ?_)
  refine lv_aload_n hx hb dX4_begin_15 rfl (lv_at hl 0 rfl) ?_
  refine gt_X4_18 h0 C w dX4_begin_16 ?_
  obtain ⟨⟨v9, M7⟩, e8, hf⟩ := bindS hf
  refine g_backV w (g_runV (rest := []) C w (c_X2_empty hi (xT_r1 h0) e8) (ob_X2 (xT_r1 h0)) rfl gv_X4_54 md_X2_empty rfl (by omega) (by decide) hl.1 rfl (Nat.le_of_ble_eq_true rfl) dX4_begin_19) (fun H locs w => ?_)
  refine lv_aload_n hx hb dX4_begin_22 rfl (lv_at hl 0 rfl) ?_
  refine gt_X4_28 h0 C w dX4_begin_23 ?_
  refine lv_iconst (v := 0) hx hb dX4_begin_26 (by decide) ?_
  obtain ⟨⟨v12, M10⟩, e11, hf⟩ := bindS hf
  refine g_backV w (g_runS (rest := []) C w (c_J7_fill_53178 hi (xT_a7 h0) e11) gs_X4_57 md_J7_fill_53178 rfl (by omega) (by decide) hl.1 rfl (Nat.le_of_ble_eq_true rfl) dX4_begin_27) (fun H locs w => ?_)
  refine lv_aload_n hx hb dX4_begin_30 rfl (lv_at hl 0 rfl) ?_
  refine lv_iconst (v := 0) hx hb dX4_begin_31 (by decide) ?_
  obtain ⟨M13, e14, hf⟩ := bindS hf
  refine pt_X4_63 h0 C w e14 dX4_begin_32 (fun H locs w => ?_)
  exact g_vret C w hr hq hf dX4_begin_35
abbrev f_X4_begin (k0 : Nat) (x1 : Int32) (x2 : Int32) (x3 : Int32) (M : Mem) : Option (Int32 × Mem) := f_X4_begin_0 k0 x1 x2 x3 M
theorem c_X4_begin (hi : gInj 241 ad) {k0 : Nat} {x1 : Int32} {x2 : Int32} {x3 : Int32} (h0 : xT k0) {Rs : Int32 × Mem} (hf : f_X4_begin k0 x1 x2 x3 M = some Rs) : gMet l yX4_begin cX4_begin 4 none 1 D (xty cI cT cS) 241 (xE cI cT cS) ad [.ref (ad k0), .int x1, .int x2, .int x3] M (qV D 241 (xE cI cT cS) ad Rs) := gMet_of (by decide) hi (xE_loc cI cT cS) (Nat.le_of_ble_eq_true rfl) (fun p e s m args below meth c ls C hr hq w hl => w_X4_begin_0 C hr hq h0 w hl hf)
def f_X4_addLine_0 (k0 : Nat) (x1 : Int32) (x2 : Int32) (x3 : Int32) (x4 : Int32) (M : Mem) : Option (Int32 × Mem) :=
  if (8 : Int32) ≤ (M k0 12) then (some ((M k0 12), M)) else ((stI M (k0 + 9) 8 (M k0 12) x1).bind fun M2 =>
  (stI M2 (k0 + 10) 8 (M2 k0 12) x2).bind fun M4 =>
  (stI M4 (k0 + 11) 8 (M4 k0 12) x3).bind fun M6 =>
  (stI M6 (k0 + 12) 8 (M6 k0 12) x4).bind fun M8 =>
  (stF M8 k0 12 ((M8 k0 12) + (1 : Int32))).bind fun M10 =>
  some ((M10 k0 12), M10))
set_option maxRecDepth 100000 in
set_option maxHeartbeats 4000000 in
theorem w_X4_addLine_0 (C : gC p s m args c RX4 cX4_addLine 5 D (xty cI cT cS) 241 (xE cI cT cS) ad) (hr : meth.sig.returnType = (some .int)) (hq : meth.locks = false) {Rs : Int32 × Mem} {k0 : Nat} {x1 : Int32} {x2 : Int32} {x3 : Int32} {x4 : Int32} (h0 : xT k0) (w : gWd D 241 (xE cI cT cS) ad M s H locs) (hl : lv_has ls 5 [(0, .ref (ad k0)), (1, .int x1), (2, .int x2), (3, .int x3), (4, .int x4)]) (hf : f_X4_addLine_0  k0 x1 x2 x3 x4 M = some Rs) : W p l e (rmH 0) s m args below meth c H locs 0 0 (MQ below (qI D 241 (xE cI cT cS) ad Rs) args s 0 0 (gA 241 ad)) (F0 m 0 ls []) := by
  unfold f_X4_addLine_0 at hf
  have hx := C.1.1
  have hb := C.1.2.1
  have hi := C.2.2.2.1
  refine lv_aload_n hx hb dX4_addLine_0 rfl (lv_at hl 0 rfl) ?_
  refine gt_X4_63 h0 C w dX4_addLine_1 ?_
  refine lv_bipush (v := 8) hx hb dX4_addLine_4 (by decide) ?_
  refine lv_icmp_ge (tgt := 60) hx hb dX4_addLine_6 (by decide) (fun c1 => ?_) (fun c1 => ?_)
  · replace hf := (if_pos c1).symm.trans hf
    refine lv_aload_n hx hb dX4_addLine_60 rfl (lv_at hl 0 rfl) ?_
    refine gt_X4_63 h0 C w dX4_addLine_61 ?_
    exact g_iret C w hr hq hf dX4_addLine_64
  · replace hf := (if_neg c1).symm.trans hf
    refine lv_aload_n hx hb dX4_addLine_9 rfl (lv_at hl 0 rfl) ?_
    refine gt_X4_35 h0 C w dX4_addLine_10 ?_
    refine lv_aload_n hx hb dX4_addLine_13 rfl (lv_at hl 0 rfl) ?_
    refine gt_X4_63 h0 C w dX4_addLine_14 ?_
    refine lv_iload_n hx hb dX4_addLine_17 rfl (lv_at hl 1 rfl) ?_
    obtain ⟨M2, e3, hf⟩ := bindS hf
    refine g_iast C w (xT_a9 h0) e3 dX4_addLine_18 (fun H locs w => ?_)
    refine lv_aload_n hx hb dX4_addLine_19 rfl (lv_at hl 0 rfl) ?_
    refine gt_X4_38 h0 C w dX4_addLine_20 ?_
    refine lv_aload_n hx hb dX4_addLine_23 rfl (lv_at hl 0 rfl) ?_
    refine gt_X4_63 h0 C w dX4_addLine_24 ?_
    refine lv_iload_n hx hb dX4_addLine_27 rfl (lv_at hl 2 rfl) ?_
    obtain ⟨M4, e5, hf⟩ := bindS hf
    refine g_iast C w (xT_a10 h0) e5 dX4_addLine_28 (fun H locs w => ?_)
    refine lv_aload_n hx hb dX4_addLine_29 rfl (lv_at hl 0 rfl) ?_
    refine gt_X4_41 h0 C w dX4_addLine_30 ?_
    refine lv_aload_n hx hb dX4_addLine_33 rfl (lv_at hl 0 rfl) ?_
    refine gt_X4_63 h0 C w dX4_addLine_34 ?_
    refine lv_iload_n hx hb dX4_addLine_37 rfl (lv_at hl 3 rfl) ?_
    obtain ⟨M6, e7, hf⟩ := bindS hf
    refine g_iast C w (xT_a11 h0) e7 dX4_addLine_38 (fun H locs w => ?_)
    refine lv_aload_n hx hb dX4_addLine_39 rfl (lv_at hl 0 rfl) ?_
    refine gt_X4_44 h0 C w dX4_addLine_40 ?_
    refine lv_aload_n hx hb dX4_addLine_43 rfl (lv_at hl 0 rfl) ?_
    refine gt_X4_63 h0 C w dX4_addLine_44 ?_
    refine lv_iload hx hb dX4_addLine_47 (lv_at hl 4 rfl) ?_
    obtain ⟨M8, e9, hf⟩ := bindS hf
    refine g_iast C w (xT_a12 h0) e9 dX4_addLine_49 (fun H locs w => ?_)
    refine lv_aload_n hx hb dX4_addLine_50 rfl (lv_at hl 0 rfl) ?_
    refine lv_dup hx hb dX4_addLine_51 rfl ?_
    refine gt_X4_63 h0 C w dX4_addLine_52 ?_
    refine lv_iconst (v := 1) hx hb dX4_addLine_55 (by decide) ?_
    refine lv_iadd hx hb dX4_addLine_56 ?_
    obtain ⟨M10, e11, hf⟩ := bindS hf
    refine pt_X4_63 h0 C w e11 dX4_addLine_57 (fun H locs w => ?_)
    refine lv_aload_n hx hb dX4_addLine_60 rfl (lv_at hl 0 rfl) ?_
    refine gt_X4_63 h0 C w dX4_addLine_61 ?_
    exact g_iret C w hr hq hf dX4_addLine_64
abbrev f_X4_addLine (k0 : Nat) (x1 : Int32) (x2 : Int32) (x3 : Int32) (x4 : Int32) (M : Mem) : Option (Int32 × Mem) := f_X4_addLine_0 k0 x1 x2 x3 x4 M
theorem c_X4_addLine (hi : gInj 241 ad) {k0 : Nat} {x1 : Int32} {x2 : Int32} {x3 : Int32} {x4 : Int32} (h0 : xT k0) {Rs : Int32 × Mem} (hf : f_X4_addLine k0 x1 x2 x3 x4 M = some Rs) : gMet l yX4_addLine cX4_addLine 5 (some .int) 0 D (xty cI cT cS) 241 (xE cI cT cS) ad [.ref (ad k0), .int x1, .int x2, .int x3, .int x4] M (qI D 241 (xE cI cT cS) ad Rs) := gMet_of (by decide) hi (xE_loc cI cT cS) (Nat.le_of_ble_eq_true rfl) (fun p e s m args below meth c ls C hr hq w hl => w_X4_addLine_0 C hr hq h0 w hl hf)
def f_X5_open_0 (x1 : Int32) (M : Mem) : Option (Int32 × Mem) :=
  if (M 6 3) < (512 : Int32) then ((stI M 7 512 (M 6 3) x1).bind fun M2 =>
  (stF M2 6 3 ((M2 6 3) + (1 : Int32))).bind fun M4 =>
  some ((M 6 3), M4)) else (some ((-1 : Int32), M))
set_option maxRecDepth 100000 in
set_option maxHeartbeats 4000000 in
theorem w_X5_open_0 (C : gC p s m args c RX5 cX5_open 3 D (xty cI cT cS) 241 (xE cI cT cS) ad) (hr : meth.sig.returnType = (some .int)) (hq : meth.locks = false) {Rs : Int32 × Mem} {x1 : Int32} (w : gWd D 241 (xE cI cT cS) ad M s H locs) (hl : lv_has ls 3 [(0, .ref (ad 6)), (1, .int x1)]) (hf : f_X5_open_0  x1 M = some Rs) : W p l e (rmH 0) s m args below meth c H locs 0 0 (MQ below (qI D 241 (xE cI cT cS) ad Rs) args s 0 0 (gA 241 ad)) (F0 m 0 ls []) := by
  unfold f_X5_open_0 at hf
  have hx := C.1.1
  have hb := C.1.2.1
  have hi := C.2.2.2.1
  refine lv_aload_n hx hb dX5_open_0 rfl (lv_at hl 0 rfl) ?_
  refine gt_X5_21 C w dX5_open_1 ?_
  refine lv_istore_n (lv' := [(2, .int (M 6 3)), (0, .ref (ad 6)), (1, .int x1)]) hx hb dX5_open_4 rfl hl (by decide) rfl (fun ls hl => ?_)
  refine lv_iload_n hx hb dX5_open_5 rfl (lv_at hl 0 rfl) ?_
  refine lv_sipush (v := 512) hx hb dX5_open_6 (by decide) ?_
  refine lv_icmp_lt (tgt := 14) hx hb dX5_open_9 (by decide) (fun c1 => ?_) (fun c1 => ?_)
  · replace hf := (if_pos c1).symm.trans hf
    refine lv_aload_n hx hb dX5_open_14 rfl (lv_at hl 1 rfl) ?_
    refine gt_X5_9 C w dX5_open_15 ?_
    refine lv_iload_n hx hb dX5_open_18 rfl (lv_at hl 0 rfl) ?_
    refine lv_iload_n hx hb dX5_open_19 rfl (lv_at hl 2 rfl) ?_
    obtain ⟨M2, e3, hf⟩ := bindS hf
    refine g_iast C w x_a7 e3 dX5_open_20 (fun H locs w => ?_)
    refine lv_aload_n hx hb dX5_open_21 rfl (lv_at hl 1 rfl) ?_
    refine lv_dup hx hb dX5_open_22 rfl ?_
    refine gt_X5_21 C w dX5_open_23 ?_
    refine lv_iconst (v := 1) hx hb dX5_open_26 (by decide) ?_
    refine lv_iadd hx hb dX5_open_27 ?_
    obtain ⟨M4, e5, hf⟩ := bindS hf
    refine pt_X5_21 C w e5 dX5_open_28 (fun H locs w => ?_)
    refine lv_iload_n hx hb dX5_open_31 rfl (lv_at hl 0 rfl) ?_
    exact g_iret C w hr hq hf dX5_open_32
  · replace hf := (if_neg c1).symm.trans hf
    refine lv_iconst (v := -1) hx hb dX5_open_12 (by decide) ?_
    exact g_iret C w hr hq hf dX5_open_13
abbrev f_X5_open (x1 : Int32) (M : Mem) : Option (Int32 × Mem) := f_X5_open_0 x1 M
theorem c_X5_open (hi : gInj 241 ad) {x1 : Int32} {Rs : Int32 × Mem} (hf : f_X5_open x1 M = some Rs) : gMet l yX5_open cX5_open 3 (some .int) 0 D (xty cI cT cS) 241 (xE cI cT cS) ad [.ref (ad 6), .int x1] M (qI D 241 (xE cI cT cS) ad Rs) := gMet_of (by decide) hi (xE_loc cI cT cS) (Nat.le_of_ble_eq_true rfl) (fun p e s m args below meth c ls C hr hq w hl => w_X5_open_0 C hr hq  w hl hf)
def f_X5_close_0 (x1 : Int32) (x2 : Int32) (x3 : Int32) (M : Mem) : Option (Int32 × Mem) :=
  (f_X6_within x1 (0 : Int32) ((M 6 3) - (1 : Int32)) M).bind fun (v3, M1) =>
  if v3 = 0 then (some ((0 : Int32), M1)) else ((stI M1 8 512 x1 x2).bind fun M5 =>
  (stI M5 9 512 x1 x3).bind fun M7 =>
  some ((0 : Int32), M7))
set_option maxRecDepth 100000 in
set_option maxHeartbeats 4000000 in
theorem w_X5_close_0 (C : gC p s m args c RX5 cX5_close 4 D (xty cI cT cS) 241 (xE cI cT cS) ad) (hr : meth.sig.returnType = none) (hq : meth.locks = false) {Rs : Int32 × Mem} {x1 : Int32} {x2 : Int32} {x3 : Int32} (w : gWd D 241 (xE cI cT cS) ad M s H locs) (hl : lv_has ls 4 [(0, .ref (ad 6)), (1, .int x1), (2, .int x2), (3, .int x3)]) (hf : f_X5_close_0  x1 x2 x3 M = some Rs) : W p l e (rmH 1) s m args below meth c H locs 0 0 (MQ below (qV D 241 (xE cI cT cS) ad Rs) args s 0 0 (gA 241 ad)) (F0 m 0 ls []) := by
  unfold f_X5_close_0 at hf
  have hx := C.1.1
  have hb := C.1.2.1
  have hi := C.2.2.2.1
  refine lv_iload_n hx hb dX5_close_0 rfl (lv_at hl 1 rfl) ?_
  refine lv_iconst (v := 0) hx hb dX5_close_1 (by decide) ?_
  refine lv_aload_n hx hb dX5_close_2 rfl (lv_at hl 0 rfl) ?_
  refine gt_X5_21 C w dX5_close_3 ?_
  refine lv_iconst (v := 1) hx hb dX5_close_6 (by decide) ?_
  refine lv_isub hx hb dX5_close_7 ?_
  obtain ⟨⟨v3, M1⟩, e2, hf⟩ := bindS hf
  refine g_backI w (g_runN (rest := []) C w (c_X6_within hi  e2) gs_X5_25 md_X6_within rfl (by omega) (by decide) hl.1 rfl (Nat.le_of_ble_eq_true rfl) dX5_close_8) (fun H locs w => ?_)
  refine lv_if_eq (tgt := 28) hx hb dX5_close_11 (by decide) (fun c4 => ?_) (fun c4 => ?_)
  · replace hf := (if_pos c4).symm.trans hf
    exact g_vret C w hr hq hf dX5_close_28
  · replace hf := (if_neg c4).symm.trans hf
    refine lv_aload_n hx hb dX5_close_14 rfl (lv_at hl 0 rfl) ?_
    refine gt_X5_15 C w dX5_close_15 ?_
    refine lv_iload_n hx hb dX5_close_18 rfl (lv_at hl 1 rfl) ?_
    refine lv_iload_n hx hb dX5_close_19 rfl (lv_at hl 2 rfl) ?_
    obtain ⟨M5, e6, hf⟩ := bindS hf
    refine g_iast C w x_a8 e6 dX5_close_20 (fun H locs w => ?_)
    refine lv_aload_n hx hb dX5_close_21 rfl (lv_at hl 0 rfl) ?_
    refine gt_X5_18 C w dX5_close_22 ?_
    refine lv_iload_n hx hb dX5_close_25 rfl (lv_at hl 1 rfl) ?_
    refine lv_iload_n hx hb dX5_close_26 rfl (lv_at hl 3 rfl) ?_
    obtain ⟨M7, e8, hf⟩ := bindS hf
    refine g_iast C w x_a9 e8 dX5_close_27 (fun H locs w => ?_)
    exact g_vret C w hr hq hf dX5_close_28
abbrev f_X5_close (x1 : Int32) (x2 : Int32) (x3 : Int32) (M : Mem) : Option (Int32 × Mem) := f_X5_close_0 x1 x2 x3 M
theorem c_X5_close (hi : gInj 241 ad) {x1 : Int32} {x2 : Int32} {x3 : Int32} {Rs : Int32 × Mem} (hf : f_X5_close x1 x2 x3 M = some Rs) : gMet l yX5_close cX5_close 4 none 1 D (xty cI cT cS) 241 (xE cI cT cS) ad [.ref (ad 6), .int x1, .int x2, .int x3] M (qV D 241 (xE cI cT cS) ad Rs) := gMet_of (by decide) hi (xE_loc cI cT cS) (Nat.le_of_ble_eq_true rfl) (fun p e s m args below meth c ls C hr hq w hl => w_X5_close_0 C hr hq  w hl hf)
def f_X0_addStart_0 (x1 : Int32) (x2 : Int32) (x3 : Int32) (x4 : Int32) (M : Mem) : Option (Int32 × Mem) :=
  if (M 10 2) < (150 : Int32) then ((stI M 11 600 ((M 10 2) * (4 : Int32)) x1).bind fun M2 =>
  (stI M2 11 600 (((M 10 2) * (4 : Int32)) + (1 : Int32)) x2).bind fun M4 =>
  (stI M4 11 600 (((M 10 2) * (4 : Int32)) + (2 : Int32)) x3).bind fun M6 =>
  (stI M6 11 600 (((M 10 2) * (4 : Int32)) + (3 : Int32)) x4).bind fun M8 =>
  (stF M8 10 2 ((M8 10 2) + (1 : Int32))).bind fun M10 =>
  some ((0 : Int32), M10)) else (some ((0 : Int32), M))
set_option maxRecDepth 100000 in
set_option maxHeartbeats 4000000 in
theorem w_X0_addStart_0 (C : gC p s m args c RX0 cX0_addStart 6 D (xty cI cT cS) 241 (xE cI cT cS) ad) (hr : meth.sig.returnType = none) (hq : meth.locks = false) {Rs : Int32 × Mem} {x1 : Int32} {x2 : Int32} {x3 : Int32} {x4 : Int32} (w : gWd D 241 (xE cI cT cS) ad M s H locs) (hl : lv_has ls 6 [(0, .ref (ad 10)), (1, .int x1), (2, .int x2), (3, .int x3), (4, .int x4)]) (hf : f_X0_addStart_0  x1 x2 x3 x4 M = some Rs) : W p l e (rmH 0) s m args below meth c H locs 0 0 (MQ below (qV D 241 (xE cI cT cS) ad Rs) args s 0 0 (gA 241 ad)) (F0 m 0 ls []) := by
  unfold f_X0_addStart_0 at hf
  have hx := C.1.1
  have hb := C.1.2.1
  have hi := C.2.2.2.1
  refine lv_aload_n hx hb dX0_addStart_0 rfl (lv_at hl 0 rfl) ?_
  refine gt_X0_18 C w dX0_addStart_1 ?_
  refine lv_sipush (v := 150) hx hb dX0_addStart_4 (by decide) ?_
  refine lv_icmp_lt (tgt := 11) hx hb dX0_addStart_7 (by decide) (fun c1 => ?_) (fun c1 => ?_)
  · replace hf := (if_pos c1).symm.trans hf
    refine lv_aload_n hx hb dX0_addStart_11 rfl (lv_at hl 0 rfl) ?_
    refine gt_X0_18 C w dX0_addStart_12 ?_
    refine lv_iconst (v := 4) hx hb dX0_addStart_15 (by decide) ?_
    refine lv_imul hx hb dX0_addStart_16 ?_
    refine lv_istore (lv' := [(5, .int ((M 10 2) * (4 : Int32))), (0, .ref (ad 10)), (1, .int x1), (2, .int x2), (3, .int x3), (4, .int x4)]) hx hb dX0_addStart_17 hl (by decide) rfl (fun ls hl => ?_)
    refine lv_aload_n hx hb dX0_addStart_19 rfl (lv_at hl 1 rfl) ?_
    refine gt_X0_11 C w dX0_addStart_20 ?_
    refine lv_iload hx hb dX0_addStart_23 (lv_at hl 0 rfl) ?_
    refine lv_iload_n hx hb dX0_addStart_25 rfl (lv_at hl 2 rfl) ?_
    obtain ⟨M2, e3, hf⟩ := bindS hf
    refine g_iast C w x_a11 e3 dX0_addStart_26 (fun H locs w => ?_)
    refine lv_aload_n hx hb dX0_addStart_27 rfl (lv_at hl 1 rfl) ?_
    refine gt_X0_11 C w dX0_addStart_28 ?_
    refine lv_iload hx hb dX0_addStart_31 (lv_at hl 0 rfl) ?_
    refine lv_iconst (v := 1) hx hb dX0_addStart_33 (by decide) ?_
    refine lv_iadd hx hb dX0_addStart_34 ?_
    refine lv_iload_n hx hb dX0_addStart_35 rfl (lv_at hl 3 rfl) ?_
    obtain ⟨M4, e5, hf⟩ := bindS hf
    refine g_iast C w x_a11 e5 dX0_addStart_36 (fun H locs w => ?_)
    refine lv_aload_n hx hb dX0_addStart_37 rfl (lv_at hl 1 rfl) ?_
    refine gt_X0_11 C w dX0_addStart_38 ?_
    refine lv_iload hx hb dX0_addStart_41 (lv_at hl 0 rfl) ?_
    refine lv_iconst (v := 2) hx hb dX0_addStart_43 (by decide) ?_
    refine lv_iadd hx hb dX0_addStart_44 ?_
    refine lv_iload_n hx hb dX0_addStart_45 rfl (lv_at hl 4 rfl) ?_
    obtain ⟨M6, e7, hf⟩ := bindS hf
    refine g_iast C w x_a11 e7 dX0_addStart_46 (fun H locs w => ?_)
    refine lv_aload_n hx hb dX0_addStart_47 rfl (lv_at hl 1 rfl) ?_
    refine gt_X0_11 C w dX0_addStart_48 ?_
    refine lv_iload hx hb dX0_addStart_51 (lv_at hl 0 rfl) ?_
    refine lv_iconst (v := 3) hx hb dX0_addStart_53 (by decide) ?_
    refine lv_iadd hx hb dX0_addStart_54 ?_
    refine lv_iload hx hb dX0_addStart_55 (lv_at hl 5 rfl) ?_
    obtain ⟨M8, e9, hf⟩ := bindS hf
    refine g_iast C w x_a11 e9 dX0_addStart_57 (fun H locs w => ?_)
    refine lv_aload_n hx hb dX0_addStart_58 rfl (lv_at hl 1 rfl) ?_
    refine lv_dup hx hb dX0_addStart_59 rfl ?_
    refine gt_X0_18 C w dX0_addStart_60 ?_
    refine lv_iconst (v := 1) hx hb dX0_addStart_63 (by decide) ?_
    refine lv_iadd hx hb dX0_addStart_64 ?_
    obtain ⟨M10, e11, hf⟩ := bindS hf
    refine pt_X0_18 C w e11 dX0_addStart_65 (fun H locs w => ?_)
    exact g_vret C w hr hq hf dX0_addStart_68
  · replace hf := (if_neg c1).symm.trans hf
    exact g_vret C w hr hq hf dX0_addStart_10
abbrev f_X0_addStart (x1 : Int32) (x2 : Int32) (x3 : Int32) (x4 : Int32) (M : Mem) : Option (Int32 × Mem) := f_X0_addStart_0 x1 x2 x3 x4 M
theorem c_X0_addStart (hi : gInj 241 ad) {x1 : Int32} {x2 : Int32} {x3 : Int32} {x4 : Int32} {Rs : Int32 × Mem} (hf : f_X0_addStart x1 x2 x3 x4 M = some Rs) : gMet l yX0_addStart cX0_addStart 6 none 0 D (xty cI cT cS) 241 (xE cI cT cS) ad [.ref (ad 10), .int x1, .int x2, .int x3, .int x4] M (qV D 241 (xE cI cT cS) ad Rs) := gMet_of (by decide) hi (xE_loc cI cT cS) (Nat.le_of_ble_eq_true rfl) (fun p e s m args below meth c ls C hr hq w hl => w_X0_addStart_0 C hr hq  w hl hf)
def f_X0_addMessage_0 (x1 : Int32) (M : Mem) : Option (Int32 × Mem) :=
  if (100 : Int32) ≤ (M 10 3) then (some ((0 : Int32), M)) else ((stI M 12 100 (M 10 3) x1).bind fun M2 =>
  (stF M2 10 3 ((M2 10 3) + (1 : Int32))).bind fun M4 =>
  some ((0 : Int32), M4))
set_option maxRecDepth 100000 in
set_option maxHeartbeats 4000000 in
theorem w_X0_addMessage_0 (C : gC p s m args c RX0 cX0_addMessage 2 D (xty cI cT cS) 241 (xE cI cT cS) ad) (hr : meth.sig.returnType = none) (hq : meth.locks = false) {Rs : Int32 × Mem} {x1 : Int32} (w : gWd D 241 (xE cI cT cS) ad M s H locs) (hl : lv_has ls 2 [(0, .ref (ad 10)), (1, .int x1)]) (hf : f_X0_addMessage_0  x1 M = some Rs) : W p l e (rmH 0) s m args below meth c H locs 0 0 (MQ below (qV D 241 (xE cI cT cS) ad Rs) args s 0 0 (gA 241 ad)) (F0 m 0 ls []) := by
  unfold f_X0_addMessage_0 at hf
  have hx := C.1.1
  have hb := C.1.2.1
  have hi := C.2.2.2.1
  refine lv_aload_n hx hb dX0_addMessage_0 rfl (lv_at hl 0 rfl) ?_
  refine gt_X0_22 C w dX0_addMessage_1 ?_
  refine lv_bipush (v := 100) hx hb dX0_addMessage_4 (by decide) ?_
  refine lv_icmp_ge (tgt := 29) hx hb dX0_addMessage_6 (by decide) (fun c1 => ?_) (fun c1 => ?_)
  · replace hf := (if_pos c1).symm.trans hf
    exact g_vret C w hr hq hf dX0_addMessage_29
  · replace hf := (if_neg c1).symm.trans hf
    refine lv_aload_n hx hb dX0_addMessage_9 rfl (lv_at hl 0 rfl) ?_
    refine gt_X0_15 C w dX0_addMessage_10 ?_
    refine lv_aload_n hx hb dX0_addMessage_13 rfl (lv_at hl 0 rfl) ?_
    refine gt_X0_22 C w dX0_addMessage_14 ?_
    refine lv_iload_n hx hb dX0_addMessage_17 rfl (lv_at hl 1 rfl) ?_
    obtain ⟨M2, e3, hf⟩ := bindS hf
    refine g_iast C w x_a12 e3 dX0_addMessage_18 (fun H locs w => ?_)
    refine lv_aload_n hx hb dX0_addMessage_19 rfl (lv_at hl 0 rfl) ?_
    refine lv_dup hx hb dX0_addMessage_20 rfl ?_
    refine gt_X0_22 C w dX0_addMessage_21 ?_
    refine lv_iconst (v := 1) hx hb dX0_addMessage_24 (by decide) ?_
    refine lv_iadd hx hb dX0_addMessage_25 ?_
    obtain ⟨M4, e5, hf⟩ := bindS hf
    refine pt_X0_22 C w e5 dX0_addMessage_26 (fun H locs w => ?_)
    exact g_vret C w hr hq hf dX0_addMessage_29
abbrev f_X0_addMessage (x1 : Int32) (M : Mem) : Option (Int32 × Mem) := f_X0_addMessage_0 x1 M
theorem c_X0_addMessage (hi : gInj 241 ad) {x1 : Int32} {Rs : Int32 × Mem} (hf : f_X0_addMessage x1 M = some Rs) : gMet l yX0_addMessage cX0_addMessage 2 none 0 D (xty cI cT cS) 241 (xE cI cT cS) ad [.ref (ad 10), .int x1] M (qV D 241 (xE cI cT cS) ad Rs) := gMet_of (by decide) hi (xE_loc cI cT cS) (Nat.le_of_ble_eq_true rfl) (fun p e s m args below meth c ls C hr hq w hl => w_X0_addMessage_0 C hr hq  w hl hf)
end GENX
