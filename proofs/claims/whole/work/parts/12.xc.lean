noncomputable section GENX
variable {p : Program} {l : Launch} {e : Env} {h : Nat} {R : Room} {s : State} {m : MethodId} {args : Array Value} {below : List Frame} {meth : Method} {c : Code} {H : Heap} {locs : List Loc} {cells slots : Nat} {Q : State → Prop} {cc : ByteArray} {nL pc : Nat} {ls : Array Slot} {rest : List Value} {D : va_G} {ad : Nat → Nat} {M M1 : Mem} {cI cT cS cZ : ClassId}
theorem kf_X6_83 : Cond.fieldLink RX6 83 (TX2 1).1 (TX2 1).2.1 (TX2 1).2.2.1 ∈ gW := gw_in 141 (by decide +kernel) rfl
theorem gt_X6_83 {k : Nat} (hk : xR k) (C : gC p s m args c RX6 cc nL D (xty cI cT cS) 241 (xE cI cT cS) ad) (w : gWd D 241 (xE cI cT cS) ad M s H locs) (hdg : decode cc pc = .ok (.getfield 83, 3)) (kk : W p l e R s m args below meth c H locs cells slots Q (F0 m (pc + 3) ls (.int (M k 1) :: rest))) : W p l e R s m args below meth c H locs cells slots Q (F0 m pc ls (.ref (ad k) :: rest)) := g_get C w (ob_X2 hk) rfl ginX2 1 (by decide) kf_X6_83 rfl hdg kk
theorem kf_X6_225 : Cond.fieldLink RX6 225 (TX2 0).1 (TX2 0).2.1 (TX2 0).2.2.1 ∈ gW := gw_in 139 (by decide +kernel) rfl
theorem gt_X6_225 {k : Nat} (hk : xR k) (C : gC p s m args c RX6 cc nL D (xty cI cT cS) 241 (xE cI cT cS) ad) (w : gWd D 241 (xE cI cT cS) ad M s H locs) (hdg : decode cc pc = .ok (.getfield 225, 3)) (kk : W p l e R s m args below meth c H locs cells slots Q (F0 m (pc + 3) ls (.ref (ad (k + 1)) :: rest))) : W p l e R s m args below meth c H locs cells slots Q (F0 m pc ls (.ref (ad k) :: rest)) := g_get C w (ob_X2 hk) rfl ginX2 0 (by decide) kf_X6_225 rfl hdg kk
theorem kf_X6_95 : Cond.fieldLink RX6 95 (TX4 6).1 (TX4 6).2.1 (TX4 6).2.2.1 ∈ gW := gw_in 163 (by decide +kernel) rfl
theorem gt_X6_95 {k : Nat} (hk : xT k) (C : gC p s m args c RX6 cc nL D (xty cI cT cS) 241 (xE cI cT cS) ad) (w : gWd D 241 (xE cI cT cS) ad M s H locs) (hdg : decode cc pc = .ok (.getfield 95, 3)) (kk : W p l e R s m args below meth c H locs cells slots Q (F0 m (pc + 3) ls (.ref (ad (k + 7)) :: rest))) : W p l e R s m args below meth c H locs cells slots Q (F0 m pc ls (.ref (ad k) :: rest)) := g_get C w (ob_X4 hk) rfl ginX4 6 (by decide) kf_X6_95 rfl hdg kk
theorem kf_X6_216 : Cond.fieldLink RX6 216 (TX4 4).1 (TX4 4).2.1 (TX4 4).2.2.1 ∈ gW := gw_in 159 (by decide +kernel) rfl
theorem gt_X6_216 {k : Nat} (hk : xT k) (C : gC p s m args c RX6 cc nL D (xty cI cT cS) 241 (xE cI cT cS) ad) (w : gWd D 241 (xE cI cT cS) ad M s H locs) (hdg : decode cc pc = .ok (.getfield 216, 3)) (kk : W p l e R s m args below meth c H locs cells slots Q (F0 m (pc + 3) ls (.ref (ad (k + 3)) :: rest))) : W p l e R s m args below meth c H locs cells slots Q (F0 m pc ls (.ref (ad k) :: rest)) := g_get C w (ob_X4 hk) rfl ginX4 4 (by decide) kf_X6_216 rfl hdg kk
theorem kf_X6_52 : Cond.fieldLink RX6 52 (TX4 2).1 (TX4 2).2.1 (TX4 2).2.2.1 ∈ gW := gw_in 155 (by decide +kernel) rfl
theorem gt_X6_52 {k : Nat} (hk : xT k) (C : gC p s m args c RX6 cc nL D (xty cI cT cS) 241 (xE cI cT cS) ad) (w : gWd D 241 (xE cI cT cS) ad M s H locs) (hdg : decode cc pc = .ok (.getfield 52, 3)) (kk : W p l e R s m args below meth c H locs cells slots Q (F0 m (pc + 3) ls (.int (M k 2) :: rest))) : W p l e R s m args below meth c H locs cells slots Q (F0 m pc ls (.ref (ad k) :: rest)) := g_get C w (ob_X4 hk) rfl ginX4 2 (by decide) kf_X6_52 rfl hdg kk
theorem kf_X6_17 : Cond.fieldLink RX6 17 (TX6 1).1 (TX6 1).2.1 (TX6 1).2.2.1 ∈ gW := gw_in 228 (by decide +kernel) rfl
theorem gt_X6_17 (C : gC p s m args c RX6 cc nL D (xty cI cT cS) 241 (xE cI cT cS) ad) (w : gWd D 241 (xE cI cT cS) ad M s H locs) (hdg : decode cc pc = .ok (.getfield 17, 3)) (kk : W p l e R s m args below meth c H locs cells slots Q (F0 m (pc + 3) ls (.ref (ad 2) :: rest))) : W p l e R s m args below meth c H locs cells slots Q (F0 m pc ls (.ref (ad 0) :: rest)) := g_get C w ob_X6 rfl ginX6 1 (by decide) kf_X6_17 rfl hdg kk
theorem kf_X6_213 : Cond.fieldLink RX6 213 (TX3 0).1 (TX3 0).2.1 (TX3 0).2.2.1 ∈ gW := gw_in 211 (by decide +kernel) rfl
theorem gt_X6_213 {k : Nat} (hk : xS k) (C : gC p s m args c RX6 cc nL D (xty cI cT cS) 241 (xE cI cT cS) ad) (w : gWd D 241 (xE cI cT cS) ad M s H locs) (hdg : decode cc pc = .ok (.getfield 213, 3)) (kk : W p l e R s m args below meth c H locs cells slots Q (F0 m (pc + 3) ls (.ref (ad (k + 1)) :: rest))) : W p l e R s m args below meth c H locs cells slots Q (F0 m pc ls (.ref (ad k) :: rest)) := g_get C w (ob_X3 hk) rfl ginX3 0 (by decide) kf_X6_213 rfl hdg kk
theorem kf_X6_24 : Cond.fieldLink RX6 24 (TX6 2).1 (TX6 2).2.1 (TX6 2).2.2.1 ∈ gW := gw_in 229 (by decide +kernel) rfl
theorem gt_X6_24 (C : gC p s m args c RX6 cc nL D (xty cI cT cS) 241 (xE cI cT cS) ad) (w : gWd D 241 (xE cI cT cS) ad M s H locs) (hdg : decode cc pc = .ok (.getfield 24, 3)) (kk : W p l e R s m args below meth c H locs cells slots Q (F0 m (pc + 3) ls (.ref (ad 3) :: rest))) : W p l e R s m args below meth c H locs cells slots Q (F0 m pc ls (.ref (ad 0) :: rest)) := g_get C w ob_X6 rfl ginX6 2 (by decide) kf_X6_24 rfl hdg kk
theorem kc_X6_homeOf : Cond.code yX6_homeOf cX6_homeOf 5 (some .int) ∈ gW := gw_in 352 (by decide +kernel) rfl
theorem md_X6_homeOf : gMd yX6_homeOf 2 := ⟨by decide +kernel, by decide +kernel, by decide +kernel⟩
theorem kl_X6_210 : Cond.methodLink RX6 210 yX6_homeOf ∈ gW := gw_in 349 (by decide +kernel) rfl
theorem kn_X6_homeOf : Cond.instanceMethod yX6_homeOf ∈ gW := gw_in 351 (by decide +kernel) rfl
theorem ks_X6_homeOf : Cond.selects RX6 yX6_homeOf yX6_homeOf ∈ gW := gw_in 5 (by decide +kernel) rfl
theorem gv_X6_210 : gWv RX6 210 yX6_homeOf cX6_homeOf 5 (some .int) := ⟨kl_X6_210, kn_X6_homeOf, ks_X6_homeOf, ki_X6, kc_X6_homeOf⟩
theorem kc_X1_numberOf : Cond.code yX1_numberOf cX1_numberOf 3 (some .int) ∈ gW := gw_in 412 (by decide +kernel) rfl
theorem md_X1_numberOf : gMd yX1_numberOf 2 := ⟨by decide +kernel, by decide +kernel, by decide +kernel⟩
theorem kl_X6_160 : Cond.methodLink RX6 160 yX1_numberOf ∈ gW := gw_in 409 (by decide +kernel) rfl
theorem kn_X1_numberOf : Cond.instanceMethod yX1_numberOf ∈ gW := gw_in 410 (by decide +kernel) rfl
theorem ks_X1_numberOf : Cond.selects RX1 yX1_numberOf yX1_numberOf ∈ gW := gw_in 411 (by decide +kernel) rfl
theorem gv_X6_160 : gWv RX6 160 yX1_numberOf cX1_numberOf 3 (some .int) := ⟨kl_X6_160, kn_X1_numberOf, ks_X1_numberOf, ki_X1, kc_X1_numberOf⟩
theorem kc_X6_placeOf : Cond.code yX6_placeOf cX6_placeOf 3 (some (.object "ExtensionStarts$Place")) ∈ gW := gw_in 376 (by decide +kernel) rfl
theorem md_X6_placeOf : gMd yX6_placeOf 2 := ⟨by decide +kernel, by decide +kernel, by decide +kernel⟩
theorem kl_X6_146 : Cond.methodLink RX6 146 yX6_placeOf ∈ gW := gw_in 373 (by decide +kernel) rfl
theorem kn_X6_placeOf : Cond.instanceMethod yX6_placeOf ∈ gW := gw_in 375 (by decide +kernel) rfl
theorem ks_X6_placeOf : Cond.selects RX6 yX6_placeOf yX6_placeOf ∈ gW := gw_in 10 (by decide +kernel) rfl
theorem gv_X6_146 : gWv RX6 146 yX6_placeOf cX6_placeOf 3 (some (.object "ExtensionStarts$Place")) := ⟨kl_X6_146, kn_X6_placeOf, ks_X6_placeOf, ki_X6, kc_X6_placeOf⟩
theorem kf_X6_74 : Cond.fieldLink RX6 74 (TX4 3).1 (TX4 3).2.1 (TX4 3).2.2.1 ∈ gW := gw_in 157 (by decide +kernel) rfl
theorem gt_X6_74 {k : Nat} (hk : xT k) (C : gC p s m args c RX6 cc nL D (xty cI cT cS) 241 (xE cI cT cS) ad) (w : gWd D 241 (xE cI cT cS) ad M s H locs) (hdg : decode cc pc = .ok (.getfield 74, 3)) (kk : W p l e R s m args below meth c H locs cells slots Q (F0 m (pc + 3) ls (.ref (ad (k + 1)) :: rest))) : W p l e R s m args below meth c H locs cells slots Q (F0 m pc ls (.ref (ad k) :: rest)) := g_get C w (ob_X4 hk) rfl ginX4 3 (by decide) kf_X6_74 rfl hdg kk
theorem kf_X6_232 : Cond.fieldLink RX6 232 (TX4 1).1 (TX4 1).2.1 (TX4 1).2.2.1 ∈ gW := gw_in 153 (by decide +kernel) rfl
theorem gt_X6_232 {k : Nat} (hk : xT k) (C : gC p s m args c RX6 cc nL D (xty cI cT cS) 241 (xE cI cT cS) ad) (w : gWd D 241 (xE cI cT cS) ad M s H locs) (hdg : decode cc pc = .ok (.getfield 232, 3)) (kk : W p l e R s m args below meth c H locs cells slots Q (F0 m (pc + 3) ls (.int (M k 1) :: rest))) : W p l e R s m args below meth c H locs cells slots Q (F0 m pc ls (.ref (ad k) :: rest)) := g_get C w (ob_X4 hk) rfl ginX4 1 (by decide) kf_X6_232 rfl hdg kk
theorem kc_X2_addAllOnce : Cond.code yX2_addAllOnce cX2_addAllOnce 3 none ∈ gW := gw_in 303 (by decide +kernel) rfl
theorem md_X2_addAllOnce : gMd yX2_addAllOnce 1 := ⟨by decide +kernel, by decide +kernel, by decide +kernel⟩
theorem kl_X6_228 : Cond.methodLink RX6 228 yX2_addAllOnce ∈ gW := gw_in 300 (by decide +kernel) rfl
theorem kn_X2_addAllOnce : Cond.instanceMethod yX2_addAllOnce ∈ gW := gw_in 301 (by decide +kernel) rfl
theorem ks_X2_addAllOnce : Cond.selects RX2 yX2_addAllOnce yX2_addAllOnce ∈ gW := gw_in 302 (by decide +kernel) rfl
theorem gv_X6_228 : gWv RX6 228 yX2_addAllOnce cX2_addAllOnce 3 none := ⟨kl_X6_228, kn_X2_addAllOnce, ks_X2_addAllOnce, ki_X2, kc_X2_addAllOnce⟩
theorem kf_X6_222 : Cond.fieldLink RX6 222 (TX4 5).1 (TX4 5).2.1 (TX4 5).2.2.1 ∈ gW := gw_in 161 (by decide +kernel) rfl
theorem gt_X6_222 {k : Nat} (hk : xT k) (C : gC p s m args c RX6 cc nL D (xty cI cT cS) 241 (xE cI cT cS) ad) (w : gWd D 241 (xE cI cT cS) ad M s H locs) (hdg : decode cc pc = .ok (.getfield 222, 3)) (kk : W p l e R s m args below meth c H locs cells slots Q (F0 m (pc + 3) ls (.ref (ad (k + 5)) :: rest))) : W p l e R s m args below meth c H locs cells slots Q (F0 m pc ls (.ref (ad k) :: rest)) := g_get C w (ob_X4 hk) rfl ginX4 5 (by decide) kf_X6_222 rfl hdg kk
theorem kl_X6_86 : Cond.methodLink RX6 86 yX2_addOnce ∈ gW := gw_in 292 (by decide +kernel) rfl
theorem gv_X6_86 : gWv RX6 86 yX2_addOnce cX2_addOnce 2 none := ⟨kl_X6_86, kn_X2_addOnce, ks_X2_addOnce, ki_X2, kc_X2_addOnce⟩
theorem kl_X6_219 : Cond.methodLink RX6 219 yX2_empty ∈ gW := gw_in 291 (by decide +kernel) rfl
theorem gv_X6_219 : gWv RX6 219 yX2_empty cX2_empty 1 none := ⟨kl_X6_219, kn_X2_empty, ks_X2_empty, ki_X2, kc_X2_empty⟩
theorem kf_X6_31 : Cond.fieldLink RX6 31 (TX6 3).1 (TX6 3).2.1 (TX6 3).2.2.1 ∈ gW := gw_in 230 (by decide +kernel) rfl
theorem gt_X6_31 (C : gC p s m args c RX6 cc nL D (xty cI cT cS) 241 (xE cI cT cS) ad) (w : gWd D 241 (xE cI cT cS) ad M s H locs) (hdg : decode cc pc = .ok (.getfield 31, 3)) (kk : W p l e R s m args below meth c H locs cells slots Q (F0 m (pc + 3) ls (.ref (ad 6) :: rest))) : W p l e R s m args below meth c H locs cells slots Q (F0 m pc ls (.ref (ad 0) :: rest)) := g_get C w ob_X6 rfl ginX6 3 (by decide) kf_X6_31 rfl hdg kk
theorem kf_X6_198 : Cond.fieldLink RX6 198 (TX5 3).1 (TX5 3).2.1 (TX5 3).2.2.1 ∈ gW := gw_in 94 (by decide +kernel) rfl
theorem gt_X6_198 (C : gC p s m args c RX6 cc nL D (xty cI cT cS) 241 (xE cI cT cS) ad) (w : gWd D 241 (xE cI cT cS) ad M s H locs) (hdg : decode cc pc = .ok (.getfield 198, 3)) (kk : W p l e R s m args below meth c H locs cells slots Q (F0 m (pc + 3) ls (.int (M 6 3) :: rest))) : W p l e R s m args below meth c H locs cells slots Q (F0 m pc ls (.ref (ad 6) :: rest)) := g_get C w ob_X5 rfl ginX5 3 (by decide) kf_X6_198 rfl hdg kk
theorem kc_X6_canBeSet : Cond.code yX6_canBeSet cX6_canBeSet 4 (some .boolean) ∈ gW := gw_in 348 (by decide +kernel) rfl
theorem md_X6_canBeSet : gMd yX6_canBeSet 2 := ⟨by decide +kernel, by decide +kernel, by decide +kernel⟩
theorem kl_X6_206 : Cond.methodLink RX6 206 yX6_canBeSet ∈ gW := gw_in 345 (by decide +kernel) rfl
theorem kn_X6_canBeSet : Cond.instanceMethod yX6_canBeSet ∈ gW := gw_in 347 (by decide +kernel) rfl
theorem ks_X6_canBeSet : Cond.selects RX6 yX6_canBeSet yX6_canBeSet ∈ gW := gw_in 4 (by decide +kernel) rfl
theorem gv_X6_206 : gWv RX6 206 yX6_canBeSet cX6_canBeSet 4 (some .boolean) := ⟨kl_X6_206, kn_X6_canBeSet, ks_X6_canBeSet, ki_X6, kc_X6_canBeSet⟩
theorem kc_X6_isClass : Cond.code yX6_isClass cX6_isClass 2 (some .boolean) ∈ gW := gw_in 271 (by decide +kernel) rfl
theorem md_X6_isClass : gMd yX6_isClass 1 := ⟨by decide +kernel, by decide +kernel, by decide +kernel⟩
theorem kl_X6_48 : Cond.methodLink RX6 48 yX6_isClass ∈ gW := gw_in 268 (by decide +kernel) rfl
theorem kn_X6_isClass : Cond.instanceMethod yX6_isClass ∈ gW := gw_in 270 (by decide +kernel) rfl
theorem ks_X6_isClass : Cond.selects RX6 yX6_isClass yX6_isClass ∈ gW := gw_in 0 (by decide +kernel) rfl
theorem gv_X6_48 : gWv RX6 48 yX6_isClass cX6_isClass 2 (some .boolean) := ⟨kl_X6_48, kn_X6_isClass, ks_X6_isClass, ki_X6, kc_X6_isClass⟩
theorem kc_X6_isSession : Cond.code yX6_isSession cX6_isSession 1 (some .boolean) ∈ gW := gw_in 344 (by decide +kernel) rfl
theorem md_X6_isSession : gMd yX6_isSession 1 := ⟨by decide +kernel, by decide +kernel, by decide +kernel⟩
theorem kt_X6_isSession : Cond.static yX6_isSession ∈ gW := gw_in 343 (by decide +kernel) rfl
theorem kl_X6_143 : Cond.methodLink RX6 143 yX6_isSession ∈ gW := gw_in 342 (by decide +kernel) rfl
theorem gs_X6_143 : gWs RX6 143 yX6_isSession cX6_isSession 1 (some .boolean) := ⟨kl_X6_143, kt_X6_isSession, ki_X6, kc_X6_isSession⟩
theorem kf_X6_117 : Cond.fieldLink RX6 117 (TX6 8).1 (TX6 8).2.1 (TX6 8).2.2.1 ∈ gW := gw_in 235 (by decide +kernel) rfl
theorem gt_X6_117 (C : gC p s m args c RX6 cc nL D (xty cI cT cS) 241 (xE cI cT cS) ad) (w : gWd D 241 (xE cI cT cS) ad M s H locs) (hdg : decode cc pc = .ok (.getfield 117, 3)) (kk : W p l e R s m args below meth c H locs cells slots Q (F0 m (pc + 3) ls (.int (M 0 8) :: rest))) : W p l e R s m args below meth c H locs cells slots Q (F0 m pc ls (.ref (ad 0) :: rest)) := g_get C w ob_X6 rfl ginX6 8 (by decide) kf_X6_117 rfl hdg kk
theorem kf_X6_183 : Cond.fieldLink RX6 183 (TX3 2).1 (TX3 2).2.1 (TX3 2).2.2.1 ∈ gW := gw_in 215 (by decide +kernel) rfl
theorem gt_X6_183 {k : Nat} (hk : xS k) (C : gC p s m args c RX6 cc nL D (xty cI cT cS) 241 (xE cI cT cS) ad) (w : gWd D 241 (xE cI cT cS) ad M s H locs) (hdg : decode cc pc = .ok (.getfield 183, 3)) (kk : W p l e R s m args below meth c H locs cells slots Q (F0 m (pc + 3) ls (.int (M k 2) :: rest))) : W p l e R s m args below meth c H locs cells slots Q (F0 m pc ls (.ref (ad k) :: rest)) := g_get C w (ob_X3 hk) rfl ginX3 2 (by decide) kf_X6_183 rfl hdg kk
theorem pt_X6_183 {k : Nat} (hk : xS k) {x : Int32} (C : gC p s m args c RX6 cc nL D (xty cI cT cS) 241 (xE cI cT cS) ad) (w : gWd D 241 (xE cI cT cS) ad M s H locs) (e1 : stF M k 2 x = some M1) (hdg : decode cc pc = .ok (.putfield 183, 3)) (kk : ∀ (H1 : Heap) (locs1 : List Loc), gWd D 241 (xE cI cT cS) ad M1 s H1 locs1 → W p l e R s m args below meth c H1 locs1 cells slots Q (F0 m (pc + 3) ls rest)) : W p l e R s m args below meth c H locs cells slots Q (F0 m pc ls (.int x :: .ref (ad k) :: rest)) := by
  cases e1
  exact g_put C w (ob_X3 hk) rfl ginX3 tyX3 tyX3_ok nmX3 2 (by decide) kf_X6_183 rfl rfl rfl (Nat.le_of_ble_eq_true rfl) (by simp [fX3, mset, upd]) hdg kk
theorem kf_X6_199 : Cond.fieldLink RX6 199 (TX6 6).1 (TX6 6).2.1 (TX6 6).2.2.1 ∈ gW := gw_in 233 (by decide +kernel) rfl
theorem gt_X6_199 (C : gC p s m args c RX6 cc nL D (xty cI cT cS) 241 (xE cI cT cS) ad) (w : gWd D 241 (xE cI cT cS) ad M s H locs) (hdg : decode cc pc = .ok (.getfield 199, 3)) (kk : W p l e R s m args below meth c H locs cells slots Q (F0 m (pc + 3) ls (.int (M 0 6) :: rest))) : W p l e R s m args below meth c H locs cells slots Q (F0 m pc ls (.ref (ad 0) :: rest)) := g_get C w ob_X6 rfl ginX6 6 (by decide) kf_X6_199 rfl hdg kk
theorem pt_X6_199 {x : Int32} (C : gC p s m args c RX6 cc nL D (xty cI cT cS) 241 (xE cI cT cS) ad) (w : gWd D 241 (xE cI cT cS) ad M s H locs) (e1 : stF M 0 6 x = some M1) (hdg : decode cc pc = .ok (.putfield 199, 3)) (kk : ∀ (H1 : Heap) (locs1 : List Loc), gWd D 241 (xE cI cT cS) ad M1 s H1 locs1 → W p l e R s m args below meth c H1 locs1 cells slots Q (F0 m (pc + 3) ls rest)) : W p l e R s m args below meth c H locs cells slots Q (F0 m pc ls (.int x :: .ref (ad 0) :: rest)) := by
  cases e1
  exact g_put C w ob_X6 rfl ginX6 tyX6 tyX6_ok nmX6 6 (by decide) kf_X6_199 rfl rfl rfl (Nat.le_of_ble_eq_true rfl) (by simp [fX6, mset, upd]) hdg kk
theorem kc_X1_setNumber : Cond.code yX1_setNumber cX1_setNumber 4 none ∈ gW := gw_in 400 (by decide +kernel) rfl
theorem md_X1_setNumber : gMd yX1_setNumber 3 := ⟨by decide +kernel, by decide +kernel, by decide +kernel⟩
theorem kl_X6_254 : Cond.methodLink RX6 254 yX1_setNumber ∈ gW := gw_in 397 (by decide +kernel) rfl
theorem kn_X1_setNumber : Cond.instanceMethod yX1_setNumber ∈ gW := gw_in 398 (by decide +kernel) rfl
theorem ks_X1_setNumber : Cond.selects RX1 yX1_setNumber yX1_setNumber ∈ gW := gw_in 399 (by decide +kernel) rfl
theorem gv_X6_254 : gWv RX6 254 yX1_setNumber cX1_setNumber 4 none := ⟨kl_X6_254, kn_X1_setNumber, ks_X1_setNumber, ki_X1, kc_X1_setNumber⟩
theorem kf_X6_120 : Cond.fieldLink RX6 120 (TX6 9).1 (TX6 9).2.1 (TX6 9).2.2.1 ∈ gW := gw_in 236 (by decide +kernel) rfl
theorem gt_X6_120 (C : gC p s m args c RX6 cc nL D (xty cI cT cS) 241 (xE cI cT cS) ad) (w : gWd D 241 (xE cI cT cS) ad M s H locs) (hdg : decode cc pc = .ok (.getfield 120, 3)) (kk : W p l e R s m args below meth c H locs cells slots Q (F0 m (pc + 3) ls (.int (M 0 9) :: rest))) : W p l e R s m args below meth c H locs cells slots Q (F0 m pc ls (.ref (ad 0) :: rest)) := g_get C w ob_X6 rfl ginX6 9 (by decide) kf_X6_120 rfl hdg kk
theorem pt_X6_120 {x : Int32} (C : gC p s m args c RX6 cc nL D (xty cI cT cS) 241 (xE cI cT cS) ad) (w : gWd D 241 (xE cI cT cS) ad M s H locs) (e1 : stF M 0 9 x = some M1) (hdg : decode cc pc = .ok (.putfield 120, 3)) (kk : ∀ (H1 : Heap) (locs1 : List Loc), gWd D 241 (xE cI cT cS) ad M1 s H1 locs1 → W p l e R s m args below meth c H1 locs1 cells slots Q (F0 m (pc + 3) ls rest)) : W p l e R s m args below meth c H locs cells slots Q (F0 m pc ls (.int x :: .ref (ad 0) :: rest)) := by
  cases e1
  exact g_put C w ob_X6 rfl ginX6 tyX6 tyX6_ok nmX6 9 (by decide) kf_X6_120 rfl rfl rfl (Nat.le_of_ble_eq_true rfl) (by simp [fX6, mset, upd]) hdg kk
def f_X6_homeOf_13b (k13_ : (Int32 → Nat → Int32 → Mem → Option (Int32 × Mem))) (x2 : Int32) (k3 : Nat) (x4 : Int32) (M : Mem) : Option (Int32 × Mem) :=
  if (M k3 1) ≤ x4 then (some ((-1 : Int32), M)) else ((ldI M (k3 + 1) 16 x4).bind fun v2 =>
  (ixQ 16 v2).bind fun t4 =>
  (ldI M ((33 + 13 * t4) + 7) 5 x2).bind fun v6 =>
  if v6 = 0 then (k13_ x2 k3 (x4 + 1) M) else ((ldI M (k3 + 1) 16 x4).bind fun v9 =>
  some (v9, M)))
def f_X6_homeOf_13 : Nat → Int32 → Nat → Int32 → Mem → Option (Int32 × Mem)
  | 0, _, _, _, _ => none
  | n + 1, x2, k3, x4, M => f_X6_homeOf_13b (f_X6_homeOf_13  n) x2 k3 x4 M
def f_X6_homeOf_0 (x1 : Int32) (x2 : Int32) (M : Mem) : Option (Int32 × Mem) :=
  (ixQ 16 x1).bind fun t1 =>
  f_X6_homeOf_13 FU x2 ((33 + 13 * t1) + 3) (0 : Int32) M
set_option maxRecDepth 100000 in
set_option maxHeartbeats 4000000 in
theorem w_X6_homeOf_13b (C : gC p s m args c RX6 cX6_homeOf 5 D (xty cI cT cS) 241 (xE cI cT cS) ad) (hr : meth.sig.returnType = (some .int)) (hq : meth.locks = false) {k13_ : (Int32 → Nat → Int32 → Mem → Option (Int32 × Mem))} {Rs : Int32 × Mem} (hk13_ : ∀ {x2 : Int32} {k3 : Nat} {x4 : Int32} {M : Mem} {H : Heap} {locs : List Loc} {ls : Array Slot} (h3 : xR k3), gWd D 241 (xE cI cT cS) ad M s H locs → lv_has ls 5 [(0, .ref (ad 0)), (2, .int x2), (3, .ref (ad k3)), (4, .int x4)] → k13_ x2 k3 x4 M = some Rs → W p l e (rmH 0) s m args below meth c H locs 0 0 (MQ below (qI D 241 (xE cI cT cS) ad Rs) args s 0 0 (gA 241 ad)) (F0 m 13 ls [])) {x2 : Int32} {k3 : Nat} {x4 : Int32} (h3 : xR k3) (w : gWd D 241 (xE cI cT cS) ad M s H locs) (hl : lv_has ls 5 [(0, .ref (ad 0)), (2, .int x2), (3, .ref (ad k3)), (4, .int x4)]) (hf : f_X6_homeOf_13b k13_ x2 k3 x4 M = some Rs) : W p l e (rmH 0) s m args below meth c H locs 0 0 (MQ below (qI D 241 (xE cI cT cS) ad Rs) args s 0 0 (gA 241 ad)) (F0 m 13 ls []) := by
  unfold f_X6_homeOf_13b at hf
  have hx := C.1.1
  have hb := C.1.2.1
  have hi := C.2.2.2.1
  refine lv_iload hx hb dX6_homeOf_13 (lv_at hl 3 rfl) ?_
  refine lv_aload_n hx hb dX6_homeOf_15 rfl (lv_at hl 2 rfl) ?_
  refine gt_X6_83 h3 C w dX6_homeOf_16 ?_
  refine lv_icmp_ge (tgt := 56) hx hb dX6_homeOf_19 (by decide) (fun c1 => ?_) (fun c1 => ?_)
  · replace hf := (if_pos c1).symm.trans hf
    refine lv_iconst (v := -1) hx hb dX6_homeOf_56 (by decide) ?_
    exact g_iret C w hr hq hf dX6_homeOf_57
  · replace hf := (if_neg c1).symm.trans hf
    refine lv_aload_n hx hb dX6_homeOf_22 rfl (lv_at hl 0 rfl) ?_
    refine gt_X6_11 C w dX6_homeOf_23 ?_
    refine lv_aload_n hx hb dX6_homeOf_26 rfl (lv_at hl 2 rfl) ?_
    refine gt_X6_225 h3 C w dX6_homeOf_27 ?_
    refine lv_iload hx hb dX6_homeOf_30 (lv_at hl 3 rfl) ?_
    obtain ⟨v2, e3, hf⟩ := bindS hf
    refine g_iald C w (xR_a h3) e3 dX6_homeOf_32 ?_
    obtain ⟨t4, e5, hf⟩ := bindS hf
    refine g_aald (t0 := 1) C w rf_T rfl e5 dX6_homeOf_33 ?_
    refine gt_X6_95 ⟨t4, ixQ_lt e5, rfl⟩ C w dX6_homeOf_34 ?_
    refine lv_iload_n hx hb dX6_homeOf_37 rfl (lv_at hl 1 rfl) ?_
    obtain ⟨v6, e7, hf⟩ := bindS hf
    refine g_iald C w (xT_a7 ⟨t4, ixQ_lt e5, rfl⟩) e7 dX6_homeOf_38 ?_
    refine lv_if_eq (tgt := 50) hx hb dX6_homeOf_39 (by decide) (fun c8 => ?_) (fun c8 => ?_)
    · replace hf := (if_pos c8).symm.trans hf
      refine lv_iinc (v := (x4 + 1)) (lv' := [(4, .int (x4 + 1)), (0, .ref (ad 0)), (2, .int x2), (3, .ref (ad k3))]) hx hb dX6_homeOf_50 hl (k := 3) rfl rfl (by decide) rfl (fun ls hl => ?_)
      refine lv_goto (tgt := 13) hx hb dX6_homeOf_53 (by decide) ?_
      exact hk13_ h3 w (lv_sub hl [1, 2, 3, 0] rfl) hf
    · replace hf := (if_neg c8).symm.trans hf
      refine lv_aload_n hx hb dX6_homeOf_42 rfl (lv_at hl 2 rfl) ?_
      refine gt_X6_225 h3 C w dX6_homeOf_43 ?_
      refine lv_iload hx hb dX6_homeOf_46 (lv_at hl 3 rfl) ?_
      obtain ⟨v9, e10, hf⟩ := bindS hf
      refine g_iald C w (xR_a h3) e10 dX6_homeOf_48 ?_
      exact g_iret C w hr hq hf dX6_homeOf_49
theorem w_X6_homeOf_13 (C : gC p s m args c RX6 cX6_homeOf 5 D (xty cI cT cS) 241 (xE cI cT cS) ad) (hr : meth.sig.returnType = (some .int)) (hq : meth.locks = false) {Rs : Int32 × Mem} : ∀ (n : Nat) {x2 : Int32} {k3 : Nat} {x4 : Int32} {M : Mem} {H : Heap} {locs : List Loc} {ls : Array Slot} (h3 : xR k3), gWd D 241 (xE cI cT cS) ad M s H locs → lv_has ls 5 [(0, .ref (ad 0)), (2, .int x2), (3, .ref (ad k3)), (4, .int x4)] → f_X6_homeOf_13  n x2 k3 x4 M = some Rs → W p l e (rmH 0) s m args below meth c H locs 0 0 (MQ below (qI D 241 (xE cI cT cS) ad Rs) args s 0 0 (gA 241 ad)) (F0 m 13 ls []) := by
  intro n
  induction n with
  | zero =>
    intro x2 k3 x4 M H locs ls h3 w hl hf
    cases hf
  | succ n ih =>
    intro x2 k3 x4 M H locs ls h3 w hl hf
    exact w_X6_homeOf_13b C hr hq ih h3 w hl hf
set_option maxRecDepth 100000 in
set_option maxHeartbeats 4000000 in
theorem w_X6_homeOf_0 (C : gC p s m args c RX6 cX6_homeOf 5 D (xty cI cT cS) 241 (xE cI cT cS) ad) (hr : meth.sig.returnType = (some .int)) (hq : meth.locks = false) {Rs : Int32 × Mem} {x1 : Int32} {x2 : Int32} (w : gWd D 241 (xE cI cT cS) ad M s H locs) (hl : lv_has ls 5 [(0, .ref (ad 0)), (1, .int x1), (2, .int x2)]) (hf : f_X6_homeOf_0  x1 x2 M = some Rs) : W p l e (rmH 0) s m args below meth c H locs 0 0 (MQ below (qI D 241 (xE cI cT cS) ad Rs) args s 0 0 (gA 241 ad)) (F0 m 0 ls []) := by
  unfold f_X6_homeOf_0 at hf
  have hx := C.1.1
  have hb := C.1.2.1
  have hi := C.2.2.2.1
  refine lv_aload_n hx hb dX6_homeOf_0 rfl (lv_at hl 0 rfl) ?_
  refine gt_X6_11 C w dX6_homeOf_1 ?_
  refine lv_iload_n hx hb dX6_homeOf_4 rfl (lv_at hl 1 rfl) ?_
  obtain ⟨t1, e2, hf⟩ := bindS hf
  refine g_aald (t0 := 1) C w rf_T rfl e2 dX6_homeOf_5 ?_
  refine gt_X6_216 ⟨t1, ixQ_lt e2, rfl⟩ C w dX6_homeOf_6 ?_
  refine lv_astore_n (lv' := [(3, .ref (ad ((33 + 13 * t1) + 3))), (0, .ref (ad 0)), (1, .int x1), (2, .int x2)]) hx hb dX6_homeOf_9 rfl hl (by decide) rfl (fun ls hl => ?_)
  refine lv_iconst (v := 0) hx hb dX6_homeOf_10 (by decide) ?_
  refine lv_istore (lv' := [(4, .int (0 : Int32)), (3, .ref (ad ((33 + 13 * t1) + 3))), (0, .ref (ad 0)), (1, .int x1), (2, .int x2)]) hx hb dX6_homeOf_11 hl (by decide) rfl (fun ls hl => ?_)
  exact w_X6_homeOf_13 C hr hq FU (xT_r3 ⟨t1, ixQ_lt e2, rfl⟩) w (lv_sub hl [2, 4, 1, 0] rfl) hf
abbrev f_X6_homeOf (x1 : Int32) (x2 : Int32) (M : Mem) : Option (Int32 × Mem) := f_X6_homeOf_0 x1 x2 M
theorem c_X6_homeOf (hi : gInj 241 ad) {x1 : Int32} {x2 : Int32} {Rs : Int32 × Mem} (hf : f_X6_homeOf x1 x2 M = some Rs) : gMet l yX6_homeOf cX6_homeOf 5 (some .int) 0 D (xty cI cT cS) 241 (xE cI cT cS) ad [.ref (ad 0), .int x1, .int x2] M (qI D 241 (xE cI cT cS) ad Rs) := gMet_of (by decide) hi (xE_loc cI cT cS) (Nat.le_of_ble_eq_true rfl) (fun p e s m args below meth c ls C hr hq w hl => w_X6_homeOf_0 C hr hq  w hl hf)
def f_X6_placeOf_0 (x1 : Int32) (x2 : Int32) (M : Mem) : Option (Nat × Mem) :=
  (ixQ 16 x2).bind fun t1 =>
  if (M (33 + 13 * t1) 2) = 0 then ((ixQ 4 x1).bind fun t4 =>
  some (((13 + 5 * t4) + 1), M)) else (some (3, M))
set_option maxRecDepth 100000 in
set_option maxHeartbeats 4000000 in
theorem w_X6_placeOf_0 (C : gC p s m args c RX6 cX6_placeOf 3 D (xty cI cT cS) 241 (xE cI cT cS) ad) (hr : meth.sig.returnType = (some (.object "ExtensionStarts$Place"))) (hq : meth.locks = false) {Rs : Nat × Mem} {x1 : Int32} {x2 : Int32} (w : gWd D 241 (xE cI cT cS) ad M s H locs) (hl : lv_has ls 3 [(0, .ref (ad 0)), (1, .int x1), (2, .int x2)]) (hf : f_X6_placeOf_0  x1 x2 M = some Rs) : W p l e (rmH 0) s m args below meth c H locs 0 0 (MQ below (qR D 241 (xE cI cT cS) ad Rs) args s 0 0 (gA 241 ad)) (F0 m 0 ls []) := by
  unfold f_X6_placeOf_0 at hf
  have hx := C.1.1
  have hb := C.1.2.1
  have hi := C.2.2.2.1
  refine lv_aload_n hx hb dX6_placeOf_0 rfl (lv_at hl 0 rfl) ?_
  refine gt_X6_11 C w dX6_placeOf_1 ?_
  refine lv_iload_n hx hb dX6_placeOf_4 rfl (lv_at hl 2 rfl) ?_
  obtain ⟨t1, e2, hf⟩ := bindS hf
  refine g_aald (t0 := 1) C w rf_T rfl e2 dX6_placeOf_5 ?_
  refine gt_X6_52 ⟨t1, ixQ_lt e2, rfl⟩ C w dX6_placeOf_6 ?_
  refine lv_if_eq (tgt := 19) hx hb dX6_placeOf_9 (by decide) (fun c3 => ?_) (fun c3 => ?_)
  · replace hf := (if_pos c3).symm.trans hf
    refine lv_aload_n hx hb dX6_placeOf_19 rfl (lv_at hl 0 rfl) ?_
    refine gt_X6_17 C w dX6_placeOf_20 ?_
    refine lv_iload_n hx hb dX6_placeOf_23 rfl (lv_at hl 1 rfl) ?_
    obtain ⟨t4, e5, hf⟩ := bindS hf
    refine g_aald (t0 := 2) C w rf_S rfl e5 dX6_placeOf_24 ?_
    refine gt_X6_213 ⟨t4, ixQ_lt e5, rfl⟩ C w dX6_placeOf_25 ?_
    exact g_aret C w hr hq hf dX6_placeOf_28
  · replace hf := (if_neg c3).symm.trans hf
    refine lv_aload_n hx hb dX6_placeOf_12 rfl (lv_at hl 0 rfl) ?_
    refine gt_X6_24 C w dX6_placeOf_13 ?_
    refine lv_goto (tgt := 28) hx hb dX6_placeOf_16 (by decide) ?_
    exact g_aret C w hr hq hf dX6_placeOf_28
abbrev f_X6_placeOf (x1 : Int32) (x2 : Int32) (M : Mem) : Option (Nat × Mem) := f_X6_placeOf_0 x1 x2 M
theorem c_X6_placeOf (hi : gInj 241 ad) {x1 : Int32} {x2 : Int32} {Rs : Nat × Mem} (hf : f_X6_placeOf x1 x2 M = some Rs) : gMet l yX6_placeOf cX6_placeOf 3 (some (.object "ExtensionStarts$Place")) 0 D (xty cI cT cS) 241 (xE cI cT cS) ad [.ref (ad 0), .int x1, .int x2] M (qR D 241 (xE cI cT cS) ad Rs) := gMet_of (by decide) hi (xE_loc cI cT cS) (Nat.le_of_ble_eq_true rfl) (fun p e s m args below meth c ls C hr hq w hl => w_X6_placeOf_0 C hr hq  w hl hf)
def f_X6_canBeSet_0 (x1 : Int32) (x2 : Int32) (M : Mem) : Option (Int32 × Mem) :=
  (f_X6_homeOf x1 x2 M).bind fun (v3, M1) =>
  if v3 = (-1 : Int32) then (rtZ (0 : Int32) M1) else ((ixQ 16 v3).bind fun t5 =>
  (ldI M1 ((33 + 13 * t5) + 7) 5 x2).bind fun v7 =>
  if v7 = (2 : Int32) then (rtZ (1 : Int32) M1) else (rtZ (0 : Int32) M1))
set_option maxRecDepth 100000 in
set_option maxHeartbeats 4000000 in
theorem w_X6_canBeSet_0 (C : gC p s m args c RX6 cX6_canBeSet 4 D (xty cI cT cS) 241 (xE cI cT cS) ad) (hr : meth.sig.returnType = (some .boolean)) (hq : meth.locks = false) {Rs : Int32 × Mem} {x1 : Int32} {x2 : Int32} (w : gWd D 241 (xE cI cT cS) ad M s H locs) (hl : lv_has ls 4 [(0, .ref (ad 0)), (1, .int x1), (2, .int x2)]) (hf : f_X6_canBeSet_0  x1 x2 M = some Rs) : W p l e (rmH 1) s m args below meth c H locs 0 0 (MQ below (qI D 241 (xE cI cT cS) ad Rs) args s 0 0 (gA 241 ad)) (F0 m 0 ls []) := by
  unfold f_X6_canBeSet_0 at hf
  have hx := C.1.1
  have hb := C.1.2.1
  have hi := C.2.2.2.1
  refine lv_aload_n hx hb dX6_canBeSet_0 rfl (lv_at hl 0 rfl) ?_
  refine lv_iload_n hx hb dX6_canBeSet_1 rfl (lv_at hl 1 rfl) ?_
  refine lv_iload_n hx hb dX6_canBeSet_2 rfl (lv_at hl 2 rfl) ?_
  obtain ⟨⟨v3, M1⟩, e2, hf⟩ := bindS hf
  refine g_backI w (g_runV (rest := []) C w (c_X6_homeOf hi  e2) ob_X6 rfl gv_X6_210 md_X6_homeOf rfl (by omega) (by decide) hl.1 rfl (Nat.le_of_ble_eq_true rfl) dX6_canBeSet_3) (fun H locs w => ?_)
  refine lv_istore_n (lv' := [(3, .int v3), (0, .ref (ad 0)), (1, .int x1), (2, .int x2)]) hx hb dX6_canBeSet_6 rfl hl (by decide) rfl (fun ls hl => ?_)
  refine lv_iload_n hx hb dX6_canBeSet_7 rfl (lv_at hl 0 rfl) ?_
  refine lv_iconst (v := -1) hx hb dX6_canBeSet_8 (by decide) ?_
  refine lv_icmp_eq (tgt := 31) hx hb dX6_canBeSet_9 (by decide) (fun c4 => ?_) (fun c4 => ?_)
  · replace hf := (if_pos c4).symm.trans hf
    refine lv_iconst (v := 0) hx hb dX6_canBeSet_31 (by decide) ?_
    exact g_zret C w hr hq hf dX6_canBeSet_32
  · replace hf := (if_neg c4).symm.trans hf
    refine lv_aload_n hx hb dX6_canBeSet_12 rfl (lv_at hl 1 rfl) ?_
    refine gt_X6_11 C w dX6_canBeSet_13 ?_
    refine lv_iload_n hx hb dX6_canBeSet_16 rfl (lv_at hl 0 rfl) ?_
    obtain ⟨t5, e6, hf⟩ := bindS hf
    refine g_aald (t0 := 1) C w rf_T rfl e6 dX6_canBeSet_17 ?_
    refine gt_X6_95 ⟨t5, ixQ_lt e6, rfl⟩ C w dX6_canBeSet_18 ?_
    refine lv_iload_n hx hb dX6_canBeSet_21 rfl (lv_at hl 3 rfl) ?_
    obtain ⟨v7, e8, hf⟩ := bindS hf
    refine g_iald C w (xT_a7 ⟨t5, ixQ_lt e6, rfl⟩) e8 dX6_canBeSet_22 ?_
    refine lv_iconst (v := 2) hx hb dX6_canBeSet_23 (by decide) ?_
    refine lv_icmp_ne (tgt := 31) hx hb dX6_canBeSet_24 (by decide) (fun c9 => ?_) (fun c9 => ?_)
    · replace hf := (if_neg c9).symm.trans hf
      refine lv_iconst (v := 0) hx hb dX6_canBeSet_31 (by decide) ?_
      exact g_zret C w hr hq hf dX6_canBeSet_32
    · replace hf := (if_pos c9).symm.trans hf
      refine lv_iconst (v := 1) hx hb dX6_canBeSet_27 (by decide) ?_
      refine lv_goto (tgt := 32) hx hb dX6_canBeSet_28 (by decide) ?_
      exact g_zret C w hr hq hf dX6_canBeSet_32
abbrev f_X6_canBeSet (x1 : Int32) (x2 : Int32) (M : Mem) : Option (Int32 × Mem) := f_X6_canBeSet_0 x1 x2 M
theorem c_X6_canBeSet (hi : gInj 241 ad) {x1 : Int32} {x2 : Int32} {Rs : Int32 × Mem} (hf : f_X6_canBeSet x1 x2 M = some Rs) : gMet l yX6_canBeSet cX6_canBeSet 4 (some .boolean) 1 D (xty cI cT cS) 241 (xE cI cT cS) ad [.ref (ad 0), .int x1, .int x2] M (qI D 241 (xE cI cT cS) ad Rs) := gMet_of (by decide) hi (xE_loc cI cT cS) (Nat.le_of_ble_eq_true rfl) (fun p e s m args below meth c ls C hr hq w hl => w_X6_canBeSet_0 C hr hq  w hl hf)
def f_X6_countNotZero_48 (k13_ : (Int32 → Nat → Int32 → Int32 → Mem → Option (Int32 × Mem))) (x2 : Int32) (k3 : Nat) (x4 : Int32) (x5 : Int32) (M : Mem) : Option (Int32 × Mem) :=
  k13_ x2 k3 x4 (x5 + 1) M
def f_X6_countNotZero_13b (k13_ : (Int32 → Nat → Int32 → Int32 → Mem → Option (Int32 × Mem))) (x2 : Int32) (k3 : Nat) (x4 : Int32) (x5 : Int32) (M : Mem) : Option (Int32 × Mem) :=
  if (5 : Int32) ≤ x5 then (some (x4, M)) else ((ixQ 16 x2).bind fun t2 =>
  (ldI M ((33 + 13 * t2) + 7) 5 x5).bind fun v4 =>
  if v4 = (2 : Int32) then ((f_X1_numberOf k3 x2 x5 M).bind fun (v9, M7) =>
  if v9 = 0 then (f_X6_countNotZero_48 k13_ x2 k3 x4 x5 M7) else (f_X6_countNotZero_48 k13_ x2 k3 (x4 + 1) x5 M7)) else (f_X6_countNotZero_48 k13_ x2 k3 x4 x5 M))
def f_X6_countNotZero_13 : Nat → Int32 → Nat → Int32 → Int32 → Mem → Option (Int32 × Mem)
  | 0, _, _, _, _, _ => none
  | n + 1, x2, k3, x4, x5, M => f_X6_countNotZero_13b (f_X6_countNotZero_13  n) x2 k3 x4 x5 M
def f_X6_countNotZero_0 (x1 : Int32) (x2 : Int32) (M : Mem) : Option (Int32 × Mem) :=
  (f_X6_placeOf x1 x2 M).bind fun (k3, M1) =>
  (ckP (xPb k3)).bind fun u4 =>
  f_X6_countNotZero_13 FU x2 k3 (0 : Int32) (0 : Int32) M1
set_option maxRecDepth 100000 in
set_option maxHeartbeats 4000000 in
theorem w_X6_countNotZero_48 (C : gC p s m args c RX6 cX6_countNotZero 6 D (xty cI cT cS) 241 (xE cI cT cS) ad) (hr : meth.sig.returnType = (some .int)) (hq : meth.locks = false) {k13_ : (Int32 → Nat → Int32 → Int32 → Mem → Option (Int32 × Mem))} {Rs : Int32 × Mem} (hk13_ : ∀ {x2 : Int32} {k3 : Nat} {x4 : Int32} {x5 : Int32} {M : Mem} {H : Heap} {locs : List Loc} {ls : Array Slot} (h3 : xP k3), gWd D 241 (xE cI cT cS) ad M s H locs → lv_has ls 6 [(0, .ref (ad 0)), (2, .int x2), (3, .ref (ad k3)), (4, .int x4), (5, .int x5)] → k13_ x2 k3 x4 x5 M = some Rs → W p l e (rmH 1) s m args below meth c H locs 0 0 (MQ below (qI D 241 (xE cI cT cS) ad Rs) args s 0 0 (gA 241 ad)) (F0 m 13 ls [])) {x2 : Int32} {k3 : Nat} {x4 : Int32} {x5 : Int32} (h3 : xP k3) (w : gWd D 241 (xE cI cT cS) ad M s H locs) (hl : lv_has ls 6 [(0, .ref (ad 0)), (2, .int x2), (3, .ref (ad k3)), (4, .int x4), (5, .int x5)]) (hf : f_X6_countNotZero_48 k13_ x2 k3 x4 x5 M = some Rs) : W p l e (rmH 1) s m args below meth c H locs 0 0 (MQ below (qI D 241 (xE cI cT cS) ad Rs) args s 0 0 (gA 241 ad)) (F0 m 48 ls []) := by
  unfold f_X6_countNotZero_48 at hf
  have hx := C.1.1
  have hb := C.1.2.1
  have hi := C.2.2.2.1
  refine lv_iinc (v := (x5 + 1)) (lv' := [(5, .int (x5 + 1)), (0, .ref (ad 0)), (2, .int x2), (3, .ref (ad k3)), (4, .int x4)]) hx hb dX6_countNotZero_48 hl (k := 4) rfl rfl (by decide) rfl (fun ls hl => ?_)
  refine lv_goto (tgt := 13) hx hb dX6_countNotZero_51 (by decide) ?_
  exact hk13_ h3 w (lv_sub hl [1, 2, 3, 4, 0] rfl) hf
set_option maxRecDepth 100000 in
set_option maxHeartbeats 4000000 in
theorem w_X6_countNotZero_13b (C : gC p s m args c RX6 cX6_countNotZero 6 D (xty cI cT cS) 241 (xE cI cT cS) ad) (hr : meth.sig.returnType = (some .int)) (hq : meth.locks = false) {k13_ : (Int32 → Nat → Int32 → Int32 → Mem → Option (Int32 × Mem))} {Rs : Int32 × Mem} (hk13_ : ∀ {x2 : Int32} {k3 : Nat} {x4 : Int32} {x5 : Int32} {M : Mem} {H : Heap} {locs : List Loc} {ls : Array Slot} (h3 : xP k3), gWd D 241 (xE cI cT cS) ad M s H locs → lv_has ls 6 [(0, .ref (ad 0)), (2, .int x2), (3, .ref (ad k3)), (4, .int x4), (5, .int x5)] → k13_ x2 k3 x4 x5 M = some Rs → W p l e (rmH 1) s m args below meth c H locs 0 0 (MQ below (qI D 241 (xE cI cT cS) ad Rs) args s 0 0 (gA 241 ad)) (F0 m 13 ls [])) {x2 : Int32} {k3 : Nat} {x4 : Int32} {x5 : Int32} (h3 : xP k3) (w : gWd D 241 (xE cI cT cS) ad M s H locs) (hl : lv_has ls 6 [(0, .ref (ad 0)), (2, .int x2), (3, .ref (ad k3)), (4, .int x4), (5, .int x5)]) (hf : f_X6_countNotZero_13b k13_ x2 k3 x4 x5 M = some Rs) : W p l e (rmH 1) s m args below meth c H locs 0 0 (MQ below (qI D 241 (xE cI cT cS) ad Rs) args s 0 0 (gA 241 ad)) (F0 m 13 ls []) := by
  unfold f_X6_countNotZero_13b at hf
  have hx := C.1.1
  have hb := C.1.2.1
  have hi := C.2.2.2.1
  refine lv_iload hx hb dX6_countNotZero_13 (lv_at hl 4 rfl) ?_
  refine lv_iconst (v := 5) hx hb dX6_countNotZero_15 (by decide) ?_
  refine lv_icmp_ge (tgt := 54) hx hb dX6_countNotZero_16 (by decide) (fun c1 => ?_) (fun c1 => ?_)
  · replace hf := (if_pos c1).symm.trans hf
    refine lv_iload hx hb dX6_countNotZero_54 (lv_at hl 3 rfl) ?_
    exact g_iret C w hr hq hf dX6_countNotZero_56
  · replace hf := (if_neg c1).symm.trans hf
    refine lv_aload_n hx hb dX6_countNotZero_19 rfl (lv_at hl 0 rfl) ?_
    refine gt_X6_11 C w dX6_countNotZero_20 ?_
    refine lv_iload_n hx hb dX6_countNotZero_23 rfl (lv_at hl 1 rfl) ?_
    obtain ⟨t2, e3, hf⟩ := bindS hf
    refine g_aald (t0 := 1) C w rf_T rfl e3 dX6_countNotZero_24 ?_
    refine gt_X6_95 ⟨t2, ixQ_lt e3, rfl⟩ C w dX6_countNotZero_25 ?_
    refine lv_iload hx hb dX6_countNotZero_28 (lv_at hl 4 rfl) ?_
    obtain ⟨v4, e5, hf⟩ := bindS hf
    refine g_iald C w (xT_a7 ⟨t2, ixQ_lt e3, rfl⟩) e5 dX6_countNotZero_30 ?_
    refine lv_iconst (v := 2) hx hb dX6_countNotZero_31 (by decide) ?_
    refine lv_icmp_ne (tgt := 48) hx hb dX6_countNotZero_32 (by decide) (fun c6 => ?_) (fun c6 => ?_)
    · replace hf := (if_neg c6).symm.trans hf
      exact w_X6_countNotZero_48 C hr hq hk13_ h3 w (lv_sub hl [0, 1, 2, 3, 4] rfl) hf
    · replace hf := (if_pos c6).symm.trans hf
      refine lv_aload_n hx hb dX6_countNotZero_35 rfl (lv_at hl 2 rfl) ?_
      refine lv_iload_n hx hb dX6_countNotZero_36 rfl (lv_at hl 1 rfl) ?_
      refine lv_iload hx hb dX6_countNotZero_37 (lv_at hl 4 rfl) ?_
      obtain ⟨⟨v9, M7⟩, e8, hf⟩ := bindS hf
      refine g_backI w (g_runV (rest := []) C w (c_X1_numberOf hi h3 e8) (ob_X1 h3) rfl gv_X6_160 md_X1_numberOf rfl (by omega) (by decide) hl.1 rfl (Nat.le_of_ble_eq_true rfl) dX6_countNotZero_39) (fun H locs w => ?_)
      refine lv_if_eq (tgt := 48) hx hb dX6_countNotZero_42 (by decide) (fun c10 => ?_) (fun c10 => ?_)
      · replace hf := (if_pos c10).symm.trans hf
        exact w_X6_countNotZero_48 C hr hq hk13_ h3 w (lv_sub hl [0, 1, 2, 3, 4] rfl) hf
      · replace hf := (if_neg c10).symm.trans hf
        refine lv_iinc (v := (x4 + 1)) (lv' := [(4, .int (x4 + 1)), (0, .ref (ad 0)), (2, .int x2), (3, .ref (ad k3)), (5, .int x5)]) hx hb dX6_countNotZero_45 hl (k := 3) rfl rfl (by decide) rfl (fun ls hl => ?_)
        exact w_X6_countNotZero_48 C hr hq hk13_ h3 w (lv_sub hl [1, 2, 3, 0, 4] rfl) hf
theorem w_X6_countNotZero_13 (C : gC p s m args c RX6 cX6_countNotZero 6 D (xty cI cT cS) 241 (xE cI cT cS) ad) (hr : meth.sig.returnType = (some .int)) (hq : meth.locks = false) {Rs : Int32 × Mem} : ∀ (n : Nat) {x2 : Int32} {k3 : Nat} {x4 : Int32} {x5 : Int32} {M : Mem} {H : Heap} {locs : List Loc} {ls : Array Slot} (h3 : xP k3), gWd D 241 (xE cI cT cS) ad M s H locs → lv_has ls 6 [(0, .ref (ad 0)), (2, .int x2), (3, .ref (ad k3)), (4, .int x4), (5, .int x5)] → f_X6_countNotZero_13  n x2 k3 x4 x5 M = some Rs → W p l e (rmH 1) s m args below meth c H locs 0 0 (MQ below (qI D 241 (xE cI cT cS) ad Rs) args s 0 0 (gA 241 ad)) (F0 m 13 ls []) := by
  intro n
  induction n with
  | zero =>
    intro x2 k3 x4 x5 M H locs ls h3 w hl hf
    cases hf
  | succ n ih =>
    intro x2 k3 x4 x5 M H locs ls h3 w hl hf
    exact w_X6_countNotZero_13b C hr hq ih h3 w hl hf
set_option maxRecDepth 100000 in
set_option maxHeartbeats 4000000 in
theorem w_X6_countNotZero_0 (C : gC p s m args c RX6 cX6_countNotZero 6 D (xty cI cT cS) 241 (xE cI cT cS) ad) (hr : meth.sig.returnType = (some .int)) (hq : meth.locks = false) {Rs : Int32 × Mem} {x1 : Int32} {x2 : Int32} (w : gWd D 241 (xE cI cT cS) ad M s H locs) (hl : lv_has ls 6 [(0, .ref (ad 0)), (1, .int x1), (2, .int x2)]) (hf : f_X6_countNotZero_0  x1 x2 M = some Rs) : W p l e (rmH 1) s m args below meth c H locs 0 0 (MQ below (qI D 241 (xE cI cT cS) ad Rs) args s 0 0 (gA 241 ad)) (F0 m 0 ls []) := by
  unfold f_X6_countNotZero_0 at hf
  have hx := C.1.1
  have hb := C.1.2.1
  have hi := C.2.2.2.1
  refine lv_aload_n hx hb dX6_countNotZero_0 rfl (lv_at hl 0 rfl) ?_
  refine lv_iload_n hx hb dX6_countNotZero_1 rfl (lv_at hl 1 rfl) ?_
  refine lv_iload_n hx hb dX6_countNotZero_2 rfl (lv_at hl 2 rfl) ?_
  obtain ⟨⟨k3, M1⟩, e2, hf⟩ := bindS hf
  refine g_backR w (g_runV (rest := []) C w (c_X6_placeOf hi  e2) ob_X6 rfl gv_X6_146 md_X6_placeOf rfl (by omega) (by decide) hl.1 rfl (Nat.le_of_ble_eq_true rfl) dX6_countNotZero_3) (fun H locs w => ?_)
  obtain ⟨u4, e5, hf⟩ := bindS hf
  refine lv_astore_n (lv' := [(3, .ref (ad k3)), (0, .ref (ad 0)), (1, .int x1), (2, .int x2)]) hx hb dX6_countNotZero_6 rfl hl (by decide) rfl (fun ls hl => ?_)
  refine lv_iconst (v := 0) hx hb dX6_countNotZero_7 (by decide) ?_
  refine lv_istore (lv' := [(4, .int (0 : Int32)), (3, .ref (ad k3)), (0, .ref (ad 0)), (1, .int x1), (2, .int x2)]) hx hb dX6_countNotZero_8 hl (by decide) rfl (fun ls hl => ?_)
  refine lv_iconst (v := 0) hx hb dX6_countNotZero_10 (by decide) ?_
  refine lv_istore (lv' := [(5, .int (0 : Int32)), (4, .int (0 : Int32)), (3, .ref (ad k3)), (0, .ref (ad 0)), (1, .int x1), (2, .int x2)]) hx hb dX6_countNotZero_11 hl (by decide) rfl (fun ls hl => ?_)
  exact w_X6_countNotZero_13 C hr hq FU (xPb_ok e5) w (lv_sub hl [3, 5, 2, 1, 0] rfl) hf
abbrev f_X6_countNotZero (x1 : Int32) (x2 : Int32) (M : Mem) : Option (Int32 × Mem) := f_X6_countNotZero_0 x1 x2 M
theorem c_X6_countNotZero (hi : gInj 241 ad) {x1 : Int32} {x2 : Int32} {Rs : Int32 × Mem} (hf : f_X6_countNotZero x1 x2 M = some Rs) : gMet l yX6_countNotZero cX6_countNotZero 6 (some .int) 1 D (xty cI cT cS) 241 (xE cI cT cS) ad [.ref (ad 0), .int x1, .int x2] M (qI D 241 (xE cI cT cS) ad Rs) := gMet_of (by decide) hi (xE_loc cI cT cS) (Nat.le_of_ble_eq_true rfl) (fun p e s m args below meth c ls C hr hq w hl => w_X6_countNotZero_0 C hr hq  w hl hf)
def f_X6_arrange_110 (k31_ : (Nat → Int32 → Mem → Option (Int32 × Mem))) (k2 : Nat) (x3 : Int32) (M : Mem) : Option (Int32 × Mem) :=
  k31_ k2 (x3 + 1) M
def f_X6_arrange_31b (k31_ : (Nat → Int32 → Mem → Option (Int32 × Mem))) (k2 : Nat) (x3 : Int32) (M : Mem) : Option (Int32 × Mem) :=
  if (M (k2 + 1) 1) ≤ x3 then (if (M k2 1) = (-1 : Int32) then (some ((0 : Int32), M)) else ((ixQ 16 (M k2 1)).bind fun t3 =>
  (f_X2_addAllOnce (k2 + 3) ((33 + 13 * t3) + 3) M).bind fun (v7, M5) =>
  some ((0 : Int32), M5))) else ((ldI M ((k2 + 1) + 1) 16 x3).bind fun v8 =>
  (ixQ 16 v8).bind fun t10 =>
  (f_X2_addAllOnce (k2 + 3) ((33 + 13 * t10) + 3) M).bind fun (v14, M12) =>
  (ixQ 16 v8).bind fun t15 =>
  (f_X2_addAllOnce (k2 + 5) ((33 + 13 * t15) + 5) M12).bind fun (v19, M17) =>
  (ixQ 16 v8).bind fun t20 =>
  if (M17 (33 + 13 * t20) 0) = (2 : Int32) then ((f_X2_addOnce (k2 + 5) v8 M17).bind fun (v25, M23) =>
  f_X6_arrange_110 k31_ k2 x3 M23) else (f_X6_arrange_110 k31_ k2 x3 M17))
def f_X6_arrange_31 : Nat → Nat → Int32 → Mem → Option (Int32 × Mem)
  | 0, _, _, _ => none
  | n + 1, k2, x3, M => f_X6_arrange_31b (f_X6_arrange_31  n) k2 x3 M
def f_X6_arrange_0 (x1 : Int32) (M : Mem) : Option (Int32 × Mem) :=
  (ixQ 16 x1).bind fun t1 =>
  (f_X2_empty ((33 + 13 * t1) + 3) M).bind fun (v5, M3) =>
  (f_X2_empty ((33 + 13 * t1) + 5) M3).bind fun (v8, M6) =>
  (f_X2_addOnce ((33 + 13 * t1) + 3) x1 M6).bind fun (v11, M9) =>
  f_X6_arrange_31 FU (33 + 13 * t1) (0 : Int32) M9
set_option maxRecDepth 100000 in
set_option maxHeartbeats 4000000 in
theorem w_X6_arrange_110 (C : gC p s m args c RX6 cX6_arrange 5 D (xty cI cT cS) 241 (xE cI cT cS) ad) (hr : meth.sig.returnType = none) (hq : meth.locks = false) {k31_ : (Nat → Int32 → Mem → Option (Int32 × Mem))} {Rs : Int32 × Mem} (hk31_ : ∀ {k2 : Nat} {x3 : Int32} {M : Mem} {H : Heap} {locs : List Loc} {ls : Array Slot} (h2 : xT k2), gWd D 241 (xE cI cT cS) ad M s H locs → lv_has ls 5 [(0, .ref (ad 0)), (2, .ref (ad k2)), (3, .int x3)] → k31_ k2 x3 M = some Rs → W p l e (rmH 3) s m args below meth c H locs 0 0 (MQ below (qV D 241 (xE cI cT cS) ad Rs) args s 0 0 (gA 241 ad)) (F0 m 31 ls [])) {k2 : Nat} {x3 : Int32} (h2 : xT k2) (w : gWd D 241 (xE cI cT cS) ad M s H locs) (hl : lv_has ls 5 [(0, .ref (ad 0)), (2, .ref (ad k2)), (3, .int x3)]) (hf : f_X6_arrange_110 k31_ k2 x3 M = some Rs) : W p l e (rmH 3) s m args below meth c H locs 0 0 (MQ below (qV D 241 (xE cI cT cS) ad Rs) args s 0 0 (gA 241 ad)) (F0 m 110 ls []) := by
  unfold f_X6_arrange_110 at hf
  have hx := C.1.1
  have hb := C.1.2.1
  have hi := C.2.2.2.1
  refine lv_iinc (v := (x3 + 1)) (lv' := [(3, .int (x3 + 1)), (0, .ref (ad 0)), (2, .ref (ad k2))]) hx hb dX6_arrange_110 hl (k := 2) rfl rfl (by decide) rfl (fun ls hl => ?_)
  refine lv_goto (tgt := 31) hx hb dX6_arrange_113 (by decide) ?_
  exact hk31_ h2 w (lv_sub hl [1, 2, 0] rfl) hf
set_option maxRecDepth 100000 in
set_option maxHeartbeats 4000000 in
theorem w_X6_arrange_31b (C : gC p s m args c RX6 cX6_arrange 5 D (xty cI cT cS) 241 (xE cI cT cS) ad) (hr : meth.sig.returnType = none) (hq : meth.locks = false) {k31_ : (Nat → Int32 → Mem → Option (Int32 × Mem))} {Rs : Int32 × Mem} (hk31_ : ∀ {k2 : Nat} {x3 : Int32} {M : Mem} {H : Heap} {locs : List Loc} {ls : Array Slot} (h2 : xT k2), gWd D 241 (xE cI cT cS) ad M s H locs → lv_has ls 5 [(0, .ref (ad 0)), (2, .ref (ad k2)), (3, .int x3)] → k31_ k2 x3 M = some Rs → W p l e (rmH 3) s m args below meth c H locs 0 0 (MQ below (qV D 241 (xE cI cT cS) ad Rs) args s 0 0 (gA 241 ad)) (F0 m 31 ls [])) {k2 : Nat} {x3 : Int32} (h2 : xT k2) (w : gWd D 241 (xE cI cT cS) ad M s H locs) (hl : lv_has ls 5 [(0, .ref (ad 0)), (2, .ref (ad k2)), (3, .int x3)]) (hf : f_X6_arrange_31b k31_ k2 x3 M = some Rs) : W p l e (rmH 3) s m args below meth c H locs 0 0 (MQ below (qV D 241 (xE cI cT cS) ad Rs) args s 0 0 (gA 241 ad)) (F0 m 31 ls []) := by
  unfold f_X6_arrange_31b at hf
  have hx := C.1.1
  have hb := C.1.2.1
  have hi := C.2.2.2.1
  refine lv_iload_n hx hb dX6_arrange_31 rfl (lv_at hl 2 rfl) ?_
  refine lv_aload_n hx hb dX6_arrange_32 rfl (lv_at hl 1 rfl) ?_
  refine gt_X6_74 h2 C w dX6_arrange_33 ?_
  refine gt_X6_83 (xT_r1 h2) C w dX6_arrange_36 ?_
  refine lv_icmp_ge (tgt := 116) hx hb dX6_arrange_39 (by decide) (fun c1 => ?_) (fun c1 => ?_)
  · replace hf := (if_pos c1).symm.trans hf
    refine lv_aload_n hx hb dX6_arrange_116 rfl (lv_at hl 1 rfl) ?_
    refine gt_X6_232 h2 C w dX6_arrange_117 ?_
    refine lv_iconst (v := -1) hx hb dX6_arrange_120 (by decide) ?_
    refine lv_icmp_eq (tgt := 143) hx hb dX6_arrange_121 (by decide) (fun c2 => ?_) (fun c2 => ?_)
    · replace hf := (if_pos c2).symm.trans hf
      exact g_vret C w hr hq hf dX6_arrange_143
    · replace hf := (if_neg c2).symm.trans hf
      refine lv_aload_n hx hb dX6_arrange_124 rfl (lv_at hl 1 rfl) ?_
      refine gt_X6_216 h2 C w dX6_arrange_125 ?_
      refine lv_aload_n hx hb dX6_arrange_128 rfl (lv_at hl 0 rfl) ?_
      refine gt_X6_11 C w dX6_arrange_129 ?_
      refine lv_aload_n hx hb dX6_arrange_132 rfl (lv_at hl 1 rfl) ?_
      refine gt_X6_232 h2 C w dX6_arrange_133 ?_
      obtain ⟨t3, e4, hf⟩ := bindS hf
      refine g_aald (t0 := 1) C w rf_T rfl e4 dX6_arrange_136 ?_
      refine gt_X6_216 ⟨t3, ixQ_lt e4, rfl⟩ C w dX6_arrange_137 ?_
      obtain ⟨⟨v7, M5⟩, e6, hf⟩ := bindS hf
      refine g_backV w (g_runV (rest := []) C w (c_X2_addAllOnce hi (xT_r3 h2) (xT_r3 ⟨t3, ixQ_lt e4, rfl⟩) e6) (ob_X2 (xT_r3 h2)) rfl gv_X6_228 md_X2_addAllOnce rfl (by omega) (by decide) hl.1 rfl (Nat.le_of_ble_eq_true rfl) dX6_arrange_140) (fun H locs w => ?_)
      exact g_vret C w hr hq hf dX6_arrange_143
  · replace hf := (if_neg c1).symm.trans hf
    refine lv_aload_n hx hb dX6_arrange_42 rfl (lv_at hl 1 rfl) ?_
    refine gt_X6_74 h2 C w dX6_arrange_43 ?_
    refine gt_X6_225 (xT_r1 h2) C w dX6_arrange_46 ?_
    refine lv_iload_n hx hb dX6_arrange_49 rfl (lv_at hl 2 rfl) ?_
    obtain ⟨v8, e9, hf⟩ := bindS hf
    refine g_iald C w (xR_a (xT_r1 h2)) e9 dX6_arrange_50 ?_
    refine lv_istore (lv' := [(4, .int v8), (0, .ref (ad 0)), (2, .ref (ad k2)), (3, .int x3)]) hx hb dX6_arrange_51 hl (by decide) rfl (fun ls hl => ?_)
    refine lv_aload_n hx hb dX6_arrange_53 rfl (lv_at hl 2 rfl) ?_
    refine gt_X6_216 h2 C w dX6_arrange_54 ?_
    refine lv_aload_n hx hb dX6_arrange_57 rfl (lv_at hl 1 rfl) ?_
    refine gt_X6_11 C w dX6_arrange_58 ?_
    refine lv_iload hx hb dX6_arrange_61 (lv_at hl 0 rfl) ?_
    obtain ⟨t10, e11, hf⟩ := bindS hf
    refine g_aald (t0 := 1) C w rf_T rfl e11 dX6_arrange_63 ?_
    refine gt_X6_216 ⟨t10, ixQ_lt e11, rfl⟩ C w dX6_arrange_64 ?_
    obtain ⟨⟨v14, M12⟩, e13, hf⟩ := bindS hf
    refine g_backV w (g_runV (rest := []) C w (c_X2_addAllOnce hi (xT_r3 h2) (xT_r3 ⟨t10, ixQ_lt e11, rfl⟩) e13) (ob_X2 (xT_r3 h2)) rfl gv_X6_228 md_X2_addAllOnce rfl (by omega) (by decide) hl.1 rfl (Nat.le_of_ble_eq_true rfl) dX6_arrange_67) (fun H locs w => ?_)
    refine lv_aload_n hx hb dX6_arrange_70 rfl (lv_at hl 2 rfl) ?_
    refine gt_X6_222 h2 C w dX6_arrange_71 ?_
    refine lv_aload_n hx hb dX6_arrange_74 rfl (lv_at hl 1 rfl) ?_
    refine gt_X6_11 C w dX6_arrange_75 ?_
    refine lv_iload hx hb dX6_arrange_78 (lv_at hl 0 rfl) ?_
    obtain ⟨t15, e16, hf⟩ := bindS hf
    refine g_aald (t0 := 1) C w rf_T rfl e16 dX6_arrange_80 ?_
    refine gt_X6_222 ⟨t15, ixQ_lt e16, rfl⟩ C w dX6_arrange_81 ?_
    obtain ⟨⟨v19, M17⟩, e18, hf⟩ := bindS hf
    refine g_backV w (g_runV (rest := []) C w (c_X2_addAllOnce hi (xT_r5 h2) (xT_r5 ⟨t15, ixQ_lt e16, rfl⟩) e18) (ob_X2 (xT_r5 h2)) rfl gv_X6_228 md_X2_addAllOnce rfl (by omega) (by decide) hl.1 rfl (Nat.le_of_ble_eq_true rfl) dX6_arrange_84) (fun H locs w => ?_)
    refine lv_aload_n hx hb dX6_arrange_87 rfl (lv_at hl 1 rfl) ?_
    refine gt_X6_11 C w dX6_arrange_88 ?_
    refine lv_iload hx hb dX6_arrange_91 (lv_at hl 0 rfl) ?_
    obtain ⟨t20, e21, hf⟩ := bindS hf
    refine g_aald (t0 := 1) C w rf_T rfl e21 dX6_arrange_93 ?_
    refine gt_X6_71 ⟨t20, ixQ_lt e21, rfl⟩ C w dX6_arrange_94 ?_
    refine lv_iconst (v := 2) hx hb dX6_arrange_97 (by decide) ?_
    refine lv_icmp_ne (tgt := 110) hx hb dX6_arrange_98 (by decide) (fun c22 => ?_) (fun c22 => ?_)
    · replace hf := (if_neg c22).symm.trans hf
      exact w_X6_arrange_110 C hr hq hk31_ h2 w (lv_sub hl [1, 2, 3] rfl) hf
    · replace hf := (if_pos c22).symm.trans hf
      refine lv_aload_n hx hb dX6_arrange_101 rfl (lv_at hl 2 rfl) ?_
      refine gt_X6_222 h2 C w dX6_arrange_102 ?_
      refine lv_iload hx hb dX6_arrange_105 (lv_at hl 0 rfl) ?_
      obtain ⟨⟨v25, M23⟩, e24, hf⟩ := bindS hf
      refine g_backV w (g_runV (rest := []) C w (c_X2_addOnce hi (xT_r5 h2) e24) (ob_X2 (xT_r5 h2)) rfl gv_X6_86 md_X2_addOnce rfl (by omega) (by decide) hl.1 rfl (Nat.le_of_ble_eq_true rfl) dX6_arrange_107) (fun H locs w => ?_)
      exact w_X6_arrange_110 C hr hq hk31_ h2 w (lv_sub hl [1, 2, 3] rfl) hf
theorem w_X6_arrange_31 (C : gC p s m args c RX6 cX6_arrange 5 D (xty cI cT cS) 241 (xE cI cT cS) ad) (hr : meth.sig.returnType = none) (hq : meth.locks = false) {Rs : Int32 × Mem} : ∀ (n : Nat) {k2 : Nat} {x3 : Int32} {M : Mem} {H : Heap} {locs : List Loc} {ls : Array Slot} (h2 : xT k2), gWd D 241 (xE cI cT cS) ad M s H locs → lv_has ls 5 [(0, .ref (ad 0)), (2, .ref (ad k2)), (3, .int x3)] → f_X6_arrange_31  n k2 x3 M = some Rs → W p l e (rmH 3) s m args below meth c H locs 0 0 (MQ below (qV D 241 (xE cI cT cS) ad Rs) args s 0 0 (gA 241 ad)) (F0 m 31 ls []) := by
  intro n
  induction n with
  | zero =>
    intro k2 x3 M H locs ls h2 w hl hf
    cases hf
  | succ n ih =>
    intro k2 x3 M H locs ls h2 w hl hf
    exact w_X6_arrange_31b C hr hq ih h2 w hl hf
set_option maxRecDepth 100000 in
set_option maxHeartbeats 4000000 in
theorem w_X6_arrange_0 (C : gC p s m args c RX6 cX6_arrange 5 D (xty cI cT cS) 241 (xE cI cT cS) ad) (hr : meth.sig.returnType = none) (hq : meth.locks = false) {Rs : Int32 × Mem} {x1 : Int32} (w : gWd D 241 (xE cI cT cS) ad M s H locs) (hl : lv_has ls 5 [(0, .ref (ad 0)), (1, .int x1)]) (hf : f_X6_arrange_0  x1 M = some Rs) : W p l e (rmH 3) s m args below meth c H locs 0 0 (MQ below (qV D 241 (xE cI cT cS) ad Rs) args s 0 0 (gA 241 ad)) (F0 m 0 ls []) := by
  unfold f_X6_arrange_0 at hf
  have hx := C.1.1
  have hb := C.1.2.1
  have hi := C.2.2.2.1
  refine lv_aload_n hx hb dX6_arrange_0 rfl (lv_at hl 0 rfl) ?_
  refine gt_X6_11 C w dX6_arrange_1 ?_
  refine lv_iload_n hx hb dX6_arrange_4 rfl (lv_at hl 1 rfl) ?_
  obtain ⟨t1, e2, hf⟩ := bindS hf
  refine g_aald (t0 := 1) C w rf_T rfl e2 dX6_arrange_5 ?_
  refine lv_astore_n (lv' := [(2, .ref (ad (33 + 13 * t1))), (0, .ref (ad 0)), (1, .int x1)]) hx hb dX6_arrange_6 rfl hl (by decide) rfl (fun ls hl => ?_)
  refine lv_aload_n hx hb dX6_arrange_7 rfl (lv_at hl 0 rfl) ?_
  refine gt_X6_216 ⟨t1, ixQ_lt e2, rfl⟩ C w dX6_arrange_8 ?_
  obtain ⟨⟨v5, M3⟩, e4, hf⟩ := bindS hf
  refine g_backV w (g_runV (rest := []) C w (c_X2_empty hi (xT_r3 ⟨t1, ixQ_lt e2, rfl⟩) e4) (ob_X2 (xT_r3 ⟨t1, ixQ_lt e2, rfl⟩)) rfl gv_X6_219 md_X2_empty rfl (by omega) (by decide) hl.1 rfl (Nat.le_of_ble_eq_true rfl) dX6_arrange_11) (fun H locs w => ?_)
  refine lv_aload_n hx hb dX6_arrange_14 rfl (lv_at hl 0 rfl) ?_
  refine gt_X6_222 ⟨t1, ixQ_lt e2, rfl⟩ C w dX6_arrange_15 ?_
  obtain ⟨⟨v8, M6⟩, e7, hf⟩ := bindS hf
  refine g_backV w (g_runV (rest := []) C w (c_X2_empty hi (xT_r5 ⟨t1, ixQ_lt e2, rfl⟩) e7) (ob_X2 (xT_r5 ⟨t1, ixQ_lt e2, rfl⟩)) rfl gv_X6_219 md_X2_empty rfl (by omega) (by decide) hl.1 rfl (Nat.le_of_ble_eq_true rfl) dX6_arrange_18) (fun H locs w => ?_)
  refine lv_aload_n hx hb dX6_arrange_21 rfl (lv_at hl 0 rfl) ?_
  refine gt_X6_216 ⟨t1, ixQ_lt e2, rfl⟩ C w dX6_arrange_22 ?_
  refine lv_iload_n hx hb dX6_arrange_25 rfl (lv_at hl 2 rfl) ?_
  obtain ⟨⟨v11, M9⟩, e10, hf⟩ := bindS hf
  refine g_backV w (g_runV (rest := []) C w (c_X2_addOnce hi (xT_r3 ⟨t1, ixQ_lt e2, rfl⟩) e10) (ob_X2 (xT_r3 ⟨t1, ixQ_lt e2, rfl⟩)) rfl gv_X6_86 md_X2_addOnce rfl (by omega) (by decide) hl.1 rfl (Nat.le_of_ble_eq_true rfl) dX6_arrange_26) (fun H locs w => ?_)
  refine lv_iconst (v := 0) hx hb dX6_arrange_29 (by decide) ?_
  refine lv_istore_n (lv' := [(3, .int (0 : Int32)), (2, .ref (ad (33 + 13 * t1))), (0, .ref (ad 0)), (1, .int x1)]) hx hb dX6_arrange_30 rfl hl (by decide) rfl (fun ls hl => ?_)
  exact w_X6_arrange_31 C hr hq FU ⟨t1, ixQ_lt e2, rfl⟩ w (lv_sub hl [2, 1, 0] rfl) hf
abbrev f_X6_arrange (x1 : Int32) (M : Mem) : Option (Int32 × Mem) := f_X6_arrange_0 x1 M
theorem c_X6_arrange (hi : gInj 241 ad) {x1 : Int32} {Rs : Int32 × Mem} (hf : f_X6_arrange x1 M = some Rs) : gMet l yX6_arrange cX6_arrange 5 none 3 D (xty cI cT cS) 241 (xE cI cT cS) ad [.ref (ad 0), .int x1] M (qV D 241 (xE cI cT cS) ad Rs) := gMet_of (by decide) hi (xE_loc cI cT cS) (Nat.le_of_ble_eq_true rfl) (fun p e s m args below meth c ls C hr hq w hl => w_X6_arrange_0 C hr hq  w hl hf)
def f_X6_refusalOfUse_103 (M : Mem) : Option (Int32 × Mem) :=
  if (M 6 3) < (512 : Int32) then (some ((0 : Int32), M)) else (some ((-104 : Int32), M))
def f_X6_refusalOfUse_85 (x2 : Int32) (x3 : Int32) (x4 : Int32) (M : Mem) : Option (Int32 × Mem) :=
  if x3 = (2 : Int32) then ((f_X6_canBeSet x2 x4 M).bind fun (v4, M2) =>
  if v4 = 0 then (some ((-103 : Int32), M2)) else (f_X6_refusalOfUse_103 M2)) else (f_X6_refusalOfUse_103 M)
def f_X6_refusalOfUse_73 (x2 : Int32) (x3 : Int32) (x4 : Int32) (M : Mem) : Option (Int32 × Mem) :=
  if x3 = 0 then ((f_X6_isClass x2 M).bind fun (v4, M2) =>
  if v4 = 0 then (some ((-103 : Int32), M2)) else (f_X6_refusalOfUse_85 x2 x3 x4 M2)) else (f_X6_refusalOfUse_85 x2 x3 x4 M)
def f_X6_refusalOfUse_57 (x2 : Int32) (x3 : Int32) (x4 : Int32) (x5 : Int32) (M : Mem) : Option (Int32 × Mem) :=
  if x3 = (2 : Int32) then ((f_X6_isNumber x5 M).bind fun (v4, M2) =>
  if v4 = 0 then (some ((-102 : Int32), M2)) else (f_X6_refusalOfUse_73 x2 x3 x4 M2)) else (f_X6_refusalOfUse_73 x2 x3 x4 M)
def f_X6_refusalOfUse_33 (x2 : Int32) (x3 : Int32) (x4 : Int32) (x5 : Int32) (s0 : Int32) (M : Mem) : Option (Int32 × Mem) :=
  (f_X6_within x3 (0 : Int32) (3 : Int32) M).bind fun (v3, M1) =>
  if v3 = 0 then (some ((-102 : Int32), M1)) else (if s0 = 0 then (f_X6_refusalOfUse_57 x2 x3 x4 x5 M1) else ((f_X6_isField x4 M1).bind fun (v8, M6) =>
  if v8 = 0 then (some ((-102 : Int32), M6)) else (f_X6_refusalOfUse_57 x2 x3 x4 x5 M6)))
def f_X6_refusalOfUse_28 (x2 : Int32) (x3 : Int32) (x4 : Int32) (x5 : Int32) (M : Mem) : Option (Int32 × Mem) :=
  f_X6_refusalOfUse_33 x2 x3 x4 x5 (1 : Int32) M
def f_X6_refusalOfUse_0 (x1 : Int32) (x2 : Int32) (x3 : Int32) (x4 : Int32) (x5 : Int32) (M : Mem) : Option (Int32 × Mem) :=
  (f_X6_isSession x1 M).bind fun (v3, M1) =>
  if v3 = 0 then (some ((-101 : Int32), M1)) else ((f_X6_isType x2 M1).bind fun (v7, M5) =>
  if v7 = 0 then (some ((-101 : Int32), M5)) else (if x3 = (1 : Int32) then (f_X6_refusalOfUse_28 x2 x3 x4 x5 M5) else (if x3 = (2 : Int32) then (f_X6_refusalOfUse_28 x2 x3 x4 x5 M5) else (f_X6_refusalOfUse_33 x2 x3 x4 x5 (0 : Int32) M5))))
set_option maxRecDepth 100000 in
set_option maxHeartbeats 4000000 in
theorem w_X6_refusalOfUse_103 (C : gC p s m args c RX6 cX6_refusalOfUse 7 D (xty cI cT cS) 241 (xE cI cT cS) ad) (hr : meth.sig.returnType = (some .int)) (hq : meth.locks = false) {Rs : Int32 × Mem}  (w : gWd D 241 (xE cI cT cS) ad M s H locs) (hl : lv_has ls 7 [(0, .ref (ad 0))]) (hf : f_X6_refusalOfUse_103  M = some Rs) : W p l e (rmH 3) s m args below meth c H locs 0 0 (MQ below (qI D 241 (xE cI cT cS) ad Rs) args s 0 0 (gA 241 ad)) (F0 m 103 ls []) := by
  unfold f_X6_refusalOfUse_103 at hf
  have hx := C.1.1
  have hb := C.1.2.1
  have hi := C.2.2.2.1
  refine lv_aload_n hx hb dX6_refusalOfUse_103 rfl (lv_at hl 0 rfl) ?_
  refine gt_X6_31 C w dX6_refusalOfUse_104 ?_
  refine gt_X6_198 C w dX6_refusalOfUse_107 ?_
  refine lv_sipush (v := 512) hx hb dX6_refusalOfUse_110 (by decide) ?_
  refine lv_icmp_lt (tgt := 121) hx hb dX6_refusalOfUse_113 (by decide) (fun c1 => ?_) (fun c1 => ?_)
  · replace hf := (if_pos c1).symm.trans hf
    refine lv_iconst (v := 0) hx hb dX6_refusalOfUse_121 (by decide) ?_
    exact g_iret C w hr hq hf dX6_refusalOfUse_122
  · replace hf := (if_neg c1).symm.trans hf
    refine lv_bipush (v := -104) hx hb dX6_refusalOfUse_116 (by decide) ?_
    refine lv_goto (tgt := 122) hx hb dX6_refusalOfUse_118 (by decide) ?_
    exact g_iret C w hr hq hf dX6_refusalOfUse_122
set_option maxRecDepth 100000 in
set_option maxHeartbeats 4000000 in
theorem w_X6_refusalOfUse_85 (C : gC p s m args c RX6 cX6_refusalOfUse 7 D (xty cI cT cS) 241 (xE cI cT cS) ad) (hr : meth.sig.returnType = (some .int)) (hq : meth.locks = false) {Rs : Int32 × Mem} {x2 : Int32} {x3 : Int32} {x4 : Int32} (w : gWd D 241 (xE cI cT cS) ad M s H locs) (hl : lv_has ls 7 [(0, .ref (ad 0)), (2, .int x2), (3, .int x3), (4, .int x4)]) (hf : f_X6_refusalOfUse_85  x2 x3 x4 M = some Rs) : W p l e (rmH 3) s m args below meth c H locs 0 0 (MQ below (qI D 241 (xE cI cT cS) ad Rs) args s 0 0 (gA 241 ad)) (F0 m 85 ls []) := by
  unfold f_X6_refusalOfUse_85 at hf
  have hx := C.1.1
  have hb := C.1.2.1
  have hi := C.2.2.2.1
  refine lv_iload_n hx hb dX6_refusalOfUse_85 rfl (lv_at hl 2 rfl) ?_
  refine lv_iconst (v := 2) hx hb dX6_refusalOfUse_86 (by decide) ?_
  refine lv_icmp_ne (tgt := 103) hx hb dX6_refusalOfUse_87 (by decide) (fun c1 => ?_) (fun c1 => ?_)
  · replace hf := (if_neg c1).symm.trans hf
    exact w_X6_refusalOfUse_103 C hr hq w (lv_sub hl [0] rfl) hf
  · replace hf := (if_pos c1).symm.trans hf
    refine lv_aload_n hx hb dX6_refusalOfUse_90 rfl (lv_at hl 0 rfl) ?_
    refine lv_iload_n hx hb dX6_refusalOfUse_91 rfl (lv_at hl 1 rfl) ?_
    refine lv_iload hx hb dX6_refusalOfUse_92 (lv_at hl 3 rfl) ?_
    obtain ⟨⟨v4, M2⟩, e3, hf⟩ := bindS hf
    refine g_backI w (g_runV (rest := []) C w (c_X6_canBeSet hi  e3) ob_X6 rfl gv_X6_206 md_X6_canBeSet rfl (by omega) (by decide) hl.1 rfl (Nat.le_of_ble_eq_true rfl) dX6_refusalOfUse_94) (fun H locs w => ?_)
    refine lv_if_ne (tgt := 103) hx hb dX6_refusalOfUse_97 (by decide) (fun c5 => ?_) (fun c5 => ?_)
    · replace hf := (if_neg c5).symm.trans hf
      exact w_X6_refusalOfUse_103 C hr hq w (lv_sub hl [0] rfl) hf
    · replace hf := (if_pos c5).symm.trans hf
      refine lv_bipush (v := -103) hx hb dX6_refusalOfUse_100 (by decide) ?_
      exact g_iret C w hr hq hf dX6_refusalOfUse_102
set_option maxRecDepth 100000 in
set_option maxHeartbeats 4000000 in
theorem w_X6_refusalOfUse_73 (C : gC p s m args c RX6 cX6_refusalOfUse 7 D (xty cI cT cS) 241 (xE cI cT cS) ad) (hr : meth.sig.returnType = (some .int)) (hq : meth.locks = false) {Rs : Int32 × Mem} {x2 : Int32} {x3 : Int32} {x4 : Int32} (w : gWd D 241 (xE cI cT cS) ad M s H locs) (hl : lv_has ls 7 [(0, .ref (ad 0)), (2, .int x2), (3, .int x3), (4, .int x4)]) (hf : f_X6_refusalOfUse_73  x2 x3 x4 M = some Rs) : W p l e (rmH 3) s m args below meth c H locs 0 0 (MQ below (qI D 241 (xE cI cT cS) ad Rs) args s 0 0 (gA 241 ad)) (F0 m 73 ls []) := by
  unfold f_X6_refusalOfUse_73 at hf
  have hx := C.1.1
  have hb := C.1.2.1
  have hi := C.2.2.2.1
  refine lv_iload_n hx hb dX6_refusalOfUse_73 rfl (lv_at hl 2 rfl) ?_
  refine lv_if_ne (tgt := 85) hx hb dX6_refusalOfUse_74 (by decide) (fun c1 => ?_) (fun c1 => ?_)
  · replace hf := (if_neg c1).symm.trans hf
    exact w_X6_refusalOfUse_85 C hr hq w (lv_sub hl [0, 1, 2, 3] rfl) hf
  · replace hf := (if_pos c1).symm.trans hf
    refine lv_aload_n hx hb dX6_refusalOfUse_77 rfl (lv_at hl 0 rfl) ?_
    refine lv_iload_n hx hb dX6_refusalOfUse_78 rfl (lv_at hl 1 rfl) ?_
    obtain ⟨⟨v4, M2⟩, e3, hf⟩ := bindS hf
    refine g_backI w (g_runV (rest := []) C w (c_X6_isClass hi  e3) ob_X6 rfl gv_X6_48 md_X6_isClass rfl (by omega) (by decide) hl.1 rfl (Nat.le_of_ble_eq_true rfl) dX6_refusalOfUse_79) (fun H locs w => ?_)
    refine lv_if_eq (tgt := 100) hx hb dX6_refusalOfUse_82 (by decide) (fun c5 => ?_) (fun c5 => ?_)
    · replace hf := (if_pos c5).symm.trans hf
      refine lv_bipush (v := -103) hx hb dX6_refusalOfUse_100 (by decide) ?_
      exact g_iret C w hr hq hf dX6_refusalOfUse_102
    · replace hf := (if_neg c5).symm.trans hf
      exact w_X6_refusalOfUse_85 C hr hq w (lv_sub hl [0, 1, 2, 3] rfl) hf
set_option maxRecDepth 100000 in
set_option maxHeartbeats 4000000 in
theorem w_X6_refusalOfUse_57 (C : gC p s m args c RX6 cX6_refusalOfUse 7 D (xty cI cT cS) 241 (xE cI cT cS) ad) (hr : meth.sig.returnType = (some .int)) (hq : meth.locks = false) {Rs : Int32 × Mem} {x2 : Int32} {x3 : Int32} {x4 : Int32} {x5 : Int32} (w : gWd D 241 (xE cI cT cS) ad M s H locs) (hl : lv_has ls 7 [(0, .ref (ad 0)), (2, .int x2), (3, .int x3), (4, .int x4), (5, .int x5)]) (hf : f_X6_refusalOfUse_57  x2 x3 x4 x5 M = some Rs) : W p l e (rmH 3) s m args below meth c H locs 0 0 (MQ below (qI D 241 (xE cI cT cS) ad Rs) args s 0 0 (gA 241 ad)) (F0 m 57 ls []) := by
  unfold f_X6_refusalOfUse_57 at hf
  have hx := C.1.1
  have hb := C.1.2.1
  have hi := C.2.2.2.1
  refine lv_iload_n hx hb dX6_refusalOfUse_57 rfl (lv_at hl 2 rfl) ?_
  refine lv_iconst (v := 2) hx hb dX6_refusalOfUse_58 (by decide) ?_
  refine lv_icmp_ne (tgt := 73) hx hb dX6_refusalOfUse_59 (by decide) (fun c1 => ?_) (fun c1 => ?_)
  · replace hf := (if_neg c1).symm.trans hf
    exact w_X6_refusalOfUse_73 C hr hq w (lv_sub hl [0, 1, 2, 3] rfl) hf
  · replace hf := (if_pos c1).symm.trans hf
    refine lv_iload hx hb dX6_refusalOfUse_62 (lv_at hl 4 rfl) ?_
    obtain ⟨⟨v4, M2⟩, e3, hf⟩ := bindS hf
    refine g_backI w (g_runS (rest := []) C w (c_X6_isNumber hi  e3) gs_X6_92 md_X6_isNumber rfl (by omega) (by decide) hl.1 rfl (Nat.le_of_ble_eq_true rfl) dX6_refusalOfUse_64) (fun H locs w => ?_)
    refine lv_if_ne (tgt := 73) hx hb dX6_refusalOfUse_67 (by decide) (fun c5 => ?_) (fun c5 => ?_)
    · replace hf := (if_neg c5).symm.trans hf
      exact w_X6_refusalOfUse_73 C hr hq w (lv_sub hl [0, 1, 2, 3] rfl) hf
    · replace hf := (if_pos c5).symm.trans hf
      refine lv_bipush (v := -102) hx hb dX6_refusalOfUse_70 (by decide) ?_
      exact g_iret C w hr hq hf dX6_refusalOfUse_72
set_option maxRecDepth 100000 in
set_option maxHeartbeats 4000000 in
theorem w_X6_refusalOfUse_33 (C : gC p s m args c RX6 cX6_refusalOfUse 7 D (xty cI cT cS) 241 (xE cI cT cS) ad) (hr : meth.sig.returnType = (some .int)) (hq : meth.locks = false) {Rs : Int32 × Mem} {x2 : Int32} {x3 : Int32} {x4 : Int32} {x5 : Int32} {s0 : Int32} (w : gWd D 241 (xE cI cT cS) ad M s H locs) (hl : lv_has ls 7 [(0, .ref (ad 0)), (2, .int x2), (3, .int x3), (4, .int x4), (5, .int x5)]) (hf : f_X6_refusalOfUse_33  x2 x3 x4 x5 s0 M = some Rs) : W p l e (rmH 3) s m args below meth c H locs 0 0 (MQ below (qI D 241 (xE cI cT cS) ad Rs) args s 0 0 (gA 241 ad)) (F0 m 33 ls [.int s0]) := by
  unfold f_X6_refusalOfUse_33 at hf
  have hx := C.1.1
  have hb := C.1.2.1
  have hi := C.2.2.2.1
  refine lv_istore (lv' := [(6, .int s0), (0, .ref (ad 0)), (2, .int x2), (3, .int x3), (4, .int x4), (5, .int x5)]) hx hb dX6_refusalOfUse_33 hl (by decide) rfl (fun ls hl => ?_)
  refine lv_iload_n hx hb dX6_refusalOfUse_35 rfl (lv_at hl 3 rfl) ?_
  refine lv_iconst (v := 0) hx hb dX6_refusalOfUse_36 (by decide) ?_
  refine lv_iconst (v := 3) hx hb dX6_refusalOfUse_37 (by decide) ?_
  obtain ⟨⟨v3, M1⟩, e2, hf⟩ := bindS hf
  refine g_backI w (g_runS (rest := []) C w (c_X6_within hi  e2) gs_X6_44 md_X6_within rfl (by omega) (by decide) hl.1 rfl (Nat.le_of_ble_eq_true rfl) dX6_refusalOfUse_38) (fun H locs w => ?_)
  refine lv_if_eq (tgt := 70) hx hb dX6_refusalOfUse_41 (by decide) (fun c4 => ?_) (fun c4 => ?_)
  · replace hf := (if_pos c4).symm.trans hf
    refine lv_bipush (v := -102) hx hb dX6_refusalOfUse_70 (by decide) ?_
    exact g_iret C w hr hq hf dX6_refusalOfUse_72
  · replace hf := (if_neg c4).symm.trans hf
    refine lv_iload hx hb dX6_refusalOfUse_44 (lv_at hl 0 rfl) ?_
    refine lv_if_eq (tgt := 57) hx hb dX6_refusalOfUse_46 (by decide) (fun c5 => ?_) (fun c5 => ?_)
    · replace hf := (if_pos c5).symm.trans hf
      exact w_X6_refusalOfUse_57 C hr hq w (lv_sub hl [1, 2, 3, 4, 5] rfl) hf
    · replace hf := (if_neg c5).symm.trans hf
      refine lv_iload hx hb dX6_refusalOfUse_49 (lv_at hl 4 rfl) ?_
      obtain ⟨⟨v8, M6⟩, e7, hf⟩ := bindS hf
      refine g_backI w (g_runS (rest := []) C w (c_X6_isField hi  e7) gs_X6_89 md_X6_isField rfl (by omega) (by decide) hl.1 rfl (Nat.le_of_ble_eq_true rfl) dX6_refusalOfUse_51) (fun H locs w => ?_)
      refine lv_if_eq (tgt := 70) hx hb dX6_refusalOfUse_54 (by decide) (fun c9 => ?_) (fun c9 => ?_)
      · replace hf := (if_pos c9).symm.trans hf
        refine lv_bipush (v := -102) hx hb dX6_refusalOfUse_70 (by decide) ?_
        exact g_iret C w hr hq hf dX6_refusalOfUse_72
      · replace hf := (if_neg c9).symm.trans hf
        exact w_X6_refusalOfUse_57 C hr hq w (lv_sub hl [1, 2, 3, 4, 5] rfl) hf
set_option maxRecDepth 100000 in
set_option maxHeartbeats 4000000 in
theorem w_X6_refusalOfUse_28 (C : gC p s m args c RX6 cX6_refusalOfUse 7 D (xty cI cT cS) 241 (xE cI cT cS) ad) (hr : meth.sig.returnType = (some .int)) (hq : meth.locks = false) {Rs : Int32 × Mem} {x2 : Int32} {x3 : Int32} {x4 : Int32} {x5 : Int32} (w : gWd D 241 (xE cI cT cS) ad M s H locs) (hl : lv_has ls 7 [(0, .ref (ad 0)), (2, .int x2), (3, .int x3), (4, .int x4), (5, .int x5)]) (hf : f_X6_refusalOfUse_28  x2 x3 x4 x5 M = some Rs) : W p l e (rmH 3) s m args below meth c H locs 0 0 (MQ below (qI D 241 (xE cI cT cS) ad Rs) args s 0 0 (gA 241 ad)) (F0 m 28 ls []) := by
  unfold f_X6_refusalOfUse_28 at hf
  have hx := C.1.1
  have hb := C.1.2.1
  have hi := C.2.2.2.1
  refine lv_iconst (v := 1) hx hb dX6_refusalOfUse_28 (by decide) ?_
  refine lv_goto (tgt := 33) hx hb dX6_refusalOfUse_29 (by decide) ?_
  exact w_X6_refusalOfUse_33 C hr hq w (lv_sub hl [0, 1, 2, 3, 4] rfl) hf
set_option maxRecDepth 100000 in
set_option maxHeartbeats 4000000 in
theorem w_X6_refusalOfUse_0 (C : gC p s m args c RX6 cX6_refusalOfUse 7 D (xty cI cT cS) 241 (xE cI cT cS) ad) (hr : meth.sig.returnType = (some .int)) (hq : meth.locks = false) {Rs : Int32 × Mem} {x1 : Int32} {x2 : Int32} {x3 : Int32} {x4 : Int32} {x5 : Int32} (w : gWd D 241 (xE cI cT cS) ad M s H locs) (hl : lv_has ls 7 [(0, .ref (ad 0)), (1, .int x1), (2, .int x2), (3, .int x3), (4, .int x4), (5, .int x5)]) (hf : f_X6_refusalOfUse_0  x1 x2 x3 x4 x5 M = some Rs) : W p l e (rmH 3) s m args below meth c H locs 0 0 (MQ below (qI D 241 (xE cI cT cS) ad Rs) args s 0 0 (gA 241 ad)) (F0 m 0 ls []) := by
  unfold f_X6_refusalOfUse_0 at hf
  have hx := C.1.1
  have hb := C.1.2.1
  have hi := C.2.2.2.1
  refine lv_iload_n hx hb dX6_refusalOfUse_0 rfl (lv_at hl 1 rfl) ?_
  obtain ⟨⟨v3, M1⟩, e2, hf⟩ := bindS hf
  refine g_backI w (g_runS (rest := []) C w (c_X6_isSession hi  e2) gs_X6_143 md_X6_isSession rfl (by omega) (by decide) hl.1 rfl (Nat.le_of_ble_eq_true rfl) dX6_refusalOfUse_1) (fun H locs w => ?_)
  refine lv_if_eq (tgt := 15) hx hb dX6_refusalOfUse_4 (by decide) (fun c4 => ?_) (fun c4 => ?_)
  · replace hf := (if_pos c4).symm.trans hf
    refine lv_bipush (v := -101) hx hb dX6_refusalOfUse_15 (by decide) ?_
    exact g_iret C w hr hq hf dX6_refusalOfUse_17
  · replace hf := (if_neg c4).symm.trans hf
    refine lv_aload_n hx hb dX6_refusalOfUse_7 rfl (lv_at hl 0 rfl) ?_
    refine lv_iload_n hx hb dX6_refusalOfUse_8 rfl (lv_at hl 2 rfl) ?_
    obtain ⟨⟨v7, M5⟩, e6, hf⟩ := bindS hf
    refine g_backI w (g_runV (rest := []) C w (c_X6_isType hi  e6) ob_X6 rfl gv_X6_68 md_X6_isType rfl (by omega) (by decide) hl.1 rfl (Nat.le_of_ble_eq_true rfl) dX6_refusalOfUse_9) (fun H locs w => ?_)
    refine lv_if_ne (tgt := 18) hx hb dX6_refusalOfUse_12 (by decide) (fun c8 => ?_) (fun c8 => ?_)
    · replace hf := (if_neg c8).symm.trans hf
      refine lv_iload_n hx hb dX6_refusalOfUse_18 rfl (lv_at hl 3 rfl) ?_
      refine lv_iconst (v := 1) hx hb dX6_refusalOfUse_19 (by decide) ?_
      refine lv_icmp_eq (tgt := 28) hx hb dX6_refusalOfUse_20 (by decide) (fun c9 => ?_) (fun c9 => ?_)
      · replace hf := (if_pos c9).symm.trans hf
        exact w_X6_refusalOfUse_28 C hr hq w (lv_sub hl [0, 2, 3, 4, 5] rfl) hf
      · replace hf := (if_neg c9).symm.trans hf
        refine lv_iload_n hx hb dX6_refusalOfUse_23 rfl (lv_at hl 3 rfl) ?_
        refine lv_iconst (v := 2) hx hb dX6_refusalOfUse_24 (by decide) ?_
        refine lv_icmp_ne (tgt := 32) hx hb dX6_refusalOfUse_25 (by decide) (fun c10 => ?_) (fun c10 => ?_)
        · replace hf := (if_neg c10).symm.trans hf
          refine lv_iconst (v := 0) hx hb dX6_refusalOfUse_32 (by decide) ?_
          exact w_X6_refusalOfUse_33 C hr hq w (lv_sub hl [0, 2, 3, 4, 5] rfl) hf
        · replace hf := (if_pos c10).symm.trans hf
          exact w_X6_refusalOfUse_28 C hr hq w (lv_sub hl [0, 2, 3, 4, 5] rfl) hf
    · replace hf := (if_pos c8).symm.trans hf
      refine lv_bipush (v := -101) hx hb dX6_refusalOfUse_15 (by decide) ?_
      exact g_iret C w hr hq hf dX6_refusalOfUse_17
abbrev f_X6_refusalOfUse (x1 : Int32) (x2 : Int32) (x3 : Int32) (x4 : Int32) (x5 : Int32) (M : Mem) : Option (Int32 × Mem) := f_X6_refusalOfUse_0 x1 x2 x3 x4 x5 M
theorem c_X6_refusalOfUse (hi : gInj 241 ad) {x1 : Int32} {x2 : Int32} {x3 : Int32} {x4 : Int32} {x5 : Int32} {Rs : Int32 × Mem} (hf : f_X6_refusalOfUse x1 x2 x3 x4 x5 M = some Rs) : gMet l yX6_refusalOfUse cX6_refusalOfUse 7 (some .int) 3 D (xty cI cT cS) 241 (xE cI cT cS) ad [.ref (ad 0), .int x1, .int x2, .int x3, .int x4, .int x5] M (qI D 241 (xE cI cT cS) ad Rs) := gMet_of (by decide) hi (xE_loc cI cT cS) (Nat.le_of_ble_eq_true rfl) (fun p e s m args below meth c ls C hr hq w hl => w_X6_refusalOfUse_0 C hr hq  w hl hf)
def f_X6_takeSteps_0 (x1 : Int32) (M : Mem) : Option (Int32 × Mem) :=
  (ixQ 4 (M 0 8)).bind fun t1 =>
  if x1 ≤ (M (13 + 5 * t1) 2) then ((ixQ 4 (M 0 8)).bind fun t4 =>
  (stF M (13 + 5 * t4) 2 ((M (13 + 5 * t4) 2) - x1)).bind fun M6 =>
  (stF M6 0 6 ((M6 0 6) + x1)).bind fun M8 =>
  rtZ (1 : Int32) M8) else (rtZ (0 : Int32) M)
set_option maxRecDepth 100000 in
set_option maxHeartbeats 4000000 in
theorem w_X6_takeSteps_0 (C : gC p s m args c RX6 cX6_takeSteps 2 D (xty cI cT cS) 241 (xE cI cT cS) ad) (hr : meth.sig.returnType = (some .boolean)) (hq : meth.locks = false) {Rs : Int32 × Mem} {x1 : Int32} (w : gWd D 241 (xE cI cT cS) ad M s H locs) (hl : lv_has ls 2 [(0, .ref (ad 0)), (1, .int x1)]) (hf : f_X6_takeSteps_0  x1 M = some Rs) : W p l e (rmH 0) s m args below meth c H locs 0 0 (MQ below (qI D 241 (xE cI cT cS) ad Rs) args s 0 0 (gA 241 ad)) (F0 m 0 ls []) := by
  unfold f_X6_takeSteps_0 at hf
  have hx := C.1.1
  have hb := C.1.2.1
  have hi := C.2.2.2.1
  refine lv_aload_n hx hb dX6_takeSteps_0 rfl (lv_at hl 0 rfl) ?_
  refine gt_X6_17 C w dX6_takeSteps_1 ?_
  refine lv_aload_n hx hb dX6_takeSteps_4 rfl (lv_at hl 0 rfl) ?_
  refine gt_X6_117 C w dX6_takeSteps_5 ?_
  obtain ⟨t1, e2, hf⟩ := bindS hf
  refine g_aald (t0 := 2) C w rf_S rfl e2 dX6_takeSteps_8 ?_
  refine gt_X6_183 ⟨t1, ixQ_lt e2, rfl⟩ C w dX6_takeSteps_9 ?_
  refine lv_iload_n hx hb dX6_takeSteps_12 rfl (lv_at hl 1 rfl) ?_
  refine lv_icmp_ge (tgt := 18) hx hb dX6_takeSteps_13 (by decide) (fun c3 => ?_) (fun c3 => ?_)
  · replace hf := (if_pos c3).symm.trans hf
    refine lv_aload_n hx hb dX6_takeSteps_18 rfl (lv_at hl 0 rfl) ?_
    refine gt_X6_17 C w dX6_takeSteps_19 ?_
    refine lv_aload_n hx hb dX6_takeSteps_22 rfl (lv_at hl 0 rfl) ?_
    refine gt_X6_117 C w dX6_takeSteps_23 ?_
    obtain ⟨t4, e5, hf⟩ := bindS hf
    refine g_aald (t0 := 2) C w rf_S rfl e5 dX6_takeSteps_26 ?_
    refine lv_dup hx hb dX6_takeSteps_27 rfl ?_
    refine gt_X6_183 ⟨t4, ixQ_lt e5, rfl⟩ C w dX6_takeSteps_28 ?_
    refine lv_iload_n hx hb dX6_takeSteps_31 rfl (lv_at hl 1 rfl) ?_
    refine lv_isub hx hb dX6_takeSteps_32 ?_
    obtain ⟨M6, e7, hf⟩ := bindS hf
    refine pt_X6_183 ⟨t4, ixQ_lt e5, rfl⟩ C w e7 dX6_takeSteps_33 (fun H locs w => ?_)
    refine lv_aload_n hx hb dX6_takeSteps_36 rfl (lv_at hl 0 rfl) ?_
    refine lv_dup hx hb dX6_takeSteps_37 rfl ?_
    refine gt_X6_199 C w dX6_takeSteps_38 ?_
    refine lv_iload_n hx hb dX6_takeSteps_41 rfl (lv_at hl 1 rfl) ?_
    refine lv_iadd hx hb dX6_takeSteps_42 ?_
    obtain ⟨M8, e9, hf⟩ := bindS hf
    refine pt_X6_199 C w e9 dX6_takeSteps_43 (fun H locs w => ?_)
    refine lv_iconst (v := 1) hx hb dX6_takeSteps_46 (by decide) ?_
    exact g_zret C w hr hq hf dX6_takeSteps_47
  · replace hf := (if_neg c3).symm.trans hf
    refine lv_iconst (v := 0) hx hb dX6_takeSteps_16 (by decide) ?_
    exact g_zret C w hr hq hf dX6_takeSteps_17
abbrev f_X6_takeSteps (x1 : Int32) (M : Mem) : Option (Int32 × Mem) := f_X6_takeSteps_0 x1 M
theorem c_X6_takeSteps (hi : gInj 241 ad) {x1 : Int32} {Rs : Int32 × Mem} (hf : f_X6_takeSteps x1 M = some Rs) : gMet l yX6_takeSteps cX6_takeSteps 2 (some .boolean) 0 D (xty cI cT cS) 241 (xE cI cT cS) ad [.ref (ad 0), .int x1] M (qI D 241 (xE cI cT cS) ad Rs) := gMet_of (by decide) hi (xE_loc cI cT cS) (Nat.le_of_ble_eq_true rfl) (fun p e s m args below meth c ls C hr hq w hl => w_X6_takeSteps_0 C hr hq  w hl hf)
def f_X6_write_0 (x1 : Int32) (x2 : Int32) (x3 : Int32) (M : Mem) : Option (Int32 × Mem) :=
  (ixQ 16 x1).bind fun t1 =>
  (ldI M ((33 + 13 * t1) + 7) 5 x2).bind fun v3 =>
  if v3 = (2 : Int32) then ((f_X6_placeOf (M 0 8) x1 M).bind fun (k8, M6) =>
  (ckP (xPb k8)).bind fun u9 =>
  (f_X1_setNumber k8 x1 x2 x3 M6).bind fun (v13, M11) =>
  (stF M11 0 9 ((M11 0 9) + (1 : Int32))).bind fun M14 =>
  some ((0 : Int32), M14)) else (some ((12 : Int32), M))
set_option maxRecDepth 100000 in
set_option maxHeartbeats 4000000 in
theorem w_X6_write_0 (C : gC p s m args c RX6 cX6_write 4 D (xty cI cT cS) 241 (xE cI cT cS) ad) (hr : meth.sig.returnType = (some .int)) (hq : meth.locks = false) {Rs : Int32 × Mem} {x1 : Int32} {x2 : Int32} {x3 : Int32} (w : gWd D 241 (xE cI cT cS) ad M s H locs) (hl : lv_has ls 4 [(0, .ref (ad 0)), (1, .int x1), (2, .int x2), (3, .int x3)]) (hf : f_X6_write_0  x1 x2 x3 M = some Rs) : W p l e (rmH 1) s m args below meth c H locs 0 0 (MQ below (qI D 241 (xE cI cT cS) ad Rs) args s 0 0 (gA 241 ad)) (F0 m 0 ls []) := by
  unfold f_X6_write_0 at hf
  have hx := C.1.1
  have hb := C.1.2.1
  have hi := C.2.2.2.1
  refine lv_aload_n hx hb dX6_write_0 rfl (lv_at hl 0 rfl) ?_
  refine gt_X6_11 C w dX6_write_1 ?_
  refine lv_iload_n hx hb dX6_write_4 rfl (lv_at hl 1 rfl) ?_
  obtain ⟨t1, e2, hf⟩ := bindS hf
  refine g_aald (t0 := 1) C w rf_T rfl e2 dX6_write_5 ?_
  refine gt_X6_95 ⟨t1, ixQ_lt e2, rfl⟩ C w dX6_write_6 ?_
  refine lv_iload_n hx hb dX6_write_9 rfl (lv_at hl 2 rfl) ?_
  obtain ⟨v3, e4, hf⟩ := bindS hf
  refine g_iald C w (xT_a7 ⟨t1, ixQ_lt e2, rfl⟩) e4 dX6_write_10 ?_
  refine lv_iconst (v := 2) hx hb dX6_write_11 (by decide) ?_
  refine lv_icmp_eq (tgt := 18) hx hb dX6_write_12 (by decide) (fun c5 => ?_) (fun c5 => ?_)
  · replace hf := (if_pos c5).symm.trans hf
    refine lv_aload_n hx hb dX6_write_18 rfl (lv_at hl 0 rfl) ?_
    refine lv_aload_n hx hb dX6_write_19 rfl (lv_at hl 0 rfl) ?_
    refine gt_X6_117 C w dX6_write_20 ?_
    refine lv_iload_n hx hb dX6_write_23 rfl (lv_at hl 1 rfl) ?_
    obtain ⟨⟨k8, M6⟩, e7, hf⟩ := bindS hf
    refine g_backR w (g_runV (rest := []) C w (c_X6_placeOf hi  e7) ob_X6 rfl gv_X6_146 md_X6_placeOf rfl (by omega) (by decide) hl.1 rfl (Nat.le_of_ble_eq_true rfl) dX6_write_24) (fun H locs w => ?_)
    obtain ⟨u9, e10, hf⟩ := bindS hf
    refine lv_iload_n hx hb dX6_write_27 rfl (lv_at hl 1 rfl) ?_
    refine lv_iload_n hx hb dX6_write_28 rfl (lv_at hl 2 rfl) ?_
    refine lv_iload_n hx hb dX6_write_29 rfl (lv_at hl 3 rfl) ?_
    obtain ⟨⟨v13, M11⟩, e12, hf⟩ := bindS hf
    refine g_backV w (g_runV (rest := []) C w (c_X1_setNumber hi (xPb_ok e10) e12) (ob_X1 (xPb_ok e10)) rfl gv_X6_254 md_X1_setNumber rfl (by omega) (by decide) hl.1 rfl (Nat.le_of_ble_eq_true rfl) dX6_write_30) (fun H locs w => ?_)
    refine lv_aload_n hx hb dX6_write_33 rfl (lv_at hl 0 rfl) ?_
    refine lv_dup hx hb dX6_write_34 rfl ?_
    refine gt_X6_120 C w dX6_write_35 ?_
    refine lv_iconst (v := 1) hx hb dX6_write_38 (by decide) ?_
    refine lv_iadd hx hb dX6_write_39 ?_
    obtain ⟨M14, e15, hf⟩ := bindS hf
    refine pt_X6_120 C w e15 dX6_write_40 (fun H locs w => ?_)
    refine lv_iconst (v := 0) hx hb dX6_write_43 (by decide) ?_
    exact g_iret C w hr hq hf dX6_write_44
  · replace hf := (if_neg c5).symm.trans hf
    refine lv_bipush (v := 12) hx hb dX6_write_15 (by decide) ?_
    exact g_iret C w hr hq hf dX6_write_17
abbrev f_X6_write (x1 : Int32) (x2 : Int32) (x3 : Int32) (M : Mem) : Option (Int32 × Mem) := f_X6_write_0 x1 x2 x3 M
theorem c_X6_write (hi : gInj 241 ad) {x1 : Int32} {x2 : Int32} {x3 : Int32} {Rs : Int32 × Mem} (hf : f_X6_write x1 x2 x3 M = some Rs) : gMet l yX6_write cX6_write 4 (some .int) 1 D (xty cI cT cS) 241 (xE cI cT cS) ad [.ref (ad 0), .int x1, .int x2, .int x3] M (qI D 241 (xE cI cT cS) ad Rs) := gMet_of (by decide) hi (xE_loc cI cT cS) (Nat.le_of_ble_eq_true rfl) (fun p e s m args below meth c ls C hr hq w hl => w_X6_write_0 C hr hq  w hl hf)
end GENX
