noncomputable section GENX
variable {p : Program} {l : Launch} {e : Env} {h : Nat} {R : Room} {s : State} {m : MethodId} {args : Array Value} {below : List Frame} {meth : Method} {c : Code} {H : Heap} {locs : List Loc} {cells slots : Nat} {Q : State → Prop} {cc : ByteArray} {nL pc : Nat} {ls : Array Slot} {rest : List Value} {D : va_G} {ad : Nat → Nat} {M M1 : Mem} {cI cT cS cZ : ClassId}
theorem kc_X6_wake : Cond.code yX6_wake cX6_wake 5 (some .int) ∈ gW := gw_in 372 (by decide +kernel) rfl
theorem md_X6_wake : gMd yX6_wake 2 := ⟨by decide +kernel, by decide +kernel, by decide +kernel⟩
theorem kl_X6_251 : Cond.methodLink RX6 251 yX6_wake ∈ gW := gw_in 369 (by decide +kernel) rfl
theorem kn_X6_wake : Cond.instanceMethod yX6_wake ∈ gW := gw_in 371 (by decide +kernel) rfl
theorem ks_X6_wake : Cond.selects RX6 yX6_wake yX6_wake ∈ gW := gw_in 9 (by decide +kernel) rfl
theorem gv_X6_251 : gWv RX6 251 yX6_wake cX6_wake 5 (some .int) := ⟨kl_X6_251, kn_X6_wake, ks_X6_wake, ki_X6, kc_X6_wake⟩
theorem kf_X6_153 : Cond.fieldLink RX6 153 (TX3 1).1 (TX3 1).2.1 (TX3 1).2.2.1 ∈ gW := gw_in 213 (by decide +kernel) rfl
theorem gt_X6_153 {k : Nat} (hk : xS k) (C : gC p s m args c RX6 cc nL D (xty cI cT cS) 241 (xE cI cT cS) ad) (w : gWd D 241 (xE cI cT cS) ad M s H locs) (hdg : decode cc pc = .ok (.getfield 153, 3)) (kk : W p l e R s m args below meth c H locs cells slots Q (F0 m (pc + 3) ls (.ref (ad (k + 4)) :: rest))) : W p l e R s m args below meth c H locs cells slots Q (F0 m pc ls (.ref (ad k) :: rest)) := g_get C w (ob_X3 hk) rfl ginX3 1 (by decide) kf_X6_153 rfl hdg kk
theorem kf_X6_123 : Cond.fieldLink RX6 123 (TX6 10).1 (TX6 10).2.1 (TX6 10).2.2.1 ∈ gW := gw_in 237 (by decide +kernel) rfl
theorem pt_X6_123 {x : Int32} (C : gC p s m args c RX6 cc nL D (xty cI cT cS) 241 (xE cI cT cS) ad) (w : gWd D 241 (xE cI cT cS) ad M s H locs) (e1 : stF M 0 10 x = some M1) (hdg : decode cc pc = .ok (.putfield 123, 3)) (kk : ∀ (H1 : Heap) (locs1 : List Loc), gWd D 241 (xE cI cT cS) ad M1 s H1 locs1 → W p l e R s m args below meth c H1 locs1 cells slots Q (F0 m (pc + 3) ls rest)) : W p l e R s m args below meth c H locs cells slots Q (F0 m pc ls (.int x :: .ref (ad 0) :: rest)) := by
  cases e1
  exact g_put C w ob_X6 rfl ginX6 tyX6 tyX6_ok nmX6 10 (by decide) kf_X6_123 rfl rfl rfl (Nat.le_of_ble_eq_true rfl) (by simp [fX6, mset, upd]) hdg kk
theorem kf_X6_99 : Cond.fieldLink RX6 99 (TX4 7).1 (TX4 7).2.1 (TX4 7).2.2.1 ∈ gW := gw_in 165 (by decide +kernel) rfl
theorem gt_X6_99 {k : Nat} (hk : xT k) (C : gC p s m args c RX6 cc nL D (xty cI cT cS) 241 (xE cI cT cS) ad) (w : gWd D 241 (xE cI cT cS) ad M s H locs) (hdg : decode cc pc = .ok (.getfield 99, 3)) (kk : W p l e R s m args below meth c H locs cells slots Q (F0 m (pc + 3) ls (.ref (ad (k + 8)) :: rest))) : W p l e R s m args below meth c H locs cells slots Q (F0 m pc ls (.ref (ad k) :: rest)) := g_get C w (ob_X4 hk) rfl ginX4 7 (by decide) kf_X6_99 rfl hdg kk
theorem kc_X6_ask : Cond.code yX6_ask cX6_ask 6 (some .int) ∈ gW := gw_in 408 (by decide +kernel) rfl
theorem md_X6_ask : gMd yX6_ask 3 := ⟨by decide +kernel, by decide +kernel, by decide +kernel⟩
theorem kl_X6_238 : Cond.methodLink RX6 238 yX6_ask ∈ gW := gw_in 405 (by decide +kernel) rfl
theorem kn_X6_ask : Cond.instanceMethod yX6_ask ∈ gW := gw_in 407 (by decide +kernel) rfl
theorem ks_X6_ask : Cond.selects RX6 yX6_ask yX6_ask ∈ gW := gw_in 17 (by decide +kernel) rfl
theorem gv_X6_238 : gWv RX6 238 yX6_ask cX6_ask 6 (some .int) := ⟨kl_X6_238, kn_X6_ask, ks_X6_ask, ki_X6, kc_X6_ask⟩
theorem gt_X6_123 (C : gC p s m args c RX6 cc nL D (xty cI cT cS) 241 (xE cI cT cS) ad) (w : gWd D 241 (xE cI cT cS) ad M s H locs) (hdg : decode cc pc = .ok (.getfield 123, 3)) (kk : W p l e R s m args below meth c H locs cells slots Q (F0 m (pc + 3) ls (.int (M 0 10) :: rest))) : W p l e R s m args below meth c H locs cells slots Q (F0 m pc ls (.ref (ad 0) :: rest)) := g_get C w ob_X6 rfl ginX6 10 (by decide) kf_X6_123 rfl hdg kk
theorem kc_X6_write : Cond.code yX6_write cX6_write 4 (some .int) ∈ gW := gw_in 396 (by decide +kernel) rfl
theorem md_X6_write : gMd yX6_write 3 := ⟨by decide +kernel, by decide +kernel, by decide +kernel⟩
theorem kl_X6_248 : Cond.methodLink RX6 248 yX6_write ∈ gW := gw_in 393 (by decide +kernel) rfl
theorem kn_X6_write : Cond.instanceMethod yX6_write ∈ gW := gw_in 395 (by decide +kernel) rfl
theorem ks_X6_write : Cond.selects RX6 yX6_write yX6_write ∈ gW := gw_in 15 (by decide +kernel) rfl
theorem gv_X6_248 : gWv RX6 248 yX6_write cX6_write 4 (some .int) := ⟨kl_X6_248, kn_X6_write, ks_X6_write, ki_X6, kc_X6_write⟩
theorem kc_X6_takeSteps : Cond.code yX6_takeSteps cX6_takeSteps 2 (some .boolean) ∈ gW := gw_in 392 (by decide +kernel) rfl
theorem md_X6_takeSteps : gMd yX6_takeSteps 1 := ⟨by decide +kernel, by decide +kernel, by decide +kernel⟩
theorem kl_X6_279 : Cond.methodLink RX6 279 yX6_takeSteps ∈ gW := gw_in 389 (by decide +kernel) rfl
theorem kn_X6_takeSteps : Cond.instanceMethod yX6_takeSteps ∈ gW := gw_in 391 (by decide +kernel) rfl
theorem ks_X6_takeSteps : Cond.selects RX6 yX6_takeSteps yX6_takeSteps ∈ gW := gw_in 14 (by decide +kernel) rfl
theorem gv_X6_279 : gWv RX6 279 yX6_takeSteps cX6_takeSteps 2 (some .boolean) := ⟨kl_X6_279, kn_X6_takeSteps, ks_X6_takeSteps, ki_X6, kc_X6_takeSteps⟩
theorem kf_X6_276 : Cond.fieldLink RX6 276 (TX4 8).1 (TX4 8).2.1 (TX4 8).2.2.1 ∈ gW := gw_in 167 (by decide +kernel) rfl
theorem gt_X6_276 {k : Nat} (hk : xT k) (C : gC p s m args c RX6 cc nL D (xty cI cT cS) 241 (xE cI cT cS) ad) (w : gWd D 241 (xE cI cT cS) ad M s H locs) (hdg : decode cc pc = .ok (.getfield 276, 3)) (kk : W p l e R s m args below meth c H locs cells slots Q (F0 m (pc + 3) ls (.ref (ad (k + 9)) :: rest))) : W p l e R s m args below meth c H locs cells slots Q (F0 m pc ls (.ref (ad k) :: rest)) := g_get C w (ob_X4 hk) rfl ginX4 8 (by decide) kf_X6_276 rfl hdg kk
theorem kf_X6_282 : Cond.fieldLink RX6 282 (TX4 11).1 (TX4 11).2.1 (TX4 11).2.2.1 ∈ gW := gw_in 173 (by decide +kernel) rfl
theorem gt_X6_282 {k : Nat} (hk : xT k) (C : gC p s m args c RX6 cc nL D (xty cI cT cS) 241 (xE cI cT cS) ad) (w : gWd D 241 (xE cI cT cS) ad M s H locs) (hdg : decode cc pc = .ok (.getfield 282, 3)) (kk : W p l e R s m args below meth c H locs cells slots Q (F0 m (pc + 3) ls (.ref (ad (k + 12)) :: rest))) : W p l e R s m args below meth c H locs cells slots Q (F0 m pc ls (.ref (ad k) :: rest)) := g_get C w (ob_X4 hk) rfl ginX4 11 (by decide) kf_X6_282 rfl hdg kk
theorem kc_X6_askAndAdd : Cond.code yX6_askAndAdd cX6_askAndAdd 7 (some .int) ∈ gW := gw_in 404 (by decide +kernel) rfl
theorem md_X6_askAndAdd : gMd yX6_askAndAdd 5 := ⟨by decide +kernel, by decide +kernel, by decide +kernel⟩
theorem kl_X6_285 : Cond.methodLink RX6 285 yX6_askAndAdd ∈ gW := gw_in 401 (by decide +kernel) rfl
theorem kn_X6_askAndAdd : Cond.instanceMethod yX6_askAndAdd ∈ gW := gw_in 403 (by decide +kernel) rfl
theorem ks_X6_askAndAdd : Cond.selects RX6 yX6_askAndAdd yX6_askAndAdd ∈ gW := gw_in 16 (by decide +kernel) rfl
theorem gv_X6_285 : gWv RX6 285 yX6_askAndAdd cX6_askAndAdd 7 (some .int) := ⟨kl_X6_285, kn_X6_askAndAdd, ks_X6_askAndAdd, ki_X6, kc_X6_askAndAdd⟩
theorem kc_X6_makeThing : Cond.code yX6_makeThing cX6_makeThing 4 (some .int) ∈ gW := gw_in 368 (by decide +kernel) rfl
theorem md_X6_makeThing : gMd yX6_makeThing 2 := ⟨by decide +kernel, by decide +kernel, by decide +kernel⟩
theorem kl_X6_245 : Cond.methodLink RX6 245 yX6_makeThing ∈ gW := gw_in 365 (by decide +kernel) rfl
theorem kn_X6_makeThing : Cond.instanceMethod yX6_makeThing ∈ gW := gw_in 367 (by decide +kernel) rfl
theorem ks_X6_makeThing : Cond.selects RX6 yX6_makeThing yX6_makeThing ∈ gW := gw_in 8 (by decide +kernel) rfl
theorem gv_X6_245 : gWv RX6 245 yX6_makeThing cX6_makeThing 4 (some .int) := ⟨kl_X6_245, kn_X6_makeThing, ks_X6_makeThing, ki_X6, kc_X6_makeThing⟩
theorem kf_X6_38 : Cond.fieldLink RX6 38 (TX6 4).1 (TX6 4).2.1 (TX6 4).2.2.1 ∈ gW := gw_in 231 (by decide +kernel) rfl
theorem gt_X6_38 (C : gC p s m args c RX6 cc nL D (xty cI cT cS) 241 (xE cI cT cS) ad) (w : gWd D 241 (xE cI cT cS) ad M s H locs) (hdg : decode cc pc = .ok (.getfield 38, 3)) (kk : W p l e R s m args below meth c H locs cells slots Q (F0 m (pc + 3) ls (.ref (ad 10) :: rest))) : W p l e R s m args below meth c H locs cells slots Q (F0 m pc ls (.ref (ad 0) :: rest)) := g_get C w ob_X6 rfl ginX6 4 (by decide) kf_X6_38 rfl hdg kk
theorem kc_X0_addMessage : Cond.code yX0_addMessage cX0_addMessage 2 none ∈ gW := gw_in 416 (by decide +kernel) rfl
theorem ki_X0 : Cond.initialized RX0 ∈ gW := gw_in 42 (by decide +kernel) rfl
theorem md_X0_addMessage : gMd yX0_addMessage 1 := ⟨by decide +kernel, by decide +kernel, by decide +kernel⟩
theorem kl_X6_288 : Cond.methodLink RX6 288 yX0_addMessage ∈ gW := gw_in 413 (by decide +kernel) rfl
theorem kn_X0_addMessage : Cond.instanceMethod yX0_addMessage ∈ gW := gw_in 414 (by decide +kernel) rfl
theorem ks_X0_addMessage : Cond.selects RX0 yX0_addMessage yX0_addMessage ∈ gW := gw_in 415 (by decide +kernel) rfl
theorem gv_X6_288 : gWv RX6 288 yX0_addMessage cX0_addMessage 2 none := ⟨kl_X6_288, kn_X0_addMessage, ks_X0_addMessage, ki_X0, kc_X0_addMessage⟩
theorem kf_X6_270 : Cond.fieldLink RX6 270 (TX4 9).1 (TX4 9).2.1 (TX4 9).2.2.1 ∈ gW := gw_in 169 (by decide +kernel) rfl
theorem gt_X6_270 {k : Nat} (hk : xT k) (C : gC p s m args c RX6 cc nL D (xty cI cT cS) 241 (xE cI cT cS) ad) (w : gWd D 241 (xE cI cT cS) ad M s H locs) (hdg : decode cc pc = .ok (.getfield 270, 3)) (kk : W p l e R s m args below meth c H locs cells slots Q (F0 m (pc + 3) ls (.ref (ad (k + 10)) :: rest))) : W p l e R s m args below meth c H locs cells slots Q (F0 m pc ls (.ref (ad k) :: rest)) := g_get C w (ob_X4 hk) rfl ginX4 9 (by decide) kf_X6_270 rfl hdg kk
theorem kf_X6_273 : Cond.fieldLink RX6 273 (TX4 10).1 (TX4 10).2.1 (TX4 10).2.2.1 ∈ gW := gw_in 171 (by decide +kernel) rfl
theorem gt_X6_273 {k : Nat} (hk : xT k) (C : gC p s m args c RX6 cc nL D (xty cI cT cS) 241 (xE cI cT cS) ad) (w : gWd D 241 (xE cI cT cS) ad M s H locs) (hdg : decode cc pc = .ok (.getfield 273, 3)) (kk : W p l e R s m args below meth c H locs cells slots Q (F0 m (pc + 3) ls (.ref (ad (k + 11)) :: rest))) : W p l e R s m args below meth c H locs cells slots Q (F0 m pc ls (.ref (ad k) :: rest)) := g_get C w (ob_X4 hk) rfl ginX4 10 (by decide) kf_X6_273 rfl hdg kk
theorem kf_X6_106 : Cond.fieldLink RX6 106 (TX4 12).1 (TX4 12).2.1 (TX4 12).2.2.1 ∈ gW := gw_in 175 (by decide +kernel) rfl
theorem gt_X6_106 {k : Nat} (hk : xT k) (C : gC p s m args c RX6 cc nL D (xty cI cT cS) 241 (xE cI cT cS) ad) (w : gWd D 241 (xE cI cT cS) ad M s H locs) (hdg : decode cc pc = .ok (.getfield 106, 3)) (kk : W p l e R s m args below meth c H locs cells slots Q (F0 m (pc + 3) ls (.int (M k 12) :: rest))) : W p l e R s m args below meth c H locs cells slots Q (F0 m pc ls (.ref (ad k) :: rest)) := g_get C w (ob_X4 hk) rfl ginX4 12 (by decide) kf_X6_106 rfl hdg kk
theorem kc_X6_doLine : Cond.code yX6_doLine cX6_doLine 7 (some .int) ∈ gW := gw_in 388 (by decide +kernel) rfl
theorem md_X6_doLine : gMd yX6_doLine 3 := ⟨by decide +kernel, by decide +kernel, by decide +kernel⟩
theorem kl_X6_267 : Cond.methodLink RX6 267 yX6_doLine ∈ gW := gw_in 385 (by decide +kernel) rfl
theorem kn_X6_doLine : Cond.instanceMethod yX6_doLine ∈ gW := gw_in 387 (by decide +kernel) rfl
theorem ks_X6_doLine : Cond.selects RX6 yX6_doLine yX6_doLine ∈ gW := gw_in 13 (by decide +kernel) rfl
theorem gv_X6_267 : gWv RX6 267 yX6_doLine cX6_doLine 7 (some .int) := ⟨kl_X6_267, kn_X6_doLine, ks_X6_doLine, ki_X6, kc_X6_doLine⟩
theorem kc_X0_addStart : Cond.code yX0_addStart cX0_addStart 6 none ∈ gW := gw_in 420 (by decide +kernel) rfl
theorem md_X0_addStart : gMd yX0_addStart 4 := ⟨by decide +kernel, by decide +kernel, by decide +kernel⟩
theorem kl_X6_263 : Cond.methodLink RX6 263 yX0_addStart ∈ gW := gw_in 417 (by decide +kernel) rfl
theorem kn_X0_addStart : Cond.instanceMethod yX0_addStart ∈ gW := gw_in 418 (by decide +kernel) rfl
theorem ks_X0_addStart : Cond.selects RX0 yX0_addStart yX0_addStart ∈ gW := gw_in 419 (by decide +kernel) rfl
theorem gv_X6_263 : gWv RX6 263 yX0_addStart cX0_addStart 6 none := ⟨kl_X6_263, kn_X0_addStart, ks_X0_addStart, ki_X0, kc_X0_addStart⟩
theorem kf_X6_150 : Cond.fieldLink RX6 150 (TX1 0).1 (TX1 0).2.1 (TX1 0).2.2.1 ∈ gW := gw_in 73 (by decide +kernel) rfl
theorem gt_X6_150 {k : Nat} (hk : xP k) (C : gC p s m args c RX6 cc nL D (xty cI cT cS) 241 (xE cI cT cS) ad) (w : gWd D 241 (xE cI cT cS) ad M s H locs) (hdg : decode cc pc = .ok (.getfield 150, 3)) (kk : W p l e R s m args below meth c H locs cells slots Q (F0 m (pc + 3) ls (.ref (ad (k + 1)) :: rest))) : W p l e R s m args below meth c H locs cells slots Q (F0 m pc ls (.ref (ad k) :: rest)) := g_get C w (ob_X1 hk) rfl ginX1 0 (by decide) kf_X6_150 rfl hdg kk
theorem kc_X6_wakeAbove : Cond.code yX6_wakeAbove cX6_wakeAbove 6 (some .int) ∈ gW := gw_in 380 (by decide +kernel) rfl
theorem md_X6_wakeAbove : gMd yX6_wakeAbove 2 := ⟨by decide +kernel, by decide +kernel, by decide +kernel⟩
theorem kl_X6_257 : Cond.methodLink RX6 257 yX6_wakeAbove ∈ gW := gw_in 377 (by decide +kernel) rfl
theorem kn_X6_wakeAbove : Cond.instanceMethod yX6_wakeAbove ∈ gW := gw_in 379 (by decide +kernel) rfl
theorem ks_X6_wakeAbove : Cond.selects RX6 yX6_wakeAbove yX6_wakeAbove ∈ gW := gw_in 11 (by decide +kernel) rfl
theorem gv_X6_257 : gWv RX6 257 yX6_wakeAbove cX6_wakeAbove 6 (some .int) := ⟨kl_X6_257, kn_X6_wakeAbove, ks_X6_wakeAbove, ki_X6, kc_X6_wakeAbove⟩
theorem kc_X6_doLines : Cond.code yX6_doLines cX6_doLines 5 (some .int) ∈ gW := gw_in 384 (by decide +kernel) rfl
theorem md_X6_doLines : gMd yX6_doLines 2 := ⟨by decide +kernel, by decide +kernel, by decide +kernel⟩
theorem kl_X6_260 : Cond.methodLink RX6 260 yX6_doLines ∈ gW := gw_in 381 (by decide +kernel) rfl
theorem kn_X6_doLines : Cond.instanceMethod yX6_doLines ∈ gW := gw_in 383 (by decide +kernel) rfl
theorem ks_X6_doLines : Cond.selects RX6 yX6_doLines yX6_doLines ∈ gW := gw_in 12 (by decide +kernel) rfl
theorem gv_X6_260 : gWv RX6 260 yX6_doLines cX6_doLines 5 (some .int) := ⟨kl_X6_260, kn_X6_doLines, ks_X6_doLines, ki_X6, kc_X6_doLines⟩
def f_X6_makeThing_0 (wk : Int32 → Int32 → Mem → Option (Int32 × Mem)) (x1 : Int32) (x2 : Int32) (M : Mem) : Option (Int32 × Mem) :=
  (f_X6_isClass x1 M).bind fun (v3, M1) =>
  if v3 = 0 then (some ((18 : Int32), M1)) else ((wk x1 x2 M1).bind fun (v7, M5) =>
  if v7 = 0 then ((ixQ 4 (M5 0 8)).bind fun t9 =>
  (ldI M5 ((13 + 5 * t9) + 4) 16 x1).bind fun v11 =>
  (stI M5 ((13 + 5 * t9) + 4) 16 x1 (v11 + (1 : Int32))).bind fun M13 =>
  some (v7, M13)) else (some (v7, M5)))
set_option maxRecDepth 100000 in
set_option maxHeartbeats 4000000 in
theorem w_X6_makeThing_0 {wk : Int32 → Int32 → Mem → Option (Int32 × Mem)} {hw : Nat} (hwk : ∀ {t d : Int32} {M : Mem} {Rs : Int32 × Mem}, wk t d M = some Rs → gMet l yX6_wake cX6_wake 5 (some .int) hw D (xty cI cT cS) 241 (xE cI cT cS) ad [.ref (ad 0), .int t, .int d] M (qI D 241 (xE cI cT cS) ad Rs)) (C : gC p s m args c RX6 cX6_makeThing 4 D (xty cI cT cS) 241 (xE cI cT cS) ad) (hr : meth.sig.returnType = (some .int)) (hq : meth.locks = false) {Rs : Int32 × Mem} {x1 : Int32} {x2 : Int32} (w : gWd D 241 (xE cI cT cS) ad M s H locs) (hl : lv_has ls 4 [(0, .ref (ad 0)), (1, .int x1), (2, .int x2)]) (hf : f_X6_makeThing_0 wk x1 x2 M = some Rs) : W p l e (rmH (hw + 3)) s m args below meth c H locs 0 0 (MQ below (qI D 241 (xE cI cT cS) ad Rs) args s 0 0 (gA 241 ad)) (F0 m 0 ls []) := by
  unfold f_X6_makeThing_0 at hf
  have hx := C.1.1
  have hb := C.1.2.1
  have hi := C.2.2.2.1
  refine lv_aload_n hx hb dX6_makeThing_0 rfl (lv_at hl 0 rfl) ?_
  refine lv_iload_n hx hb dX6_makeThing_1 rfl (lv_at hl 1 rfl) ?_
  obtain ⟨⟨v3, M1⟩, e2, hf⟩ := bindS hf
  refine g_backI w (g_runV (rest := []) C w (c_X6_isClass hi  e2) ob_X6 rfl gv_X6_48 md_X6_isClass rfl (by omega) (by decide) hl.1 rfl (Nat.le_of_ble_eq_true rfl) dX6_makeThing_2) (fun H locs w => ?_)
  refine lv_if_ne (tgt := 11) hx hb dX6_makeThing_5 (by decide) (fun c4 => ?_) (fun c4 => ?_)
  · replace hf := (if_neg c4).symm.trans hf
    refine lv_aload_n hx hb dX6_makeThing_11 rfl (lv_at hl 0 rfl) ?_
    refine lv_iload_n hx hb dX6_makeThing_12 rfl (lv_at hl 1 rfl) ?_
    refine lv_iload_n hx hb dX6_makeThing_13 rfl (lv_at hl 2 rfl) ?_
    obtain ⟨⟨v7, M5⟩, e6, hf⟩ := bindS hf
    refine g_backI w (g_runV (rest := []) C w (hwk e6) ob_X6 rfl gv_X6_251 md_X6_wake rfl (by omega) (by decide) hl.1 rfl (Nat.le_of_ble_eq_true rfl) dX6_makeThing_14) (fun H locs w => ?_)
    refine lv_istore_n (lv' := [(3, .int v7), (0, .ref (ad 0)), (1, .int x1), (2, .int x2)]) hx hb dX6_makeThing_17 rfl hl (by decide) rfl (fun ls hl => ?_)
    refine lv_iload_n hx hb dX6_makeThing_18 rfl (lv_at hl 0 rfl) ?_
    refine lv_if_ne (tgt := 40) hx hb dX6_makeThing_19 (by decide) (fun c8 => ?_) (fun c8 => ?_)
    · replace hf := (if_neg c8).symm.trans hf
      refine lv_iload_n hx hb dX6_makeThing_40 rfl (lv_at hl 0 rfl) ?_
      exact g_iret C w hr hq hf dX6_makeThing_41
    · replace hf := (if_pos c8).symm.trans hf
      refine lv_aload_n hx hb dX6_makeThing_22 rfl (lv_at hl 1 rfl) ?_
      refine gt_X6_17 C w dX6_makeThing_23 ?_
      refine lv_aload_n hx hb dX6_makeThing_26 rfl (lv_at hl 1 rfl) ?_
      refine gt_X6_117 C w dX6_makeThing_27 ?_
      obtain ⟨t9, e10, hf⟩ := bindS hf
      refine g_aald (t0 := 2) C w rf_S rfl e10 dX6_makeThing_30 ?_
      refine gt_X6_153 ⟨t9, ixQ_lt e10, rfl⟩ C w dX6_makeThing_31 ?_
      refine lv_iload_n hx hb dX6_makeThing_34 rfl (lv_at hl 2 rfl) ?_
      refine lv_dup2_11 hx hb dX6_makeThing_35 rfl rfl ?_
      obtain ⟨v11, e12, hf⟩ := bindS hf
      refine g_iald C w (xS_g ⟨t9, ixQ_lt e10, rfl⟩) e12 dX6_makeThing_36 ?_
      refine lv_iconst (v := 1) hx hb dX6_makeThing_37 (by decide) ?_
      refine lv_iadd hx hb dX6_makeThing_38 ?_
      obtain ⟨M13, e14, hf⟩ := bindS hf
      refine g_iast C w (xS_g ⟨t9, ixQ_lt e10, rfl⟩) e14 dX6_makeThing_39 (fun H locs w => ?_)
      refine lv_iload_n hx hb dX6_makeThing_40 rfl (lv_at hl 0 rfl) ?_
      exact g_iret C w hr hq hf dX6_makeThing_41
  · replace hf := (if_pos c4).symm.trans hf
    refine lv_bipush (v := 18) hx hb dX6_makeThing_8 (by decide) ?_
    exact g_iret C w hr hq hf dX6_makeThing_10
abbrev f_X6_makeThing (wk : Int32 → Int32 → Mem → Option (Int32 × Mem)) (x1 : Int32) (x2 : Int32) (M : Mem) : Option (Int32 × Mem) := f_X6_makeThing_0 wk x1 x2 M
theorem c_X6_makeThing {wk : Int32 → Int32 → Mem → Option (Int32 × Mem)} {hw : Nat} (hwk : ∀ {t d : Int32} {M : Mem} {Rs : Int32 × Mem}, wk t d M = some Rs → gMet l yX6_wake cX6_wake 5 (some .int) hw D (xty cI cT cS) 241 (xE cI cT cS) ad [.ref (ad 0), .int t, .int d] M (qI D 241 (xE cI cT cS) ad Rs)) (hi : gInj 241 ad) {x1 : Int32} {x2 : Int32} {Rs : Int32 × Mem} (hf : f_X6_makeThing wk x1 x2 M = some Rs) : gMet l yX6_makeThing cX6_makeThing 4 (some .int) (hw + 3) D (xty cI cT cS) 241 (xE cI cT cS) ad [.ref (ad 0), .int x1, .int x2] M (qI D 241 (xE cI cT cS) ad Rs) := gMet_of (by decide) hi (xE_loc cI cT cS) (Nat.le_of_ble_eq_true rfl) (fun p e s m args below meth c ls C hr hq w hl => w_X6_makeThing_0 hwk C hr hq  w hl hf)
def f_X6_ask_18 (wk : Int32 → Int32 → Mem → Option (Int32 × Mem)) (x2 : Int32) (x3 : Int32) (s0 : Int32) (M : Mem) : Option (Int32 × Mem) :=
  if s0 = (-1 : Int32) then (some ((18 : Int32), M)) else ((ixQ 16 s0).bind fun t2 =>
  (ldI M ((33 + 13 * t2) + 7) 5 x2).bind fun v4 =>
  if v4 = (1 : Int32) then ((ixQ 16 s0).bind fun t21 =>
  (ldI M ((33 + 13 * t21) + 8) 5 x2).bind fun v23 =>
  (stF M 0 10 v23).bind fun M25 =>
  some ((0 : Int32), M25)) else ((wk s0 x3 M).bind fun (v9, M7) =>
  if v9 = 0 then ((f_X6_placeOf (M7 0 8) s0 M7).bind fun (k13, M11) =>
  (ckP (xPb k13)).bind fun u14 =>
  (f_X1_numberOf k13 s0 x2 M11).bind fun (v18, M16) =>
  (stF M16 0 10 v18).bind fun M19 =>
  some (v9, M19)) else (some (v9, M7))))
def f_X6_ask_0 (wk : Int32 → Int32 → Mem → Option (Int32 × Mem)) (x1 : Int32) (x2 : Int32) (x3 : Int32) (M : Mem) : Option (Int32 × Mem) :=
  (f_X6_isType x1 M).bind fun (v3, M1) =>
  if v3 = 0 then (f_X6_ask_18 wk x2 x3 (-1 : Int32) M1) else ((f_X6_homeOf x1 x2 M1).bind fun (v7, M5) =>
  f_X6_ask_18 wk x2 x3 v7 M5)
set_option maxRecDepth 100000 in
set_option maxHeartbeats 4000000 in
theorem w_X6_ask_18 {wk : Int32 → Int32 → Mem → Option (Int32 × Mem)} {hw : Nat} (hwk : ∀ {t d : Int32} {M : Mem} {Rs : Int32 × Mem}, wk t d M = some Rs → gMet l yX6_wake cX6_wake 5 (some .int) hw D (xty cI cT cS) 241 (xE cI cT cS) ad [.ref (ad 0), .int t, .int d] M (qI D 241 (xE cI cT cS) ad Rs)) (C : gC p s m args c RX6 cX6_ask 6 D (xty cI cT cS) 241 (xE cI cT cS) ad) (hr : meth.sig.returnType = (some .int)) (hq : meth.locks = false) {Rs : Int32 × Mem} {x2 : Int32} {x3 : Int32} {s0 : Int32} (w : gWd D 241 (xE cI cT cS) ad M s H locs) (hl : lv_has ls 6 [(0, .ref (ad 0)), (2, .int x2), (3, .int x3)]) (hf : f_X6_ask_18 wk x2 x3 s0 M = some Rs) : W p l e (rmH (hw + 2)) s m args below meth c H locs 0 0 (MQ below (qI D 241 (xE cI cT cS) ad Rs) args s 0 0 (gA 241 ad)) (F0 m 18 ls [.int s0]) := by
  unfold f_X6_ask_18 at hf
  have hx := C.1.1
  have hb := C.1.2.1
  have hi := C.2.2.2.1
  refine lv_istore (lv' := [(4, .int s0), (0, .ref (ad 0)), (2, .int x2), (3, .int x3)]) hx hb dX6_ask_18 hl (by decide) rfl (fun ls hl => ?_)
  refine lv_iload hx hb dX6_ask_20 (lv_at hl 0 rfl) ?_
  refine lv_iconst (v := -1) hx hb dX6_ask_22 (by decide) ?_
  refine lv_icmp_ne (tgt := 29) hx hb dX6_ask_23 (by decide) (fun c1 => ?_) (fun c1 => ?_)
  · replace hf := (if_neg c1).symm.trans hf
    refine lv_aload_n hx hb dX6_ask_29 rfl (lv_at hl 1 rfl) ?_
    refine gt_X6_11 C w dX6_ask_30 ?_
    refine lv_iload hx hb dX6_ask_33 (lv_at hl 0 rfl) ?_
    obtain ⟨t2, e3, hf⟩ := bindS hf
    refine g_aald (t0 := 1) C w rf_T rfl e3 dX6_ask_35 ?_
    refine gt_X6_95 ⟨t2, ixQ_lt e3, rfl⟩ C w dX6_ask_36 ?_
    refine lv_iload_n hx hb dX6_ask_39 rfl (lv_at hl 2 rfl) ?_
    obtain ⟨v4, e5, hf⟩ := bindS hf
    refine g_iald C w (xT_a7 ⟨t2, ixQ_lt e3, rfl⟩) e5 dX6_ask_40 ?_
    refine lv_iconst (v := 1) hx hb dX6_ask_41 (by decide) ?_
    refine lv_icmp_ne (tgt := 63) hx hb dX6_ask_42 (by decide) (fun c6 => ?_) (fun c6 => ?_)
    · replace hf := (if_neg c6).symm.trans hf
      refine lv_aload_n hx hb dX6_ask_63 rfl (lv_at hl 1 rfl) ?_
      refine lv_iload hx hb dX6_ask_64 (lv_at hl 0 rfl) ?_
      refine lv_iload_n hx hb dX6_ask_66 rfl (lv_at hl 3 rfl) ?_
      obtain ⟨⟨v9, M7⟩, e8, hf⟩ := bindS hf
      refine g_backI w (g_runV (rest := []) C w (hwk e8) ob_X6 rfl gv_X6_251 md_X6_wake rfl (by omega) (by decide) hl.1 rfl (Nat.le_of_ble_eq_true rfl) dX6_ask_67) (fun H locs w => ?_)
      refine lv_istore (lv' := [(5, .int v9), (4, .int s0), (0, .ref (ad 0)), (2, .int x2), (3, .int x3)]) hx hb dX6_ask_70 hl (by decide) rfl (fun ls hl => ?_)
      refine lv_iload hx hb dX6_ask_72 (lv_at hl 0 rfl) ?_
      refine lv_if_ne (tgt := 97) hx hb dX6_ask_74 (by decide) (fun c10 => ?_) (fun c10 => ?_)
      · replace hf := (if_neg c10).symm.trans hf
        refine lv_iload hx hb dX6_ask_97 (lv_at hl 0 rfl) ?_
        exact g_iret C w hr hq hf dX6_ask_99
      · replace hf := (if_pos c10).symm.trans hf
        refine lv_aload_n hx hb dX6_ask_77 rfl (lv_at hl 2 rfl) ?_
        refine lv_aload_n hx hb dX6_ask_78 rfl (lv_at hl 2 rfl) ?_
        refine lv_aload_n hx hb dX6_ask_79 rfl (lv_at hl 2 rfl) ?_
        refine gt_X6_117 C w dX6_ask_80 ?_
        refine lv_iload hx hb dX6_ask_83 (lv_at hl 1 rfl) ?_
        obtain ⟨⟨k13, M11⟩, e12, hf⟩ := bindS hf
        refine g_backR w (g_runV (rest := [.ref (ad 0)]) C w (c_X6_placeOf hi  e12) ob_X6 rfl gv_X6_146 md_X6_placeOf rfl (by omega) (by decide) hl.1 rfl (Nat.le_of_ble_eq_true rfl) dX6_ask_85) (fun H locs w => ?_)
        obtain ⟨u14, e15, hf⟩ := bindS hf
        refine lv_iload hx hb dX6_ask_88 (lv_at hl 1 rfl) ?_
        refine lv_iload_n hx hb dX6_ask_90 rfl (lv_at hl 3 rfl) ?_
        obtain ⟨⟨v18, M16⟩, e17, hf⟩ := bindS hf
        refine g_backI w (g_runV (rest := [.ref (ad 0)]) C w (c_X1_numberOf hi (xPb_ok e15) e17) (ob_X1 (xPb_ok e15)) rfl gv_X6_160 md_X1_numberOf rfl (by omega) (by decide) hl.1 rfl (Nat.le_of_ble_eq_true rfl) dX6_ask_91) (fun H locs w => ?_)
        obtain ⟨M19, e20, hf⟩ := bindS hf
        refine pt_X6_123 C w e20 dX6_ask_94 (fun H locs w => ?_)
        refine lv_iload hx hb dX6_ask_97 (lv_at hl 0 rfl) ?_
        exact g_iret C w hr hq hf dX6_ask_99
    · replace hf := (if_pos c6).symm.trans hf
      refine lv_aload_n hx hb dX6_ask_45 rfl (lv_at hl 1 rfl) ?_
      refine lv_aload_n hx hb dX6_ask_46 rfl (lv_at hl 1 rfl) ?_
      refine gt_X6_11 C w dX6_ask_47 ?_
      refine lv_iload hx hb dX6_ask_50 (lv_at hl 0 rfl) ?_
      obtain ⟨t21, e22, hf⟩ := bindS hf
      refine g_aald (t0 := 1) C w rf_T rfl e22 dX6_ask_52 ?_
      refine gt_X6_99 ⟨t21, ixQ_lt e22, rfl⟩ C w dX6_ask_53 ?_
      refine lv_iload_n hx hb dX6_ask_56 rfl (lv_at hl 2 rfl) ?_
      obtain ⟨v23, e24, hf⟩ := bindS hf
      refine g_iald C w (xT_a8 ⟨t21, ixQ_lt e22, rfl⟩) e24 dX6_ask_57 ?_
      obtain ⟨M25, e26, hf⟩ := bindS hf
      refine pt_X6_123 C w e26 dX6_ask_58 (fun H locs w => ?_)
      refine lv_iconst (v := 0) hx hb dX6_ask_61 (by decide) ?_
      exact g_iret C w hr hq hf dX6_ask_62
  · replace hf := (if_pos c1).symm.trans hf
    refine lv_bipush (v := 18) hx hb dX6_ask_26 (by decide) ?_
    exact g_iret C w hr hq hf dX6_ask_28
set_option maxRecDepth 100000 in
set_option maxHeartbeats 4000000 in
theorem w_X6_ask_0 {wk : Int32 → Int32 → Mem → Option (Int32 × Mem)} {hw : Nat} (hwk : ∀ {t d : Int32} {M : Mem} {Rs : Int32 × Mem}, wk t d M = some Rs → gMet l yX6_wake cX6_wake 5 (some .int) hw D (xty cI cT cS) 241 (xE cI cT cS) ad [.ref (ad 0), .int t, .int d] M (qI D 241 (xE cI cT cS) ad Rs)) (C : gC p s m args c RX6 cX6_ask 6 D (xty cI cT cS) 241 (xE cI cT cS) ad) (hr : meth.sig.returnType = (some .int)) (hq : meth.locks = false) {Rs : Int32 × Mem} {x1 : Int32} {x2 : Int32} {x3 : Int32} (w : gWd D 241 (xE cI cT cS) ad M s H locs) (hl : lv_has ls 6 [(0, .ref (ad 0)), (1, .int x1), (2, .int x2), (3, .int x3)]) (hf : f_X6_ask_0 wk x1 x2 x3 M = some Rs) : W p l e (rmH (hw + 2)) s m args below meth c H locs 0 0 (MQ below (qI D 241 (xE cI cT cS) ad Rs) args s 0 0 (gA 241 ad)) (F0 m 0 ls []) := by
  unfold f_X6_ask_0 at hf
  have hx := C.1.1
  have hb := C.1.2.1
  have hi := C.2.2.2.1
  refine lv_aload_n hx hb dX6_ask_0 rfl (lv_at hl 0 rfl) ?_
  refine lv_iload_n hx hb dX6_ask_1 rfl (lv_at hl 1 rfl) ?_
  obtain ⟨⟨v3, M1⟩, e2, hf⟩ := bindS hf
  refine g_backI w (g_runV (rest := []) C w (c_X6_isType hi  e2) ob_X6 rfl gv_X6_68 md_X6_isType rfl (by omega) (by decide) hl.1 rfl (Nat.le_of_ble_eq_true rfl) dX6_ask_2) (fun H locs w => ?_)
  refine lv_if_eq (tgt := 17) hx hb dX6_ask_5 (by decide) (fun c4 => ?_) (fun c4 => ?_)
  · replace hf := (if_pos c4).symm.trans hf
    refine lv_iconst (v := -1) hx hb dX6_ask_17 (by decide) ?_
    exact w_X6_ask_18 hwk C hr hq w (lv_sub hl [0, 2, 3] rfl) hf
  · replace hf := (if_neg c4).symm.trans hf
    refine lv_aload_n hx hb dX6_ask_8 rfl (lv_at hl 0 rfl) ?_
    refine lv_iload_n hx hb dX6_ask_9 rfl (lv_at hl 1 rfl) ?_
    refine lv_iload_n hx hb dX6_ask_10 rfl (lv_at hl 2 rfl) ?_
    obtain ⟨⟨v7, M5⟩, e6, hf⟩ := bindS hf
    refine g_backI w (g_runV (rest := []) C w (c_X6_homeOf hi  e6) ob_X6 rfl gv_X6_210 md_X6_homeOf rfl (by omega) (by decide) hl.1 rfl (Nat.le_of_ble_eq_true rfl) dX6_ask_11) (fun H locs w => ?_)
    refine lv_goto (tgt := 18) hx hb dX6_ask_14 (by decide) ?_
    exact w_X6_ask_18 hwk C hr hq w (lv_sub hl [0, 2, 3] rfl) hf
abbrev f_X6_ask (wk : Int32 → Int32 → Mem → Option (Int32 × Mem)) (x1 : Int32) (x2 : Int32) (x3 : Int32) (M : Mem) : Option (Int32 × Mem) := f_X6_ask_0 wk x1 x2 x3 M
theorem c_X6_ask {wk : Int32 → Int32 → Mem → Option (Int32 × Mem)} {hw : Nat} (hwk : ∀ {t d : Int32} {M : Mem} {Rs : Int32 × Mem}, wk t d M = some Rs → gMet l yX6_wake cX6_wake 5 (some .int) hw D (xty cI cT cS) 241 (xE cI cT cS) ad [.ref (ad 0), .int t, .int d] M (qI D 241 (xE cI cT cS) ad Rs)) (hi : gInj 241 ad) {x1 : Int32} {x2 : Int32} {x3 : Int32} {Rs : Int32 × Mem} (hf : f_X6_ask wk x1 x2 x3 M = some Rs) : gMet l yX6_ask cX6_ask 6 (some .int) (hw + 2) D (xty cI cT cS) 241 (xE cI cT cS) ad [.ref (ad 0), .int x1, .int x2, .int x3] M (qI D 241 (xE cI cT cS) ad Rs) := gMet_of (by decide) hi (xE_loc cI cT cS) (Nat.le_of_ble_eq_true rfl) (fun p e s m args below meth c ls C hr hq w hl => w_X6_ask_0 hwk C hr hq  w hl hf)
def f_X6_askAndAdd_0 (wk : Int32 → Int32 → Mem → Option (Int32 × Mem)) (x1 : Int32) (x2 : Int32) (x3 : Int32) (x4 : Int32) (x5 : Int32) (M : Mem) : Option (Int32 × Mem) :=
  (f_X6_ask wk x3 x4 x5 M).bind fun (v3, M1) =>
  if v3 = 0 then ((f_X6_placeOf (M1 0 8) x1 M1).bind fun (k7, M5) =>
  (ckP (xPb k7)).bind fun u8 =>
  (f_X1_numberOf k7 x1 x2 M5).bind fun (v12, M10) =>
  (f_X6_write x1 x2 (v12 + (M10 0 10)) M10).bind fun (v15, M13) =>
  some (v15, M13)) else (some (v3, M1))
set_option maxRecDepth 100000 in
set_option maxHeartbeats 4000000 in
theorem w_X6_askAndAdd_0 {wk : Int32 → Int32 → Mem → Option (Int32 × Mem)} {hw : Nat} (hwk : ∀ {t d : Int32} {M : Mem} {Rs : Int32 × Mem}, wk t d M = some Rs → gMet l yX6_wake cX6_wake 5 (some .int) hw D (xty cI cT cS) 241 (xE cI cT cS) ad [.ref (ad 0), .int t, .int d] M (qI D 241 (xE cI cT cS) ad Rs)) (C : gC p s m args c RX6 cX6_askAndAdd 7 D (xty cI cT cS) 241 (xE cI cT cS) ad) (hr : meth.sig.returnType = (some .int)) (hq : meth.locks = false) {Rs : Int32 × Mem} {x1 : Int32} {x2 : Int32} {x3 : Int32} {x4 : Int32} {x5 : Int32} (w : gWd D 241 (xE cI cT cS) ad M s H locs) (hl : lv_has ls 7 [(0, .ref (ad 0)), (1, .int x1), (2, .int x2), (3, .int x3), (4, .int x4), (5, .int x5)]) (hf : f_X6_askAndAdd_0 wk x1 x2 x3 x4 x5 M = some Rs) : W p l e (rmH (hw + 3)) s m args below meth c H locs 0 0 (MQ below (qI D 241 (xE cI cT cS) ad Rs) args s 0 0 (gA 241 ad)) (F0 m 0 ls []) := by
  unfold f_X6_askAndAdd_0 at hf
  have hx := C.1.1
  have hb := C.1.2.1
  have hi := C.2.2.2.1
  refine lv_aload_n hx hb dX6_askAndAdd_0 rfl (lv_at hl 0 rfl) ?_
  refine lv_iload_n hx hb dX6_askAndAdd_1 rfl (lv_at hl 3 rfl) ?_
  refine lv_iload hx hb dX6_askAndAdd_2 (lv_at hl 4 rfl) ?_
  refine lv_iload hx hb dX6_askAndAdd_4 (lv_at hl 5 rfl) ?_
  obtain ⟨⟨v3, M1⟩, e2, hf⟩ := bindS hf
  refine g_backI w (g_runV (rest := []) C w (c_X6_ask hwk hi  e2) ob_X6 rfl gv_X6_238 md_X6_ask rfl (by omega) (by decide) hl.1 rfl (Nat.le_of_ble_eq_true rfl) dX6_askAndAdd_6) (fun H locs w => ?_)
  refine lv_istore (lv' := [(6, .int v3), (0, .ref (ad 0)), (1, .int x1), (2, .int x2), (3, .int x3), (4, .int x4), (5, .int x5)]) hx hb dX6_askAndAdd_9 hl (by decide) rfl (fun ls hl => ?_)
  refine lv_iload hx hb dX6_askAndAdd_11 (lv_at hl 0 rfl) ?_
  refine lv_if_ne (tgt := 44) hx hb dX6_askAndAdd_13 (by decide) (fun c4 => ?_) (fun c4 => ?_)
  · replace hf := (if_neg c4).symm.trans hf
    refine lv_iload hx hb dX6_askAndAdd_44 (lv_at hl 0 rfl) ?_
    exact g_iret C w hr hq hf dX6_askAndAdd_46
  · replace hf := (if_pos c4).symm.trans hf
    refine lv_aload_n hx hb dX6_askAndAdd_16 rfl (lv_at hl 1 rfl) ?_
    refine lv_iload_n hx hb dX6_askAndAdd_17 rfl (lv_at hl 2 rfl) ?_
    refine lv_iload_n hx hb dX6_askAndAdd_18 rfl (lv_at hl 3 rfl) ?_
    refine lv_aload_n hx hb dX6_askAndAdd_19 rfl (lv_at hl 1 rfl) ?_
    refine lv_aload_n hx hb dX6_askAndAdd_20 rfl (lv_at hl 1 rfl) ?_
    refine gt_X6_117 C w dX6_askAndAdd_21 ?_
    refine lv_iload_n hx hb dX6_askAndAdd_24 rfl (lv_at hl 2 rfl) ?_
    obtain ⟨⟨k7, M5⟩, e6, hf⟩ := bindS hf
    refine g_backR w (g_runV (rest := [.int x2, .int x1, .ref (ad 0)]) C w (c_X6_placeOf hi  e6) ob_X6 rfl gv_X6_146 md_X6_placeOf rfl (by omega) (by decide) hl.1 rfl (Nat.le_of_ble_eq_true rfl) dX6_askAndAdd_25) (fun H locs w => ?_)
    obtain ⟨u8, e9, hf⟩ := bindS hf
    refine lv_iload_n hx hb dX6_askAndAdd_28 rfl (lv_at hl 2 rfl) ?_
    refine lv_iload_n hx hb dX6_askAndAdd_29 rfl (lv_at hl 3 rfl) ?_
    obtain ⟨⟨v12, M10⟩, e11, hf⟩ := bindS hf
    refine g_backI w (g_runV (rest := [.int x2, .int x1, .ref (ad 0)]) C w (c_X1_numberOf hi (xPb_ok e9) e11) (ob_X1 (xPb_ok e9)) rfl gv_X6_160 md_X1_numberOf rfl (by omega) (by decide) hl.1 rfl (Nat.le_of_ble_eq_true rfl) dX6_askAndAdd_30) (fun H locs w => ?_)
    refine lv_aload_n hx hb dX6_askAndAdd_33 rfl (lv_at hl 1 rfl) ?_
    refine gt_X6_123 C w dX6_askAndAdd_34 ?_
    refine lv_iadd hx hb dX6_askAndAdd_37 ?_
    obtain ⟨⟨v15, M13⟩, e14, hf⟩ := bindS hf
    refine g_backI w (g_runV (rest := []) C w (c_X6_write hi  e14) ob_X6 rfl gv_X6_248 md_X6_write rfl (by omega) (by decide) hl.1 rfl (Nat.le_of_ble_eq_true rfl) dX6_askAndAdd_38) (fun H locs w => ?_)
    refine lv_goto (tgt := 46) hx hb dX6_askAndAdd_41 (by decide) ?_
    exact g_iret C w hr hq hf dX6_askAndAdd_46
abbrev f_X6_askAndAdd (wk : Int32 → Int32 → Mem → Option (Int32 × Mem)) (x1 : Int32) (x2 : Int32) (x3 : Int32) (x4 : Int32) (x5 : Int32) (M : Mem) : Option (Int32 × Mem) := f_X6_askAndAdd_0 wk x1 x2 x3 x4 x5 M
theorem c_X6_askAndAdd {wk : Int32 → Int32 → Mem → Option (Int32 × Mem)} {hw : Nat} (hwk : ∀ {t d : Int32} {M : Mem} {Rs : Int32 × Mem}, wk t d M = some Rs → gMet l yX6_wake cX6_wake 5 (some .int) hw D (xty cI cT cS) 241 (xE cI cT cS) ad [.ref (ad 0), .int t, .int d] M (qI D 241 (xE cI cT cS) ad Rs)) (hi : gInj 241 ad) {x1 : Int32} {x2 : Int32} {x3 : Int32} {x4 : Int32} {x5 : Int32} {Rs : Int32 × Mem} (hf : f_X6_askAndAdd wk x1 x2 x3 x4 x5 M = some Rs) : gMet l yX6_askAndAdd cX6_askAndAdd 7 (some .int) (hw + 3) D (xty cI cT cS) 241 (xE cI cT cS) ad [.ref (ad 0), .int x1, .int x2, .int x3, .int x4, .int x5] M (qI D 241 (xE cI cT cS) ad Rs) := gMet_of (by decide) hi (xE_loc cI cT cS) (Nat.le_of_ble_eq_true rfl) (fun p e s m args below meth c ls C hr hq w hl => w_X6_askAndAdd_0 hwk C hr hq  w hl hf)
def f_X6_doLine_46 (wk : Int32 → Int32 → Mem → Option (Int32 × Mem)) (x1 : Int32) (x2 : Int32) (x3 : Int32) (k4 : Nat) (x5 : Int32) (x6 : Int32) (s1 : Int32) (M : Mem) : Option (Int32 × Mem) :=
  (f_X6_takeSteps s1 M).bind fun (v3, M1) =>
  if v3 = 0 then (some ((17 : Int32), M1)) else ((ldI M1 (k4 + 9) 8 x2).bind fun v5 =>
  if v5 = 0 then ((f_X6_write x1 x5 x6 M1).bind fun (v10, M8) =>
  some (v10, M8)) else if v5 = 1 then ((ldI M1 (k4 + 12) 8 x2).bind fun v12 =>
  (f_X6_askAndAdd wk x1 x5 x6 v12 (x3 + (1 : Int32)) M1).bind fun (v16, M14) =>
  some (v16, M14)) else if v5 = 2 then ((f_X6_makeThing wk x5 (x3 + (1 : Int32)) M1).bind fun (v20, M18) =>
  some (v20, M18)) else if v5 = 3 then (some (((10 : Int32) + x5), M1)) else if v5 = 4 then (some ((0 : Int32), M1)) else if v5 = 5 then ((f_X0_addMessage x5 M1).bind fun (v26, M24) =>
  some ((0 : Int32), M24)) else if v5 = 6 then ((f_X6_makeThing wk x6 (x3 + (1 : Int32)) M1).bind fun (v30, M28) =>
  (f_X6_write x1 x5 v30 M28).bind fun (v33, M31) =>
  some (v33, M31)) else (some ((0 : Int32), M1)))
def f_X6_doLine_0 (wk : Int32 → Int32 → Mem → Option (Int32 × Mem)) (x1 : Int32) (x2 : Int32) (x3 : Int32) (M : Mem) : Option (Int32 × Mem) :=
  (ixQ 16 x1).bind fun t1 =>
  (ldI M ((33 + 13 * t1) + 10) 8 x2).bind fun v3 =>
  (ldI M ((33 + 13 * t1) + 11) 8 x2).bind fun v5 =>
  (ldI M ((33 + 13 * t1) + 9) 8 x2).bind fun v7 =>
  if v7 = (4 : Int32) then (f_X6_doLine_46 wk x1 x2 x3 (33 + 13 * t1) v3 v5 ((1 : Int32) + v3) M) else (f_X6_doLine_46 wk x1 x2 x3 (33 + 13 * t1) v3 v5 (1 : Int32) M)
set_option maxRecDepth 100000 in
set_option maxHeartbeats 4000000 in
theorem w_X6_doLine_46 {wk : Int32 → Int32 → Mem → Option (Int32 × Mem)} {hw : Nat} (hwk : ∀ {t d : Int32} {M : Mem} {Rs : Int32 × Mem}, wk t d M = some Rs → gMet l yX6_wake cX6_wake 5 (some .int) hw D (xty cI cT cS) 241 (xE cI cT cS) ad [.ref (ad 0), .int t, .int d] M (qI D 241 (xE cI cT cS) ad Rs)) (C : gC p s m args c RX6 cX6_doLine 7 D (xty cI cT cS) 241 (xE cI cT cS) ad) (hr : meth.sig.returnType = (some .int)) (hq : meth.locks = false) {Rs : Int32 × Mem} {x1 : Int32} {x2 : Int32} {x3 : Int32} {k4 : Nat} {x5 : Int32} {x6 : Int32} {s1 : Int32} (h4 : xT k4) (w : gWd D 241 (xE cI cT cS) ad M s H locs) (hl : lv_has ls 7 [(0, .ref (ad 0)), (1, .int x1), (2, .int x2), (3, .int x3), (4, .ref (ad k4)), (5, .int x5), (6, .int x6)]) (hf : f_X6_doLine_46 wk x1 x2 x3 k4 x5 x6 s1 M = some Rs) : W p l e (rmH (hw + 4)) s m args below meth c H locs 0 0 (MQ below (qI D 241 (xE cI cT cS) ad Rs) args s 0 0 (gA 241 ad)) (F0 m 46 ls [.int s1, .ref (ad 0)]) := by
  unfold f_X6_doLine_46 at hf
  have hx := C.1.1
  have hb := C.1.2.1
  have hi := C.2.2.2.1
  obtain ⟨⟨v3, M1⟩, e2, hf⟩ := bindS hf
  refine g_backI w (g_runV (rest := []) C w (c_X6_takeSteps hi  e2) ob_X6 rfl gv_X6_279 md_X6_takeSteps rfl (by omega) (by decide) hl.1 rfl (Nat.le_of_ble_eq_true rfl) dX6_doLine_46) (fun H locs w => ?_)
  refine lv_if_ne (tgt := 55) hx hb dX6_doLine_49 (by decide) (fun c4 => ?_) (fun c4 => ?_)
  · replace hf := (if_neg c4).symm.trans hf
    refine lv_aload hx hb dX6_doLine_55 (lv_at hl 4 rfl) ?_
    refine gt_X6_276 h4 C w dX6_doLine_57 ?_
    refine lv_iload_n hx hb dX6_doLine_60 rfl (lv_at hl 2 rfl) ?_
    obtain ⟨v5, e6, hf⟩ := bindS hf
    refine g_iald C w (xT_a9 h4) e6 dX6_doLine_61 ?_
    by_cases c7 : v5 = 0
    · replace hf := (if_pos c7).symm.trans hf
      refine lv_tableIn (tgt := 104) hx hb dX6_doLine_62 (by rw [c7]; decide) (by rw [c7]; decide) (by rw [c7]; rfl) (by decide) ?_
      refine lv_aload_n hx hb dX6_doLine_104 rfl (lv_at hl 0 rfl) ?_
      refine lv_iload_n hx hb dX6_doLine_105 rfl (lv_at hl 1 rfl) ?_
      refine lv_iload hx hb dX6_doLine_106 (lv_at hl 5 rfl) ?_
      refine lv_iload hx hb dX6_doLine_108 (lv_at hl 6 rfl) ?_
      obtain ⟨⟨v10, M8⟩, e9, hf⟩ := bindS hf
      refine g_backI w (g_runV (rest := []) C w (c_X6_write hi  e9) ob_X6 rfl gv_X6_248 md_X6_write rfl (by omega) (by decide) hl.1 rfl (Nat.le_of_ble_eq_true rfl) dX6_doLine_110) (fun H locs w => ?_)
      exact g_iret C w hr hq hf dX6_doLine_113
    · replace hf := (if_neg c7).symm.trans hf
      by_cases c11 : v5 = 1
      · replace hf := (if_pos c11).symm.trans hf
        refine lv_tableIn (tgt := 114) hx hb dX6_doLine_62 (by rw [c11]; decide) (by rw [c11]; decide) (by rw [c11]; rfl) (by decide) ?_
        refine lv_aload_n hx hb dX6_doLine_114 rfl (lv_at hl 0 rfl) ?_
        refine lv_iload_n hx hb dX6_doLine_115 rfl (lv_at hl 1 rfl) ?_
        refine lv_iload hx hb dX6_doLine_116 (lv_at hl 5 rfl) ?_
        refine lv_iload hx hb dX6_doLine_118 (lv_at hl 6 rfl) ?_
        refine lv_aload hx hb dX6_doLine_120 (lv_at hl 4 rfl) ?_
        refine gt_X6_282 h4 C w dX6_doLine_122 ?_
        refine lv_iload_n hx hb dX6_doLine_125 rfl (lv_at hl 2 rfl) ?_
        obtain ⟨v12, e13, hf⟩ := bindS hf
        refine g_iald C w (xT_a12 h4) e13 dX6_doLine_126 ?_
        refine lv_iload_n hx hb dX6_doLine_127 rfl (lv_at hl 3 rfl) ?_
        refine lv_iconst (v := 1) hx hb dX6_doLine_128 (by decide) ?_
        refine lv_iadd hx hb dX6_doLine_129 ?_
        obtain ⟨⟨v16, M14⟩, e15, hf⟩ := bindS hf
        refine g_backI w (g_runV (rest := []) C w (c_X6_askAndAdd hwk hi  e15) ob_X6 rfl gv_X6_285 md_X6_askAndAdd rfl (by omega) (by decide) hl.1 rfl (Nat.le_of_ble_eq_true rfl) dX6_doLine_130) (fun H locs w => ?_)
        exact g_iret C w hr hq hf dX6_doLine_133
      · replace hf := (if_neg c11).symm.trans hf
        by_cases c17 : v5 = 2
        · replace hf := (if_pos c17).symm.trans hf
          refine lv_tableIn (tgt := 134) hx hb dX6_doLine_62 (by rw [c17]; decide) (by rw [c17]; decide) (by rw [c17]; rfl) (by decide) ?_
          refine lv_aload_n hx hb dX6_doLine_134 rfl (lv_at hl 0 rfl) ?_
          refine lv_iload hx hb dX6_doLine_135 (lv_at hl 5 rfl) ?_
          refine lv_iload_n hx hb dX6_doLine_137 rfl (lv_at hl 3 rfl) ?_
          refine lv_iconst (v := 1) hx hb dX6_doLine_138 (by decide) ?_
          refine lv_iadd hx hb dX6_doLine_139 ?_
          obtain ⟨⟨v20, M18⟩, e19, hf⟩ := bindS hf
          refine g_backI w (g_runV (rest := []) C w (c_X6_makeThing hwk hi  e19) ob_X6 rfl gv_X6_245 md_X6_makeThing rfl (by omega) (by decide) hl.1 rfl (Nat.le_of_ble_eq_true rfl) dX6_doLine_140) (fun H locs w => ?_)
          exact g_iret C w hr hq hf dX6_doLine_143
        · replace hf := (if_neg c17).symm.trans hf
          by_cases c21 : v5 = 3
          · replace hf := (if_pos c21).symm.trans hf
            refine lv_tableIn (tgt := 144) hx hb dX6_doLine_62 (by rw [c21]; decide) (by rw [c21]; decide) (by rw [c21]; rfl) (by decide) ?_
            refine lv_bipush (v := 10) hx hb dX6_doLine_144 (by decide) ?_
            refine lv_iload hx hb dX6_doLine_146 (lv_at hl 5 rfl) ?_
            refine lv_iadd hx hb dX6_doLine_148 ?_
            exact g_iret C w hr hq hf dX6_doLine_149
          · replace hf := (if_neg c21).symm.trans hf
            by_cases c22 : v5 = 4
            · replace hf := (if_pos c22).symm.trans hf
              refine lv_tableIn (tgt := 178) hx hb dX6_doLine_62 (by rw [c22]; decide) (by rw [c22]; decide) (by rw [c22]; rfl) (by decide) ?_
              refine lv_iconst (v := 0) hx hb dX6_doLine_178 (by decide) ?_
              exact g_iret C w hr hq hf dX6_doLine_179
            · replace hf := (if_neg c22).symm.trans hf
              by_cases c23 : v5 = 5
              · replace hf := (if_pos c23).symm.trans hf
                refine lv_tableIn (tgt := 150) hx hb dX6_doLine_62 (by rw [c23]; decide) (by rw [c23]; decide) (by rw [c23]; rfl) (by decide) ?_
                refine lv_aload_n hx hb dX6_doLine_150 rfl (lv_at hl 0 rfl) ?_
                refine gt_X6_38 C w dX6_doLine_151 ?_
                refine lv_iload hx hb dX6_doLine_154 (lv_at hl 5 rfl) ?_
                obtain ⟨⟨v26, M24⟩, e25, hf⟩ := bindS hf
                refine g_backV w (g_runV (rest := []) C w (c_X0_addMessage hi  e25) ob_X0 rfl gv_X6_288 md_X0_addMessage rfl (by omega) (by decide) hl.1 rfl (Nat.le_of_ble_eq_true rfl) dX6_doLine_156) (fun H locs w => ?_)
                refine lv_iconst (v := 0) hx hb dX6_doLine_159 (by decide) ?_
                exact g_iret C w hr hq hf dX6_doLine_160
              · replace hf := (if_neg c23).symm.trans hf
                by_cases c27 : v5 = 6
                · replace hf := (if_pos c27).symm.trans hf
                  refine lv_tableIn (tgt := 161) hx hb dX6_doLine_62 (by rw [c27]; decide) (by rw [c27]; decide) (by rw [c27]; rfl) (by decide) ?_
                  refine lv_aload_n hx hb dX6_doLine_161 rfl (lv_at hl 0 rfl) ?_
                  refine lv_iload_n hx hb dX6_doLine_162 rfl (lv_at hl 1 rfl) ?_
                  refine lv_iload hx hb dX6_doLine_163 (lv_at hl 5 rfl) ?_
                  refine lv_aload_n hx hb dX6_doLine_165 rfl (lv_at hl 0 rfl) ?_
                  refine lv_iload hx hb dX6_doLine_166 (lv_at hl 6 rfl) ?_
                  refine lv_iload_n hx hb dX6_doLine_168 rfl (lv_at hl 3 rfl) ?_
                  refine lv_iconst (v := 1) hx hb dX6_doLine_169 (by decide) ?_
                  refine lv_iadd hx hb dX6_doLine_170 ?_
                  obtain ⟨⟨v30, M28⟩, e29, hf⟩ := bindS hf
                  refine g_backI w (g_runV (rest := [.int x5, .int x1, .ref (ad 0)]) C w (c_X6_makeThing hwk hi  e29) ob_X6 rfl gv_X6_245 md_X6_makeThing rfl (by omega) (by decide) hl.1 rfl (Nat.le_of_ble_eq_true rfl) dX6_doLine_171) (fun H locs w => ?_)
                  obtain ⟨⟨v33, M31⟩, e32, hf⟩ := bindS hf
                  refine g_backI w (g_runV (rest := []) C w (c_X6_write hi  e32) ob_X6 rfl gv_X6_248 md_X6_write rfl (by omega) (by decide) hl.1 rfl (Nat.le_of_ble_eq_true rfl) dX6_doLine_174) (fun H locs w => ?_)
                  exact g_iret C w hr hq hf dX6_doLine_177
                · replace hf := (if_neg c27).symm.trans hf
                  refine lv_tableOut (tgt := 178) hx hb dX6_doLine_62 (by have := lv_neT c7 (show (0 : Int32).toInt = 0 from rfl); have := lv_neT c11 (show (1 : Int32).toInt = 1 from rfl); have := lv_neT c17 (show (2 : Int32).toInt = 2 from rfl); have := lv_neT c21 (show (3 : Int32).toInt = 3 from rfl); have := lv_neT c22 (show (4 : Int32).toInt = 4 from rfl); have := lv_neT c23 (show (5 : Int32).toInt = 5 from rfl); have := lv_neT c27 (show (6 : Int32).toInt = 6 from rfl); omega) (by decide) ?_
                  refine lv_iconst (v := 0) hx hb dX6_doLine_178 (by decide) ?_
                  exact g_iret C w hr hq hf dX6_doLine_179
  · replace hf := (if_pos c4).symm.trans hf
    refine lv_bipush (v := 17) hx hb dX6_doLine_52 (by decide) ?_
    exact g_iret C w hr hq hf dX6_doLine_54
set_option maxRecDepth 100000 in
set_option maxHeartbeats 4000000 in
theorem w_X6_doLine_0 {wk : Int32 → Int32 → Mem → Option (Int32 × Mem)} {hw : Nat} (hwk : ∀ {t d : Int32} {M : Mem} {Rs : Int32 × Mem}, wk t d M = some Rs → gMet l yX6_wake cX6_wake 5 (some .int) hw D (xty cI cT cS) 241 (xE cI cT cS) ad [.ref (ad 0), .int t, .int d] M (qI D 241 (xE cI cT cS) ad Rs)) (C : gC p s m args c RX6 cX6_doLine 7 D (xty cI cT cS) 241 (xE cI cT cS) ad) (hr : meth.sig.returnType = (some .int)) (hq : meth.locks = false) {Rs : Int32 × Mem} {x1 : Int32} {x2 : Int32} {x3 : Int32} (w : gWd D 241 (xE cI cT cS) ad M s H locs) (hl : lv_has ls 7 [(0, .ref (ad 0)), (1, .int x1), (2, .int x2), (3, .int x3)]) (hf : f_X6_doLine_0 wk x1 x2 x3 M = some Rs) : W p l e (rmH (hw + 4)) s m args below meth c H locs 0 0 (MQ below (qI D 241 (xE cI cT cS) ad Rs) args s 0 0 (gA 241 ad)) (F0 m 0 ls []) := by
  unfold f_X6_doLine_0 at hf
  have hx := C.1.1
  have hb := C.1.2.1
  have hi := C.2.2.2.1
  refine lv_aload_n hx hb dX6_doLine_0 rfl (lv_at hl 0 rfl) ?_
  refine gt_X6_11 C w dX6_doLine_1 ?_
  refine lv_iload_n hx hb dX6_doLine_4 rfl (lv_at hl 1 rfl) ?_
  obtain ⟨t1, e2, hf⟩ := bindS hf
  refine g_aald (t0 := 1) C w rf_T rfl e2 dX6_doLine_5 ?_
  refine lv_astore (lv' := [(4, .ref (ad (33 + 13 * t1))), (0, .ref (ad 0)), (1, .int x1), (2, .int x2), (3, .int x3)]) hx hb dX6_doLine_6 hl (by decide) rfl (fun ls hl => ?_)
  refine lv_aload hx hb dX6_doLine_8 (lv_at hl 0 rfl) ?_
  refine gt_X6_270 ⟨t1, ixQ_lt e2, rfl⟩ C w dX6_doLine_10 ?_
  refine lv_iload_n hx hb dX6_doLine_13 rfl (lv_at hl 3 rfl) ?_
  obtain ⟨v3, e4, hf⟩ := bindS hf
  refine g_iald C w (xT_a10 ⟨t1, ixQ_lt e2, rfl⟩) e4 dX6_doLine_14 ?_
  refine lv_istore (lv' := [(5, .int v3), (4, .ref (ad (33 + 13 * t1))), (0, .ref (ad 0)), (1, .int x1), (2, .int x2), (3, .int x3)]) hx hb dX6_doLine_15 hl (by decide) rfl (fun ls hl => ?_)
  refine lv_aload hx hb dX6_doLine_17 (lv_at hl 1 rfl) ?_
  refine gt_X6_273 ⟨t1, ixQ_lt e2, rfl⟩ C w dX6_doLine_19 ?_
  refine lv_iload_n hx hb dX6_doLine_22 rfl (lv_at hl 4 rfl) ?_
  obtain ⟨v5, e6, hf⟩ := bindS hf
  refine g_iald C w (xT_a11 ⟨t1, ixQ_lt e2, rfl⟩) e6 dX6_doLine_23 ?_
  refine lv_istore (lv' := [(6, .int v5), (5, .int v3), (4, .ref (ad (33 + 13 * t1))), (0, .ref (ad 0)), (1, .int x1), (2, .int x2), (3, .int x3)]) hx hb dX6_doLine_24 hl (by decide) rfl (fun ls hl => ?_)
  refine lv_aload_n hx hb dX6_doLine_26 rfl (lv_at hl 3 rfl) ?_
  refine lv_aload hx hb dX6_doLine_27 (lv_at hl 2 rfl) ?_
  refine gt_X6_276 ⟨t1, ixQ_lt e2, rfl⟩ C w dX6_doLine_29 ?_
  refine lv_iload_n hx hb dX6_doLine_32 rfl (lv_at hl 5 rfl) ?_
  obtain ⟨v7, e8, hf⟩ := bindS hf
  refine g_iald C w (xT_a9 ⟨t1, ixQ_lt e2, rfl⟩) e8 dX6_doLine_33 ?_
  refine lv_iconst (v := 4) hx hb dX6_doLine_34 (by decide) ?_
  refine lv_icmp_ne (tgt := 45) hx hb dX6_doLine_35 (by decide) (fun c9 => ?_) (fun c9 => ?_)
  · replace hf := (if_neg c9).symm.trans hf
    refine lv_iconst (v := 1) hx hb dX6_doLine_45 (by decide) ?_
    exact w_X6_doLine_46 hwk C hr hq ⟨t1, ixQ_lt e2, rfl⟩ w (lv_sub hl [3, 4, 5, 6, 2, 1, 0] rfl) hf
  · replace hf := (if_pos c9).symm.trans hf
    refine lv_iconst (v := 1) hx hb dX6_doLine_38 (by decide) ?_
    refine lv_iload hx hb dX6_doLine_39 (lv_at hl 1 rfl) ?_
    refine lv_iadd hx hb dX6_doLine_41 ?_
    refine lv_goto (tgt := 46) hx hb dX6_doLine_42 (by decide) ?_
    exact w_X6_doLine_46 hwk C hr hq ⟨t1, ixQ_lt e2, rfl⟩ w (lv_sub hl [3, 4, 5, 6, 2, 1, 0] rfl) hf
abbrev f_X6_doLine (wk : Int32 → Int32 → Mem → Option (Int32 × Mem)) (x1 : Int32) (x2 : Int32) (x3 : Int32) (M : Mem) : Option (Int32 × Mem) := f_X6_doLine_0 wk x1 x2 x3 M
theorem c_X6_doLine {wk : Int32 → Int32 → Mem → Option (Int32 × Mem)} {hw : Nat} (hwk : ∀ {t d : Int32} {M : Mem} {Rs : Int32 × Mem}, wk t d M = some Rs → gMet l yX6_wake cX6_wake 5 (some .int) hw D (xty cI cT cS) 241 (xE cI cT cS) ad [.ref (ad 0), .int t, .int d] M (qI D 241 (xE cI cT cS) ad Rs)) (hi : gInj 241 ad) {x1 : Int32} {x2 : Int32} {x3 : Int32} {Rs : Int32 × Mem} (hf : f_X6_doLine wk x1 x2 x3 M = some Rs) : gMet l yX6_doLine cX6_doLine 7 (some .int) (hw + 4) D (xty cI cT cS) 241 (xE cI cT cS) ad [.ref (ad 0), .int x1, .int x2, .int x3] M (qI D 241 (xE cI cT cS) ad Rs) := gMet_of (by decide) hi (xE_loc cI cT cS) (Nat.le_of_ble_eq_true rfl) (fun p e s m args below meth c ls C hr hq w hl => w_X6_doLine_0 hwk C hr hq  w hl hf)
def f_X6_doLines_5b (wk : Int32 → Int32 → Mem → Option (Int32 × Mem)) (k5_ : (Int32 → Int32 → Int32 → Int32 → Mem → Option (Int32 × Mem))) (x1 : Int32) (x2 : Int32) (x3 : Int32) (x4 : Int32) (M : Mem) : Option (Int32 × Mem) :=
  if x3 = 0 then ((ixQ 16 x1).bind fun t2 =>
  if (M (33 + 13 * t2) 12) ≤ x4 then (some (x3, M)) else ((f_X6_doLine wk x1 x4 x2 M).bind fun (v7, M5) =>
  k5_ x1 x2 v7 (x4 + 1) M5)) else (some (x3, M))
def f_X6_doLines_5 (wk : Int32 → Int32 → Mem → Option (Int32 × Mem)) : Nat → Int32 → Int32 → Int32 → Int32 → Mem → Option (Int32 × Mem)
  | 0, _, _, _, _, _ => none
  | n + 1, x1, x2, x3, x4, M => f_X6_doLines_5b wk (f_X6_doLines_5 wk n) x1 x2 x3 x4 M
def f_X6_doLines_0 (wk : Int32 → Int32 → Mem → Option (Int32 × Mem)) (x1 : Int32) (x2 : Int32) (M : Mem) : Option (Int32 × Mem) :=
  f_X6_doLines_5 wk FU x1 x2 (0 : Int32) (0 : Int32) M
set_option maxRecDepth 100000 in
set_option maxHeartbeats 4000000 in
theorem w_X6_doLines_5b {wk : Int32 → Int32 → Mem → Option (Int32 × Mem)} {hw : Nat} (hwk : ∀ {t d : Int32} {M : Mem} {Rs : Int32 × Mem}, wk t d M = some Rs → gMet l yX6_wake cX6_wake 5 (some .int) hw D (xty cI cT cS) 241 (xE cI cT cS) ad [.ref (ad 0), .int t, .int d] M (qI D 241 (xE cI cT cS) ad Rs)) (C : gC p s m args c RX6 cX6_doLines 5 D (xty cI cT cS) 241 (xE cI cT cS) ad) (hr : meth.sig.returnType = (some .int)) (hq : meth.locks = false) {k5_ : (Int32 → Int32 → Int32 → Int32 → Mem → Option (Int32 × Mem))} {Rs : Int32 × Mem} (hk5_ : ∀ {x1 : Int32} {x2 : Int32} {x3 : Int32} {x4 : Int32} {M : Mem} {H : Heap} {locs : List Loc} {ls : Array Slot}, gWd D 241 (xE cI cT cS) ad M s H locs → lv_has ls 5 [(0, .ref (ad 0)), (1, .int x1), (2, .int x2), (3, .int x3), (4, .int x4)] → k5_ x1 x2 x3 x4 M = some Rs → W p l e (rmH (hw + 5)) s m args below meth c H locs 0 0 (MQ below (qI D 241 (xE cI cT cS) ad Rs) args s 0 0 (gA 241 ad)) (F0 m 5 ls [])) {x1 : Int32} {x2 : Int32} {x3 : Int32} {x4 : Int32} (w : gWd D 241 (xE cI cT cS) ad M s H locs) (hl : lv_has ls 5 [(0, .ref (ad 0)), (1, .int x1), (2, .int x2), (3, .int x3), (4, .int x4)]) (hf : f_X6_doLines_5b wk k5_ x1 x2 x3 x4 M = some Rs) : W p l e (rmH (hw + 5)) s m args below meth c H locs 0 0 (MQ below (qI D 241 (xE cI cT cS) ad Rs) args s 0 0 (gA 241 ad)) (F0 m 5 ls []) := by
  unfold f_X6_doLines_5b at hf
  have hx := C.1.1
  have hb := C.1.2.1
  have hi := C.2.2.2.1
  refine lv_iload_n hx hb dX6_doLines_5 rfl (lv_at hl 3 rfl) ?_
  refine lv_if_ne (tgt := 38) hx hb dX6_doLines_6 (by decide) (fun c1 => ?_) (fun c1 => ?_)
  · replace hf := (if_neg c1).symm.trans hf
    refine lv_iload_n hx hb dX6_doLines_38 rfl (lv_at hl 3 rfl) ?_
    exact g_iret C w hr hq hf dX6_doLines_39
  · replace hf := (if_pos c1).symm.trans hf
    refine lv_iload hx hb dX6_doLines_9 (lv_at hl 4 rfl) ?_
    refine lv_aload_n hx hb dX6_doLines_11 rfl (lv_at hl 0 rfl) ?_
    refine gt_X6_11 C w dX6_doLines_12 ?_
    refine lv_iload_n hx hb dX6_doLines_15 rfl (lv_at hl 1 rfl) ?_
    obtain ⟨t2, e3, hf⟩ := bindS hf
    refine g_aald (t0 := 1) C w rf_T rfl e3 dX6_doLines_16 ?_
    refine gt_X6_106 ⟨t2, ixQ_lt e3, rfl⟩ C w dX6_doLines_17 ?_
    refine lv_icmp_ge (tgt := 38) hx hb dX6_doLines_20 (by decide) (fun c4 => ?_) (fun c4 => ?_)
    · replace hf := (if_pos c4).symm.trans hf
      refine lv_iload_n hx hb dX6_doLines_38 rfl (lv_at hl 3 rfl) ?_
      exact g_iret C w hr hq hf dX6_doLines_39
    · replace hf := (if_neg c4).symm.trans hf
      refine lv_aload_n hx hb dX6_doLines_23 rfl (lv_at hl 0 rfl) ?_
      refine lv_iload_n hx hb dX6_doLines_24 rfl (lv_at hl 1 rfl) ?_
      refine lv_iload hx hb dX6_doLines_25 (lv_at hl 4 rfl) ?_
      refine lv_iload_n hx hb dX6_doLines_27 rfl (lv_at hl 2 rfl) ?_
      obtain ⟨⟨v7, M5⟩, e6, hf⟩ := bindS hf
      refine g_backI w (g_runV (rest := []) C w (c_X6_doLine hwk hi  e6) ob_X6 rfl gv_X6_267 md_X6_doLine rfl (by omega) (by decide) hl.1 rfl (Nat.le_of_ble_eq_true rfl) dX6_doLines_28) (fun H locs w => ?_)
      refine lv_istore_n (lv' := [(3, .int v7), (0, .ref (ad 0)), (1, .int x1), (2, .int x2), (4, .int x4)]) hx hb dX6_doLines_31 rfl hl (by decide) rfl (fun ls hl => ?_)
      refine lv_iinc (v := (x4 + 1)) (lv' := [(4, .int (x4 + 1)), (3, .int v7), (0, .ref (ad 0)), (1, .int x1), (2, .int x2)]) hx hb dX6_doLines_32 hl (k := 4) rfl rfl (by decide) rfl (fun ls hl => ?_)
      refine lv_goto (tgt := 5) hx hb dX6_doLines_35 (by decide) ?_
      exact hk5_ w (lv_sub hl [2, 3, 4, 1, 0] rfl) hf
theorem w_X6_doLines_5 {wk : Int32 → Int32 → Mem → Option (Int32 × Mem)} {hw : Nat} (hwk : ∀ {t d : Int32} {M : Mem} {Rs : Int32 × Mem}, wk t d M = some Rs → gMet l yX6_wake cX6_wake 5 (some .int) hw D (xty cI cT cS) 241 (xE cI cT cS) ad [.ref (ad 0), .int t, .int d] M (qI D 241 (xE cI cT cS) ad Rs)) (C : gC p s m args c RX6 cX6_doLines 5 D (xty cI cT cS) 241 (xE cI cT cS) ad) (hr : meth.sig.returnType = (some .int)) (hq : meth.locks = false) {Rs : Int32 × Mem} : ∀ (n : Nat) {x1 : Int32} {x2 : Int32} {x3 : Int32} {x4 : Int32} {M : Mem} {H : Heap} {locs : List Loc} {ls : Array Slot}, gWd D 241 (xE cI cT cS) ad M s H locs → lv_has ls 5 [(0, .ref (ad 0)), (1, .int x1), (2, .int x2), (3, .int x3), (4, .int x4)] → f_X6_doLines_5 wk n x1 x2 x3 x4 M = some Rs → W p l e (rmH (hw + 5)) s m args below meth c H locs 0 0 (MQ below (qI D 241 (xE cI cT cS) ad Rs) args s 0 0 (gA 241 ad)) (F0 m 5 ls []) := by
  intro n
  induction n with
  | zero =>
    intro x1 x2 x3 x4 M H locs ls w hl hf
    cases hf
  | succ n ih =>
    intro x1 x2 x3 x4 M H locs ls w hl hf
    exact w_X6_doLines_5b hwk C hr hq ih  w hl hf
set_option maxRecDepth 100000 in
set_option maxHeartbeats 4000000 in
theorem w_X6_doLines_0 {wk : Int32 → Int32 → Mem → Option (Int32 × Mem)} {hw : Nat} (hwk : ∀ {t d : Int32} {M : Mem} {Rs : Int32 × Mem}, wk t d M = some Rs → gMet l yX6_wake cX6_wake 5 (some .int) hw D (xty cI cT cS) 241 (xE cI cT cS) ad [.ref (ad 0), .int t, .int d] M (qI D 241 (xE cI cT cS) ad Rs)) (C : gC p s m args c RX6 cX6_doLines 5 D (xty cI cT cS) 241 (xE cI cT cS) ad) (hr : meth.sig.returnType = (some .int)) (hq : meth.locks = false) {Rs : Int32 × Mem} {x1 : Int32} {x2 : Int32} (w : gWd D 241 (xE cI cT cS) ad M s H locs) (hl : lv_has ls 5 [(0, .ref (ad 0)), (1, .int x1), (2, .int x2)]) (hf : f_X6_doLines_0 wk x1 x2 M = some Rs) : W p l e (rmH (hw + 5)) s m args below meth c H locs 0 0 (MQ below (qI D 241 (xE cI cT cS) ad Rs) args s 0 0 (gA 241 ad)) (F0 m 0 ls []) := by
  unfold f_X6_doLines_0 at hf
  have hx := C.1.1
  have hb := C.1.2.1
  have hi := C.2.2.2.1
  refine lv_iconst (v := 0) hx hb dX6_doLines_0 (by decide) ?_
  refine lv_istore_n (lv' := [(3, .int (0 : Int32)), (0, .ref (ad 0)), (1, .int x1), (2, .int x2)]) hx hb dX6_doLines_1 rfl hl (by decide) rfl (fun ls hl => ?_)
  refine lv_iconst (v := 0) hx hb dX6_doLines_2 (by decide) ?_
  refine lv_istore (lv' := [(4, .int (0 : Int32)), (3, .int (0 : Int32)), (0, .ref (ad 0)), (1, .int x1), (2, .int x2)]) hx hb dX6_doLines_3 hl (by decide) rfl (fun ls hl => ?_)
  exact w_X6_doLines_5 hwk C hr hq FU w (lv_sub hl [2, 3, 4, 1, 0] rfl) hf
abbrev f_X6_doLines (wk : Int32 → Int32 → Mem → Option (Int32 × Mem)) (x1 : Int32) (x2 : Int32) (M : Mem) : Option (Int32 × Mem) := f_X6_doLines_0 wk x1 x2 M
theorem c_X6_doLines {wk : Int32 → Int32 → Mem → Option (Int32 × Mem)} {hw : Nat} (hwk : ∀ {t d : Int32} {M : Mem} {Rs : Int32 × Mem}, wk t d M = some Rs → gMet l yX6_wake cX6_wake 5 (some .int) hw D (xty cI cT cS) 241 (xE cI cT cS) ad [.ref (ad 0), .int t, .int d] M (qI D 241 (xE cI cT cS) ad Rs)) (hi : gInj 241 ad) {x1 : Int32} {x2 : Int32} {Rs : Int32 × Mem} (hf : f_X6_doLines wk x1 x2 M = some Rs) : gMet l yX6_doLines cX6_doLines 5 (some .int) (hw + 5) D (xty cI cT cS) 241 (xE cI cT cS) ad [.ref (ad 0), .int x1, .int x2] M (qI D 241 (xE cI cT cS) ad Rs) := gMet_of (by decide) hi (xE_loc cI cT cS) (Nat.le_of_ble_eq_true rfl) (fun p e s m args below meth c ls C hr hq w hl => w_X6_doLines_0 hwk C hr hq  w hl hf)
def f_X6_wakeAbove_44b (wk : Int32 → Int32 → Mem → Option (Int32 × Mem)) (k44_ : (Int32 → Nat → Int32 → Int32 → Mem → Option (Int32 × Mem))) (x2 : Int32) (k3 : Nat) (x4 : Int32) (x5 : Int32) (M : Mem) : Option (Int32 × Mem) :=
  if x4 = 0 then (if (M (k3 + 5) 1) ≤ x5 then (some (x4, M)) else ((ldI M ((k3 + 5) + 1) 16 x5).bind fun v3 =>
  (wk v3 (x2 + (1 : Int32)) M).bind fun (v7, M5) =>
  k44_ x2 k3 v7 (x5 + 1) M5)) else (some (x4, M))
def f_X6_wakeAbove_44 (wk : Int32 → Int32 → Mem → Option (Int32 × Mem)) : Nat → Int32 → Nat → Int32 → Int32 → Mem → Option (Int32 × Mem)
  | 0, _, _, _, _, _ => none
  | n + 1, x2, k3, x4, x5, M => f_X6_wakeAbove_44b wk (f_X6_wakeAbove_44 wk n) x2 k3 x4 x5 M
def f_X6_wakeAbove_39 (wk : Int32 → Int32 → Mem → Option (Int32 × Mem)) (x2 : Int32) (k3 : Nat) (s0 : Int32) (M : Mem) : Option (Int32 × Mem) :=
  f_X6_wakeAbove_44 wk FU x2 k3 s0 (0 : Int32) M
def f_X6_wakeAbove_0 (wk : Int32 → Int32 → Mem → Option (Int32 × Mem)) (x1 : Int32) (x2 : Int32) (M : Mem) : Option (Int32 × Mem) :=
  (ixQ 16 x1).bind fun t1 =>
  if (M (33 + 13 * t1) 0) = 0 then (if (M (33 + 13 * t1) 1) = (-1 : Int32) then (f_X6_wakeAbove_39 wk x2 (33 + 13 * t1) (0 : Int32) M) else ((wk (M (33 + 13 * t1) 1) (x2 + (1 : Int32)) M).bind fun (v7, M5) =>
  f_X6_wakeAbove_39 wk x2 (33 + 13 * t1) v7 M5)) else (some ((0 : Int32), M))
set_option maxRecDepth 100000 in
set_option maxHeartbeats 4000000 in
theorem w_X6_wakeAbove_44b {wk : Int32 → Int32 → Mem → Option (Int32 × Mem)} {hw : Nat} (hwk : ∀ {t d : Int32} {M : Mem} {Rs : Int32 × Mem}, wk t d M = some Rs → gMet l yX6_wake cX6_wake 5 (some .int) hw D (xty cI cT cS) 241 (xE cI cT cS) ad [.ref (ad 0), .int t, .int d] M (qI D 241 (xE cI cT cS) ad Rs)) (C : gC p s m args c RX6 cX6_wakeAbove 6 D (xty cI cT cS) 241 (xE cI cT cS) ad) (hr : meth.sig.returnType = (some .int)) (hq : meth.locks = false) {k44_ : (Int32 → Nat → Int32 → Int32 → Mem → Option (Int32 × Mem))} {Rs : Int32 × Mem} (hk44_ : ∀ {x2 : Int32} {k3 : Nat} {x4 : Int32} {x5 : Int32} {M : Mem} {H : Heap} {locs : List Loc} {ls : Array Slot} (h3 : xT k3), gWd D 241 (xE cI cT cS) ad M s H locs → lv_has ls 6 [(0, .ref (ad 0)), (2, .int x2), (3, .ref (ad k3)), (4, .int x4), (5, .int x5)] → k44_ x2 k3 x4 x5 M = some Rs → W p l e (rmH (hw + 1)) s m args below meth c H locs 0 0 (MQ below (qI D 241 (xE cI cT cS) ad Rs) args s 0 0 (gA 241 ad)) (F0 m 44 ls [])) {x2 : Int32} {k3 : Nat} {x4 : Int32} {x5 : Int32} (h3 : xT k3) (w : gWd D 241 (xE cI cT cS) ad M s H locs) (hl : lv_has ls 6 [(0, .ref (ad 0)), (2, .int x2), (3, .ref (ad k3)), (4, .int x4), (5, .int x5)]) (hf : f_X6_wakeAbove_44b wk k44_ x2 k3 x4 x5 M = some Rs) : W p l e (rmH (hw + 1)) s m args below meth c H locs 0 0 (MQ below (qI D 241 (xE cI cT cS) ad Rs) args s 0 0 (gA 241 ad)) (F0 m 44 ls []) := by
  unfold f_X6_wakeAbove_44b at hf
  have hx := C.1.1
  have hb := C.1.2.1
  have hi := C.2.2.2.1
  refine lv_iload hx hb dX6_wakeAbove_44 (lv_at hl 3 rfl) ?_
  refine lv_if_ne (tgt := 86) hx hb dX6_wakeAbove_46 (by decide) (fun c1 => ?_) (fun c1 => ?_)
  · replace hf := (if_neg c1).symm.trans hf
    refine lv_iload hx hb dX6_wakeAbove_86 (lv_at hl 3 rfl) ?_
    exact g_iret C w hr hq hf dX6_wakeAbove_88
  · replace hf := (if_pos c1).symm.trans hf
    refine lv_iload hx hb dX6_wakeAbove_49 (lv_at hl 4 rfl) ?_
    refine lv_aload_n hx hb dX6_wakeAbove_51 rfl (lv_at hl 2 rfl) ?_
    refine gt_X6_222 h3 C w dX6_wakeAbove_52 ?_
    refine gt_X6_83 (xT_r5 h3) C w dX6_wakeAbove_55 ?_
    refine lv_icmp_ge (tgt := 86) hx hb dX6_wakeAbove_58 (by decide) (fun c2 => ?_) (fun c2 => ?_)
    · replace hf := (if_pos c2).symm.trans hf
      refine lv_iload hx hb dX6_wakeAbove_86 (lv_at hl 3 rfl) ?_
      exact g_iret C w hr hq hf dX6_wakeAbove_88
    · replace hf := (if_neg c2).symm.trans hf
      refine lv_aload_n hx hb dX6_wakeAbove_61 rfl (lv_at hl 0 rfl) ?_
      refine lv_aload_n hx hb dX6_wakeAbove_62 rfl (lv_at hl 2 rfl) ?_
      refine gt_X6_222 h3 C w dX6_wakeAbove_63 ?_
      refine gt_X6_225 (xT_r5 h3) C w dX6_wakeAbove_66 ?_
      refine lv_iload hx hb dX6_wakeAbove_69 (lv_at hl 4 rfl) ?_
      obtain ⟨v3, e4, hf⟩ := bindS hf
      refine g_iald C w (xR_a (xT_r5 h3)) e4 dX6_wakeAbove_71 ?_
      refine lv_iload_n hx hb dX6_wakeAbove_72 rfl (lv_at hl 1 rfl) ?_
      refine lv_iconst (v := 1) hx hb dX6_wakeAbove_73 (by decide) ?_
      refine lv_iadd hx hb dX6_wakeAbove_74 ?_
      obtain ⟨⟨v7, M5⟩, e6, hf⟩ := bindS hf
      refine g_backI w (g_runV (rest := []) C w (hwk e6) ob_X6 rfl gv_X6_251 md_X6_wake rfl (by omega) (by decide) hl.1 rfl (Nat.le_of_ble_eq_true rfl) dX6_wakeAbove_75) (fun H locs w => ?_)
      refine lv_istore (lv' := [(4, .int v7), (0, .ref (ad 0)), (2, .int x2), (3, .ref (ad k3)), (5, .int x5)]) hx hb dX6_wakeAbove_78 hl (by decide) rfl (fun ls hl => ?_)
      refine lv_iinc (v := (x5 + 1)) (lv' := [(5, .int (x5 + 1)), (4, .int v7), (0, .ref (ad 0)), (2, .int x2), (3, .ref (ad k3))]) hx hb dX6_wakeAbove_80 hl (k := 4) rfl rfl (by decide) rfl (fun ls hl => ?_)
      refine lv_goto (tgt := 44) hx hb dX6_wakeAbove_83 (by decide) ?_
      exact hk44_ h3 w (lv_sub hl [2, 3, 4, 1, 0] rfl) hf
theorem w_X6_wakeAbove_44 {wk : Int32 → Int32 → Mem → Option (Int32 × Mem)} {hw : Nat} (hwk : ∀ {t d : Int32} {M : Mem} {Rs : Int32 × Mem}, wk t d M = some Rs → gMet l yX6_wake cX6_wake 5 (some .int) hw D (xty cI cT cS) 241 (xE cI cT cS) ad [.ref (ad 0), .int t, .int d] M (qI D 241 (xE cI cT cS) ad Rs)) (C : gC p s m args c RX6 cX6_wakeAbove 6 D (xty cI cT cS) 241 (xE cI cT cS) ad) (hr : meth.sig.returnType = (some .int)) (hq : meth.locks = false) {Rs : Int32 × Mem} : ∀ (n : Nat) {x2 : Int32} {k3 : Nat} {x4 : Int32} {x5 : Int32} {M : Mem} {H : Heap} {locs : List Loc} {ls : Array Slot} (h3 : xT k3), gWd D 241 (xE cI cT cS) ad M s H locs → lv_has ls 6 [(0, .ref (ad 0)), (2, .int x2), (3, .ref (ad k3)), (4, .int x4), (5, .int x5)] → f_X6_wakeAbove_44 wk n x2 k3 x4 x5 M = some Rs → W p l e (rmH (hw + 1)) s m args below meth c H locs 0 0 (MQ below (qI D 241 (xE cI cT cS) ad Rs) args s 0 0 (gA 241 ad)) (F0 m 44 ls []) := by
  intro n
  induction n with
  | zero =>
    intro x2 k3 x4 x5 M H locs ls h3 w hl hf
    cases hf
  | succ n ih =>
    intro x2 k3 x4 x5 M H locs ls h3 w hl hf
    exact w_X6_wakeAbove_44b hwk C hr hq ih h3 w hl hf
set_option maxRecDepth 100000 in
set_option maxHeartbeats 4000000 in
theorem w_X6_wakeAbove_39 {wk : Int32 → Int32 → Mem → Option (Int32 × Mem)} {hw : Nat} (hwk : ∀ {t d : Int32} {M : Mem} {Rs : Int32 × Mem}, wk t d M = some Rs → gMet l yX6_wake cX6_wake 5 (some .int) hw D (xty cI cT cS) 241 (xE cI cT cS) ad [.ref (ad 0), .int t, .int d] M (qI D 241 (xE cI cT cS) ad Rs)) (C : gC p s m args c RX6 cX6_wakeAbove 6 D (xty cI cT cS) 241 (xE cI cT cS) ad) (hr : meth.sig.returnType = (some .int)) (hq : meth.locks = false) {Rs : Int32 × Mem} {x2 : Int32} {k3 : Nat} {s0 : Int32} (h3 : xT k3) (w : gWd D 241 (xE cI cT cS) ad M s H locs) (hl : lv_has ls 6 [(0, .ref (ad 0)), (2, .int x2), (3, .ref (ad k3))]) (hf : f_X6_wakeAbove_39 wk x2 k3 s0 M = some Rs) : W p l e (rmH (hw + 1)) s m args below meth c H locs 0 0 (MQ below (qI D 241 (xE cI cT cS) ad Rs) args s 0 0 (gA 241 ad)) (F0 m 39 ls [.int s0]) := by
  unfold f_X6_wakeAbove_39 at hf
  have hx := C.1.1
  have hb := C.1.2.1
  have hi := C.2.2.2.1
  refine lv_istore (lv' := [(4, .int s0), (0, .ref (ad 0)), (2, .int x2), (3, .ref (ad k3))]) hx hb dX6_wakeAbove_39 hl (by decide) rfl (fun ls hl => ?_)
  refine lv_iconst (v := 0) hx hb dX6_wakeAbove_41 (by decide) ?_
  refine lv_istore (lv' := [(5, .int (0 : Int32)), (4, .int s0), (0, .ref (ad 0)), (2, .int x2), (3, .ref (ad k3))]) hx hb dX6_wakeAbove_42 hl (by decide) rfl (fun ls hl => ?_)
  exact w_X6_wakeAbove_44 hwk C hr hq FU h3 w (lv_sub hl [2, 3, 4, 1, 0] rfl) hf
set_option maxRecDepth 100000 in
set_option maxHeartbeats 4000000 in
theorem w_X6_wakeAbove_0 {wk : Int32 → Int32 → Mem → Option (Int32 × Mem)} {hw : Nat} (hwk : ∀ {t d : Int32} {M : Mem} {Rs : Int32 × Mem}, wk t d M = some Rs → gMet l yX6_wake cX6_wake 5 (some .int) hw D (xty cI cT cS) 241 (xE cI cT cS) ad [.ref (ad 0), .int t, .int d] M (qI D 241 (xE cI cT cS) ad Rs)) (C : gC p s m args c RX6 cX6_wakeAbove 6 D (xty cI cT cS) 241 (xE cI cT cS) ad) (hr : meth.sig.returnType = (some .int)) (hq : meth.locks = false) {Rs : Int32 × Mem} {x1 : Int32} {x2 : Int32} (w : gWd D 241 (xE cI cT cS) ad M s H locs) (hl : lv_has ls 6 [(0, .ref (ad 0)), (1, .int x1), (2, .int x2)]) (hf : f_X6_wakeAbove_0 wk x1 x2 M = some Rs) : W p l e (rmH (hw + 1)) s m args below meth c H locs 0 0 (MQ below (qI D 241 (xE cI cT cS) ad Rs) args s 0 0 (gA 241 ad)) (F0 m 0 ls []) := by
  unfold f_X6_wakeAbove_0 at hf
  have hx := C.1.1
  have hb := C.1.2.1
  have hi := C.2.2.2.1
  refine lv_aload_n hx hb dX6_wakeAbove_0 rfl (lv_at hl 0 rfl) ?_
  refine gt_X6_11 C w dX6_wakeAbove_1 ?_
  refine lv_iload_n hx hb dX6_wakeAbove_4 rfl (lv_at hl 1 rfl) ?_
  obtain ⟨t1, e2, hf⟩ := bindS hf
  refine g_aald (t0 := 1) C w rf_T rfl e2 dX6_wakeAbove_5 ?_
  refine lv_astore_n (lv' := [(3, .ref (ad (33 + 13 * t1))), (0, .ref (ad 0)), (1, .int x1), (2, .int x2)]) hx hb dX6_wakeAbove_6 rfl hl (by decide) rfl (fun ls hl => ?_)
  refine lv_aload_n hx hb dX6_wakeAbove_7 rfl (lv_at hl 0 rfl) ?_
  refine gt_X6_71 ⟨t1, ixQ_lt e2, rfl⟩ C w dX6_wakeAbove_8 ?_
  refine lv_if_eq (tgt := 16) hx hb dX6_wakeAbove_11 (by decide) (fun c3 => ?_) (fun c3 => ?_)
  · replace hf := (if_pos c3).symm.trans hf
    refine lv_aload_n hx hb dX6_wakeAbove_16 rfl (lv_at hl 0 rfl) ?_
    refine gt_X6_232 ⟨t1, ixQ_lt e2, rfl⟩ C w dX6_wakeAbove_17 ?_
    refine lv_iconst (v := -1) hx hb dX6_wakeAbove_20 (by decide) ?_
    refine lv_icmp_ne (tgt := 28) hx hb dX6_wakeAbove_21 (by decide) (fun c4 => ?_) (fun c4 => ?_)
    · replace hf := (if_neg c4).symm.trans hf
      refine lv_aload_n hx hb dX6_wakeAbove_28 rfl (lv_at hl 1 rfl) ?_
      refine lv_aload_n hx hb dX6_wakeAbove_29 rfl (lv_at hl 0 rfl) ?_
      refine gt_X6_232 ⟨t1, ixQ_lt e2, rfl⟩ C w dX6_wakeAbove_30 ?_
      refine lv_iload_n hx hb dX6_wakeAbove_33 rfl (lv_at hl 3 rfl) ?_
      refine lv_iconst (v := 1) hx hb dX6_wakeAbove_34 (by decide) ?_
      refine lv_iadd hx hb dX6_wakeAbove_35 ?_
      obtain ⟨⟨v7, M5⟩, e6, hf⟩ := bindS hf
      refine g_backI w (g_runV (rest := []) C w (hwk e6) ob_X6 rfl gv_X6_251 md_X6_wake rfl (by omega) (by decide) hl.1 rfl (Nat.le_of_ble_eq_true rfl) dX6_wakeAbove_36) (fun H locs w => ?_)
      exact w_X6_wakeAbove_39 hwk C hr hq ⟨t1, ixQ_lt e2, rfl⟩ w (lv_sub hl [1, 3, 0] rfl) hf
    · replace hf := (if_pos c4).symm.trans hf
      refine lv_iconst (v := 0) hx hb dX6_wakeAbove_24 (by decide) ?_
      refine lv_goto (tgt := 39) hx hb dX6_wakeAbove_25 (by decide) ?_
      exact w_X6_wakeAbove_39 hwk C hr hq ⟨t1, ixQ_lt e2, rfl⟩ w (lv_sub hl [1, 3, 0] rfl) hf
  · replace hf := (if_neg c3).symm.trans hf
    refine lv_iconst (v := 0) hx hb dX6_wakeAbove_14 (by decide) ?_
    exact g_iret C w hr hq hf dX6_wakeAbove_15
abbrev f_X6_wakeAbove (wk : Int32 → Int32 → Mem → Option (Int32 × Mem)) (x1 : Int32) (x2 : Int32) (M : Mem) : Option (Int32 × Mem) := f_X6_wakeAbove_0 wk x1 x2 M
theorem c_X6_wakeAbove {wk : Int32 → Int32 → Mem → Option (Int32 × Mem)} {hw : Nat} (hwk : ∀ {t d : Int32} {M : Mem} {Rs : Int32 × Mem}, wk t d M = some Rs → gMet l yX6_wake cX6_wake 5 (some .int) hw D (xty cI cT cS) 241 (xE cI cT cS) ad [.ref (ad 0), .int t, .int d] M (qI D 241 (xE cI cT cS) ad Rs)) (hi : gInj 241 ad) {x1 : Int32} {x2 : Int32} {Rs : Int32 × Mem} (hf : f_X6_wakeAbove wk x1 x2 M = some Rs) : gMet l yX6_wakeAbove cX6_wakeAbove 6 (some .int) (hw + 1) D (xty cI cT cS) 241 (xE cI cT cS) ad [.ref (ad 0), .int x1, .int x2] M (qI D 241 (xE cI cT cS) ad Rs) := gMet_of (by decide) hi (xE_loc cI cT cS) (Nat.le_of_ble_eq_true rfl) (fun p e s m args below meth c ls C hr hq w hl => w_X6_wakeAbove_0 hwk C hr hq  w hl hf)
def f_X6_wake_82 (wk : Int32 → Int32 → Mem → Option (Int32 × Mem)) (x1 : Int32) (x4 : Int32) (q0 : Nat) (s1 : Int32) (s2 : Int32) (M : Mem) : Option (Int32 × Mem) :=
  (stI M q0 16 s1 s2).bind fun M1 =>
  (f_X0_addStart x1 (M1 0 8) x4 (M1 6 3) M1).bind fun (v5, M3) =>
  some (x4, M3)
def f_X6_wake_70 (wk : Int32 → Int32 → Mem → Option (Int32 × Mem)) (x1 : Int32) (k3 : Nat) (x4 : Int32) (M : Mem) : Option (Int32 × Mem) :=
  if x4 = 0 then (f_X6_wake_82 wk x1 x4 k3 x1 (2 : Int32) M) else (f_X6_wake_82 wk x1 x4 k3 x1 (3 : Int32) M)
def f_X6_wake_0 (wk : Int32 → Int32 → Mem → Option (Int32 × Mem)) (x1 : Int32) (x2 : Int32) (M : Mem) : Option (Int32 × Mem) :=
  (f_X6_placeOf (M 0 8) x1 M).bind fun (k3, M1) =>
  (ckP (xPb k3)).bind fun u4 =>
  (ldI M1 (k3 + 1) 16 x1).bind fun v6 =>
  if v6 = (2 : Int32) then (some ((0 : Int32), M1)) else ((ldI M1 (k3 + 1) 16 x1).bind fun v9 =>
  if v9 = (1 : Int32) then (some ((0 : Int32), M1)) else ((ldI M1 (k3 + 1) 16 x1).bind fun v12 =>
  if v12 = (3 : Int32) then (some ((18 : Int32), M1)) else (if x2 < (16 : Int32) then ((stI M1 (k3 + 1) 16 x1 (1 : Int32)).bind fun M16 =>
  (f_X6_wakeAbove wk x1 x2 M16).bind fun (v20, M18) =>
  if v20 = 0 then ((f_X6_doLines wk x1 x2 M18).bind fun (v24, M22) =>
  f_X6_wake_70 wk x1 (k3 + 1) v24 M22) else (f_X6_wake_70 wk x1 (k3 + 1) v20 M18)) else (some ((18 : Int32), M1)))))
set_option maxRecDepth 100000 in
set_option maxHeartbeats 4000000 in
theorem w_X6_wake_82 {wk : Int32 → Int32 → Mem → Option (Int32 × Mem)} {hw : Nat} (hwk : ∀ {t d : Int32} {M : Mem} {Rs : Int32 × Mem}, wk t d M = some Rs → gMet l yX6_wake cX6_wake 5 (some .int) hw D (xty cI cT cS) 241 (xE cI cT cS) ad [.ref (ad 0), .int t, .int d] M (qI D 241 (xE cI cT cS) ad Rs)) (C : gC p s m args c RX6 cX6_wake 5 D (xty cI cT cS) 241 (xE cI cT cS) ad) (hr : meth.sig.returnType = (some .int)) (hq : meth.locks = false) {Rs : Int32 × Mem} {x1 : Int32} {x4 : Int32} {q0 : Nat} {s1 : Int32} {s2 : Int32} (g0 : gAr 241 (xE cI cT cS) ad cI q0 16) (w : gWd D 241 (xE cI cT cS) ad M s H locs) (hl : lv_has ls 5 [(0, .ref (ad 0)), (1, .int x1), (4, .int x4)]) (hf : f_X6_wake_82 wk x1 x4 q0 s1 s2 M = some Rs) : W p l e (rmH (hw + 6)) s m args below meth c H locs 0 0 (MQ below (qI D 241 (xE cI cT cS) ad Rs) args s 0 0 (gA 241 ad)) (F0 m 82 ls [.int s2, .int s1, .ref (ad q0)]) := by
  unfold f_X6_wake_82 at hf
  have hx := C.1.1
  have hb := C.1.2.1
  have hi := C.2.2.2.1
  obtain ⟨M1, e2, hf⟩ := bindS hf
  refine g_iast C w g0 e2 dX6_wake_82 (fun H locs w => ?_)
  refine lv_aload_n hx hb dX6_wake_83 rfl (lv_at hl 0 rfl) ?_
  refine gt_X6_38 C w dX6_wake_84 ?_
  refine lv_iload_n hx hb dX6_wake_87 rfl (lv_at hl 1 rfl) ?_
  refine lv_aload_n hx hb dX6_wake_88 rfl (lv_at hl 0 rfl) ?_
  refine gt_X6_117 C w dX6_wake_89 ?_
  refine lv_iload hx hb dX6_wake_92 (lv_at hl 2 rfl) ?_
  refine lv_aload_n hx hb dX6_wake_94 rfl (lv_at hl 0 rfl) ?_
  refine gt_X6_31 C w dX6_wake_95 ?_
  refine gt_X6_198 C w dX6_wake_98 ?_
  obtain ⟨⟨v5, M3⟩, e4, hf⟩ := bindS hf
  refine g_backV w (g_runV (rest := []) C w (c_X0_addStart hi  e4) ob_X0 rfl gv_X6_263 md_X0_addStart rfl (by omega) (by decide) hl.1 rfl (Nat.le_of_ble_eq_true rfl) dX6_wake_101) (fun H locs w => ?_)
  refine lv_iload hx hb dX6_wake_104 (lv_at hl 2 rfl) ?_
  exact g_iret C w hr hq hf dX6_wake_106
set_option maxRecDepth 100000 in
set_option maxHeartbeats 4000000 in
theorem w_X6_wake_70 {wk : Int32 → Int32 → Mem → Option (Int32 × Mem)} {hw : Nat} (hwk : ∀ {t d : Int32} {M : Mem} {Rs : Int32 × Mem}, wk t d M = some Rs → gMet l yX6_wake cX6_wake 5 (some .int) hw D (xty cI cT cS) 241 (xE cI cT cS) ad [.ref (ad 0), .int t, .int d] M (qI D 241 (xE cI cT cS) ad Rs)) (C : gC p s m args c RX6 cX6_wake 5 D (xty cI cT cS) 241 (xE cI cT cS) ad) (hr : meth.sig.returnType = (some .int)) (hq : meth.locks = false) {Rs : Int32 × Mem} {x1 : Int32} {k3 : Nat} {x4 : Int32} (h3 : gAr 241 (xE cI cT cS) ad cI k3 16) (w : gWd D 241 (xE cI cT cS) ad M s H locs) (hl : lv_has ls 5 [(0, .ref (ad 0)), (1, .int x1), (3, .ref (ad k3)), (4, .int x4)]) (hf : f_X6_wake_70 wk x1 k3 x4 M = some Rs) : W p l e (rmH (hw + 6)) s m args below meth c H locs 0 0 (MQ below (qI D 241 (xE cI cT cS) ad Rs) args s 0 0 (gA 241 ad)) (F0 m 70 ls []) := by
  unfold f_X6_wake_70 at hf
  have hx := C.1.1
  have hb := C.1.2.1
  have hi := C.2.2.2.1
  refine lv_aload_n hx hb dX6_wake_70 rfl (lv_at hl 2 rfl) ?_
  refine lv_iload_n hx hb dX6_wake_71 rfl (lv_at hl 1 rfl) ?_
  refine lv_iload hx hb dX6_wake_72 (lv_at hl 3 rfl) ?_
  refine lv_if_ne (tgt := 81) hx hb dX6_wake_74 (by decide) (fun c1 => ?_) (fun c1 => ?_)
  · replace hf := (if_neg c1).symm.trans hf
    refine lv_iconst (v := 3) hx hb dX6_wake_81 (by decide) ?_
    exact w_X6_wake_82 hwk C hr hq h3 w (lv_sub hl [0, 1, 3] rfl) hf
  · replace hf := (if_pos c1).symm.trans hf
    refine lv_iconst (v := 2) hx hb dX6_wake_77 (by decide) ?_
    refine lv_goto (tgt := 82) hx hb dX6_wake_78 (by decide) ?_
    exact w_X6_wake_82 hwk C hr hq h3 w (lv_sub hl [0, 1, 3] rfl) hf
set_option maxRecDepth 100000 in
set_option maxHeartbeats 4000000 in
theorem w_X6_wake_0 {wk : Int32 → Int32 → Mem → Option (Int32 × Mem)} {hw : Nat} (hwk : ∀ {t d : Int32} {M : Mem} {Rs : Int32 × Mem}, wk t d M = some Rs → gMet l yX6_wake cX6_wake 5 (some .int) hw D (xty cI cT cS) 241 (xE cI cT cS) ad [.ref (ad 0), .int t, .int d] M (qI D 241 (xE cI cT cS) ad Rs)) (C : gC p s m args c RX6 cX6_wake 5 D (xty cI cT cS) 241 (xE cI cT cS) ad) (hr : meth.sig.returnType = (some .int)) (hq : meth.locks = false) {Rs : Int32 × Mem} {x1 : Int32} {x2 : Int32} (w : gWd D 241 (xE cI cT cS) ad M s H locs) (hl : lv_has ls 5 [(0, .ref (ad 0)), (1, .int x1), (2, .int x2)]) (hf : f_X6_wake_0 wk x1 x2 M = some Rs) : W p l e (rmH (hw + 6)) s m args below meth c H locs 0 0 (MQ below (qI D 241 (xE cI cT cS) ad Rs) args s 0 0 (gA 241 ad)) (F0 m 0 ls []) := by
  unfold f_X6_wake_0 at hf
  have hx := C.1.1
  have hb := C.1.2.1
  have hi := C.2.2.2.1
  refine lv_aload_n hx hb dX6_wake_0 rfl (lv_at hl 0 rfl) ?_
  refine lv_aload_n hx hb dX6_wake_1 rfl (lv_at hl 0 rfl) ?_
  refine gt_X6_117 C w dX6_wake_2 ?_
  refine lv_iload_n hx hb dX6_wake_5 rfl (lv_at hl 1 rfl) ?_
  obtain ⟨⟨k3, M1⟩, e2, hf⟩ := bindS hf
  refine g_backR w (g_runV (rest := []) C w (c_X6_placeOf hi  e2) ob_X6 rfl gv_X6_146 md_X6_placeOf rfl (by omega) (by decide) hl.1 rfl (Nat.le_of_ble_eq_true rfl) dX6_wake_6) (fun H locs w => ?_)
  obtain ⟨u4, e5, hf⟩ := bindS hf
  refine gt_X6_150 (xPb_ok e5) C w dX6_wake_9 ?_
  refine lv_astore_n (lv' := [(3, .ref (ad (k3 + 1))), (0, .ref (ad 0)), (1, .int x1), (2, .int x2)]) hx hb dX6_wake_12 rfl hl (by decide) rfl (fun ls hl => ?_)
  refine lv_aload_n hx hb dX6_wake_13 rfl (lv_at hl 0 rfl) ?_
  refine lv_iload_n hx hb dX6_wake_14 rfl (lv_at hl 2 rfl) ?_
  obtain ⟨v6, e7, hf⟩ := bindS hf
  refine g_iald C w (xP_s (xPb_ok e5)) e7 dX6_wake_15 ?_
  refine lv_iconst (v := 2) hx hb dX6_wake_16 (by decide) ?_
  refine lv_icmp_eq (tgt := 27) hx hb dX6_wake_17 (by decide) (fun c8 => ?_) (fun c8 => ?_)
  · replace hf := (if_pos c8).symm.trans hf
    refine lv_iconst (v := 0) hx hb dX6_wake_27 (by decide) ?_
    exact g_iret C w hr hq hf dX6_wake_28
  · replace hf := (if_neg c8).symm.trans hf
    refine lv_aload_n hx hb dX6_wake_20 rfl (lv_at hl 0 rfl) ?_
    refine lv_iload_n hx hb dX6_wake_21 rfl (lv_at hl 2 rfl) ?_
    obtain ⟨v9, e10, hf⟩ := bindS hf
    refine g_iald C w (xP_s (xPb_ok e5)) e10 dX6_wake_22 ?_
    refine lv_iconst (v := 1) hx hb dX6_wake_23 (by decide) ?_
    refine lv_icmp_ne (tgt := 29) hx hb dX6_wake_24 (by decide) (fun c11 => ?_) (fun c11 => ?_)
    · replace hf := (if_neg c11).symm.trans hf
      refine lv_aload_n hx hb dX6_wake_29 rfl (lv_at hl 0 rfl) ?_
      refine lv_iload_n hx hb dX6_wake_30 rfl (lv_at hl 2 rfl) ?_
      obtain ⟨v12, e13, hf⟩ := bindS hf
      refine g_iald C w (xP_s (xPb_ok e5)) e13 dX6_wake_31 ?_
      refine lv_iconst (v := 3) hx hb dX6_wake_32 (by decide) ?_
      refine lv_icmp_eq (tgt := 42) hx hb dX6_wake_33 (by decide) (fun c14 => ?_) (fun c14 => ?_)
      · replace hf := (if_pos c14).symm.trans hf
        refine lv_bipush (v := 18) hx hb dX6_wake_42 (by decide) ?_
        exact g_iret C w hr hq hf dX6_wake_44
      · replace hf := (if_neg c14).symm.trans hf
        refine lv_iload_n hx hb dX6_wake_36 rfl (lv_at hl 3 rfl) ?_
        refine lv_bipush (v := 16) hx hb dX6_wake_37 (by decide) ?_
        refine lv_icmp_lt (tgt := 45) hx hb dX6_wake_39 (by decide) (fun c15 => ?_) (fun c15 => ?_)
        · replace hf := (if_pos c15).symm.trans hf
          refine lv_aload_n hx hb dX6_wake_45 rfl (lv_at hl 0 rfl) ?_
          refine lv_iload_n hx hb dX6_wake_46 rfl (lv_at hl 2 rfl) ?_
          refine lv_iconst (v := 1) hx hb dX6_wake_47 (by decide) ?_
          obtain ⟨M16, e17, hf⟩ := bindS hf
          refine g_iast C w (xP_s (xPb_ok e5)) e17 dX6_wake_48 (fun H locs w => ?_)
          refine lv_aload_n hx hb dX6_wake_49 rfl (lv_at hl 1 rfl) ?_
          refine lv_iload_n hx hb dX6_wake_50 rfl (lv_at hl 2 rfl) ?_
          refine lv_iload_n hx hb dX6_wake_51 rfl (lv_at hl 3 rfl) ?_
          obtain ⟨⟨v20, M18⟩, e19, hf⟩ := bindS hf
          refine g_backI w (g_runV (rest := []) C w (c_X6_wakeAbove hwk hi  e19) ob_X6 rfl gv_X6_257 md_X6_wakeAbove rfl (by omega) (by decide) hl.1 rfl (Nat.le_of_ble_eq_true rfl) dX6_wake_52) (fun H locs w => ?_)
          refine lv_istore (lv' := [(4, .int v20), (3, .ref (ad (k3 + 1))), (0, .ref (ad 0)), (1, .int x1), (2, .int x2)]) hx hb dX6_wake_55 hl (by decide) rfl (fun ls hl => ?_)
          refine lv_iload hx hb dX6_wake_57 (lv_at hl 0 rfl) ?_
          refine lv_if_ne (tgt := 70) hx hb dX6_wake_59 (by decide) (fun c21 => ?_) (fun c21 => ?_)
          · replace hf := (if_neg c21).symm.trans hf
            exact w_X6_wake_70 hwk C hr hq (xP_s (xPb_ok e5)) w (lv_sub hl [2, 3, 1, 0] rfl) hf
          · replace hf := (if_pos c21).symm.trans hf
            refine lv_aload_n hx hb dX6_wake_62 rfl (lv_at hl 2 rfl) ?_
            refine lv_iload_n hx hb dX6_wake_63 rfl (lv_at hl 3 rfl) ?_
            refine lv_iload_n hx hb dX6_wake_64 rfl (lv_at hl 4 rfl) ?_
            obtain ⟨⟨v24, M22⟩, e23, hf⟩ := bindS hf
            refine g_backI w (g_runV (rest := []) C w (c_X6_doLines hwk hi  e23) ob_X6 rfl gv_X6_260 md_X6_doLines rfl (by omega) (by decide) hl.1 rfl (Nat.le_of_ble_eq_true rfl) dX6_wake_65) (fun H locs w => ?_)
            refine lv_istore (lv' := [(4, .int v24), (3, .ref (ad (k3 + 1))), (0, .ref (ad 0)), (1, .int x1), (2, .int x2)]) hx hb dX6_wake_68 hl (by decide) rfl (fun ls hl => ?_)
            exact w_X6_wake_70 hwk C hr hq (xP_s (xPb_ok e5)) w (lv_sub hl [2, 3, 1, 0] rfl) hf
        · replace hf := (if_neg c15).symm.trans hf
          refine lv_bipush (v := 18) hx hb dX6_wake_42 (by decide) ?_
          exact g_iret C w hr hq hf dX6_wake_44
    · replace hf := (if_pos c11).symm.trans hf
      refine lv_iconst (v := 0) hx hb dX6_wake_27 (by decide) ?_
      exact g_iret C w hr hq hf dX6_wake_28
abbrev f_X6_wake (wk : Int32 → Int32 → Mem → Option (Int32 × Mem)) (x1 : Int32) (x2 : Int32) (M : Mem) : Option (Int32 × Mem) := f_X6_wake_0 wk x1 x2 M
theorem c_X6_wake {wk : Int32 → Int32 → Mem → Option (Int32 × Mem)} {hw : Nat} (hwk : ∀ {t d : Int32} {M : Mem} {Rs : Int32 × Mem}, wk t d M = some Rs → gMet l yX6_wake cX6_wake 5 (some .int) hw D (xty cI cT cS) 241 (xE cI cT cS) ad [.ref (ad 0), .int t, .int d] M (qI D 241 (xE cI cT cS) ad Rs)) (hi : gInj 241 ad) {x1 : Int32} {x2 : Int32} {Rs : Int32 × Mem} (hf : f_X6_wake wk x1 x2 M = some Rs) : gMet l yX6_wake cX6_wake 5 (some .int) (hw + 6) D (xty cI cT cS) 241 (xE cI cT cS) ad [.ref (ad 0), .int x1, .int x2] M (qI D 241 (xE cI cT cS) ad Rs) := gMet_of (by decide) hi (xE_loc cI cT cS) (Nat.le_of_ble_eq_true rfl) (fun p e s m args below meth c ls C hr hq w hl => w_X6_wake_0 hwk C hr hq  w hl hf)
def f_wake : Nat → Int32 → Int32 → Mem → Option (Int32 × Mem)
  | 0, _, _, _ => none
  | n + 1, t, d, M => f_X6_wake (f_wake n) t d M
theorem c_wake (hi : gInj 241 ad) : ∀ (n : Nat) {t d : Int32} {M : Mem} {Rs : Int32 × Mem}, f_wake n t d M = some Rs → gMet l yX6_wake cX6_wake 5 (some .int) (6 * n) D (xty cI cT cS) 241 (xE cI cT cS) ad [.ref (ad 0), .int t, .int d] M (qI D 241 (xE cI cT cS) ad Rs) := by
  intro n
  induction n with
  | zero =>
    intro t d M Rs hf
    cases hf
  | succ n ih =>
    intro t d M Rs hf
    exact c_X6_wake (hw := 6 * n) ih hi hf
end GENX
