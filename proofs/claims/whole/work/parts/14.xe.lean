noncomputable section GENX
variable {p : Program} {l : Launch} {e : Env} {h : Nat} {R : Room} {s : State} {m : MethodId} {args : Array Value} {below : List Frame} {meth : Method} {c : Code} {H : Heap} {locs : List Loc} {cells slots : Nat} {Q : State → Prop} {cc : ByteArray} {nL pc : Nat} {ls : Array Slot} {rest : List Value} {D : va_G} {ad : Nat → Nat} {M M1 : Mem} {cI cT cS cZ : ClassId}
theorem kc_X6_makeAndCount : Cond.code yX6_makeAndCount cX6_makeAndCount 3 (some .int) ∈ gW := gw_in 364 (by decide +kernel) rfl
theorem md_X6_makeAndCount : gMd yX6_makeAndCount 1 := ⟨by decide +kernel, by decide +kernel, by decide +kernel⟩
theorem kl_X6_235 : Cond.methodLink RX6 235 yX6_makeAndCount ∈ gW := gw_in 361 (by decide +kernel) rfl
theorem kn_X6_makeAndCount : Cond.instanceMethod yX6_makeAndCount ∈ gW := gw_in 363 (by decide +kernel) rfl
theorem ks_X6_makeAndCount : Cond.selects RX6 yX6_makeAndCount yX6_makeAndCount ∈ gW := gw_in 7 (by decide +kernel) rfl
theorem gv_X6_235 : gWv RX6 235 yX6_makeAndCount cX6_makeAndCount 3 (some .int) := ⟨kl_X6_235, kn_X6_makeAndCount, ks_X6_makeAndCount, ki_X6, kc_X6_makeAndCount⟩
theorem kc_X6_askAndSet : Cond.code yX6_askAndSet cX6_askAndSet 6 (some .int) ∈ gW := gw_in 424 (by decide +kernel) rfl
theorem md_X6_askAndSet : gMd yX6_askAndSet 3 := ⟨by decide +kernel, by decide +kernel, by decide +kernel⟩
theorem kl_X6_242 : Cond.methodLink RX6 242 yX6_askAndSet ∈ gW := gw_in 421 (by decide +kernel) rfl
theorem kn_X6_askAndSet : Cond.instanceMethod yX6_askAndSet ∈ gW := gw_in 423 (by decide +kernel) rfl
theorem ks_X6_askAndSet : Cond.selects RX6 yX6_askAndSet yX6_askAndSet ∈ gW := gw_in 18 (by decide +kernel) rfl
theorem gv_X6_242 : gWv RX6 242 yX6_askAndSet cX6_askAndSet 6 (some .int) := ⟨kl_X6_242, kn_X6_askAndSet, ks_X6_askAndSet, ki_X6, kc_X6_askAndSet⟩
theorem kc_X4_begin : Cond.code yX4_begin cX4_begin 4 none ∈ gW := gw_in 279 (by decide +kernel) rfl
theorem ki_X4 : Cond.initialized RX4 ∈ gW := gw_in 43 (by decide +kernel) rfl
theorem md_X4_begin : gMd yX4_begin 3 := ⟨by decide +kernel, by decide +kernel, by decide +kernel⟩
theorem kl_X6_60 : Cond.methodLink RX6 60 yX4_begin ∈ gW := gw_in 276 (by decide +kernel) rfl
theorem kn_X4_begin : Cond.instanceMethod yX4_begin ∈ gW := gw_in 277 (by decide +kernel) rfl
theorem ks_X4_begin : Cond.selects RX4 yX4_begin yX4_begin ∈ gW := gw_in 278 (by decide +kernel) rfl
theorem gv_X6_60 : gWv RX6 60 yX4_begin cX4_begin 4 none := ⟨kl_X6_60, kn_X4_begin, ks_X4_begin, ki_X4, kc_X4_begin⟩
theorem kc_X6_arrange : Cond.code yX6_arrange cX6_arrange 5 none ∈ gW := gw_in 290 (by decide +kernel) rfl
theorem md_X6_arrange : gMd yX6_arrange 1 := ⟨by decide +kernel, by decide +kernel, by decide +kernel⟩
theorem kl_X6_64 : Cond.methodLink RX6 64 yX6_arrange ∈ gW := gw_in 287 (by decide +kernel) rfl
theorem kn_X6_arrange : Cond.instanceMethod yX6_arrange ∈ gW := gw_in 289 (by decide +kernel) rfl
theorem ks_X6_arrange : Cond.selects RX6 yX6_arrange yX6_arrange ∈ gW := gw_in 2 (by decide +kernel) rfl
theorem gv_X6_64 : gWv RX6 64 yX6_arrange cX6_arrange 5 none := ⟨kl_X6_64, kn_X6_arrange, ks_X6_arrange, ki_X6, kc_X6_arrange⟩
theorem pt_X6_56 {x : Int32} (C : gC p s m args c RX6 cc nL D (xty cI cT cS) 241 (xE cI cT cS) ad) (w : gWd D 241 (xE cI cT cS) ad M s H locs) (e1 : stF M 0 5 x = some M1) (hdg : decode cc pc = .ok (.putfield 56, 3)) (kk : ∀ (H1 : Heap) (locs1 : List Loc), gWd D 241 (xE cI cT cS) ad M1 s H1 locs1 → W p l e R s m args below meth c H1 locs1 cells slots Q (F0 m (pc + 3) ls rest)) : W p l e R s m args below meth c H locs cells slots Q (F0 m pc ls (.int x :: .ref (ad 0) :: rest)) := by
  cases e1
  exact g_put C w ob_X6 rfl ginX6 tyX6 tyX6_ok nmX6 5 (by decide) kf_X6_56 rfl rfl rfl (Nat.le_of_ble_eq_true rfl) (by simp [fX6, mset, upd]) hdg kk
theorem kl_X6_78 : Cond.methodLink RX6 78 yX2_has ∈ gW := gw_in 309 (by decide +kernel) rfl
theorem gv_X6_78 : gWv RX6 78 yX2_has cX2_has 2 (some .boolean) := ⟨kl_X6_78, kn_X2_has, ks_X2_has, ki_X2, kc_X2_has⟩
theorem kc_X6_isLine : Cond.code yX6_isLine cX6_isLine 4 (some .boolean) ∈ gW := gw_in 326 (by decide +kernel) rfl
theorem md_X6_isLine : gMd yX6_isLine 4 := ⟨by decide +kernel, by decide +kernel, by decide +kernel⟩
theorem kt_X6_isLine : Cond.static yX6_isLine ∈ gW := gw_in 325 (by decide +kernel) rfl
theorem kl_X6_102 : Cond.methodLink RX6 102 yX6_isLine ∈ gW := gw_in 324 (by decide +kernel) rfl
theorem gs_X6_102 : gWs RX6 102 yX6_isLine cX6_isLine 4 (some .boolean) := ⟨kl_X6_102, kt_X6_isLine, ki_X6, kc_X6_isLine⟩
theorem kc_X4_addLine : Cond.code yX4_addLine cX4_addLine 5 (some .int) ∈ gW := gw_in 333 (by decide +kernel) rfl
theorem md_X4_addLine : gMd yX4_addLine 4 := ⟨by decide +kernel, by decide +kernel, by decide +kernel⟩
theorem kl_X6_109 : Cond.methodLink RX6 109 yX4_addLine ∈ gW := gw_in 330 (by decide +kernel) rfl
theorem kn_X4_addLine : Cond.instanceMethod yX4_addLine ∈ gW := gw_in 331 (by decide +kernel) rfl
theorem ks_X4_addLine : Cond.selects RX4 yX4_addLine yX4_addLine ∈ gW := gw_in 332 (by decide +kernel) rfl
theorem gv_X6_109 : gWv RX6 109 yX4_addLine cX4_addLine 5 (some .int) := ⟨kl_X6_109, kn_X4_addLine, ks_X4_addLine, ki_X4, kc_X4_addLine⟩
theorem kc_X5_close : Cond.code yX5_close cX5_close 4 none ∈ gW := gw_in 428 (by decide +kernel) rfl
theorem ki_X5 : Cond.initialized RX5 ∈ gW := gw_in 41 (by decide +kernel) rfl
theorem md_X5_close : gMd yX5_close 3 := ⟨by decide +kernel, by decide +kernel, by decide +kernel⟩
theorem kl_X6_139 : Cond.methodLink RX6 139 yX5_close ∈ gW := gw_in 425 (by decide +kernel) rfl
theorem kn_X5_close : Cond.instanceMethod yX5_close ∈ gW := gw_in 426 (by decide +kernel) rfl
theorem ks_X5_close : Cond.selects RX5 yX5_close yX5_close ∈ gW := gw_in 427 (by decide +kernel) rfl
theorem gv_X6_139 : gWv RX6 139 yX5_close cX5_close 4 none := ⟨kl_X6_139, kn_X5_close, ks_X5_close, ki_X5, kc_X5_close⟩
theorem kf_X6_136 : Cond.fieldLink RX6 136 (TX6 7).1 (TX6 7).2.1 (TX6 7).2.2.1 ∈ gW := gw_in 234 (by decide +kernel) rfl
theorem gt_X6_136 (C : gC p s m args c RX6 cc nL D (xty cI cT cS) 241 (xE cI cT cS) ad) (w : gWd D 241 (xE cI cT cS) ad M s H locs) (hdg : decode cc pc = .ok (.getfield 136, 3)) (kk : W p l e R s m args below meth c H locs cells slots Q (F0 m (pc + 3) ls (.int (M 0 7) :: rest))) : W p l e R s m args below meth c H locs cells slots Q (F0 m pc ls (.ref (ad 0) :: rest)) := g_get C w ob_X6 rfl ginX6 7 (by decide) kf_X6_136 rfl hdg kk
theorem kc_X6_refusalOfUse : Cond.code yX6_refusalOfUse cX6_refusalOfUse 7 (some .int) ∈ gW := gw_in 341 (by decide +kernel) rfl
theorem md_X6_refusalOfUse : gMd yX6_refusalOfUse 5 := ⟨by decide +kernel, by decide +kernel, by decide +kernel⟩
theorem kl_X6_113 : Cond.methodLink RX6 113 yX6_refusalOfUse ∈ gW := gw_in 338 (by decide +kernel) rfl
theorem kn_X6_refusalOfUse : Cond.instanceMethod yX6_refusalOfUse ∈ gW := gw_in 340 (by decide +kernel) rfl
theorem ks_X6_refusalOfUse : Cond.selects RX6 yX6_refusalOfUse yX6_refusalOfUse ∈ gW := gw_in 3 (by decide +kernel) rfl
theorem gv_X6_113 : gWv RX6 113 yX6_refusalOfUse cX6_refusalOfUse 7 (some .int) := ⟨kl_X6_113, kn_X6_refusalOfUse, ks_X6_refusalOfUse, ki_X6, kc_X6_refusalOfUse⟩
theorem pt_X6_117 {x : Int32} (C : gC p s m args c RX6 cc nL D (xty cI cT cS) 241 (xE cI cT cS) ad) (w : gWd D 241 (xE cI cT cS) ad M s H locs) (e1 : stF M 0 8 x = some M1) (hdg : decode cc pc = .ok (.putfield 117, 3)) (kk : ∀ (H1 : Heap) (locs1 : List Loc), gWd D 241 (xE cI cT cS) ad M1 s H1 locs1 → W p l e R s m args below meth c H1 locs1 cells slots Q (F0 m (pc + 3) ls rest)) : W p l e R s m args below meth c H locs cells slots Q (F0 m pc ls (.int x :: .ref (ad 0) :: rest)) := by
  cases e1
  exact g_put C w ob_X6 rfl ginX6 tyX6 tyX6_ok nmX6 8 (by decide) kf_X6_117 rfl rfl rfl (Nat.le_of_ble_eq_true rfl) (by simp [fX6, mset, upd]) hdg kk
theorem kf_X6_126 : Cond.fieldLink RX6 126 (TX3 3).1 (TX3 3).2.1 (TX3 3).2.2.1 ∈ gW := gw_in 217 (by decide +kernel) rfl
theorem gt_X6_126 {k : Nat} (hk : xS k) (C : gC p s m args c RX6 cc nL D (xty cI cT cS) 241 (xE cI cT cS) ad) (w : gWd D 241 (xE cI cT cS) ad M s H locs) (hdg : decode cc pc = .ok (.getfield 126, 3)) (kk : W p l e R s m args below meth c H locs cells slots Q (F0 m (pc + 3) ls (.int (M k 3) :: rest))) : W p l e R s m args below meth c H locs cells slots Q (F0 m pc ls (.ref (ad k) :: rest)) := g_get C w (ob_X3 hk) rfl ginX3 3 (by decide) kf_X6_126 rfl hdg kk
theorem kc_X5_open : Cond.code yX5_open cX5_open 3 (some .int) ∈ gW := gw_in 356 (by decide +kernel) rfl
theorem md_X5_open : gMd yX5_open 1 := ⟨by decide +kernel, by decide +kernel, by decide +kernel⟩
theorem kl_X6_129 : Cond.methodLink RX6 129 yX5_open ∈ gW := gw_in 353 (by decide +kernel) rfl
theorem kn_X5_open : Cond.instanceMethod yX5_open ∈ gW := gw_in 354 (by decide +kernel) rfl
theorem ks_X5_open : Cond.selects RX5 yX5_open yX5_open ∈ gW := gw_in 355 (by decide +kernel) rfl
theorem gv_X6_129 : gWv RX6 129 yX5_open cX5_open 3 (some .int) := ⟨kl_X6_129, kn_X5_open, ks_X5_open, ki_X5, kc_X5_open⟩
theorem pt_X6_126 {k : Nat} (hk : xS k) {x : Int32} (C : gC p s m args c RX6 cc nL D (xty cI cT cS) 241 (xE cI cT cS) ad) (w : gWd D 241 (xE cI cT cS) ad M s H locs) (e1 : stF M k 3 x = some M1) (hdg : decode cc pc = .ok (.putfield 126, 3)) (kk : ∀ (H1 : Heap) (locs1 : List Loc), gWd D 241 (xE cI cT cS) ad M1 s H1 locs1 → W p l e R s m args below meth c H1 locs1 cells slots Q (F0 m (pc + 3) ls rest)) : W p l e R s m args below meth c H locs cells slots Q (F0 m pc ls (.int x :: .ref (ad k) :: rest)) := by
  cases e1
  exact g_put C w (ob_X3 hk) rfl ginX3 tyX3 tyX3_ok nmX3 3 (by decide) kf_X6_126 rfl rfl rfl (Nat.le_of_ble_eq_true rfl) (by simp [fX3, mset, upd]) hdg kk
theorem kc_X6_perform : Cond.code yX6_perform cX6_perform 5 (some .int) ∈ gW := gw_in 360 (by decide +kernel) rfl
theorem md_X6_perform : gMd yX6_perform 4 := ⟨by decide +kernel, by decide +kernel, by decide +kernel⟩
theorem kl_X6_133 : Cond.methodLink RX6 133 yX6_perform ∈ gW := gw_in 357 (by decide +kernel) rfl
theorem kn_X6_perform : Cond.instanceMethod yX6_perform ∈ gW := gw_in 359 (by decide +kernel) rfl
theorem ks_X6_perform : Cond.selects RX6 yX6_perform yX6_perform ∈ gW := gw_in 6 (by decide +kernel) rfl
theorem gv_X6_133 : gWv RX6 133 yX6_perform cX6_perform 5 (some .int) := ⟨kl_X6_133, kn_X6_perform, ks_X6_perform, ki_X6, kc_X6_perform⟩
theorem pt_X6_136 {x : Int32} (C : gC p s m args c RX6 cc nL D (xty cI cT cS) 241 (xE cI cT cS) ad) (w : gWd D 241 (xE cI cT cS) ad M s H locs) (e1 : stF M 0 7 x = some M1) (hdg : decode cc pc = .ok (.putfield 136, 3)) (kk : ∀ (H1 : Heap) (locs1 : List Loc), gWd D 241 (xE cI cT cS) ad M1 s H1 locs1 → W p l e R s m args below meth c H1 locs1 cells slots Q (F0 m (pc + 3) ls rest)) : W p l e R s m args below meth c H locs cells slots Q (F0 m pc ls (.int x :: .ref (ad 0) :: rest)) := by
  cases e1
  exact g_put C w ob_X6 rfl ginX6 tyX6 tyX6_ok nmX6 7 (by decide) kf_X6_136 rfl rfl rfl (Nat.le_of_ble_eq_true rfl) (by simp [fX6, mset, upd]) hdg kk
theorem kc_X6_countNotZero : Cond.code yX6_countNotZero cX6_countNotZero 6 (some .int) ∈ gW := gw_in 441 (by decide +kernel) rfl
theorem md_X6_countNotZero : gMd yX6_countNotZero 2 := ⟨by decide +kernel, by decide +kernel, by decide +kernel⟩
theorem kl_X6_156 : Cond.methodLink RX6 156 yX6_countNotZero ∈ gW := gw_in 438 (by decide +kernel) rfl
theorem kn_X6_countNotZero : Cond.instanceMethod yX6_countNotZero ∈ gW := gw_in 440 (by decide +kernel) rfl
theorem ks_X6_countNotZero : Cond.selects RX6 yX6_countNotZero yX6_countNotZero ∈ gW := gw_in 19 (by decide +kernel) rfl
theorem gv_X6_156 : gWv RX6 156 yX6_countNotZero cX6_countNotZero 6 (some .int) := ⟨kl_X6_156, kn_X6_countNotZero, ks_X6_countNotZero, ki_X6, kc_X6_countNotZero⟩
theorem kf_X6_163 : Cond.fieldLink RX6 163 (TX0 2).1 (TX0 2).2.1 (TX0 2).2.2.1 ∈ gW := gw_in 115 (by decide +kernel) rfl
theorem gt_X6_163 (C : gC p s m args c RX6 cc nL D (xty cI cT cS) 241 (xE cI cT cS) ad) (w : gWd D 241 (xE cI cT cS) ad M s H locs) (hdg : decode cc pc = .ok (.getfield 163, 3)) (kk : W p l e R s m args below meth c H locs cells slots Q (F0 m (pc + 3) ls (.int (M 10 2) :: rest))) : W p l e R s m args below meth c H locs cells slots Q (F0 m pc ls (.ref (ad 10) :: rest)) := g_get C w ob_X0 rfl ginX0 2 (by decide) kf_X6_163 rfl hdg kk
theorem kf_X6_166 : Cond.fieldLink RX6 166 (TX0 0).1 (TX0 0).2.1 (TX0 0).2.2.1 ∈ gW := gw_in 111 (by decide +kernel) rfl
theorem gt_X6_166 (C : gC p s m args c RX6 cc nL D (xty cI cT cS) 241 (xE cI cT cS) ad) (w : gWd D 241 (xE cI cT cS) ad M s H locs) (hdg : decode cc pc = .ok (.getfield 166, 3)) (kk : W p l e R s m args below meth c H locs cells slots Q (F0 m (pc + 3) ls (.ref (ad 11) :: rest))) : W p l e R s m args below meth c H locs cells slots Q (F0 m pc ls (.ref (ad 10) :: rest)) := g_get C w ob_X0 rfl ginX0 0 (by decide) kf_X6_166 rfl hdg kk
theorem kk_X6_182 : Cond.constant RX6 182 100000 ∈ gW := gw_in 454 (by decide +kernel) rfl
theorem kf_X6_192 : Cond.fieldLink RX6 192 (TX5 2).1 (TX5 2).2.1 (TX5 2).2.2.1 ∈ gW := gw_in 92 (by decide +kernel) rfl
theorem gt_X6_192 (C : gC p s m args c RX6 cc nL D (xty cI cT cS) 241 (xE cI cT cS) ad) (w : gWd D 241 (xE cI cT cS) ad M s H locs) (hdg : decode cc pc = .ok (.getfield 192, 3)) (kk : W p l e R s m args below meth c H locs cells slots Q (F0 m (pc + 3) ls (.ref (ad 9) :: rest))) : W p l e R s m args below meth c H locs cells slots Q (F0 m pc ls (.ref (ad 6) :: rest)) := g_get C w ob_X5 rfl ginX5 2 (by decide) kf_X6_192 rfl hdg kk
theorem kf_X6_186 : Cond.fieldLink RX6 186 (TX5 0).1 (TX5 0).2.1 (TX5 0).2.2.1 ∈ gW := gw_in 88 (by decide +kernel) rfl
theorem gt_X6_186 (C : gC p s m args c RX6 cc nL D (xty cI cT cS) 241 (xE cI cT cS) ad) (w : gWd D 241 (xE cI cT cS) ad M s H locs) (hdg : decode cc pc = .ok (.getfield 186, 3)) (kk : W p l e R s m args below meth c H locs cells slots Q (F0 m (pc + 3) ls (.ref (ad 7) :: rest))) : W p l e R s m args below meth c H locs cells slots Q (F0 m pc ls (.ref (ad 6) :: rest)) := g_get C w ob_X5 rfl ginX5 0 (by decide) kf_X6_186 rfl hdg kk
theorem kf_X6_189 : Cond.fieldLink RX6 189 (TX5 1).1 (TX5 1).2.1 (TX5 1).2.2.1 ∈ gW := gw_in 90 (by decide +kernel) rfl
theorem gt_X6_189 (C : gC p s m args c RX6 cc nL D (xty cI cT cS) 241 (xE cI cT cS) ad) (w : gWd D 241 (xE cI cT cS) ad M s H locs) (hdg : decode cc pc = .ok (.getfield 189, 3)) (kk : W p l e R s m args below meth c H locs cells slots Q (F0 m (pc + 3) ls (.ref (ad 8) :: rest))) : W p l e R s m args below meth c H locs cells slots Q (F0 m pc ls (.ref (ad 6) :: rest)) := g_get C w ob_X5 rfl ginX5 1 (by decide) kf_X6_189 rfl hdg kk
theorem kc_X3_forget : Cond.code yX3_forget cX3_forget 1 (some .int) ∈ gW := gw_in 466 (by decide +kernel) rfl
theorem ki_X3 : Cond.initialized RX3 ∈ gW := gw_in 45 (by decide +kernel) rfl
theorem md_X3_forget : gMd yX3_forget 0 := ⟨by decide +kernel, by decide +kernel, by decide +kernel⟩
theorem kl_X6_194 : Cond.methodLink RX6 194 yX3_forget ∈ gW := gw_in 463 (by decide +kernel) rfl
theorem kn_X3_forget : Cond.instanceMethod yX3_forget ∈ gW := gw_in 464 (by decide +kernel) rfl
theorem ks_X3_forget : Cond.selects RX3 yX3_forget yX3_forget ∈ gW := gw_in 465 (by decide +kernel) rfl
theorem gv_X6_194 : gWv RX6 194 yX3_forget cX3_forget 1 (some .int) := ⟨kl_X6_194, kn_X3_forget, ks_X3_forget, ki_X3, kc_X3_forget⟩
theorem kf_X6_169 : Cond.fieldLink RX6 169 (TX0 3).1 (TX0 3).2.1 (TX0 3).2.2.1 ∈ gW := gw_in 117 (by decide +kernel) rfl
theorem gt_X6_169 (C : gC p s m args c RX6 cc nL D (xty cI cT cS) 241 (xE cI cT cS) ad) (w : gWd D 241 (xE cI cT cS) ad M s H locs) (hdg : decode cc pc = .ok (.getfield 169, 3)) (kk : W p l e R s m args below meth c H locs cells slots Q (F0 m (pc + 3) ls (.int (M 10 3) :: rest))) : W p l e R s m args below meth c H locs cells slots Q (F0 m pc ls (.ref (ad 10) :: rest)) := g_get C w ob_X0 rfl ginX0 3 (by decide) kf_X6_169 rfl hdg kk
theorem kl_X6_202 : Cond.methodLink RX6 202 yX1_forget ∈ gW := gw_in 481 (by decide +kernel) rfl
theorem gv_X6_202 : gWv RX6 202 yX1_forget cX1_forget 3 (some .int) := ⟨kl_X6_202, kn_X1_forget, ks_X1_forget, ki_X1, kc_X1_forget⟩
theorem pt_X6_198 {x : Int32} (C : gC p s m args c RX6 cc nL D (xty cI cT cS) 241 (xE cI cT cS) ad) (w : gWd D 241 (xE cI cT cS) ad M s H locs) (e1 : stF M 6 3 x = some M1) (hdg : decode cc pc = .ok (.putfield 198, 3)) (kk : ∀ (H1 : Heap) (locs1 : List Loc), gWd D 241 (xE cI cT cS) ad M1 s H1 locs1 → W p l e R s m args below meth c H1 locs1 cells slots Q (F0 m (pc + 3) ls rest)) : W p l e R s m args below meth c H locs cells slots Q (F0 m pc ls (.int x :: .ref (ad 6) :: rest)) := by
  cases e1
  exact g_put C w ob_X5 rfl ginX5 tyX5 tyX5_ok nmX5 3 (by decide) kf_X6_198 rfl rfl rfl (Nat.le_of_ble_eq_true rfl) (by simp [fX5, mset, upd]) hdg kk
theorem pt_X6_163 {x : Int32} (C : gC p s m args c RX6 cc nL D (xty cI cT cS) 241 (xE cI cT cS) ad) (w : gWd D 241 (xE cI cT cS) ad M s H locs) (e1 : stF M 10 2 x = some M1) (hdg : decode cc pc = .ok (.putfield 163, 3)) (kk : ∀ (H1 : Heap) (locs1 : List Loc), gWd D 241 (xE cI cT cS) ad M1 s H1 locs1 → W p l e R s m args below meth c H1 locs1 cells slots Q (F0 m (pc + 3) ls rest)) : W p l e R s m args below meth c H locs cells slots Q (F0 m pc ls (.int x :: .ref (ad 10) :: rest)) := by
  cases e1
  exact g_put C w ob_X0 rfl ginX0 tyX0 tyX0_ok nmX0 2 (by decide) kf_X6_163 rfl rfl rfl (Nat.le_of_ble_eq_true rfl) (by simp [fX0, mset, upd]) hdg kk
theorem pt_X6_169 {x : Int32} (C : gC p s m args c RX6 cc nL D (xty cI cT cS) 241 (xE cI cT cS) ad) (w : gWd D 241 (xE cI cT cS) ad M s H locs) (e1 : stF M 10 3 x = some M1) (hdg : decode cc pc = .ok (.putfield 169, 3)) (kk : ∀ (H1 : Heap) (locs1 : List Loc), gWd D 241 (xE cI cT cS) ad M1 s H1 locs1 → W p l e R s m args below meth c H1 locs1 cells slots Q (F0 m (pc + 3) ls rest)) : W p l e R s m args below meth c H locs cells slots Q (F0 m pc ls (.int x :: .ref (ad 10) :: rest)) := by
  cases e1
  exact g_put C w ob_X0 rfl ginX0 tyX0 tyX0_ok nmX0 3 (by decide) kf_X6_169 rfl rfl rfl (Nat.le_of_ble_eq_true rfl) (by simp [fX0, mset, upd]) hdg kk
def f_X6_makeAndCount_0 (x1 : Int32) (M : Mem) : Option (Int32 × Mem) :=
  (f_X6_makeThing (f_wake 17) x1 (0 : Int32) M).bind fun (v3, M1) =>
  (ixQ 4 (M1 0 8)).bind fun t4 =>
  (ldI M1 ((13 + 5 * t4) + 4) 16 x1).bind fun v6 =>
  (stF M1 0 10 v6).bind fun M8 =>
  some (v3, M8)
set_option maxRecDepth 100000 in
set_option maxHeartbeats 4000000 in
theorem w_X6_makeAndCount_0 (C : gC p s m args c RX6 cX6_makeAndCount 3 D (xty cI cT cS) 241 (xE cI cT cS) ad) (hr : meth.sig.returnType = (some .int)) (hq : meth.locks = false) {Rs : Int32 × Mem} {x1 : Int32} (w : gWd D 241 (xE cI cT cS) ad M s H locs) (hl : lv_has ls 3 [(0, .ref (ad 0)), (1, .int x1)]) (hf : f_X6_makeAndCount_0  x1 M = some Rs) : W p l e (rmH 106) s m args below meth c H locs 0 0 (MQ below (qI D 241 (xE cI cT cS) ad Rs) args s 0 0 (gA 241 ad)) (F0 m 0 ls []) := by
  unfold f_X6_makeAndCount_0 at hf
  have hx := C.1.1
  have hb := C.1.2.1
  have hi := C.2.2.2.1
  refine lv_aload_n hx hb dX6_makeAndCount_0 rfl (lv_at hl 0 rfl) ?_
  refine lv_iload_n hx hb dX6_makeAndCount_1 rfl (lv_at hl 1 rfl) ?_
  refine lv_iconst (v := 0) hx hb dX6_makeAndCount_2 (by decide) ?_
  obtain ⟨⟨v3, M1⟩, e2, hf⟩ := bindS hf
  refine g_backI w (g_runV (rest := []) C w (c_X6_makeThing (c_wake hi 17) hi  e2) ob_X6 rfl gv_X6_245 md_X6_makeThing rfl (by omega) (by decide) hl.1 rfl (Nat.le_of_ble_eq_true rfl) dX6_makeAndCount_3) (fun H locs w => ?_)
  refine lv_istore_n (lv' := [(2, .int v3), (0, .ref (ad 0)), (1, .int x1)]) hx hb dX6_makeAndCount_6 rfl hl (by decide) rfl (fun ls hl => ?_)
  refine lv_aload_n hx hb dX6_makeAndCount_7 rfl (lv_at hl 1 rfl) ?_
  refine lv_aload_n hx hb dX6_makeAndCount_8 rfl (lv_at hl 1 rfl) ?_
  refine gt_X6_17 C w dX6_makeAndCount_9 ?_
  refine lv_aload_n hx hb dX6_makeAndCount_12 rfl (lv_at hl 1 rfl) ?_
  refine gt_X6_117 C w dX6_makeAndCount_13 ?_
  obtain ⟨t4, e5, hf⟩ := bindS hf
  refine g_aald (t0 := 2) C w rf_S rfl e5 dX6_makeAndCount_16 ?_
  refine gt_X6_153 ⟨t4, ixQ_lt e5, rfl⟩ C w dX6_makeAndCount_17 ?_
  refine lv_iload_n hx hb dX6_makeAndCount_20 rfl (lv_at hl 2 rfl) ?_
  obtain ⟨v6, e7, hf⟩ := bindS hf
  refine g_iald C w (xS_g ⟨t4, ixQ_lt e5, rfl⟩) e7 dX6_makeAndCount_21 ?_
  obtain ⟨M8, e9, hf⟩ := bindS hf
  refine pt_X6_123 C w e9 dX6_makeAndCount_22 (fun H locs w => ?_)
  refine lv_iload_n hx hb dX6_makeAndCount_25 rfl (lv_at hl 0 rfl) ?_
  exact g_iret C w hr hq hf dX6_makeAndCount_26
abbrev f_X6_makeAndCount (x1 : Int32) (M : Mem) : Option (Int32 × Mem) := f_X6_makeAndCount_0 x1 M
theorem c_X6_makeAndCount (hi : gInj 241 ad) {x1 : Int32} {Rs : Int32 × Mem} (hf : f_X6_makeAndCount x1 M = some Rs) : gMet l yX6_makeAndCount cX6_makeAndCount 3 (some .int) 106 D (xty cI cT cS) 241 (xE cI cT cS) ad [.ref (ad 0), .int x1] M (qI D 241 (xE cI cT cS) ad Rs) := gMet_of (by decide) hi (xE_loc cI cT cS) (Nat.le_of_ble_eq_true rfl) (fun p e s m args below meth c ls C hr hq w hl => w_X6_makeAndCount_0 C hr hq  w hl hf)
def f_X6_askAndSet_26 (x2 : Int32) (x3 : Int32) (x4 : Int32) (s0 : Int32) (M : Mem) : Option (Int32 × Mem) :=
  if s0 = 0 then ((f_X6_write x4 x2 x3 M).bind fun (v4, M2) =>
  some (v4, M2)) else (some (s0, M))
def f_X6_askAndSet_0 (x1 : Int32) (x2 : Int32) (x3 : Int32) (M : Mem) : Option (Int32 × Mem) :=
  (f_X6_homeOf x1 x2 M).bind fun (v3, M1) =>
  if v3 = (-1 : Int32) then (f_X6_askAndSet_26 x2 x3 v3 (18 : Int32) M1) else ((f_X6_ask (f_wake 17) x1 x2 (0 : Int32) M1).bind fun (v7, M5) =>
  f_X6_askAndSet_26 x2 x3 v3 v7 M5)
set_option maxRecDepth 100000 in
set_option maxHeartbeats 4000000 in
theorem w_X6_askAndSet_26 (C : gC p s m args c RX6 cX6_askAndSet 6 D (xty cI cT cS) 241 (xE cI cT cS) ad) (hr : meth.sig.returnType = (some .int)) (hq : meth.locks = false) {Rs : Int32 × Mem} {x2 : Int32} {x3 : Int32} {x4 : Int32} {s0 : Int32} (w : gWd D 241 (xE cI cT cS) ad M s H locs) (hl : lv_has ls 6 [(0, .ref (ad 0)), (2, .int x2), (3, .int x3), (4, .int x4)]) (hf : f_X6_askAndSet_26  x2 x3 x4 s0 M = some Rs) : W p l e (rmH 105) s m args below meth c H locs 0 0 (MQ below (qI D 241 (xE cI cT cS) ad Rs) args s 0 0 (gA 241 ad)) (F0 m 26 ls [.int s0]) := by
  unfold f_X6_askAndSet_26 at hf
  have hx := C.1.1
  have hb := C.1.2.1
  have hi := C.2.2.2.1
  refine lv_istore (lv' := [(5, .int s0), (0, .ref (ad 0)), (2, .int x2), (3, .int x3), (4, .int x4)]) hx hb dX6_askAndSet_26 hl (by decide) rfl (fun ls hl => ?_)
  refine lv_iload hx hb dX6_askAndSet_28 (lv_at hl 0 rfl) ?_
  refine lv_if_ne (tgt := 44) hx hb dX6_askAndSet_30 (by decide) (fun c1 => ?_) (fun c1 => ?_)
  · replace hf := (if_neg c1).symm.trans hf
    refine lv_iload hx hb dX6_askAndSet_44 (lv_at hl 0 rfl) ?_
    exact g_iret C w hr hq hf dX6_askAndSet_46
  · replace hf := (if_pos c1).symm.trans hf
    refine lv_aload_n hx hb dX6_askAndSet_33 rfl (lv_at hl 1 rfl) ?_
    refine lv_iload hx hb dX6_askAndSet_34 (lv_at hl 4 rfl) ?_
    refine lv_iload_n hx hb dX6_askAndSet_36 rfl (lv_at hl 2 rfl) ?_
    refine lv_iload_n hx hb dX6_askAndSet_37 rfl (lv_at hl 3 rfl) ?_
    obtain ⟨⟨v4, M2⟩, e3, hf⟩ := bindS hf
    refine g_backI w (g_runV (rest := []) C w (c_X6_write hi  e3) ob_X6 rfl gv_X6_248 md_X6_write rfl (by omega) (by decide) hl.1 rfl (Nat.le_of_ble_eq_true rfl) dX6_askAndSet_38) (fun H locs w => ?_)
    refine lv_goto (tgt := 46) hx hb dX6_askAndSet_41 (by decide) ?_
    exact g_iret C w hr hq hf dX6_askAndSet_46
set_option maxRecDepth 100000 in
set_option maxHeartbeats 4000000 in
theorem w_X6_askAndSet_0 (C : gC p s m args c RX6 cX6_askAndSet 6 D (xty cI cT cS) 241 (xE cI cT cS) ad) (hr : meth.sig.returnType = (some .int)) (hq : meth.locks = false) {Rs : Int32 × Mem} {x1 : Int32} {x2 : Int32} {x3 : Int32} (w : gWd D 241 (xE cI cT cS) ad M s H locs) (hl : lv_has ls 6 [(0, .ref (ad 0)), (1, .int x1), (2, .int x2), (3, .int x3)]) (hf : f_X6_askAndSet_0  x1 x2 x3 M = some Rs) : W p l e (rmH 105) s m args below meth c H locs 0 0 (MQ below (qI D 241 (xE cI cT cS) ad Rs) args s 0 0 (gA 241 ad)) (F0 m 0 ls []) := by
  unfold f_X6_askAndSet_0 at hf
  have hx := C.1.1
  have hb := C.1.2.1
  have hi := C.2.2.2.1
  refine lv_aload_n hx hb dX6_askAndSet_0 rfl (lv_at hl 0 rfl) ?_
  refine lv_iload_n hx hb dX6_askAndSet_1 rfl (lv_at hl 1 rfl) ?_
  refine lv_iload_n hx hb dX6_askAndSet_2 rfl (lv_at hl 2 rfl) ?_
  obtain ⟨⟨v3, M1⟩, e2, hf⟩ := bindS hf
  refine g_backI w (g_runV (rest := []) C w (c_X6_homeOf hi  e2) ob_X6 rfl gv_X6_210 md_X6_homeOf rfl (by omega) (by decide) hl.1 rfl (Nat.le_of_ble_eq_true rfl) dX6_askAndSet_3) (fun H locs w => ?_)
  refine lv_istore (lv' := [(4, .int v3), (0, .ref (ad 0)), (1, .int x1), (2, .int x2), (3, .int x3)]) hx hb dX6_askAndSet_6 hl (by decide) rfl (fun ls hl => ?_)
  refine lv_iload hx hb dX6_askAndSet_8 (lv_at hl 0 rfl) ?_
  refine lv_iconst (v := -1) hx hb dX6_askAndSet_10 (by decide) ?_
  refine lv_icmp_ne (tgt := 19) hx hb dX6_askAndSet_11 (by decide) (fun c4 => ?_) (fun c4 => ?_)
  · replace hf := (if_neg c4).symm.trans hf
    refine lv_aload_n hx hb dX6_askAndSet_19 rfl (lv_at hl 1 rfl) ?_
    refine lv_iload_n hx hb dX6_askAndSet_20 rfl (lv_at hl 2 rfl) ?_
    refine lv_iload_n hx hb dX6_askAndSet_21 rfl (lv_at hl 3 rfl) ?_
    refine lv_iconst (v := 0) hx hb dX6_askAndSet_22 (by decide) ?_
    obtain ⟨⟨v7, M5⟩, e6, hf⟩ := bindS hf
    refine g_backI w (g_runV (rest := []) C w (c_X6_ask (c_wake hi 17) hi  e6) ob_X6 rfl gv_X6_238 md_X6_ask rfl (by omega) (by decide) hl.1 rfl (Nat.le_of_ble_eq_true rfl) dX6_askAndSet_23) (fun H locs w => ?_)
    exact w_X6_askAndSet_26 C hr hq w (lv_sub hl [1, 3, 4, 0] rfl) hf
  · replace hf := (if_pos c4).symm.trans hf
    refine lv_bipush (v := 18) hx hb dX6_askAndSet_14 (by decide) ?_
    refine lv_goto (tgt := 26) hx hb dX6_askAndSet_16 (by decide) ?_
    exact w_X6_askAndSet_26 C hr hq w (lv_sub hl [1, 3, 4, 0] rfl) hf
abbrev f_X6_askAndSet (x1 : Int32) (x2 : Int32) (x3 : Int32) (M : Mem) : Option (Int32 × Mem) := f_X6_askAndSet_0 x1 x2 x3 M
theorem c_X6_askAndSet (hi : gInj 241 ad) {x1 : Int32} {x2 : Int32} {x3 : Int32} {Rs : Int32 × Mem} (hf : f_X6_askAndSet x1 x2 x3 M = some Rs) : gMet l yX6_askAndSet cX6_askAndSet 6 (some .int) 105 D (xty cI cT cS) 241 (xE cI cT cS) ad [.ref (ad 0), .int x1, .int x2, .int x3] M (qI D 241 (xE cI cT cS) ad Rs) := gMet_of (by decide) hi (xE_loc cI cT cS) (Nat.le_of_ble_eq_true rfl) (fun p e s m args below meth c ls C hr hq w hl => w_X6_askAndSet_0 C hr hq  w hl hf)
def f_X6_perform_0 (x1 : Int32) (x2 : Int32) (x3 : Int32) (x4 : Int32) (M : Mem) : Option (Int32 × Mem) :=
  if x2 = 0 then ((f_X6_makeAndCount x1 M).bind fun (v4, M2) =>
  some (v4, M2)) else if x2 = 1 then ((f_X6_ask (f_wake 17) x1 x3 (0 : Int32) M).bind fun (v8, M6) =>
  some (v8, M6)) else if x2 = 2 then ((f_X6_askAndSet x1 x3 x4 M).bind fun (v12, M10) =>
  some (v12, M10)) else (some ((0 : Int32), M))
set_option maxRecDepth 100000 in
set_option maxHeartbeats 4000000 in
theorem w_X6_perform_0 (C : gC p s m args c RX6 cX6_perform 5 D (xty cI cT cS) 241 (xE cI cT cS) ad) (hr : meth.sig.returnType = (some .int)) (hq : meth.locks = false) {Rs : Int32 × Mem} {x1 : Int32} {x2 : Int32} {x3 : Int32} {x4 : Int32} (w : gWd D 241 (xE cI cT cS) ad M s H locs) (hl : lv_has ls 5 [(0, .ref (ad 0)), (1, .int x1), (2, .int x2), (3, .int x3), (4, .int x4)]) (hf : f_X6_perform_0  x1 x2 x3 x4 M = some Rs) : W p l e (rmH 107) s m args below meth c H locs 0 0 (MQ below (qI D 241 (xE cI cT cS) ad Rs) args s 0 0 (gA 241 ad)) (F0 m 0 ls []) := by
  unfold f_X6_perform_0 at hf
  have hx := C.1.1
  have hb := C.1.2.1
  have hi := C.2.2.2.1
  refine lv_iload_n hx hb dX6_perform_0 rfl (lv_at hl 2 rfl) ?_
  by_cases c1 : x2 = 0
  · replace hf := (if_pos c1).symm.trans hf
    refine lv_tableIn (tgt := 28) hx hb dX6_perform_1 (by rw [c1]; decide) (by rw [c1]; decide) (by rw [c1]; rfl) (by decide) ?_
    refine lv_aload_n hx hb dX6_perform_28 rfl (lv_at hl 0 rfl) ?_
    refine lv_iload_n hx hb dX6_perform_29 rfl (lv_at hl 1 rfl) ?_
    obtain ⟨⟨v4, M2⟩, e3, hf⟩ := bindS hf
    refine g_backI w (g_runV (rest := []) C w (c_X6_makeAndCount hi  e3) ob_X6 rfl gv_X6_235 md_X6_makeAndCount rfl (by omega) (by decide) hl.1 rfl (Nat.le_of_ble_eq_true rfl) dX6_perform_30) (fun H locs w => ?_)
    exact g_iret C w hr hq hf dX6_perform_33
  · replace hf := (if_neg c1).symm.trans hf
    by_cases c5 : x2 = 1
    · replace hf := (if_pos c5).symm.trans hf
      refine lv_tableIn (tgt := 34) hx hb dX6_perform_1 (by rw [c5]; decide) (by rw [c5]; decide) (by rw [c5]; rfl) (by decide) ?_
      refine lv_aload_n hx hb dX6_perform_34 rfl (lv_at hl 0 rfl) ?_
      refine lv_iload_n hx hb dX6_perform_35 rfl (lv_at hl 1 rfl) ?_
      refine lv_iload_n hx hb dX6_perform_36 rfl (lv_at hl 3 rfl) ?_
      refine lv_iconst (v := 0) hx hb dX6_perform_37 (by decide) ?_
      obtain ⟨⟨v8, M6⟩, e7, hf⟩ := bindS hf
      refine g_backI w (g_runV (rest := []) C w (c_X6_ask (c_wake hi 17) hi  e7) ob_X6 rfl gv_X6_238 md_X6_ask rfl (by omega) (by decide) hl.1 rfl (Nat.le_of_ble_eq_true rfl) dX6_perform_38) (fun H locs w => ?_)
      exact g_iret C w hr hq hf dX6_perform_41
    · replace hf := (if_neg c5).symm.trans hf
      by_cases c9 : x2 = 2
      · replace hf := (if_pos c9).symm.trans hf
        refine lv_tableIn (tgt := 42) hx hb dX6_perform_1 (by rw [c9]; decide) (by rw [c9]; decide) (by rw [c9]; rfl) (by decide) ?_
        refine lv_aload_n hx hb dX6_perform_42 rfl (lv_at hl 0 rfl) ?_
        refine lv_iload_n hx hb dX6_perform_43 rfl (lv_at hl 1 rfl) ?_
        refine lv_iload_n hx hb dX6_perform_44 rfl (lv_at hl 3 rfl) ?_
        refine lv_iload hx hb dX6_perform_45 (lv_at hl 4 rfl) ?_
        obtain ⟨⟨v12, M10⟩, e11, hf⟩ := bindS hf
        refine g_backI w (g_runV (rest := []) C w (c_X6_askAndSet hi  e11) ob_X6 rfl gv_X6_242 md_X6_askAndSet rfl (by omega) (by decide) hl.1 rfl (Nat.le_of_ble_eq_true rfl) dX6_perform_47) (fun H locs w => ?_)
        exact g_iret C w hr hq hf dX6_perform_50
      · replace hf := (if_neg c9).symm.trans hf
        refine lv_tableOut (tgt := 51) hx hb dX6_perform_1 (by have := lv_neT c1 (show (0 : Int32).toInt = 0 from rfl); have := lv_neT c5 (show (1 : Int32).toInt = 1 from rfl); have := lv_neT c9 (show (2 : Int32).toInt = 2 from rfl); omega) (by decide) ?_
        refine lv_iconst (v := 0) hx hb dX6_perform_51 (by decide) ?_
        exact g_iret C w hr hq hf dX6_perform_52
abbrev f_X6_perform (x1 : Int32) (x2 : Int32) (x3 : Int32) (x4 : Int32) (M : Mem) : Option (Int32 × Mem) := f_X6_perform_0 x1 x2 x3 x4 M
theorem c_X6_perform (hi : gInj 241 ad) {x1 : Int32} {x2 : Int32} {x3 : Int32} {x4 : Int32} {Rs : Int32 × Mem} (hf : f_X6_perform x1 x2 x3 x4 M = some Rs) : gMet l yX6_perform cX6_perform 5 (some .int) 107 D (xty cI cT cS) 241 (xE cI cT cS) ad [.ref (ad 0), .int x1, .int x2, .int x3, .int x4] M (qI D 241 (xE cI cT cS) ad Rs) := gMet_of (by decide) hi (xE_loc cI cT cS) (Nat.le_of_ble_eq_true rfl) (fun p e s m args below meth c ls C hr hq w hl => w_X6_perform_0 C hr hq  w hl hf)
def f_X6_type_56 (x1 : Int32) (x2 : Int32) (x3 : Int32) (M : Mem) : Option (Int32 × Mem) :=
  if (M 0 5) < (16 : Int32) then ((ixQ 16 (M 0 5)).bind fun t2 =>
  (f_X4_begin (33 + 13 * t2) x1 x2 x3 M).bind fun (v6, M4) =>
  (f_X6_arrange (M 0 5) M4).bind fun (v9, M7) =>
  (stF M7 0 5 ((M7 0 5) + (1 : Int32))).bind fun M10 =>
  some ((M 0 5), M10)) else (some ((-104 : Int32), M))
def f_X6_type_32 (x1 : Int32) (x2 : Int32) (x3 : Int32) (M : Mem) : Option (Int32 × Mem) :=
  if x3 = 0 then (f_X6_type_56 x1 x2 x3 M) else (if x2 = (-1 : Int32) then (f_X6_type_56 x1 x2 x3 M) else ((ixQ 16 x2).bind fun t3 =>
  if (M (33 + 13 * t3) 2) = 0 then (some ((-103 : Int32), M)) else (f_X6_type_56 x1 x2 x3 M)))
def f_X6_type_0 (x1 : Int32) (x2 : Int32) (x3 : Int32) (M : Mem) : Option (Int32 × Mem) :=
  (f_X6_within x1 (0 : Int32) (2 : Int32) M).bind fun (v3, M1) =>
  if v3 = 0 then (some ((-102 : Int32), M1)) else (if x2 = (-1 : Int32) then (f_X6_type_32 x1 x2 x3 M1) else (if x1 = 0 then ((f_X6_isClass x2 M1).bind fun (v9, M7) =>
  if v9 = 0 then (some ((-101 : Int32), M7)) else (f_X6_type_32 x1 x2 x3 M7)) else (some ((-101 : Int32), M1))))
set_option maxRecDepth 100000 in
set_option maxHeartbeats 4000000 in
theorem w_X6_type_56 (C : gC p s m args c RX6 cX6_type 5 D (xty cI cT cS) 241 (xE cI cT cS) ad) (hr : meth.sig.returnType = (some .int)) (hq : meth.locks = false) {Rs : Int32 × Mem} {x1 : Int32} {x2 : Int32} {x3 : Int32} (w : gWd D 241 (xE cI cT cS) ad M s H locs) (hl : lv_has ls 5 [(0, .ref (ad 0)), (1, .int x1), (2, .int x2), (3, .int x3)]) (hf : f_X6_type_56  x1 x2 x3 M = some Rs) : W p l e (rmH 4) s m args below meth c H locs 0 0 (MQ below (qI D 241 (xE cI cT cS) ad Rs) args s 0 0 (gA 241 ad)) (F0 m 56 ls []) := by
  unfold f_X6_type_56 at hf
  have hx := C.1.1
  have hb := C.1.2.1
  have hi := C.2.2.2.1
  refine lv_aload_n hx hb dX6_type_56 rfl (lv_at hl 0 rfl) ?_
  refine gt_X6_56 C w dX6_type_57 ?_
  refine lv_bipush (v := 16) hx hb dX6_type_60 (by decide) ?_
  refine lv_icmp_lt (tgt := 68) hx hb dX6_type_62 (by decide) (fun c1 => ?_) (fun c1 => ?_)
  · replace hf := (if_pos c1).symm.trans hf
    refine lv_aload_n hx hb dX6_type_68 rfl (lv_at hl 0 rfl) ?_
    refine gt_X6_56 C w dX6_type_69 ?_
    refine lv_istore (lv' := [(4, .int (M 0 5)), (0, .ref (ad 0)), (1, .int x1), (2, .int x2), (3, .int x3)]) hx hb dX6_type_72 hl (by decide) rfl (fun ls hl => ?_)
    refine lv_aload_n hx hb dX6_type_74 rfl (lv_at hl 1 rfl) ?_
    refine gt_X6_11 C w dX6_type_75 ?_
    refine lv_iload hx hb dX6_type_78 (lv_at hl 0 rfl) ?_
    obtain ⟨t2, e3, hf⟩ := bindS hf
    refine g_aald (t0 := 1) C w rf_T rfl e3 dX6_type_80 ?_
    refine lv_iload_n hx hb dX6_type_81 rfl (lv_at hl 2 rfl) ?_
    refine lv_iload_n hx hb dX6_type_82 rfl (lv_at hl 3 rfl) ?_
    refine lv_iload_n hx hb dX6_type_83 rfl (lv_at hl 4 rfl) ?_
    obtain ⟨⟨v6, M4⟩, e5, hf⟩ := bindS hf
    refine g_backV w (g_runV (rest := []) C w (c_X4_begin hi ⟨t2, ixQ_lt e3, rfl⟩ e5) (ob_X4 ⟨t2, ixQ_lt e3, rfl⟩) rfl gv_X6_60 md_X4_begin rfl (by omega) (by decide) hl.1 rfl (Nat.le_of_ble_eq_true rfl) dX6_type_84) (fun H locs w => ?_)
    refine lv_aload_n hx hb dX6_type_87 rfl (lv_at hl 1 rfl) ?_
    refine lv_iload hx hb dX6_type_88 (lv_at hl 0 rfl) ?_
    obtain ⟨⟨v9, M7⟩, e8, hf⟩ := bindS hf
    refine g_backV w (g_runV (rest := []) C w (c_X6_arrange hi  e8) ob_X6 rfl gv_X6_64 md_X6_arrange rfl (by omega) (by decide) hl.1 rfl (Nat.le_of_ble_eq_true rfl) dX6_type_90) (fun H locs w => ?_)
    refine lv_aload_n hx hb dX6_type_93 rfl (lv_at hl 1 rfl) ?_
    refine lv_dup hx hb dX6_type_94 rfl ?_
    refine gt_X6_56 C w dX6_type_95 ?_
    refine lv_iconst (v := 1) hx hb dX6_type_98 (by decide) ?_
    refine lv_iadd hx hb dX6_type_99 ?_
    obtain ⟨M10, e11, hf⟩ := bindS hf
    refine pt_X6_56 C w e11 dX6_type_100 (fun H locs w => ?_)
    refine lv_iload hx hb dX6_type_103 (lv_at hl 0 rfl) ?_
    exact g_iret C w hr hq hf dX6_type_105
  · replace hf := (if_neg c1).symm.trans hf
    refine lv_bipush (v := -104) hx hb dX6_type_65 (by decide) ?_
    exact g_iret C w hr hq hf dX6_type_67
set_option maxRecDepth 100000 in
set_option maxHeartbeats 4000000 in
theorem w_X6_type_32 (C : gC p s m args c RX6 cX6_type 5 D (xty cI cT cS) 241 (xE cI cT cS) ad) (hr : meth.sig.returnType = (some .int)) (hq : meth.locks = false) {Rs : Int32 × Mem} {x1 : Int32} {x2 : Int32} {x3 : Int32} (w : gWd D 241 (xE cI cT cS) ad M s H locs) (hl : lv_has ls 5 [(0, .ref (ad 0)), (1, .int x1), (2, .int x2), (3, .int x3)]) (hf : f_X6_type_32  x1 x2 x3 M = some Rs) : W p l e (rmH 4) s m args below meth c H locs 0 0 (MQ below (qI D 241 (xE cI cT cS) ad Rs) args s 0 0 (gA 241 ad)) (F0 m 32 ls []) := by
  unfold f_X6_type_32 at hf
  have hx := C.1.1
  have hb := C.1.2.1
  have hi := C.2.2.2.1
  refine lv_iload_n hx hb dX6_type_32 rfl (lv_at hl 3 rfl) ?_
  refine lv_if_eq (tgt := 56) hx hb dX6_type_33 (by decide) (fun c1 => ?_) (fun c1 => ?_)
  · replace hf := (if_pos c1).symm.trans hf
    exact w_X6_type_56 C hr hq w (lv_sub hl [0, 1, 2, 3] rfl) hf
  · replace hf := (if_neg c1).symm.trans hf
    refine lv_iload_n hx hb dX6_type_36 rfl (lv_at hl 2 rfl) ?_
    refine lv_iconst (v := -1) hx hb dX6_type_37 (by decide) ?_
    refine lv_icmp_eq (tgt := 56) hx hb dX6_type_38 (by decide) (fun c2 => ?_) (fun c2 => ?_)
    · replace hf := (if_pos c2).symm.trans hf
      exact w_X6_type_56 C hr hq w (lv_sub hl [0, 1, 2, 3] rfl) hf
    · replace hf := (if_neg c2).symm.trans hf
      refine lv_aload_n hx hb dX6_type_41 rfl (lv_at hl 0 rfl) ?_
      refine gt_X6_11 C w dX6_type_42 ?_
      refine lv_iload_n hx hb dX6_type_45 rfl (lv_at hl 2 rfl) ?_
      obtain ⟨t3, e4, hf⟩ := bindS hf
      refine g_aald (t0 := 1) C w rf_T rfl e4 dX6_type_46 ?_
      refine gt_X6_52 ⟨t3, ixQ_lt e4, rfl⟩ C w dX6_type_47 ?_
      refine lv_if_ne (tgt := 56) hx hb dX6_type_50 (by decide) (fun c5 => ?_) (fun c5 => ?_)
      · replace hf := (if_neg c5).symm.trans hf
        exact w_X6_type_56 C hr hq w (lv_sub hl [0, 1, 2, 3] rfl) hf
      · replace hf := (if_pos c5).symm.trans hf
        refine lv_bipush (v := -103) hx hb dX6_type_53 (by decide) ?_
        exact g_iret C w hr hq hf dX6_type_55
set_option maxRecDepth 100000 in
set_option maxHeartbeats 4000000 in
theorem w_X6_type_0 (C : gC p s m args c RX6 cX6_type 5 D (xty cI cT cS) 241 (xE cI cT cS) ad) (hr : meth.sig.returnType = (some .int)) (hq : meth.locks = false) {Rs : Int32 × Mem} {x1 : Int32} {x2 : Int32} {x3 : Int32} (w : gWd D 241 (xE cI cT cS) ad M s H locs) (hl : lv_has ls 5 [(0, .ref (ad 0)), (1, .int x1), (2, .int x2), (3, .int x3)]) (hf : f_X6_type_0  x1 x2 x3 M = some Rs) : W p l e (rmH 4) s m args below meth c H locs 0 0 (MQ below (qI D 241 (xE cI cT cS) ad Rs) args s 0 0 (gA 241 ad)) (F0 m 0 ls []) := by
  unfold f_X6_type_0 at hf
  have hx := C.1.1
  have hb := C.1.2.1
  have hi := C.2.2.2.1
  refine lv_iload_n hx hb dX6_type_0 rfl (lv_at hl 1 rfl) ?_
  refine lv_iconst (v := 0) hx hb dX6_type_1 (by decide) ?_
  refine lv_iconst (v := 2) hx hb dX6_type_2 (by decide) ?_
  obtain ⟨⟨v3, M1⟩, e2, hf⟩ := bindS hf
  refine g_backI w (g_runS (rest := []) C w (c_X6_within hi  e2) gs_X6_44 md_X6_within rfl (by omega) (by decide) hl.1 rfl (Nat.le_of_ble_eq_true rfl) dX6_type_3) (fun H locs w => ?_)
  refine lv_if_ne (tgt := 12) hx hb dX6_type_6 (by decide) (fun c4 => ?_) (fun c4 => ?_)
  · replace hf := (if_neg c4).symm.trans hf
    refine lv_iload_n hx hb dX6_type_12 rfl (lv_at hl 2 rfl) ?_
    refine lv_iconst (v := -1) hx hb dX6_type_13 (by decide) ?_
    refine lv_icmp_eq (tgt := 32) hx hb dX6_type_14 (by decide) (fun c5 => ?_) (fun c5 => ?_)
    · replace hf := (if_pos c5).symm.trans hf
      exact w_X6_type_32 C hr hq w (lv_sub hl [0, 1, 2, 3] rfl) hf
    · replace hf := (if_neg c5).symm.trans hf
      refine lv_iload_n hx hb dX6_type_17 rfl (lv_at hl 1 rfl) ?_
      refine lv_if_ne (tgt := 29) hx hb dX6_type_18 (by decide) (fun c6 => ?_) (fun c6 => ?_)
      · replace hf := (if_neg c6).symm.trans hf
        refine lv_bipush (v := -101) hx hb dX6_type_29 (by decide) ?_
        exact g_iret C w hr hq hf dX6_type_31
      · replace hf := (if_pos c6).symm.trans hf
        refine lv_aload_n hx hb dX6_type_21 rfl (lv_at hl 0 rfl) ?_
        refine lv_iload_n hx hb dX6_type_22 rfl (lv_at hl 2 rfl) ?_
        obtain ⟨⟨v9, M7⟩, e8, hf⟩ := bindS hf
        refine g_backI w (g_runV (rest := []) C w (c_X6_isClass hi  e8) ob_X6 rfl gv_X6_48 md_X6_isClass rfl (by omega) (by decide) hl.1 rfl (Nat.le_of_ble_eq_true rfl) dX6_type_23) (fun H locs w => ?_)
        refine lv_if_ne (tgt := 32) hx hb dX6_type_26 (by decide) (fun c10 => ?_) (fun c10 => ?_)
        · replace hf := (if_neg c10).symm.trans hf
          exact w_X6_type_32 C hr hq w (lv_sub hl [0, 1, 2, 3] rfl) hf
        · replace hf := (if_pos c10).symm.trans hf
          refine lv_bipush (v := -101) hx hb dX6_type_29 (by decide) ?_
          exact g_iret C w hr hq hf dX6_type_31
  · replace hf := (if_pos c4).symm.trans hf
    refine lv_bipush (v := -102) hx hb dX6_type_9 (by decide) ?_
    exact g_iret C w hr hq hf dX6_type_11
abbrev f_X6_type (x1 : Int32) (x2 : Int32) (x3 : Int32) (M : Mem) : Option (Int32 × Mem) := f_X6_type_0 x1 x2 x3 M
theorem c_X6_type (hi : gInj 241 ad) {x1 : Int32} {x2 : Int32} {x3 : Int32} {Rs : Int32 × Mem} (hf : f_X6_type x1 x2 x3 M = some Rs) : gMet l yX6_type cX6_type 5 (some .int) 4 D (xty cI cT cS) 241 (xE cI cT cS) ad [.ref (ad 0), .int x1, .int x2, .int x3] M (qI D 241 (xE cI cT cS) ad Rs) := gMet_of (by decide) hi (xE_loc cI cT cS) (Nat.le_of_ble_eq_true rfl) (fun p e s m args below meth c ls C hr hq w hl => w_X6_type_0 C hr hq  w hl hf)
def f_X6_face_101b (k101_ : (Nat → Int32 → Mem → Option (Int32 × Mem))) (k3 : Nat) (x4 : Int32) (M : Mem) : Option (Int32 × Mem) :=
  if (M 0 5) ≤ x4 then (some ((M (k3 + 1) 1), M)) else ((f_X6_arrange x4 M).bind fun (v4, M2) =>
  k101_ k3 (x4 + 1) M2)
def f_X6_face_101 : Nat → Nat → Int32 → Mem → Option (Int32 × Mem)
  | 0, _, _, _ => none
  | n + 1, k3, x4, M => f_X6_face_101b (f_X6_face_101  n) k3 x4 M
def f_X6_face_62 (x1 : Int32) (x2 : Int32) (k3 : Nat) (M : Mem) : Option (Int32 × Mem) :=
  (f_X2_has (k3 + 1) x2 M).bind fun (v3, M1) =>
  if v3 = 0 then (if (M1 (k3 + 1) 1) < (3 : Int32) then ((f_X2_addOnce (k3 + 1) x2 M1).bind fun (v8, M6) =>
  f_X6_face_101 FU k3 x1 M6) else (some ((-104 : Int32), M1))) else (some ((-103 : Int32), M1))
def f_X6_face_0 (x1 : Int32) (x2 : Int32) (M : Mem) : Option (Int32 × Mem) :=
  (f_X6_isType x1 M).bind fun (v3, M1) =>
  if v3 = 0 then (some ((-101 : Int32), M1)) else ((f_X6_isType x2 M1).bind fun (v7, M5) =>
  if v7 = 0 then (some ((-101 : Int32), M5)) else (if x1 ≤ x2 then (some ((-101 : Int32), M5)) else ((ixQ 16 x2).bind fun t10 =>
  if (M5 (33 + 13 * t10) 0) = 0 then (some ((-101 : Int32), M5)) else ((ixQ 16 x1).bind fun t13 =>
  if (M5 (33 + 13 * t13) 2) = 0 then (f_X6_face_62 x1 x2 (33 + 13 * t13) M5) else ((ixQ 16 x2).bind fun t16 =>
  if (M5 (33 + 13 * t16) 2) = 0 then (some ((-103 : Int32), M5)) else (f_X6_face_62 x1 x2 (33 + 13 * t13) M5))))))
set_option maxRecDepth 100000 in
set_option maxHeartbeats 4000000 in
theorem w_X6_face_101b (C : gC p s m args c RX6 cX6_face 5 D (xty cI cT cS) 241 (xE cI cT cS) ad) (hr : meth.sig.returnType = (some .int)) (hq : meth.locks = false) {k101_ : (Nat → Int32 → Mem → Option (Int32 × Mem))} {Rs : Int32 × Mem} (hk101_ : ∀ {k3 : Nat} {x4 : Int32} {M : Mem} {H : Heap} {locs : List Loc} {ls : Array Slot} (h3 : xT k3), gWd D 241 (xE cI cT cS) ad M s H locs → lv_has ls 5 [(0, .ref (ad 0)), (3, .ref (ad k3)), (4, .int x4)] → k101_ k3 x4 M = some Rs → W p l e (rmH 4) s m args below meth c H locs 0 0 (MQ below (qI D 241 (xE cI cT cS) ad Rs) args s 0 0 (gA 241 ad)) (F0 m 101 ls [])) {k3 : Nat} {x4 : Int32} (h3 : xT k3) (w : gWd D 241 (xE cI cT cS) ad M s H locs) (hl : lv_has ls 5 [(0, .ref (ad 0)), (3, .ref (ad k3)), (4, .int x4)]) (hf : f_X6_face_101b k101_ k3 x4 M = some Rs) : W p l e (rmH 4) s m args below meth c H locs 0 0 (MQ below (qI D 241 (xE cI cT cS) ad Rs) args s 0 0 (gA 241 ad)) (F0 m 101 ls []) := by
  unfold f_X6_face_101b at hf
  have hx := C.1.1
  have hb := C.1.2.1
  have hi := C.2.2.2.1
  refine lv_iload hx hb dX6_face_101 (lv_at hl 2 rfl) ?_
  refine lv_aload_n hx hb dX6_face_103 rfl (lv_at hl 0 rfl) ?_
  refine gt_X6_56 C w dX6_face_104 ?_
  refine lv_icmp_ge (tgt := 122) hx hb dX6_face_107 (by decide) (fun c1 => ?_) (fun c1 => ?_)
  · replace hf := (if_pos c1).symm.trans hf
    refine lv_aload_n hx hb dX6_face_122 rfl (lv_at hl 1 rfl) ?_
    refine gt_X6_74 h3 C w dX6_face_123 ?_
    refine gt_X6_83 (xT_r1 h3) C w dX6_face_126 ?_
    exact g_iret C w hr hq hf dX6_face_129
  · replace hf := (if_neg c1).symm.trans hf
    refine lv_aload_n hx hb dX6_face_110 rfl (lv_at hl 0 rfl) ?_
    refine lv_iload hx hb dX6_face_111 (lv_at hl 2 rfl) ?_
    obtain ⟨⟨v4, M2⟩, e3, hf⟩ := bindS hf
    refine g_backV w (g_runV (rest := []) C w (c_X6_arrange hi  e3) ob_X6 rfl gv_X6_64 md_X6_arrange rfl (by omega) (by decide) hl.1 rfl (Nat.le_of_ble_eq_true rfl) dX6_face_113) (fun H locs w => ?_)
    refine lv_iinc (v := (x4 + 1)) (lv' := [(4, .int (x4 + 1)), (0, .ref (ad 0)), (3, .ref (ad k3))]) hx hb dX6_face_116 hl (k := 2) rfl rfl (by decide) rfl (fun ls hl => ?_)
    refine lv_goto (tgt := 101) hx hb dX6_face_119 (by decide) ?_
    exact hk101_ h3 w (lv_sub hl [1, 2, 0] rfl) hf
theorem w_X6_face_101 (C : gC p s m args c RX6 cX6_face 5 D (xty cI cT cS) 241 (xE cI cT cS) ad) (hr : meth.sig.returnType = (some .int)) (hq : meth.locks = false) {Rs : Int32 × Mem} : ∀ (n : Nat) {k3 : Nat} {x4 : Int32} {M : Mem} {H : Heap} {locs : List Loc} {ls : Array Slot} (h3 : xT k3), gWd D 241 (xE cI cT cS) ad M s H locs → lv_has ls 5 [(0, .ref (ad 0)), (3, .ref (ad k3)), (4, .int x4)] → f_X6_face_101  n k3 x4 M = some Rs → W p l e (rmH 4) s m args below meth c H locs 0 0 (MQ below (qI D 241 (xE cI cT cS) ad Rs) args s 0 0 (gA 241 ad)) (F0 m 101 ls []) := by
  intro n
  induction n with
  | zero =>
    intro k3 x4 M H locs ls h3 w hl hf
    cases hf
  | succ n ih =>
    intro k3 x4 M H locs ls h3 w hl hf
    exact w_X6_face_101b C hr hq ih h3 w hl hf
set_option maxRecDepth 100000 in
set_option maxHeartbeats 4000000 in
theorem w_X6_face_62 (C : gC p s m args c RX6 cX6_face 5 D (xty cI cT cS) 241 (xE cI cT cS) ad) (hr : meth.sig.returnType = (some .int)) (hq : meth.locks = false) {Rs : Int32 × Mem} {x1 : Int32} {x2 : Int32} {k3 : Nat} (h3 : xT k3) (w : gWd D 241 (xE cI cT cS) ad M s H locs) (hl : lv_has ls 5 [(0, .ref (ad 0)), (1, .int x1), (2, .int x2), (3, .ref (ad k3))]) (hf : f_X6_face_62  x1 x2 k3 M = some Rs) : W p l e (rmH 4) s m args below meth c H locs 0 0 (MQ below (qI D 241 (xE cI cT cS) ad Rs) args s 0 0 (gA 241 ad)) (F0 m 62 ls []) := by
  unfold f_X6_face_62 at hf
  have hx := C.1.1
  have hb := C.1.2.1
  have hi := C.2.2.2.1
  refine lv_aload_n hx hb dX6_face_62 rfl (lv_at hl 3 rfl) ?_
  refine gt_X6_74 h3 C w dX6_face_63 ?_
  refine lv_iload_n hx hb dX6_face_66 rfl (lv_at hl 2 rfl) ?_
  obtain ⟨⟨v3, M1⟩, e2, hf⟩ := bindS hf
  refine g_backI w (g_runV (rest := []) C w (c_X2_has hi (xT_r1 h3) e2) (ob_X2 (xT_r1 h3)) rfl gv_X6_78 md_X2_has rfl (by omega) (by decide) hl.1 rfl (Nat.le_of_ble_eq_true rfl) dX6_face_67) (fun H locs w => ?_)
  refine lv_if_eq (tgt := 76) hx hb dX6_face_70 (by decide) (fun c4 => ?_) (fun c4 => ?_)
  · replace hf := (if_pos c4).symm.trans hf
    refine lv_aload_n hx hb dX6_face_76 rfl (lv_at hl 3 rfl) ?_
    refine gt_X6_74 h3 C w dX6_face_77 ?_
    refine gt_X6_83 (xT_r1 h3) C w dX6_face_80 ?_
    refine lv_iconst (v := 3) hx hb dX6_face_83 (by decide) ?_
    refine lv_icmp_lt (tgt := 90) hx hb dX6_face_84 (by decide) (fun c5 => ?_) (fun c5 => ?_)
    · replace hf := (if_pos c5).symm.trans hf
      refine lv_aload_n hx hb dX6_face_90 rfl (lv_at hl 3 rfl) ?_
      refine gt_X6_74 h3 C w dX6_face_91 ?_
      refine lv_iload_n hx hb dX6_face_94 rfl (lv_at hl 2 rfl) ?_
      obtain ⟨⟨v8, M6⟩, e7, hf⟩ := bindS hf
      refine g_backV w (g_runV (rest := []) C w (c_X2_addOnce hi (xT_r1 h3) e7) (ob_X2 (xT_r1 h3)) rfl gv_X6_86 md_X2_addOnce rfl (by omega) (by decide) hl.1 rfl (Nat.le_of_ble_eq_true rfl) dX6_face_95) (fun H locs w => ?_)
      refine lv_iload_n hx hb dX6_face_98 rfl (lv_at hl 1 rfl) ?_
      refine lv_istore (lv' := [(4, .int x1), (0, .ref (ad 0)), (1, .int x1), (2, .int x2), (3, .ref (ad k3))]) hx hb dX6_face_99 hl (by decide) rfl (fun ls hl => ?_)
      exact w_X6_face_101 C hr hq FU h3 w (lv_sub hl [1, 4, 0] rfl) hf
    · replace hf := (if_neg c5).symm.trans hf
      refine lv_bipush (v := -104) hx hb dX6_face_87 (by decide) ?_
      exact g_iret C w hr hq hf dX6_face_89
  · replace hf := (if_neg c4).symm.trans hf
    refine lv_bipush (v := -103) hx hb dX6_face_73 (by decide) ?_
    exact g_iret C w hr hq hf dX6_face_75
set_option maxRecDepth 100000 in
set_option maxHeartbeats 4000000 in
theorem w_X6_face_0 (C : gC p s m args c RX6 cX6_face 5 D (xty cI cT cS) 241 (xE cI cT cS) ad) (hr : meth.sig.returnType = (some .int)) (hq : meth.locks = false) {Rs : Int32 × Mem} {x1 : Int32} {x2 : Int32} (w : gWd D 241 (xE cI cT cS) ad M s H locs) (hl : lv_has ls 5 [(0, .ref (ad 0)), (1, .int x1), (2, .int x2)]) (hf : f_X6_face_0  x1 x2 M = some Rs) : W p l e (rmH 4) s m args below meth c H locs 0 0 (MQ below (qI D 241 (xE cI cT cS) ad Rs) args s 0 0 (gA 241 ad)) (F0 m 0 ls []) := by
  unfold f_X6_face_0 at hf
  have hx := C.1.1
  have hb := C.1.2.1
  have hi := C.2.2.2.1
  refine lv_aload_n hx hb dX6_face_0 rfl (lv_at hl 0 rfl) ?_
  refine lv_iload_n hx hb dX6_face_1 rfl (lv_at hl 1 rfl) ?_
  obtain ⟨⟨v3, M1⟩, e2, hf⟩ := bindS hf
  refine g_backI w (g_runV (rest := []) C w (c_X6_isType hi  e2) ob_X6 rfl gv_X6_68 md_X6_isType rfl (by omega) (by decide) hl.1 rfl (Nat.le_of_ble_eq_true rfl) dX6_face_2) (fun H locs w => ?_)
  refine lv_if_eq (tgt := 33) hx hb dX6_face_5 (by decide) (fun c4 => ?_) (fun c4 => ?_)
  · replace hf := (if_pos c4).symm.trans hf
    refine lv_bipush (v := -101) hx hb dX6_face_33 (by decide) ?_
    exact g_iret C w hr hq hf dX6_face_35
  · replace hf := (if_neg c4).symm.trans hf
    refine lv_aload_n hx hb dX6_face_8 rfl (lv_at hl 0 rfl) ?_
    refine lv_iload_n hx hb dX6_face_9 rfl (lv_at hl 2 rfl) ?_
    obtain ⟨⟨v7, M5⟩, e6, hf⟩ := bindS hf
    refine g_backI w (g_runV (rest := []) C w (c_X6_isType hi  e6) ob_X6 rfl gv_X6_68 md_X6_isType rfl (by omega) (by decide) hl.1 rfl (Nat.le_of_ble_eq_true rfl) dX6_face_10) (fun H locs w => ?_)
    refine lv_if_eq (tgt := 33) hx hb dX6_face_13 (by decide) (fun c8 => ?_) (fun c8 => ?_)
    · replace hf := (if_pos c8).symm.trans hf
      refine lv_bipush (v := -101) hx hb dX6_face_33 (by decide) ?_
      exact g_iret C w hr hq hf dX6_face_35
    · replace hf := (if_neg c8).symm.trans hf
      refine lv_iload_n hx hb dX6_face_16 rfl (lv_at hl 2 rfl) ?_
      refine lv_iload_n hx hb dX6_face_17 rfl (lv_at hl 1 rfl) ?_
      refine lv_icmp_ge (tgt := 33) hx hb dX6_face_18 (by decide) (fun c9 => ?_) (fun c9 => ?_)
      · replace hf := (if_pos c9).symm.trans hf
        refine lv_bipush (v := -101) hx hb dX6_face_33 (by decide) ?_
        exact g_iret C w hr hq hf dX6_face_35
      · replace hf := (if_neg c9).symm.trans hf
        refine lv_aload_n hx hb dX6_face_21 rfl (lv_at hl 0 rfl) ?_
        refine gt_X6_11 C w dX6_face_22 ?_
        refine lv_iload_n hx hb dX6_face_25 rfl (lv_at hl 2 rfl) ?_
        obtain ⟨t10, e11, hf⟩ := bindS hf
        refine g_aald (t0 := 1) C w rf_T rfl e11 dX6_face_26 ?_
        refine gt_X6_71 ⟨t10, ixQ_lt e11, rfl⟩ C w dX6_face_27 ?_
        refine lv_if_ne (tgt := 36) hx hb dX6_face_30 (by decide) (fun c12 => ?_) (fun c12 => ?_)
        · replace hf := (if_neg c12).symm.trans hf
          refine lv_aload_n hx hb dX6_face_36 rfl (lv_at hl 0 rfl) ?_
          refine gt_X6_11 C w dX6_face_37 ?_
          refine lv_iload_n hx hb dX6_face_40 rfl (lv_at hl 1 rfl) ?_
          obtain ⟨t13, e14, hf⟩ := bindS hf
          refine g_aald (t0 := 1) C w rf_T rfl e14 dX6_face_41 ?_
          refine lv_astore_n (lv' := [(3, .ref (ad (33 + 13 * t13))), (0, .ref (ad 0)), (1, .int x1), (2, .int x2)]) hx hb dX6_face_42 rfl hl (by decide) rfl (fun ls hl => ?_)
          refine lv_aload_n hx hb dX6_face_43 rfl (lv_at hl 0 rfl) ?_
          refine gt_X6_52 ⟨t13, ixQ_lt e14, rfl⟩ C w dX6_face_44 ?_
          refine lv_if_eq (tgt := 62) hx hb dX6_face_47 (by decide) (fun c15 => ?_) (fun c15 => ?_)
          · replace hf := (if_pos c15).symm.trans hf
            exact w_X6_face_62 C hr hq ⟨t13, ixQ_lt e14, rfl⟩ w (lv_sub hl [1, 2, 3, 0] rfl) hf
          · replace hf := (if_neg c15).symm.trans hf
            refine lv_aload_n hx hb dX6_face_50 rfl (lv_at hl 1 rfl) ?_
            refine gt_X6_11 C w dX6_face_51 ?_
            refine lv_iload_n hx hb dX6_face_54 rfl (lv_at hl 3 rfl) ?_
            obtain ⟨t16, e17, hf⟩ := bindS hf
            refine g_aald (t0 := 1) C w rf_T rfl e17 dX6_face_55 ?_
            refine gt_X6_52 ⟨t16, ixQ_lt e17, rfl⟩ C w dX6_face_56 ?_
            refine lv_if_eq (tgt := 73) hx hb dX6_face_59 (by decide) (fun c18 => ?_) (fun c18 => ?_)
            · replace hf := (if_pos c18).symm.trans hf
              refine lv_bipush (v := -103) hx hb dX6_face_73 (by decide) ?_
              exact g_iret C w hr hq hf dX6_face_75
            · replace hf := (if_neg c18).symm.trans hf
              exact w_X6_face_62 C hr hq ⟨t13, ixQ_lt e14, rfl⟩ w (lv_sub hl [1, 2, 3, 0] rfl) hf
        · replace hf := (if_pos c12).symm.trans hf
          refine lv_bipush (v := -101) hx hb dX6_face_33 (by decide) ?_
          exact g_iret C w hr hq hf dX6_face_35
abbrev f_X6_face (x1 : Int32) (x2 : Int32) (M : Mem) : Option (Int32 × Mem) := f_X6_face_0 x1 x2 M
theorem c_X6_face (hi : gInj 241 ad) {x1 : Int32} {x2 : Int32} {Rs : Int32 × Mem} (hf : f_X6_face x1 x2 M = some Rs) : gMet l yX6_face cX6_face 5 (some .int) 4 D (xty cI cT cS) 241 (xE cI cT cS) ad [.ref (ad 0), .int x1, .int x2] M (qI D 241 (xE cI cT cS) ad Rs) := gMet_of (by decide) hi (xE_loc cI cT cS) (Nat.le_of_ble_eq_true rfl) (fun p e s m args below meth c ls C hr hq w hl => w_X6_face_0 C hr hq  w hl hf)
def f_X6_field_33 (x1 : Int32) (x2 : Int32) (x3 : Int32) (x4 : Int32) (M : Mem) : Option (Int32 × Mem) :=
  if x3 = 0 then ((ixQ 16 x1).bind fun t10 =>
  (stI M ((33 + 13 * t10) + 7) 5 x2 (2 : Int32)).bind fun M12 =>
  some ((0 : Int32), M12)) else ((ixQ 16 x1).bind fun t2 =>
  (stI M ((33 + 13 * t2) + 7) 5 x2 (1 : Int32)).bind fun M4 =>
  (ixQ 16 x1).bind fun t6 =>
  (stI M4 ((33 + 13 * t6) + 8) 5 x2 x4).bind fun M8 =>
  some ((1 : Int32), M8))
def f_X6_field_0 (x1 : Int32) (x2 : Int32) (x3 : Int32) (x4 : Int32) (M : Mem) : Option (Int32 × Mem) :=
  (f_X6_isType x1 M).bind fun (v3, M1) =>
  if v3 = 0 then (some ((-101 : Int32), M1)) else ((f_X6_isField x2 M1).bind fun (v7, M5) =>
  if v7 = 0 then (some ((-102 : Int32), M5)) else (if x3 = 0 then (f_X6_field_33 x1 x2 x3 x4 M5) else ((f_X6_isNumber x4 M5).bind fun (v12, M10) =>
  if v12 = 0 then (some ((-102 : Int32), M10)) else (f_X6_field_33 x1 x2 x3 x4 M10))))
set_option maxRecDepth 100000 in
set_option maxHeartbeats 4000000 in
theorem w_X6_field_33 (C : gC p s m args c RX6 cX6_field 5 D (xty cI cT cS) 241 (xE cI cT cS) ad) (hr : meth.sig.returnType = (some .int)) (hq : meth.locks = false) {Rs : Int32 × Mem} {x1 : Int32} {x2 : Int32} {x3 : Int32} {x4 : Int32} (w : gWd D 241 (xE cI cT cS) ad M s H locs) (hl : lv_has ls 5 [(0, .ref (ad 0)), (1, .int x1), (2, .int x2), (3, .int x3), (4, .int x4)]) (hf : f_X6_field_33  x1 x2 x3 x4 M = some Rs) : W p l e (rmH 2) s m args below meth c H locs 0 0 (MQ below (qI D 241 (xE cI cT cS) ad Rs) args s 0 0 (gA 241 ad)) (F0 m 33 ls []) := by
  unfold f_X6_field_33 at hf
  have hx := C.1.1
  have hb := C.1.2.1
  have hi := C.2.2.2.1
  refine lv_iload_n hx hb dX6_field_33 rfl (lv_at hl 3 rfl) ?_
  refine lv_if_ne (tgt := 51) hx hb dX6_field_34 (by decide) (fun c1 => ?_) (fun c1 => ?_)
  · replace hf := (if_neg c1).symm.trans hf
    refine lv_aload_n hx hb dX6_field_51 rfl (lv_at hl 0 rfl) ?_
    refine gt_X6_11 C w dX6_field_52 ?_
    refine lv_iload_n hx hb dX6_field_55 rfl (lv_at hl 1 rfl) ?_
    obtain ⟨t2, e3, hf⟩ := bindS hf
    refine g_aald (t0 := 1) C w rf_T rfl e3 dX6_field_56 ?_
    refine gt_X6_95 ⟨t2, ixQ_lt e3, rfl⟩ C w dX6_field_57 ?_
    refine lv_iload_n hx hb dX6_field_60 rfl (lv_at hl 2 rfl) ?_
    refine lv_iconst (v := 1) hx hb dX6_field_61 (by decide) ?_
    obtain ⟨M4, e5, hf⟩ := bindS hf
    refine g_iast C w (xT_a7 ⟨t2, ixQ_lt e3, rfl⟩) e5 dX6_field_62 (fun H locs w => ?_)
    refine lv_aload_n hx hb dX6_field_63 rfl (lv_at hl 0 rfl) ?_
    refine gt_X6_11 C w dX6_field_64 ?_
    refine lv_iload_n hx hb dX6_field_67 rfl (lv_at hl 1 rfl) ?_
    obtain ⟨t6, e7, hf⟩ := bindS hf
    refine g_aald (t0 := 1) C w rf_T rfl e7 dX6_field_68 ?_
    refine gt_X6_99 ⟨t6, ixQ_lt e7, rfl⟩ C w dX6_field_69 ?_
    refine lv_iload_n hx hb dX6_field_72 rfl (lv_at hl 2 rfl) ?_
    refine lv_iload hx hb dX6_field_73 (lv_at hl 4 rfl) ?_
    obtain ⟨M8, e9, hf⟩ := bindS hf
    refine g_iast C w (xT_a8 ⟨t6, ixQ_lt e7, rfl⟩) e9 dX6_field_75 (fun H locs w => ?_)
    refine lv_iconst (v := 1) hx hb dX6_field_76 (by decide) ?_
    exact g_iret C w hr hq hf dX6_field_77
  · replace hf := (if_pos c1).symm.trans hf
    refine lv_aload_n hx hb dX6_field_37 rfl (lv_at hl 0 rfl) ?_
    refine gt_X6_11 C w dX6_field_38 ?_
    refine lv_iload_n hx hb dX6_field_41 rfl (lv_at hl 1 rfl) ?_
    obtain ⟨t10, e11, hf⟩ := bindS hf
    refine g_aald (t0 := 1) C w rf_T rfl e11 dX6_field_42 ?_
    refine gt_X6_95 ⟨t10, ixQ_lt e11, rfl⟩ C w dX6_field_43 ?_
    refine lv_iload_n hx hb dX6_field_46 rfl (lv_at hl 2 rfl) ?_
    refine lv_iconst (v := 2) hx hb dX6_field_47 (by decide) ?_
    obtain ⟨M12, e13, hf⟩ := bindS hf
    refine g_iast C w (xT_a7 ⟨t10, ixQ_lt e11, rfl⟩) e13 dX6_field_48 (fun H locs w => ?_)
    refine lv_iconst (v := 0) hx hb dX6_field_49 (by decide) ?_
    exact g_iret C w hr hq hf dX6_field_50
set_option maxRecDepth 100000 in
set_option maxHeartbeats 4000000 in
theorem w_X6_field_0 (C : gC p s m args c RX6 cX6_field 5 D (xty cI cT cS) 241 (xE cI cT cS) ad) (hr : meth.sig.returnType = (some .int)) (hq : meth.locks = false) {Rs : Int32 × Mem} {x1 : Int32} {x2 : Int32} {x3 : Int32} {x4 : Int32} (w : gWd D 241 (xE cI cT cS) ad M s H locs) (hl : lv_has ls 5 [(0, .ref (ad 0)), (1, .int x1), (2, .int x2), (3, .int x3), (4, .int x4)]) (hf : f_X6_field_0  x1 x2 x3 x4 M = some Rs) : W p l e (rmH 2) s m args below meth c H locs 0 0 (MQ below (qI D 241 (xE cI cT cS) ad Rs) args s 0 0 (gA 241 ad)) (F0 m 0 ls []) := by
  unfold f_X6_field_0 at hf
  have hx := C.1.1
  have hb := C.1.2.1
  have hi := C.2.2.2.1
  refine lv_aload_n hx hb dX6_field_0 rfl (lv_at hl 0 rfl) ?_
  refine lv_iload_n hx hb dX6_field_1 rfl (lv_at hl 1 rfl) ?_
  obtain ⟨⟨v3, M1⟩, e2, hf⟩ := bindS hf
  refine g_backI w (g_runV (rest := []) C w (c_X6_isType hi  e2) ob_X6 rfl gv_X6_68 md_X6_isType rfl (by omega) (by decide) hl.1 rfl (Nat.le_of_ble_eq_true rfl) dX6_field_2) (fun H locs w => ?_)
  refine lv_if_ne (tgt := 11) hx hb dX6_field_5 (by decide) (fun c4 => ?_) (fun c4 => ?_)
  · replace hf := (if_neg c4).symm.trans hf
    refine lv_iload_n hx hb dX6_field_11 rfl (lv_at hl 2 rfl) ?_
    obtain ⟨⟨v7, M5⟩, e6, hf⟩ := bindS hf
    refine g_backI w (g_runS (rest := []) C w (c_X6_isField hi  e6) gs_X6_89 md_X6_isField rfl (by omega) (by decide) hl.1 rfl (Nat.le_of_ble_eq_true rfl) dX6_field_12) (fun H locs w => ?_)
    refine lv_if_eq (tgt := 30) hx hb dX6_field_15 (by decide) (fun c8 => ?_) (fun c8 => ?_)
    · replace hf := (if_pos c8).symm.trans hf
      refine lv_bipush (v := -102) hx hb dX6_field_30 (by decide) ?_
      exact g_iret C w hr hq hf dX6_field_32
    · replace hf := (if_neg c8).symm.trans hf
      refine lv_iload_n hx hb dX6_field_18 rfl (lv_at hl 3 rfl) ?_
      refine lv_if_eq (tgt := 33) hx hb dX6_field_19 (by decide) (fun c9 => ?_) (fun c9 => ?_)
      · replace hf := (if_pos c9).symm.trans hf
        exact w_X6_field_33 C hr hq w (lv_sub hl [0, 1, 2, 3, 4] rfl) hf
      · replace hf := (if_neg c9).symm.trans hf
        refine lv_iload hx hb dX6_field_22 (lv_at hl 4 rfl) ?_
        obtain ⟨⟨v12, M10⟩, e11, hf⟩ := bindS hf
        refine g_backI w (g_runS (rest := []) C w (c_X6_isNumber hi  e11) gs_X6_92 md_X6_isNumber rfl (by omega) (by decide) hl.1 rfl (Nat.le_of_ble_eq_true rfl) dX6_field_24) (fun H locs w => ?_)
        refine lv_if_ne (tgt := 33) hx hb dX6_field_27 (by decide) (fun c13 => ?_) (fun c13 => ?_)
        · replace hf := (if_neg c13).symm.trans hf
          exact w_X6_field_33 C hr hq w (lv_sub hl [0, 1, 2, 3, 4] rfl) hf
        · replace hf := (if_pos c13).symm.trans hf
          refine lv_bipush (v := -102) hx hb dX6_field_30 (by decide) ?_
          exact g_iret C w hr hq hf dX6_field_32
  · replace hf := (if_pos c4).symm.trans hf
    refine lv_bipush (v := -101) hx hb dX6_field_8 (by decide) ?_
    exact g_iret C w hr hq hf dX6_field_10
abbrev f_X6_field (x1 : Int32) (x2 : Int32) (x3 : Int32) (x4 : Int32) (M : Mem) : Option (Int32 × Mem) := f_X6_field_0 x1 x2 x3 x4 M
theorem c_X6_field (hi : gInj 241 ad) {x1 : Int32} {x2 : Int32} {x3 : Int32} {x4 : Int32} {Rs : Int32 × Mem} (hf : f_X6_field x1 x2 x3 x4 M = some Rs) : gMet l yX6_field cX6_field 5 (some .int) 2 D (xty cI cT cS) 241 (xE cI cT cS) ad [.ref (ad 0), .int x1, .int x2, .int x3, .int x4] M (qI D 241 (xE cI cT cS) ad Rs) := gMet_of (by decide) hi (xE_loc cI cT cS) (Nat.le_of_ble_eq_true rfl) (fun p e s m args below meth c ls C hr hq w hl => w_X6_field_0 C hr hq  w hl hf)
def f_X6_line_0 (x1 : Int32) (x2 : Int32) (x3 : Int32) (x4 : Int32) (x5 : Int32) (M : Mem) : Option (Int32 × Mem) :=
  (f_X6_isType x1 M).bind fun (v3, M1) =>
  if v3 = 0 then (some ((-101 : Int32), M1)) else ((f_X6_isLine x2 x3 x4 x5 M1).bind fun (v7, M5) =>
  if v7 = 0 then (some ((-102 : Int32), M5)) else ((ixQ 16 x1).bind fun t9 =>
  if (M5 (33 + 13 * t9) 12) < (8 : Int32) then ((ixQ 16 x1).bind fun t12 =>
  (f_X4_addLine (33 + 13 * t12) x2 x3 x4 x5 M5).bind fun (v16, M14) =>
  some (v16, M14)) else (some ((-104 : Int32), M5))))
set_option maxRecDepth 100000 in
set_option maxHeartbeats 4000000 in
theorem w_X6_line_0 (C : gC p s m args c RX6 cX6_line 6 D (xty cI cT cS) 241 (xE cI cT cS) ad) (hr : meth.sig.returnType = (some .int)) (hq : meth.locks = false) {Rs : Int32 × Mem} {x1 : Int32} {x2 : Int32} {x3 : Int32} {x4 : Int32} {x5 : Int32} (w : gWd D 241 (xE cI cT cS) ad M s H locs) (hl : lv_has ls 6 [(0, .ref (ad 0)), (1, .int x1), (2, .int x2), (3, .int x3), (4, .int x4), (5, .int x5)]) (hf : f_X6_line_0  x1 x2 x3 x4 x5 M = some Rs) : W p l e (rmH 3) s m args below meth c H locs 0 0 (MQ below (qI D 241 (xE cI cT cS) ad Rs) args s 0 0 (gA 241 ad)) (F0 m 0 ls []) := by
  unfold f_X6_line_0 at hf
  have hx := C.1.1
  have hb := C.1.2.1
  have hi := C.2.2.2.1
  refine lv_aload_n hx hb dX6_line_0 rfl (lv_at hl 0 rfl) ?_
  refine lv_iload_n hx hb dX6_line_1 rfl (lv_at hl 1 rfl) ?_
  obtain ⟨⟨v3, M1⟩, e2, hf⟩ := bindS hf
  refine g_backI w (g_runV (rest := []) C w (c_X6_isType hi  e2) ob_X6 rfl gv_X6_68 md_X6_isType rfl (by omega) (by decide) hl.1 rfl (Nat.le_of_ble_eq_true rfl) dX6_line_2) (fun H locs w => ?_)
  refine lv_if_ne (tgt := 11) hx hb dX6_line_5 (by decide) (fun c4 => ?_) (fun c4 => ?_)
  · replace hf := (if_neg c4).symm.trans hf
    refine lv_iload_n hx hb dX6_line_11 rfl (lv_at hl 2 rfl) ?_
    refine lv_iload_n hx hb dX6_line_12 rfl (lv_at hl 3 rfl) ?_
    refine lv_iload hx hb dX6_line_13 (lv_at hl 4 rfl) ?_
    refine lv_iload hx hb dX6_line_15 (lv_at hl 5 rfl) ?_
    obtain ⟨⟨v7, M5⟩, e6, hf⟩ := bindS hf
    refine g_backI w (g_runS (rest := []) C w (c_X6_isLine hi  e6) gs_X6_102 md_X6_isLine rfl (by omega) (by decide) hl.1 rfl (Nat.le_of_ble_eq_true rfl) dX6_line_17) (fun H locs w => ?_)
    refine lv_if_ne (tgt := 26) hx hb dX6_line_20 (by decide) (fun c8 => ?_) (fun c8 => ?_)
    · replace hf := (if_neg c8).symm.trans hf
      refine lv_aload_n hx hb dX6_line_26 rfl (lv_at hl 0 rfl) ?_
      refine gt_X6_11 C w dX6_line_27 ?_
      refine lv_iload_n hx hb dX6_line_30 rfl (lv_at hl 1 rfl) ?_
      obtain ⟨t9, e10, hf⟩ := bindS hf
      refine g_aald (t0 := 1) C w rf_T rfl e10 dX6_line_31 ?_
      refine gt_X6_106 ⟨t9, ixQ_lt e10, rfl⟩ C w dX6_line_32 ?_
      refine lv_bipush (v := 8) hx hb dX6_line_35 (by decide) ?_
      refine lv_icmp_lt (tgt := 43) hx hb dX6_line_37 (by decide) (fun c11 => ?_) (fun c11 => ?_)
      · replace hf := (if_pos c11).symm.trans hf
        refine lv_aload_n hx hb dX6_line_43 rfl (lv_at hl 0 rfl) ?_
        refine gt_X6_11 C w dX6_line_44 ?_
        refine lv_iload_n hx hb dX6_line_47 rfl (lv_at hl 1 rfl) ?_
        obtain ⟨t12, e13, hf⟩ := bindS hf
        refine g_aald (t0 := 1) C w rf_T rfl e13 dX6_line_48 ?_
        refine lv_iload_n hx hb dX6_line_49 rfl (lv_at hl 2 rfl) ?_
        refine lv_iload_n hx hb dX6_line_50 rfl (lv_at hl 3 rfl) ?_
        refine lv_iload hx hb dX6_line_51 (lv_at hl 4 rfl) ?_
        refine lv_iload hx hb dX6_line_53 (lv_at hl 5 rfl) ?_
        obtain ⟨⟨v16, M14⟩, e15, hf⟩ := bindS hf
        refine g_backI w (g_runV (rest := []) C w (c_X4_addLine hi ⟨t12, ixQ_lt e13, rfl⟩ e15) (ob_X4 ⟨t12, ixQ_lt e13, rfl⟩) rfl gv_X6_109 md_X4_addLine rfl (by omega) (by decide) hl.1 rfl (Nat.le_of_ble_eq_true rfl) dX6_line_55) (fun H locs w => ?_)
        exact g_iret C w hr hq hf dX6_line_58
      · replace hf := (if_neg c11).symm.trans hf
        refine lv_bipush (v := -104) hx hb dX6_line_40 (by decide) ?_
        exact g_iret C w hr hq hf dX6_line_42
    · replace hf := (if_pos c8).symm.trans hf
      refine lv_bipush (v := -102) hx hb dX6_line_23 (by decide) ?_
      exact g_iret C w hr hq hf dX6_line_25
  · replace hf := (if_pos c4).symm.trans hf
    refine lv_bipush (v := -101) hx hb dX6_line_8 (by decide) ?_
    exact g_iret C w hr hq hf dX6_line_10
abbrev f_X6_line (x1 : Int32) (x2 : Int32) (x3 : Int32) (x4 : Int32) (x5 : Int32) (M : Mem) : Option (Int32 × Mem) := f_X6_line_0 x1 x2 x3 x4 x5 M
theorem c_X6_line (hi : gInj 241 ad) {x1 : Int32} {x2 : Int32} {x3 : Int32} {x4 : Int32} {x5 : Int32} {Rs : Int32 × Mem} (hf : f_X6_line x1 x2 x3 x4 x5 M = some Rs) : gMet l yX6_line cX6_line 6 (some .int) 3 D (xty cI cT cS) 241 (xE cI cT cS) ad [.ref (ad 0), .int x1, .int x2, .int x3, .int x4, .int x5] M (qI D 241 (xE cI cT cS) ad Rs) := gMet_of (by decide) hi (xE_loc cI cT cS) (Nat.le_of_ble_eq_true rfl) (fun p e s m args below meth c ls C hr hq w hl => w_X6_line_0 C hr hq  w hl hf)
def f_X6_use_113 (s1 : Int32) (s2 : Int32) (M : Mem) : Option (Int32 × Mem) :=
  (f_X5_close s1 s2 (M 0 9) M).bind fun (v3, M1) =>
  if (M1 0 7) = 0 then (some ((M1 0 10), M1)) else (some ((0 : Int32), M1))
def f_X6_use_95 (x2 : Int32) (x7 : Int32) (s0 : Int32) (M : Mem) : Option (Int32 × Mem) :=
  if s0 = 0 then (f_X6_use_113 x7 (-1 : Int32) M) else (f_X6_use_113 x7 x2 M)
def f_X6_use_94 (x2 : Int32) (x7 : Int32) (M : Mem) : Option (Int32 × Mem) :=
  f_X6_use_95 x2 x7 (0 : Int32) M
def f_X6_use_0 (x1 : Int32) (x2 : Int32) (x3 : Int32) (x4 : Int32) (x5 : Int32) (M : Mem) : Option (Int32 × Mem) :=
  (f_X6_refusalOfUse x1 x2 x3 x4 x5 M).bind fun (v3, M1) =>
  if v3 = 0 then ((stF M1 0 8 x1).bind fun M5 =>
  (stF M5 0 9 (0 : Int32)).bind fun M7 =>
  (stF M7 0 10 (0 : Int32)).bind fun M9 =>
  (ixQ 4 x1).bind fun t11 =>
  (f_X5_open (M9 (13 + 5 * t11) 3) M9).bind fun (v15, M13) =>
  (ixQ 4 x1).bind fun t16 =>
  (stF M13 (13 + 5 * t16) 3 v15).bind fun M18 =>
  (f_X6_perform x2 x3 x4 x5 M18).bind fun (v22, M20) =>
  (stF M20 0 7 v22).bind fun M23 =>
  if x3 = 0 then (if (M23 0 7) = 0 then (f_X6_use_95 x2 v15 (1 : Int32) M23) else (f_X6_use_94 x2 v15 M23)) else (f_X6_use_94 x2 v15 M23)) else (some (v3, M1))
set_option maxRecDepth 100000 in
set_option maxHeartbeats 4000000 in
theorem w_X6_use_113 (C : gC p s m args c RX6 cX6_use 9 D (xty cI cT cS) 241 (xE cI cT cS) ad) (hr : meth.sig.returnType = (some .int)) (hq : meth.locks = false) {Rs : Int32 × Mem} {s1 : Int32} {s2 : Int32} (w : gWd D 241 (xE cI cT cS) ad M s H locs) (hl : lv_has ls 9 [(0, .ref (ad 0))]) (hf : f_X6_use_113  s1 s2 M = some Rs) : W p l e (rmH 108) s m args below meth c H locs 0 0 (MQ below (qI D 241 (xE cI cT cS) ad Rs) args s 0 0 (gA 241 ad)) (F0 m 113 ls [.int s2, .int s1, .ref (ad 6)]) := by
  unfold f_X6_use_113 at hf
  have hx := C.1.1
  have hb := C.1.2.1
  have hi := C.2.2.2.1
  refine lv_aload_n hx hb dX6_use_113 rfl (lv_at hl 0 rfl) ?_
  refine gt_X6_120 C w dX6_use_114 ?_
  obtain ⟨⟨v3, M1⟩, e2, hf⟩ := bindS hf
  refine g_backV w (g_runV (rest := []) C w (c_X5_close hi  e2) ob_X5 rfl gv_X6_139 md_X5_close rfl (by omega) (by decide) hl.1 rfl (Nat.le_of_ble_eq_true rfl) dX6_use_117) (fun H locs w => ?_)
  refine lv_aload_n hx hb dX6_use_120 rfl (lv_at hl 0 rfl) ?_
  refine gt_X6_136 C w dX6_use_121 ?_
  refine lv_if_ne (tgt := 134) hx hb dX6_use_124 (by decide) (fun c4 => ?_) (fun c4 => ?_)
  · replace hf := (if_neg c4).symm.trans hf
    refine lv_iconst (v := 0) hx hb dX6_use_134 (by decide) ?_
    exact g_iret C w hr hq hf dX6_use_135
  · replace hf := (if_pos c4).symm.trans hf
    refine lv_aload_n hx hb dX6_use_127 rfl (lv_at hl 0 rfl) ?_
    refine gt_X6_123 C w dX6_use_128 ?_
    refine lv_goto (tgt := 135) hx hb dX6_use_131 (by decide) ?_
    exact g_iret C w hr hq hf dX6_use_135
set_option maxRecDepth 100000 in
set_option maxHeartbeats 4000000 in
theorem w_X6_use_95 (C : gC p s m args c RX6 cX6_use 9 D (xty cI cT cS) 241 (xE cI cT cS) ad) (hr : meth.sig.returnType = (some .int)) (hq : meth.locks = false) {Rs : Int32 × Mem} {x2 : Int32} {x7 : Int32} {s0 : Int32} (w : gWd D 241 (xE cI cT cS) ad M s H locs) (hl : lv_has ls 9 [(0, .ref (ad 0)), (2, .int x2), (7, .int x7)]) (hf : f_X6_use_95  x2 x7 s0 M = some Rs) : W p l e (rmH 108) s m args below meth c H locs 0 0 (MQ below (qI D 241 (xE cI cT cS) ad Rs) args s 0 0 (gA 241 ad)) (F0 m 95 ls [.int s0]) := by
  unfold f_X6_use_95 at hf
  have hx := C.1.1
  have hb := C.1.2.1
  have hi := C.2.2.2.1
  refine lv_istore (lv' := [(8, .int s0), (0, .ref (ad 0)), (2, .int x2), (7, .int x7)]) hx hb dX6_use_95 hl (by decide) rfl (fun ls hl => ?_)
  refine lv_aload_n hx hb dX6_use_97 rfl (lv_at hl 1 rfl) ?_
  refine gt_X6_31 C w dX6_use_98 ?_
  refine lv_iload hx hb dX6_use_101 (lv_at hl 3 rfl) ?_
  refine lv_iload hx hb dX6_use_103 (lv_at hl 0 rfl) ?_
  refine lv_if_eq (tgt := 112) hx hb dX6_use_105 (by decide) (fun c1 => ?_) (fun c1 => ?_)
  · replace hf := (if_pos c1).symm.trans hf
    refine lv_iconst (v := -1) hx hb dX6_use_112 (by decide) ?_
    exact w_X6_use_113 C hr hq w (lv_sub hl [1] rfl) hf
  · replace hf := (if_neg c1).symm.trans hf
    refine lv_iload_n hx hb dX6_use_108 rfl (lv_at hl 2 rfl) ?_
    refine lv_goto (tgt := 113) hx hb dX6_use_109 (by decide) ?_
    exact w_X6_use_113 C hr hq w (lv_sub hl [1] rfl) hf
set_option maxRecDepth 100000 in
set_option maxHeartbeats 4000000 in
theorem w_X6_use_94 (C : gC p s m args c RX6 cX6_use 9 D (xty cI cT cS) 241 (xE cI cT cS) ad) (hr : meth.sig.returnType = (some .int)) (hq : meth.locks = false) {Rs : Int32 × Mem} {x2 : Int32} {x7 : Int32} (w : gWd D 241 (xE cI cT cS) ad M s H locs) (hl : lv_has ls 9 [(0, .ref (ad 0)), (2, .int x2), (7, .int x7)]) (hf : f_X6_use_94  x2 x7 M = some Rs) : W p l e (rmH 108) s m args below meth c H locs 0 0 (MQ below (qI D 241 (xE cI cT cS) ad Rs) args s 0 0 (gA 241 ad)) (F0 m 94 ls []) := by
  unfold f_X6_use_94 at hf
  have hx := C.1.1
  have hb := C.1.2.1
  have hi := C.2.2.2.1
  refine lv_iconst (v := 0) hx hb dX6_use_94 (by decide) ?_
  exact w_X6_use_95 C hr hq w (lv_sub hl [0, 1, 2] rfl) hf
set_option maxRecDepth 100000 in
set_option maxHeartbeats 4000000 in
theorem w_X6_use_0 (C : gC p s m args c RX6 cX6_use 9 D (xty cI cT cS) 241 (xE cI cT cS) ad) (hr : meth.sig.returnType = (some .int)) (hq : meth.locks = false) {Rs : Int32 × Mem} {x1 : Int32} {x2 : Int32} {x3 : Int32} {x4 : Int32} {x5 : Int32} (w : gWd D 241 (xE cI cT cS) ad M s H locs) (hl : lv_has ls 9 [(0, .ref (ad 0)), (1, .int x1), (2, .int x2), (3, .int x3), (4, .int x4), (5, .int x5)]) (hf : f_X6_use_0  x1 x2 x3 x4 x5 M = some Rs) : W p l e (rmH 108) s m args below meth c H locs 0 0 (MQ below (qI D 241 (xE cI cT cS) ad Rs) args s 0 0 (gA 241 ad)) (F0 m 0 ls []) := by
  unfold f_X6_use_0 at hf
  have hx := C.1.1
  have hb := C.1.2.1
  have hi := C.2.2.2.1
  refine lv_aload_n hx hb dX6_use_0 rfl (lv_at hl 0 rfl) ?_
  refine lv_iload_n hx hb dX6_use_1 rfl (lv_at hl 1 rfl) ?_
  refine lv_iload_n hx hb dX6_use_2 rfl (lv_at hl 2 rfl) ?_
  refine lv_iload_n hx hb dX6_use_3 rfl (lv_at hl 3 rfl) ?_
  refine lv_iload hx hb dX6_use_4 (lv_at hl 4 rfl) ?_
  refine lv_iload hx hb dX6_use_6 (lv_at hl 5 rfl) ?_
  obtain ⟨⟨v3, M1⟩, e2, hf⟩ := bindS hf
  refine g_backI w (g_runV (rest := []) C w (c_X6_refusalOfUse hi  e2) ob_X6 rfl gv_X6_113 md_X6_refusalOfUse rfl (by omega) (by decide) hl.1 rfl (Nat.le_of_ble_eq_true rfl) dX6_use_8) (fun H locs w => ?_)
  refine lv_istore (lv' := [(6, .int v3), (0, .ref (ad 0)), (1, .int x1), (2, .int x2), (3, .int x3), (4, .int x4), (5, .int x5)]) hx hb dX6_use_11 hl (by decide) rfl (fun ls hl => ?_)
  refine lv_iload hx hb dX6_use_13 (lv_at hl 0 rfl) ?_
  refine lv_if_eq (tgt := 21) hx hb dX6_use_15 (by decide) (fun c4 => ?_) (fun c4 => ?_)
  · replace hf := (if_pos c4).symm.trans hf
    refine lv_aload_n hx hb dX6_use_21 rfl (lv_at hl 1 rfl) ?_
    refine lv_iload_n hx hb dX6_use_22 rfl (lv_at hl 2 rfl) ?_
    obtain ⟨M5, e6, hf⟩ := bindS hf
    refine pt_X6_117 C w e6 dX6_use_23 (fun H locs w => ?_)
    refine lv_aload_n hx hb dX6_use_26 rfl (lv_at hl 1 rfl) ?_
    refine lv_iconst (v := 0) hx hb dX6_use_27 (by decide) ?_
    obtain ⟨M7, e8, hf⟩ := bindS hf
    refine pt_X6_120 C w e8 dX6_use_28 (fun H locs w => ?_)
    refine lv_aload_n hx hb dX6_use_31 rfl (lv_at hl 1 rfl) ?_
    refine lv_iconst (v := 0) hx hb dX6_use_32 (by decide) ?_
    obtain ⟨M9, e10, hf⟩ := bindS hf
    refine pt_X6_123 C w e10 dX6_use_33 (fun H locs w => ?_)
    refine lv_aload_n hx hb dX6_use_36 rfl (lv_at hl 1 rfl) ?_
    refine gt_X6_31 C w dX6_use_37 ?_
    refine lv_aload_n hx hb dX6_use_40 rfl (lv_at hl 1 rfl) ?_
    refine gt_X6_17 C w dX6_use_41 ?_
    refine lv_iload_n hx hb dX6_use_44 rfl (lv_at hl 2 rfl) ?_
    obtain ⟨t11, e12, hf⟩ := bindS hf
    refine g_aald (t0 := 2) C w rf_S rfl e12 dX6_use_45 ?_
    refine gt_X6_126 ⟨t11, ixQ_lt e12, rfl⟩ C w dX6_use_46 ?_
    obtain ⟨⟨v15, M13⟩, e14, hf⟩ := bindS hf
    refine g_backI w (g_runV (rest := []) C w (c_X5_open hi  e14) ob_X5 rfl gv_X6_129 md_X5_open rfl (by omega) (by decide) hl.1 rfl (Nat.le_of_ble_eq_true rfl) dX6_use_49) (fun H locs w => ?_)
    refine lv_istore (lv' := [(7, .int v15), (6, .int v3), (0, .ref (ad 0)), (1, .int x1), (2, .int x2), (3, .int x3), (4, .int x4), (5, .int x5)]) hx hb dX6_use_52 hl (by decide) rfl (fun ls hl => ?_)
    refine lv_aload_n hx hb dX6_use_54 rfl (lv_at hl 2 rfl) ?_
    refine gt_X6_17 C w dX6_use_55 ?_
    refine lv_iload_n hx hb dX6_use_58 rfl (lv_at hl 3 rfl) ?_
    obtain ⟨t16, e17, hf⟩ := bindS hf
    refine g_aald (t0 := 2) C w rf_S rfl e17 dX6_use_59 ?_
    refine lv_iload hx hb dX6_use_60 (lv_at hl 0 rfl) ?_
    obtain ⟨M18, e19, hf⟩ := bindS hf
    refine pt_X6_126 ⟨t16, ixQ_lt e17, rfl⟩ C w e19 dX6_use_62 (fun H locs w => ?_)
    refine lv_aload_n hx hb dX6_use_65 rfl (lv_at hl 2 rfl) ?_
    refine lv_aload_n hx hb dX6_use_66 rfl (lv_at hl 2 rfl) ?_
    refine lv_iload_n hx hb dX6_use_67 rfl (lv_at hl 4 rfl) ?_
    refine lv_iload_n hx hb dX6_use_68 rfl (lv_at hl 5 rfl) ?_
    refine lv_iload hx hb dX6_use_69 (lv_at hl 6 rfl) ?_
    refine lv_iload hx hb dX6_use_71 (lv_at hl 7 rfl) ?_
    obtain ⟨⟨v22, M20⟩, e21, hf⟩ := bindS hf
    refine g_backI w (g_runV (rest := [.ref (ad 0)]) C w (c_X6_perform hi  e21) ob_X6 rfl gv_X6_133 md_X6_perform rfl (by omega) (by decide) hl.1 rfl (Nat.le_of_ble_eq_true rfl) dX6_use_73) (fun H locs w => ?_)
    obtain ⟨M23, e24, hf⟩ := bindS hf
    refine pt_X6_136 C w e24 dX6_use_76 (fun H locs w => ?_)
    refine lv_iload_n hx hb dX6_use_79 rfl (lv_at hl 5 rfl) ?_
    refine lv_if_ne (tgt := 94) hx hb dX6_use_80 (by decide) (fun c25 => ?_) (fun c25 => ?_)
    · replace hf := (if_neg c25).symm.trans hf
      exact w_X6_use_94 C hr hq w (lv_sub hl [2, 4, 0] rfl) hf
    · replace hf := (if_pos c25).symm.trans hf
      refine lv_aload_n hx hb dX6_use_83 rfl (lv_at hl 2 rfl) ?_
      refine gt_X6_136 C w dX6_use_84 ?_
      refine lv_if_ne (tgt := 94) hx hb dX6_use_87 (by decide) (fun c26 => ?_) (fun c26 => ?_)
      · replace hf := (if_neg c26).symm.trans hf
        exact w_X6_use_94 C hr hq w (lv_sub hl [2, 4, 0] rfl) hf
      · replace hf := (if_pos c26).symm.trans hf
        refine lv_iconst (v := 1) hx hb dX6_use_90 (by decide) ?_
        refine lv_goto (tgt := 95) hx hb dX6_use_91 (by decide) ?_
        exact w_X6_use_95 C hr hq w (lv_sub hl [2, 4, 0] rfl) hf
  · replace hf := (if_neg c4).symm.trans hf
    refine lv_iload hx hb dX6_use_18 (lv_at hl 0 rfl) ?_
    exact g_iret C w hr hq hf dX6_use_20
abbrev f_X6_use (x1 : Int32) (x2 : Int32) (x3 : Int32) (x4 : Int32) (x5 : Int32) (M : Mem) : Option (Int32 × Mem) := f_X6_use_0 x1 x2 x3 x4 x5 M
theorem c_X6_use (hi : gInj 241 ad) {x1 : Int32} {x2 : Int32} {x3 : Int32} {x4 : Int32} {x5 : Int32} {Rs : Int32 × Mem} (hf : f_X6_use x1 x2 x3 x4 x5 M = some Rs) : gMet l yX6_use cX6_use 9 (some .int) 108 D (xty cI cT cS) 241 (xE cI cT cS) ad [.ref (ad 0), .int x1, .int x2, .int x3, .int x4, .int x5] M (qI D 241 (xE cI cT cS) ad Rs) := gMet_of (by decide) hi (xE_loc cI cT cS) (Nat.le_of_ble_eq_true rfl) (fun p e s m args below meth c ls C hr hq w hl => w_X6_use_0 C hr hq  w hl hf)
def f_X6_failure_0 (M : Mem) : Option (Int32 × Mem) :=
  some ((M 0 7), M)
set_option maxRecDepth 100000 in
set_option maxHeartbeats 4000000 in
theorem w_X6_failure_0 (C : gC p s m args c RX6 cX6_failure 1 D (xty cI cT cS) 241 (xE cI cT cS) ad) (hr : meth.sig.returnType = (some .int)) (hq : meth.locks = false) {Rs : Int32 × Mem}  (w : gWd D 241 (xE cI cT cS) ad M s H locs) (hl : lv_has ls 1 [(0, .ref (ad 0))]) (hf : f_X6_failure_0  M = some Rs) : W p l e (rmH 0) s m args below meth c H locs 0 0 (MQ below (qI D 241 (xE cI cT cS) ad Rs) args s 0 0 (gA 241 ad)) (F0 m 0 ls []) := by
  unfold f_X6_failure_0 at hf
  have hx := C.1.1
  have hb := C.1.2.1
  have hi := C.2.2.2.1
  refine lv_aload_n hx hb dX6_failure_0 rfl (lv_at hl 0 rfl) ?_
  refine gt_X6_136 C w dX6_failure_1 ?_
  exact g_iret C w hr hq hf dX6_failure_4
abbrev f_X6_failure (M : Mem) : Option (Int32 × Mem) := f_X6_failure_0 M
theorem c_X6_failure (hi : gInj 241 ad)  {Rs : Int32 × Mem} (hf : f_X6_failure M = some Rs) : gMet l yX6_failure cX6_failure 1 (some .int) 0 D (xty cI cT cS) 241 (xE cI cT cS) ad [.ref (ad 0)] M (qI D 241 (xE cI cT cS) ad Rs) := gMet_of (by decide) hi (xE_loc cI cT cS) (Nat.le_of_ble_eq_true rfl) (fun p e s m args below meth c ls C hr hq w hl => w_X6_failure_0 C hr hq  w hl hf)
def f_X6_told_0 (x1 : Int32) (x2 : Int32) (x3 : Int32) (M : Mem) : Option (Int32 × Mem) :=
  (f_X6_isSession x1 M).bind fun (v3, M1) =>
  if v3 = 0 then (some ((-101 : Int32), M1)) else ((f_X6_isType x2 M1).bind fun (v7, M5) =>
  if v7 = 0 then (some ((-101 : Int32), M5)) else (if x3 = 0 then ((f_X6_placeOf x1 x2 M5).bind fun (k12, M10) =>
  (ckP (xPb k12)).bind fun u13 =>
  (ldI M10 (k12 + 1) 16 x2).bind fun v15 =>
  some (v15, M10)) else if x3 = 1 then ((ixQ 4 x1).bind fun t18 =>
  (ldI M5 ((13 + 5 * t18) + 4) 16 x2).bind fun v20 =>
  some (v20, M5)) else if x3 = 2 then ((f_X6_countNotZero x1 x2 M5).bind fun (v25, M23) =>
  some (v25, M23)) else (some ((-102 : Int32), M5))))
set_option maxRecDepth 100000 in
set_option maxHeartbeats 4000000 in
theorem w_X6_told_0 (C : gC p s m args c RX6 cX6_told 4 D (xty cI cT cS) 241 (xE cI cT cS) ad) (hr : meth.sig.returnType = (some .int)) (hq : meth.locks = false) {Rs : Int32 × Mem} {x1 : Int32} {x2 : Int32} {x3 : Int32} (w : gWd D 241 (xE cI cT cS) ad M s H locs) (hl : lv_has ls 4 [(0, .ref (ad 0)), (1, .int x1), (2, .int x2), (3, .int x3)]) (hf : f_X6_told_0  x1 x2 x3 M = some Rs) : W p l e (rmH 2) s m args below meth c H locs 0 0 (MQ below (qI D 241 (xE cI cT cS) ad Rs) args s 0 0 (gA 241 ad)) (F0 m 0 ls []) := by
  unfold f_X6_told_0 at hf
  have hx := C.1.1
  have hb := C.1.2.1
  have hi := C.2.2.2.1
  refine lv_iload_n hx hb dX6_told_0 rfl (lv_at hl 1 rfl) ?_
  obtain ⟨⟨v3, M1⟩, e2, hf⟩ := bindS hf
  refine g_backI w (g_runS (rest := []) C w (c_X6_isSession hi  e2) gs_X6_143 md_X6_isSession rfl (by omega) (by decide) hl.1 rfl (Nat.le_of_ble_eq_true rfl) dX6_told_1) (fun H locs w => ?_)
  refine lv_if_eq (tgt := 15) hx hb dX6_told_4 (by decide) (fun c4 => ?_) (fun c4 => ?_)
  · replace hf := (if_pos c4).symm.trans hf
    refine lv_bipush (v := -101) hx hb dX6_told_15 (by decide) ?_
    exact g_iret C w hr hq hf dX6_told_17
  · replace hf := (if_neg c4).symm.trans hf
    refine lv_aload_n hx hb dX6_told_7 rfl (lv_at hl 0 rfl) ?_
    refine lv_iload_n hx hb dX6_told_8 rfl (lv_at hl 2 rfl) ?_
    obtain ⟨⟨v7, M5⟩, e6, hf⟩ := bindS hf
    refine g_backI w (g_runV (rest := []) C w (c_X6_isType hi  e6) ob_X6 rfl gv_X6_68 md_X6_isType rfl (by omega) (by decide) hl.1 rfl (Nat.le_of_ble_eq_true rfl) dX6_told_9) (fun H locs w => ?_)
    refine lv_if_ne (tgt := 18) hx hb dX6_told_12 (by decide) (fun c8 => ?_) (fun c8 => ?_)
    · replace hf := (if_neg c8).symm.trans hf
      refine lv_iload_n hx hb dX6_told_18 rfl (lv_at hl 3 rfl) ?_
      by_cases c9 : x3 = 0
      · replace hf := (if_pos c9).symm.trans hf
        refine lv_tableIn (tgt := 44) hx hb dX6_told_19 (by rw [c9]; decide) (by rw [c9]; decide) (by rw [c9]; rfl) (by decide) ?_
        refine lv_aload_n hx hb dX6_told_44 rfl (lv_at hl 0 rfl) ?_
        refine lv_iload_n hx hb dX6_told_45 rfl (lv_at hl 1 rfl) ?_
        refine lv_iload_n hx hb dX6_told_46 rfl (lv_at hl 2 rfl) ?_
        obtain ⟨⟨k12, M10⟩, e11, hf⟩ := bindS hf
        refine g_backR w (g_runV (rest := []) C w (c_X6_placeOf hi  e11) ob_X6 rfl gv_X6_146 md_X6_placeOf rfl (by omega) (by decide) hl.1 rfl (Nat.le_of_ble_eq_true rfl) dX6_told_47) (fun H locs w => ?_)
        obtain ⟨u13, e14, hf⟩ := bindS hf
        refine gt_X6_150 (xPb_ok e14) C w dX6_told_50 ?_
        refine lv_iload_n hx hb dX6_told_53 rfl (lv_at hl 2 rfl) ?_
        obtain ⟨v15, e16, hf⟩ := bindS hf
        refine g_iald C w (xP_s (xPb_ok e14)) e16 dX6_told_54 ?_
        exact g_iret C w hr hq hf dX6_told_55
      · replace hf := (if_neg c9).symm.trans hf
        by_cases c17 : x3 = 1
        · replace hf := (if_pos c17).symm.trans hf
          refine lv_tableIn (tgt := 56) hx hb dX6_told_19 (by rw [c17]; decide) (by rw [c17]; decide) (by rw [c17]; rfl) (by decide) ?_
          refine lv_aload_n hx hb dX6_told_56 rfl (lv_at hl 0 rfl) ?_
          refine gt_X6_17 C w dX6_told_57 ?_
          refine lv_iload_n hx hb dX6_told_60 rfl (lv_at hl 1 rfl) ?_
          obtain ⟨t18, e19, hf⟩ := bindS hf
          refine g_aald (t0 := 2) C w rf_S rfl e19 dX6_told_61 ?_
          refine gt_X6_153 ⟨t18, ixQ_lt e19, rfl⟩ C w dX6_told_62 ?_
          refine lv_iload_n hx hb dX6_told_65 rfl (lv_at hl 2 rfl) ?_
          obtain ⟨v20, e21, hf⟩ := bindS hf
          refine g_iald C w (xS_g ⟨t18, ixQ_lt e19, rfl⟩) e21 dX6_told_66 ?_
          exact g_iret C w hr hq hf dX6_told_67
        · replace hf := (if_neg c17).symm.trans hf
          by_cases c22 : x3 = 2
          · replace hf := (if_pos c22).symm.trans hf
            refine lv_tableIn (tgt := 68) hx hb dX6_told_19 (by rw [c22]; decide) (by rw [c22]; decide) (by rw [c22]; rfl) (by decide) ?_
            refine lv_aload_n hx hb dX6_told_68 rfl (lv_at hl 0 rfl) ?_
            refine lv_iload_n hx hb dX6_told_69 rfl (lv_at hl 1 rfl) ?_
            refine lv_iload_n hx hb dX6_told_70 rfl (lv_at hl 2 rfl) ?_
            obtain ⟨⟨v25, M23⟩, e24, hf⟩ := bindS hf
            refine g_backI w (g_runV (rest := []) C w (c_X6_countNotZero hi  e24) ob_X6 rfl gv_X6_156 md_X6_countNotZero rfl (by omega) (by decide) hl.1 rfl (Nat.le_of_ble_eq_true rfl) dX6_told_71) (fun H locs w => ?_)
            exact g_iret C w hr hq hf dX6_told_74
          · replace hf := (if_neg c22).symm.trans hf
            refine lv_tableOut (tgt := 75) hx hb dX6_told_19 (by have := lv_neT c9 (show (0 : Int32).toInt = 0 from rfl); have := lv_neT c17 (show (1 : Int32).toInt = 1 from rfl); have := lv_neT c22 (show (2 : Int32).toInt = 2 from rfl); omega) (by decide) ?_
            refine lv_bipush (v := -102) hx hb dX6_told_75 (by decide) ?_
            exact g_iret C w hr hq hf dX6_told_77
    · replace hf := (if_pos c8).symm.trans hf
      refine lv_bipush (v := -101) hx hb dX6_told_15 (by decide) ?_
      exact g_iret C w hr hq hf dX6_told_17
abbrev f_X6_told (x1 : Int32) (x2 : Int32) (x3 : Int32) (M : Mem) : Option (Int32 × Mem) := f_X6_told_0 x1 x2 x3 M
theorem c_X6_told (hi : gInj 241 ad) {x1 : Int32} {x2 : Int32} {x3 : Int32} {Rs : Int32 × Mem} (hf : f_X6_told x1 x2 x3 M = some Rs) : gMet l yX6_told cX6_told 4 (some .int) 2 D (xty cI cT cS) 241 (xE cI cT cS) ad [.ref (ad 0), .int x1, .int x2, .int x3] M (qI D 241 (xE cI cT cS) ad Rs) := gMet_of (by decide) hi (xE_loc cI cT cS) (Nat.le_of_ble_eq_true rfl) (fun p e s m args below meth c ls C hr hq w hl => w_X6_told_0 C hr hq  w hl hf)
def f_X6_peek_0 (x1 : Int32) (x2 : Int32) (x3 : Int32) (M : Mem) : Option (Int32 × Mem) :=
  (f_X6_isSession x1 M).bind fun (v3, M1) =>
  if v3 = 0 then (some ((-101 : Int32), M1)) else ((f_X6_isType x2 M1).bind fun (v7, M5) =>
  if v7 = 0 then (some ((-101 : Int32), M5)) else ((f_X6_isField x3 M5).bind fun (v11, M9) =>
  if v11 = 0 then (some ((-103 : Int32), M9)) else ((ixQ 16 x2).bind fun t13 =>
  (ldI M9 ((33 + 13 * t13) + 7) 5 x3).bind fun v15 =>
  if v15 = (2 : Int32) then ((f_X6_placeOf x1 x2 M9).bind fun (k20, M18) =>
  (ckP (xPb k20)).bind fun u21 =>
  (f_X1_numberOf k20 x2 x3 M18).bind fun (v25, M23) =>
  some (v25, M23)) else (some ((-103 : Int32), M9)))))
set_option maxRecDepth 100000 in
set_option maxHeartbeats 4000000 in
theorem w_X6_peek_0 (C : gC p s m args c RX6 cX6_peek 4 D (xty cI cT cS) 241 (xE cI cT cS) ad) (hr : meth.sig.returnType = (some .int)) (hq : meth.locks = false) {Rs : Int32 × Mem} {x1 : Int32} {x2 : Int32} {x3 : Int32} (w : gWd D 241 (xE cI cT cS) ad M s H locs) (hl : lv_has ls 4 [(0, .ref (ad 0)), (1, .int x1), (2, .int x2), (3, .int x3)]) (hf : f_X6_peek_0  x1 x2 x3 M = some Rs) : W p l e (rmH 2) s m args below meth c H locs 0 0 (MQ below (qI D 241 (xE cI cT cS) ad Rs) args s 0 0 (gA 241 ad)) (F0 m 0 ls []) := by
  unfold f_X6_peek_0 at hf
  have hx := C.1.1
  have hb := C.1.2.1
  have hi := C.2.2.2.1
  refine lv_iload_n hx hb dX6_peek_0 rfl (lv_at hl 1 rfl) ?_
  obtain ⟨⟨v3, M1⟩, e2, hf⟩ := bindS hf
  refine g_backI w (g_runS (rest := []) C w (c_X6_isSession hi  e2) gs_X6_143 md_X6_isSession rfl (by omega) (by decide) hl.1 rfl (Nat.le_of_ble_eq_true rfl) dX6_peek_1) (fun H locs w => ?_)
  refine lv_if_eq (tgt := 15) hx hb dX6_peek_4 (by decide) (fun c4 => ?_) (fun c4 => ?_)
  · replace hf := (if_pos c4).symm.trans hf
    refine lv_bipush (v := -101) hx hb dX6_peek_15 (by decide) ?_
    exact g_iret C w hr hq hf dX6_peek_17
  · replace hf := (if_neg c4).symm.trans hf
    refine lv_aload_n hx hb dX6_peek_7 rfl (lv_at hl 0 rfl) ?_
    refine lv_iload_n hx hb dX6_peek_8 rfl (lv_at hl 2 rfl) ?_
    obtain ⟨⟨v7, M5⟩, e6, hf⟩ := bindS hf
    refine g_backI w (g_runV (rest := []) C w (c_X6_isType hi  e6) ob_X6 rfl gv_X6_68 md_X6_isType rfl (by omega) (by decide) hl.1 rfl (Nat.le_of_ble_eq_true rfl) dX6_peek_9) (fun H locs w => ?_)
    refine lv_if_ne (tgt := 18) hx hb dX6_peek_12 (by decide) (fun c8 => ?_) (fun c8 => ?_)
    · replace hf := (if_neg c8).symm.trans hf
      refine lv_iload_n hx hb dX6_peek_18 rfl (lv_at hl 3 rfl) ?_
      obtain ⟨⟨v11, M9⟩, e10, hf⟩ := bindS hf
      refine g_backI w (g_runS (rest := []) C w (c_X6_isField hi  e10) gs_X6_89 md_X6_isField rfl (by omega) (by decide) hl.1 rfl (Nat.le_of_ble_eq_true rfl) dX6_peek_19) (fun H locs w => ?_)
      refine lv_if_eq (tgt := 40) hx hb dX6_peek_22 (by decide) (fun c12 => ?_) (fun c12 => ?_)
      · replace hf := (if_pos c12).symm.trans hf
        refine lv_bipush (v := -103) hx hb dX6_peek_40 (by decide) ?_
        exact g_iret C w hr hq hf dX6_peek_42
      · replace hf := (if_neg c12).symm.trans hf
        refine lv_aload_n hx hb dX6_peek_25 rfl (lv_at hl 0 rfl) ?_
        refine gt_X6_11 C w dX6_peek_26 ?_
        refine lv_iload_n hx hb dX6_peek_29 rfl (lv_at hl 2 rfl) ?_
        obtain ⟨t13, e14, hf⟩ := bindS hf
        refine g_aald (t0 := 1) C w rf_T rfl e14 dX6_peek_30 ?_
        refine gt_X6_95 ⟨t13, ixQ_lt e14, rfl⟩ C w dX6_peek_31 ?_
        refine lv_iload_n hx hb dX6_peek_34 rfl (lv_at hl 3 rfl) ?_
        obtain ⟨v15, e16, hf⟩ := bindS hf
        refine g_iald C w (xT_a7 ⟨t13, ixQ_lt e14, rfl⟩) e16 dX6_peek_35 ?_
        refine lv_iconst (v := 2) hx hb dX6_peek_36 (by decide) ?_
        refine lv_icmp_eq (tgt := 43) hx hb dX6_peek_37 (by decide) (fun c17 => ?_) (fun c17 => ?_)
        · replace hf := (if_pos c17).symm.trans hf
          refine lv_aload_n hx hb dX6_peek_43 rfl (lv_at hl 0 rfl) ?_
          refine lv_iload_n hx hb dX6_peek_44 rfl (lv_at hl 1 rfl) ?_
          refine lv_iload_n hx hb dX6_peek_45 rfl (lv_at hl 2 rfl) ?_
          obtain ⟨⟨k20, M18⟩, e19, hf⟩ := bindS hf
          refine g_backR w (g_runV (rest := []) C w (c_X6_placeOf hi  e19) ob_X6 rfl gv_X6_146 md_X6_placeOf rfl (by omega) (by decide) hl.1 rfl (Nat.le_of_ble_eq_true rfl) dX6_peek_46) (fun H locs w => ?_)
          obtain ⟨u21, e22, hf⟩ := bindS hf
          refine lv_iload_n hx hb dX6_peek_49 rfl (lv_at hl 2 rfl) ?_
          refine lv_iload_n hx hb dX6_peek_50 rfl (lv_at hl 3 rfl) ?_
          obtain ⟨⟨v25, M23⟩, e24, hf⟩ := bindS hf
          refine g_backI w (g_runV (rest := []) C w (c_X1_numberOf hi (xPb_ok e22) e24) (ob_X1 (xPb_ok e22)) rfl gv_X6_160 md_X1_numberOf rfl (by omega) (by decide) hl.1 rfl (Nat.le_of_ble_eq_true rfl) dX6_peek_51) (fun H locs w => ?_)
          exact g_iret C w hr hq hf dX6_peek_54
        · replace hf := (if_neg c17).symm.trans hf
          refine lv_bipush (v := -103) hx hb dX6_peek_40 (by decide) ?_
          exact g_iret C w hr hq hf dX6_peek_42
    · replace hf := (if_pos c8).symm.trans hf
      refine lv_bipush (v := -101) hx hb dX6_peek_15 (by decide) ?_
      exact g_iret C w hr hq hf dX6_peek_17
abbrev f_X6_peek (x1 : Int32) (x2 : Int32) (x3 : Int32) (M : Mem) : Option (Int32 × Mem) := f_X6_peek_0 x1 x2 x3 M
theorem c_X6_peek (hi : gInj 241 ad) {x1 : Int32} {x2 : Int32} {x3 : Int32} {Rs : Int32 × Mem} (hf : f_X6_peek x1 x2 x3 M = some Rs) : gMet l yX6_peek cX6_peek 4 (some .int) 2 D (xty cI cT cS) 241 (xE cI cT cS) ad [.ref (ad 0), .int x1, .int x2, .int x3] M (qI D 241 (xE cI cT cS) ad Rs) := gMet_of (by decide) hi (xE_loc cI cT cS) (Nat.le_of_ble_eq_true rfl) (fun p e s m args below meth c ls C hr hq w hl => w_X6_peek_0 C hr hq  w hl hf)
def f_X6_start_0 (x1 : Int32) (x2 : Int32) (M : Mem) : Option (Int32 × Mem) :=
  (f_X6_within x1 (0 : Int32) ((M 10 2) - (1 : Int32)) M).bind fun (v3, M1) =>
  if v3 = 0 then (some ((-1 : Int32), M1)) else ((f_X6_within x2 (0 : Int32) (3 : Int32) M1).bind fun (v7, M5) =>
  if v7 = 0 then (some ((-102 : Int32), M5)) else ((ldI M5 11 600 ((x1 * (4 : Int32)) + x2)).bind fun v9 =>
  some (v9, M5)))
set_option maxRecDepth 100000 in
set_option maxHeartbeats 4000000 in
theorem w_X6_start_0 (C : gC p s m args c RX6 cX6_start 3 D (xty cI cT cS) 241 (xE cI cT cS) ad) (hr : meth.sig.returnType = (some .int)) (hq : meth.locks = false) {Rs : Int32 × Mem} {x1 : Int32} {x2 : Int32} (w : gWd D 241 (xE cI cT cS) ad M s H locs) (hl : lv_has ls 3 [(0, .ref (ad 0)), (1, .int x1), (2, .int x2)]) (hf : f_X6_start_0  x1 x2 M = some Rs) : W p l e (rmH 1) s m args below meth c H locs 0 0 (MQ below (qI D 241 (xE cI cT cS) ad Rs) args s 0 0 (gA 241 ad)) (F0 m 0 ls []) := by
  unfold f_X6_start_0 at hf
  have hx := C.1.1
  have hb := C.1.2.1
  have hi := C.2.2.2.1
  refine lv_iload_n hx hb dX6_start_0 rfl (lv_at hl 1 rfl) ?_
  refine lv_iconst (v := 0) hx hb dX6_start_1 (by decide) ?_
  refine lv_aload_n hx hb dX6_start_2 rfl (lv_at hl 0 rfl) ?_
  refine gt_X6_38 C w dX6_start_3 ?_
  refine gt_X6_163 C w dX6_start_6 ?_
  refine lv_iconst (v := 1) hx hb dX6_start_9 (by decide) ?_
  refine lv_isub hx hb dX6_start_10 ?_
  obtain ⟨⟨v3, M1⟩, e2, hf⟩ := bindS hf
  refine g_backI w (g_runS (rest := []) C w (c_X6_within hi  e2) gs_X6_44 md_X6_within rfl (by omega) (by decide) hl.1 rfl (Nat.le_of_ble_eq_true rfl) dX6_start_11) (fun H locs w => ?_)
  refine lv_if_ne (tgt := 19) hx hb dX6_start_14 (by decide) (fun c4 => ?_) (fun c4 => ?_)
  · replace hf := (if_neg c4).symm.trans hf
    refine lv_iload_n hx hb dX6_start_19 rfl (lv_at hl 2 rfl) ?_
    refine lv_iconst (v := 0) hx hb dX6_start_20 (by decide) ?_
    refine lv_iconst (v := 3) hx hb dX6_start_21 (by decide) ?_
    obtain ⟨⟨v7, M5⟩, e6, hf⟩ := bindS hf
    refine g_backI w (g_runS (rest := []) C w (c_X6_within hi  e6) gs_X6_44 md_X6_within rfl (by omega) (by decide) hl.1 rfl (Nat.le_of_ble_eq_true rfl) dX6_start_22) (fun H locs w => ?_)
    refine lv_if_ne (tgt := 31) hx hb dX6_start_25 (by decide) (fun c8 => ?_) (fun c8 => ?_)
    · replace hf := (if_neg c8).symm.trans hf
      refine lv_aload_n hx hb dX6_start_31 rfl (lv_at hl 0 rfl) ?_
      refine gt_X6_38 C w dX6_start_32 ?_
      refine gt_X6_166 C w dX6_start_35 ?_
      refine lv_iload_n hx hb dX6_start_38 rfl (lv_at hl 1 rfl) ?_
      refine lv_iconst (v := 4) hx hb dX6_start_39 (by decide) ?_
      refine lv_imul hx hb dX6_start_40 ?_
      refine lv_iload_n hx hb dX6_start_41 rfl (lv_at hl 2 rfl) ?_
      refine lv_iadd hx hb dX6_start_42 ?_
      obtain ⟨v9, e10, hf⟩ := bindS hf
      refine g_iald C w x_a11 e10 dX6_start_43 ?_
      exact g_iret C w hr hq hf dX6_start_44
    · replace hf := (if_pos c8).symm.trans hf
      refine lv_bipush (v := -102) hx hb dX6_start_28 (by decide) ?_
      exact g_iret C w hr hq hf dX6_start_30
  · replace hf := (if_pos c4).symm.trans hf
    refine lv_iconst (v := -1) hx hb dX6_start_17 (by decide) ?_
    exact g_iret C w hr hq hf dX6_start_18
abbrev f_X6_start (x1 : Int32) (x2 : Int32) (M : Mem) : Option (Int32 × Mem) := f_X6_start_0 x1 x2 M
theorem c_X6_start (hi : gInj 241 ad) {x1 : Int32} {x2 : Int32} {Rs : Int32 × Mem} (hf : f_X6_start x1 x2 M = some Rs) : gMet l yX6_start cX6_start 3 (some .int) 1 D (xty cI cT cS) 241 (xE cI cT cS) ad [.ref (ad 0), .int x1, .int x2] M (qI D 241 (xE cI cT cS) ad Rs) := gMet_of (by decide) hi (xE_loc cI cT cS) (Nat.le_of_ble_eq_true rfl) (fun p e s m args below meth c ls C hr hq w hl => w_X6_start_0 C hr hq  w hl hf)
def f_X6_steps_0 (x1 : Int32) (x2 : Int32) (M : Mem) : Option (Int32 × Mem) :=
  (f_X6_isSession x1 M).bind fun (v3, M1) =>
  if v3 = 0 then (some ((-101 : Int32), M1)) else ((f_X6_within x2 (0 : Int32) (100000 : Int32) M1).bind fun (v7, M5) =>
  if v7 = 0 then (some ((-102 : Int32), M5)) else ((ixQ 4 x1).bind fun t9 =>
  (ixQ 4 x1).bind fun t11 =>
  (stF M5 (13 + 5 * t11) 2 x2).bind fun M13 =>
  some ((M5 (13 + 5 * t9) 2), M13)))
set_option maxRecDepth 100000 in
set_option maxHeartbeats 4000000 in
theorem w_X6_steps_0 (C : gC p s m args c RX6 cX6_steps 4 D (xty cI cT cS) 241 (xE cI cT cS) ad) (hr : meth.sig.returnType = (some .int)) (hq : meth.locks = false) {Rs : Int32 × Mem} {x1 : Int32} {x2 : Int32} (w : gWd D 241 (xE cI cT cS) ad M s H locs) (hl : lv_has ls 4 [(0, .ref (ad 0)), (1, .int x1), (2, .int x2)]) (hf : f_X6_steps_0  x1 x2 M = some Rs) : W p l e (rmH 2) s m args below meth c H locs 0 0 (MQ below (qI D 241 (xE cI cT cS) ad Rs) args s 0 0 (gA 241 ad)) (F0 m 0 ls []) := by
  unfold f_X6_steps_0 at hf
  have hx := C.1.1
  have hb := C.1.2.1
  have hi := C.2.2.2.1
  refine lv_iload_n hx hb dX6_steps_0 rfl (lv_at hl 1 rfl) ?_
  obtain ⟨⟨v3, M1⟩, e2, hf⟩ := bindS hf
  refine g_backI w (g_runS (rest := []) C w (c_X6_isSession hi  e2) gs_X6_143 md_X6_isSession rfl (by omega) (by decide) hl.1 rfl (Nat.le_of_ble_eq_true rfl) dX6_steps_1) (fun H locs w => ?_)
  refine lv_if_ne (tgt := 10) hx hb dX6_steps_4 (by decide) (fun c4 => ?_) (fun c4 => ?_)
  · replace hf := (if_neg c4).symm.trans hf
    refine lv_iload_n hx hb dX6_steps_10 rfl (lv_at hl 2 rfl) ?_
    refine lv_iconst (v := 0) hx hb dX6_steps_11 (by decide) ?_
    refine lv_ldc hx hb C.1.2.2.2.1 (C.1.2.2.2.2 _ kk_X6_182) dX6_steps_12 ?_
    obtain ⟨⟨v7, M5⟩, e6, hf⟩ := bindS hf
    refine g_backI w (g_runS (rest := []) C w (c_X6_within hi  e6) gs_X6_44 md_X6_within rfl (by omega) (by decide) hl.1 rfl (Nat.le_of_ble_eq_true rfl) dX6_steps_14) (fun H locs w => ?_)
    refine lv_if_ne (tgt := 23) hx hb dX6_steps_17 (by decide) (fun c8 => ?_) (fun c8 => ?_)
    · replace hf := (if_neg c8).symm.trans hf
      refine lv_aload_n hx hb dX6_steps_23 rfl (lv_at hl 0 rfl) ?_
      refine gt_X6_17 C w dX6_steps_24 ?_
      refine lv_iload_n hx hb dX6_steps_27 rfl (lv_at hl 1 rfl) ?_
      obtain ⟨t9, e10, hf⟩ := bindS hf
      refine g_aald (t0 := 2) C w rf_S rfl e10 dX6_steps_28 ?_
      refine gt_X6_183 ⟨t9, ixQ_lt e10, rfl⟩ C w dX6_steps_29 ?_
      refine lv_istore_n (lv' := [(3, .int (M5 (13 + 5 * t9) 2)), (0, .ref (ad 0)), (1, .int x1), (2, .int x2)]) hx hb dX6_steps_32 rfl hl (by decide) rfl (fun ls hl => ?_)
      refine lv_aload_n hx hb dX6_steps_33 rfl (lv_at hl 1 rfl) ?_
      refine gt_X6_17 C w dX6_steps_34 ?_
      refine lv_iload_n hx hb dX6_steps_37 rfl (lv_at hl 2 rfl) ?_
      obtain ⟨t11, e12, hf⟩ := bindS hf
      refine g_aald (t0 := 2) C w rf_S rfl e12 dX6_steps_38 ?_
      refine lv_iload_n hx hb dX6_steps_39 rfl (lv_at hl 3 rfl) ?_
      obtain ⟨M13, e14, hf⟩ := bindS hf
      refine pt_X6_183 ⟨t11, ixQ_lt e12, rfl⟩ C w e14 dX6_steps_40 (fun H locs w => ?_)
      refine lv_iload_n hx hb dX6_steps_43 rfl (lv_at hl 0 rfl) ?_
      exact g_iret C w hr hq hf dX6_steps_44
    · replace hf := (if_pos c8).symm.trans hf
      refine lv_bipush (v := -102) hx hb dX6_steps_20 (by decide) ?_
      exact g_iret C w hr hq hf dX6_steps_22
  · replace hf := (if_pos c4).symm.trans hf
    refine lv_bipush (v := -101) hx hb dX6_steps_7 (by decide) ?_
    exact g_iret C w hr hq hf dX6_steps_9
abbrev f_X6_steps (x1 : Int32) (x2 : Int32) (M : Mem) : Option (Int32 × Mem) := f_X6_steps_0 x1 x2 M
theorem c_X6_steps (hi : gInj 241 ad) {x1 : Int32} {x2 : Int32} {Rs : Int32 × Mem} (hf : f_X6_steps x1 x2 M = some Rs) : gMet l yX6_steps cX6_steps 4 (some .int) 2 D (xty cI cT cS) 241 (xE cI cT cS) ad [.ref (ad 0), .int x1, .int x2] M (qI D 241 (xE cI cT cS) ad Rs) := gMet_of (by decide) hi (xE_loc cI cT cS) (Nat.le_of_ble_eq_true rfl) (fun p e s m args below meth c ls C hr hq w hl => w_X6_steps_0 C hr hq  w hl hf)
def f_X6_undo_70 (x3 : Int32) (M : Mem) : Option (Int32 × Mem) :=
  (ldI M 9 512 x3).bind fun v1 =>
  some (v1, M)
def f_X6_undo_0 (x1 : Int32) (M : Mem) : Option (Int32 × Mem) :=
  (f_X6_isSession x1 M).bind fun (v3, M1) =>
  if v3 = 0 then (some ((-101 : Int32), M1)) else ((ixQ 4 x1).bind fun t5 =>
  if (M1 (13 + 5 * t5) 3) = (-1 : Int32) then (some ((-1 : Int32), M1)) else ((ldI M1 7 512 (M1 (13 + 5 * t5) 3)).bind fun v8 =>
  (stF M1 (13 + 5 * t5) 3 v8).bind fun M10 =>
  (ldI M10 8 512 (M1 (13 + 5 * t5) 3)).bind fun v12 =>
  if v12 = (-1 : Int32) then (f_X6_undo_70 (M1 (13 + 5 * t5) 3) M10) else ((ldI M10 ((13 + 5 * t5) + 4) 16 v12).bind fun v15 =>
  (stI M10 ((13 + 5 * t5) + 4) 16 v12 (v15 - (1 : Int32))).bind fun M17 =>
  f_X6_undo_70 (M1 (13 + 5 * t5) 3) M17)))
set_option maxRecDepth 100000 in
set_option maxHeartbeats 4000000 in
theorem w_X6_undo_70 (C : gC p s m args c RX6 cX6_undo 5 D (xty cI cT cS) 241 (xE cI cT cS) ad) (hr : meth.sig.returnType = (some .int)) (hq : meth.locks = false) {Rs : Int32 × Mem} {x3 : Int32} (w : gWd D 241 (xE cI cT cS) ad M s H locs) (hl : lv_has ls 5 [(0, .ref (ad 0)), (3, .int x3)]) (hf : f_X6_undo_70  x3 M = some Rs) : W p l e (rmH 2) s m args below meth c H locs 0 0 (MQ below (qI D 241 (xE cI cT cS) ad Rs) args s 0 0 (gA 241 ad)) (F0 m 70 ls []) := by
  unfold f_X6_undo_70 at hf
  have hx := C.1.1
  have hb := C.1.2.1
  have hi := C.2.2.2.1
  refine lv_aload_n hx hb dX6_undo_70 rfl (lv_at hl 0 rfl) ?_
  refine gt_X6_31 C w dX6_undo_71 ?_
  refine gt_X6_192 C w dX6_undo_74 ?_
  refine lv_iload_n hx hb dX6_undo_77 rfl (lv_at hl 1 rfl) ?_
  obtain ⟨v1, e2, hf⟩ := bindS hf
  refine g_iald C w x_a9 e2 dX6_undo_78 ?_
  exact g_iret C w hr hq hf dX6_undo_79
set_option maxRecDepth 100000 in
set_option maxHeartbeats 4000000 in
theorem w_X6_undo_0 (C : gC p s m args c RX6 cX6_undo 5 D (xty cI cT cS) 241 (xE cI cT cS) ad) (hr : meth.sig.returnType = (some .int)) (hq : meth.locks = false) {Rs : Int32 × Mem} {x1 : Int32} (w : gWd D 241 (xE cI cT cS) ad M s H locs) (hl : lv_has ls 5 [(0, .ref (ad 0)), (1, .int x1)]) (hf : f_X6_undo_0  x1 M = some Rs) : W p l e (rmH 2) s m args below meth c H locs 0 0 (MQ below (qI D 241 (xE cI cT cS) ad Rs) args s 0 0 (gA 241 ad)) (F0 m 0 ls []) := by
  unfold f_X6_undo_0 at hf
  have hx := C.1.1
  have hb := C.1.2.1
  have hi := C.2.2.2.1
  refine lv_iload_n hx hb dX6_undo_0 rfl (lv_at hl 1 rfl) ?_
  obtain ⟨⟨v3, M1⟩, e2, hf⟩ := bindS hf
  refine g_backI w (g_runS (rest := []) C w (c_X6_isSession hi  e2) gs_X6_143 md_X6_isSession rfl (by omega) (by decide) hl.1 rfl (Nat.le_of_ble_eq_true rfl) dX6_undo_1) (fun H locs w => ?_)
  refine lv_if_ne (tgt := 10) hx hb dX6_undo_4 (by decide) (fun c4 => ?_) (fun c4 => ?_)
  · replace hf := (if_neg c4).symm.trans hf
    refine lv_aload_n hx hb dX6_undo_10 rfl (lv_at hl 0 rfl) ?_
    refine gt_X6_17 C w dX6_undo_11 ?_
    refine lv_iload_n hx hb dX6_undo_14 rfl (lv_at hl 1 rfl) ?_
    obtain ⟨t5, e6, hf⟩ := bindS hf
    refine g_aald (t0 := 2) C w rf_S rfl e6 dX6_undo_15 ?_
    refine lv_astore_n (lv' := [(2, .ref (ad (13 + 5 * t5))), (0, .ref (ad 0)), (1, .int x1)]) hx hb dX6_undo_16 rfl hl (by decide) rfl (fun ls hl => ?_)
    refine lv_aload_n hx hb dX6_undo_17 rfl (lv_at hl 0 rfl) ?_
    refine gt_X6_126 ⟨t5, ixQ_lt e6, rfl⟩ C w dX6_undo_18 ?_
    refine lv_istore_n (lv' := [(3, .int (M1 (13 + 5 * t5) 3)), (2, .ref (ad (13 + 5 * t5))), (0, .ref (ad 0)), (1, .int x1)]) hx hb dX6_undo_21 rfl hl (by decide) rfl (fun ls hl => ?_)
    refine lv_iload_n hx hb dX6_undo_22 rfl (lv_at hl 0 rfl) ?_
    refine lv_iconst (v := -1) hx hb dX6_undo_23 (by decide) ?_
    refine lv_icmp_ne (tgt := 29) hx hb dX6_undo_24 (by decide) (fun c7 => ?_) (fun c7 => ?_)
    · replace hf := (if_neg c7).symm.trans hf
      refine lv_aload_n hx hb dX6_undo_29 rfl (lv_at hl 1 rfl) ?_
      refine lv_aload_n hx hb dX6_undo_30 rfl (lv_at hl 2 rfl) ?_
      refine gt_X6_31 C w dX6_undo_31 ?_
      refine gt_X6_186 C w dX6_undo_34 ?_
      refine lv_iload_n hx hb dX6_undo_37 rfl (lv_at hl 0 rfl) ?_
      obtain ⟨v8, e9, hf⟩ := bindS hf
      refine g_iald C w x_a7 e9 dX6_undo_38 ?_
      obtain ⟨M10, e11, hf⟩ := bindS hf
      refine pt_X6_126 ⟨t5, ixQ_lt e6, rfl⟩ C w e11 dX6_undo_39 (fun H locs w => ?_)
      refine lv_aload_n hx hb dX6_undo_42 rfl (lv_at hl 2 rfl) ?_
      refine gt_X6_31 C w dX6_undo_43 ?_
      refine gt_X6_189 C w dX6_undo_46 ?_
      refine lv_iload_n hx hb dX6_undo_49 rfl (lv_at hl 0 rfl) ?_
      obtain ⟨v12, e13, hf⟩ := bindS hf
      refine g_iald C w x_a8 e13 dX6_undo_50 ?_
      refine lv_istore (lv' := [(4, .int v12), (3, .int (M1 (13 + 5 * t5) 3)), (2, .ref (ad (13 + 5 * t5))), (0, .ref (ad 0)), (1, .int x1)]) hx hb dX6_undo_51 hl (by decide) rfl (fun ls hl => ?_)
      refine lv_iload hx hb dX6_undo_53 (lv_at hl 0 rfl) ?_
      refine lv_iconst (v := -1) hx hb dX6_undo_55 (by decide) ?_
      refine lv_icmp_eq (tgt := 70) hx hb dX6_undo_56 (by decide) (fun c14 => ?_) (fun c14 => ?_)
      · replace hf := (if_pos c14).symm.trans hf
        exact w_X6_undo_70 C hr hq w (lv_sub hl [3, 1] rfl) hf
      · replace hf := (if_neg c14).symm.trans hf
        refine lv_aload_n hx hb dX6_undo_59 rfl (lv_at hl 2 rfl) ?_
        refine gt_X6_153 ⟨t5, ixQ_lt e6, rfl⟩ C w dX6_undo_60 ?_
        refine lv_iload hx hb dX6_undo_63 (lv_at hl 0 rfl) ?_
        refine lv_dup2_11 hx hb dX6_undo_65 rfl rfl ?_
        obtain ⟨v15, e16, hf⟩ := bindS hf
        refine g_iald C w (xS_g ⟨t5, ixQ_lt e6, rfl⟩) e16 dX6_undo_66 ?_
        refine lv_iconst (v := 1) hx hb dX6_undo_67 (by decide) ?_
        refine lv_isub hx hb dX6_undo_68 ?_
        obtain ⟨M17, e18, hf⟩ := bindS hf
        refine g_iast C w (xS_g ⟨t5, ixQ_lt e6, rfl⟩) e18 dX6_undo_69 (fun H locs w => ?_)
        exact w_X6_undo_70 C hr hq w (lv_sub hl [3, 1] rfl) hf
    · replace hf := (if_pos c7).symm.trans hf
      refine lv_iconst (v := -1) hx hb dX6_undo_27 (by decide) ?_
      exact g_iret C w hr hq hf dX6_undo_28
  · replace hf := (if_pos c4).symm.trans hf
    refine lv_bipush (v := -101) hx hb dX6_undo_7 (by decide) ?_
    exact g_iret C w hr hq hf dX6_undo_9
abbrev f_X6_undo (x1 : Int32) (M : Mem) : Option (Int32 × Mem) := f_X6_undo_0 x1 M
theorem c_X6_undo (hi : gInj 241 ad) {x1 : Int32} {Rs : Int32 × Mem} (hf : f_X6_undo x1 M = some Rs) : gMet l yX6_undo cX6_undo 5 (some .int) 2 D (xty cI cT cS) 241 (xE cI cT cS) ad [.ref (ad 0), .int x1] M (qI D 241 (xE cI cT cS) ad Rs) := gMet_of (by decide) hi (xE_loc cI cT cS) (Nat.le_of_ble_eq_true rfl) (fun p e s m args below meth c ls C hr hq w hl => w_X6_undo_0 C hr hq  w hl hf)
def f_X6_restart_0 (x1 : Int32) (M : Mem) : Option (Int32 × Mem) :=
  (f_X6_isSession x1 M).bind fun (v3, M1) =>
  if v3 = 0 then (some ((-101 : Int32), M1)) else ((ixQ 4 x1).bind fun t5 =>
  (f_X3_forget (13 + 5 * t5) M1).bind fun (v9, M7) =>
  some (v9, M7))
set_option maxRecDepth 100000 in
set_option maxHeartbeats 4000000 in
theorem w_X6_restart_0 (C : gC p s m args c RX6 cX6_restart 2 D (xty cI cT cS) 241 (xE cI cT cS) ad) (hr : meth.sig.returnType = (some .int)) (hq : meth.locks = false) {Rs : Int32 × Mem} {x1 : Int32} (w : gWd D 241 (xE cI cT cS) ad M s H locs) (hl : lv_has ls 2 [(0, .ref (ad 0)), (1, .int x1)]) (hf : f_X6_restart_0  x1 M = some Rs) : W p l e (rmH 3) s m args below meth c H locs 0 0 (MQ below (qI D 241 (xE cI cT cS) ad Rs) args s 0 0 (gA 241 ad)) (F0 m 0 ls []) := by
  unfold f_X6_restart_0 at hf
  have hx := C.1.1
  have hb := C.1.2.1
  have hi := C.2.2.2.1
  refine lv_iload_n hx hb dX6_restart_0 rfl (lv_at hl 1 rfl) ?_
  obtain ⟨⟨v3, M1⟩, e2, hf⟩ := bindS hf
  refine g_backI w (g_runS (rest := []) C w (c_X6_isSession hi  e2) gs_X6_143 md_X6_isSession rfl (by omega) (by decide) hl.1 rfl (Nat.le_of_ble_eq_true rfl) dX6_restart_1) (fun H locs w => ?_)
  refine lv_if_eq (tgt := 19) hx hb dX6_restart_4 (by decide) (fun c4 => ?_) (fun c4 => ?_)
  · replace hf := (if_pos c4).symm.trans hf
    refine lv_bipush (v := -101) hx hb dX6_restart_19 (by decide) ?_
    exact g_iret C w hr hq hf dX6_restart_21
  · replace hf := (if_neg c4).symm.trans hf
    refine lv_aload_n hx hb dX6_restart_7 rfl (lv_at hl 0 rfl) ?_
    refine gt_X6_17 C w dX6_restart_8 ?_
    refine lv_iload_n hx hb dX6_restart_11 rfl (lv_at hl 1 rfl) ?_
    obtain ⟨t5, e6, hf⟩ := bindS hf
    refine g_aald (t0 := 2) C w rf_S rfl e6 dX6_restart_12 ?_
    obtain ⟨⟨v9, M7⟩, e8, hf⟩ := bindS hf
    refine g_backI w (g_runV (rest := []) C w (c_X3_forget hi ⟨t5, ixQ_lt e6, rfl⟩ e8) (ob_X3 ⟨t5, ixQ_lt e6, rfl⟩) rfl gv_X6_194 md_X3_forget rfl (by omega) (by decide) hl.1 rfl (Nat.le_of_ble_eq_true rfl) dX6_restart_13) (fun H locs w => ?_)
    refine lv_goto (tgt := 21) hx hb dX6_restart_16 (by decide) ?_
    exact g_iret C w hr hq hf dX6_restart_21
abbrev f_X6_restart (x1 : Int32) (M : Mem) : Option (Int32 × Mem) := f_X6_restart_0 x1 M
theorem c_X6_restart (hi : gInj 241 ad) {x1 : Int32} {Rs : Int32 × Mem} (hf : f_X6_restart x1 M = some Rs) : gMet l yX6_restart cX6_restart 2 (some .int) 3 D (xty cI cT cS) 241 (xE cI cT cS) ad [.ref (ad 0), .int x1] M (qI D 241 (xE cI cT cS) ad Rs) := gMet_of (by decide) hi (xE_loc cI cT cS) (Nat.le_of_ble_eq_true rfl) (fun p e s m args below meth c ls C hr hq w hl => w_X6_restart_0 C hr hq  w hl hf)
def f_X6_about_0 (x1 : Int32) (M : Mem) : Option (Int32 × Mem) :=
  if x1 = 0 then (some ((M 0 5), M)) else if x1 = 1 then (some ((M 6 3), M)) else if x1 = 2 then (some ((M 10 2), M)) else if x1 = 3 then (some ((M 10 3), M)) else if x1 = 4 then (some ((M 0 6), M)) else (some ((-102 : Int32), M))
set_option maxRecDepth 100000 in
set_option maxHeartbeats 4000000 in
theorem w_X6_about_0 (C : gC p s m args c RX6 cX6_about 2 D (xty cI cT cS) 241 (xE cI cT cS) ad) (hr : meth.sig.returnType = (some .int)) (hq : meth.locks = false) {Rs : Int32 × Mem} {x1 : Int32} (w : gWd D 241 (xE cI cT cS) ad M s H locs) (hl : lv_has ls 2 [(0, .ref (ad 0)), (1, .int x1)]) (hf : f_X6_about_0  x1 M = some Rs) : W p l e (rmH 0) s m args below meth c H locs 0 0 (MQ below (qI D 241 (xE cI cT cS) ad Rs) args s 0 0 (gA 241 ad)) (F0 m 0 ls []) := by
  unfold f_X6_about_0 at hf
  have hx := C.1.1
  have hb := C.1.2.1
  have hi := C.2.2.2.1
  refine lv_iload_n hx hb dX6_about_0 rfl (lv_at hl 1 rfl) ?_
  by_cases c1 : x1 = 0
  · replace hf := (if_pos c1).symm.trans hf
    refine lv_tableIn (tgt := 36) hx hb dX6_about_1 (by rw [c1]; decide) (by rw [c1]; decide) (by rw [c1]; rfl) (by decide) ?_
    refine lv_aload_n hx hb dX6_about_36 rfl (lv_at hl 0 rfl) ?_
    refine gt_X6_56 C w dX6_about_37 ?_
    exact g_iret C w hr hq hf dX6_about_40
  · replace hf := (if_neg c1).symm.trans hf
    by_cases c2 : x1 = 1
    · replace hf := (if_pos c2).symm.trans hf
      refine lv_tableIn (tgt := 41) hx hb dX6_about_1 (by rw [c2]; decide) (by rw [c2]; decide) (by rw [c2]; rfl) (by decide) ?_
      refine lv_aload_n hx hb dX6_about_41 rfl (lv_at hl 0 rfl) ?_
      refine gt_X6_31 C w dX6_about_42 ?_
      refine gt_X6_198 C w dX6_about_45 ?_
      exact g_iret C w hr hq hf dX6_about_48
    · replace hf := (if_neg c2).symm.trans hf
      by_cases c3 : x1 = 2
      · replace hf := (if_pos c3).symm.trans hf
        refine lv_tableIn (tgt := 49) hx hb dX6_about_1 (by rw [c3]; decide) (by rw [c3]; decide) (by rw [c3]; rfl) (by decide) ?_
        refine lv_aload_n hx hb dX6_about_49 rfl (lv_at hl 0 rfl) ?_
        refine gt_X6_38 C w dX6_about_50 ?_
        refine gt_X6_163 C w dX6_about_53 ?_
        exact g_iret C w hr hq hf dX6_about_56
      · replace hf := (if_neg c3).symm.trans hf
        by_cases c4 : x1 = 3
        · replace hf := (if_pos c4).symm.trans hf
          refine lv_tableIn (tgt := 57) hx hb dX6_about_1 (by rw [c4]; decide) (by rw [c4]; decide) (by rw [c4]; rfl) (by decide) ?_
          refine lv_aload_n hx hb dX6_about_57 rfl (lv_at hl 0 rfl) ?_
          refine gt_X6_38 C w dX6_about_58 ?_
          refine gt_X6_169 C w dX6_about_61 ?_
          exact g_iret C w hr hq hf dX6_about_64
        · replace hf := (if_neg c4).symm.trans hf
          by_cases c5 : x1 = 4
          · replace hf := (if_pos c5).symm.trans hf
            refine lv_tableIn (tgt := 65) hx hb dX6_about_1 (by rw [c5]; decide) (by rw [c5]; decide) (by rw [c5]; rfl) (by decide) ?_
            refine lv_aload_n hx hb dX6_about_65 rfl (lv_at hl 0 rfl) ?_
            refine gt_X6_199 C w dX6_about_66 ?_
            exact g_iret C w hr hq hf dX6_about_69
          · replace hf := (if_neg c5).symm.trans hf
            refine lv_tableOut (tgt := 70) hx hb dX6_about_1 (by have := lv_neT c1 (show (0 : Int32).toInt = 0 from rfl); have := lv_neT c2 (show (1 : Int32).toInt = 1 from rfl); have := lv_neT c3 (show (2 : Int32).toInt = 2 from rfl); have := lv_neT c4 (show (3 : Int32).toInt = 3 from rfl); have := lv_neT c5 (show (4 : Int32).toInt = 4 from rfl); omega) (by decide) ?_
            refine lv_bipush (v := -102) hx hb dX6_about_70 (by decide) ?_
            exact g_iret C w hr hq hf dX6_about_72
abbrev f_X6_about (x1 : Int32) (M : Mem) : Option (Int32 × Mem) := f_X6_about_0 x1 M
theorem c_X6_about (hi : gInj 241 ad) {x1 : Int32} {Rs : Int32 × Mem} (hf : f_X6_about x1 M = some Rs) : gMet l yX6_about cX6_about 2 (some .int) 0 D (xty cI cT cS) 241 (xE cI cT cS) ad [.ref (ad 0), .int x1] M (qI D 241 (xE cI cT cS) ad Rs) := gMet_of (by decide) hi (xE_loc cI cT cS) (Nat.le_of_ble_eq_true rfl) (fun p e s m args below meth c ls C hr hq w hl => w_X6_about_0 C hr hq  w hl hf)
def f_X6_clear_7b (k7_ : (Int32 → Int32 → Mem → Option (Int32 × Mem))) (x1 : Int32) (x2 : Int32) (M : Mem) : Option (Int32 × Mem) :=
  if (4 : Int32) ≤ x2 then ((f_X1_forget 3 M).bind fun (v4, M2) =>
  (stF M2 6 3 (0 : Int32)).bind fun M5 =>
  (stF M5 10 2 (0 : Int32)).bind fun M7 =>
  (stF M7 10 3 (0 : Int32)).bind fun M9 =>
  (stF M9 0 5 (0 : Int32)).bind fun M11 =>
  (stF M11 0 6 (0 : Int32)).bind fun M13 =>
  (stF M13 0 7 (0 : Int32)).bind fun M15 =>
  some (x1, M15)) else ((ixQ 4 x2).bind fun t17 =>
  (f_X3_forget (13 + 5 * t17) M).bind fun (v21, M19) =>
  (ixQ 4 x2).bind fun t22 =>
  (stF M19 (13 + 5 * t22) 2 (1000 : Int32)).bind fun M24 =>
  k7_ x1 (x2 + 1) M24)
def f_X6_clear_7 : Nat → Int32 → Int32 → Mem → Option (Int32 × Mem)
  | 0, _, _, _ => none
  | n + 1, x1, x2, M => f_X6_clear_7b (f_X6_clear_7  n) x1 x2 M
def f_X6_clear_0 (M : Mem) : Option (Int32 × Mem) :=
  f_X6_clear_7 FU (M 0 5) (0 : Int32) M
set_option maxRecDepth 100000 in
set_option maxHeartbeats 4000000 in
theorem w_X6_clear_7b (C : gC p s m args c RX6 cX6_clear 3 D (xty cI cT cS) 241 (xE cI cT cS) ad) (hr : meth.sig.returnType = (some .int)) (hq : meth.locks = false) {k7_ : (Int32 → Int32 → Mem → Option (Int32 × Mem))} {Rs : Int32 × Mem} (hk7_ : ∀ {x1 : Int32} {x2 : Int32} {M : Mem} {H : Heap} {locs : List Loc} {ls : Array Slot}, gWd D 241 (xE cI cT cS) ad M s H locs → lv_has ls 3 [(0, .ref (ad 0)), (1, .int x1), (2, .int x2)] → k7_ x1 x2 M = some Rs → W p l e (rmH 3) s m args below meth c H locs 0 0 (MQ below (qI D 241 (xE cI cT cS) ad Rs) args s 0 0 (gA 241 ad)) (F0 m 7 ls [])) {x1 : Int32} {x2 : Int32} (w : gWd D 241 (xE cI cT cS) ad M s H locs) (hl : lv_has ls 3 [(0, .ref (ad 0)), (1, .int x1), (2, .int x2)]) (hf : f_X6_clear_7b k7_ x1 x2 M = some Rs) : W p l e (rmH 3) s m args below meth c H locs 0 0 (MQ below (qI D 241 (xE cI cT cS) ad Rs) args s 0 0 (gA 241 ad)) (F0 m 7 ls []) := by
  unfold f_X6_clear_7b at hf
  have hx := C.1.1
  have hb := C.1.2.1
  have hi := C.2.2.2.1
  refine lv_iload_n hx hb dX6_clear_7 rfl (lv_at hl 2 rfl) ?_
  refine lv_iconst (v := 4) hx hb dX6_clear_8 (by decide) ?_
  refine lv_icmp_ge (tgt := 40) hx hb dX6_clear_9 (by decide) (fun c1 => ?_) (fun c1 => ?_)
  · replace hf := (if_pos c1).symm.trans hf
    refine lv_aload_n hx hb dX6_clear_40 rfl (lv_at hl 0 rfl) ?_
    refine gt_X6_24 C w dX6_clear_41 ?_
    obtain ⟨⟨v4, M2⟩, e3, hf⟩ := bindS hf
    refine g_backI w (g_runV (rest := []) C w (c_X1_forget hi xP_3 e3) (ob_X1 xP_3) rfl gv_X6_202 md_X1_forget rfl (by omega) (by decide) hl.1 rfl (Nat.le_of_ble_eq_true rfl) dX6_clear_44) (fun H locs w => ?_)
    refine lv_pop hx hb dX6_clear_47 rfl ?_
    refine lv_aload_n hx hb dX6_clear_48 rfl (lv_at hl 0 rfl) ?_
    refine gt_X6_31 C w dX6_clear_49 ?_
    refine lv_iconst (v := 0) hx hb dX6_clear_52 (by decide) ?_
    obtain ⟨M5, e6, hf⟩ := bindS hf
    refine pt_X6_198 C w e6 dX6_clear_53 (fun H locs w => ?_)
    refine lv_aload_n hx hb dX6_clear_56 rfl (lv_at hl 0 rfl) ?_
    refine gt_X6_38 C w dX6_clear_57 ?_
    refine lv_iconst (v := 0) hx hb dX6_clear_60 (by decide) ?_
    obtain ⟨M7, e8, hf⟩ := bindS hf
    refine pt_X6_163 C w e8 dX6_clear_61 (fun H locs w => ?_)
    refine lv_aload_n hx hb dX6_clear_64 rfl (lv_at hl 0 rfl) ?_
    refine gt_X6_38 C w dX6_clear_65 ?_
    refine lv_iconst (v := 0) hx hb dX6_clear_68 (by decide) ?_
    obtain ⟨M9, e10, hf⟩ := bindS hf
    refine pt_X6_169 C w e10 dX6_clear_69 (fun H locs w => ?_)
    refine lv_aload_n hx hb dX6_clear_72 rfl (lv_at hl 0 rfl) ?_
    refine lv_iconst (v := 0) hx hb dX6_clear_73 (by decide) ?_
    obtain ⟨M11, e12, hf⟩ := bindS hf
    refine pt_X6_56 C w e12 dX6_clear_74 (fun H locs w => ?_)
    refine lv_aload_n hx hb dX6_clear_77 rfl (lv_at hl 0 rfl) ?_
    refine lv_iconst (v := 0) hx hb dX6_clear_78 (by decide) ?_
    obtain ⟨M13, e14, hf⟩ := bindS hf
    refine pt_X6_199 C w e14 dX6_clear_79 (fun H locs w => ?_)
    refine lv_aload_n hx hb dX6_clear_82 rfl (lv_at hl 0 rfl) ?_
    refine lv_iconst (v := 0) hx hb dX6_clear_83 (by decide) ?_
    obtain ⟨M15, e16, hf⟩ := bindS hf
    refine pt_X6_136 C w e16 dX6_clear_84 (fun H locs w => ?_)
    refine lv_iload_n hx hb dX6_clear_87 rfl (lv_at hl 1 rfl) ?_
    exact g_iret C w hr hq hf dX6_clear_88
  · replace hf := (if_neg c1).symm.trans hf
    refine lv_aload_n hx hb dX6_clear_12 rfl (lv_at hl 0 rfl) ?_
    refine gt_X6_17 C w dX6_clear_13 ?_
    refine lv_iload_n hx hb dX6_clear_16 rfl (lv_at hl 2 rfl) ?_
    obtain ⟨t17, e18, hf⟩ := bindS hf
    refine g_aald (t0 := 2) C w rf_S rfl e18 dX6_clear_17 ?_
    obtain ⟨⟨v21, M19⟩, e20, hf⟩ := bindS hf
    refine g_backI w (g_runV (rest := []) C w (c_X3_forget hi ⟨t17, ixQ_lt e18, rfl⟩ e20) (ob_X3 ⟨t17, ixQ_lt e18, rfl⟩) rfl gv_X6_194 md_X3_forget rfl (by omega) (by decide) hl.1 rfl (Nat.le_of_ble_eq_true rfl) dX6_clear_18) (fun H locs w => ?_)
    refine lv_pop hx hb dX6_clear_21 rfl ?_
    refine lv_aload_n hx hb dX6_clear_22 rfl (lv_at hl 0 rfl) ?_
    refine gt_X6_17 C w dX6_clear_23 ?_
    refine lv_iload_n hx hb dX6_clear_26 rfl (lv_at hl 2 rfl) ?_
    obtain ⟨t22, e23, hf⟩ := bindS hf
    refine g_aald (t0 := 2) C w rf_S rfl e23 dX6_clear_27 ?_
    refine lv_sipush (v := 1000) hx hb dX6_clear_28 (by decide) ?_
    obtain ⟨M24, e25, hf⟩ := bindS hf
    refine pt_X6_183 ⟨t22, ixQ_lt e23, rfl⟩ C w e25 dX6_clear_31 (fun H locs w => ?_)
    refine lv_iinc (v := (x2 + 1)) (lv' := [(2, .int (x2 + 1)), (0, .ref (ad 0)), (1, .int x1)]) hx hb dX6_clear_34 hl (k := 2) rfl rfl (by decide) rfl (fun ls hl => ?_)
    refine lv_goto (tgt := 7) hx hb dX6_clear_37 (by decide) ?_
    exact hk7_ w (lv_sub hl [1, 2, 0] rfl) hf
theorem w_X6_clear_7 (C : gC p s m args c RX6 cX6_clear 3 D (xty cI cT cS) 241 (xE cI cT cS) ad) (hr : meth.sig.returnType = (some .int)) (hq : meth.locks = false) {Rs : Int32 × Mem} : ∀ (n : Nat) {x1 : Int32} {x2 : Int32} {M : Mem} {H : Heap} {locs : List Loc} {ls : Array Slot}, gWd D 241 (xE cI cT cS) ad M s H locs → lv_has ls 3 [(0, .ref (ad 0)), (1, .int x1), (2, .int x2)] → f_X6_clear_7  n x1 x2 M = some Rs → W p l e (rmH 3) s m args below meth c H locs 0 0 (MQ below (qI D 241 (xE cI cT cS) ad Rs) args s 0 0 (gA 241 ad)) (F0 m 7 ls []) := by
  intro n
  induction n with
  | zero =>
    intro x1 x2 M H locs ls w hl hf
    cases hf
  | succ n ih =>
    intro x1 x2 M H locs ls w hl hf
    exact w_X6_clear_7b C hr hq ih  w hl hf
set_option maxRecDepth 100000 in
set_option maxHeartbeats 4000000 in
theorem w_X6_clear_0 (C : gC p s m args c RX6 cX6_clear 3 D (xty cI cT cS) 241 (xE cI cT cS) ad) (hr : meth.sig.returnType = (some .int)) (hq : meth.locks = false) {Rs : Int32 × Mem}  (w : gWd D 241 (xE cI cT cS) ad M s H locs) (hl : lv_has ls 3 [(0, .ref (ad 0))]) (hf : f_X6_clear_0  M = some Rs) : W p l e (rmH 3) s m args below meth c H locs 0 0 (MQ below (qI D 241 (xE cI cT cS) ad Rs) args s 0 0 (gA 241 ad)) (F0 m 0 ls []) := by
  unfold f_X6_clear_0 at hf
  have hx := C.1.1
  have hb := C.1.2.1
  have hi := C.2.2.2.1
  refine lv_aload_n hx hb dX6_clear_0 rfl (lv_at hl 0 rfl) ?_
  refine gt_X6_56 C w dX6_clear_1 ?_
  refine lv_istore_n (lv' := [(1, .int (M 0 5)), (0, .ref (ad 0))]) hx hb dX6_clear_4 rfl hl (by decide) rfl (fun ls hl => ?_)
  refine lv_iconst (v := 0) hx hb dX6_clear_5 (by decide) ?_
  refine lv_istore_n (lv' := [(2, .int (0 : Int32)), (1, .int (M 0 5)), (0, .ref (ad 0))]) hx hb dX6_clear_6 rfl hl (by decide) rfl (fun ls hl => ?_)
  exact w_X6_clear_7 C hr hq FU w (lv_sub hl [2, 1, 0] rfl) hf
abbrev f_X6_clear (M : Mem) : Option (Int32 × Mem) := f_X6_clear_0 M
theorem c_X6_clear (hi : gInj 241 ad)  {Rs : Int32 × Mem} (hf : f_X6_clear M = some Rs) : gMet l yX6_clear cX6_clear 3 (some .int) 3 D (xty cI cT cS) 241 (xE cI cT cS) ad [.ref (ad 0)] M (qI D 241 (xE cI cT cS) ad Rs) := gMet_of (by decide) hi (xE_loc cI cT cS) (Nat.le_of_ble_eq_true rfl) (fun p e s m args below meth c ls C hr hq w hl => w_X6_clear_0 C hr hq  w hl hf)
end GENX
