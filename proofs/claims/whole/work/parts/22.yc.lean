noncomputable section GENX
variable {p : Program} {l : Launch} {e : Env} {h : Nat} {R : Room} {s : State} {m : MethodId} {args : Array Value} {below : List Frame} {meth : Method} {c : Code} {H : Heap} {locs : List Loc} {cells slots : Nat} {Q : State → Prop} {cc : ByteArray} {nL pc : Nat} {ls : Array Slot} {rest : List Value} {D : va_G} {ad : Nat → Nat} {M M1 : Mem} {cI cT cS cZ : ClassId}
theorem kc_X7_wakes : Cond.code yX7_wakes cX7_wakes 3 (some .int) ∈ gW := gw_in 749 (by decide +kernel) rfl
theorem md_X7_wakes : gMd yX7_wakes 2 := ⟨by decide +kernel, by decide +kernel, by decide +kernel⟩
theorem kl_X7_189 : Cond.methodLink RX7 189 yX7_wakes ∈ gW := gw_in 746 (by decide +kernel) rfl
theorem kn_X7_wakes : Cond.instanceMethod yX7_wakes ∈ gW := gw_in 748 (by decide +kernel) rfl
theorem ks_X7_wakes : Cond.selects RX7 yX7_wakes yX7_wakes ∈ gW := gw_in 25 (by decide +kernel) rfl
theorem gv_X7_189 : gWv RX7 189 yX7_wakes cX7_wakes 3 (some .int) := ⟨kl_X7_189, kn_X7_wakes, ks_X7_wakes, ki_X7, kc_X7_wakes⟩
theorem kf_X7_192 : Cond.fieldLink RX7 192 (TX7 39).1 (TX7 39).2.1 (TX7 39).2.2.1 ∈ gW := gw_in 615 (by decide +kernel) rfl
theorem pt_X7_192 {x : Int32} (C : gC p s m args c RX7 cc nL D (yty cI cZ) 30 (yE cI cZ) ad) (w : gWd D 30 (yE cI cZ) ad M s H locs) (e1 : stF M 0 39 x = some M1) (hdg : decode cc pc = .ok (.putfield 192, 3)) (kk : ∀ (H1 : Heap) (locs1 : List Loc), gWd D 30 (yE cI cZ) ad M1 s H1 locs1 → W p l e R s m args below meth c H1 locs1 cells slots Q (F0 m (pc + 3) ls rest)) : W p l e R s m args below meth c H locs cells slots Q (F0 m pc ls (.int x :: .ref (ad 0) :: rest)) := by
  cases e1
  exact g_put C w ob_X7 rfl ginX7 tyX7 tyX7_ok nmX7 39 (by decide) kf_X7_192 rfl rfl rfl (Nat.le_of_ble_eq_true rfl) (by simp [fX7, mset, upd]) hdg kk
theorem kf_X7_62 : Cond.fieldLink RX7 62 (TX7 24).1 (TX7 24).2.1 (TX7 24).2.2.1 ∈ gW := gw_in 600 (by decide +kernel) rfl
theorem gt_X7_62 (C : gC p s m args c RX7 cc nL D (yty cI cZ) 30 (yE cI cZ) ad) (w : gWd D 30 (yE cI cZ) ad M s H locs) (hdg : decode cc pc = .ok (.getfield 62, 3)) (kk : W p l e R s m args below meth c H locs cells slots Q (F0 m (pc + 3) ls (.ref (ad 18) :: rest))) : W p l e R s m args below meth c H locs cells slots Q (F0 m pc ls (.ref (ad 0) :: rest)) := g_get C w ob_X7 rfl ginX7 24 (by decide) kf_X7_62 rfl hdg kk
theorem gt_X7_105 (C : gC p s m args c RX7 cc nL D (yty cI cZ) 30 (yE cI cZ) ad) (w : gWd D 30 (yE cI cZ) ad M s H locs) (hdg : decode cc pc = .ok (.getfield 105, 3)) (kk : W p l e R s m args below meth c H locs cells slots Q (F0 m (pc + 3) ls (.int (M 0 15) :: rest))) : W p l e R s m args below meth c H locs cells slots Q (F0 m pc ls (.ref (ad 0) :: rest)) := g_get C w ob_X7 rfl ginX7 15 (by decide) kf_X7_105 rfl hdg kk
theorem kf_X7_59 : Cond.fieldLink RX7 59 (TX7 23).1 (TX7 23).2.1 (TX7 23).2.2.1 ∈ gW := gw_in 599 (by decide +kernel) rfl
theorem gt_X7_59 (C : gC p s m args c RX7 cc nL D (yty cI cZ) 30 (yE cI cZ) ad) (w : gWd D 30 (yE cI cZ) ad M s H locs) (hdg : decode cc pc = .ok (.getfield 59, 3)) (kk : W p l e R s m args below meth c H locs cells slots Q (F0 m (pc + 3) ls (.ref (ad 17) :: rest))) : W p l e R s m args below meth c H locs cells slots Q (F0 m pc ls (.ref (ad 0) :: rest)) := g_get C w ob_X7 rfl ginX7 23 (by decide) kf_X7_59 rfl hdg kk
theorem kc_X7_makes : Cond.code yX7_makes cX7_makes 4 (some .int) ∈ gW := gw_in 745 (by decide +kernel) rfl
theorem md_X7_makes : gMd yX7_makes 2 := ⟨by decide +kernel, by decide +kernel, by decide +kernel⟩
theorem kl_X7_198 : Cond.methodLink RX7 198 yX7_makes ∈ gW := gw_in 742 (by decide +kernel) rfl
theorem kn_X7_makes : Cond.instanceMethod yX7_makes ∈ gW := gw_in 744 (by decide +kernel) rfl
theorem ks_X7_makes : Cond.selects RX7 yX7_makes yX7_makes ∈ gW := gw_in 24 (by decide +kernel) rfl
theorem gv_X7_198 : gWv RX7 198 yX7_makes cX7_makes 4 (some .int) := ⟨kl_X7_198, kn_X7_makes, ks_X7_makes, ki_X7, kc_X7_makes⟩
theorem kc_X7_asks : Cond.code yX7_asks cX7_asks 6 (some .int) ∈ gW := gw_in 797 (by decide +kernel) rfl
theorem md_X7_asks : gMd yX7_asks 3 := ⟨by decide +kernel, by decide +kernel, by decide +kernel⟩
theorem kl_X7_201 : Cond.methodLink RX7 201 yX7_asks ∈ gW := gw_in 794 (by decide +kernel) rfl
theorem kn_X7_asks : Cond.instanceMethod yX7_asks ∈ gW := gw_in 796 (by decide +kernel) rfl
theorem ks_X7_asks : Cond.selects RX7 yX7_asks yX7_asks ∈ gW := gw_in 37 (by decide +kernel) rfl
theorem gv_X7_201 : gWv RX7 201 yX7_asks cX7_asks 6 (some .int) := ⟨kl_X7_201, kn_X7_asks, ks_X7_asks, ki_X7, kc_X7_asks⟩
theorem gt_X7_192 (C : gC p s m args c RX7 cc nL D (yty cI cZ) 30 (yE cI cZ) ad) (w : gWd D 30 (yE cI cZ) ad M s H locs) (hdg : decode cc pc = .ok (.getfield 192, 3)) (kk : W p l e R s m args below meth c H locs cells slots Q (F0 m (pc + 3) ls (.int (M 0 39) :: rest))) : W p l e R s m args below meth c H locs cells slots Q (F0 m pc ls (.ref (ad 0) :: rest)) := g_get C w ob_X7 rfl ginX7 39 (by decide) kf_X7_192 rfl hdg kk
theorem kc_X7_isSession : Cond.code yX7_isSession cX7_isSession 1 (some .boolean) ∈ gW := gw_in 737 (by decide +kernel) rfl
theorem md_X7_isSession : gMd yX7_isSession 1 := ⟨by decide +kernel, by decide +kernel, by decide +kernel⟩
theorem kt_X7_isSession : Cond.static yX7_isSession ∈ gW := gw_in 736 (by decide +kernel) rfl
theorem kl_X7_195 : Cond.methodLink RX7 195 yX7_isSession ∈ gW := gw_in 735 (by decide +kernel) rfl
theorem gs_X7_195 : gWs RX7 195 yX7_isSession cX7_isSession 1 (some .boolean) := ⟨kl_X7_195, kt_X7_isSession, ki_X7, kc_X7_isSession⟩
theorem kk_X7_204 : Cond.constant RX7 204 100000 ∈ gW := gw_in 822 (by decide +kernel) rfl
theorem kc_X7_begins : Cond.code yX7_begins cX7_begins 2 none ∈ gW := gw_in 575 (by decide +kernel) rfl
theorem md_X7_begins : gMd yX7_begins 0 := ⟨by decide +kernel, by decide +kernel, by decide +kernel⟩
theorem kl_X7_98 : Cond.methodLink RX7 98 yX7_begins ∈ gW := gw_in 572 (by decide +kernel) rfl
theorem kn_X7_begins : Cond.instanceMethod yX7_begins ∈ gW := gw_in 574 (by decide +kernel) rfl
theorem ks_X7_begins : Cond.selects RX7 yX7_begins yX7_begins ∈ gW := gw_in 21 (by decide +kernel) rfl
theorem gv_X7_98 : gWv RX7 98 yX7_begins cX7_begins 2 none := ⟨kl_X7_98, kn_X7_begins, ks_X7_begins, ki_X7, kc_X7_begins⟩
def f_X7_makes_48 (x3 : Int32) (q0 : Nat) (s1 : Int32) (s2 : Int32) (s3 : Int32) (M : Mem) : Option (Int32 × Mem) :=
  (stI M q0 64 s1 (s2 + s3)).bind fun M1 =>
  some (x3, M1)
def f_X7_makes_0 (x1 : Int32) (x2 : Int32) (M : Mem) : Option (Int32 × Mem) :=
  (f_X7_isType x2 M).bind fun (v3, M1) =>
  if v3 = 0 then (some ((18 : Int32), M1)) else ((ldI M1 1 16 x2).bind fun v5 =>
  if v5 = 0 then ((f_X7_wakes x1 x2 M1).bind fun (v10, M8) =>
  (ldI M8 12 64 (((16 : Int32) * x1) + x2)).bind fun v11 =>
  if v10 = 0 then (f_X7_makes_48 v10 12 (((16 : Int32) * x1) + x2) v11 (1 : Int32) M8) else (f_X7_makes_48 v10 12 (((16 : Int32) * x1) + x2) v11 (0 : Int32) M8)) else (some ((18 : Int32), M1)))
set_option maxRecDepth 100000 in
set_option maxHeartbeats 4000000 in
theorem w_X7_makes_48 (C : gC p s m args c RX7 cX7_makes 4 D (yty cI cZ) 30 (yE cI cZ) ad) (hr : meth.sig.returnType = (some .int)) (hq : meth.locks = false) {Rs : Int32 × Mem} {x3 : Int32} {q0 : Nat} {s1 : Int32} {s2 : Int32} {s3 : Int32} (g0 : gAr 30 (yE cI cZ) ad cI q0 64) (w : gWd D 30 (yE cI cZ) ad M s H locs) (hl : lv_has ls 4 [(3, .int x3)]) (hf : f_X7_makes_48  x3 q0 s1 s2 s3 M = some Rs) : W p l e (rmH 6) s m args below meth c H locs 0 0 (MQ below (qI D 30 (yE cI cZ) ad Rs) args s 0 0 (gA 30 ad)) (F0 m 48 ls [.int s3, .int s2, .int s1, .ref (ad q0)]) := by
  unfold f_X7_makes_48 at hf
  have hx := C.1.1
  have hb := C.1.2.1
  have hi := C.2.2.2.1
  refine lv_iadd hx hb dX7_makes_48 ?_
  obtain ⟨M1, e2, hf⟩ := bindS hf
  refine g_iast C w g0 e2 dX7_makes_49 (fun H locs w => ?_)
  refine lv_iload_n hx hb dX7_makes_50 rfl (lv_at hl 0 rfl) ?_
  exact g_iret C w hr hq hf dX7_makes_51
set_option maxRecDepth 100000 in
set_option maxHeartbeats 4000000 in
theorem w_X7_makes_0 (C : gC p s m args c RX7 cX7_makes 4 D (yty cI cZ) 30 (yE cI cZ) ad) (hr : meth.sig.returnType = (some .int)) (hq : meth.locks = false) {Rs : Int32 × Mem} {x1 : Int32} {x2 : Int32} (w : gWd D 30 (yE cI cZ) ad M s H locs) (hl : lv_has ls 4 [(0, .ref (ad 0)), (1, .int x1), (2, .int x2)]) (hf : f_X7_makes_0  x1 x2 M = some Rs) : W p l e (rmH 6) s m args below meth c H locs 0 0 (MQ below (qI D 30 (yE cI cZ) ad Rs) args s 0 0 (gA 30 ad)) (F0 m 0 ls []) := by
  unfold f_X7_makes_0 at hf
  have hx := C.1.1
  have hb := C.1.2.1
  have hi := C.2.2.2.1
  refine lv_aload_n hx hb dX7_makes_0 rfl (lv_at hl 0 rfl) ?_
  refine lv_iload_n hx hb dX7_makes_1 rfl (lv_at hl 2 rfl) ?_
  obtain ⟨⟨v3, M1⟩, e2, hf⟩ := bindS hf
  refine g_backI w (g_runV (rest := []) C w (c_X7_isType hi  e2) ob_X7 rfl gv_X7_127 md_X7_isType rfl (by omega) (by decide) hl.1 rfl (Nat.le_of_ble_eq_true rfl) dX7_makes_2) (fun H locs w => ?_)
  refine lv_if_eq (tgt := 17) hx hb dX7_makes_5 (by decide) (fun c4 => ?_) (fun c4 => ?_)
  · replace hf := (if_pos c4).symm.trans hf
    refine lv_bipush (v := 18) hx hb dX7_makes_17 (by decide) ?_
    exact g_iret C w hr hq hf dX7_makes_19
  · replace hf := (if_neg c4).symm.trans hf
    refine lv_aload_n hx hb dX7_makes_8 rfl (lv_at hl 0 rfl) ?_
    refine gt_X7_7 C w dX7_makes_9 ?_
    refine lv_iload_n hx hb dX7_makes_12 rfl (lv_at hl 2 rfl) ?_
    obtain ⟨v5, e6, hf⟩ := bindS hf
    refine g_iald C w y_a1 e6 dX7_makes_13 ?_
    refine lv_if_eq (tgt := 20) hx hb dX7_makes_14 (by decide) (fun c7 => ?_) (fun c7 => ?_)
    · replace hf := (if_pos c7).symm.trans hf
      refine lv_aload_n hx hb dX7_makes_20 rfl (lv_at hl 0 rfl) ?_
      refine lv_iload_n hx hb dX7_makes_21 rfl (lv_at hl 1 rfl) ?_
      refine lv_iload_n hx hb dX7_makes_22 rfl (lv_at hl 2 rfl) ?_
      obtain ⟨⟨v10, M8⟩, e9, hf⟩ := bindS hf
      refine g_backI w (g_runV (rest := []) C w (c_X7_wakes hi  e9) ob_X7 rfl gv_X7_189 md_X7_wakes rfl (by omega) (by decide) hl.1 rfl (Nat.le_of_ble_eq_true rfl) dX7_makes_23) (fun H locs w => ?_)
      refine lv_istore_n (lv' := [(3, .int v10), (0, .ref (ad 0)), (1, .int x1), (2, .int x2)]) hx hb dX7_makes_26 rfl hl (by decide) rfl (fun ls hl => ?_)
      refine lv_aload_n hx hb dX7_makes_27 rfl (lv_at hl 1 rfl) ?_
      refine gt_X7_44 C w dX7_makes_28 ?_
      refine lv_bipush (v := 16) hx hb dX7_makes_31 (by decide) ?_
      refine lv_iload_n hx hb dX7_makes_33 rfl (lv_at hl 2 rfl) ?_
      refine lv_imul hx hb dX7_makes_34 ?_
      refine lv_iload_n hx hb dX7_makes_35 rfl (lv_at hl 3 rfl) ?_
      refine lv_iadd hx hb dX7_makes_36 ?_
      refine lv_dup2_11 hx hb dX7_makes_37 rfl rfl ?_
      obtain ⟨v11, e12, hf⟩ := bindS hf
      refine g_iald C w y_a12 e12 dX7_makes_38 ?_
      refine lv_iload_n hx hb dX7_makes_39 rfl (lv_at hl 0 rfl) ?_
      refine lv_if_ne (tgt := 47) hx hb dX7_makes_40 (by decide) (fun c13 => ?_) (fun c13 => ?_)
      · replace hf := (if_neg c13).symm.trans hf
        refine lv_iconst (v := 0) hx hb dX7_makes_47 (by decide) ?_
        exact w_X7_makes_48 C hr hq y_a12 w (lv_sub hl [0] rfl) hf
      · replace hf := (if_pos c13).symm.trans hf
        refine lv_iconst (v := 1) hx hb dX7_makes_43 (by decide) ?_
        refine lv_goto (tgt := 48) hx hb dX7_makes_44 (by decide) ?_
        exact w_X7_makes_48 C hr hq y_a12 w (lv_sub hl [0] rfl) hf
    · replace hf := (if_neg c7).symm.trans hf
      refine lv_bipush (v := 18) hx hb dX7_makes_17 (by decide) ?_
      exact g_iret C w hr hq hf dX7_makes_19
abbrev f_X7_makes (x1 : Int32) (x2 : Int32) (M : Mem) : Option (Int32 × Mem) := f_X7_makes_0 x1 x2 M
theorem c_X7_makes (hi : gInj 30 ad) {x1 : Int32} {x2 : Int32} {Rs : Int32 × Mem} (hf : f_X7_makes x1 x2 M = some Rs) : gMet l yX7_makes cX7_makes 4 (some .int) 6 D (yty cI cZ) 30 (yE cI cZ) ad [.ref (ad 0), .int x1, .int x2] M (qI D 30 (yE cI cZ) ad Rs) := gMet_of (by decide) hi (yE_loc cI cZ) (Nat.le_of_ble_eq_true rfl) (fun p e s m args below meth c ls C hr hq w hl => w_X7_makes_0 C hr hq  w hl hf)
def f_X7_asks_18 (x1 : Int32) (x3 : Int32) (s0 : Int32) (M : Mem) : Option (Int32 × Mem) :=
  if s0 = (-1 : Int32) then (some ((18 : Int32), M)) else ((ldI M 6 80 (((5 : Int32) * s0) + x3)).bind fun v2 =>
  if v2 = (1 : Int32) then ((ldI M 7 80 (((5 : Int32) * s0) + x3)).bind fun v13 =>
  (stF M 0 39 v13).bind fun M15 =>
  some ((0 : Int32), M15)) else ((f_X7_wakes x1 s0 M).bind fun (v7, M5) =>
  (f_X7_plain x1 s0 x3 M5).bind fun (v10, M8) =>
  (stF M8 0 39 v10).bind fun M11 =>
  some (v7, M11)))
def f_X7_asks_0 (x1 : Int32) (x2 : Int32) (x3 : Int32) (M : Mem) : Option (Int32 × Mem) :=
  (f_X7_isType x2 M).bind fun (v3, M1) =>
  if v3 = 0 then (f_X7_asks_18 x1 x3 (-1 : Int32) M1) else ((f_X7_homeOf x2 x3 M1).bind fun (v7, M5) =>
  f_X7_asks_18 x1 x3 v7 M5)
set_option maxRecDepth 100000 in
set_option maxHeartbeats 4000000 in
theorem w_X7_asks_18 (C : gC p s m args c RX7 cX7_asks 6 D (yty cI cZ) 30 (yE cI cZ) ad) (hr : meth.sig.returnType = (some .int)) (hq : meth.locks = false) {Rs : Int32 × Mem} {x1 : Int32} {x3 : Int32} {s0 : Int32} (w : gWd D 30 (yE cI cZ) ad M s H locs) (hl : lv_has ls 6 [(0, .ref (ad 0)), (1, .int x1), (3, .int x3)]) (hf : f_X7_asks_18  x1 x3 s0 M = some Rs) : W p l e (rmH 6) s m args below meth c H locs 0 0 (MQ below (qI D 30 (yE cI cZ) ad Rs) args s 0 0 (gA 30 ad)) (F0 m 18 ls [.int s0]) := by
  unfold f_X7_asks_18 at hf
  have hx := C.1.1
  have hb := C.1.2.1
  have hi := C.2.2.2.1
  refine lv_istore (lv' := [(4, .int s0), (0, .ref (ad 0)), (1, .int x1), (3, .int x3)]) hx hb dX7_asks_18 hl (by decide) rfl (fun ls hl => ?_)
  refine lv_iload hx hb dX7_asks_20 (lv_at hl 0 rfl) ?_
  refine lv_iconst (v := -1) hx hb dX7_asks_22 (by decide) ?_
  refine lv_icmp_ne (tgt := 29) hx hb dX7_asks_23 (by decide) (fun c1 => ?_) (fun c1 => ?_)
  · replace hf := (if_neg c1).symm.trans hf
    refine lv_aload_n hx hb dX7_asks_29 rfl (lv_at hl 1 rfl) ?_
    refine gt_X7_26 C w dX7_asks_30 ?_
    refine lv_iconst (v := 5) hx hb dX7_asks_33 (by decide) ?_
    refine lv_iload hx hb dX7_asks_34 (lv_at hl 0 rfl) ?_
    refine lv_imul hx hb dX7_asks_36 ?_
    refine lv_iload_n hx hb dX7_asks_37 rfl (lv_at hl 3 rfl) ?_
    refine lv_iadd hx hb dX7_asks_38 ?_
    obtain ⟨v2, e3, hf⟩ := bindS hf
    refine g_iald C w y_a6 e3 dX7_asks_39 ?_
    refine lv_iconst (v := 1) hx hb dX7_asks_40 (by decide) ?_
    refine lv_icmp_ne (tgt := 61) hx hb dX7_asks_41 (by decide) (fun c4 => ?_) (fun c4 => ?_)
    · replace hf := (if_neg c4).symm.trans hf
      refine lv_aload_n hx hb dX7_asks_61 rfl (lv_at hl 1 rfl) ?_
      refine lv_iload_n hx hb dX7_asks_62 rfl (lv_at hl 2 rfl) ?_
      refine lv_iload hx hb dX7_asks_63 (lv_at hl 0 rfl) ?_
      obtain ⟨⟨v7, M5⟩, e6, hf⟩ := bindS hf
      refine g_backI w (g_runV (rest := []) C w (c_X7_wakes hi  e6) ob_X7 rfl gv_X7_189 md_X7_wakes rfl (by omega) (by decide) hl.1 rfl (Nat.le_of_ble_eq_true rfl) dX7_asks_65) (fun H locs w => ?_)
      refine lv_istore (lv' := [(5, .int v7), (4, .int s0), (0, .ref (ad 0)), (1, .int x1), (3, .int x3)]) hx hb dX7_asks_68 hl (by decide) rfl (fun ls hl => ?_)
      refine lv_aload_n hx hb dX7_asks_70 rfl (lv_at hl 2 rfl) ?_
      refine lv_aload_n hx hb dX7_asks_71 rfl (lv_at hl 2 rfl) ?_
      refine lv_iload_n hx hb dX7_asks_72 rfl (lv_at hl 3 rfl) ?_
      refine lv_iload hx hb dX7_asks_73 (lv_at hl 1 rfl) ?_
      refine lv_iload_n hx hb dX7_asks_75 rfl (lv_at hl 4 rfl) ?_
      obtain ⟨⟨v10, M8⟩, e9, hf⟩ := bindS hf
      refine g_backI w (g_runV (rest := [.ref (ad 0)]) C w (c_X7_plain hi  e9) ob_X7 rfl gv_X7_167 md_X7_plain rfl (by omega) (by decide) hl.1 rfl (Nat.le_of_ble_eq_true rfl) dX7_asks_76) (fun H locs w => ?_)
      obtain ⟨M11, e12, hf⟩ := bindS hf
      refine pt_X7_192 C w e12 dX7_asks_79 (fun H locs w => ?_)
      refine lv_iload hx hb dX7_asks_82 (lv_at hl 0 rfl) ?_
      exact g_iret C w hr hq hf dX7_asks_84
    · replace hf := (if_pos c4).symm.trans hf
      refine lv_aload_n hx hb dX7_asks_44 rfl (lv_at hl 1 rfl) ?_
      refine lv_aload_n hx hb dX7_asks_45 rfl (lv_at hl 1 rfl) ?_
      refine gt_X7_29 C w dX7_asks_46 ?_
      refine lv_iconst (v := 5) hx hb dX7_asks_49 (by decide) ?_
      refine lv_iload hx hb dX7_asks_50 (lv_at hl 0 rfl) ?_
      refine lv_imul hx hb dX7_asks_52 ?_
      refine lv_iload_n hx hb dX7_asks_53 rfl (lv_at hl 3 rfl) ?_
      refine lv_iadd hx hb dX7_asks_54 ?_
      obtain ⟨v13, e14, hf⟩ := bindS hf
      refine g_iald C w y_a7 e14 dX7_asks_55 ?_
      obtain ⟨M15, e16, hf⟩ := bindS hf
      refine pt_X7_192 C w e16 dX7_asks_56 (fun H locs w => ?_)
      refine lv_iconst (v := 0) hx hb dX7_asks_59 (by decide) ?_
      exact g_iret C w hr hq hf dX7_asks_60
  · replace hf := (if_pos c1).symm.trans hf
    refine lv_bipush (v := 18) hx hb dX7_asks_26 (by decide) ?_
    exact g_iret C w hr hq hf dX7_asks_28
set_option maxRecDepth 100000 in
set_option maxHeartbeats 4000000 in
theorem w_X7_asks_0 (C : gC p s m args c RX7 cX7_asks 6 D (yty cI cZ) 30 (yE cI cZ) ad) (hr : meth.sig.returnType = (some .int)) (hq : meth.locks = false) {Rs : Int32 × Mem} {x1 : Int32} {x2 : Int32} {x3 : Int32} (w : gWd D 30 (yE cI cZ) ad M s H locs) (hl : lv_has ls 6 [(0, .ref (ad 0)), (1, .int x1), (2, .int x2), (3, .int x3)]) (hf : f_X7_asks_0  x1 x2 x3 M = some Rs) : W p l e (rmH 6) s m args below meth c H locs 0 0 (MQ below (qI D 30 (yE cI cZ) ad Rs) args s 0 0 (gA 30 ad)) (F0 m 0 ls []) := by
  unfold f_X7_asks_0 at hf
  have hx := C.1.1
  have hb := C.1.2.1
  have hi := C.2.2.2.1
  refine lv_aload_n hx hb dX7_asks_0 rfl (lv_at hl 0 rfl) ?_
  refine lv_iload_n hx hb dX7_asks_1 rfl (lv_at hl 2 rfl) ?_
  obtain ⟨⟨v3, M1⟩, e2, hf⟩ := bindS hf
  refine g_backI w (g_runV (rest := []) C w (c_X7_isType hi  e2) ob_X7 rfl gv_X7_127 md_X7_isType rfl (by omega) (by decide) hl.1 rfl (Nat.le_of_ble_eq_true rfl) dX7_asks_2) (fun H locs w => ?_)
  refine lv_if_eq (tgt := 17) hx hb dX7_asks_5 (by decide) (fun c4 => ?_) (fun c4 => ?_)
  · replace hf := (if_pos c4).symm.trans hf
    refine lv_iconst (v := -1) hx hb dX7_asks_17 (by decide) ?_
    exact w_X7_asks_18 C hr hq w (lv_sub hl [0, 1, 3] rfl) hf
  · replace hf := (if_neg c4).symm.trans hf
    refine lv_aload_n hx hb dX7_asks_8 rfl (lv_at hl 0 rfl) ?_
    refine lv_iload_n hx hb dX7_asks_9 rfl (lv_at hl 2 rfl) ?_
    refine lv_iload_n hx hb dX7_asks_10 rfl (lv_at hl 3 rfl) ?_
    obtain ⟨⟨v7, M5⟩, e6, hf⟩ := bindS hf
    refine g_backI w (g_runV (rest := []) C w (c_X7_homeOf hi  e6) ob_X7 rfl gv_X7_183 md_X7_homeOf rfl (by omega) (by decide) hl.1 rfl (Nat.le_of_ble_eq_true rfl) dX7_asks_11) (fun H locs w => ?_)
    refine lv_goto (tgt := 18) hx hb dX7_asks_14 (by decide) ?_
    exact w_X7_asks_18 C hr hq w (lv_sub hl [0, 1, 3] rfl) hf
abbrev f_X7_asks (x1 : Int32) (x2 : Int32) (x3 : Int32) (M : Mem) : Option (Int32 × Mem) := f_X7_asks_0 x1 x2 x3 M
theorem c_X7_asks (hi : gInj 30 ad) {x1 : Int32} {x2 : Int32} {x3 : Int32} {Rs : Int32 × Mem} (hf : f_X7_asks x1 x2 x3 M = some Rs) : gMet l yX7_asks cX7_asks 6 (some .int) 6 D (yty cI cZ) 30 (yE cI cZ) ad [.ref (ad 0), .int x1, .int x2, .int x3] M (qI D 30 (yE cI cZ) ad Rs) := gMet_of (by decide) hi (yE_loc cI cZ) (Nat.le_of_ble_eq_true rfl) (fun p e s m args below meth c ls C hr hq w hl => w_X7_asks_0 C hr hq  w hl hf)
def f_X7_use_323 (x1 : Int32) (x8 : Int32) (q0 : Nat) (s1 : Int32) (s2 : Int32) (M : Mem) : Option (Int32 × Mem) :=
  (stI M q0 2400 s1 s2).bind fun M1 =>
  (ldI M1 16 4 x1).bind fun v3 =>
  (stI M1 18 2400 (((600 : Int32) * x1) + v3) (M1 0 25)).bind fun M5 =>
  (ldI M5 16 4 x1).bind fun v7 =>
  (stI M5 16 4 x1 (v7 + (1 : Int32))).bind fun M9 =>
  if (M9 0 15) = 0 then (some (x8, M9)) else (some ((0 : Int32), M9))
def f_X7_use_322 (x1 : Int32) (x8 : Int32) (q0 : Nat) (s1 : Int32) (M : Mem) : Option (Int32 × Mem) :=
  f_X7_use_323 x1 x8 q0 s1 (-1 : Int32) M
def f_X7_use_291 (x1 : Int32) (x2 : Int32) (x3 : Int32) (x8 : Int32) (M : Mem) : Option (Int32 × Mem) :=
  (ldI M 16 4 x1).bind fun v1 =>
  if x3 = 0 then (if (M 0 15) = 0 then (f_X7_use_323 x1 x8 17 (((600 : Int32) * x1) + v1) x2 M) else (f_X7_use_322 x1 x8 17 (((600 : Int32) * x1) + v1) M)) else (f_X7_use_322 x1 x8 17 (((600 : Int32) * x1) + v1) M)
def f_X7_use_147 (x1 : Int32) (x2 : Int32) (x3 : Int32) (x4 : Int32) (x5 : Int32) (x7 : Int32) (M : Mem) : Option (Int32 × Mem) :=
  (stF M 0 16 ((M 0 16) + (1 : Int32))).bind fun M1 =>
  (stF M1 0 25 (0 : Int32)).bind fun M3 =>
  if x3 = 0 then ((f_X7_makes x1 x2 M3).bind fun (v8, M6) =>
  (stF M6 0 15 v8).bind fun M9 =>
  (ldI M9 12 64 (((16 : Int32) * x1) + x2)).bind fun v11 =>
  f_X7_use_291 x1 x2 x3 v11 M9) else if x3 = 1 then ((f_X7_asks x1 x2 x4 M3).bind fun (v16, M14) =>
  (stF M14 0 15 v16).bind fun M17 =>
  f_X7_use_291 x1 x2 x3 (M17 0 39) M17) else if x3 = 2 then ((f_X7_wakes x1 x7 M3).bind fun (v22, M20) =>
  (stF M20 0 15 v22).bind fun M23 =>
  (f_X7_plain x1 x7 x4 M23).bind fun (v27, M25) =>
  if (M25 0 15) = 0 then ((f_X7_write x1 x7 x4 x5 M25).bind fun (v31, M29) =>
  (stF M29 0 15 v31).bind fun M32 =>
  f_X7_use_291 x1 x2 x3 v27 M32) else (f_X7_use_291 x1 x2 x3 v27 M25)) else ((stF M3 0 15 (0 : Int32)).bind fun M34 =>
  f_X7_use_291 x1 x2 x3 (0 : Int32) M34)
def f_X7_use_117 (x1 : Int32) (x2 : Int32) (x3 : Int32) (x4 : Int32) (x5 : Int32) (x7 : Int32) (M : Mem) : Option (Int32 × Mem) :=
  if x3 = (2 : Int32) then (if x7 = (-1 : Int32) then (some ((-103 : Int32), M)) else ((ldI M 6 80 (((5 : Int32) * x7) + x4)).bind fun v3 =>
  if v3 = (1 : Int32) then (some ((-103 : Int32), M)) else (f_X7_use_147 x1 x2 x3 x4 x5 x7 M))) else (f_X7_use_147 x1 x2 x3 x4 x5 x7 M)
def f_X7_use_102 (x1 : Int32) (x2 : Int32) (x3 : Int32) (x4 : Int32) (x5 : Int32) (s0 : Int32) (M : Mem) : Option (Int32 × Mem) :=
  if x3 = 0 then ((ldI M 1 16 x2).bind fun v2 =>
  if v2 = 0 then (f_X7_use_117 x1 x2 x3 x4 x5 s0 M) else (some ((-103 : Int32), M))) else (f_X7_use_117 x1 x2 x3 x4 x5 s0 M)
def f_X7_use_86 (x1 : Int32) (x2 : Int32) (x3 : Int32) (x4 : Int32) (x5 : Int32) (M : Mem) : Option (Int32 × Mem) :=
  if x3 = (2 : Int32) then ((f_X7_homeOf x2 x4 M).bind fun (v4, M2) =>
  f_X7_use_102 x1 x2 x3 x4 x5 v4 M2) else (f_X7_use_102 x1 x2 x3 x4 x5 (-1 : Int32) M)
def f_X7_use_64 (x1 : Int32) (x2 : Int32) (x3 : Int32) (x4 : Int32) (x5 : Int32) (M : Mem) : Option (Int32 × Mem) :=
  if x3 = (2 : Int32) then ((f_X7_in x5 (-999 : Int32) (999 : Int32) M).bind fun (v4, M2) =>
  if v4 = 0 then (some ((-102 : Int32), M2)) else (f_X7_use_86 x1 x2 x3 x4 x5 M2)) else (f_X7_use_86 x1 x2 x3 x4 x5 M)
def f_X7_use_38 (x1 : Int32) (x2 : Int32) (x3 : Int32) (x4 : Int32) (x5 : Int32) (s0 : Int32) (M : Mem) : Option (Int32 × Mem) :=
  (f_X7_in x3 (0 : Int32) (3 : Int32) M).bind fun (v3, M1) =>
  if v3 = 0 then (some ((-102 : Int32), M1)) else (if s0 = 0 then (f_X7_use_64 x1 x2 x3 x4 x5 M1) else ((f_X7_in x4 (0 : Int32) (4 : Int32) M1).bind fun (v8, M6) =>
  if v8 = 0 then (some ((-102 : Int32), M6)) else (f_X7_use_64 x1 x2 x3 x4 x5 M6)))
def f_X7_use_33 (x1 : Int32) (x2 : Int32) (x3 : Int32) (x4 : Int32) (x5 : Int32) (M : Mem) : Option (Int32 × Mem) :=
  f_X7_use_38 x1 x2 x3 x4 x5 (1 : Int32) M
def f_X7_use_0 (x1 : Int32) (x2 : Int32) (x3 : Int32) (x4 : Int32) (x5 : Int32) (M : Mem) : Option (Int32 × Mem) :=
  (stF M 0 0 (0 : Int32)).bind fun M1 =>
  (f_X7_isSession x1 M1).bind fun (v5, M3) =>
  if v5 = 0 then (some ((-101 : Int32), M3)) else ((f_X7_isType x2 M3).bind fun (v9, M7) =>
  if v9 = 0 then (some ((-101 : Int32), M7)) else (if x3 = (1 : Int32) then (f_X7_use_33 x1 x2 x3 x4 x5 M7) else (if x3 = (2 : Int32) then (f_X7_use_33 x1 x2 x3 x4 x5 M7) else (f_X7_use_38 x1 x2 x3 x4 x5 (0 : Int32) M7))))
set_option maxRecDepth 100000 in
set_option maxHeartbeats 4000000 in
theorem w_X7_use_323 (C : gC p s m args c RX7 cX7_use 9 D (yty cI cZ) 30 (yE cI cZ) ad) (hr : meth.sig.returnType = (some .int)) (hq : meth.locks = false) {Rs : Int32 × Mem} {x1 : Int32} {x8 : Int32} {q0 : Nat} {s1 : Int32} {s2 : Int32} (g0 : gAr 30 (yE cI cZ) ad cI q0 2400) (w : gWd D 30 (yE cI cZ) ad M s H locs) (hl : lv_has ls 9 [(0, .ref (ad 0)), (1, .int x1), (8, .int x8)]) (hf : f_X7_use_323  x1 x8 q0 s1 s2 M = some Rs) : W p l e (rmH 7) s m args below meth c H locs 0 0 (MQ below (qI D 30 (yE cI cZ) ad Rs) args s 0 0 (gA 30 ad)) (F0 m 323 ls [.int s2, .int s1, .ref (ad q0)]) := by
  unfold f_X7_use_323 at hf
  have hx := C.1.1
  have hb := C.1.2.1
  have hi := C.2.2.2.1
  obtain ⟨M1, e2, hf⟩ := bindS hf
  refine g_iast C w g0 e2 dX7_use_323 (fun H locs w => ?_)
  refine lv_aload_n hx hb dX7_use_324 rfl (lv_at hl 0 rfl) ?_
  refine gt_X7_62 C w dX7_use_325 ?_
  refine lv_sipush (v := 600) hx hb dX7_use_328 (by decide) ?_
  refine lv_iload_n hx hb dX7_use_331 rfl (lv_at hl 1 rfl) ?_
  refine lv_imul hx hb dX7_use_332 ?_
  refine lv_aload_n hx hb dX7_use_333 rfl (lv_at hl 0 rfl) ?_
  refine gt_X7_56 C w dX7_use_334 ?_
  refine lv_iload_n hx hb dX7_use_337 rfl (lv_at hl 1 rfl) ?_
  obtain ⟨v3, e4, hf⟩ := bindS hf
  refine g_iald C w y_a16 e4 dX7_use_338 ?_
  refine lv_iadd hx hb dX7_use_339 ?_
  refine lv_aload_n hx hb dX7_use_340 rfl (lv_at hl 0 rfl) ?_
  refine gt_X7_186 C w dX7_use_341 ?_
  obtain ⟨M5, e6, hf⟩ := bindS hf
  refine g_iast C w y_a18 e6 dX7_use_344 (fun H locs w => ?_)
  refine lv_aload_n hx hb dX7_use_345 rfl (lv_at hl 0 rfl) ?_
  refine gt_X7_56 C w dX7_use_346 ?_
  refine lv_iload_n hx hb dX7_use_349 rfl (lv_at hl 1 rfl) ?_
  refine lv_dup2_11 hx hb dX7_use_350 rfl rfl ?_
  obtain ⟨v7, e8, hf⟩ := bindS hf
  refine g_iald C w y_a16 e8 dX7_use_351 ?_
  refine lv_iconst (v := 1) hx hb dX7_use_352 (by decide) ?_
  refine lv_iadd hx hb dX7_use_353 ?_
  obtain ⟨M9, e10, hf⟩ := bindS hf
  refine g_iast C w y_a16 e10 dX7_use_354 (fun H locs w => ?_)
  refine lv_aload_n hx hb dX7_use_355 rfl (lv_at hl 0 rfl) ?_
  refine gt_X7_105 C w dX7_use_356 ?_
  refine lv_if_ne (tgt := 367) hx hb dX7_use_359 (by decide) (fun c11 => ?_) (fun c11 => ?_)
  · replace hf := (if_neg c11).symm.trans hf
    refine lv_iconst (v := 0) hx hb dX7_use_367 (by decide) ?_
    exact g_iret C w hr hq hf dX7_use_368
  · replace hf := (if_pos c11).symm.trans hf
    refine lv_iload hx hb dX7_use_362 (lv_at hl 2 rfl) ?_
    refine lv_goto (tgt := 368) hx hb dX7_use_364 (by decide) ?_
    exact g_iret C w hr hq hf dX7_use_368
set_option maxRecDepth 100000 in
set_option maxHeartbeats 4000000 in
theorem w_X7_use_322 (C : gC p s m args c RX7 cX7_use 9 D (yty cI cZ) 30 (yE cI cZ) ad) (hr : meth.sig.returnType = (some .int)) (hq : meth.locks = false) {Rs : Int32 × Mem} {x1 : Int32} {x8 : Int32} {q0 : Nat} {s1 : Int32} (g0 : gAr 30 (yE cI cZ) ad cI q0 2400) (w : gWd D 30 (yE cI cZ) ad M s H locs) (hl : lv_has ls 9 [(0, .ref (ad 0)), (1, .int x1), (8, .int x8)]) (hf : f_X7_use_322  x1 x8 q0 s1 M = some Rs) : W p l e (rmH 7) s m args below meth c H locs 0 0 (MQ below (qI D 30 (yE cI cZ) ad Rs) args s 0 0 (gA 30 ad)) (F0 m 322 ls [.int s1, .ref (ad q0)]) := by
  unfold f_X7_use_322 at hf
  have hx := C.1.1
  have hb := C.1.2.1
  have hi := C.2.2.2.1
  refine lv_iconst (v := -1) hx hb dX7_use_322 (by decide) ?_
  exact w_X7_use_323 C hr hq g0 w (lv_sub hl [0, 1, 2] rfl) hf
set_option maxRecDepth 100000 in
set_option maxHeartbeats 4000000 in
theorem w_X7_use_291 (C : gC p s m args c RX7 cX7_use 9 D (yty cI cZ) 30 (yE cI cZ) ad) (hr : meth.sig.returnType = (some .int)) (hq : meth.locks = false) {Rs : Int32 × Mem} {x1 : Int32} {x2 : Int32} {x3 : Int32} {x8 : Int32} (w : gWd D 30 (yE cI cZ) ad M s H locs) (hl : lv_has ls 9 [(0, .ref (ad 0)), (1, .int x1), (2, .int x2), (3, .int x3), (8, .int x8)]) (hf : f_X7_use_291  x1 x2 x3 x8 M = some Rs) : W p l e (rmH 7) s m args below meth c H locs 0 0 (MQ below (qI D 30 (yE cI cZ) ad Rs) args s 0 0 (gA 30 ad)) (F0 m 291 ls []) := by
  unfold f_X7_use_291 at hf
  have hx := C.1.1
  have hb := C.1.2.1
  have hi := C.2.2.2.1
  refine lv_aload_n hx hb dX7_use_291 rfl (lv_at hl 0 rfl) ?_
  refine gt_X7_59 C w dX7_use_292 ?_
  refine lv_sipush (v := 600) hx hb dX7_use_295 (by decide) ?_
  refine lv_iload_n hx hb dX7_use_298 rfl (lv_at hl 1 rfl) ?_
  refine lv_imul hx hb dX7_use_299 ?_
  refine lv_aload_n hx hb dX7_use_300 rfl (lv_at hl 0 rfl) ?_
  refine gt_X7_56 C w dX7_use_301 ?_
  refine lv_iload_n hx hb dX7_use_304 rfl (lv_at hl 1 rfl) ?_
  obtain ⟨v1, e2, hf⟩ := bindS hf
  refine g_iald C w y_a16 e2 dX7_use_305 ?_
  refine lv_iadd hx hb dX7_use_306 ?_
  refine lv_iload_n hx hb dX7_use_307 rfl (lv_at hl 3 rfl) ?_
  refine lv_if_ne (tgt := 322) hx hb dX7_use_308 (by decide) (fun c3 => ?_) (fun c3 => ?_)
  · replace hf := (if_neg c3).symm.trans hf
    exact w_X7_use_322 C hr hq y_a17 w (lv_sub hl [0, 1, 4] rfl) hf
  · replace hf := (if_pos c3).symm.trans hf
    refine lv_aload_n hx hb dX7_use_311 rfl (lv_at hl 0 rfl) ?_
    refine gt_X7_105 C w dX7_use_312 ?_
    refine lv_if_ne (tgt := 322) hx hb dX7_use_315 (by decide) (fun c4 => ?_) (fun c4 => ?_)
    · replace hf := (if_neg c4).symm.trans hf
      exact w_X7_use_322 C hr hq y_a17 w (lv_sub hl [0, 1, 4] rfl) hf
    · replace hf := (if_pos c4).symm.trans hf
      refine lv_iload_n hx hb dX7_use_318 rfl (lv_at hl 2 rfl) ?_
      refine lv_goto (tgt := 323) hx hb dX7_use_319 (by decide) ?_
      exact w_X7_use_323 C hr hq y_a17 w (lv_sub hl [0, 1, 4] rfl) hf
set_option maxRecDepth 100000 in
set_option maxHeartbeats 4000000 in
theorem w_X7_use_147 (C : gC p s m args c RX7 cX7_use 9 D (yty cI cZ) 30 (yE cI cZ) ad) (hr : meth.sig.returnType = (some .int)) (hq : meth.locks = false) {Rs : Int32 × Mem} {x1 : Int32} {x2 : Int32} {x3 : Int32} {x4 : Int32} {x5 : Int32} {x7 : Int32} (w : gWd D 30 (yE cI cZ) ad M s H locs) (hl : lv_has ls 9 [(0, .ref (ad 0)), (1, .int x1), (2, .int x2), (3, .int x3), (4, .int x4), (5, .int x5), (7, .int x7)]) (hf : f_X7_use_147  x1 x2 x3 x4 x5 x7 M = some Rs) : W p l e (rmH 7) s m args below meth c H locs 0 0 (MQ below (qI D 30 (yE cI cZ) ad Rs) args s 0 0 (gA 30 ad)) (F0 m 147 ls []) := by
  unfold f_X7_use_147 at hf
  have hx := C.1.1
  have hb := C.1.2.1
  have hi := C.2.2.2.1
  refine lv_aload_n hx hb dX7_use_147 rfl (lv_at hl 0 rfl) ?_
  refine lv_dup hx hb dX7_use_148 rfl ?_
  refine gt_X7_108 C w dX7_use_149 ?_
  refine lv_iconst (v := 1) hx hb dX7_use_152 (by decide) ?_
  refine lv_iadd hx hb dX7_use_153 ?_
  obtain ⟨M1, e2, hf⟩ := bindS hf
  refine pt_X7_108 C w e2 dX7_use_154 (fun H locs w => ?_)
  refine lv_aload_n hx hb dX7_use_157 rfl (lv_at hl 0 rfl) ?_
  refine lv_iconst (v := 0) hx hb dX7_use_158 (by decide) ?_
  obtain ⟨M3, e4, hf⟩ := bindS hf
  refine pt_X7_186 C w e4 dX7_use_159 (fun H locs w => ?_)
  refine lv_iconst (v := 0) hx hb dX7_use_162 (by decide) ?_
  refine lv_istore (lv' := [(8, .int (0 : Int32)), (0, .ref (ad 0)), (1, .int x1), (2, .int x2), (3, .int x3), (4, .int x4), (5, .int x5), (7, .int x7)]) hx hb dX7_use_163 hl (by decide) rfl (fun ls hl => ?_)
  refine lv_iload_n hx hb dX7_use_165 rfl (lv_at hl 4 rfl) ?_
  by_cases c5 : x3 = 0
  · replace hf := (if_pos c5).symm.trans hf
    refine lv_tableIn (tgt := 192) hx hb dX7_use_166 (by rw [c5]; decide) (by rw [c5]; decide) (by rw [c5]; rfl) (by decide) ?_
    refine lv_aload_n hx hb dX7_use_192 rfl (lv_at hl 1 rfl) ?_
    refine lv_aload_n hx hb dX7_use_193 rfl (lv_at hl 1 rfl) ?_
    refine lv_iload_n hx hb dX7_use_194 rfl (lv_at hl 2 rfl) ?_
    refine lv_iload_n hx hb dX7_use_195 rfl (lv_at hl 3 rfl) ?_
    obtain ⟨⟨v8, M6⟩, e7, hf⟩ := bindS hf
    refine g_backI w (g_runV (rest := [.ref (ad 0)]) C w (c_X7_makes hi  e7) ob_X7 rfl gv_X7_198 md_X7_makes rfl (by omega) (by decide) hl.1 rfl (Nat.le_of_ble_eq_true rfl) dX7_use_196) (fun H locs w => ?_)
    obtain ⟨M9, e10, hf⟩ := bindS hf
    refine pt_X7_105 C w e10 dX7_use_199 (fun H locs w => ?_)
    refine lv_aload_n hx hb dX7_use_202 rfl (lv_at hl 1 rfl) ?_
    refine gt_X7_44 C w dX7_use_203 ?_
    refine lv_bipush (v := 16) hx hb dX7_use_206 (by decide) ?_
    refine lv_iload_n hx hb dX7_use_208 rfl (lv_at hl 2 rfl) ?_
    refine lv_imul hx hb dX7_use_209 ?_
    refine lv_iload_n hx hb dX7_use_210 rfl (lv_at hl 3 rfl) ?_
    refine lv_iadd hx hb dX7_use_211 ?_
    obtain ⟨v11, e12, hf⟩ := bindS hf
    refine g_iald C w y_a12 e12 dX7_use_212 ?_
    refine lv_istore (lv' := [(8, .int v11), (0, .ref (ad 0)), (1, .int x1), (2, .int x2), (3, .int x3), (4, .int x4), (5, .int x5), (7, .int x7)]) hx hb dX7_use_213 hl (by decide) rfl (fun ls hl => ?_)
    refine lv_goto (tgt := 291) hx hb dX7_use_215 (by decide) ?_
    exact w_X7_use_291 C hr hq w (lv_sub hl [1, 2, 3, 4, 0] rfl) hf
  · replace hf := (if_neg c5).symm.trans hf
    by_cases c13 : x3 = 1
    · replace hf := (if_pos c13).symm.trans hf
      refine lv_tableIn (tgt := 218) hx hb dX7_use_166 (by rw [c13]; decide) (by rw [c13]; decide) (by rw [c13]; rfl) (by decide) ?_
      refine lv_aload_n hx hb dX7_use_218 rfl (lv_at hl 1 rfl) ?_
      refine lv_aload_n hx hb dX7_use_219 rfl (lv_at hl 1 rfl) ?_
      refine lv_iload_n hx hb dX7_use_220 rfl (lv_at hl 2 rfl) ?_
      refine lv_iload_n hx hb dX7_use_221 rfl (lv_at hl 3 rfl) ?_
      refine lv_iload hx hb dX7_use_222 (lv_at hl 5 rfl) ?_
      obtain ⟨⟨v16, M14⟩, e15, hf⟩ := bindS hf
      refine g_backI w (g_runV (rest := [.ref (ad 0)]) C w (c_X7_asks hi  e15) ob_X7 rfl gv_X7_201 md_X7_asks rfl (by omega) (by decide) hl.1 rfl (Nat.le_of_ble_eq_true rfl) dX7_use_224) (fun H locs w => ?_)
      obtain ⟨M17, e18, hf⟩ := bindS hf
      refine pt_X7_105 C w e18 dX7_use_227 (fun H locs w => ?_)
      refine lv_aload_n hx hb dX7_use_230 rfl (lv_at hl 1 rfl) ?_
      refine gt_X7_192 C w dX7_use_231 ?_
      refine lv_istore (lv' := [(8, .int (M17 0 39)), (0, .ref (ad 0)), (1, .int x1), (2, .int x2), (3, .int x3), (4, .int x4), (5, .int x5), (7, .int x7)]) hx hb dX7_use_234 hl (by decide) rfl (fun ls hl => ?_)
      refine lv_goto (tgt := 291) hx hb dX7_use_236 (by decide) ?_
      exact w_X7_use_291 C hr hq w (lv_sub hl [1, 2, 3, 4, 0] rfl) hf
    · replace hf := (if_neg c13).symm.trans hf
      by_cases c19 : x3 = 2
      · replace hf := (if_pos c19).symm.trans hf
        refine lv_tableIn (tgt := 239) hx hb dX7_use_166 (by rw [c19]; decide) (by rw [c19]; decide) (by rw [c19]; rfl) (by decide) ?_
        refine lv_aload_n hx hb dX7_use_239 rfl (lv_at hl 1 rfl) ?_
        refine lv_aload_n hx hb dX7_use_240 rfl (lv_at hl 1 rfl) ?_
        refine lv_iload_n hx hb dX7_use_241 rfl (lv_at hl 2 rfl) ?_
        refine lv_iload hx hb dX7_use_242 (lv_at hl 7 rfl) ?_
        obtain ⟨⟨v22, M20⟩, e21, hf⟩ := bindS hf
        refine g_backI w (g_runV (rest := [.ref (ad 0)]) C w (c_X7_wakes hi  e21) ob_X7 rfl gv_X7_189 md_X7_wakes rfl (by omega) (by decide) hl.1 rfl (Nat.le_of_ble_eq_true rfl) dX7_use_244) (fun H locs w => ?_)
        obtain ⟨M23, e24, hf⟩ := bindS hf
        refine pt_X7_105 C w e24 dX7_use_247 (fun H locs w => ?_)
        refine lv_aload_n hx hb dX7_use_250 rfl (lv_at hl 1 rfl) ?_
        refine lv_iload_n hx hb dX7_use_251 rfl (lv_at hl 2 rfl) ?_
        refine lv_iload hx hb dX7_use_252 (lv_at hl 7 rfl) ?_
        refine lv_iload hx hb dX7_use_254 (lv_at hl 5 rfl) ?_
        obtain ⟨⟨v27, M25⟩, e26, hf⟩ := bindS hf
        refine g_backI w (g_runV (rest := []) C w (c_X7_plain hi  e26) ob_X7 rfl gv_X7_167 md_X7_plain rfl (by omega) (by decide) hl.1 rfl (Nat.le_of_ble_eq_true rfl) dX7_use_256) (fun H locs w => ?_)
        refine lv_istore (lv' := [(8, .int v27), (0, .ref (ad 0)), (1, .int x1), (2, .int x2), (3, .int x3), (4, .int x4), (5, .int x5), (7, .int x7)]) hx hb dX7_use_259 hl (by decide) rfl (fun ls hl => ?_)
        refine lv_aload_n hx hb dX7_use_261 rfl (lv_at hl 1 rfl) ?_
        refine gt_X7_105 C w dX7_use_262 ?_
        refine lv_if_ne (tgt := 291) hx hb dX7_use_265 (by decide) (fun c28 => ?_) (fun c28 => ?_)
        · replace hf := (if_neg c28).symm.trans hf
          exact w_X7_use_291 C hr hq w (lv_sub hl [1, 2, 3, 4, 0] rfl) hf
        · replace hf := (if_pos c28).symm.trans hf
          refine lv_aload_n hx hb dX7_use_268 rfl (lv_at hl 1 rfl) ?_
          refine lv_aload_n hx hb dX7_use_269 rfl (lv_at hl 1 rfl) ?_
          refine lv_iload_n hx hb dX7_use_270 rfl (lv_at hl 2 rfl) ?_
          refine lv_iload hx hb dX7_use_271 (lv_at hl 7 rfl) ?_
          refine lv_iload hx hb dX7_use_273 (lv_at hl 5 rfl) ?_
          refine lv_iload hx hb dX7_use_275 (lv_at hl 6 rfl) ?_
          obtain ⟨⟨v31, M29⟩, e30, hf⟩ := bindS hf
          refine g_backI w (g_runV (rest := [.ref (ad 0)]) C w (c_X7_write hi  e30) ob_X7 rfl gv_X7_163 md_X7_write rfl (by omega) (by decide) hl.1 rfl (Nat.le_of_ble_eq_true rfl) dX7_use_277) (fun H locs w => ?_)
          obtain ⟨M32, e33, hf⟩ := bindS hf
          refine pt_X7_105 C w e33 dX7_use_280 (fun H locs w => ?_)
          refine lv_goto (tgt := 291) hx hb dX7_use_283 (by decide) ?_
          exact w_X7_use_291 C hr hq w (lv_sub hl [1, 2, 3, 4, 0] rfl) hf
      · replace hf := (if_neg c19).symm.trans hf
        refine lv_tableOut (tgt := 286) hx hb dX7_use_166 (by have := lv_neT c5 (show (0 : Int32).toInt = 0 from rfl); have := lv_neT c13 (show (1 : Int32).toInt = 1 from rfl); have := lv_neT c19 (show (2 : Int32).toInt = 2 from rfl); omega) (by decide) ?_
        refine lv_aload_n hx hb dX7_use_286 rfl (lv_at hl 1 rfl) ?_
        refine lv_iconst (v := 0) hx hb dX7_use_287 (by decide) ?_
        obtain ⟨M34, e35, hf⟩ := bindS hf
        refine pt_X7_105 C w e35 dX7_use_288 (fun H locs w => ?_)
        exact w_X7_use_291 C hr hq w (lv_sub hl [1, 2, 3, 4, 0] rfl) hf
set_option maxRecDepth 100000 in
set_option maxHeartbeats 4000000 in
theorem w_X7_use_117 (C : gC p s m args c RX7 cX7_use 9 D (yty cI cZ) 30 (yE cI cZ) ad) (hr : meth.sig.returnType = (some .int)) (hq : meth.locks = false) {Rs : Int32 × Mem} {x1 : Int32} {x2 : Int32} {x3 : Int32} {x4 : Int32} {x5 : Int32} {x7 : Int32} (w : gWd D 30 (yE cI cZ) ad M s H locs) (hl : lv_has ls 9 [(0, .ref (ad 0)), (1, .int x1), (2, .int x2), (3, .int x3), (4, .int x4), (5, .int x5), (7, .int x7)]) (hf : f_X7_use_117  x1 x2 x3 x4 x5 x7 M = some Rs) : W p l e (rmH 7) s m args below meth c H locs 0 0 (MQ below (qI D 30 (yE cI cZ) ad Rs) args s 0 0 (gA 30 ad)) (F0 m 117 ls []) := by
  unfold f_X7_use_117 at hf
  have hx := C.1.1
  have hb := C.1.2.1
  have hi := C.2.2.2.1
  refine lv_iload_n hx hb dX7_use_117 rfl (lv_at hl 3 rfl) ?_
  refine lv_iconst (v := 2) hx hb dX7_use_118 (by decide) ?_
  refine lv_icmp_ne (tgt := 147) hx hb dX7_use_119 (by decide) (fun c1 => ?_) (fun c1 => ?_)
  · replace hf := (if_neg c1).symm.trans hf
    exact w_X7_use_147 C hr hq w (lv_sub hl [0, 1, 2, 3, 4, 5, 6] rfl) hf
  · replace hf := (if_pos c1).symm.trans hf
    refine lv_iload hx hb dX7_use_122 (lv_at hl 6 rfl) ?_
    refine lv_iconst (v := -1) hx hb dX7_use_124 (by decide) ?_
    refine lv_icmp_eq (tgt := 144) hx hb dX7_use_125 (by decide) (fun c2 => ?_) (fun c2 => ?_)
    · replace hf := (if_pos c2).symm.trans hf
      refine lv_bipush (v := -103) hx hb dX7_use_144 (by decide) ?_
      exact g_iret C w hr hq hf dX7_use_146
    · replace hf := (if_neg c2).symm.trans hf
      refine lv_aload_n hx hb dX7_use_128 rfl (lv_at hl 0 rfl) ?_
      refine gt_X7_26 C w dX7_use_129 ?_
      refine lv_iconst (v := 5) hx hb dX7_use_132 (by decide) ?_
      refine lv_iload hx hb dX7_use_133 (lv_at hl 6 rfl) ?_
      refine lv_imul hx hb dX7_use_135 ?_
      refine lv_iload hx hb dX7_use_136 (lv_at hl 4 rfl) ?_
      refine lv_iadd hx hb dX7_use_138 ?_
      obtain ⟨v3, e4, hf⟩ := bindS hf
      refine g_iald C w y_a6 e4 dX7_use_139 ?_
      refine lv_iconst (v := 1) hx hb dX7_use_140 (by decide) ?_
      refine lv_icmp_ne (tgt := 147) hx hb dX7_use_141 (by decide) (fun c5 => ?_) (fun c5 => ?_)
      · replace hf := (if_neg c5).symm.trans hf
        exact w_X7_use_147 C hr hq w (lv_sub hl [0, 1, 2, 3, 4, 5, 6] rfl) hf
      · replace hf := (if_pos c5).symm.trans hf
        refine lv_bipush (v := -103) hx hb dX7_use_144 (by decide) ?_
        exact g_iret C w hr hq hf dX7_use_146
set_option maxRecDepth 100000 in
set_option maxHeartbeats 4000000 in
theorem w_X7_use_102 (C : gC p s m args c RX7 cX7_use 9 D (yty cI cZ) 30 (yE cI cZ) ad) (hr : meth.sig.returnType = (some .int)) (hq : meth.locks = false) {Rs : Int32 × Mem} {x1 : Int32} {x2 : Int32} {x3 : Int32} {x4 : Int32} {x5 : Int32} {s0 : Int32} (w : gWd D 30 (yE cI cZ) ad M s H locs) (hl : lv_has ls 9 [(0, .ref (ad 0)), (1, .int x1), (2, .int x2), (3, .int x3), (4, .int x4), (5, .int x5)]) (hf : f_X7_use_102  x1 x2 x3 x4 x5 s0 M = some Rs) : W p l e (rmH 7) s m args below meth c H locs 0 0 (MQ below (qI D 30 (yE cI cZ) ad Rs) args s 0 0 (gA 30 ad)) (F0 m 102 ls [.int s0]) := by
  unfold f_X7_use_102 at hf
  have hx := C.1.1
  have hb := C.1.2.1
  have hi := C.2.2.2.1
  refine lv_istore (lv' := [(7, .int s0), (0, .ref (ad 0)), (1, .int x1), (2, .int x2), (3, .int x3), (4, .int x4), (5, .int x5)]) hx hb dX7_use_102 hl (by decide) rfl (fun ls hl => ?_)
  refine lv_iload_n hx hb dX7_use_104 rfl (lv_at hl 4 rfl) ?_
  refine lv_if_ne (tgt := 117) hx hb dX7_use_105 (by decide) (fun c1 => ?_) (fun c1 => ?_)
  · replace hf := (if_neg c1).symm.trans hf
    exact w_X7_use_117 C hr hq w (lv_sub hl [1, 2, 3, 4, 5, 6, 0] rfl) hf
  · replace hf := (if_pos c1).symm.trans hf
    refine lv_aload_n hx hb dX7_use_108 rfl (lv_at hl 1 rfl) ?_
    refine gt_X7_7 C w dX7_use_109 ?_
    refine lv_iload_n hx hb dX7_use_112 rfl (lv_at hl 3 rfl) ?_
    obtain ⟨v2, e3, hf⟩ := bindS hf
    refine g_iald C w y_a1 e3 dX7_use_113 ?_
    refine lv_if_ne (tgt := 144) hx hb dX7_use_114 (by decide) (fun c4 => ?_) (fun c4 => ?_)
    · replace hf := (if_neg c4).symm.trans hf
      refine lv_bipush (v := -103) hx hb dX7_use_144 (by decide) ?_
      exact g_iret C w hr hq hf dX7_use_146
    · replace hf := (if_pos c4).symm.trans hf
      exact w_X7_use_117 C hr hq w (lv_sub hl [1, 2, 3, 4, 5, 6, 0] rfl) hf
set_option maxRecDepth 100000 in
set_option maxHeartbeats 4000000 in
theorem w_X7_use_86 (C : gC p s m args c RX7 cX7_use 9 D (yty cI cZ) 30 (yE cI cZ) ad) (hr : meth.sig.returnType = (some .int)) (hq : meth.locks = false) {Rs : Int32 × Mem} {x1 : Int32} {x2 : Int32} {x3 : Int32} {x4 : Int32} {x5 : Int32} (w : gWd D 30 (yE cI cZ) ad M s H locs) (hl : lv_has ls 9 [(0, .ref (ad 0)), (1, .int x1), (2, .int x2), (3, .int x3), (4, .int x4), (5, .int x5)]) (hf : f_X7_use_86  x1 x2 x3 x4 x5 M = some Rs) : W p l e (rmH 7) s m args below meth c H locs 0 0 (MQ below (qI D 30 (yE cI cZ) ad Rs) args s 0 0 (gA 30 ad)) (F0 m 86 ls []) := by
  unfold f_X7_use_86 at hf
  have hx := C.1.1
  have hb := C.1.2.1
  have hi := C.2.2.2.1
  refine lv_iload_n hx hb dX7_use_86 rfl (lv_at hl 3 rfl) ?_
  refine lv_iconst (v := 2) hx hb dX7_use_87 (by decide) ?_
  refine lv_icmp_ne (tgt := 101) hx hb dX7_use_88 (by decide) (fun c1 => ?_) (fun c1 => ?_)
  · replace hf := (if_neg c1).symm.trans hf
    refine lv_iconst (v := -1) hx hb dX7_use_101 (by decide) ?_
    exact w_X7_use_102 C hr hq w (lv_sub hl [0, 1, 2, 3, 4, 5] rfl) hf
  · replace hf := (if_pos c1).symm.trans hf
    refine lv_aload_n hx hb dX7_use_91 rfl (lv_at hl 0 rfl) ?_
    refine lv_iload_n hx hb dX7_use_92 rfl (lv_at hl 2 rfl) ?_
    refine lv_iload hx hb dX7_use_93 (lv_at hl 4 rfl) ?_
    obtain ⟨⟨v4, M2⟩, e3, hf⟩ := bindS hf
    refine g_backI w (g_runV (rest := []) C w (c_X7_homeOf hi  e3) ob_X7 rfl gv_X7_183 md_X7_homeOf rfl (by omega) (by decide) hl.1 rfl (Nat.le_of_ble_eq_true rfl) dX7_use_95) (fun H locs w => ?_)
    refine lv_goto (tgt := 102) hx hb dX7_use_98 (by decide) ?_
    exact w_X7_use_102 C hr hq w (lv_sub hl [0, 1, 2, 3, 4, 5] rfl) hf
set_option maxRecDepth 100000 in
set_option maxHeartbeats 4000000 in
theorem w_X7_use_64 (C : gC p s m args c RX7 cX7_use 9 D (yty cI cZ) 30 (yE cI cZ) ad) (hr : meth.sig.returnType = (some .int)) (hq : meth.locks = false) {Rs : Int32 × Mem} {x1 : Int32} {x2 : Int32} {x3 : Int32} {x4 : Int32} {x5 : Int32} (w : gWd D 30 (yE cI cZ) ad M s H locs) (hl : lv_has ls 9 [(0, .ref (ad 0)), (1, .int x1), (2, .int x2), (3, .int x3), (4, .int x4), (5, .int x5)]) (hf : f_X7_use_64  x1 x2 x3 x4 x5 M = some Rs) : W p l e (rmH 7) s m args below meth c H locs 0 0 (MQ below (qI D 30 (yE cI cZ) ad Rs) args s 0 0 (gA 30 ad)) (F0 m 64 ls []) := by
  unfold f_X7_use_64 at hf
  have hx := C.1.1
  have hb := C.1.2.1
  have hi := C.2.2.2.1
  refine lv_iload_n hx hb dX7_use_64 rfl (lv_at hl 3 rfl) ?_
  refine lv_iconst (v := 2) hx hb dX7_use_65 (by decide) ?_
  refine lv_icmp_ne (tgt := 86) hx hb dX7_use_66 (by decide) (fun c1 => ?_) (fun c1 => ?_)
  · replace hf := (if_neg c1).symm.trans hf
    exact w_X7_use_86 C hr hq w (lv_sub hl [0, 1, 2, 3, 4, 5] rfl) hf
  · replace hf := (if_pos c1).symm.trans hf
    refine lv_iload hx hb dX7_use_69 (lv_at hl 5 rfl) ?_
    refine lv_sipush (v := -999) hx hb dX7_use_71 (by decide) ?_
    refine lv_sipush (v := 999) hx hb dX7_use_74 (by decide) ?_
    obtain ⟨⟨v4, M2⟩, e3, hf⟩ := bindS hf
    refine g_backI w (g_runS (rest := []) C w (c_X7_in hi  e3) gs_X7_123 md_X7_in rfl (by omega) (by decide) hl.1 rfl (Nat.le_of_ble_eq_true rfl) dX7_use_77) (fun H locs w => ?_)
    refine lv_if_ne (tgt := 86) hx hb dX7_use_80 (by decide) (fun c5 => ?_) (fun c5 => ?_)
    · replace hf := (if_neg c5).symm.trans hf
      exact w_X7_use_86 C hr hq w (lv_sub hl [0, 1, 2, 3, 4, 5] rfl) hf
    · replace hf := (if_pos c5).symm.trans hf
      refine lv_bipush (v := -102) hx hb dX7_use_83 (by decide) ?_
      exact g_iret C w hr hq hf dX7_use_85
set_option maxRecDepth 100000 in
set_option maxHeartbeats 4000000 in
theorem w_X7_use_38 (C : gC p s m args c RX7 cX7_use 9 D (yty cI cZ) 30 (yE cI cZ) ad) (hr : meth.sig.returnType = (some .int)) (hq : meth.locks = false) {Rs : Int32 × Mem} {x1 : Int32} {x2 : Int32} {x3 : Int32} {x4 : Int32} {x5 : Int32} {s0 : Int32} (w : gWd D 30 (yE cI cZ) ad M s H locs) (hl : lv_has ls 9 [(0, .ref (ad 0)), (1, .int x1), (2, .int x2), (3, .int x3), (4, .int x4), (5, .int x5)]) (hf : f_X7_use_38  x1 x2 x3 x4 x5 s0 M = some Rs) : W p l e (rmH 7) s m args below meth c H locs 0 0 (MQ below (qI D 30 (yE cI cZ) ad Rs) args s 0 0 (gA 30 ad)) (F0 m 38 ls [.int s0]) := by
  unfold f_X7_use_38 at hf
  have hx := C.1.1
  have hb := C.1.2.1
  have hi := C.2.2.2.1
  refine lv_istore (lv' := [(6, .int s0), (0, .ref (ad 0)), (1, .int x1), (2, .int x2), (3, .int x3), (4, .int x4), (5, .int x5)]) hx hb dX7_use_38 hl (by decide) rfl (fun ls hl => ?_)
  refine lv_iload_n hx hb dX7_use_40 rfl (lv_at hl 4 rfl) ?_
  refine lv_iconst (v := 0) hx hb dX7_use_41 (by decide) ?_
  refine lv_iconst (v := 3) hx hb dX7_use_42 (by decide) ?_
  obtain ⟨⟨v3, M1⟩, e2, hf⟩ := bindS hf
  refine g_backI w (g_runS (rest := []) C w (c_X7_in hi  e2) gs_X7_123 md_X7_in rfl (by omega) (by decide) hl.1 rfl (Nat.le_of_ble_eq_true rfl) dX7_use_43) (fun H locs w => ?_)
  refine lv_if_eq (tgt := 83) hx hb dX7_use_46 (by decide) (fun c4 => ?_) (fun c4 => ?_)
  · replace hf := (if_pos c4).symm.trans hf
    refine lv_bipush (v := -102) hx hb dX7_use_83 (by decide) ?_
    exact g_iret C w hr hq hf dX7_use_85
  · replace hf := (if_neg c4).symm.trans hf
    refine lv_iload hx hb dX7_use_49 (lv_at hl 0 rfl) ?_
    refine lv_if_eq (tgt := 64) hx hb dX7_use_51 (by decide) (fun c5 => ?_) (fun c5 => ?_)
    · replace hf := (if_pos c5).symm.trans hf
      exact w_X7_use_64 C hr hq w (lv_sub hl [1, 2, 3, 4, 5, 6] rfl) hf
    · replace hf := (if_neg c5).symm.trans hf
      refine lv_iload hx hb dX7_use_54 (lv_at hl 5 rfl) ?_
      refine lv_iconst (v := 0) hx hb dX7_use_56 (by decide) ?_
      refine lv_iconst (v := 4) hx hb dX7_use_57 (by decide) ?_
      obtain ⟨⟨v8, M6⟩, e7, hf⟩ := bindS hf
      refine g_backI w (g_runS (rest := []) C w (c_X7_in hi  e7) gs_X7_123 md_X7_in rfl (by omega) (by decide) hl.1 rfl (Nat.le_of_ble_eq_true rfl) dX7_use_58) (fun H locs w => ?_)
      refine lv_if_eq (tgt := 83) hx hb dX7_use_61 (by decide) (fun c9 => ?_) (fun c9 => ?_)
      · replace hf := (if_pos c9).symm.trans hf
        refine lv_bipush (v := -102) hx hb dX7_use_83 (by decide) ?_
        exact g_iret C w hr hq hf dX7_use_85
      · replace hf := (if_neg c9).symm.trans hf
        exact w_X7_use_64 C hr hq w (lv_sub hl [1, 2, 3, 4, 5, 6] rfl) hf
set_option maxRecDepth 100000 in
set_option maxHeartbeats 4000000 in
theorem w_X7_use_33 (C : gC p s m args c RX7 cX7_use 9 D (yty cI cZ) 30 (yE cI cZ) ad) (hr : meth.sig.returnType = (some .int)) (hq : meth.locks = false) {Rs : Int32 × Mem} {x1 : Int32} {x2 : Int32} {x3 : Int32} {x4 : Int32} {x5 : Int32} (w : gWd D 30 (yE cI cZ) ad M s H locs) (hl : lv_has ls 9 [(0, .ref (ad 0)), (1, .int x1), (2, .int x2), (3, .int x3), (4, .int x4), (5, .int x5)]) (hf : f_X7_use_33  x1 x2 x3 x4 x5 M = some Rs) : W p l e (rmH 7) s m args below meth c H locs 0 0 (MQ below (qI D 30 (yE cI cZ) ad Rs) args s 0 0 (gA 30 ad)) (F0 m 33 ls []) := by
  unfold f_X7_use_33 at hf
  have hx := C.1.1
  have hb := C.1.2.1
  have hi := C.2.2.2.1
  refine lv_iconst (v := 1) hx hb dX7_use_33 (by decide) ?_
  refine lv_goto (tgt := 38) hx hb dX7_use_34 (by decide) ?_
  exact w_X7_use_38 C hr hq w (lv_sub hl [0, 1, 2, 3, 4, 5] rfl) hf
set_option maxRecDepth 100000 in
set_option maxHeartbeats 4000000 in
theorem w_X7_use_0 (C : gC p s m args c RX7 cX7_use 9 D (yty cI cZ) 30 (yE cI cZ) ad) (hr : meth.sig.returnType = (some .int)) (hq : meth.locks = false) {Rs : Int32 × Mem} {x1 : Int32} {x2 : Int32} {x3 : Int32} {x4 : Int32} {x5 : Int32} (w : gWd D 30 (yE cI cZ) ad M s H locs) (hl : lv_has ls 9 [(0, .ref (ad 0)), (1, .int x1), (2, .int x2), (3, .int x3), (4, .int x4), (5, .int x5)]) (hf : f_X7_use_0  x1 x2 x3 x4 x5 M = some Rs) : W p l e (rmH 7) s m args below meth c H locs 0 0 (MQ below (qI D 30 (yE cI cZ) ad Rs) args s 0 0 (gA 30 ad)) (F0 m 0 ls []) := by
  unfold f_X7_use_0 at hf
  have hx := C.1.1
  have hb := C.1.2.1
  have hi := C.2.2.2.1
  refine lv_aload_n hx hb dX7_use_0 rfl (lv_at hl 0 rfl) ?_
  refine lv_iconst (v := 0) hx hb dX7_use_1 (by decide) ?_
  obtain ⟨M1, e2, hf⟩ := bindS hf
  refine pt_X7_120 C w e2 dX7_use_2 (fun H locs w => ?_)
  refine lv_iload_n hx hb dX7_use_5 rfl (lv_at hl 1 rfl) ?_
  obtain ⟨⟨v5, M3⟩, e4, hf⟩ := bindS hf
  refine g_backI w (g_runS (rest := []) C w (c_X7_isSession hi  e4) gs_X7_195 md_X7_isSession rfl (by omega) (by decide) hl.1 rfl (Nat.le_of_ble_eq_true rfl) dX7_use_6) (fun H locs w => ?_)
  refine lv_if_eq (tgt := 20) hx hb dX7_use_9 (by decide) (fun c6 => ?_) (fun c6 => ?_)
  · replace hf := (if_pos c6).symm.trans hf
    refine lv_bipush (v := -101) hx hb dX7_use_20 (by decide) ?_
    exact g_iret C w hr hq hf dX7_use_22
  · replace hf := (if_neg c6).symm.trans hf
    refine lv_aload_n hx hb dX7_use_12 rfl (lv_at hl 0 rfl) ?_
    refine lv_iload_n hx hb dX7_use_13 rfl (lv_at hl 2 rfl) ?_
    obtain ⟨⟨v9, M7⟩, e8, hf⟩ := bindS hf
    refine g_backI w (g_runV (rest := []) C w (c_X7_isType hi  e8) ob_X7 rfl gv_X7_127 md_X7_isType rfl (by omega) (by decide) hl.1 rfl (Nat.le_of_ble_eq_true rfl) dX7_use_14) (fun H locs w => ?_)
    refine lv_if_ne (tgt := 23) hx hb dX7_use_17 (by decide) (fun c10 => ?_) (fun c10 => ?_)
    · replace hf := (if_neg c10).symm.trans hf
      refine lv_iload_n hx hb dX7_use_23 rfl (lv_at hl 3 rfl) ?_
      refine lv_iconst (v := 1) hx hb dX7_use_24 (by decide) ?_
      refine lv_icmp_eq (tgt := 33) hx hb dX7_use_25 (by decide) (fun c11 => ?_) (fun c11 => ?_)
      · replace hf := (if_pos c11).symm.trans hf
        exact w_X7_use_33 C hr hq w (lv_sub hl [0, 1, 2, 3, 4, 5] rfl) hf
      · replace hf := (if_neg c11).symm.trans hf
        refine lv_iload_n hx hb dX7_use_28 rfl (lv_at hl 3 rfl) ?_
        refine lv_iconst (v := 2) hx hb dX7_use_29 (by decide) ?_
        refine lv_icmp_ne (tgt := 37) hx hb dX7_use_30 (by decide) (fun c12 => ?_) (fun c12 => ?_)
        · replace hf := (if_neg c12).symm.trans hf
          refine lv_iconst (v := 0) hx hb dX7_use_37 (by decide) ?_
          exact w_X7_use_38 C hr hq w (lv_sub hl [0, 1, 2, 3, 4, 5] rfl) hf
        · replace hf := (if_pos c12).symm.trans hf
          exact w_X7_use_33 C hr hq w (lv_sub hl [0, 1, 2, 3, 4, 5] rfl) hf
    · replace hf := (if_pos c10).symm.trans hf
      refine lv_bipush (v := -101) hx hb dX7_use_20 (by decide) ?_
      exact g_iret C w hr hq hf dX7_use_22
abbrev f_X7_use (x1 : Int32) (x2 : Int32) (x3 : Int32) (x4 : Int32) (x5 : Int32) (M : Mem) : Option (Int32 × Mem) := f_X7_use_0 x1 x2 x3 x4 x5 M
theorem c_X7_use (hi : gInj 30 ad) {x1 : Int32} {x2 : Int32} {x3 : Int32} {x4 : Int32} {x5 : Int32} {Rs : Int32 × Mem} (hf : f_X7_use x1 x2 x3 x4 x5 M = some Rs) : gMet l yX7_use cX7_use 9 (some .int) 7 D (yty cI cZ) 30 (yE cI cZ) ad [.ref (ad 0), .int x1, .int x2, .int x3, .int x4, .int x5] M (qI D 30 (yE cI cZ) ad Rs) := gMet_of (by decide) hi (yE_loc cI cZ) (Nat.le_of_ble_eq_true rfl) (fun p e s m args below meth c ls C hr hq w hl => w_X7_use_0 C hr hq  w hl hf)
def f_X7_failure_0 (M : Mem) : Option (Int32 × Mem) :=
  (stF M 0 0 (0 : Int32)).bind fun M1 =>
  some ((M1 0 15), M1)
set_option maxRecDepth 100000 in
set_option maxHeartbeats 4000000 in
theorem w_X7_failure_0 (C : gC p s m args c RX7 cX7_failure 1 D (yty cI cZ) 30 (yE cI cZ) ad) (hr : meth.sig.returnType = (some .int)) (hq : meth.locks = false) {Rs : Int32 × Mem}  (w : gWd D 30 (yE cI cZ) ad M s H locs) (hl : lv_has ls 1 [(0, .ref (ad 0))]) (hf : f_X7_failure_0  M = some Rs) : W p l e (rmH 0) s m args below meth c H locs 0 0 (MQ below (qI D 30 (yE cI cZ) ad Rs) args s 0 0 (gA 30 ad)) (F0 m 0 ls []) := by
  unfold f_X7_failure_0 at hf
  have hx := C.1.1
  have hb := C.1.2.1
  have hi := C.2.2.2.1
  refine lv_aload_n hx hb dX7_failure_0 rfl (lv_at hl 0 rfl) ?_
  refine lv_iconst (v := 0) hx hb dX7_failure_1 (by decide) ?_
  obtain ⟨M1, e2, hf⟩ := bindS hf
  refine pt_X7_120 C w e2 dX7_failure_2 (fun H locs w => ?_)
  refine lv_aload_n hx hb dX7_failure_5 rfl (lv_at hl 0 rfl) ?_
  refine gt_X7_105 C w dX7_failure_6 ?_
  exact g_iret C w hr hq hf dX7_failure_9
abbrev f_X7_failure (M : Mem) : Option (Int32 × Mem) := f_X7_failure_0 M
theorem c_X7_failure (hi : gInj 30 ad)  {Rs : Int32 × Mem} (hf : f_X7_failure M = some Rs) : gMet l yX7_failure cX7_failure 1 (some .int) 0 D (yty cI cZ) 30 (yE cI cZ) ad [.ref (ad 0)] M (qI D 30 (yE cI cZ) ad Rs) := gMet_of (by decide) hi (yE_loc cI cZ) (Nat.le_of_ble_eq_true rfl) (fun p e s m args below meth c ls C hr hq w hl => w_X7_failure_0 C hr hq  w hl hf)
def f_X7_told_101 (k62_ : (Int32 → Int32 → Int32 → Int32 → Int32 → Mem → Option (Int32 × Mem))) (x1 : Int32) (x2 : Int32) (x3 : Int32) (x5 : Int32) (s0 : Int32) (s1 : Int32) (M : Mem) : Option (Int32 × Mem) :=
  k62_ x1 x2 x3 (s0 + s1) (x5 + 1) M
def f_X7_told_100 (k62_ : (Int32 → Int32 → Int32 → Int32 → Int32 → Mem → Option (Int32 × Mem))) (x1 : Int32) (x2 : Int32) (x3 : Int32) (x5 : Int32) (s0 : Int32) (M : Mem) : Option (Int32 × Mem) :=
  f_X7_told_101 k62_ x1 x2 x3 x5 s0 (0 : Int32) M
def f_X7_told_62b (k62_ : (Int32 → Int32 → Int32 → Int32 → Int32 → Mem → Option (Int32 × Mem))) (x1 : Int32) (x2 : Int32) (x3 : Int32) (x4 : Int32) (x5 : Int32) (M : Mem) : Option (Int32 × Mem) :=
  if (5 : Int32) ≤ x5 then (if x3 = (2 : Int32) then (some (x4, M)) else (some ((-102 : Int32), M))) else ((ldI M 6 80 (((5 : Int32) * x2) + x5)).bind fun v3 =>
  if v3 = (2 : Int32) then ((f_X7_plain x1 x2 x5 M).bind fun (v8, M6) =>
  if v8 = 0 then (f_X7_told_100 k62_ x1 x2 x3 x5 x4 M6) else (f_X7_told_101 k62_ x1 x2 x3 x5 x4 (1 : Int32) M6)) else (f_X7_told_100 k62_ x1 x2 x3 x5 x4 M))
def f_X7_told_62 : Nat → Int32 → Int32 → Int32 → Int32 → Int32 → Mem → Option (Int32 × Mem)
  | 0, _, _, _, _, _, _ => none
  | n + 1, x1, x2, x3, x4, x5, M => f_X7_told_62b (f_X7_told_62  n) x1 x2 x3 x4 x5 M
def f_X7_told_0 (x1 : Int32) (x2 : Int32) (x3 : Int32) (M : Mem) : Option (Int32 × Mem) :=
  (stF M 0 0 (0 : Int32)).bind fun M1 =>
  (f_X7_isSession x1 M1).bind fun (v5, M3) =>
  if v5 = 0 then (some ((-101 : Int32), M3)) else ((f_X7_isType x2 M3).bind fun (v9, M7) =>
  if v9 = 0 then (some ((-101 : Int32), M7)) else (if x3 = 0 then ((f_X7_at x1 x2 M7).bind fun (v17, M15) =>
  (ldI M15 10 80 v17).bind fun v18 =>
  some (v18, M15)) else (if x3 = (1 : Int32) then ((ldI M7 12 64 (((16 : Int32) * x1) + x2)).bind fun v13 =>
  some (v13, M7)) else (f_X7_told_62 FU x1 x2 x3 (0 : Int32) (0 : Int32) M7))))
set_option maxRecDepth 100000 in
set_option maxHeartbeats 4000000 in
theorem w_X7_told_101 (C : gC p s m args c RX7 cX7_told 6 D (yty cI cZ) 30 (yE cI cZ) ad) (hr : meth.sig.returnType = (some .int)) (hq : meth.locks = false) {k62_ : (Int32 → Int32 → Int32 → Int32 → Int32 → Mem → Option (Int32 × Mem))} {Rs : Int32 × Mem} (hk62_ : ∀ {x1 : Int32} {x2 : Int32} {x3 : Int32} {x4 : Int32} {x5 : Int32} {M : Mem} {H : Heap} {locs : List Loc} {ls : Array Slot}, gWd D 30 (yE cI cZ) ad M s H locs → lv_has ls 6 [(0, .ref (ad 0)), (1, .int x1), (2, .int x2), (3, .int x3), (4, .int x4), (5, .int x5)] → k62_ x1 x2 x3 x4 x5 M = some Rs → W p l e (rmH 2) s m args below meth c H locs 0 0 (MQ below (qI D 30 (yE cI cZ) ad Rs) args s 0 0 (gA 30 ad)) (F0 m 62 ls [])) {x1 : Int32} {x2 : Int32} {x3 : Int32} {x5 : Int32} {s0 : Int32} {s1 : Int32} (w : gWd D 30 (yE cI cZ) ad M s H locs) (hl : lv_has ls 6 [(0, .ref (ad 0)), (1, .int x1), (2, .int x2), (3, .int x3), (5, .int x5)]) (hf : f_X7_told_101 k62_ x1 x2 x3 x5 s0 s1 M = some Rs) : W p l e (rmH 2) s m args below meth c H locs 0 0 (MQ below (qI D 30 (yE cI cZ) ad Rs) args s 0 0 (gA 30 ad)) (F0 m 101 ls [.int s1, .int s0]) := by
  unfold f_X7_told_101 at hf
  have hx := C.1.1
  have hb := C.1.2.1
  have hi := C.2.2.2.1
  refine lv_iadd hx hb dX7_told_101 ?_
  refine lv_istore (lv' := [(4, .int (s0 + s1)), (0, .ref (ad 0)), (1, .int x1), (2, .int x2), (3, .int x3), (5, .int x5)]) hx hb dX7_told_102 hl (by decide) rfl (fun ls hl => ?_)
  refine lv_iinc (v := (x5 + 1)) (lv' := [(5, .int (x5 + 1)), (4, .int (s0 + s1)), (0, .ref (ad 0)), (1, .int x1), (2, .int x2), (3, .int x3)]) hx hb dX7_told_104 hl (k := 5) rfl rfl (by decide) rfl (fun ls hl => ?_)
  refine lv_goto (tgt := 62) hx hb dX7_told_107 (by decide) ?_
  exact hk62_ w (lv_sub hl [2, 3, 4, 5, 1, 0] rfl) hf
set_option maxRecDepth 100000 in
set_option maxHeartbeats 4000000 in
theorem w_X7_told_100 (C : gC p s m args c RX7 cX7_told 6 D (yty cI cZ) 30 (yE cI cZ) ad) (hr : meth.sig.returnType = (some .int)) (hq : meth.locks = false) {k62_ : (Int32 → Int32 → Int32 → Int32 → Int32 → Mem → Option (Int32 × Mem))} {Rs : Int32 × Mem} (hk62_ : ∀ {x1 : Int32} {x2 : Int32} {x3 : Int32} {x4 : Int32} {x5 : Int32} {M : Mem} {H : Heap} {locs : List Loc} {ls : Array Slot}, gWd D 30 (yE cI cZ) ad M s H locs → lv_has ls 6 [(0, .ref (ad 0)), (1, .int x1), (2, .int x2), (3, .int x3), (4, .int x4), (5, .int x5)] → k62_ x1 x2 x3 x4 x5 M = some Rs → W p l e (rmH 2) s m args below meth c H locs 0 0 (MQ below (qI D 30 (yE cI cZ) ad Rs) args s 0 0 (gA 30 ad)) (F0 m 62 ls [])) {x1 : Int32} {x2 : Int32} {x3 : Int32} {x5 : Int32} {s0 : Int32} (w : gWd D 30 (yE cI cZ) ad M s H locs) (hl : lv_has ls 6 [(0, .ref (ad 0)), (1, .int x1), (2, .int x2), (3, .int x3), (5, .int x5)]) (hf : f_X7_told_100 k62_ x1 x2 x3 x5 s0 M = some Rs) : W p l e (rmH 2) s m args below meth c H locs 0 0 (MQ below (qI D 30 (yE cI cZ) ad Rs) args s 0 0 (gA 30 ad)) (F0 m 100 ls [.int s0]) := by
  unfold f_X7_told_100 at hf
  have hx := C.1.1
  have hb := C.1.2.1
  have hi := C.2.2.2.1
  refine lv_iconst (v := 0) hx hb dX7_told_100 (by decide) ?_
  exact w_X7_told_101 C hr hq hk62_ w (lv_sub hl [0, 1, 2, 3, 4] rfl) hf
set_option maxRecDepth 100000 in
set_option maxHeartbeats 4000000 in
theorem w_X7_told_62b (C : gC p s m args c RX7 cX7_told 6 D (yty cI cZ) 30 (yE cI cZ) ad) (hr : meth.sig.returnType = (some .int)) (hq : meth.locks = false) {k62_ : (Int32 → Int32 → Int32 → Int32 → Int32 → Mem → Option (Int32 × Mem))} {Rs : Int32 × Mem} (hk62_ : ∀ {x1 : Int32} {x2 : Int32} {x3 : Int32} {x4 : Int32} {x5 : Int32} {M : Mem} {H : Heap} {locs : List Loc} {ls : Array Slot}, gWd D 30 (yE cI cZ) ad M s H locs → lv_has ls 6 [(0, .ref (ad 0)), (1, .int x1), (2, .int x2), (3, .int x3), (4, .int x4), (5, .int x5)] → k62_ x1 x2 x3 x4 x5 M = some Rs → W p l e (rmH 2) s m args below meth c H locs 0 0 (MQ below (qI D 30 (yE cI cZ) ad Rs) args s 0 0 (gA 30 ad)) (F0 m 62 ls [])) {x1 : Int32} {x2 : Int32} {x3 : Int32} {x4 : Int32} {x5 : Int32} (w : gWd D 30 (yE cI cZ) ad M s H locs) (hl : lv_has ls 6 [(0, .ref (ad 0)), (1, .int x1), (2, .int x2), (3, .int x3), (4, .int x4), (5, .int x5)]) (hf : f_X7_told_62b k62_ x1 x2 x3 x4 x5 M = some Rs) : W p l e (rmH 2) s m args below meth c H locs 0 0 (MQ below (qI D 30 (yE cI cZ) ad Rs) args s 0 0 (gA 30 ad)) (F0 m 62 ls []) := by
  unfold f_X7_told_62b at hf
  have hx := C.1.1
  have hb := C.1.2.1
  have hi := C.2.2.2.1
  refine lv_iload hx hb dX7_told_62 (lv_at hl 5 rfl) ?_
  refine lv_iconst (v := 5) hx hb dX7_told_64 (by decide) ?_
  refine lv_icmp_ge (tgt := 110) hx hb dX7_told_65 (by decide) (fun c1 => ?_) (fun c1 => ?_)
  · replace hf := (if_pos c1).symm.trans hf
    refine lv_iload_n hx hb dX7_told_110 rfl (lv_at hl 3 rfl) ?_
    refine lv_iconst (v := 2) hx hb dX7_told_111 (by decide) ?_
    refine lv_icmp_ne (tgt := 120) hx hb dX7_told_112 (by decide) (fun c2 => ?_) (fun c2 => ?_)
    · replace hf := (if_neg c2).symm.trans hf
      refine lv_bipush (v := -102) hx hb dX7_told_120 (by decide) ?_
      exact g_iret C w hr hq hf dX7_told_122
    · replace hf := (if_pos c2).symm.trans hf
      refine lv_iload hx hb dX7_told_115 (lv_at hl 4 rfl) ?_
      refine lv_goto (tgt := 122) hx hb dX7_told_117 (by decide) ?_
      exact g_iret C w hr hq hf dX7_told_122
  · replace hf := (if_neg c1).symm.trans hf
    refine lv_iload hx hb dX7_told_68 (lv_at hl 4 rfl) ?_
    refine lv_aload_n hx hb dX7_told_70 rfl (lv_at hl 0 rfl) ?_
    refine gt_X7_26 C w dX7_told_71 ?_
    refine lv_iconst (v := 5) hx hb dX7_told_74 (by decide) ?_
    refine lv_iload_n hx hb dX7_told_75 rfl (lv_at hl 2 rfl) ?_
    refine lv_imul hx hb dX7_told_76 ?_
    refine lv_iload hx hb dX7_told_77 (lv_at hl 5 rfl) ?_
    refine lv_iadd hx hb dX7_told_79 ?_
    obtain ⟨v3, e4, hf⟩ := bindS hf
    refine g_iald C w y_a6 e4 dX7_told_80 ?_
    refine lv_iconst (v := 2) hx hb dX7_told_81 (by decide) ?_
    refine lv_icmp_ne (tgt := 100) hx hb dX7_told_82 (by decide) (fun c5 => ?_) (fun c5 => ?_)
    · replace hf := (if_neg c5).symm.trans hf
      exact w_X7_told_100 C hr hq hk62_ w (lv_sub hl [0, 1, 2, 3, 5] rfl) hf
    · replace hf := (if_pos c5).symm.trans hf
      refine lv_aload_n hx hb dX7_told_85 rfl (lv_at hl 0 rfl) ?_
      refine lv_iload_n hx hb dX7_told_86 rfl (lv_at hl 1 rfl) ?_
      refine lv_iload_n hx hb dX7_told_87 rfl (lv_at hl 2 rfl) ?_
      refine lv_iload hx hb dX7_told_88 (lv_at hl 5 rfl) ?_
      obtain ⟨⟨v8, M6⟩, e7, hf⟩ := bindS hf
      refine g_backI w (g_runV (rest := [.int x4]) C w (c_X7_plain hi  e7) ob_X7 rfl gv_X7_167 md_X7_plain rfl (by omega) (by decide) hl.1 rfl (Nat.le_of_ble_eq_true rfl) dX7_told_90) (fun H locs w => ?_)
      refine lv_if_eq (tgt := 100) hx hb dX7_told_93 (by decide) (fun c9 => ?_) (fun c9 => ?_)
      · replace hf := (if_pos c9).symm.trans hf
        exact w_X7_told_100 C hr hq hk62_ w (lv_sub hl [0, 1, 2, 3, 5] rfl) hf
      · replace hf := (if_neg c9).symm.trans hf
        refine lv_iconst (v := 1) hx hb dX7_told_96 (by decide) ?_
        refine lv_goto (tgt := 101) hx hb dX7_told_97 (by decide) ?_
        exact w_X7_told_101 C hr hq hk62_ w (lv_sub hl [0, 1, 2, 3, 5] rfl) hf
theorem w_X7_told_62 (C : gC p s m args c RX7 cX7_told 6 D (yty cI cZ) 30 (yE cI cZ) ad) (hr : meth.sig.returnType = (some .int)) (hq : meth.locks = false) {Rs : Int32 × Mem} : ∀ (n : Nat) {x1 : Int32} {x2 : Int32} {x3 : Int32} {x4 : Int32} {x5 : Int32} {M : Mem} {H : Heap} {locs : List Loc} {ls : Array Slot}, gWd D 30 (yE cI cZ) ad M s H locs → lv_has ls 6 [(0, .ref (ad 0)), (1, .int x1), (2, .int x2), (3, .int x3), (4, .int x4), (5, .int x5)] → f_X7_told_62  n x1 x2 x3 x4 x5 M = some Rs → W p l e (rmH 2) s m args below meth c H locs 0 0 (MQ below (qI D 30 (yE cI cZ) ad Rs) args s 0 0 (gA 30 ad)) (F0 m 62 ls []) := by
  intro n
  induction n with
  | zero =>
    intro x1 x2 x3 x4 x5 M H locs ls w hl hf
    cases hf
  | succ n ih =>
    intro x1 x2 x3 x4 x5 M H locs ls w hl hf
    exact w_X7_told_62b C hr hq ih  w hl hf
set_option maxRecDepth 100000 in
set_option maxHeartbeats 4000000 in
theorem w_X7_told_0 (C : gC p s m args c RX7 cX7_told 6 D (yty cI cZ) 30 (yE cI cZ) ad) (hr : meth.sig.returnType = (some .int)) (hq : meth.locks = false) {Rs : Int32 × Mem} {x1 : Int32} {x2 : Int32} {x3 : Int32} (w : gWd D 30 (yE cI cZ) ad M s H locs) (hl : lv_has ls 6 [(0, .ref (ad 0)), (1, .int x1), (2, .int x2), (3, .int x3)]) (hf : f_X7_told_0  x1 x2 x3 M = some Rs) : W p l e (rmH 2) s m args below meth c H locs 0 0 (MQ below (qI D 30 (yE cI cZ) ad Rs) args s 0 0 (gA 30 ad)) (F0 m 0 ls []) := by
  unfold f_X7_told_0 at hf
  have hx := C.1.1
  have hb := C.1.2.1
  have hi := C.2.2.2.1
  refine lv_aload_n hx hb dX7_told_0 rfl (lv_at hl 0 rfl) ?_
  refine lv_iconst (v := 0) hx hb dX7_told_1 (by decide) ?_
  obtain ⟨M1, e2, hf⟩ := bindS hf
  refine pt_X7_120 C w e2 dX7_told_2 (fun H locs w => ?_)
  refine lv_iload_n hx hb dX7_told_5 rfl (lv_at hl 1 rfl) ?_
  obtain ⟨⟨v5, M3⟩, e4, hf⟩ := bindS hf
  refine g_backI w (g_runS (rest := []) C w (c_X7_isSession hi  e4) gs_X7_195 md_X7_isSession rfl (by omega) (by decide) hl.1 rfl (Nat.le_of_ble_eq_true rfl) dX7_told_6) (fun H locs w => ?_)
  refine lv_if_eq (tgt := 20) hx hb dX7_told_9 (by decide) (fun c6 => ?_) (fun c6 => ?_)
  · replace hf := (if_pos c6).symm.trans hf
    refine lv_bipush (v := -101) hx hb dX7_told_20 (by decide) ?_
    exact g_iret C w hr hq hf dX7_told_22
  · replace hf := (if_neg c6).symm.trans hf
    refine lv_aload_n hx hb dX7_told_12 rfl (lv_at hl 0 rfl) ?_
    refine lv_iload_n hx hb dX7_told_13 rfl (lv_at hl 2 rfl) ?_
    obtain ⟨⟨v9, M7⟩, e8, hf⟩ := bindS hf
    refine g_backI w (g_runV (rest := []) C w (c_X7_isType hi  e8) ob_X7 rfl gv_X7_127 md_X7_isType rfl (by omega) (by decide) hl.1 rfl (Nat.le_of_ble_eq_true rfl) dX7_told_14) (fun H locs w => ?_)
    refine lv_if_ne (tgt := 23) hx hb dX7_told_17 (by decide) (fun c10 => ?_) (fun c10 => ?_)
    · replace hf := (if_neg c10).symm.trans hf
      refine lv_iload_n hx hb dX7_told_23 rfl (lv_at hl 3 rfl) ?_
      refine lv_if_ne (tgt := 39) hx hb dX7_told_24 (by decide) (fun c11 => ?_) (fun c11 => ?_)
      · replace hf := (if_neg c11).symm.trans hf
        refine lv_iload_n hx hb dX7_told_39 rfl (lv_at hl 3 rfl) ?_
        refine lv_iconst (v := 1) hx hb dX7_told_40 (by decide) ?_
        refine lv_icmp_ne (tgt := 56) hx hb dX7_told_41 (by decide) (fun c12 => ?_) (fun c12 => ?_)
        · replace hf := (if_neg c12).symm.trans hf
          refine lv_iconst (v := 0) hx hb dX7_told_56 (by decide) ?_
          refine lv_istore (lv' := [(4, .int (0 : Int32)), (0, .ref (ad 0)), (1, .int x1), (2, .int x2), (3, .int x3)]) hx hb dX7_told_57 hl (by decide) rfl (fun ls hl => ?_)
          refine lv_iconst (v := 0) hx hb dX7_told_59 (by decide) ?_
          refine lv_istore (lv' := [(5, .int (0 : Int32)), (4, .int (0 : Int32)), (0, .ref (ad 0)), (1, .int x1), (2, .int x2), (3, .int x3)]) hx hb dX7_told_60 hl (by decide) rfl (fun ls hl => ?_)
          exact w_X7_told_62 C hr hq FU w (lv_sub hl [2, 3, 4, 5, 1, 0] rfl) hf
        · replace hf := (if_pos c12).symm.trans hf
          refine lv_aload_n hx hb dX7_told_44 rfl (lv_at hl 0 rfl) ?_
          refine gt_X7_44 C w dX7_told_45 ?_
          refine lv_bipush (v := 16) hx hb dX7_told_48 (by decide) ?_
          refine lv_iload_n hx hb dX7_told_50 rfl (lv_at hl 1 rfl) ?_
          refine lv_imul hx hb dX7_told_51 ?_
          refine lv_iload_n hx hb dX7_told_52 rfl (lv_at hl 2 rfl) ?_
          refine lv_iadd hx hb dX7_told_53 ?_
          obtain ⟨v13, e14, hf⟩ := bindS hf
          refine g_iald C w y_a12 e14 dX7_told_54 ?_
          exact g_iret C w hr hq hf dX7_told_55
      · replace hf := (if_pos c11).symm.trans hf
        refine lv_aload_n hx hb dX7_told_27 rfl (lv_at hl 0 rfl) ?_
        refine gt_X7_38 C w dX7_told_28 ?_
        refine lv_aload_n hx hb dX7_told_31 rfl (lv_at hl 0 rfl) ?_
        refine lv_iload_n hx hb dX7_told_32 rfl (lv_at hl 1 rfl) ?_
        refine lv_iload_n hx hb dX7_told_33 rfl (lv_at hl 2 rfl) ?_
        obtain ⟨⟨v17, M15⟩, e16, hf⟩ := bindS hf
        refine g_backI w (g_runV (rest := [.ref (ad 10)]) C w (c_X7_at hi  e16) ob_X7 rfl gv_X7_156 md_X7_at rfl (by omega) (by decide) hl.1 rfl (Nat.le_of_ble_eq_true rfl) dX7_told_34) (fun H locs w => ?_)
        obtain ⟨v18, e19, hf⟩ := bindS hf
        refine g_iald C w y_a10 e19 dX7_told_37 ?_
        exact g_iret C w hr hq hf dX7_told_38
    · replace hf := (if_pos c10).symm.trans hf
      refine lv_bipush (v := -101) hx hb dX7_told_20 (by decide) ?_
      exact g_iret C w hr hq hf dX7_told_22
abbrev f_X7_told (x1 : Int32) (x2 : Int32) (x3 : Int32) (M : Mem) : Option (Int32 × Mem) := f_X7_told_0 x1 x2 x3 M
theorem c_X7_told (hi : gInj 30 ad) {x1 : Int32} {x2 : Int32} {x3 : Int32} {Rs : Int32 × Mem} (hf : f_X7_told x1 x2 x3 M = some Rs) : gMet l yX7_told cX7_told 6 (some .int) 2 D (yty cI cZ) 30 (yE cI cZ) ad [.ref (ad 0), .int x1, .int x2, .int x3] M (qI D 30 (yE cI cZ) ad Rs) := gMet_of (by decide) hi (yE_loc cI cZ) (Nat.le_of_ble_eq_true rfl) (fun p e s m args below meth c ls C hr hq w hl => w_X7_told_0 C hr hq  w hl hf)
def f_X7_peek_0 (x1 : Int32) (x2 : Int32) (x3 : Int32) (M : Mem) : Option (Int32 × Mem) :=
  (stF M 0 0 (0 : Int32)).bind fun M1 =>
  (f_X7_isSession x1 M1).bind fun (v5, M3) =>
  if v5 = 0 then (some ((-101 : Int32), M3)) else ((f_X7_isType x2 M3).bind fun (v9, M7) =>
  if v9 = 0 then (some ((-101 : Int32), M7)) else ((f_X7_in x3 (0 : Int32) (4 : Int32) M7).bind fun (v13, M11) =>
  if v13 = 0 then (some ((-103 : Int32), M11)) else ((ldI M11 6 80 (((5 : Int32) * x2) + x3)).bind fun v15 =>
  if v15 = (2 : Int32) then ((f_X7_plain x1 x2 x3 M11).bind fun (v20, M18) =>
  some (v20, M18)) else (some ((-103 : Int32), M11)))))
set_option maxRecDepth 100000 in
set_option maxHeartbeats 4000000 in
theorem w_X7_peek_0 (C : gC p s m args c RX7 cX7_peek 4 D (yty cI cZ) 30 (yE cI cZ) ad) (hr : meth.sig.returnType = (some .int)) (hq : meth.locks = false) {Rs : Int32 × Mem} {x1 : Int32} {x2 : Int32} {x3 : Int32} (w : gWd D 30 (yE cI cZ) ad M s H locs) (hl : lv_has ls 4 [(0, .ref (ad 0)), (1, .int x1), (2, .int x2), (3, .int x3)]) (hf : f_X7_peek_0  x1 x2 x3 M = some Rs) : W p l e (rmH 2) s m args below meth c H locs 0 0 (MQ below (qI D 30 (yE cI cZ) ad Rs) args s 0 0 (gA 30 ad)) (F0 m 0 ls []) := by
  unfold f_X7_peek_0 at hf
  have hx := C.1.1
  have hb := C.1.2.1
  have hi := C.2.2.2.1
  refine lv_aload_n hx hb dX7_peek_0 rfl (lv_at hl 0 rfl) ?_
  refine lv_iconst (v := 0) hx hb dX7_peek_1 (by decide) ?_
  obtain ⟨M1, e2, hf⟩ := bindS hf
  refine pt_X7_120 C w e2 dX7_peek_2 (fun H locs w => ?_)
  refine lv_iload_n hx hb dX7_peek_5 rfl (lv_at hl 1 rfl) ?_
  obtain ⟨⟨v5, M3⟩, e4, hf⟩ := bindS hf
  refine g_backI w (g_runS (rest := []) C w (c_X7_isSession hi  e4) gs_X7_195 md_X7_isSession rfl (by omega) (by decide) hl.1 rfl (Nat.le_of_ble_eq_true rfl) dX7_peek_6) (fun H locs w => ?_)
  refine lv_if_eq (tgt := 20) hx hb dX7_peek_9 (by decide) (fun c6 => ?_) (fun c6 => ?_)
  · replace hf := (if_pos c6).symm.trans hf
    refine lv_bipush (v := -101) hx hb dX7_peek_20 (by decide) ?_
    exact g_iret C w hr hq hf dX7_peek_22
  · replace hf := (if_neg c6).symm.trans hf
    refine lv_aload_n hx hb dX7_peek_12 rfl (lv_at hl 0 rfl) ?_
    refine lv_iload_n hx hb dX7_peek_13 rfl (lv_at hl 2 rfl) ?_
    obtain ⟨⟨v9, M7⟩, e8, hf⟩ := bindS hf
    refine g_backI w (g_runV (rest := []) C w (c_X7_isType hi  e8) ob_X7 rfl gv_X7_127 md_X7_isType rfl (by omega) (by decide) hl.1 rfl (Nat.le_of_ble_eq_true rfl) dX7_peek_14) (fun H locs w => ?_)
    refine lv_if_ne (tgt := 23) hx hb dX7_peek_17 (by decide) (fun c10 => ?_) (fun c10 => ?_)
    · replace hf := (if_neg c10).symm.trans hf
      refine lv_iload_n hx hb dX7_peek_23 rfl (lv_at hl 3 rfl) ?_
      refine lv_iconst (v := 0) hx hb dX7_peek_24 (by decide) ?_
      refine lv_iconst (v := 4) hx hb dX7_peek_25 (by decide) ?_
      obtain ⟨⟨v13, M11⟩, e12, hf⟩ := bindS hf
      refine g_backI w (g_runS (rest := []) C w (c_X7_in hi  e12) gs_X7_123 md_X7_in rfl (by omega) (by decide) hl.1 rfl (Nat.le_of_ble_eq_true rfl) dX7_peek_26) (fun H locs w => ?_)
      refine lv_if_eq (tgt := 56) hx hb dX7_peek_29 (by decide) (fun c14 => ?_) (fun c14 => ?_)
      · replace hf := (if_pos c14).symm.trans hf
        refine lv_bipush (v := -103) hx hb dX7_peek_56 (by decide) ?_
        exact g_iret C w hr hq hf dX7_peek_58
      · replace hf := (if_neg c14).symm.trans hf
        refine lv_aload_n hx hb dX7_peek_32 rfl (lv_at hl 0 rfl) ?_
        refine gt_X7_26 C w dX7_peek_33 ?_
        refine lv_iconst (v := 5) hx hb dX7_peek_36 (by decide) ?_
        refine lv_iload_n hx hb dX7_peek_37 rfl (lv_at hl 2 rfl) ?_
        refine lv_imul hx hb dX7_peek_38 ?_
        refine lv_iload_n hx hb dX7_peek_39 rfl (lv_at hl 3 rfl) ?_
        refine lv_iadd hx hb dX7_peek_40 ?_
        obtain ⟨v15, e16, hf⟩ := bindS hf
        refine g_iald C w y_a6 e16 dX7_peek_41 ?_
        refine lv_iconst (v := 2) hx hb dX7_peek_42 (by decide) ?_
        refine lv_icmp_ne (tgt := 56) hx hb dX7_peek_43 (by decide) (fun c17 => ?_) (fun c17 => ?_)
        · replace hf := (if_neg c17).symm.trans hf
          refine lv_bipush (v := -103) hx hb dX7_peek_56 (by decide) ?_
          exact g_iret C w hr hq hf dX7_peek_58
        · replace hf := (if_pos c17).symm.trans hf
          refine lv_aload_n hx hb dX7_peek_46 rfl (lv_at hl 0 rfl) ?_
          refine lv_iload_n hx hb dX7_peek_47 rfl (lv_at hl 1 rfl) ?_
          refine lv_iload_n hx hb dX7_peek_48 rfl (lv_at hl 2 rfl) ?_
          refine lv_iload_n hx hb dX7_peek_49 rfl (lv_at hl 3 rfl) ?_
          obtain ⟨⟨v20, M18⟩, e19, hf⟩ := bindS hf
          refine g_backI w (g_runV (rest := []) C w (c_X7_plain hi  e19) ob_X7 rfl gv_X7_167 md_X7_plain rfl (by omega) (by decide) hl.1 rfl (Nat.le_of_ble_eq_true rfl) dX7_peek_50) (fun H locs w => ?_)
          refine lv_goto (tgt := 58) hx hb dX7_peek_53 (by decide) ?_
          exact g_iret C w hr hq hf dX7_peek_58
    · replace hf := (if_pos c10).symm.trans hf
      refine lv_bipush (v := -101) hx hb dX7_peek_20 (by decide) ?_
      exact g_iret C w hr hq hf dX7_peek_22
abbrev f_X7_peek (x1 : Int32) (x2 : Int32) (x3 : Int32) (M : Mem) : Option (Int32 × Mem) := f_X7_peek_0 x1 x2 x3 M
theorem c_X7_peek (hi : gInj 30 ad) {x1 : Int32} {x2 : Int32} {x3 : Int32} {Rs : Int32 × Mem} (hf : f_X7_peek x1 x2 x3 M = some Rs) : gMet l yX7_peek cX7_peek 4 (some .int) 2 D (yty cI cZ) 30 (yE cI cZ) ad [.ref (ad 0), .int x1, .int x2, .int x3] M (qI D 30 (yE cI cZ) ad Rs) := gMet_of (by decide) hi (yE_loc cI cZ) (Nat.le_of_ble_eq_true rfl) (fun p e s m args below meth c ls C hr hq w hl => w_X7_peek_0 C hr hq  w hl hf)
def f_X7_start_0 (x1 : Int32) (x2 : Int32) (M : Mem) : Option (Int32 × Mem) :=
  (stF M 0 0 (0 : Int32)).bind fun M1 =>
  (f_X7_in x1 (0 : Int32) ((M1 0 17) - (1 : Int32)) M1).bind fun (v5, M3) =>
  if v5 = 0 then (some ((-1 : Int32), M3)) else ((f_X7_in x2 (0 : Int32) (3 : Int32) M3).bind fun (v9, M7) =>
  if v9 = 0 then (some ((-102 : Int32), M7)) else ((ldI M7 14 600 (((4 : Int32) * x1) + x2)).bind fun v11 =>
  some (v11, M7)))
set_option maxRecDepth 100000 in
set_option maxHeartbeats 4000000 in
theorem w_X7_start_0 (C : gC p s m args c RX7 cX7_start 3 D (yty cI cZ) 30 (yE cI cZ) ad) (hr : meth.sig.returnType = (some .int)) (hq : meth.locks = false) {Rs : Int32 × Mem} {x1 : Int32} {x2 : Int32} (w : gWd D 30 (yE cI cZ) ad M s H locs) (hl : lv_has ls 3 [(0, .ref (ad 0)), (1, .int x1), (2, .int x2)]) (hf : f_X7_start_0  x1 x2 M = some Rs) : W p l e (rmH 1) s m args below meth c H locs 0 0 (MQ below (qI D 30 (yE cI cZ) ad Rs) args s 0 0 (gA 30 ad)) (F0 m 0 ls []) := by
  unfold f_X7_start_0 at hf
  have hx := C.1.1
  have hb := C.1.2.1
  have hi := C.2.2.2.1
  refine lv_aload_n hx hb dX7_start_0 rfl (lv_at hl 0 rfl) ?_
  refine lv_iconst (v := 0) hx hb dX7_start_1 (by decide) ?_
  obtain ⟨M1, e2, hf⟩ := bindS hf
  refine pt_X7_120 C w e2 dX7_start_2 (fun H locs w => ?_)
  refine lv_iload_n hx hb dX7_start_5 rfl (lv_at hl 1 rfl) ?_
  refine lv_iconst (v := 0) hx hb dX7_start_6 (by decide) ?_
  refine lv_aload_n hx hb dX7_start_7 rfl (lv_at hl 0 rfl) ?_
  refine gt_X7_111 C w dX7_start_8 ?_
  refine lv_iconst (v := 1) hx hb dX7_start_11 (by decide) ?_
  refine lv_isub hx hb dX7_start_12 ?_
  obtain ⟨⟨v5, M3⟩, e4, hf⟩ := bindS hf
  refine g_backI w (g_runS (rest := []) C w (c_X7_in hi  e4) gs_X7_123 md_X7_in rfl (by omega) (by decide) hl.1 rfl (Nat.le_of_ble_eq_true rfl) dX7_start_13) (fun H locs w => ?_)
  refine lv_if_ne (tgt := 21) hx hb dX7_start_16 (by decide) (fun c6 => ?_) (fun c6 => ?_)
  · replace hf := (if_neg c6).symm.trans hf
    refine lv_iload_n hx hb dX7_start_21 rfl (lv_at hl 2 rfl) ?_
    refine lv_iconst (v := 0) hx hb dX7_start_22 (by decide) ?_
    refine lv_iconst (v := 3) hx hb dX7_start_23 (by decide) ?_
    obtain ⟨⟨v9, M7⟩, e8, hf⟩ := bindS hf
    refine g_backI w (g_runS (rest := []) C w (c_X7_in hi  e8) gs_X7_123 md_X7_in rfl (by omega) (by decide) hl.1 rfl (Nat.le_of_ble_eq_true rfl) dX7_start_24) (fun H locs w => ?_)
    refine lv_if_eq (tgt := 43) hx hb dX7_start_27 (by decide) (fun c10 => ?_) (fun c10 => ?_)
    · replace hf := (if_pos c10).symm.trans hf
      refine lv_bipush (v := -102) hx hb dX7_start_43 (by decide) ?_
      exact g_iret C w hr hq hf dX7_start_45
    · replace hf := (if_neg c10).symm.trans hf
      refine lv_aload_n hx hb dX7_start_30 rfl (lv_at hl 0 rfl) ?_
      refine gt_X7_50 C w dX7_start_31 ?_
      refine lv_iconst (v := 4) hx hb dX7_start_34 (by decide) ?_
      refine lv_iload_n hx hb dX7_start_35 rfl (lv_at hl 1 rfl) ?_
      refine lv_imul hx hb dX7_start_36 ?_
      refine lv_iload_n hx hb dX7_start_37 rfl (lv_at hl 2 rfl) ?_
      refine lv_iadd hx hb dX7_start_38 ?_
      obtain ⟨v11, e12, hf⟩ := bindS hf
      refine g_iald C w y_a14 e12 dX7_start_39 ?_
      refine lv_goto (tgt := 45) hx hb dX7_start_40 (by decide) ?_
      exact g_iret C w hr hq hf dX7_start_45
  · replace hf := (if_pos c6).symm.trans hf
    refine lv_iconst (v := -1) hx hb dX7_start_19 (by decide) ?_
    exact g_iret C w hr hq hf dX7_start_20
abbrev f_X7_start (x1 : Int32) (x2 : Int32) (M : Mem) : Option (Int32 × Mem) := f_X7_start_0 x1 x2 M
theorem c_X7_start (hi : gInj 30 ad) {x1 : Int32} {x2 : Int32} {Rs : Int32 × Mem} (hf : f_X7_start x1 x2 M = some Rs) : gMet l yX7_start cX7_start 3 (some .int) 1 D (yty cI cZ) 30 (yE cI cZ) ad [.ref (ad 0), .int x1, .int x2] M (qI D 30 (yE cI cZ) ad Rs) := gMet_of (by decide) hi (yE_loc cI cZ) (Nat.le_of_ble_eq_true rfl) (fun p e s m args below meth c ls C hr hq w hl => w_X7_start_0 C hr hq  w hl hf)
def f_X7_message_20 (x1 : Int32) (s1 : Int32) (M : Mem) : Option (Int32 × Mem) :=
  (stF M 0 0 s1).bind fun M1 =>
  if (M1 0 0) ≤ 0 then ((ldI M1 15 100 x1).bind fun v4 =>
  some (v4, M1)) else (some ((0 : Int32), M1))
def f_X7_message_0 (x1 : Int32) (M : Mem) : Option (Int32 × Mem) :=
  (f_X7_in x1 (0 : Int32) ((M 0 19) - (1 : Int32)) M).bind fun (v3, M1) =>
  if v3 = 0 then (f_X7_message_20 x1 (1 : Int32) M1) else (f_X7_message_20 x1 (0 : Int32) M1)
set_option maxRecDepth 100000 in
set_option maxHeartbeats 4000000 in
theorem w_X7_message_20 (C : gC p s m args c RX7 cX7_message 2 D (yty cI cZ) 30 (yE cI cZ) ad) (hr : meth.sig.returnType = (some .int)) (hq : meth.locks = false) {Rs : Int32 × Mem} {x1 : Int32} {s1 : Int32} (w : gWd D 30 (yE cI cZ) ad M s H locs) (hl : lv_has ls 2 [(0, .ref (ad 0)), (1, .int x1)]) (hf : f_X7_message_20  x1 s1 M = some Rs) : W p l e (rmH 1) s m args below meth c H locs 0 0 (MQ below (qI D 30 (yE cI cZ) ad Rs) args s 0 0 (gA 30 ad)) (F0 m 20 ls [.int s1, .ref (ad 0)]) := by
  unfold f_X7_message_20 at hf
  have hx := C.1.1
  have hb := C.1.2.1
  have hi := C.2.2.2.1
  obtain ⟨M1, e2, hf⟩ := bindS hf
  refine pt_X7_120 C w e2 dX7_message_20 (fun H locs w => ?_)
  refine lv_aload_n hx hb dX7_message_23 rfl (lv_at hl 0 rfl) ?_
  refine gt_X7_120 C w dX7_message_24 ?_
  refine lv_if_le (tgt := 34) hx hb dX7_message_27 (by decide) (fun c3 => ?_) (fun c3 => ?_)
  · replace hf := (if_pos c3).symm.trans hf
    refine lv_aload_n hx hb dX7_message_34 rfl (lv_at hl 0 rfl) ?_
    refine gt_X7_53 C w dX7_message_35 ?_
    refine lv_iload_n hx hb dX7_message_38 rfl (lv_at hl 1 rfl) ?_
    obtain ⟨v4, e5, hf⟩ := bindS hf
    refine g_iald C w y_a15 e5 dX7_message_39 ?_
    exact g_iret C w hr hq hf dX7_message_40
  · replace hf := (if_neg c3).symm.trans hf
    refine lv_iconst (v := 0) hx hb dX7_message_30 (by decide) ?_
    refine lv_goto (tgt := 40) hx hb dX7_message_31 (by decide) ?_
    exact g_iret C w hr hq hf dX7_message_40
set_option maxRecDepth 100000 in
set_option maxHeartbeats 4000000 in
theorem w_X7_message_0 (C : gC p s m args c RX7 cX7_message 2 D (yty cI cZ) 30 (yE cI cZ) ad) (hr : meth.sig.returnType = (some .int)) (hq : meth.locks = false) {Rs : Int32 × Mem} {x1 : Int32} (w : gWd D 30 (yE cI cZ) ad M s H locs) (hl : lv_has ls 2 [(0, .ref (ad 0)), (1, .int x1)]) (hf : f_X7_message_0  x1 M = some Rs) : W p l e (rmH 1) s m args below meth c H locs 0 0 (MQ below (qI D 30 (yE cI cZ) ad Rs) args s 0 0 (gA 30 ad)) (F0 m 0 ls []) := by
  unfold f_X7_message_0 at hf
  have hx := C.1.1
  have hb := C.1.2.1
  have hi := C.2.2.2.1
  refine lv_aload_n hx hb dX7_message_0 rfl (lv_at hl 0 rfl) ?_
  refine lv_iload_n hx hb dX7_message_1 rfl (lv_at hl 1 rfl) ?_
  refine lv_iconst (v := 0) hx hb dX7_message_2 (by decide) ?_
  refine lv_aload_n hx hb dX7_message_3 rfl (lv_at hl 0 rfl) ?_
  refine gt_X7_114 C w dX7_message_4 ?_
  refine lv_iconst (v := 1) hx hb dX7_message_7 (by decide) ?_
  refine lv_isub hx hb dX7_message_8 ?_
  obtain ⟨⟨v3, M1⟩, e2, hf⟩ := bindS hf
  refine g_backI w (g_runS (rest := [.ref (ad 0)]) C w (c_X7_in hi  e2) gs_X7_123 md_X7_in rfl (by omega) (by decide) hl.1 rfl (Nat.le_of_ble_eq_true rfl) dX7_message_9) (fun H locs w => ?_)
  refine lv_if_eq (tgt := 19) hx hb dX7_message_12 (by decide) (fun c4 => ?_) (fun c4 => ?_)
  · replace hf := (if_pos c4).symm.trans hf
    refine lv_iconst (v := 1) hx hb dX7_message_19 (by decide) ?_
    exact w_X7_message_20 C hr hq w (lv_sub hl [0, 1] rfl) hf
  · replace hf := (if_neg c4).symm.trans hf
    refine lv_iconst (v := 0) hx hb dX7_message_15 (by decide) ?_
    refine lv_goto (tgt := 20) hx hb dX7_message_16 (by decide) ?_
    exact w_X7_message_20 C hr hq w (lv_sub hl [0, 1] rfl) hf
abbrev f_X7_message (x1 : Int32) (M : Mem) : Option (Int32 × Mem) := f_X7_message_0 x1 M
theorem c_X7_message (hi : gInj 30 ad) {x1 : Int32} {Rs : Int32 × Mem} (hf : f_X7_message x1 M = some Rs) : gMet l yX7_message cX7_message 2 (some .int) 1 D (yty cI cZ) 30 (yE cI cZ) ad [.ref (ad 0), .int x1] M (qI D 30 (yE cI cZ) ad Rs) := gMet_of (by decide) hi (yE_loc cI cZ) (Nat.le_of_ble_eq_true rfl) (fun p e s m args below meth c ls C hr hq w hl => w_X7_message_0 C hr hq  w hl hf)
def f_X7_steps_0 (x1 : Int32) (x2 : Int32) (M : Mem) : Option (Int32 × Mem) :=
  (stF M 0 0 (0 : Int32)).bind fun M1 =>
  (f_X7_isSession x1 M1).bind fun (v5, M3) =>
  if v5 = 0 then (some ((-101 : Int32), M3)) else ((f_X7_in x2 (0 : Int32) (100000 : Int32) M3).bind fun (v9, M7) =>
  if v9 = 0 then (some ((-102 : Int32), M7)) else ((ldI M7 13 4 x1).bind fun v11 =>
  (stI M7 13 4 x1 x2).bind fun M13 =>
  some (v11, M13)))
set_option maxRecDepth 100000 in
set_option maxHeartbeats 4000000 in
theorem w_X7_steps_0 (C : gC p s m args c RX7 cX7_steps 4 D (yty cI cZ) 30 (yE cI cZ) ad) (hr : meth.sig.returnType = (some .int)) (hq : meth.locks = false) {Rs : Int32 × Mem} {x1 : Int32} {x2 : Int32} (w : gWd D 30 (yE cI cZ) ad M s H locs) (hl : lv_has ls 4 [(0, .ref (ad 0)), (1, .int x1), (2, .int x2)]) (hf : f_X7_steps_0  x1 x2 M = some Rs) : W p l e (rmH 2) s m args below meth c H locs 0 0 (MQ below (qI D 30 (yE cI cZ) ad Rs) args s 0 0 (gA 30 ad)) (F0 m 0 ls []) := by
  unfold f_X7_steps_0 at hf
  have hx := C.1.1
  have hb := C.1.2.1
  have hi := C.2.2.2.1
  refine lv_aload_n hx hb dX7_steps_0 rfl (lv_at hl 0 rfl) ?_
  refine lv_iconst (v := 0) hx hb dX7_steps_1 (by decide) ?_
  obtain ⟨M1, e2, hf⟩ := bindS hf
  refine pt_X7_120 C w e2 dX7_steps_2 (fun H locs w => ?_)
  refine lv_iload_n hx hb dX7_steps_5 rfl (lv_at hl 1 rfl) ?_
  obtain ⟨⟨v5, M3⟩, e4, hf⟩ := bindS hf
  refine g_backI w (g_runS (rest := []) C w (c_X7_isSession hi  e4) gs_X7_195 md_X7_isSession rfl (by omega) (by decide) hl.1 rfl (Nat.le_of_ble_eq_true rfl) dX7_steps_6) (fun H locs w => ?_)
  refine lv_if_ne (tgt := 15) hx hb dX7_steps_9 (by decide) (fun c6 => ?_) (fun c6 => ?_)
  · replace hf := (if_neg c6).symm.trans hf
    refine lv_iload_n hx hb dX7_steps_15 rfl (lv_at hl 2 rfl) ?_
    refine lv_iconst (v := 0) hx hb dX7_steps_16 (by decide) ?_
    refine lv_ldc hx hb C.1.2.2.2.1 (C.1.2.2.2.2 _ kk_X7_204) dX7_steps_17 ?_
    obtain ⟨⟨v9, M7⟩, e8, hf⟩ := bindS hf
    refine g_backI w (g_runS (rest := []) C w (c_X7_in hi  e8) gs_X7_123 md_X7_in rfl (by omega) (by decide) hl.1 rfl (Nat.le_of_ble_eq_true rfl) dX7_steps_19) (fun H locs w => ?_)
    refine lv_if_ne (tgt := 28) hx hb dX7_steps_22 (by decide) (fun c10 => ?_) (fun c10 => ?_)
    · replace hf := (if_neg c10).symm.trans hf
      refine lv_aload_n hx hb dX7_steps_28 rfl (lv_at hl 0 rfl) ?_
      refine gt_X7_47 C w dX7_steps_29 ?_
      refine lv_iload_n hx hb dX7_steps_32 rfl (lv_at hl 1 rfl) ?_
      obtain ⟨v11, e12, hf⟩ := bindS hf
      refine g_iald C w y_a13 e12 dX7_steps_33 ?_
      refine lv_istore_n (lv' := [(3, .int v11), (0, .ref (ad 0)), (1, .int x1), (2, .int x2)]) hx hb dX7_steps_34 rfl hl (by decide) rfl (fun ls hl => ?_)
      refine lv_aload_n hx hb dX7_steps_35 rfl (lv_at hl 1 rfl) ?_
      refine gt_X7_47 C w dX7_steps_36 ?_
      refine lv_iload_n hx hb dX7_steps_39 rfl (lv_at hl 2 rfl) ?_
      refine lv_iload_n hx hb dX7_steps_40 rfl (lv_at hl 3 rfl) ?_
      obtain ⟨M13, e14, hf⟩ := bindS hf
      refine g_iast C w y_a13 e14 dX7_steps_41 (fun H locs w => ?_)
      refine lv_iload_n hx hb dX7_steps_42 rfl (lv_at hl 0 rfl) ?_
      exact g_iret C w hr hq hf dX7_steps_43
    · replace hf := (if_pos c10).symm.trans hf
      refine lv_bipush (v := -102) hx hb dX7_steps_25 (by decide) ?_
      exact g_iret C w hr hq hf dX7_steps_27
  · replace hf := (if_pos c6).symm.trans hf
    refine lv_bipush (v := -101) hx hb dX7_steps_12 (by decide) ?_
    exact g_iret C w hr hq hf dX7_steps_14
abbrev f_X7_steps (x1 : Int32) (x2 : Int32) (M : Mem) : Option (Int32 × Mem) := f_X7_steps_0 x1 x2 M
theorem c_X7_steps (hi : gInj 30 ad) {x1 : Int32} {x2 : Int32} {Rs : Int32 × Mem} (hf : f_X7_steps x1 x2 M = some Rs) : gMet l yX7_steps cX7_steps 4 (some .int) 2 D (yty cI cZ) 30 (yE cI cZ) ad [.ref (ad 0), .int x1, .int x2] M (qI D 30 (yE cI cZ) ad Rs) := gMet_of (by decide) hi (yE_loc cI cZ) (Nat.le_of_ble_eq_true rfl) (fun p e s m args below meth c ls C hr hq w hl => w_X7_steps_0 C hr hq  w hl hf)
def f_X7_undo_79 (x2 : Int32) (M : Mem) : Option (Int32 × Mem) :=
  (ldI M 18 2400 x2).bind fun v1 =>
  some (v1, M)
def f_X7_undo_0 (x1 : Int32) (M : Mem) : Option (Int32 × Mem) :=
  (stF M 0 0 (0 : Int32)).bind fun M1 =>
  (f_X7_isSession x1 M1).bind fun (v5, M3) =>
  if v5 = 0 then (some ((-101 : Int32), M3)) else ((ldI M3 16 4 x1).bind fun v7 =>
  if v7 = 0 then (some ((-1 : Int32), M3)) else ((ldI M3 16 4 x1).bind fun v10 =>
  (stI M3 16 4 x1 (v10 - (1 : Int32))).bind fun M12 =>
  (ldI M12 16 4 x1).bind fun v14 =>
  (ldI M12 17 2400 (((600 : Int32) * x1) + v14)).bind fun v16 =>
  if v16 = (-1 : Int32) then (f_X7_undo_79 (((600 : Int32) * x1) + v14) M12) else ((ldI M12 17 2400 (((600 : Int32) * x1) + v14)).bind fun v19 =>
  (ldI M12 12 64 (((16 : Int32) * x1) + v19)).bind fun v21 =>
  (stI M12 12 64 (((16 : Int32) * x1) + v19) (v21 - (1 : Int32))).bind fun M23 =>
  f_X7_undo_79 (((600 : Int32) * x1) + v14) M23)))
set_option maxRecDepth 100000 in
set_option maxHeartbeats 4000000 in
theorem w_X7_undo_79 (C : gC p s m args c RX7 cX7_undo 3 D (yty cI cZ) 30 (yE cI cZ) ad) (hr : meth.sig.returnType = (some .int)) (hq : meth.locks = false) {Rs : Int32 × Mem} {x2 : Int32} (w : gWd D 30 (yE cI cZ) ad M s H locs) (hl : lv_has ls 3 [(0, .ref (ad 0)), (2, .int x2)]) (hf : f_X7_undo_79  x2 M = some Rs) : W p l e (rmH 2) s m args below meth c H locs 0 0 (MQ below (qI D 30 (yE cI cZ) ad Rs) args s 0 0 (gA 30 ad)) (F0 m 79 ls []) := by
  unfold f_X7_undo_79 at hf
  have hx := C.1.1
  have hb := C.1.2.1
  have hi := C.2.2.2.1
  refine lv_aload_n hx hb dX7_undo_79 rfl (lv_at hl 0 rfl) ?_
  refine gt_X7_62 C w dX7_undo_80 ?_
  refine lv_iload_n hx hb dX7_undo_83 rfl (lv_at hl 1 rfl) ?_
  obtain ⟨v1, e2, hf⟩ := bindS hf
  refine g_iald C w y_a18 e2 dX7_undo_84 ?_
  exact g_iret C w hr hq hf dX7_undo_85
set_option maxRecDepth 100000 in
set_option maxHeartbeats 4000000 in
theorem w_X7_undo_0 (C : gC p s m args c RX7 cX7_undo 3 D (yty cI cZ) 30 (yE cI cZ) ad) (hr : meth.sig.returnType = (some .int)) (hq : meth.locks = false) {Rs : Int32 × Mem} {x1 : Int32} (w : gWd D 30 (yE cI cZ) ad M s H locs) (hl : lv_has ls 3 [(0, .ref (ad 0)), (1, .int x1)]) (hf : f_X7_undo_0  x1 M = some Rs) : W p l e (rmH 2) s m args below meth c H locs 0 0 (MQ below (qI D 30 (yE cI cZ) ad Rs) args s 0 0 (gA 30 ad)) (F0 m 0 ls []) := by
  unfold f_X7_undo_0 at hf
  have hx := C.1.1
  have hb := C.1.2.1
  have hi := C.2.2.2.1
  refine lv_aload_n hx hb dX7_undo_0 rfl (lv_at hl 0 rfl) ?_
  refine lv_iconst (v := 0) hx hb dX7_undo_1 (by decide) ?_
  obtain ⟨M1, e2, hf⟩ := bindS hf
  refine pt_X7_120 C w e2 dX7_undo_2 (fun H locs w => ?_)
  refine lv_iload_n hx hb dX7_undo_5 rfl (lv_at hl 1 rfl) ?_
  obtain ⟨⟨v5, M3⟩, e4, hf⟩ := bindS hf
  refine g_backI w (g_runS (rest := []) C w (c_X7_isSession hi  e4) gs_X7_195 md_X7_isSession rfl (by omega) (by decide) hl.1 rfl (Nat.le_of_ble_eq_true rfl) dX7_undo_6) (fun H locs w => ?_)
  refine lv_if_ne (tgt := 15) hx hb dX7_undo_9 (by decide) (fun c6 => ?_) (fun c6 => ?_)
  · replace hf := (if_neg c6).symm.trans hf
    refine lv_aload_n hx hb dX7_undo_15 rfl (lv_at hl 0 rfl) ?_
    refine gt_X7_56 C w dX7_undo_16 ?_
    refine lv_iload_n hx hb dX7_undo_19 rfl (lv_at hl 1 rfl) ?_
    obtain ⟨v7, e8, hf⟩ := bindS hf
    refine g_iald C w y_a16 e8 dX7_undo_20 ?_
    refine lv_if_ne (tgt := 26) hx hb dX7_undo_21 (by decide) (fun c9 => ?_) (fun c9 => ?_)
    · replace hf := (if_neg c9).symm.trans hf
      refine lv_aload_n hx hb dX7_undo_26 rfl (lv_at hl 0 rfl) ?_
      refine gt_X7_56 C w dX7_undo_27 ?_
      refine lv_iload_n hx hb dX7_undo_30 rfl (lv_at hl 1 rfl) ?_
      refine lv_dup2_11 hx hb dX7_undo_31 rfl rfl ?_
      obtain ⟨v10, e11, hf⟩ := bindS hf
      refine g_iald C w y_a16 e11 dX7_undo_32 ?_
      refine lv_iconst (v := 1) hx hb dX7_undo_33 (by decide) ?_
      refine lv_isub hx hb dX7_undo_34 ?_
      obtain ⟨M12, e13, hf⟩ := bindS hf
      refine g_iast C w y_a16 e13 dX7_undo_35 (fun H locs w => ?_)
      refine lv_sipush (v := 600) hx hb dX7_undo_36 (by decide) ?_
      refine lv_iload_n hx hb dX7_undo_39 rfl (lv_at hl 1 rfl) ?_
      refine lv_imul hx hb dX7_undo_40 ?_
      refine lv_aload_n hx hb dX7_undo_41 rfl (lv_at hl 0 rfl) ?_
      refine gt_X7_56 C w dX7_undo_42 ?_
      refine lv_iload_n hx hb dX7_undo_45 rfl (lv_at hl 1 rfl) ?_
      obtain ⟨v14, e15, hf⟩ := bindS hf
      refine g_iald C w y_a16 e15 dX7_undo_46 ?_
      refine lv_iadd hx hb dX7_undo_47 ?_
      refine lv_istore_n (lv' := [(2, .int (((600 : Int32) * x1) + v14)), (0, .ref (ad 0)), (1, .int x1)]) hx hb dX7_undo_48 rfl hl (by decide) rfl (fun ls hl => ?_)
      refine lv_aload_n hx hb dX7_undo_49 rfl (lv_at hl 1 rfl) ?_
      refine gt_X7_59 C w dX7_undo_50 ?_
      refine lv_iload_n hx hb dX7_undo_53 rfl (lv_at hl 0 rfl) ?_
      obtain ⟨v16, e17, hf⟩ := bindS hf
      refine g_iald C w y_a17 e17 dX7_undo_54 ?_
      refine lv_iconst (v := -1) hx hb dX7_undo_55 (by decide) ?_
      refine lv_icmp_eq (tgt := 79) hx hb dX7_undo_56 (by decide) (fun c18 => ?_) (fun c18 => ?_)
      · replace hf := (if_pos c18).symm.trans hf
        exact w_X7_undo_79 C hr hq w (lv_sub hl [1, 0] rfl) hf
      · replace hf := (if_neg c18).symm.trans hf
        refine lv_aload_n hx hb dX7_undo_59 rfl (lv_at hl 1 rfl) ?_
        refine gt_X7_44 C w dX7_undo_60 ?_
        refine lv_bipush (v := 16) hx hb dX7_undo_63 (by decide) ?_
        refine lv_iload_n hx hb dX7_undo_65 rfl (lv_at hl 2 rfl) ?_
        refine lv_imul hx hb dX7_undo_66 ?_
        refine lv_aload_n hx hb dX7_undo_67 rfl (lv_at hl 1 rfl) ?_
        refine gt_X7_59 C w dX7_undo_68 ?_
        refine lv_iload_n hx hb dX7_undo_71 rfl (lv_at hl 0 rfl) ?_
        obtain ⟨v19, e20, hf⟩ := bindS hf
        refine g_iald C w y_a17 e20 dX7_undo_72 ?_
        refine lv_iadd hx hb dX7_undo_73 ?_
        refine lv_dup2_11 hx hb dX7_undo_74 rfl rfl ?_
        obtain ⟨v21, e22, hf⟩ := bindS hf
        refine g_iald C w y_a12 e22 dX7_undo_75 ?_
        refine lv_iconst (v := 1) hx hb dX7_undo_76 (by decide) ?_
        refine lv_isub hx hb dX7_undo_77 ?_
        obtain ⟨M23, e24, hf⟩ := bindS hf
        refine g_iast C w y_a12 e24 dX7_undo_78 (fun H locs w => ?_)
        exact w_X7_undo_79 C hr hq w (lv_sub hl [1, 0] rfl) hf
    · replace hf := (if_pos c9).symm.trans hf
      refine lv_iconst (v := -1) hx hb dX7_undo_24 (by decide) ?_
      exact g_iret C w hr hq hf dX7_undo_25
  · replace hf := (if_pos c6).symm.trans hf
    refine lv_bipush (v := -101) hx hb dX7_undo_12 (by decide) ?_
    exact g_iret C w hr hq hf dX7_undo_14
abbrev f_X7_undo (x1 : Int32) (M : Mem) : Option (Int32 × Mem) := f_X7_undo_0 x1 M
theorem c_X7_undo (hi : gInj 30 ad) {x1 : Int32} {Rs : Int32 × Mem} (hf : f_X7_undo x1 M = some Rs) : gMet l yX7_undo cX7_undo 3 (some .int) 2 D (yty cI cZ) 30 (yE cI cZ) ad [.ref (ad 0), .int x1] M (qI D 30 (yE cI cZ) ad Rs) := gMet_of (by decide) hi (yE_loc cI cZ) (Nat.le_of_ble_eq_true rfl) (fun p e s m args below meth c ls C hr hq w hl => w_X7_undo_0 C hr hq  w hl hf)
def f_X7_restart_106 (k19_ : (Int32 → Int32 → Int32 → Mem → Option (Int32 × Mem))) (x1 : Int32) (x2 : Int32) (x3 : Int32) (M : Mem) : Option (Int32 × Mem) :=
  k19_ x1 x2 (x3 + 1) M
def f_X7_restart_81b (k19_ : (Int32 → Int32 → Int32 → Mem → Option (Int32 × Mem))) (k81_ : (Int32 → Int32 → Int32 → Int32 → Int32 → Mem → Option (Int32 × Mem))) (x1 : Int32) (x2 : Int32) (x3 : Int32) (x4 : Int32) (x5 : Int32) (M : Mem) : Option (Int32 × Mem) :=
  if (5 : Int32) ≤ x5 then (f_X7_restart_106 k19_ x1 x2 x3 M) else ((stI M 11 400 (((5 : Int32) * x4) + x5) (0 : Int32)).bind fun M2 =>
  k81_ x1 x2 x3 x4 (x5 + 1) M2)
def f_X7_restart_81 (k19_ : (Int32 → Int32 → Int32 → Mem → Option (Int32 × Mem))) : Nat → Int32 → Int32 → Int32 → Int32 → Int32 → Mem → Option (Int32 × Mem)
  | 0, _, _, _, _, _, _ => none
  | n + 1, x1, x2, x3, x4, x5, M => f_X7_restart_81b k19_ (f_X7_restart_81 k19_ n) x1 x2 x3 x4 x5 M
def f_X7_restart_68 (k19_ : (Int32 → Int32 → Int32 → Mem → Option (Int32 × Mem))) (x1 : Int32) (x3 : Int32) (x4 : Int32) (s0 : Int32) (s1 : Int32) (M : Mem) : Option (Int32 × Mem) :=
  (stI M 10 80 x4 (0 : Int32)).bind fun M1 =>
  f_X7_restart_81 k19_ FU x1 (s0 + s1) x3 x4 (0 : Int32) M1
def f_X7_restart_19b (k19_ : (Int32 → Int32 → Int32 → Mem → Option (Int32 × Mem))) (x1 : Int32) (x2 : Int32) (x3 : Int32) (M : Mem) : Option (Int32 × Mem) :=
  if (M 0 1) ≤ x3 then ((stI M 16 4 x1 (0 : Int32)).bind fun M2 =>
  some (x2, M2)) else ((stI M 12 64 (((16 : Int32) * x1) + x3) (0 : Int32)).bind fun M4 =>
  (ldI M4 3 16 x3).bind fun v6 =>
  if v6 = 0 then ((ldI M4 10 80 (((16 : Int32) * x1) + x3)).bind fun v9 =>
  if v9 = 0 then (f_X7_restart_68 k19_ x1 x3 (((16 : Int32) * x1) + x3) x2 (0 : Int32) M4) else (f_X7_restart_68 k19_ x1 x3 (((16 : Int32) * x1) + x3) x2 (1 : Int32) M4)) else (f_X7_restart_106 k19_ x1 x2 x3 M4))
def f_X7_restart_19 : Nat → Int32 → Int32 → Int32 → Mem → Option (Int32 × Mem)
  | 0, _, _, _, _ => none
  | n + 1, x1, x2, x3, M => f_X7_restart_19b (f_X7_restart_19  n) x1 x2 x3 M
def f_X7_restart_0 (x1 : Int32) (M : Mem) : Option (Int32 × Mem) :=
  (stF M 0 0 (0 : Int32)).bind fun M1 =>
  (f_X7_isSession x1 M1).bind fun (v5, M3) =>
  if v5 = 0 then (some ((-101 : Int32), M3)) else (f_X7_restart_19 FU x1 (0 : Int32) (0 : Int32) M3)
set_option maxRecDepth 100000 in
set_option maxHeartbeats 4000000 in
theorem w_X7_restart_106 (C : gC p s m args c RX7 cX7_restart 6 D (yty cI cZ) 30 (yE cI cZ) ad) (hr : meth.sig.returnType = (some .int)) (hq : meth.locks = false) {k19_ : (Int32 → Int32 → Int32 → Mem → Option (Int32 × Mem))} {Rs : Int32 × Mem} (hk19_ : ∀ {x1 : Int32} {x2 : Int32} {x3 : Int32} {M : Mem} {H : Heap} {locs : List Loc} {ls : Array Slot}, gWd D 30 (yE cI cZ) ad M s H locs → lv_has ls 6 [(0, .ref (ad 0)), (1, .int x1), (2, .int x2), (3, .int x3)] → k19_ x1 x2 x3 M = some Rs → W p l e (rmH 2) s m args below meth c H locs 0 0 (MQ below (qI D 30 (yE cI cZ) ad Rs) args s 0 0 (gA 30 ad)) (F0 m 19 ls [])) {x1 : Int32} {x2 : Int32} {x3 : Int32} (w : gWd D 30 (yE cI cZ) ad M s H locs) (hl : lv_has ls 6 [(0, .ref (ad 0)), (1, .int x1), (2, .int x2), (3, .int x3)]) (hf : f_X7_restart_106 k19_ x1 x2 x3 M = some Rs) : W p l e (rmH 2) s m args below meth c H locs 0 0 (MQ below (qI D 30 (yE cI cZ) ad Rs) args s 0 0 (gA 30 ad)) (F0 m 106 ls []) := by
  unfold f_X7_restart_106 at hf
  have hx := C.1.1
  have hb := C.1.2.1
  have hi := C.2.2.2.1
  refine lv_iinc (v := (x3 + 1)) (lv' := [(3, .int (x3 + 1)), (0, .ref (ad 0)), (1, .int x1), (2, .int x2)]) hx hb dX7_restart_106 hl (k := 3) rfl rfl (by decide) rfl (fun ls hl => ?_)
  refine lv_goto (tgt := 19) hx hb dX7_restart_109 (by decide) ?_
  exact hk19_ w (lv_sub hl [1, 2, 3, 0] rfl) hf
set_option maxRecDepth 100000 in
set_option maxHeartbeats 4000000 in
theorem w_X7_restart_81b (C : gC p s m args c RX7 cX7_restart 6 D (yty cI cZ) 30 (yE cI cZ) ad) (hr : meth.sig.returnType = (some .int)) (hq : meth.locks = false) {k19_ : (Int32 → Int32 → Int32 → Mem → Option (Int32 × Mem))} {k81_ : (Int32 → Int32 → Int32 → Int32 → Int32 → Mem → Option (Int32 × Mem))} {Rs : Int32 × Mem} (hk19_ : ∀ {x1 : Int32} {x2 : Int32} {x3 : Int32} {M : Mem} {H : Heap} {locs : List Loc} {ls : Array Slot}, gWd D 30 (yE cI cZ) ad M s H locs → lv_has ls 6 [(0, .ref (ad 0)), (1, .int x1), (2, .int x2), (3, .int x3)] → k19_ x1 x2 x3 M = some Rs → W p l e (rmH 2) s m args below meth c H locs 0 0 (MQ below (qI D 30 (yE cI cZ) ad Rs) args s 0 0 (gA 30 ad)) (F0 m 19 ls [])) (hk81_ : ∀ {x1 : Int32} {x2 : Int32} {x3 : Int32} {x4 : Int32} {x5 : Int32} {M : Mem} {H : Heap} {locs : List Loc} {ls : Array Slot}, gWd D 30 (yE cI cZ) ad M s H locs → lv_has ls 6 [(0, .ref (ad 0)), (1, .int x1), (2, .int x2), (3, .int x3), (4, .int x4), (5, .int x5)] → k81_ x1 x2 x3 x4 x5 M = some Rs → W p l e (rmH 2) s m args below meth c H locs 0 0 (MQ below (qI D 30 (yE cI cZ) ad Rs) args s 0 0 (gA 30 ad)) (F0 m 81 ls [])) {x1 : Int32} {x2 : Int32} {x3 : Int32} {x4 : Int32} {x5 : Int32} (w : gWd D 30 (yE cI cZ) ad M s H locs) (hl : lv_has ls 6 [(0, .ref (ad 0)), (1, .int x1), (2, .int x2), (3, .int x3), (4, .int x4), (5, .int x5)]) (hf : f_X7_restart_81b k19_ k81_ x1 x2 x3 x4 x5 M = some Rs) : W p l e (rmH 2) s m args below meth c H locs 0 0 (MQ below (qI D 30 (yE cI cZ) ad Rs) args s 0 0 (gA 30 ad)) (F0 m 81 ls []) := by
  unfold f_X7_restart_81b at hf
  have hx := C.1.1
  have hb := C.1.2.1
  have hi := C.2.2.2.1
  refine lv_iload hx hb dX7_restart_81 (lv_at hl 5 rfl) ?_
  refine lv_iconst (v := 5) hx hb dX7_restart_83 (by decide) ?_
  refine lv_icmp_ge (tgt := 106) hx hb dX7_restart_84 (by decide) (fun c1 => ?_) (fun c1 => ?_)
  · replace hf := (if_pos c1).symm.trans hf
    exact w_X7_restart_106 C hr hq hk19_ w (lv_sub hl [0, 1, 2, 3] rfl) hf
  · replace hf := (if_neg c1).symm.trans hf
    refine lv_aload_n hx hb dX7_restart_87 rfl (lv_at hl 0 rfl) ?_
    refine gt_X7_41 C w dX7_restart_88 ?_
    refine lv_iconst (v := 5) hx hb dX7_restart_91 (by decide) ?_
    refine lv_iload hx hb dX7_restart_92 (lv_at hl 4 rfl) ?_
    refine lv_imul hx hb dX7_restart_94 ?_
    refine lv_iload hx hb dX7_restart_95 (lv_at hl 5 rfl) ?_
    refine lv_iadd hx hb dX7_restart_97 ?_
    refine lv_iconst (v := 0) hx hb dX7_restart_98 (by decide) ?_
    obtain ⟨M2, e3, hf⟩ := bindS hf
    refine g_iast C w y_a11 e3 dX7_restart_99 (fun H locs w => ?_)
    refine lv_iinc (v := (x5 + 1)) (lv' := [(5, .int (x5 + 1)), (0, .ref (ad 0)), (1, .int x1), (2, .int x2), (3, .int x3), (4, .int x4)]) hx hb dX7_restart_100 hl (k := 5) rfl rfl (by decide) rfl (fun ls hl => ?_)
    refine lv_goto (tgt := 81) hx hb dX7_restart_103 (by decide) ?_
    exact hk81_ w (lv_sub hl [1, 2, 3, 4, 5, 0] rfl) hf
theorem w_X7_restart_81 (C : gC p s m args c RX7 cX7_restart 6 D (yty cI cZ) 30 (yE cI cZ) ad) (hr : meth.sig.returnType = (some .int)) (hq : meth.locks = false) {k19_ : (Int32 → Int32 → Int32 → Mem → Option (Int32 × Mem))} {Rs : Int32 × Mem} (hk19_ : ∀ {x1 : Int32} {x2 : Int32} {x3 : Int32} {M : Mem} {H : Heap} {locs : List Loc} {ls : Array Slot}, gWd D 30 (yE cI cZ) ad M s H locs → lv_has ls 6 [(0, .ref (ad 0)), (1, .int x1), (2, .int x2), (3, .int x3)] → k19_ x1 x2 x3 M = some Rs → W p l e (rmH 2) s m args below meth c H locs 0 0 (MQ below (qI D 30 (yE cI cZ) ad Rs) args s 0 0 (gA 30 ad)) (F0 m 19 ls [])) : ∀ (n : Nat) {x1 : Int32} {x2 : Int32} {x3 : Int32} {x4 : Int32} {x5 : Int32} {M : Mem} {H : Heap} {locs : List Loc} {ls : Array Slot}, gWd D 30 (yE cI cZ) ad M s H locs → lv_has ls 6 [(0, .ref (ad 0)), (1, .int x1), (2, .int x2), (3, .int x3), (4, .int x4), (5, .int x5)] → f_X7_restart_81 k19_ n x1 x2 x3 x4 x5 M = some Rs → W p l e (rmH 2) s m args below meth c H locs 0 0 (MQ below (qI D 30 (yE cI cZ) ad Rs) args s 0 0 (gA 30 ad)) (F0 m 81 ls []) := by
  intro n
  induction n with
  | zero =>
    intro x1 x2 x3 x4 x5 M H locs ls w hl hf
    cases hf
  | succ n ih =>
    intro x1 x2 x3 x4 x5 M H locs ls w hl hf
    exact w_X7_restart_81b C hr hq hk19_ ih  w hl hf
set_option maxRecDepth 100000 in
set_option maxHeartbeats 4000000 in
theorem w_X7_restart_68 (C : gC p s m args c RX7 cX7_restart 6 D (yty cI cZ) 30 (yE cI cZ) ad) (hr : meth.sig.returnType = (some .int)) (hq : meth.locks = false) {k19_ : (Int32 → Int32 → Int32 → Mem → Option (Int32 × Mem))} {Rs : Int32 × Mem} (hk19_ : ∀ {x1 : Int32} {x2 : Int32} {x3 : Int32} {M : Mem} {H : Heap} {locs : List Loc} {ls : Array Slot}, gWd D 30 (yE cI cZ) ad M s H locs → lv_has ls 6 [(0, .ref (ad 0)), (1, .int x1), (2, .int x2), (3, .int x3)] → k19_ x1 x2 x3 M = some Rs → W p l e (rmH 2) s m args below meth c H locs 0 0 (MQ below (qI D 30 (yE cI cZ) ad Rs) args s 0 0 (gA 30 ad)) (F0 m 19 ls [])) {x1 : Int32} {x3 : Int32} {x4 : Int32} {s0 : Int32} {s1 : Int32} (w : gWd D 30 (yE cI cZ) ad M s H locs) (hl : lv_has ls 6 [(0, .ref (ad 0)), (1, .int x1), (3, .int x3), (4, .int x4)]) (hf : f_X7_restart_68 k19_ x1 x3 x4 s0 s1 M = some Rs) : W p l e (rmH 2) s m args below meth c H locs 0 0 (MQ below (qI D 30 (yE cI cZ) ad Rs) args s 0 0 (gA 30 ad)) (F0 m 68 ls [.int s1, .int s0]) := by
  unfold f_X7_restart_68 at hf
  have hx := C.1.1
  have hb := C.1.2.1
  have hi := C.2.2.2.1
  refine lv_iadd hx hb dX7_restart_68 ?_
  refine lv_istore_n (lv' := [(2, .int (s0 + s1)), (0, .ref (ad 0)), (1, .int x1), (3, .int x3), (4, .int x4)]) hx hb dX7_restart_69 rfl hl (by decide) rfl (fun ls hl => ?_)
  refine lv_aload_n hx hb dX7_restart_70 rfl (lv_at hl 1 rfl) ?_
  refine gt_X7_38 C w dX7_restart_71 ?_
  refine lv_iload hx hb dX7_restart_74 (lv_at hl 4 rfl) ?_
  refine lv_iconst (v := 0) hx hb dX7_restart_76 (by decide) ?_
  obtain ⟨M1, e2, hf⟩ := bindS hf
  refine g_iast C w y_a10 e2 dX7_restart_77 (fun H locs w => ?_)
  refine lv_iconst (v := 0) hx hb dX7_restart_78 (by decide) ?_
  refine lv_istore (lv' := [(5, .int (0 : Int32)), (2, .int (s0 + s1)), (0, .ref (ad 0)), (1, .int x1), (3, .int x3), (4, .int x4)]) hx hb dX7_restart_79 hl (by decide) rfl (fun ls hl => ?_)
  exact w_X7_restart_81 C hr hq hk19_ FU w (lv_sub hl [2, 3, 1, 4, 5, 0] rfl) hf
set_option maxRecDepth 100000 in
set_option maxHeartbeats 4000000 in
theorem w_X7_restart_19b (C : gC p s m args c RX7 cX7_restart 6 D (yty cI cZ) 30 (yE cI cZ) ad) (hr : meth.sig.returnType = (some .int)) (hq : meth.locks = false) {k19_ : (Int32 → Int32 → Int32 → Mem → Option (Int32 × Mem))} {Rs : Int32 × Mem} (hk19_ : ∀ {x1 : Int32} {x2 : Int32} {x3 : Int32} {M : Mem} {H : Heap} {locs : List Loc} {ls : Array Slot}, gWd D 30 (yE cI cZ) ad M s H locs → lv_has ls 6 [(0, .ref (ad 0)), (1, .int x1), (2, .int x2), (3, .int x3)] → k19_ x1 x2 x3 M = some Rs → W p l e (rmH 2) s m args below meth c H locs 0 0 (MQ below (qI D 30 (yE cI cZ) ad Rs) args s 0 0 (gA 30 ad)) (F0 m 19 ls [])) {x1 : Int32} {x2 : Int32} {x3 : Int32} (w : gWd D 30 (yE cI cZ) ad M s H locs) (hl : lv_has ls 6 [(0, .ref (ad 0)), (1, .int x1), (2, .int x2), (3, .int x3)]) (hf : f_X7_restart_19b k19_ x1 x2 x3 M = some Rs) : W p l e (rmH 2) s m args below meth c H locs 0 0 (MQ below (qI D 30 (yE cI cZ) ad Rs) args s 0 0 (gA 30 ad)) (F0 m 19 ls []) := by
  unfold f_X7_restart_19b at hf
  have hx := C.1.1
  have hb := C.1.2.1
  have hi := C.2.2.2.1
  refine lv_iload_n hx hb dX7_restart_19 rfl (lv_at hl 3 rfl) ?_
  refine lv_aload_n hx hb dX7_restart_20 rfl (lv_at hl 0 rfl) ?_
  refine gt_X7_101 C w dX7_restart_21 ?_
  refine lv_icmp_ge (tgt := 112) hx hb dX7_restart_24 (by decide) (fun c1 => ?_) (fun c1 => ?_)
  · replace hf := (if_pos c1).symm.trans hf
    refine lv_aload_n hx hb dX7_restart_112 rfl (lv_at hl 0 rfl) ?_
    refine gt_X7_56 C w dX7_restart_113 ?_
    refine lv_iload_n hx hb dX7_restart_116 rfl (lv_at hl 1 rfl) ?_
    refine lv_iconst (v := 0) hx hb dX7_restart_117 (by decide) ?_
    obtain ⟨M2, e3, hf⟩ := bindS hf
    refine g_iast C w y_a16 e3 dX7_restart_118 (fun H locs w => ?_)
    refine lv_iload_n hx hb dX7_restart_119 rfl (lv_at hl 2 rfl) ?_
    exact g_iret C w hr hq hf dX7_restart_120
  · replace hf := (if_neg c1).symm.trans hf
    refine lv_bipush (v := 16) hx hb dX7_restart_27 (by decide) ?_
    refine lv_iload_n hx hb dX7_restart_29 rfl (lv_at hl 1 rfl) ?_
    refine lv_imul hx hb dX7_restart_30 ?_
    refine lv_iload_n hx hb dX7_restart_31 rfl (lv_at hl 3 rfl) ?_
    refine lv_iadd hx hb dX7_restart_32 ?_
    refine lv_istore (lv' := [(4, .int (((16 : Int32) * x1) + x3)), (0, .ref (ad 0)), (1, .int x1), (2, .int x2), (3, .int x3)]) hx hb dX7_restart_33 hl (by decide) rfl (fun ls hl => ?_)
    refine lv_aload_n hx hb dX7_restart_35 rfl (lv_at hl 1 rfl) ?_
    refine gt_X7_44 C w dX7_restart_36 ?_
    refine lv_iload hx hb dX7_restart_39 (lv_at hl 0 rfl) ?_
    refine lv_iconst (v := 0) hx hb dX7_restart_41 (by decide) ?_
    obtain ⟨M4, e5, hf⟩ := bindS hf
    refine g_iast C w y_a12 e5 dX7_restart_42 (fun H locs w => ?_)
    refine lv_aload_n hx hb dX7_restart_43 rfl (lv_at hl 1 rfl) ?_
    refine gt_X7_16 C w dX7_restart_44 ?_
    refine lv_iload_n hx hb dX7_restart_47 rfl (lv_at hl 4 rfl) ?_
    obtain ⟨v6, e7, hf⟩ := bindS hf
    refine g_zald C w y_a3 e7 dX7_restart_48 ?_
    refine lv_if_ne (tgt := 106) hx hb dX7_restart_49 (by decide) (fun c8 => ?_) (fun c8 => ?_)
    · replace hf := (if_neg c8).symm.trans hf
      exact w_X7_restart_106 C hr hq hk19_ w (lv_sub hl [1, 2, 3, 4] rfl) hf
    · replace hf := (if_pos c8).symm.trans hf
      refine lv_iload_n hx hb dX7_restart_52 rfl (lv_at hl 3 rfl) ?_
      refine lv_aload_n hx hb dX7_restart_53 rfl (lv_at hl 1 rfl) ?_
      refine gt_X7_38 C w dX7_restart_54 ?_
      refine lv_iload hx hb dX7_restart_57 (lv_at hl 0 rfl) ?_
      obtain ⟨v9, e10, hf⟩ := bindS hf
      refine g_iald C w y_a10 e10 dX7_restart_59 ?_
      refine lv_if_ne (tgt := 67) hx hb dX7_restart_60 (by decide) (fun c11 => ?_) (fun c11 => ?_)
      · replace hf := (if_neg c11).symm.trans hf
        refine lv_iconst (v := 1) hx hb dX7_restart_67 (by decide) ?_
        exact w_X7_restart_68 C hr hq hk19_ w (lv_sub hl [1, 2, 4, 0] rfl) hf
      · replace hf := (if_pos c11).symm.trans hf
        refine lv_iconst (v := 0) hx hb dX7_restart_63 (by decide) ?_
        refine lv_goto (tgt := 68) hx hb dX7_restart_64 (by decide) ?_
        exact w_X7_restart_68 C hr hq hk19_ w (lv_sub hl [1, 2, 4, 0] rfl) hf
theorem w_X7_restart_19 (C : gC p s m args c RX7 cX7_restart 6 D (yty cI cZ) 30 (yE cI cZ) ad) (hr : meth.sig.returnType = (some .int)) (hq : meth.locks = false) {Rs : Int32 × Mem} : ∀ (n : Nat) {x1 : Int32} {x2 : Int32} {x3 : Int32} {M : Mem} {H : Heap} {locs : List Loc} {ls : Array Slot}, gWd D 30 (yE cI cZ) ad M s H locs → lv_has ls 6 [(0, .ref (ad 0)), (1, .int x1), (2, .int x2), (3, .int x3)] → f_X7_restart_19  n x1 x2 x3 M = some Rs → W p l e (rmH 2) s m args below meth c H locs 0 0 (MQ below (qI D 30 (yE cI cZ) ad Rs) args s 0 0 (gA 30 ad)) (F0 m 19 ls []) := by
  intro n
  induction n with
  | zero =>
    intro x1 x2 x3 M H locs ls w hl hf
    cases hf
  | succ n ih =>
    intro x1 x2 x3 M H locs ls w hl hf
    exact w_X7_restart_19b C hr hq ih  w hl hf
set_option maxRecDepth 100000 in
set_option maxHeartbeats 4000000 in
theorem w_X7_restart_0 (C : gC p s m args c RX7 cX7_restart 6 D (yty cI cZ) 30 (yE cI cZ) ad) (hr : meth.sig.returnType = (some .int)) (hq : meth.locks = false) {Rs : Int32 × Mem} {x1 : Int32} (w : gWd D 30 (yE cI cZ) ad M s H locs) (hl : lv_has ls 6 [(0, .ref (ad 0)), (1, .int x1)]) (hf : f_X7_restart_0  x1 M = some Rs) : W p l e (rmH 2) s m args below meth c H locs 0 0 (MQ below (qI D 30 (yE cI cZ) ad Rs) args s 0 0 (gA 30 ad)) (F0 m 0 ls []) := by
  unfold f_X7_restart_0 at hf
  have hx := C.1.1
  have hb := C.1.2.1
  have hi := C.2.2.2.1
  refine lv_aload_n hx hb dX7_restart_0 rfl (lv_at hl 0 rfl) ?_
  refine lv_iconst (v := 0) hx hb dX7_restart_1 (by decide) ?_
  obtain ⟨M1, e2, hf⟩ := bindS hf
  refine pt_X7_120 C w e2 dX7_restart_2 (fun H locs w => ?_)
  refine lv_iload_n hx hb dX7_restart_5 rfl (lv_at hl 1 rfl) ?_
  obtain ⟨⟨v5, M3⟩, e4, hf⟩ := bindS hf
  refine g_backI w (g_runS (rest := []) C w (c_X7_isSession hi  e4) gs_X7_195 md_X7_isSession rfl (by omega) (by decide) hl.1 rfl (Nat.le_of_ble_eq_true rfl) dX7_restart_6) (fun H locs w => ?_)
  refine lv_if_ne (tgt := 15) hx hb dX7_restart_9 (by decide) (fun c6 => ?_) (fun c6 => ?_)
  · replace hf := (if_neg c6).symm.trans hf
    refine lv_iconst (v := 0) hx hb dX7_restart_15 (by decide) ?_
    refine lv_istore_n (lv' := [(2, .int (0 : Int32)), (0, .ref (ad 0)), (1, .int x1)]) hx hb dX7_restart_16 rfl hl (by decide) rfl (fun ls hl => ?_)
    refine lv_iconst (v := 0) hx hb dX7_restart_17 (by decide) ?_
    refine lv_istore_n (lv' := [(3, .int (0 : Int32)), (2, .int (0 : Int32)), (0, .ref (ad 0)), (1, .int x1)]) hx hb dX7_restart_18 rfl hl (by decide) rfl (fun ls hl => ?_)
    exact w_X7_restart_19 C hr hq FU w (lv_sub hl [2, 3, 1, 0] rfl) hf
  · replace hf := (if_pos c6).symm.trans hf
    refine lv_bipush (v := -101) hx hb dX7_restart_12 (by decide) ?_
    exact g_iret C w hr hq hf dX7_restart_14
abbrev f_X7_restart (x1 : Int32) (M : Mem) : Option (Int32 × Mem) := f_X7_restart_0 x1 M
theorem c_X7_restart (hi : gInj 30 ad) {x1 : Int32} {Rs : Int32 × Mem} (hf : f_X7_restart x1 M = some Rs) : gMet l yX7_restart cX7_restart 6 (some .int) 2 D (yty cI cZ) 30 (yE cI cZ) ad [.ref (ad 0), .int x1] M (qI D 30 (yE cI cZ) ad Rs) := gMet_of (by decide) hi (yE_loc cI cZ) (Nat.le_of_ble_eq_true rfl) (fun p e s m args below meth c ls C hr hq w hl => w_X7_restart_0 C hr hq  w hl hf)
def f_X7_about_0 (x1 : Int32) (M : Mem) : Option (Int32 × Mem) :=
  (stF M 0 0 (0 : Int32)).bind fun M1 =>
  if x1 = 0 then (some ((M1 0 1), M1)) else (if x1 = (1 : Int32) then (some ((M1 0 16), M1)) else (if x1 = (2 : Int32) then (some ((M1 0 17), M1)) else (if x1 = (3 : Int32) then (some ((M1 0 19), M1)) else (if x1 = (4 : Int32) then (some ((M1 0 21), M1)) else (some ((-102 : Int32), M1))))))
set_option maxRecDepth 100000 in
set_option maxHeartbeats 4000000 in
theorem w_X7_about_0 (C : gC p s m args c RX7 cX7_about 2 D (yty cI cZ) 30 (yE cI cZ) ad) (hr : meth.sig.returnType = (some .int)) (hq : meth.locks = false) {Rs : Int32 × Mem} {x1 : Int32} (w : gWd D 30 (yE cI cZ) ad M s H locs) (hl : lv_has ls 2 [(0, .ref (ad 0)), (1, .int x1)]) (hf : f_X7_about_0  x1 M = some Rs) : W p l e (rmH 0) s m args below meth c H locs 0 0 (MQ below (qI D 30 (yE cI cZ) ad Rs) args s 0 0 (gA 30 ad)) (F0 m 0 ls []) := by
  unfold f_X7_about_0 at hf
  have hx := C.1.1
  have hb := C.1.2.1
  have hi := C.2.2.2.1
  refine lv_aload_n hx hb dX7_about_0 rfl (lv_at hl 0 rfl) ?_
  refine lv_iconst (v := 0) hx hb dX7_about_1 (by decide) ?_
  obtain ⟨M1, e2, hf⟩ := bindS hf
  refine pt_X7_120 C w e2 dX7_about_2 (fun H locs w => ?_)
  refine lv_iload_n hx hb dX7_about_5 rfl (lv_at hl 1 rfl) ?_
  refine lv_if_ne (tgt := 16) hx hb dX7_about_6 (by decide) (fun c3 => ?_) (fun c3 => ?_)
  · replace hf := (if_neg c3).symm.trans hf
    refine lv_iload_n hx hb dX7_about_16 rfl (lv_at hl 1 rfl) ?_
    refine lv_iconst (v := 1) hx hb dX7_about_17 (by decide) ?_
    refine lv_icmp_ne (tgt := 28) hx hb dX7_about_18 (by decide) (fun c4 => ?_) (fun c4 => ?_)
    · replace hf := (if_neg c4).symm.trans hf
      refine lv_iload_n hx hb dX7_about_28 rfl (lv_at hl 1 rfl) ?_
      refine lv_iconst (v := 2) hx hb dX7_about_29 (by decide) ?_
      refine lv_icmp_ne (tgt := 40) hx hb dX7_about_30 (by decide) (fun c5 => ?_) (fun c5 => ?_)
      · replace hf := (if_neg c5).symm.trans hf
        refine lv_iload_n hx hb dX7_about_40 rfl (lv_at hl 1 rfl) ?_
        refine lv_iconst (v := 3) hx hb dX7_about_41 (by decide) ?_
        refine lv_icmp_ne (tgt := 52) hx hb dX7_about_42 (by decide) (fun c6 => ?_) (fun c6 => ?_)
        · replace hf := (if_neg c6).symm.trans hf
          refine lv_iload_n hx hb dX7_about_52 rfl (lv_at hl 1 rfl) ?_
          refine lv_iconst (v := 4) hx hb dX7_about_53 (by decide) ?_
          refine lv_icmp_ne (tgt := 64) hx hb dX7_about_54 (by decide) (fun c7 => ?_) (fun c7 => ?_)
          · replace hf := (if_neg c7).symm.trans hf
            refine lv_bipush (v := -102) hx hb dX7_about_64 (by decide) ?_
            exact g_iret C w hr hq hf dX7_about_66
          · replace hf := (if_pos c7).symm.trans hf
            refine lv_aload_n hx hb dX7_about_57 rfl (lv_at hl 0 rfl) ?_
            refine gt_X7_117 C w dX7_about_58 ?_
            refine lv_goto (tgt := 66) hx hb dX7_about_61 (by decide) ?_
            exact g_iret C w hr hq hf dX7_about_66
        · replace hf := (if_pos c6).symm.trans hf
          refine lv_aload_n hx hb dX7_about_45 rfl (lv_at hl 0 rfl) ?_
          refine gt_X7_114 C w dX7_about_46 ?_
          refine lv_goto (tgt := 66) hx hb dX7_about_49 (by decide) ?_
          exact g_iret C w hr hq hf dX7_about_66
      · replace hf := (if_pos c5).symm.trans hf
        refine lv_aload_n hx hb dX7_about_33 rfl (lv_at hl 0 rfl) ?_
        refine gt_X7_111 C w dX7_about_34 ?_
        refine lv_goto (tgt := 66) hx hb dX7_about_37 (by decide) ?_
        exact g_iret C w hr hq hf dX7_about_66
    · replace hf := (if_pos c4).symm.trans hf
      refine lv_aload_n hx hb dX7_about_21 rfl (lv_at hl 0 rfl) ?_
      refine gt_X7_108 C w dX7_about_22 ?_
      refine lv_goto (tgt := 66) hx hb dX7_about_25 (by decide) ?_
      exact g_iret C w hr hq hf dX7_about_66
  · replace hf := (if_pos c3).symm.trans hf
    refine lv_aload_n hx hb dX7_about_9 rfl (lv_at hl 0 rfl) ?_
    refine gt_X7_101 C w dX7_about_10 ?_
    refine lv_goto (tgt := 66) hx hb dX7_about_13 (by decide) ?_
    exact g_iret C w hr hq hf dX7_about_66
abbrev f_X7_about (x1 : Int32) (M : Mem) : Option (Int32 × Mem) := f_X7_about_0 x1 M
theorem c_X7_about (hi : gInj 30 ad) {x1 : Int32} {Rs : Int32 × Mem} (hf : f_X7_about x1 M = some Rs) : gMet l yX7_about cX7_about 2 (some .int) 0 D (yty cI cZ) 30 (yE cI cZ) ad [.ref (ad 0), .int x1] M (qI D 30 (yE cI cZ) ad Rs) := gMet_of (by decide) hi (yE_loc cI cZ) (Nat.le_of_ble_eq_true rfl) (fun p e s m args below meth c ls C hr hq w hl => w_X7_about_0 C hr hq  w hl hf)
def f_X7_clear_0 (M : Mem) : Option (Int32 × Mem) :=
  (stF M 0 0 (0 : Int32)).bind fun M1 =>
  (f_X7_begins M1).bind fun (v5, M3) =>
  some ((M1 0 1), M3)
set_option maxRecDepth 100000 in
set_option maxHeartbeats 4000000 in
theorem w_X7_clear_0 (C : gC p s m args c RX7 cX7_clear 2 D (yty cI cZ) 30 (yE cI cZ) ad) (hr : meth.sig.returnType = (some .int)) (hq : meth.locks = false) {Rs : Int32 × Mem}  (w : gWd D 30 (yE cI cZ) ad M s H locs) (hl : lv_has ls 2 [(0, .ref (ad 0))]) (hf : f_X7_clear_0  M = some Rs) : W p l e (rmH 1) s m args below meth c H locs 0 0 (MQ below (qI D 30 (yE cI cZ) ad Rs) args s 0 0 (gA 30 ad)) (F0 m 0 ls []) := by
  unfold f_X7_clear_0 at hf
  have hx := C.1.1
  have hb := C.1.2.1
  have hi := C.2.2.2.1
  refine lv_aload_n hx hb dX7_clear_0 rfl (lv_at hl 0 rfl) ?_
  refine lv_iconst (v := 0) hx hb dX7_clear_1 (by decide) ?_
  obtain ⟨M1, e2, hf⟩ := bindS hf
  refine pt_X7_120 C w e2 dX7_clear_2 (fun H locs w => ?_)
  refine lv_aload_n hx hb dX7_clear_5 rfl (lv_at hl 0 rfl) ?_
  refine gt_X7_101 C w dX7_clear_6 ?_
  refine lv_istore_n (lv' := [(1, .int (M1 0 1)), (0, .ref (ad 0))]) hx hb dX7_clear_9 rfl hl (by decide) rfl (fun ls hl => ?_)
  refine lv_aload_n hx hb dX7_clear_10 rfl (lv_at hl 1 rfl) ?_
  obtain ⟨⟨v5, M3⟩, e4, hf⟩ := bindS hf
  refine g_backV w (g_runV (rest := []) C w (c_X7_begins hi  e4) ob_X7 rfl gv_X7_98 md_X7_begins rfl (by omega) (by decide) hl.1 rfl (Nat.le_of_ble_eq_true rfl) dX7_clear_11) (fun H locs w => ?_)
  refine lv_iload_n hx hb dX7_clear_14 rfl (lv_at hl 0 rfl) ?_
  exact g_iret C w hr hq hf dX7_clear_15
abbrev f_X7_clear (M : Mem) : Option (Int32 × Mem) := f_X7_clear_0 M
theorem c_X7_clear (hi : gInj 30 ad)  {Rs : Int32 × Mem} (hf : f_X7_clear M = some Rs) : gMet l yX7_clear cX7_clear 2 (some .int) 1 D (yty cI cZ) 30 (yE cI cZ) ad [.ref (ad 0)] M (qI D 30 (yE cI cZ) ad Rs) := gMet_of (by decide) hi (yE_loc cI cZ) (Nat.le_of_ble_eq_true rfl) (fun p e s m args below meth c ls C hr hq w hl => w_X7_clear_0 C hr hq  w hl hf)
end GENX
