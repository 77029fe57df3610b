noncomputable section GENX
variable {p : Program} {l : Launch} {e : Env} {h : Nat} {R : Room} {s : State} {m : MethodId} {args : Array Value} {below : List Frame} {meth : Method} {c : Code} {H : Heap} {locs : List Loc} {cells slots : Nat} {Q : State → Prop} {cc : ByteArray} {nL pc : Nat} {ls : Array Slot} {rest : List Value} {D : va_G} {ad : Nat → Nat} {M M1 : Mem} {cI cT cS cZ : ClassId}
theorem FU_ex : ∃ n : Nat, 5000 ≤ n := ⟨5000, Nat.le_refl _⟩
noncomputable def FU : Nat := Classical.choose FU_ex
theorem FU_ge : 5000 ≤ FU := Classical.choose_spec FU_ex
theorem kc_X6_within : Cond.code yX6_within cX6_within 3 (some .boolean) ∈ gW := gw_in 267 (by decide +kernel) rfl
theorem ki_X6 : Cond.initialized RX6 ∈ gW := gw_in 39 (by decide +kernel) rfl
theorem md_X6_within : gMd yX6_within 3 := ⟨by decide +kernel, by decide +kernel, by decide +kernel⟩
theorem kt_X6_within : Cond.static yX6_within ∈ gW := gw_in 266 (by decide +kernel) rfl
theorem kl_X6_44 : Cond.methodLink RX6 44 yX6_within ∈ gW := gw_in 265 (by decide +kernel) rfl
theorem gs_X6_44 : gWs RX6 44 yX6_within cX6_within 3 (some .boolean) := ⟨kl_X6_44, kt_X6_within, ki_X6, kc_X6_within⟩
theorem kf_X6_56 : Cond.fieldLink RX6 56 (TX6 5).1 (TX6 5).2.1 (TX6 5).2.2.1 ∈ gW := gw_in 232 (by decide +kernel) rfl
theorem gt_X6_56 (C : gC p s m args c RX6 cc nL D (xty cI cT cS) 241 (xE cI cT cS) ad) (w : gWd D 241 (xE cI cT cS) ad M s H locs) (hdg : decode cc pc = .ok (.getfield 56, 3)) (kk : W p l e R s m args below meth c H locs cells slots Q (F0 m (pc + 3) ls (.int (M 0 5) :: rest))) : W p l e R s m args below meth c H locs cells slots Q (F0 m pc ls (.ref (ad 0) :: rest)) := g_get C w ob_X6 rfl ginX6 5 (by decide) kf_X6_56 rfl hdg kk
theorem kc_X6_isType : Cond.code yX6_isType cX6_isType 2 (some .boolean) ∈ gW := gw_in 275 (by decide +kernel) rfl
theorem md_X6_isType : gMd yX6_isType 1 := ⟨by decide +kernel, by decide +kernel, by decide +kernel⟩
theorem kl_X6_68 : Cond.methodLink RX6 68 yX6_isType ∈ gW := gw_in 272 (by decide +kernel) rfl
theorem kn_X6_isType : Cond.instanceMethod yX6_isType ∈ gW := gw_in 274 (by decide +kernel) rfl
theorem ks_X6_isType : Cond.selects RX6 yX6_isType yX6_isType ∈ gW := gw_in 1 (by decide +kernel) rfl
theorem gv_X6_68 : gWv RX6 68 yX6_isType cX6_isType 2 (some .boolean) := ⟨kl_X6_68, kn_X6_isType, ks_X6_isType, ki_X6, kc_X6_isType⟩
theorem kf_X6_11 : Cond.fieldLink RX6 11 (TX6 0).1 (TX6 0).2.1 (TX6 0).2.2.1 ∈ gW := gw_in 227 (by decide +kernel) rfl
theorem gt_X6_11 (C : gC p s m args c RX6 cc nL D (xty cI cT cS) 241 (xE cI cT cS) ad) (w : gWd D 241 (xE cI cT cS) ad M s H locs) (hdg : decode cc pc = .ok (.getfield 11, 3)) (kk : W p l e R s m args below meth c H locs cells slots Q (F0 m (pc + 3) ls (.ref (ad 1) :: rest))) : W p l e R s m args below meth c H locs cells slots Q (F0 m pc ls (.ref (ad 0) :: rest)) := g_get C w ob_X6 rfl ginX6 0 (by decide) kf_X6_11 rfl hdg kk
theorem kf_X6_71 : Cond.fieldLink RX6 71 (TX4 0).1 (TX4 0).2.1 (TX4 0).2.2.1 ∈ gW := gw_in 151 (by decide +kernel) rfl
theorem gt_X6_71 {k : Nat} (hk : xT k) (C : gC p s m args c RX6 cc nL D (xty cI cT cS) 241 (xE cI cT cS) ad) (w : gWd D 241 (xE cI cT cS) ad M s H locs) (hdg : decode cc pc = .ok (.getfield 71, 3)) (kk : W p l e R s m args below meth c H locs cells slots Q (F0 m (pc + 3) ls (.int (M k 0) :: rest))) : W p l e R s m args below meth c H locs cells slots Q (F0 m pc ls (.ref (ad k) :: rest)) := g_get C w (ob_X4 hk) rfl ginX4 0 (by decide) kf_X6_71 rfl hdg kk
theorem kc_X6_isField : Cond.code yX6_isField cX6_isField 1 (some .boolean) ∈ gW := gw_in 316 (by decide +kernel) rfl
theorem md_X6_isField : gMd yX6_isField 1 := ⟨by decide +kernel, by decide +kernel, by decide +kernel⟩
theorem kt_X6_isField : Cond.static yX6_isField ∈ gW := gw_in 315 (by decide +kernel) rfl
theorem kl_X6_89 : Cond.methodLink RX6 89 yX6_isField ∈ gW := gw_in 314 (by decide +kernel) rfl
theorem gs_X6_89 : gWs RX6 89 yX6_isField cX6_isField 1 (some .boolean) := ⟨kl_X6_89, kt_X6_isField, ki_X6, kc_X6_isField⟩
theorem kc_X6_isNumber : Cond.code yX6_isNumber cX6_isNumber 1 (some .boolean) ∈ gW := gw_in 319 (by decide +kernel) rfl
theorem md_X6_isNumber : gMd yX6_isNumber 1 := ⟨by decide +kernel, by decide +kernel, by decide +kernel⟩
theorem kt_X6_isNumber : Cond.static yX6_isNumber ∈ gW := gw_in 318 (by decide +kernel) rfl
theorem kl_X6_92 : Cond.methodLink RX6 92 yX6_isNumber ∈ gW := gw_in 317 (by decide +kernel) rfl
theorem gs_X6_92 : gWs RX6 92 yX6_isNumber cX6_isNumber 1 (some .boolean) := ⟨kl_X6_92, kt_X6_isNumber, ki_X6, kc_X6_isNumber⟩
theorem kc_X6_mayNameType : Cond.code yX6_mayNameType cX6_mayNameType 1 (some .boolean) ∈ gW := gw_in 329 (by decide +kernel) rfl
theorem md_X6_mayNameType : gMd yX6_mayNameType 1 := ⟨by decide +kernel, by decide +kernel, by decide +kernel⟩
theorem kt_X6_mayNameType : Cond.static yX6_mayNameType ∈ gW := gw_in 328 (by decide +kernel) rfl
theorem kl_X6_203 : Cond.methodLink RX6 203 yX6_mayNameType ∈ gW := gw_in 327 (by decide +kernel) rfl
theorem gs_X6_203 : gWs RX6 203 yX6_mayNameType cX6_mayNameType 1 (some .boolean) := ⟨kl_X6_203, kt_X6_mayNameType, ki_X6, kc_X6_mayNameType⟩
def f_X6_within_0 (x0 : Int32) (x1 : Int32) (x2 : Int32) (M : Mem) : Option (Int32 × Mem) :=
  if x0 < x1 then (rtZ (0 : Int32) M) else (if x2 < x0 then (rtZ (0 : Int32) M) else (rtZ (1 : Int32) M))
set_option maxRecDepth 100000 in
set_option maxHeartbeats 4000000 in
theorem w_X6_within_0 (C : gC p s m args c RX6 cX6_within 3 D (xty cI cT cS) 241 (xE cI cT cS) ad) (hr : meth.sig.returnType = (some .boolean)) (hq : meth.locks = false) {Rs : Int32 × Mem} {x0 : Int32} {x1 : Int32} {x2 : Int32} (w : gWd D 241 (xE cI cT cS) ad M s H locs) (hl : lv_has ls 3 [(0, .int x0), (1, .int x1), (2, .int x2)]) (hf : f_X6_within_0  x0 x1 x2 M = some Rs) : W p l e (rmH 0) s m args below meth c H locs 0 0 (MQ below (qI D 241 (xE cI cT cS) ad Rs) args s 0 0 (gA 241 ad)) (F0 m 0 ls []) := by
  unfold f_X6_within_0 at hf
  have hx := C.1.1
  have hb := C.1.2.1
  have hi := C.2.2.2.1
  refine lv_iload_n hx hb dX6_within_0 rfl (lv_at hl 0 rfl) ?_
  refine lv_iload_n hx hb dX6_within_1 rfl (lv_at hl 1 rfl) ?_
  refine lv_icmp_lt (tgt := 14) hx hb dX6_within_2 (by decide) (fun c1 => ?_) (fun c1 => ?_)
  · replace hf := (if_pos c1).symm.trans hf
    refine lv_iconst (v := 0) hx hb dX6_within_14 (by decide) ?_
    exact g_zret C w hr hq hf dX6_within_15
  · replace hf := (if_neg c1).symm.trans hf
    refine lv_iload_n hx hb dX6_within_5 rfl (lv_at hl 0 rfl) ?_
    refine lv_iload_n hx hb dX6_within_6 rfl (lv_at hl 2 rfl) ?_
    refine lv_icmp_gt (tgt := 14) hx hb dX6_within_7 (by decide) (fun c2 => ?_) (fun c2 => ?_)
    · replace hf := (if_pos c2).symm.trans hf
      refine lv_iconst (v := 0) hx hb dX6_within_14 (by decide) ?_
      exact g_zret C w hr hq hf dX6_within_15
    · replace hf := (if_neg c2).symm.trans hf
      refine lv_iconst (v := 1) hx hb dX6_within_10 (by decide) ?_
      refine lv_goto (tgt := 15) hx hb dX6_within_11 (by decide) ?_
      exact g_zret C w hr hq hf dX6_within_15
abbrev f_X6_within (x0 : Int32) (x1 : Int32) (x2 : Int32) (M : Mem) : Option (Int32 × Mem) := f_X6_within_0 x0 x1 x2 M
theorem c_X6_within (hi : gInj 241 ad) {x0 : Int32} {x1 : Int32} {x2 : Int32} {Rs : Int32 × Mem} (hf : f_X6_within x0 x1 x2 M = some Rs) : gMet l yX6_within cX6_within 3 (some .boolean) 0 D (xty cI cT cS) 241 (xE cI cT cS) ad [.int x0, .int x1, .int x2] M (qI D 241 (xE cI cT cS) ad Rs) := gMet_of (by decide) hi (xE_loc cI cT cS) (Nat.le_of_ble_eq_true rfl) (fun p e s m args below meth c ls C hr hq w hl => w_X6_within_0 C hr hq  w hl hf)
def f_X6_isNumber_0 (x0 : Int32) (M : Mem) : Option (Int32 × Mem) :=
  (f_X6_within x0 (-999 : Int32) (999 : Int32) M).bind fun (v3, M1) =>
  rtZ v3 M1
set_option maxRecDepth 100000 in
set_option maxHeartbeats 4000000 in
theorem w_X6_isNumber_0 (C : gC p s m args c RX6 cX6_isNumber 1 D (xty cI cT cS) 241 (xE cI cT cS) ad) (hr : meth.sig.returnType = (some .boolean)) (hq : meth.locks = false) {Rs : Int32 × Mem} {x0 : Int32} (w : gWd D 241 (xE cI cT cS) ad M s H locs) (hl : lv_has ls 1 [(0, .int x0)]) (hf : f_X6_isNumber_0  x0 M = some Rs) : W p l e (rmH 1) s m args below meth c H locs 0 0 (MQ below (qI D 241 (xE cI cT cS) ad Rs) args s 0 0 (gA 241 ad)) (F0 m 0 ls []) := by
  unfold f_X6_isNumber_0 at hf
  have hx := C.1.1
  have hb := C.1.2.1
  have hi := C.2.2.2.1
  refine lv_iload_n hx hb dX6_isNumber_0 rfl (lv_at hl 0 rfl) ?_
  refine lv_sipush (v := -999) hx hb dX6_isNumber_1 (by decide) ?_
  refine lv_sipush (v := 999) hx hb dX6_isNumber_4 (by decide) ?_
  obtain ⟨⟨v3, M1⟩, e2, hf⟩ := bindS hf
  refine g_backI w (g_runS (rest := []) C w (c_X6_within hi  e2) gs_X6_44 md_X6_within rfl (by omega) (by decide) hl.1 rfl (Nat.le_of_ble_eq_true rfl) dX6_isNumber_7) (fun H locs w => ?_)
  exact g_zret C w hr hq hf dX6_isNumber_10
abbrev f_X6_isNumber (x0 : Int32) (M : Mem) : Option (Int32 × Mem) := f_X6_isNumber_0 x0 M
theorem c_X6_isNumber (hi : gInj 241 ad) {x0 : Int32} {Rs : Int32 × Mem} (hf : f_X6_isNumber x0 M = some Rs) : gMet l yX6_isNumber cX6_isNumber 1 (some .boolean) 1 D (xty cI cT cS) 241 (xE cI cT cS) ad [.int x0] M (qI D 241 (xE cI cT cS) ad Rs) := gMet_of (by decide) hi (xE_loc cI cT cS) (Nat.le_of_ble_eq_true rfl) (fun p e s m args below meth c ls C hr hq w hl => w_X6_isNumber_0 C hr hq  w hl hf)
def f_X6_isField_0 (x0 : Int32) (M : Mem) : Option (Int32 × Mem) :=
  (f_X6_within x0 (0 : Int32) (4 : Int32) M).bind fun (v3, M1) =>
  rtZ v3 M1
set_option maxRecDepth 100000 in
set_option maxHeartbeats 4000000 in
theorem w_X6_isField_0 (C : gC p s m args c RX6 cX6_isField 1 D (xty cI cT cS) 241 (xE cI cT cS) ad) (hr : meth.sig.returnType = (some .boolean)) (hq : meth.locks = false) {Rs : Int32 × Mem} {x0 : Int32} (w : gWd D 241 (xE cI cT cS) ad M s H locs) (hl : lv_has ls 1 [(0, .int x0)]) (hf : f_X6_isField_0  x0 M = some Rs) : W p l e (rmH 1) s m args below meth c H locs 0 0 (MQ below (qI D 241 (xE cI cT cS) ad Rs) args s 0 0 (gA 241 ad)) (F0 m 0 ls []) := by
  unfold f_X6_isField_0 at hf
  have hx := C.1.1
  have hb := C.1.2.1
  have hi := C.2.2.2.1
  refine lv_iload_n hx hb dX6_isField_0 rfl (lv_at hl 0 rfl) ?_
  refine lv_iconst (v := 0) hx hb dX6_isField_1 (by decide) ?_
  refine lv_iconst (v := 4) hx hb dX6_isField_2 (by decide) ?_
  obtain ⟨⟨v3, M1⟩, e2, hf⟩ := bindS hf
  refine g_backI w (g_runS (rest := []) C w (c_X6_within hi  e2) gs_X6_44 md_X6_within rfl (by omega) (by decide) hl.1 rfl (Nat.le_of_ble_eq_true rfl) dX6_isField_3) (fun H locs w => ?_)
  exact g_zret C w hr hq hf dX6_isField_6
abbrev f_X6_isField (x0 : Int32) (M : Mem) : Option (Int32 × Mem) := f_X6_isField_0 x0 M
theorem c_X6_isField (hi : gInj 241 ad) {x0 : Int32} {Rs : Int32 × Mem} (hf : f_X6_isField x0 M = some Rs) : gMet l yX6_isField cX6_isField 1 (some .boolean) 1 D (xty cI cT cS) 241 (xE cI cT cS) ad [.int x0] M (qI D 241 (xE cI cT cS) ad Rs) := gMet_of (by decide) hi (xE_loc cI cT cS) (Nat.le_of_ble_eq_true rfl) (fun p e s m args below meth c ls C hr hq w hl => w_X6_isField_0 C hr hq  w hl hf)
def f_X6_isSession_0 (x0 : Int32) (M : Mem) : Option (Int32 × Mem) :=
  (f_X6_within x0 (0 : Int32) (3 : Int32) M).bind fun (v3, M1) =>
  rtZ v3 M1
set_option maxRecDepth 100000 in
set_option maxHeartbeats 4000000 in
theorem w_X6_isSession_0 (C : gC p s m args c RX6 cX6_isSession 1 D (xty cI cT cS) 241 (xE cI cT cS) ad) (hr : meth.sig.returnType = (some .boolean)) (hq : meth.locks = false) {Rs : Int32 × Mem} {x0 : Int32} (w : gWd D 241 (xE cI cT cS) ad M s H locs) (hl : lv_has ls 1 [(0, .int x0)]) (hf : f_X6_isSession_0  x0 M = some Rs) : W p l e (rmH 1) s m args below meth c H locs 0 0 (MQ below (qI D 241 (xE cI cT cS) ad Rs) args s 0 0 (gA 241 ad)) (F0 m 0 ls []) := by
  unfold f_X6_isSession_0 at hf
  have hx := C.1.1
  have hb := C.1.2.1
  have hi := C.2.2.2.1
  refine lv_iload_n hx hb dX6_isSession_0 rfl (lv_at hl 0 rfl) ?_
  refine lv_iconst (v := 0) hx hb dX6_isSession_1 (by decide) ?_
  refine lv_iconst (v := 3) hx hb dX6_isSession_2 (by decide) ?_
  obtain ⟨⟨v3, M1⟩, e2, hf⟩ := bindS hf
  refine g_backI w (g_runS (rest := []) C w (c_X6_within hi  e2) gs_X6_44 md_X6_within rfl (by omega) (by decide) hl.1 rfl (Nat.le_of_ble_eq_true rfl) dX6_isSession_3) (fun H locs w => ?_)
  exact g_zret C w hr hq hf dX6_isSession_6
abbrev f_X6_isSession (x0 : Int32) (M : Mem) : Option (Int32 × Mem) := f_X6_isSession_0 x0 M
theorem c_X6_isSession (hi : gInj 241 ad) {x0 : Int32} {Rs : Int32 × Mem} (hf : f_X6_isSession x0 M = some Rs) : gMet l yX6_isSession cX6_isSession 1 (some .boolean) 1 D (xty cI cT cS) 241 (xE cI cT cS) ad [.int x0] M (qI D 241 (xE cI cT cS) ad Rs) := gMet_of (by decide) hi (xE_loc cI cT cS) (Nat.le_of_ble_eq_true rfl) (fun p e s m args below meth c ls C hr hq w hl => w_X6_isSession_0 C hr hq  w hl hf)
def f_X6_isType_0 (x1 : Int32) (M : Mem) : Option (Int32 × Mem) :=
  (f_X6_within x1 (0 : Int32) ((M 0 5) - (1 : Int32)) M).bind fun (v3, M1) =>
  rtZ v3 M1
set_option maxRecDepth 100000 in
set_option maxHeartbeats 4000000 in
theorem w_X6_isType_0 (C : gC p s m args c RX6 cX6_isType 2 D (xty cI cT cS) 241 (xE cI cT cS) ad) (hr : meth.sig.returnType = (some .boolean)) (hq : meth.locks = false) {Rs : Int32 × Mem} {x1 : Int32} (w : gWd D 241 (xE cI cT cS) ad M s H locs) (hl : lv_has ls 2 [(0, .ref (ad 0)), (1, .int x1)]) (hf : f_X6_isType_0  x1 M = some Rs) : W p l e (rmH 1) s m args below meth c H locs 0 0 (MQ below (qI D 241 (xE cI cT cS) ad Rs) args s 0 0 (gA 241 ad)) (F0 m 0 ls []) := by
  unfold f_X6_isType_0 at hf
  have hx := C.1.1
  have hb := C.1.2.1
  have hi := C.2.2.2.1
  refine lv_iload_n hx hb dX6_isType_0 rfl (lv_at hl 1 rfl) ?_
  refine lv_iconst (v := 0) hx hb dX6_isType_1 (by decide) ?_
  refine lv_aload_n hx hb dX6_isType_2 rfl (lv_at hl 0 rfl) ?_
  refine gt_X6_56 C w dX6_isType_3 ?_
  refine lv_iconst (v := 1) hx hb dX6_isType_6 (by decide) ?_
  refine lv_isub hx hb dX6_isType_7 ?_
  obtain ⟨⟨v3, M1⟩, e2, hf⟩ := bindS hf
  refine g_backI w (g_runS (rest := []) C w (c_X6_within hi  e2) gs_X6_44 md_X6_within rfl (by omega) (by decide) hl.1 rfl (Nat.le_of_ble_eq_true rfl) dX6_isType_8) (fun H locs w => ?_)
  exact g_zret C w hr hq hf dX6_isType_11
abbrev f_X6_isType (x1 : Int32) (M : Mem) : Option (Int32 × Mem) := f_X6_isType_0 x1 M
theorem c_X6_isType (hi : gInj 241 ad) {x1 : Int32} {Rs : Int32 × Mem} (hf : f_X6_isType x1 M = some Rs) : gMet l yX6_isType cX6_isType 2 (some .boolean) 1 D (xty cI cT cS) 241 (xE cI cT cS) ad [.ref (ad 0), .int x1] M (qI D 241 (xE cI cT cS) ad Rs) := gMet_of (by decide) hi (xE_loc cI cT cS) (Nat.le_of_ble_eq_true rfl) (fun p e s m args below meth c ls C hr hq w hl => w_X6_isType_0 C hr hq  w hl hf)
def f_X6_isClass_0 (x1 : Int32) (M : Mem) : Option (Int32 × Mem) :=
  (f_X6_isType x1 M).bind fun (v3, M1) =>
  if v3 = 0 then (rtZ (0 : Int32) M1) else ((ixQ 16 x1).bind fun t5 =>
  if (M1 (33 + 13 * t5) 0) = 0 then (rtZ (1 : Int32) M1) else (rtZ (0 : Int32) M1))
set_option maxRecDepth 100000 in
set_option maxHeartbeats 4000000 in
theorem w_X6_isClass_0 (C : gC p s m args c RX6 cX6_isClass 2 D (xty cI cT cS) 241 (xE cI cT cS) ad) (hr : meth.sig.returnType = (some .boolean)) (hq : meth.locks = false) {Rs : Int32 × Mem} {x1 : Int32} (w : gWd D 241 (xE cI cT cS) ad M s H locs) (hl : lv_has ls 2 [(0, .ref (ad 0)), (1, .int x1)]) (hf : f_X6_isClass_0  x1 M = some Rs) : W p l e (rmH 2) s m args below meth c H locs 0 0 (MQ below (qI D 241 (xE cI cT cS) ad Rs) args s 0 0 (gA 241 ad)) (F0 m 0 ls []) := by
  unfold f_X6_isClass_0 at hf
  have hx := C.1.1
  have hb := C.1.2.1
  have hi := C.2.2.2.1
  refine lv_aload_n hx hb dX6_isClass_0 rfl (lv_at hl 0 rfl) ?_
  refine lv_iload_n hx hb dX6_isClass_1 rfl (lv_at hl 1 rfl) ?_
  obtain ⟨⟨v3, M1⟩, e2, hf⟩ := bindS hf
  refine g_backI w (g_runV (rest := []) C w (c_X6_isType hi  e2) ob_X6 rfl gv_X6_68 md_X6_isType rfl (by omega) (by decide) hl.1 rfl (Nat.le_of_ble_eq_true rfl) dX6_isClass_2) (fun H locs w => ?_)
  refine lv_if_eq (tgt := 24) hx hb dX6_isClass_5 (by decide) (fun c4 => ?_) (fun c4 => ?_)
  · replace hf := (if_pos c4).symm.trans hf
    refine lv_iconst (v := 0) hx hb dX6_isClass_24 (by decide) ?_
    exact g_zret C w hr hq hf dX6_isClass_25
  · replace hf := (if_neg c4).symm.trans hf
    refine lv_aload_n hx hb dX6_isClass_8 rfl (lv_at hl 0 rfl) ?_
    refine gt_X6_11 C w dX6_isClass_9 ?_
    refine lv_iload_n hx hb dX6_isClass_12 rfl (lv_at hl 1 rfl) ?_
    obtain ⟨t5, e6, hf⟩ := bindS hf
    refine g_aald (t0 := 1) C w rf_T rfl e6 dX6_isClass_13 ?_
    refine gt_X6_71 ⟨t5, ixQ_lt e6, rfl⟩ C w dX6_isClass_14 ?_
    refine lv_if_ne (tgt := 24) hx hb dX6_isClass_17 (by decide) (fun c7 => ?_) (fun c7 => ?_)
    · replace hf := (if_neg c7).symm.trans hf
      refine lv_iconst (v := 0) hx hb dX6_isClass_24 (by decide) ?_
      exact g_zret C w hr hq hf dX6_isClass_25
    · replace hf := (if_pos c7).symm.trans hf
      refine lv_iconst (v := 1) hx hb dX6_isClass_20 (by decide) ?_
      refine lv_goto (tgt := 25) hx hb dX6_isClass_21 (by decide) ?_
      exact g_zret C w hr hq hf dX6_isClass_25
abbrev f_X6_isClass (x1 : Int32) (M : Mem) : Option (Int32 × Mem) := f_X6_isClass_0 x1 M
theorem c_X6_isClass (hi : gInj 241 ad) {x1 : Int32} {Rs : Int32 × Mem} (hf : f_X6_isClass x1 M = some Rs) : gMet l yX6_isClass cX6_isClass 2 (some .boolean) 2 D (xty cI cT cS) 241 (xE cI cT cS) ad [.ref (ad 0), .int x1] M (qI D 241 (xE cI cT cS) ad Rs) := gMet_of (by decide) hi (xE_loc cI cT cS) (Nat.le_of_ble_eq_true rfl) (fun p e s m args below meth c ls C hr hq w hl => w_X6_isClass_0 C hr hq  w hl hf)
def f_X6_mayNameType_0 (x0 : Int32) (M : Mem) : Option (Int32 × Mem) :=
  (f_X6_within x0 (0 : Int32) (15 : Int32) M).bind fun (v3, M1) =>
  rtZ v3 M1
set_option maxRecDepth 100000 in
set_option maxHeartbeats 4000000 in
theorem w_X6_mayNameType_0 (C : gC p s m args c RX6 cX6_mayNameType 1 D (xty cI cT cS) 241 (xE cI cT cS) ad) (hr : meth.sig.returnType = (some .boolean)) (hq : meth.locks = false) {Rs : Int32 × Mem} {x0 : Int32} (w : gWd D 241 (xE cI cT cS) ad M s H locs) (hl : lv_has ls 1 [(0, .int x0)]) (hf : f_X6_mayNameType_0  x0 M = some Rs) : W p l e (rmH 1) s m args below meth c H locs 0 0 (MQ below (qI D 241 (xE cI cT cS) ad Rs) args s 0 0 (gA 241 ad)) (F0 m 0 ls []) := by
  unfold f_X6_mayNameType_0 at hf
  have hx := C.1.1
  have hb := C.1.2.1
  have hi := C.2.2.2.1
  refine lv_iload_n hx hb dX6_mayNameType_0 rfl (lv_at hl 0 rfl) ?_
  refine lv_iconst (v := 0) hx hb dX6_mayNameType_1 (by decide) ?_
  refine lv_bipush (v := 15) hx hb dX6_mayNameType_2 (by decide) ?_
  obtain ⟨⟨v3, M1⟩, e2, hf⟩ := bindS hf
  refine g_backI w (g_runS (rest := []) C w (c_X6_within hi  e2) gs_X6_44 md_X6_within rfl (by omega) (by decide) hl.1 rfl (Nat.le_of_ble_eq_true rfl) dX6_mayNameType_4) (fun H locs w => ?_)
  exact g_zret C w hr hq hf dX6_mayNameType_7
abbrev f_X6_mayNameType (x0 : Int32) (M : Mem) : Option (Int32 × Mem) := f_X6_mayNameType_0 x0 M
theorem c_X6_mayNameType (hi : gInj 241 ad) {x0 : Int32} {Rs : Int32 × Mem} (hf : f_X6_mayNameType x0 M = some Rs) : gMet l yX6_mayNameType cX6_mayNameType 1 (some .boolean) 1 D (xty cI cT cS) 241 (xE cI cT cS) ad [.int x0] M (qI D 241 (xE cI cT cS) ad Rs) := gMet_of (by decide) hi (xE_loc cI cT cS) (Nat.le_of_ble_eq_true rfl) (fun p e s m args below meth c ls C hr hq w hl => w_X6_mayNameType_0 C hr hq  w hl hf)
def f_X6_isLine_0 (x0 : Int32) (x1 : Int32) (x2 : Int32) (x3 : Int32) (M : Mem) : Option (Int32 × Mem) :=
  if x0 = 0 then ((f_X6_isField x1 M).bind fun (v4, M2) =>
  if v4 = 0 then (rtZ (0 : Int32) M2) else ((f_X6_isNumber x2 M2).bind fun (v8, M6) =>
  if v8 = 0 then (rtZ (0 : Int32) M6) else (rtZ (1 : Int32) M6))) else if x0 = 1 then ((f_X6_isField x1 M).bind fun (v13, M11) =>
  if v13 = 0 then (rtZ (0 : Int32) M11) else ((f_X6_mayNameType x2 M11).bind fun (v17, M15) =>
  if v17 = 0 then (rtZ (0 : Int32) M15) else ((f_X6_isField x3 M15).bind fun (v21, M19) =>
  if v21 = 0 then (rtZ (0 : Int32) M19) else (rtZ (1 : Int32) M19)))) else if x0 = 2 then ((f_X6_mayNameType x1 M).bind fun (v26, M24) =>
  rtZ v26 M24) else if x0 = 3 then ((f_X6_within x1 (0 : Int32) (6 : Int32) M).bind fun (v30, M28) =>
  rtZ v30 M28) else if x0 = 4 then ((f_X6_within x1 (0 : Int32) (1000 : Int32) M).bind fun (v34, M32) =>
  rtZ v34 M32) else if x0 = 5 then ((f_X6_isNumber x1 M).bind fun (v38, M36) =>
  rtZ v38 M36) else if x0 = 6 then ((f_X6_isField x1 M).bind fun (v42, M40) =>
  if v42 = 0 then (rtZ (0 : Int32) M40) else ((f_X6_mayNameType x2 M40).bind fun (v46, M44) =>
  if v46 = 0 then (rtZ (0 : Int32) M44) else (rtZ (1 : Int32) M44))) else (rtZ (0 : Int32) M)
set_option maxRecDepth 100000 in
set_option maxHeartbeats 4000000 in
theorem w_X6_isLine_0 (C : gC p s m args c RX6 cX6_isLine 4 D (xty cI cT cS) 241 (xE cI cT cS) ad) (hr : meth.sig.returnType = (some .boolean)) (hq : meth.locks = false) {Rs : Int32 × Mem} {x0 : Int32} {x1 : Int32} {x2 : Int32} {x3 : Int32} (w : gWd D 241 (xE cI cT cS) ad M s H locs) (hl : lv_has ls 4 [(0, .int x0), (1, .int x1), (2, .int x2), (3, .int x3)]) (hf : f_X6_isLine_0  x0 x1 x2 x3 M = some Rs) : W p l e (rmH 2) s m args below meth c H locs 0 0 (MQ below (qI D 241 (xE cI cT cS) ad Rs) args s 0 0 (gA 241 ad)) (F0 m 0 ls []) := by
  unfold f_X6_isLine_0 at hf
  have hx := C.1.1
  have hb := C.1.2.1
  have hi := C.2.2.2.1
  refine lv_iload_n hx hb dX6_isLine_0 rfl (lv_at hl 0 rfl) ?_
  by_cases c1 : x0 = 0
  · replace hf := (if_pos c1).symm.trans hf
    refine lv_tableIn (tgt := 44) hx hb dX6_isLine_1 (by rw [c1]; decide) (by rw [c1]; decide) (by rw [c1]; rfl) (by decide) ?_
    refine lv_iload_n hx hb dX6_isLine_44 rfl (lv_at hl 1 rfl) ?_
    obtain ⟨⟨v4, M2⟩, e3, hf⟩ := bindS hf
    refine g_backI w (g_runS (rest := []) C w (c_X6_isField hi  e3) gs_X6_89 md_X6_isField rfl (by omega) (by decide) hl.1 rfl (Nat.le_of_ble_eq_true rfl) dX6_isLine_45) (fun H locs w => ?_)
    refine lv_if_eq (tgt := 62) hx hb dX6_isLine_48 (by decide) (fun c5 => ?_) (fun c5 => ?_)
    · replace hf := (if_pos c5).symm.trans hf
      refine lv_iconst (v := 0) hx hb dX6_isLine_62 (by decide) ?_
      exact g_zret C w hr hq hf dX6_isLine_63
    · replace hf := (if_neg c5).symm.trans hf
      refine lv_iload_n hx hb dX6_isLine_51 rfl (lv_at hl 2 rfl) ?_
      obtain ⟨⟨v8, M6⟩, e7, hf⟩ := bindS hf
      refine g_backI w (g_runS (rest := []) C w (c_X6_isNumber hi  e7) gs_X6_92 md_X6_isNumber rfl (by omega) (by decide) hl.1 rfl (Nat.le_of_ble_eq_true rfl) dX6_isLine_52) (fun H locs w => ?_)
      refine lv_if_eq (tgt := 62) hx hb dX6_isLine_55 (by decide) (fun c9 => ?_) (fun c9 => ?_)
      · replace hf := (if_pos c9).symm.trans hf
        refine lv_iconst (v := 0) hx hb dX6_isLine_62 (by decide) ?_
        exact g_zret C w hr hq hf dX6_isLine_63
      · replace hf := (if_neg c9).symm.trans hf
        refine lv_iconst (v := 1) hx hb dX6_isLine_58 (by decide) ?_
        refine lv_goto (tgt := 63) hx hb dX6_isLine_59 (by decide) ?_
        exact g_zret C w hr hq hf dX6_isLine_63
  · replace hf := (if_neg c1).symm.trans hf
    by_cases c10 : x0 = 1
    · replace hf := (if_pos c10).symm.trans hf
      refine lv_tableIn (tgt := 64) hx hb dX6_isLine_1 (by rw [c10]; decide) (by rw [c10]; decide) (by rw [c10]; rfl) (by decide) ?_
      refine lv_iload_n hx hb dX6_isLine_64 rfl (lv_at hl 1 rfl) ?_
      obtain ⟨⟨v13, M11⟩, e12, hf⟩ := bindS hf
      refine g_backI w (g_runS (rest := []) C w (c_X6_isField hi  e12) gs_X6_89 md_X6_isField rfl (by omega) (by decide) hl.1 rfl (Nat.le_of_ble_eq_true rfl) dX6_isLine_65) (fun H locs w => ?_)
      refine lv_if_eq (tgt := 89) hx hb dX6_isLine_68 (by decide) (fun c14 => ?_) (fun c14 => ?_)
      · replace hf := (if_pos c14).symm.trans hf
        refine lv_iconst (v := 0) hx hb dX6_isLine_89 (by decide) ?_
        exact g_zret C w hr hq hf dX6_isLine_90
      · replace hf := (if_neg c14).symm.trans hf
        refine lv_iload_n hx hb dX6_isLine_71 rfl (lv_at hl 2 rfl) ?_
        obtain ⟨⟨v17, M15⟩, e16, hf⟩ := bindS hf
        refine g_backI w (g_runS (rest := []) C w (c_X6_mayNameType hi  e16) gs_X6_203 md_X6_mayNameType rfl (by omega) (by decide) hl.1 rfl (Nat.le_of_ble_eq_true rfl) dX6_isLine_72) (fun H locs w => ?_)
        refine lv_if_eq (tgt := 89) hx hb dX6_isLine_75 (by decide) (fun c18 => ?_) (fun c18 => ?_)
        · replace hf := (if_pos c18).symm.trans hf
          refine lv_iconst (v := 0) hx hb dX6_isLine_89 (by decide) ?_
          exact g_zret C w hr hq hf dX6_isLine_90
        · replace hf := (if_neg c18).symm.trans hf
          refine lv_iload_n hx hb dX6_isLine_78 rfl (lv_at hl 3 rfl) ?_
          obtain ⟨⟨v21, M19⟩, e20, hf⟩ := bindS hf
          refine g_backI w (g_runS (rest := []) C w (c_X6_isField hi  e20) gs_X6_89 md_X6_isField rfl (by omega) (by decide) hl.1 rfl (Nat.le_of_ble_eq_true rfl) dX6_isLine_79) (fun H locs w => ?_)
          refine lv_if_eq (tgt := 89) hx hb dX6_isLine_82 (by decide) (fun c22 => ?_) (fun c22 => ?_)
          · replace hf := (if_pos c22).symm.trans hf
            refine lv_iconst (v := 0) hx hb dX6_isLine_89 (by decide) ?_
            exact g_zret C w hr hq hf dX6_isLine_90
          · replace hf := (if_neg c22).symm.trans hf
            refine lv_iconst (v := 1) hx hb dX6_isLine_85 (by decide) ?_
            refine lv_goto (tgt := 90) hx hb dX6_isLine_86 (by decide) ?_
            exact g_zret C w hr hq hf dX6_isLine_90
    · replace hf := (if_neg c10).symm.trans hf
      by_cases c23 : x0 = 2
      · replace hf := (if_pos c23).symm.trans hf
        refine lv_tableIn (tgt := 91) hx hb dX6_isLine_1 (by rw [c23]; decide) (by rw [c23]; decide) (by rw [c23]; rfl) (by decide) ?_
        refine lv_iload_n hx hb dX6_isLine_91 rfl (lv_at hl 1 rfl) ?_
        obtain ⟨⟨v26, M24⟩, e25, hf⟩ := bindS hf
        refine g_backI w (g_runS (rest := []) C w (c_X6_mayNameType hi  e25) gs_X6_203 md_X6_mayNameType rfl (by omega) (by decide) hl.1 rfl (Nat.le_of_ble_eq_true rfl) dX6_isLine_92) (fun H locs w => ?_)
        exact g_zret C w hr hq hf dX6_isLine_95
      · replace hf := (if_neg c23).symm.trans hf
        by_cases c27 : x0 = 3
        · replace hf := (if_pos c27).symm.trans hf
          refine lv_tableIn (tgt := 96) hx hb dX6_isLine_1 (by rw [c27]; decide) (by rw [c27]; decide) (by rw [c27]; rfl) (by decide) ?_
          refine lv_iload_n hx hb dX6_isLine_96 rfl (lv_at hl 1 rfl) ?_
          refine lv_iconst (v := 0) hx hb dX6_isLine_97 (by decide) ?_
          refine lv_bipush (v := 6) hx hb dX6_isLine_98 (by decide) ?_
          obtain ⟨⟨v30, M28⟩, e29, hf⟩ := bindS hf
          refine g_backI w (g_runS (rest := []) C w (c_X6_within hi  e29) gs_X6_44 md_X6_within rfl (by omega) (by decide) hl.1 rfl (Nat.le_of_ble_eq_true rfl) dX6_isLine_100) (fun H locs w => ?_)
          exact g_zret C w hr hq hf dX6_isLine_103
        · replace hf := (if_neg c27).symm.trans hf
          by_cases c31 : x0 = 4
          · replace hf := (if_pos c31).symm.trans hf
            refine lv_tableIn (tgt := 104) hx hb dX6_isLine_1 (by rw [c31]; decide) (by rw [c31]; decide) (by rw [c31]; rfl) (by decide) ?_
            refine lv_iload_n hx hb dX6_isLine_104 rfl (lv_at hl 1 rfl) ?_
            refine lv_iconst (v := 0) hx hb dX6_isLine_105 (by decide) ?_
            refine lv_sipush (v := 1000) hx hb dX6_isLine_106 (by decide) ?_
            obtain ⟨⟨v34, M32⟩, e33, hf⟩ := bindS hf
            refine g_backI w (g_runS (rest := []) C w (c_X6_within hi  e33) gs_X6_44 md_X6_within rfl (by omega) (by decide) hl.1 rfl (Nat.le_of_ble_eq_true rfl) dX6_isLine_109) (fun H locs w => ?_)
            exact g_zret C w hr hq hf dX6_isLine_112
          · replace hf := (if_neg c31).symm.trans hf
            by_cases c35 : x0 = 5
            · replace hf := (if_pos c35).symm.trans hf
              refine lv_tableIn (tgt := 113) hx hb dX6_isLine_1 (by rw [c35]; decide) (by rw [c35]; decide) (by rw [c35]; rfl) (by decide) ?_
              refine lv_iload_n hx hb dX6_isLine_113 rfl (lv_at hl 1 rfl) ?_
              obtain ⟨⟨v38, M36⟩, e37, hf⟩ := bindS hf
              refine g_backI w (g_runS (rest := []) C w (c_X6_isNumber hi  e37) gs_X6_92 md_X6_isNumber rfl (by omega) (by decide) hl.1 rfl (Nat.le_of_ble_eq_true rfl) dX6_isLine_114) (fun H locs w => ?_)
              exact g_zret C w hr hq hf dX6_isLine_117
            · replace hf := (if_neg c35).symm.trans hf
              by_cases c39 : x0 = 6
              · replace hf := (if_pos c39).symm.trans hf
                refine lv_tableIn (tgt := 118) hx hb dX6_isLine_1 (by rw [c39]; decide) (by rw [c39]; decide) (by rw [c39]; rfl) (by decide) ?_
                refine lv_iload_n hx hb dX6_isLine_118 rfl (lv_at hl 1 rfl) ?_
                obtain ⟨⟨v42, M40⟩, e41, hf⟩ := bindS hf
                refine g_backI w (g_runS (rest := []) C w (c_X6_isField hi  e41) gs_X6_89 md_X6_isField rfl (by omega) (by decide) hl.1 rfl (Nat.le_of_ble_eq_true rfl) dX6_isLine_119) (fun H locs w => ?_)
                refine lv_if_eq (tgt := 136) hx hb dX6_isLine_122 (by decide) (fun c43 => ?_) (fun c43 => ?_)
                · replace hf := (if_pos c43).symm.trans hf
                  refine lv_iconst (v := 0) hx hb dX6_isLine_136 (by decide) ?_
                  exact g_zret C w hr hq hf dX6_isLine_137
                · replace hf := (if_neg c43).symm.trans hf
                  refine lv_iload_n hx hb dX6_isLine_125 rfl (lv_at hl 2 rfl) ?_
                  obtain ⟨⟨v46, M44⟩, e45, hf⟩ := bindS hf
                  refine g_backI w (g_runS (rest := []) C w (c_X6_mayNameType hi  e45) gs_X6_203 md_X6_mayNameType rfl (by omega) (by decide) hl.1 rfl (Nat.le_of_ble_eq_true rfl) dX6_isLine_126) (fun H locs w => ?_)
                  refine lv_if_eq (tgt := 136) hx hb dX6_isLine_129 (by decide) (fun c47 => ?_) (fun c47 => ?_)
                  · replace hf := (if_pos c47).symm.trans hf
                    refine lv_iconst (v := 0) hx hb dX6_isLine_136 (by decide) ?_
                    exact g_zret C w hr hq hf dX6_isLine_137
                  · replace hf := (if_neg c47).symm.trans hf
                    refine lv_iconst (v := 1) hx hb dX6_isLine_132 (by decide) ?_
                    refine lv_goto (tgt := 137) hx hb dX6_isLine_133 (by decide) ?_
                    exact g_zret C w hr hq hf dX6_isLine_137
              · replace hf := (if_neg c39).symm.trans hf
                refine lv_tableOut (tgt := 138) hx hb dX6_isLine_1 (by have := lv_neT c1 (show (0 : Int32).toInt = 0 from rfl); have := lv_neT c10 (show (1 : Int32).toInt = 1 from rfl); have := lv_neT c23 (show (2 : Int32).toInt = 2 from rfl); have := lv_neT c27 (show (3 : Int32).toInt = 3 from rfl); have := lv_neT c31 (show (4 : Int32).toInt = 4 from rfl); have := lv_neT c35 (show (5 : Int32).toInt = 5 from rfl); have := lv_neT c39 (show (6 : Int32).toInt = 6 from rfl); omega) (by decide) ?_
                refine lv_iconst (v := 0) hx hb dX6_isLine_138 (by decide) ?_
                exact g_zret C w hr hq hf dX6_isLine_139
abbrev f_X6_isLine (x0 : Int32) (x1 : Int32) (x2 : Int32) (x3 : Int32) (M : Mem) : Option (Int32 × Mem) := f_X6_isLine_0 x0 x1 x2 x3 M
theorem c_X6_isLine (hi : gInj 241 ad) {x0 : Int32} {x1 : Int32} {x2 : Int32} {x3 : Int32} {Rs : Int32 × Mem} (hf : f_X6_isLine x0 x1 x2 x3 M = some Rs) : gMet l yX6_isLine cX6_isLine 4 (some .boolean) 2 D (xty cI cT cS) 241 (xE cI cT cS) ad [.int x0, .int x1, .int x2, .int x3] M (qI D 241 (xE cI cT cS) ad Rs) := gMet_of (by decide) hi (xE_loc cI cT cS) (Nat.le_of_ble_eq_true rfl) (fun p e s m args below meth c ls C hr hq w hl => w_X6_isLine_0 C hr hq  w hl hf)
end GENX
