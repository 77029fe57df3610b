/-! The small constructors -/
theorem ko_X2 : Cond.methodLink RX2 3 objectInit ∈ gW := gw_in 137 (by decide +kernel) rfl
theorem df_X2 : ∀ j, j < 3 → defaultValue (tyX2 j) = vp_V [.null, .int 0, .int 0] j := by
  intro j hj
  rcases (show j = 0 ∨ j = 1 ∨ j = 2 by omega) with rfl | rfl | rfl <;> rfl
def wX2 (cI : ClassId) (a : Nat → Nat) : va_W := [((a 0), .inr (4, [.ref (a 1), .int 0, .int 0])), ((a 1), .inl (cI, 16, .inl (fun _ => 0)))]
set_option maxHeartbeats 4000000 in
set_option maxRecDepth 100000 in
theorem c_X2_init {l : Launch} {D : va_G} {cI : ClassId} {tl : List (ClassId × FieldType)} {h0 sz : Nat} : kMet l yX2_init cX2_init 1 { frames := 1, cells := 1, slots := 16, locals := 12 } D ((cI, .int) :: tl) h0 (.inr (4, [.null, .int 0, .int 0])) sz (wX2 cI) := by
  refine kMet_of (by decide) rfl (Nat.le_of_ble_eq_true rfl) (fun p e s m args below meth c ls A C w hl => ?_)
  have hx := C.1.1
  have hb := C.1.2.1
  refine lv_aload_n hx hb dX2_init_0 rfl (lv_at hl 0 rfl) ?_
  refine k_obj C hl.1 ko_X2 dX2_init_1 ⟨Nat.le_of_ble_eq_true rfl, Nat.le_of_ble_eq_true rfl⟩ ?_
  refine lv_aload_n hx hb dX2_init_4 rfl (lv_at hl 0 rfl) ?_
  refine lv_bipush (v := 16) hx hb dX2_init_5 (by decide) ?_
  refine k_newi (N' := 16) C w (by decide) (by decide) (by decide) (Nat.le_of_ble_eq_true rfl) (Nat.le_of_ble_eq_true rfl) dX2_init_7 (fun q7 H w => ?_)
  have w : kWd D A [(h0, .inr (4, [.null, .int 0, .int 0])), (q7, .inl (cI, 16, .inl (fun _ => 0)))] s H _ := w
  refine W.widen (k := 1) (n := 16) (Nat.le_of_ble_eq_true rfl) (Nat.le_of_ble_eq_true rfl) ?_
  refine k_putF (v := .ref q7) C w ginX2 tyX2 tyX2_ok nmX2 0 rfl rfl 0 (by decide) kf_X2_9 rfl rfl rfl rfl (Nat.le_of_ble_eq_true rfl) dX2_init_9 (fun H locs w => ?_)
  have w : kWd D A [(h0, .inr (4, [.ref q7, .int 0, .int 0])), (q7, .inl (cI, 16, .inl (fun _ => 0)))] s H locs := w
  exact k_ret (wf := wX2 cI) (a := fun k => ([h0, q7] : List Nat).getD k 0) C w rfl dX2_init_12
theorem ko_X1 : Cond.methodLink RX1 3 objectInit ∈ gW := gw_in 71 (by decide +kernel) rfl
theorem df_X1 : ∀ j, j < 2 → defaultValue (tyX1 j) = vp_V [.null, .null] j := by
  intro j hj
  rcases (show j = 0 ∨ j = 1 by omega) with rfl | rfl <;> rfl
def wX1 (cI : ClassId) (a : Nat → Nat) : va_W := [((a 0), .inr (3, [.ref (a 1), .ref (a 2)])), ((a 1), .inl (cI, 16, .inl (fun _ => 0))), ((a 2), .inl (cI, 80, .inl (fun _ => 0)))]
set_option maxHeartbeats 4000000 in
set_option maxRecDepth 100000 in
theorem c_X1_init {l : Launch} {D : va_G} {cI : ClassId} {tl : List (ClassId × FieldType)} {h0 sz : Nat} : kMet l yX1_init cX1_init 1 { frames := 1, cells := 2, slots := 96, locals := 12 } D ((cI, .int) :: tl) h0 (.inr (3, [.null, .null])) sz (wX1 cI) := by
  refine kMet_of (by decide) rfl (Nat.le_of_ble_eq_true rfl) (fun p e s m args below meth c ls A C w hl => ?_)
  have hx := C.1.1
  have hb := C.1.2.1
  refine lv_aload_n hx hb dX1_init_0 rfl (lv_at hl 0 rfl) ?_
  refine k_obj C hl.1 ko_X1 dX1_init_1 ⟨Nat.le_of_ble_eq_true rfl, Nat.le_of_ble_eq_true rfl⟩ ?_
  refine lv_aload_n hx hb dX1_init_4 rfl (lv_at hl 0 rfl) ?_
  refine lv_bipush (v := 16) hx hb dX1_init_5 (by decide) ?_
  refine k_newi (N' := 16) C w (by decide) (by decide) (by decide) (Nat.le_of_ble_eq_true rfl) (Nat.le_of_ble_eq_true rfl) dX1_init_7 (fun q7 H w => ?_)
  have w : kWd D A [(h0, .inr (3, [.null, .null])), (q7, .inl (cI, 16, .inl (fun _ => 0)))] s H _ := w
  refine W.widen (k := 1) (n := 16) (Nat.le_of_ble_eq_true rfl) (Nat.le_of_ble_eq_true rfl) ?_
  refine k_putF (v := .ref q7) C w ginX1 tyX1 tyX1_ok nmX1 0 rfl rfl 0 (by decide) kf_X1_9 rfl rfl rfl rfl (Nat.le_of_ble_eq_true rfl) dX1_init_9 (fun H locs w => ?_)
  have w : kWd D A [(h0, .inr (3, [.ref q7, .null])), (q7, .inl (cI, 16, .inl (fun _ => 0)))] s H locs := w
  refine lv_aload_n hx hb dX1_init_12 rfl (lv_at hl 0 rfl) ?_
  refine lv_bipush (v := 80) hx hb dX1_init_13 (by decide) ?_
  refine k_newi (N' := 80) C w (by decide) (by decide) (by decide) (Nat.le_of_ble_eq_true rfl) (Nat.le_of_ble_eq_true rfl) dX1_init_15 (fun q15 H w => ?_)
  have w : kWd D A [(h0, .inr (3, [.ref q7, .null])), (q7, .inl (cI, 16, .inl (fun _ => 0))), (q15, .inl (cI, 80, .inl (fun _ => 0)))] s H _ := w
  refine W.widen (k := 2) (n := 96) (Nat.le_of_ble_eq_true rfl) (Nat.le_of_ble_eq_true rfl) ?_
  refine k_putF (v := .ref q15) C w ginX1 tyX1 tyX1_ok nmX1 0 rfl rfl 1 (by decide) kf_X1_15 rfl rfl rfl rfl (Nat.le_of_ble_eq_true rfl) dX1_init_17 (fun H locs w => ?_)
  have w : kWd D A [(h0, .inr (3, [.ref q7, .ref q15])), (q7, .inl (cI, 16, .inl (fun _ => 0))), (q15, .inl (cI, 80, .inl (fun _ => 0)))] s H locs := w
  exact k_ret (wf := wX1 cI) (a := fun k => ([h0, q7, q15] : List Nat).getD k 0) C w rfl dX1_init_20
theorem ko_X5 : Cond.methodLink RX5 3 objectInit ∈ gW := gw_in 86 (by decide +kernel) rfl
theorem df_X5 : ∀ j, j < 4 → defaultValue (tyX5 j) = vp_V [.null, .null, .null, .int 0] j := by
  intro j hj
  rcases (show j = 0 ∨ j = 1 ∨ j = 2 ∨ j = 3 by omega) with rfl | rfl | rfl | rfl <;> rfl
def wX5 (cI : ClassId) (a : Nat → Nat) : va_W := [((a 0), .inr (7, [.ref (a 1), .ref (a 2), .ref (a 3), .int 0])), ((a 1), .inl (cI, 512, .inl (fun _ => 0))), ((a 2), .inl (cI, 512, .inl (fun _ => 0))), ((a 3), .inl (cI, 512, .inl (fun _ => 0)))]
set_option maxHeartbeats 4000000 in
set_option maxRecDepth 100000 in
theorem c_X5_init {l : Launch} {D : va_G} {cI : ClassId} {tl : List (ClassId × FieldType)} {h0 sz : Nat} : kMet l yX5_init cX5_init 1 { frames := 1, cells := 3, slots := 1536, locals := 12 } D ((cI, .int) :: tl) h0 (.inr (7, [.null, .null, .null, .int 0])) sz (wX5 cI) := by
  refine kMet_of (by decide) rfl (Nat.le_of_ble_eq_true rfl) (fun p e s m args below meth c ls A C w hl => ?_)
  have hx := C.1.1
  have hb := C.1.2.1
  refine lv_aload_n hx hb dX5_init_0 rfl (lv_at hl 0 rfl) ?_
  refine k_obj C hl.1 ko_X5 dX5_init_1 ⟨Nat.le_of_ble_eq_true rfl, Nat.le_of_ble_eq_true rfl⟩ ?_
  refine lv_aload_n hx hb dX5_init_4 rfl (lv_at hl 0 rfl) ?_
  refine lv_sipush (v := 512) hx hb dX5_init_5 (by decide) ?_
  refine k_newi (N' := 512) C w (by decide) (by decide) (by decide) (Nat.le_of_ble_eq_true rfl) (Nat.le_of_ble_eq_true rfl) dX5_init_8 (fun q8 H w => ?_)
  have w : kWd D A [(h0, .inr (7, [.null, .null, .null, .int 0])), (q8, .inl (cI, 512, .inl (fun _ => 0)))] s H _ := w
  refine W.widen (k := 1) (n := 512) (Nat.le_of_ble_eq_true rfl) (Nat.le_of_ble_eq_true rfl) ?_
  refine k_putF (v := .ref q8) C w ginX5 tyX5 tyX5_ok nmX5 0 rfl rfl 0 (by decide) kf_X5_9 rfl rfl rfl rfl (Nat.le_of_ble_eq_true rfl) dX5_init_10 (fun H locs w => ?_)
  have w : kWd D A [(h0, .inr (7, [.ref q8, .null, .null, .int 0])), (q8, .inl (cI, 512, .inl (fun _ => 0)))] s H locs := w
  refine lv_aload_n hx hb dX5_init_13 rfl (lv_at hl 0 rfl) ?_
  refine lv_sipush (v := 512) hx hb dX5_init_14 (by decide) ?_
  refine k_newi (N' := 512) C w (by decide) (by decide) (by decide) (Nat.le_of_ble_eq_true rfl) (Nat.le_of_ble_eq_true rfl) dX5_init_17 (fun q17 H w => ?_)
  have w : kWd D A [(h0, .inr (7, [.ref q8, .null, .null, .int 0])), (q8, .inl (cI, 512, .inl (fun _ => 0))), (q17, .inl (cI, 512, .inl (fun _ => 0)))] s H _ := w
  refine W.widen (k := 2) (n := 1024) (Nat.le_of_ble_eq_true rfl) (Nat.le_of_ble_eq_true rfl) ?_
  refine k_putF (v := .ref q17) C w ginX5 tyX5 tyX5_ok nmX5 0 rfl rfl 1 (by decide) kf_X5_15 rfl rfl rfl rfl (Nat.le_of_ble_eq_true rfl) dX5_init_19 (fun H locs w => ?_)
  have w : kWd D A [(h0, .inr (7, [.ref q8, .ref q17, .null, .int 0])), (q8, .inl (cI, 512, .inl (fun _ => 0))), (q17, .inl (cI, 512, .inl (fun _ => 0)))] s H locs := w
  refine lv_aload_n hx hb dX5_init_22 rfl (lv_at hl 0 rfl) ?_
  refine lv_sipush (v := 512) hx hb dX5_init_23 (by decide) ?_
  refine k_newi (N' := 512) C w (by decide) (by decide) (by decide) (Nat.le_of_ble_eq_true rfl) (Nat.le_of_ble_eq_true rfl) dX5_init_26 (fun q26 H w => ?_)
  have w : kWd D A [(h0, .inr (7, [.ref q8, .ref q17, .null, .int 0])), (q8, .inl (cI, 512, .inl (fun _ => 0))), (q17, .inl (cI, 512, .inl (fun _ => 0))), (q26, .inl (cI, 512, .inl (fun _ => 0)))] s H _ := w
  refine W.widen (k := 3) (n := 1536) (Nat.le_of_ble_eq_true rfl) (Nat.le_of_ble_eq_true rfl) ?_
  refine k_putF (v := .ref q26) C w ginX5 tyX5 tyX5_ok nmX5 0 rfl rfl 2 (by decide) kf_X5_18 rfl rfl rfl rfl (Nat.le_of_ble_eq_true rfl) dX5_init_28 (fun H locs w => ?_)
  have w : kWd D A [(h0, .inr (7, [.ref q8, .ref q17, .ref q26, .int 0])), (q8, .inl (cI, 512, .inl (fun _ => 0))), (q17, .inl (cI, 512, .inl (fun _ => 0))), (q26, .inl (cI, 512, .inl (fun _ => 0)))] s H locs := w
  exact k_ret (wf := wX5 cI) (a := fun k => ([h0, q8, q17, q26] : List Nat).getD k 0) C w rfl dX5_init_31
theorem ko_X0 : Cond.methodLink RX0 3 objectInit ∈ gW := gw_in 109 (by decide +kernel) rfl
theorem df_X0 : ∀ j, j < 4 → defaultValue (tyX0 j) = vp_V [.null, .null, .int 0, .int 0] j := by
  intro j hj
  rcases (show j = 0 ∨ j = 1 ∨ j = 2 ∨ j = 3 by omega) with rfl | rfl | rfl | rfl <;> rfl
def wX0 (cI : ClassId) (a : Nat → Nat) : va_W := [((a 0), .inr (2, [.ref (a 1), .ref (a 2), .int 0, .int 0])), ((a 1), .inl (cI, 600, .inl (fun _ => 0))), ((a 2), .inl (cI, 100, .inl (fun _ => 0)))]
set_option maxHeartbeats 4000000 in
set_option maxRecDepth 100000 in
theorem c_X0_init {l : Launch} {D : va_G} {cI : ClassId} {tl : List (ClassId × FieldType)} {h0 sz : Nat} : kMet l yX0_init cX0_init 1 { frames := 1, cells := 2, slots := 700, locals := 12 } D ((cI, .int) :: tl) h0 (.inr (2, [.null, .null, .int 0, .int 0])) sz (wX0 cI) := by
  refine kMet_of (by decide) rfl (Nat.le_of_ble_eq_true rfl) (fun p e s m args below meth c ls A C w hl => ?_)
  have hx := C.1.1
  have hb := C.1.2.1
  refine lv_aload_n hx hb dX0_init_0 rfl (lv_at hl 0 rfl) ?_
  refine k_obj C hl.1 ko_X0 dX0_init_1 ⟨Nat.le_of_ble_eq_true rfl, Nat.le_of_ble_eq_true rfl⟩ ?_
  refine lv_aload_n hx hb dX0_init_4 rfl (lv_at hl 0 rfl) ?_
  refine lv_sipush (v := 600) hx hb dX0_init_5 (by decide) ?_
  refine k_newi (N' := 600) C w (by decide) (by decide) (by decide) (Nat.le_of_ble_eq_true rfl) (Nat.le_of_ble_eq_true rfl) dX0_init_8 (fun q8 H w => ?_)
  have w : kWd D A [(h0, .inr (2, [.null, .null, .int 0, .int 0])), (q8, .inl (cI, 600, .inl (fun _ => 0)))] s H _ := w
  refine W.widen (k := 1) (n := 600) (Nat.le_of_ble_eq_true rfl) (Nat.le_of_ble_eq_true rfl) ?_
  refine k_putF (v := .ref q8) C w ginX0 tyX0 tyX0_ok nmX0 0 rfl rfl 0 (by decide) kf_X0_11 rfl rfl rfl rfl (Nat.le_of_ble_eq_true rfl) dX0_init_10 (fun H locs w => ?_)
  have w : kWd D A [(h0, .inr (2, [.ref q8, .null, .int 0, .int 0])), (q8, .inl (cI, 600, .inl (fun _ => 0)))] s H locs := w
  refine lv_aload_n hx hb dX0_init_13 rfl (lv_at hl 0 rfl) ?_
  refine lv_bipush (v := 100) hx hb dX0_init_14 (by decide) ?_
  refine k_newi (N' := 100) C w (by decide) (by decide) (by decide) (Nat.le_of_ble_eq_true rfl) (Nat.le_of_ble_eq_true rfl) dX0_init_16 (fun q16 H w => ?_)
  have w : kWd D A [(h0, .inr (2, [.ref q8, .null, .int 0, .int 0])), (q8, .inl (cI, 600, .inl (fun _ => 0))), (q16, .inl (cI, 100, .inl (fun _ => 0)))] s H _ := w
  refine W.widen (k := 2) (n := 700) (Nat.le_of_ble_eq_true rfl) (Nat.le_of_ble_eq_true rfl) ?_
  refine k_putF (v := .ref q16) C w ginX0 tyX0 tyX0_ok nmX0 0 rfl rfl 1 (by decide) kf_X0_15 rfl rfl rfl rfl (Nat.le_of_ble_eq_true rfl) dX0_init_18 (fun H locs w => ?_)
  have w : kWd D A [(h0, .inr (2, [.ref q8, .ref q16, .int 0, .int 0])), (q8, .inl (cI, 600, .inl (fun _ => 0))), (q16, .inl (cI, 100, .inl (fun _ => 0)))] s H locs := w
  exact k_ret (wf := wX0 cI) (a := fun k => ([h0, q8, q16] : List Nat).getD k 0) C w rfl dX0_init_21
theorem ko_X3 : Cond.methodLink RX3 3 objectInit ∈ gW := gw_in 207 (by decide +kernel) rfl
theorem kz_X3_9 : Cond.classLink RX3 9 RX1 ∈ gW := gw_in 208 (by decide +kernel) rfl
theorem kb_X1 : Cond.instantiable RX1 2 ∈ gW := gw_in 67 (by decide +kernel) rfl
theorem kc_X1_init : Cond.code yX1_init cX1_init 1 none ∈ gW := gw_in 70 (by decide +kernel) rfl
theorem kn_X1_init : Cond.instanceMethod yX1_init ∈ gW := gw_in 69 (by decide +kernel) rfl
theorem kf_X3_22 : Cond.fieldLink RX3 22 (TX3 2).1 (TX3 2).2.1 (TX3 2).2.2.1 ∈ gW := gw_in 214 (by decide +kernel) rfl
theorem df_X3 : ∀ j, j < 4 → defaultValue (tyX3 j) = vp_V [.null, .null, .int 0, .int 0] j := by
  intro j hj
  rcases (show j = 0 ∨ j = 1 ∨ j = 2 ∨ j = 3 by omega) with rfl | rfl | rfl | rfl <;> rfl
def wX3 (cI : ClassId) (a : Nat → Nat) : va_W := [((a 0), .inr (5, [.ref (a 1), .ref (a 4), .int 1000, .int (-1)])), ((a 1), .inr (3, [.ref (a 2), .ref (a 3)])), ((a 2), .inl (cI, 16, .inl (fun _ => 0))), ((a 3), .inl (cI, 80, .inl (fun _ => 0))), ((a 4), .inl (cI, 16, .inl (fun _ => 0)))]
set_option maxHeartbeats 4000000 in
set_option maxRecDepth 100000 in
theorem c_X3_init {l : Launch} {D : va_G} {cI : ClassId} {tl : List (ClassId × FieldType)} {h0 sz : Nat} : kMet l yX3_init cX3_init 1 { frames := 2, cells := 4, slots := 114, locals := 32 } D ((cI, .int) :: tl) h0 (.inr (5, [.null, .null, .int 0, .int 0])) sz (wX3 cI) := by
  refine kMet_of (by decide) rfl (Nat.le_of_ble_eq_true rfl) (fun p e s m args below meth c ls A C w hl => ?_)
  have hx := C.1.1
  have hb := C.1.2.1
  refine lv_aload_n hx hb dX3_init_0 rfl (lv_at hl 0 rfl) ?_
  refine k_obj C hl.1 ko_X3 dX3_init_1 ⟨Nat.le_of_ble_eq_true rfl, Nat.le_of_ble_eq_true rfl⟩ ?_
  refine lv_aload_n hx hb dX3_init_4 rfl (lv_at hl 0 rfl) ?_
  refine k_new (ci := 3) C w ginX1 tyX1 tyX1_ok kz_X3_9 kb_X1 ki_X1 rfl df_X1 (Nat.le_of_ble_eq_true rfl) (Nat.le_of_ble_eq_true rfl) dX3_init_5 (fun q5 H w => ?_)
  have w : kWd D A [(h0, .inr (5, [.null, .null, .int 0, .int 0])), (q5, .inr (3, [.null, .null]))] s H _ := w
  refine W.widen (k := 1) (n := 2) (Nat.le_of_ble_eq_true rfl) (Nat.le_of_ble_eq_true rfl) ?_
  refine lv_dup hx hb dX3_init_8 rfl ?_
  refine k_call (wr := [(h0, .inr (5, [.null, .null, .int 0, .int 0]))]) (rest := [.ref q5, .ref h0]) C w (c_X1_init) (List.mem_of_getElem? (i := 6) rfl) rfl kc_X1_init ki_X1 kn_X1_init ⟨by decide +kernel, by decide +kernel, by decide +kernel⟩ ⟨Nat.le_of_ble_eq_true rfl, Nat.le_of_ble_eq_true rfl⟩ hl.1 (Nat.le_of_ble_eq_true rfl) dX3_init_9 ⟨Nat.le_of_ble_eq_true rfl, Nat.le_of_ble_eq_true rfl⟩ (fun a9 H locs ha9 w9 => ?_)
  subst ha9
  have w : kWd D A [(h0, .inr (5, [.null, .null, .int 0, .int 0])), ((a9 0), .inr (3, [.ref (a9 1), .ref (a9 2)])), ((a9 1), .inl (cI, 16, .inl (fun _ => 0))), ((a9 2), .inl (cI, 80, .inl (fun _ => 0)))] s H locs := w9
  refine W.widen (k := 3) (n := 98) (Nat.le_of_ble_eq_true rfl) (Nat.le_of_ble_eq_true rfl) ?_
  refine k_putF (v := .ref (a9 0)) C w ginX3 tyX3 tyX3_ok nmX3 0 rfl rfl 0 (by decide) kf_X3_12 rfl rfl rfl rfl (Nat.le_of_ble_eq_true rfl) dX3_init_12 (fun H locs w => ?_)
  have w : kWd D A [(h0, .inr (5, [.ref (a9 0), .null, .int 0, .int 0])), ((a9 0), .inr (3, [.ref (a9 1), .ref (a9 2)])), ((a9 1), .inl (cI, 16, .inl (fun _ => 0))), ((a9 2), .inl (cI, 80, .inl (fun _ => 0)))] s H locs := w
  refine lv_aload_n hx hb dX3_init_15 rfl (lv_at hl 0 rfl) ?_
  refine lv_bipush (v := 16) hx hb dX3_init_16 (by decide) ?_
  refine k_newi (N' := 16) C w (by decide) (by decide) (by decide) (Nat.le_of_ble_eq_true rfl) (Nat.le_of_ble_eq_true rfl) dX3_init_18 (fun q18 H w => ?_)
  have w : kWd D A [(h0, .inr (5, [.ref (a9 0), .null, .int 0, .int 0])), ((a9 0), .inr (3, [.ref (a9 1), .ref (a9 2)])), ((a9 1), .inl (cI, 16, .inl (fun _ => 0))), ((a9 2), .inl (cI, 80, .inl (fun _ => 0))), (q18, .inl (cI, 16, .inl (fun _ => 0)))] s H _ := w
  refine W.widen (k := 4) (n := 114) (Nat.le_of_ble_eq_true rfl) (Nat.le_of_ble_eq_true rfl) ?_
  refine k_putF (v := .ref q18) C w ginX3 tyX3 tyX3_ok nmX3 0 rfl rfl 1 (by decide) kf_X3_18 rfl rfl rfl rfl (Nat.le_of_ble_eq_true rfl) dX3_init_20 (fun H locs w => ?_)
  have w : kWd D A [(h0, .inr (5, [.ref (a9 0), .ref q18, .int 0, .int 0])), ((a9 0), .inr (3, [.ref (a9 1), .ref (a9 2)])), ((a9 1), .inl (cI, 16, .inl (fun _ => 0))), ((a9 2), .inl (cI, 80, .inl (fun _ => 0))), (q18, .inl (cI, 16, .inl (fun _ => 0)))] s H locs := w
  refine lv_aload_n hx hb dX3_init_23 rfl (lv_at hl 0 rfl) ?_
  refine lv_sipush (v := 1000) hx hb dX3_init_24 (by decide) ?_
  refine k_put (v := .int 1000) C w ginX3 tyX3 tyX3_ok nmX3 0 rfl rfl 2 (by decide) kf_X3_22 rfl rfl rfl (Nat.le_of_ble_eq_true rfl) dX3_init_27 (fun H locs w => ?_)
  have w : kWd D A [(h0, .inr (5, [.ref (a9 0), .ref q18, .int 1000, .int 0])), ((a9 0), .inr (3, [.ref (a9 1), .ref (a9 2)])), ((a9 1), .inl (cI, 16, .inl (fun _ => 0))), ((a9 2), .inl (cI, 80, .inl (fun _ => 0))), (q18, .inl (cI, 16, .inl (fun _ => 0)))] s H locs := w
  refine lv_aload_n hx hb dX3_init_30 rfl (lv_at hl 0 rfl) ?_
  refine lv_iconst (v := -1) hx hb dX3_init_31 (by decide) ?_
  refine k_put (v := .int (-1)) C w ginX3 tyX3 tyX3_ok nmX3 0 rfl rfl 3 (by decide) kf_X3_26 rfl rfl rfl (Nat.le_of_ble_eq_true rfl) dX3_init_32 (fun H locs w => ?_)
  have w : kWd D A [(h0, .inr (5, [.ref (a9 0), .ref q18, .int 1000, .int (-1)])), ((a9 0), .inr (3, [.ref (a9 1), .ref (a9 2)])), ((a9 1), .inl (cI, 16, .inl (fun _ => 0))), ((a9 2), .inl (cI, 80, .inl (fun _ => 0))), (q18, .inl (cI, 16, .inl (fun _ => 0)))] s H locs := w
  exact k_ret (wf := wX3 cI) (a := fun k => ([h0, (a9 0), (a9 1), (a9 2), q18] : List Nat).getD k 0) C w rfl dX3_init_35
theorem ko_X4 : Cond.methodLink RX4 3 objectInit ∈ gW := gw_in 131 (by decide +kernel) rfl
theorem kz_X4_15 : Cond.classLink RX4 15 RX2 ∈ gW := gw_in 132 (by decide +kernel) rfl
theorem kb_X2 : Cond.instantiable RX2 3 ∈ gW := gw_in 133 (by decide +kernel) rfl
theorem kc_X2_init : Cond.code yX2_init cX2_init 1 none ∈ gW := gw_in 136 (by decide +kernel) rfl
theorem kn_X2_init : Cond.instanceMethod yX2_init ∈ gW := gw_in 135 (by decide +kernel) rfl
theorem kf_X4_22 : Cond.fieldLink RX4 22 (TX4 4).1 (TX4 4).2.1 (TX4 4).2.2.1 ∈ gW := gw_in 158 (by decide +kernel) rfl
theorem kf_X4_25 : Cond.fieldLink RX4 25 (TX4 5).1 (TX4 5).2.1 (TX4 5).2.2.1 ∈ gW := gw_in 160 (by decide +kernel) rfl
theorem kf_X4_32 : Cond.fieldLink RX4 32 (TX4 7).1 (TX4 7).2.1 (TX4 7).2.2.1 ∈ gW := gw_in 164 (by decide +kernel) rfl
theorem df_X4 : ∀ j, j < 13 → defaultValue (tyX4 j) = vp_V [.int 0, .int 0, .int 0, .null, .null, .null, .null, .null, .null, .null, .null, .null, .int 0] j := by
  intro j hj
  rcases (show j = 0 ∨ j = 1 ∨ j = 2 ∨ j = 3 ∨ j = 4 ∨ j = 5 ∨ j = 6 ∨ j = 7 ∨ j = 8 ∨ j = 9 ∨ j = 10 ∨ j = 11 ∨ j = 12 by omega) with rfl | rfl | rfl | rfl | rfl | rfl | rfl | rfl | rfl | rfl | rfl | rfl | rfl <;> rfl
def wX4 (cI : ClassId) (a : Nat → Nat) : va_W := [((a 0), .inr (6, [.int 0, .int (-1), .int 0, .ref (a 1), .ref (a 3), .ref (a 5), .ref (a 7), .ref (a 8), .ref (a 9), .ref (a 10), .ref (a 11), .ref (a 12), .int 0])), ((a 1), .inr (4, [.ref (a 2), .int 0, .int 0])), ((a 2), .inl (cI, 16, .inl (fun _ => 0))), ((a 3), .inr (4, [.ref (a 4), .int 0, .int 0])), ((a 4), .inl (cI, 16, .inl (fun _ => 0))), ((a 5), .inr (4, [.ref (a 6), .int 0, .int 0])), ((a 6), .inl (cI, 16, .inl (fun _ => 0))), ((a 7), .inl (cI, 5, .inl (fun _ => 0))), ((a 8), .inl (cI, 5, .inl (fun _ => 0))), ((a 9), .inl (cI, 8, .inl (fun _ => 0))), ((a 10), .inl (cI, 8, .inl (fun _ => 0))), ((a 11), .inl (cI, 8, .inl (fun _ => 0))), ((a 12), .inl (cI, 8, .inl (fun _ => 0)))]
set_option maxHeartbeats 4000000 in
set_option maxRecDepth 100000 in
theorem c_X4_init {l : Launch} {D : va_G} {cI : ClassId} {tl : List (ClassId × FieldType)} {h0 sz : Nat} : kMet l yX4_init cX4_init 1 { frames := 2, cells := 12, slots := 99, locals := 32 } D ((cI, .int) :: tl) h0 (.inr (6, [.int 0, .int 0, .int 0, .null, .null, .null, .null, .null, .null, .null, .null, .null, .int 0])) sz (wX4 cI) := by
  refine kMet_of (by decide) rfl (Nat.le_of_ble_eq_true rfl) (fun p e s m args below meth c ls A C w hl => ?_)
  have hx := C.1.1
  have hb := C.1.2.1
  refine lv_aload_n hx hb dX4_init_0 rfl (lv_at hl 0 rfl) ?_
  refine k_obj C hl.1 ko_X4 dX4_init_1 ⟨Nat.le_of_ble_eq_true rfl, Nat.le_of_ble_eq_true rfl⟩ ?_
  refine lv_aload_n hx hb dX4_init_4 rfl (lv_at hl 0 rfl) ?_
  refine lv_iconst (v := -1) hx hb dX4_init_5 (by decide) ?_
  refine k_put (v := .int (-1)) C w ginX4 tyX4 tyX4_ok nmX4 0 rfl rfl 1 (by decide) kf_X4_9 rfl rfl rfl (Nat.le_of_ble_eq_true rfl) dX4_init_6 (fun H locs w => ?_)
  have w : kWd D A [(h0, .inr (6, [.int 0, .int (-1), .int 0, .null, .null, .null, .null, .null, .null, .null, .null, .null, .int 0]))] s H locs := w
  refine lv_aload_n hx hb dX4_init_9 rfl (lv_at hl 0 rfl) ?_
  refine k_new (ci := 4) C w ginX2 tyX2 tyX2_ok kz_X4_15 kb_X2 ki_X2 rfl df_X2 (Nat.le_of_ble_eq_true rfl) (Nat.le_of_ble_eq_true rfl) dX4_init_10 (fun q10 H w => ?_)
  have w : kWd D A [(h0, .inr (6, [.int 0, .int (-1), .int 0, .null, .null, .null, .null, .null, .null, .null, .null, .null, .int 0])), (q10, .inr (4, [.null, .int 0, .int 0]))] s H _ := w
  refine W.widen (k := 1) (n := 3) (Nat.le_of_ble_eq_true rfl) (Nat.le_of_ble_eq_true rfl) ?_
  refine lv_dup hx hb dX4_init_13 rfl ?_
  refine k_call (wr := [(h0, .inr (6, [.int 0, .int (-1), .int 0, .null, .null, .null, .null, .null, .null, .null, .null, .null, .int 0]))]) (rest := [.ref q10, .ref h0]) C w (c_X2_init) (List.mem_of_getElem? (i := 4) rfl) rfl kc_X2_init ki_X2 kn_X2_init ⟨by decide +kernel, by decide +kernel, by decide +kernel⟩ ⟨Nat.le_of_ble_eq_true rfl, Nat.le_of_ble_eq_true rfl⟩ hl.1 (Nat.le_of_ble_eq_true rfl) dX4_init_14 ⟨Nat.le_of_ble_eq_true rfl, Nat.le_of_ble_eq_true rfl⟩ (fun a14 H locs ha14 w9 => ?_)
  subst ha14
  have w : kWd D A [(h0, .inr (6, [.int 0, .int (-1), .int 0, .null, .null, .null, .null, .null, .null, .null, .null, .null, .int 0])), ((a14 0), .inr (4, [.ref (a14 1), .int 0, .int 0])), ((a14 1), .inl (cI, 16, .inl (fun _ => 0)))] s H locs := w9
  refine W.widen (k := 2) (n := 19) (Nat.le_of_ble_eq_true rfl) (Nat.le_of_ble_eq_true rfl) ?_
  refine k_putF (v := .ref (a14 0)) C w ginX4 tyX4 tyX4_ok nmX4 0 rfl rfl 3 (by decide) kf_X4_18 rfl rfl rfl rfl (Nat.le_of_ble_eq_true rfl) dX4_init_17 (fun H locs w => ?_)
  have w : kWd D A [(h0, .inr (6, [.int 0, .int (-1), .int 0, .ref (a14 0), .null, .null, .null, .null, .null, .null, .null, .null, .int 0])), ((a14 0), .inr (4, [.ref (a14 1), .int 0, .int 0])), ((a14 1), .inl (cI, 16, .inl (fun _ => 0)))] s H locs := w
  refine lv_aload_n hx hb dX4_init_20 rfl (lv_at hl 0 rfl) ?_
  refine k_new (ci := 4) C w ginX2 tyX2 tyX2_ok kz_X4_15 kb_X2 ki_X2 rfl df_X2 (Nat.le_of_ble_eq_true rfl) (Nat.le_of_ble_eq_true rfl) dX4_init_21 (fun q21 H w => ?_)
  have w : kWd D A [(h0, .inr (6, [.int 0, .int (-1), .int 0, .ref (a14 0), .null, .null, .null, .null, .null, .null, .null, .null, .int 0])), ((a14 0), .inr (4, [.ref (a14 1), .int 0, .int 0])), ((a14 1), .inl (cI, 16, .inl (fun _ => 0))), (q21, .inr (4, [.null, .int 0, .int 0]))] s H _ := w
  refine W.widen (k := 3) (n := 22) (Nat.le_of_ble_eq_true rfl) (Nat.le_of_ble_eq_true rfl) ?_
  refine lv_dup hx hb dX4_init_24 rfl ?_
  refine k_call (wr := [(h0, .inr (6, [.int 0, .int (-1), .int 0, .ref (a14 0), .null, .null, .null, .null, .null, .null, .null, .null, .int 0])), ((a14 0), .inr (4, [.ref (a14 1), .int 0, .int 0])), ((a14 1), .inl (cI, 16, .inl (fun _ => 0)))]) (rest := [.ref q21, .ref h0]) C w (c_X2_init) (List.mem_of_getElem? (i := 4) rfl) rfl kc_X2_init ki_X2 kn_X2_init ⟨by decide +kernel, by decide +kernel, by decide +kernel⟩ ⟨Nat.le_of_ble_eq_true rfl, Nat.le_of_ble_eq_true rfl⟩ hl.1 (Nat.le_of_ble_eq_true rfl) dX4_init_25 ⟨Nat.le_of_ble_eq_true rfl, Nat.le_of_ble_eq_true rfl⟩ (fun a25 H locs ha25 w9 => ?_)
  subst ha25
  have w : kWd D A [(h0, .inr (6, [.int 0, .int (-1), .int 0, .ref (a14 0), .null, .null, .null, .null, .null, .null, .null, .null, .int 0])), ((a14 0), .inr (4, [.ref (a14 1), .int 0, .int 0])), ((a14 1), .inl (cI, 16, .inl (fun _ => 0))), ((a25 0), .inr (4, [.ref (a25 1), .int 0, .int 0])), ((a25 1), .inl (cI, 16, .inl (fun _ => 0)))] s H locs := w9
  refine W.widen (k := 4) (n := 38) (Nat.le_of_ble_eq_true rfl) (Nat.le_of_ble_eq_true rfl) ?_
  refine k_putF (v := .ref (a25 0)) C w ginX4 tyX4 tyX4_ok nmX4 0 rfl rfl 4 (by decide) kf_X4_22 rfl rfl rfl rfl (Nat.le_of_ble_eq_true rfl) dX4_init_28 (fun H locs w => ?_)
  have w : kWd D A [(h0, .inr (6, [.int 0, .int (-1), .int 0, .ref (a14 0), .ref (a25 0), .null, .null, .null, .null, .null, .null, .null, .int 0])), ((a14 0), .inr (4, [.ref (a14 1), .int 0, .int 0])), ((a14 1), .inl (cI, 16, .inl (fun _ => 0))), ((a25 0), .inr (4, [.ref (a25 1), .int 0, .int 0])), ((a25 1), .inl (cI, 16, .inl (fun _ => 0)))] s H locs := w
  refine lv_aload_n hx hb dX4_init_31 rfl (lv_at hl 0 rfl) ?_
  refine k_new (ci := 4) C w ginX2 tyX2 tyX2_ok kz_X4_15 kb_X2 ki_X2 rfl df_X2 (Nat.le_of_ble_eq_true rfl) (Nat.le_of_ble_eq_true rfl) dX4_init_32 (fun q32 H w => ?_)
  have w : kWd D A [(h0, .inr (6, [.int 0, .int (-1), .int 0, .ref (a14 0), .ref (a25 0), .null, .null, .null, .null, .null, .null, .null, .int 0])), ((a14 0), .inr (4, [.ref (a14 1), .int 0, .int 0])), ((a14 1), .inl (cI, 16, .inl (fun _ => 0))), ((a25 0), .inr (4, [.ref (a25 1), .int 0, .int 0])), ((a25 1), .inl (cI, 16, .inl (fun _ => 0))), (q32, .inr (4, [.null, .int 0, .int 0]))] s H _ := w
  refine W.widen (k := 5) (n := 41) (Nat.le_of_ble_eq_true rfl) (Nat.le_of_ble_eq_true rfl) ?_
  refine lv_dup hx hb dX4_init_35 rfl ?_
  refine k_call (wr := [(h0, .inr (6, [.int 0, .int (-1), .int 0, .ref (a14 0), .ref (a25 0), .null, .null, .null, .null, .null, .null, .null, .int 0])), ((a14 0), .inr (4, [.ref (a14 1), .int 0, .int 0])), ((a14 1), .inl (cI, 16, .inl (fun _ => 0))), ((a25 0), .inr (4, [.ref (a25 1), .int 0, .int 0])), ((a25 1), .inl (cI, 16, .inl (fun _ => 0)))]) (rest := [.ref q32, .ref h0]) C w (c_X2_init) (List.mem_of_getElem? (i := 4) rfl) rfl kc_X2_init ki_X2 kn_X2_init ⟨by decide +kernel, by decide +kernel, by decide +kernel⟩ ⟨Nat.le_of_ble_eq_true rfl, Nat.le_of_ble_eq_true rfl⟩ hl.1 (Nat.le_of_ble_eq_true rfl) dX4_init_36 ⟨Nat.le_of_ble_eq_true rfl, Nat.le_of_ble_eq_true rfl⟩ (fun a36 H locs ha36 w9 => ?_)
  subst ha36
  have w : kWd D A [(h0, .inr (6, [.int 0, .int (-1), .int 0, .ref (a14 0), .ref (a25 0), .null, .null, .null, .null, .null, .null, .null, .int 0])), ((a14 0), .inr (4, [.ref (a14 1), .int 0, .int 0])), ((a14 1), .inl (cI, 16, .inl (fun _ => 0))), ((a25 0), .inr (4, [.ref (a25 1), .int 0, .int 0])), ((a25 1), .inl (cI, 16, .inl (fun _ => 0))), ((a36 0), .inr (4, [.ref (a36 1), .int 0, .int 0])), ((a36 1), .inl (cI, 16, .inl (fun _ => 0)))] s H locs := w9
  refine W.widen (k := 6) (n := 57) (Nat.le_of_ble_eq_true rfl) (Nat.le_of_ble_eq_true rfl) ?_
  refine k_putF (v := .ref (a36 0)) C w ginX4 tyX4 tyX4_ok nmX4 0 rfl rfl 5 (by decide) kf_X4_25 rfl rfl rfl rfl (Nat.le_of_ble_eq_true rfl) dX4_init_39 (fun H locs w => ?_)
  have w : kWd D A [(h0, .inr (6, [.int 0, .int (-1), .int 0, .ref (a14 0), .ref (a25 0), .ref (a36 0), .null, .null, .null, .null, .null, .null, .int 0])), ((a14 0), .inr (4, [.ref (a14 1), .int 0, .int 0])), ((a14 1), .inl (cI, 16, .inl (fun _ => 0))), ((a25 0), .inr (4, [.ref (a25 1), .int 0, .int 0])), ((a25 1), .inl (cI, 16, .inl (fun _ => 0))), ((a36 0), .inr (4, [.ref (a36 1), .int 0, .int 0])), ((a36 1), .inl (cI, 16, .inl (fun _ => 0)))] s H locs := w
  refine lv_aload_n hx hb dX4_init_42 rfl (lv_at hl 0 rfl) ?_
  refine lv_iconst (v := 5) hx hb dX4_init_43 (by decide) ?_
  refine k_newi (N' := 5) C w (by decide) (by decide) (by decide) (Nat.le_of_ble_eq_true rfl) (Nat.le_of_ble_eq_true rfl) dX4_init_44 (fun q44 H w => ?_)
  have w : kWd D A [(h0, .inr (6, [.int 0, .int (-1), .int 0, .ref (a14 0), .ref (a25 0), .ref (a36 0), .null, .null, .null, .null, .null, .null, .int 0])), ((a14 0), .inr (4, [.ref (a14 1), .int 0, .int 0])), ((a14 1), .inl (cI, 16, .inl (fun _ => 0))), ((a25 0), .inr (4, [.ref (a25 1), .int 0, .int 0])), ((a25 1), .inl (cI, 16, .inl (fun _ => 0))), ((a36 0), .inr (4, [.ref (a36 1), .int 0, .int 0])), ((a36 1), .inl (cI, 16, .inl (fun _ => 0))), (q44, .inl (cI, 5, .inl (fun _ => 0)))] s H _ := w
  refine W.widen (k := 7) (n := 62) (Nat.le_of_ble_eq_true rfl) (Nat.le_of_ble_eq_true rfl) ?_
  refine k_putF (v := .ref q44) C w ginX4 tyX4 tyX4_ok nmX4 0 rfl rfl 6 (by decide) kf_X4_28 rfl rfl rfl rfl (Nat.le_of_ble_eq_true rfl) dX4_init_46 (fun H locs w => ?_)
  have w : kWd D A [(h0, .inr (6, [.int 0, .int (-1), .int 0, .ref (a14 0), .ref (a25 0), .ref (a36 0), .ref q44, .null, .null, .null, .null, .null, .int 0])), ((a14 0), .inr (4, [.ref (a14 1), .int 0, .int 0])), ((a14 1), .inl (cI, 16, .inl (fun _ => 0))), ((a25 0), .inr (4, [.ref (a25 1), .int 0, .int 0])), ((a25 1), .inl (cI, 16, .inl (fun _ => 0))), ((a36 0), .inr (4, [.ref (a36 1), .int 0, .int 0])), ((a36 1), .inl (cI, 16, .inl (fun _ => 0))), (q44, .inl (cI, 5, .inl (fun _ => 0)))] s H locs := w
  refine lv_aload_n hx hb dX4_init_49 rfl (lv_at hl 0 rfl) ?_
  refine lv_iconst (v := 5) hx hb dX4_init_50 (by decide) ?_
  refine k_newi (N' := 5) C w (by decide) (by decide) (by decide) (Nat.le_of_ble_eq_true rfl) (Nat.le_of_ble_eq_true rfl) dX4_init_51 (fun q51 H w => ?_)
  have w : kWd D A [(h0, .inr (6, [.int 0, .int (-1), .int 0, .ref (a14 0), .ref (a25 0), .ref (a36 0), .ref q44, .null, .null, .null, .null, .null, .int 0])), ((a14 0), .inr (4, [.ref (a14 1), .int 0, .int 0])), ((a14 1), .inl (cI, 16, .inl (fun _ => 0))), ((a25 0), .inr (4, [.ref (a25 1), .int 0, .int 0])), ((a25 1), .inl (cI, 16, .inl (fun _ => 0))), ((a36 0), .inr (4, [.ref (a36 1), .int 0, .int 0])), ((a36 1), .inl (cI, 16, .inl (fun _ => 0))), (q44, .inl (cI, 5, .inl (fun _ => 0))), (q51, .inl (cI, 5, .inl (fun _ => 0)))] s H _ := w
  refine W.widen (k := 8) (n := 67) (Nat.le_of_ble_eq_true rfl) (Nat.le_of_ble_eq_true rfl) ?_
  refine k_putF (v := .ref q51) C w ginX4 tyX4 tyX4_ok nmX4 0 rfl rfl 7 (by decide) kf_X4_32 rfl rfl rfl rfl (Nat.le_of_ble_eq_true rfl) dX4_init_53 (fun H locs w => ?_)
  have w : kWd D A [(h0, .inr (6, [.int 0, .int (-1), .int 0, .ref (a14 0), .ref (a25 0), .ref (a36 0), .ref q44, .ref q51, .null, .null, .null, .null, .int 0])), ((a14 0), .inr (4, [.ref (a14 1), .int 0, .int 0])), ((a14 1), .inl (cI, 16, .inl (fun _ => 0))), ((a25 0), .inr (4, [.ref (a25 1), .int 0, .int 0])), ((a25 1), .inl (cI, 16, .inl (fun _ => 0))), ((a36 0), .inr (4, [.ref (a36 1), .int 0, .int 0])), ((a36 1), .inl (cI, 16, .inl (fun _ => 0))), (q44, .inl (cI, 5, .inl (fun _ => 0))), (q51, .inl (cI, 5, .inl (fun _ => 0)))] s H locs := w
  refine lv_aload_n hx hb dX4_init_56 rfl (lv_at hl 0 rfl) ?_
  refine lv_bipush (v := 8) hx hb dX4_init_57 (by decide) ?_
  refine k_newi (N' := 8) C w (by decide) (by decide) (by decide) (Nat.le_of_ble_eq_true rfl) (Nat.le_of_ble_eq_true rfl) dX4_init_59 (fun q59 H w => ?_)
  have w : kWd D A [(h0, .inr (6, [.int 0, .int (-1), .int 0, .ref (a14 0), .ref (a25 0), .ref (a36 0), .ref q44, .ref q51, .null, .null, .null, .null, .int 0])), ((a14 0), .inr (4, [.ref (a14 1), .int 0, .int 0])), ((a14 1), .inl (cI, 16, .inl (fun _ => 0))), ((a25 0), .inr (4, [.ref (a25 1), .int 0, .int 0])), ((a25 1), .inl (cI, 16, .inl (fun _ => 0))), ((a36 0), .inr (4, [.ref (a36 1), .int 0, .int 0])), ((a36 1), .inl (cI, 16, .inl (fun _ => 0))), (q44, .inl (cI, 5, .inl (fun _ => 0))), (q51, .inl (cI, 5, .inl (fun _ => 0))), (q59, .inl (cI, 8, .inl (fun _ => 0)))] s H _ := w
  refine W.widen (k := 9) (n := 75) (Nat.le_of_ble_eq_true rfl) (Nat.le_of_ble_eq_true rfl) ?_
  refine k_putF (v := .ref q59) C w ginX4 tyX4 tyX4_ok nmX4 0 rfl rfl 8 (by decide) kf_X4_35 rfl rfl rfl rfl (Nat.le_of_ble_eq_true rfl) dX4_init_61 (fun H locs w => ?_)
  have w : kWd D A [(h0, .inr (6, [.int 0, .int (-1), .int 0, .ref (a14 0), .ref (a25 0), .ref (a36 0), .ref q44, .ref q51, .ref q59, .null, .null, .null, .int 0])), ((a14 0), .inr (4, [.ref (a14 1), .int 0, .int 0])), ((a14 1), .inl (cI, 16, .inl (fun _ => 0))), ((a25 0), .inr (4, [.ref (a25 1), .int 0, .int 0])), ((a25 1), .inl (cI, 16, .inl (fun _ => 0))), ((a36 0), .inr (4, [.ref (a36 1), .int 0, .int 0])), ((a36 1), .inl (cI, 16, .inl (fun _ => 0))), (q44, .inl (cI, 5, .inl (fun _ => 0))), (q51, .inl (cI, 5, .inl (fun _ => 0))), (q59, .inl (cI, 8, .inl (fun _ => 0)))] s H locs := w
  refine lv_aload_n hx hb dX4_init_64 rfl (lv_at hl 0 rfl) ?_
  refine lv_bipush (v := 8) hx hb dX4_init_65 (by decide) ?_
  refine k_newi (N' := 8) C w (by decide) (by decide) (by decide) (Nat.le_of_ble_eq_true rfl) (Nat.le_of_ble_eq_true rfl) dX4_init_67 (fun q67 H w => ?_)
  have w : kWd D A [(h0, .inr (6, [.int 0, .int (-1), .int 0, .ref (a14 0), .ref (a25 0), .ref (a36 0), .ref q44, .ref q51, .ref q59, .null, .null, .null, .int 0])), ((a14 0), .inr (4, [.ref (a14 1), .int 0, .int 0])), ((a14 1), .inl (cI, 16, .inl (fun _ => 0))), ((a25 0), .inr (4, [.ref (a25 1), .int 0, .int 0])), ((a25 1), .inl (cI, 16, .inl (fun _ => 0))), ((a36 0), .inr (4, [.ref (a36 1), .int 0, .int 0])), ((a36 1), .inl (cI, 16, .inl (fun _ => 0))), (q44, .inl (cI, 5, .inl (fun _ => 0))), (q51, .inl (cI, 5, .inl (fun _ => 0))), (q59, .inl (cI, 8, .inl (fun _ => 0))), (q67, .inl (cI, 8, .inl (fun _ => 0)))] s H _ := w
  refine W.widen (k := 10) (n := 83) (Nat.le_of_ble_eq_true rfl) (Nat.le_of_ble_eq_true rfl) ?_
  refine k_putF (v := .ref q67) C w ginX4 tyX4 tyX4_ok nmX4 0 rfl rfl 9 (by decide) kf_X4_38 rfl rfl rfl rfl (Nat.le_of_ble_eq_true rfl) dX4_init_69 (fun H locs w => ?_)
  have w : kWd D A [(h0, .inr (6, [.int 0, .int (-1), .int 0, .ref (a14 0), .ref (a25 0), .ref (a36 0), .ref q44, .ref q51, .ref q59, .ref q67, .null, .null, .int 0])), ((a14 0), .inr (4, [.ref (a14 1), .int 0, .int 0])), ((a14 1), .inl (cI, 16, .inl (fun _ => 0))), ((a25 0), .inr (4, [.ref (a25 1), .int 0, .int 0])), ((a25 1), .inl (cI, 16, .inl (fun _ => 0))), ((a36 0), .inr (4, [.ref (a36 1), .int 0, .int 0])), ((a36 1), .inl (cI, 16, .inl (fun _ => 0))), (q44, .inl (cI, 5, .inl (fun _ => 0))), (q51, .inl (cI, 5, .inl (fun _ => 0))), (q59, .inl (cI, 8, .inl (fun _ => 0))), (q67, .inl (cI, 8, .inl (fun _ => 0)))] s H locs := w
  refine lv_aload_n hx hb dX4_init_72 rfl (lv_at hl 0 rfl) ?_
  refine lv_bipush (v := 8) hx hb dX4_init_73 (by decide) ?_
  refine k_newi (N' := 8) C w (by decide) (by decide) (by decide) (Nat.le_of_ble_eq_true rfl) (Nat.le_of_ble_eq_true rfl) dX4_init_75 (fun q75 H w => ?_)
  have w : kWd D A [(h0, .inr (6, [.int 0, .int (-1), .int 0, .ref (a14 0), .ref (a25 0), .ref (a36 0), .ref q44, .ref q51, .ref q59, .ref q67, .null, .null, .int 0])), ((a14 0), .inr (4, [.ref (a14 1), .int 0, .int 0])), ((a14 1), .inl (cI, 16, .inl (fun _ => 0))), ((a25 0), .inr (4, [.ref (a25 1), .int 0, .int 0])), ((a25 1), .inl (cI, 16, .inl (fun _ => 0))), ((a36 0), .inr (4, [.ref (a36 1), .int 0, .int 0])), ((a36 1), .inl (cI, 16, .inl (fun _ => 0))), (q44, .inl (cI, 5, .inl (fun _ => 0))), (q51, .inl (cI, 5, .inl (fun _ => 0))), (q59, .inl (cI, 8, .inl (fun _ => 0))), (q67, .inl (cI, 8, .inl (fun _ => 0))), (q75, .inl (cI, 8, .inl (fun _ => 0)))] s H _ := w
  refine W.widen (k := 11) (n := 91) (Nat.le_of_ble_eq_true rfl) (Nat.le_of_ble_eq_true rfl) ?_
  refine k_putF (v := .ref q75) C w ginX4 tyX4 tyX4_ok nmX4 0 rfl rfl 10 (by decide) kf_X4_41 rfl rfl rfl rfl (Nat.le_of_ble_eq_true rfl) dX4_init_77 (fun H locs w => ?_)
  have w : kWd D A [(h0, .inr (6, [.int 0, .int (-1), .int 0, .ref (a14 0), .ref (a25 0), .ref (a36 0), .ref q44, .ref q51, .ref q59, .ref q67, .ref q75, .null, .int 0])), ((a14 0), .inr (4, [.ref (a14 1), .int 0, .int 0])), ((a14 1), .inl (cI, 16, .inl (fun _ => 0))), ((a25 0), .inr (4, [.ref (a25 1), .int 0, .int 0])), ((a25 1), .inl (cI, 16, .inl (fun _ => 0))), ((a36 0), .inr (4, [.ref (a36 1), .int 0, .int 0])), ((a36 1), .inl (cI, 16, .inl (fun _ => 0))), (q44, .inl (cI, 5, .inl (fun _ => 0))), (q51, .inl (cI, 5, .inl (fun _ => 0))), (q59, .inl (cI, 8, .inl (fun _ => 0))), (q67, .inl (cI, 8, .inl (fun _ => 0))), (q75, .inl (cI, 8, .inl (fun _ => 0)))] s H locs := w
  refine lv_aload_n hx hb dX4_init_80 rfl (lv_at hl 0 rfl) ?_
  refine lv_bipush (v := 8) hx hb dX4_init_81 (by decide) ?_
  refine k_newi (N' := 8) C w (by decide) (by decide) (by decide) (Nat.le_of_ble_eq_true rfl) (Nat.le_of_ble_eq_true rfl) dX4_init_83 (fun q83 H w => ?_)
  have w : kWd D A [(h0, .inr (6, [.int 0, .int (-1), .int 0, .ref (a14 0), .ref (a25 0), .ref (a36 0), .ref q44, .ref q51, .ref q59, .ref q67, .ref q75, .null, .int 0])), ((a14 0), .inr (4, [.ref (a14 1), .int 0, .int 0])), ((a14 1), .inl (cI, 16, .inl (fun _ => 0))), ((a25 0), .inr (4, [.ref (a25 1), .int 0, .int 0])), ((a25 1), .inl (cI, 16, .inl (fun _ => 0))), ((a36 0), .inr (4, [.ref (a36 1), .int 0, .int 0])), ((a36 1), .inl (cI, 16, .inl (fun _ => 0))), (q44, .inl (cI, 5, .inl (fun _ => 0))), (q51, .inl (cI, 5, .inl (fun _ => 0))), (q59, .inl (cI, 8, .inl (fun _ => 0))), (q67, .inl (cI, 8, .inl (fun _ => 0))), (q75, .inl (cI, 8, .inl (fun _ => 0))), (q83, .inl (cI, 8, .inl (fun _ => 0)))] s H _ := w
  refine W.widen (k := 12) (n := 99) (Nat.le_of_ble_eq_true rfl) (Nat.le_of_ble_eq_true rfl) ?_
  refine k_putF (v := .ref q83) C w ginX4 tyX4 tyX4_ok nmX4 0 rfl rfl 11 (by decide) kf_X4_44 rfl rfl rfl rfl (Nat.le_of_ble_eq_true rfl) dX4_init_85 (fun H locs w => ?_)
  have w : kWd D A [(h0, .inr (6, [.int 0, .int (-1), .int 0, .ref (a14 0), .ref (a25 0), .ref (a36 0), .ref q44, .ref q51, .ref q59, .ref q67, .ref q75, .ref q83, .int 0])), ((a14 0), .inr (4, [.ref (a14 1), .int 0, .int 0])), ((a14 1), .inl (cI, 16, .inl (fun _ => 0))), ((a25 0), .inr (4, [.ref (a25 1), .int 0, .int 0])), ((a25 1), .inl (cI, 16, .inl (fun _ => 0))), ((a36 0), .inr (4, [.ref (a36 1), .int 0, .int 0])), ((a36 1), .inl (cI, 16, .inl (fun _ => 0))), (q44, .inl (cI, 5, .inl (fun _ => 0))), (q51, .inl (cI, 5, .inl (fun _ => 0))), (q59, .inl (cI, 8, .inl (fun _ => 0))), (q67, .inl (cI, 8, .inl (fun _ => 0))), (q75, .inl (cI, 8, .inl (fun _ => 0))), (q83, .inl (cI, 8, .inl (fun _ => 0)))] s H locs := w
  exact k_ret (wf := wX4 cI) (a := fun k => ([h0, (a14 0), (a14 1), (a25 0), (a25 1), (a36 0), (a36 1), q44, q51, q59, q67, q75, q83] : List Nat).getD k 0) C w rfl dX4_init_88
