/-! message: it returns, or throws -/
def nE : List String := ["java/lang/IndexOutOfBoundsException", "java/lang/RuntimeException", "java/lang/Exception"]
def mAt : List Cond := vx_atS RX6 176 RJx00060 nE
def mB : List Cond := [.declares ⟨"java/lang/IndexOutOfBoundsException", "<init>", "(Ljava/lang/String;)V"⟩, .declares ⟨"java/lang/RuntimeException", "<init>", "(Ljava/lang/String;)V"⟩, .declares ⟨"java/lang/Exception", "<init>", "(Ljava/lang/String;)V"⟩, .declares ⟨"java/lang/Throwable", "<init>", "(Ljava/lang/String;)V"⟩, .castable RJx00060 RJx00060]
set_option maxRecDepth 100000 in
theorem m_good : ∀ w ∈ mAt.filter goodWord, w ∈ gW := gw_ins [48, 550, 507, 510, 513, 515, 551, 552, 60, 61, 501, 506, 511, 518, 544, 519, 545, 520, 546, 502, 504, 547, 499, 500, 517, 547, 487, 488, 489, 490, 490, 491, 492, 493, 493, 494, 495, 496, 496, 497, 498, 499, 565, 486, 543, 509, 525, 527, 531, 523, 516, 548, 521] (by decide +kernel) (by decide +kernel)
set_option maxRecDepth 100000 in
theorem m_bad : ∀ w ∈ mAt.filter (fun w => !goodWord w), w ∈ mB := by decide +kernel
theorem mB_face : ∀ w ∈ mB, w.faceAtom = true ∧ w.onTables = true := by decide +kernel
set_option maxRecDepth 100000 in
theorem m_ot : ∀ w ∈ Cond.classLink RX6 172 RJx00060 :: Cond.initialized RJx00060 :: mAt, vx_ot w = true := by decide +kernel
theorem kz_X6_172 : Cond.classLink RX6 172 RJx00060 ∈ gW := gw_in 563 (by decide +kernel) rfl
theorem ki_E : Cond.initialized RJx00060 ∈ gW := gw_in 52 (by decide +kernel) rfl
theorem kz_L_13 : Cond.classLink RL 13 RJx00060 ∈ gW := gw_in 485 (by decide +kernel) rfl
theorem kf_X6_179 : Cond.fieldLink RX6 179 (TX0 1).1 (TX0 1).2.1 (TX0 1).2.2.1 ∈ gW := gw_in 113 (by decide +kernel) rfl
theorem kc_X6_message : Cond.code yX6_message cX6_message 2 (some .int) ∈ gW := gw_in 562 (by decide +kernel) rfl
theorem gv_L_7 : gWv RL 7 yX6_message cX6_message 2 (some .int) := ⟨gw_in 559 (by decide +kernel) rfl, gw_in 560 (by decide +kernel) rfl, gw_in 561 (by decide +kernel) rfl, ki_X6, kc_X6_message⟩
theorem md_X6_message : gMd yX6_message 1 := ⟨by decide +kernel, by decide +kernel, by decide +kernel⟩
/-- what a throw needs of the heap and of the words that aren't good -/
def mX (sa : Nat) (A : Nat → Prop) (U : State) : Prop := vx_Zq Bundle.tN "UNASSIGNED_STACK" Bundle.steD A U U.heap ∧ vx_Zq Bundle.tN "SUPPRESSED_SENTINEL" Bundle.listD A U U.heap ∧ vk_R RX6 174 "there is no such message" sa U ∧ ∀ w ∈ mB, va_Nw w U
theorem mX.to {sa : Nat} {A B : Nat → Prop} {s U : State} (hW : s.WarmedH U.vm) (hk : ∀ a : Nat, a < s.heap.size → ¬ A a → U.heap[a]? = s.heap[a]?) (hAB : ∀ q, B q → A q) (h : mX sa A s) : mX sa B U :=
  ⟨(vx_Zq.moved hW.alike (h.1.kept hk)).narrow hAB, (vx_Zq.moved hW.alike (h.2.1.kept hk)).narrow hAB, vk_R.warm hW h.2.2.1, fun w hw => va_tabs (mB_face w hw).2 (rfl : (s.setVm U.vm).vm = U.vm) (Cond.faceAtom_setVm hW.alike w (mB_face w hw).1 (h.2.2.2 w hw))⟩
theorem mX.call {sa : Nat} {A : Nat → Prop} {U : State} {g : JFrame} {mk : MethodId} {a : Array Value} (h : mX sa A U) : mX sa A (U.calling g mk a) :=
  ⟨vx_Zq.moved (u := U) (U := U.calling g mk a) (Vm.Alike.refl U.vm) h.1, vx_Zq.moved (u := U) (U := U.calling g mk a) (Vm.Alike.refl U.vm) h.2.1, vk_R.same (u := U) (U := U.calling g mk a) rfl h.2.2.1, fun w hw => va_Nw.same (u := U) (U := U.calling g mk a) (mB_face w hw).2 rfl (h.2.2.2 w hw)⟩
section MS
variable {p : Program} {l : Launch} {e : Env} {R : Room} {s : State} {m : MethodId} {args : Array Value} {below : List Frame} {meth : Method} {c : Code} {H : Heap} {locs : List Loc} {cells slots : Nat} {Q : State → Prop} {cc : ByteArray} {nL pc : Nat} {own : String} {ls : Array Slot} {rest : List Value} {D : va_G} {tys : List (ClassId × FieldType)} {N : Nat} {z : Lay} {ad : Nat → Nat} {M : Mem} {A : Nat → Prop} {cI cT cS cJ : ClassId}
theorem q_runS (C : gC p s m args c own cc nL D tys N z ad) (w : gWd D N z ad M s H locs) {y : MethodName} {bytes : ByteArray} {maxL h' n index : Nat} {ret : Option FieldType} {As st0 : List Value} {Qc : Array Value → State → Outcome → State → Prop}
    (hM : gMet l y bytes maxL ret h' D tys N z ad As M Qc) (hw : gWs own index y bytes maxL ret) (hd : gMd y n) (hn : As.length = n) (hh : h' + 1 ≤ R.frames ∧ 8 + (maxL + 11) + 40 * h' ≤ R.locals) (hsz : ls.size = nL) (hst : st0 = As.reverse ++ rest) (hr8 : (rest.map fun v => v.category).sum ≤ 8) (hdg : decode cc pc = .ok (.invokestatic index, 3)) :
    va_Run p l e R s m args below meth c H locs 0 0 0 0 (F0 m pc ls st0) rest (Qc As.toArray) (gA N ad) := by
  obtain ⟨⟨hx, hb, hml, hown, hts⟩, hK, hN, hi, hloc⟩ := C
  obtain ⟨w1, w2, w4, w5⟩ := hw
  have hG : GoodIn gW (va_wsS own index y (Cond.code y bytes maxL ret :: gW)) := by
    intro q hq
    have hm : q ∈ gW := by
      simp only [va_wsS, List.mem_append, List.mem_cons, List.not_mem_nil, or_false] at hq
      rcases hq with (rfl | rfl | rfl) | rfl | hq
      · exact w1
      · exact w2
      · exact w4
      · exact w5
      · exact hq
    exact ⟨hm, gw_good q hm⟩
  exact va_runS (Ts := gW) ⟨hx, hb, hml, hown, hts⟩ hM (va_cwS n hts hG rfl rfl rfl hd hh) ⟨gPre_blind, fun U hU hW => ⟨rfl, by rw [hU]; exact w.1, va_K.moved hW.alike hK, va_Nw.warmM hW hN⟩⟩ rfl hn hsz hst (lv_room hr8) hdg ⟨Nat.zero_le _, Nat.zero_le _⟩
theorem c_X6_message_in (hi : gInj 241 ad) {x1 v : Int32} (h1 : f_X6_within x1 0 (M 10 3 - 1) M = some (1, M)) (h2 : ldI M 12 100 x1 = some v) : gMet l yX6_message cX6_message 2 (some .int) 1 D (xty cI cT cS) 241 (xE cI cT cS) ad [.ref (ad 0), .int x1] M (qI D 241 (xE cI cT cS) ad (v, M)) := by
  refine gMet_of (by decide) hi (xE_loc cI cT cS) (Nat.le_of_ble_eq_true rfl) (fun p e s m args below meth c ls C hr hq w hl => ?_)
  have hx := C.1.1
  have hb := C.1.2.1
  have hl : lv_has ls 2 [(0, .ref (ad 0)), (1, .int x1)] := hl
  refine lv_iload_n hx hb dX6_message_0 rfl (lv_at hl 1 rfl) ?_
  refine lv_iconst (v := 0) hx hb dX6_message_1 (by decide) ?_
  refine lv_aload_n hx hb dX6_message_2 rfl (lv_at hl 0 rfl) ?_
  refine gt_X6_38 C w dX6_message_3 ?_
  refine gt_X6_169 C w dX6_message_6 ?_
  refine lv_iconst (v := 1) hx hb dX6_message_9 (by decide) ?_
  refine lv_isub hx hb dX6_message_10 ?_
  refine g_backI w (g_runS (rest := []) C w (c_X6_within hi h1) gs_X6_44 md_X6_within rfl (by omega) (by decide) hl.1 rfl (Nat.le_of_ble_eq_true rfl) dX6_message_11) (fun H locs w => ?_)
  refine lv_if_ne (tgt := 27) hx hb dX6_message_14 (by decide) (fun c4 => ?_) (fun c4 => ?_)
  · refine lv_aload_n hx hb dX6_message_27 rfl (lv_at hl 0 rfl) ?_
    refine gt_X6_38 C w dX6_message_28 ?_
    refine g_get C w ob_X0 rfl ginX0 1 (by decide) kf_X6_179 rfl dX6_message_31 ?_
    refine lv_iload_n hx hb dX6_message_34 rfl (lv_at hl 1 rfl) ?_
    refine g_iald C w x_a12 h2 dX6_message_35 ?_
    exact g_iret C w hr hq rfl dX6_message_36
  · exact absurd c4 (show ¬ (1 : Int32) = 0 by decide)
def mPre (D : va_G) (cI cT cS : ClassId) (ad : Nat → Nat) (M : Mem) (sa : Nat) (U : State) : Prop := gPre D (xty cI cT cS) 241 (xE cI cT cS) ad M U ∧ mX sa (gA 241 ad) U
theorem mPre_blind {D : va_G} {cI cT cS : ClassId} {ad : Nat → Nat} {M : Mem} {sa : Nat} {As : List Value} : FrameBlind (va_Pc As (mPre D cI cT cS ad M sa)) := by
  intro a U g mk q
  obtain ⟨q0, qG, qM⟩ := q
  exact ⟨q0, (gPre_blind (As := As) a U g mk ⟨q0, qG⟩).2, qM.call⟩
/-- no such message: it throws its own exception, and nothing has changed -/
theorem c_X6_message_out (hl0 : l.stackTraces = false) (hi : gInj 241 ad) {x1 : Int32} {sa : Nat} (h1 : f_X6_within x1 0 (M 10 3 - 1) M = some (0, M)) : vx_Met l yX6_message (Cond.code yX6_message cX6_message 2 (some .int) :: gW) { frames := 7, cells := 1, slots := 6, locals := 100 } (va_Pc [.ref (ad 0), .int x1] (mPre D cI cT cS ad M sa)) (va_Qi (fun (_ : Int32) (_ : Unit) => False) (fun _ _ => True) (gA 241 ad)) (vx_X (fun _ : Unit => True) (fun E _ t => E = RJx00060 ∧ va_P D vwCl (gw 241 (xE cI cT cS) ad M) t.heap) (gA 241 ad)) 1 6 (gA 241 ad) := by
  refine vx_ofW (cc := cX6_message) (maxL := 2) (ret := some .int) (by decide) rfl ?_
  intro p e s m args below meth c s₁ B hml htab hv
  obtain ⟨rfl, ⟨hP, hK, hN⟩, hmx⟩ := hv
  have hts := atoms_spec (ws := Cond.code yX6_message cX6_message 2 (some .int) :: gW) B.pre
  have hown : s.vm.findClass RX6 = some m.cls := findClass_of_methodNamed B.named
  have C : gC p s m ([.ref (ad 0), .int x1] : List Value).toArray c RX6 cX6_message 2 D (xty cI cT cS) 241 (xE cI cT cS) ad := ⟨⟨B.exec, B.bytes, hml, hown, fun w hw => hts w (List.mem_cons_of_mem _ hw)⟩, hK, hN, hi, xE_loc cI cT cS⟩
  have w : gWd D 241 (xE cI cT cS) ad M s s.heap [] := ⟨hP, va_S.rf⟩
  have hx := C.1.1
  have hb := C.1.2.1
  have hl := lv_entry ([.ref (ad 0), .int x1] : List Value) (n := 2) (Nat.le_of_ble_eq_true rfl)
  rw [lg_entry_eq]
  generalize (lg_sl ([.ref (ad 0), .int x1] : List Value) ++ List.replicate (2 - (lg_sl ([.ref (ad 0), .int x1] : List Value)).length) Slot.unset).toArray = ls at hl ⊢
  have hl : lv_has ls 2 [(0, .ref (ad 0)), (1, .int x1)] := hl
  refine lv_iload_n hx hb dX6_message_0 rfl (lv_at hl 1 rfl) ?_
  refine lv_iconst (v := 0) hx hb dX6_message_1 (by decide) ?_
  refine lv_aload_n hx hb dX6_message_2 rfl (lv_at hl 0 rfl) ?_
  refine gt_X6_38 C w dX6_message_3 ?_
  refine gt_X6_169 C w dX6_message_6 ?_
  refine lv_iconst (v := 1) hx hb dX6_message_9 (by decide) ?_
  refine lv_isub hx hb dX6_message_10 ?_
  refine g_backI w (q_runS (rest := []) C w (c_X6_within hi h1) gs_X6_44 md_X6_within rfl ⟨Nat.le_of_ble_eq_true rfl, Nat.le_of_ble_eq_true rfl⟩ hl.1 rfl (Nat.le_of_ble_eq_true rfl) dX6_message_11) (fun H locs w => ?_)
  refine lv_if_ne (tgt := 27) hx hb dX6_message_14 (by decide) (fun c4 => ?_) (fun c4 => ?_)
  · exact absurd rfl c4
  · have hat : ∀ q ∈ mAt, q.before ([.ref (ad 0), .int x1] : List Value).toArray s = true := vx_hat (L := mAt) (B := mB) (fun q hq => C.1.2.2.2.2 q (m_good q hq)) m_bad (fun q hq => va_Nw.use (mB_face q hq).2 (hmx.2.2.2 q hq))
    refine vx_throwS (text := "there is no such message") (names := nE) (ik := 172) (is := 174) (ic := 176) (sa := sa) (A := gA 241 ad) hx hb hl0 hown (by decide) (by decide) (C.1.2.2.2.2 _ kz_X6_172) (C.1.2.2.2.2 _ ki_E) hmx.2.2.1 hat m_ot hmx.1 hmx.2.1 w.2 (by rw [hml]; exact hl.1) dX6_message_17 dX6_message_20 dX6_message_21 dX6_message_23 dX6_message_26 (fun x hx => (htab x hx).elim) (Nat.le_of_ble_eq_true rfl) (Nat.le_of_ble_eq_true rfl) (Nat.le_of_ble_eq_true rfl) (Nat.le_of_ble_eq_true rfl) B.notSynchronized (fun t hvm hz hk => ?_) w.2.2.2 (Nat.le_refl _) (Nat.le_refl _)
    exact ⟨(), trivial, ⟨rfl, w.1.kept (fun k q hq => hk q.1 (w.1 k q hq).lt)⟩, Nat.le_trans w.2.1 hz, fun q h1 h2 => (hk q (Nat.lt_of_lt_of_le h1 w.2.1)).trans (w.2.2.1 q h1 h2)⟩
/-! the law's own message -/
theorem kL_1 : Cond.methodLink RL 61 yL_message ∈ gW := gw_in 482 (by decide +kernel) rfl
theorem kL_2 : Cond.static yL_message ∈ gW := gw_in 483 (by decide +kernel) rfl
theorem kL_3 : Cond.codeWith yL_message cL_message 4 (some .int) [(0, 9, 12, 13)] ∈ gW := gw_in 484 (by decide +kernel) rfl
theorem ki_L : Cond.initialized RL ∈ gW := gw_in 38 (by decide +kernel) rfl
theorem md_L_message : gMd yL_message 3 := ⟨by decide +kernel, by decide +kernel, by decide +kernel⟩
def wO (cJ : ClassId) (qo : Nat) (fo : Nat → Int64) : va_W := [(qo, .inl (cJ, 1, .inr (.inl fo)))]
abbrev wOX (cI cT cS cJ : ClassId) (ad : Nat → Nat) (M : Mem) (qo : Nat) (fo : Nat → Int64) : va_W := wO cJ qo fo ++ gw 241 (xE cI cT cS) ad M
abbrev tyL (cI cT cS cJ : ClassId) : List (ClassId × FieldType) := [(cI, .int), (cT, .object RX4), (cS, .object RX3), (cJ, .long)]
def lPre (D : va_G) (cI cT cS cJ : ClassId) (ad : Nat → Nat) (M : Mem) (qo : Nat) (fo : Nat → Int64) (sa sz : Nat) (U : State) : Prop := U.heap.size = sz ∧ va_P D vwCl (wOX cI cT cS cJ ad M qo fo) U.heap ∧ va_D (fun _ => True) (wOX cI cT cS cJ ad M qo fo) ∧ va_K D vwCl (tyL cI cT cS cJ) U ∧ va_Nw nW U ∧ mX sa (va_A (wOX cI cT cS cJ ad M qo fo) sz) U
theorem lPre_blind {qo sa sz : Nat} {fo : Nat → Int64} {As : List Value} : FrameBlind (va_Pc As (lPre D cI cT cS cJ ad M qo fo sa sz)) := by
  intro a U g mk q
  obtain ⟨q0, q1, qP, qD, qK, qN, qM⟩ := q
  exact ⟨q0, q1, qP, qD, va_K.moved (u := U) (U := U.calling g mk a) (Vm.Alike.refl U.vm) qK, va_Nw.same (u := U) (U := U.calling g mk a) rfl rfl qN, qM.call⟩
abbrev lMet (l : Launch) (D : va_G) (cI cT cS cJ : ClassId) (ad : Nat → Nat) (M : Mem) (qo : Nat) (fo fo' : Nat → Int64) (sa sz : Nat) (x1 r : Int32) : Prop :=
  Met l yL_message (Cond.codeWith yL_message cL_message 4 (some .int) [(0, 9, 12, 13)] :: gW) { frames := 8, cells := 1, slots := 6, locals := 121 } (va_Pc [.ref (ad 0), .int x1, .ref qo] (lPre D cI cT cS cJ ad M qo fo sa sz)) (va_Qi (fun (r' : Int32) (_ : Unit) => r' = r) (fun _ t => va_P D vwCl (wOX cI cT cS cJ ad M qo fo') t.heap ∧ va_D (va_A (wOX cI cT cS cJ ad M qo fo) sz) (wOX cI cT cS cJ ad M qo fo')) (va_A (wOX cI cT cS cJ ad M qo fo) sz)) 1 6 (va_A (wOX cI cT cS cJ ad M qo fo) sz)
set_option maxRecDepth 100000 in
theorem c_L_in {qo sa sz : Nat} {fo : Nat → Int64} {x1 v : Int32} (h1 : f_X6_within x1 0 (M 10 3 - 1) M = some (1, M)) (h2 : ldI M 12 100 x1 = some v) : lMet l D cI cT cS cJ ad M qo fo (vp_updL fo 0 v.toInt64) sa sz x1 0 := by
  refine va_MetW (cc := cL_message) (maxL := 4) (ret := some .int) (hh := [(0, 9, 12, 13)]) (by decide) rfl ?_
  intro p e s m args below meth c s₁ B hml hv
  obtain ⟨rfl, rfl, hP, hD0, hK, hN, hmx⟩ := hv
  have hts := atoms_spec (ws := Cond.codeWith yL_message cL_message 4 (some .int) [(0, 9, 12, 13)] :: gW) B.pre
  have hown : s.vm.findClass RL = some m.cls := findClass_of_methodNamed B.named
  have S : CallFix p m c cL_message 4 s ([.ref (ad 0), .int x1, .ref qo] : List Value).toArray gW RL := ⟨B.exec, B.bytes, hml, hown, fun w hw => hts w (List.mem_cons_of_mem _ hw)⟩
  have w : kWd D (va_A (wOX cI cT cS cJ ad M qo fo) s.heap.size) (wOX cI cT cS cJ ad M qo fo) s s.heap [] := ⟨hP, hD0.self, va_S.rf, fun q h => Or.inr h⟩
  have hx := S.1
  have hb := S.2.1
  have hl := lv_entry ([.ref (ad 0), .int x1, .ref qo] : List Value) (n := 4) (Nat.le_of_ble_eq_true rfl)
  rw [lg_entry_eq]
  generalize (lg_sl ([.ref (ad 0), .int x1, .ref qo] : List Value) ++ List.replicate (4 - (lg_sl ([.ref (ad 0), .int x1, .ref qo] : List Value)).length) Slot.unset).toArray = ls at hl ⊢
  have hl : lv_has ls 4 [(0, .ref (ad 0)), (1, .int x1), (2, .ref qo)] := hl
  refine lv_aload_n hx hb dL_message_0 rfl (lv_at hl 2 rfl) ?_
  refine lv_iconst (v := 0) hx hb dL_message_1 (by decide) ?_
  refine lv_aload_n hx hb dL_message_2 rfl (lv_at hl 0 rfl) ?_
  refine lv_iload_n hx hb dL_message_3 rfl (lv_at hl 1 rfl) ?_
  refine q_callI (rest := [.int 0, .ref qo]) (wr := wO cJ qo fo) S (hK.sub (tys' := xty cI cT cS) [0, 1, 2] rfl) hN w (c_X6_message_in (gInj_D (va_Dr w.2.1)) h1 h2) ob_X6 rfl gv_L_7 md_X6_message rfl ⟨Nat.le_of_ble_eq_true rfl, Nat.le_of_ble_eq_true rfl⟩ hl.1 rfl (Nat.le_of_ble_eq_true rfl) ⟨Nat.zero_le _, Nat.zero_le _⟩ dL_message_4 (fun H locs w => ?_)
  refine lv_i2l hx hb dL_message_7 rfl ?_
  refine va_last hx hb hK w.1 w.2.1 w.2.2.1 0 3 (cA := cJ) (n := 1) (f := fo) rfl rfl (show vp_in (0 : Int32) 1 from inb_in rfl) dL_message_8 (fun H locs hP hD hS => ?_)
  refine lv_goto (tgt := 15) hx hb dL_message_9 (by decide) ?_
  refine lv_iconst (v := 0) hx hb dL_message_15 (by decide) ?_
  refine W.widen (k := 1) (n := 6) (Nat.zero_le _) (Nat.zero_le _) ?_
  exact W.iret hx hb B.returns (fun t ht hW => ⟨⟨0, (), rfl, rfl, by rw [ht]; exact hP, hD⟩, hS.F ht⟩) hS.2.2 dL_message_16
set_option maxRecDepth 100000 in
theorem c_L_out (hl0 : l.stackTraces = false) {qo sa sz : Nat} {fo : Nat → Int64} {x1 : Int32} (h1 : f_X6_within x1 0 (M 10 3 - 1) M = some (0, M)) : lMet l D cI cT cS cJ ad M qo fo fo sa sz x1 1 := by
  refine va_MetW (cc := cL_message) (maxL := 4) (ret := some .int) (hh := [(0, 9, 12, 13)]) (by decide) rfl ?_
  intro p e s m args below meth c s₁ B hml hv
  obtain ⟨rfl, rfl, hP, hD0, hK, hN, hmx⟩ := hv
  have hts := atoms_spec (ws := Cond.codeWith yL_message cL_message 4 (some .int) [(0, 9, 12, 13)] :: gW) B.pre
  have hown : s.vm.findClass RL = some m.cls := findClass_of_methodNamed B.named
  have S : CallFix p m c cL_message 4 s ([.ref (ad 0), .int x1, .ref qo] : List Value).toArray gW RL := ⟨B.exec, B.bytes, hml, hown, fun w hw => hts w (List.mem_cons_of_mem _ hw)⟩
  have htab : c.exceptionTable.toList = [({ startPc := 0, endPc := 9, handlerPc := 12, catchType := 13 } : ExceptionTableEntry)] := vx_table (x := yL_message) B (hts _ List.mem_cons_self)
  have w : kWd D (va_A (wOX cI cT cS cJ ad M qo fo) s.heap.size) (wOX cI cT cS cJ ad M qo fo) s s.heap [] := ⟨hP, hD0.self, va_S.rf, fun q h => Or.inr h⟩
  have hx := S.1
  have hb := S.2.1
  have hl := lv_entry ([.ref (ad 0), .int x1, .ref qo] : List Value) (n := 4) (Nat.le_of_ble_eq_true rfl)
  rw [lg_entry_eq]
  generalize (lg_sl ([.ref (ad 0), .int x1, .ref qo] : List Value) ++ List.replicate (4 - (lg_sl ([.ref (ad 0), .int x1, .ref qo] : List Value)).length) Slot.unset).toArray = ls at hl ⊢
  have hl : lv_has ls 4 [(0, .ref (ad 0)), (1, .int x1), (2, .ref qo)] := hl
  refine lv_aload_n hx hb dL_message_0 rfl (lv_at hl 2 rfl) ?_
  refine lv_iconst (v := 0) hx hb dL_message_1 (by decide) ?_
  refine lv_aload_n hx hb dL_message_2 rfl (lv_at hl 0 rfl) ?_
  refine lv_iload_n hx hb dL_message_3 rfl (lv_at hl 1 rfl) ?_
  have hG : GoodIn gW (wsV RL 7 RX6 yX6_message (Cond.code yX6_message cX6_message 2 (some .int) :: gW)) := by
    intro q hq
    have hm : q ∈ gW := by
      simp only [wsV, List.mem_append, List.mem_cons, List.not_mem_nil, or_false] at hq
      rcases hq with (rfl | rfl | rfl | rfl) | rfl | hq
      · exact gv_L_7.1
      · exact gv_L_7.2.1
      · exact gv_L_7.2.2.1
      · exact gv_L_7.2.2.2.1
      · exact gv_L_7.2.2.2.2
      · exact hq
    exact ⟨hm, gw_good q hm⟩
  have hKx := hK.sub (tys' := xty cI cT cS) [0, 1, 2] rfl
  have hF : ∀ q, gA 241 ad q → va_A (wOX cI cT cS cJ ad M qo fo) s.heap.size q := fun q ⟨j, hj, e⟩ => by
    rw [e]
    exact (va_Dr w.2.1).2 j _ (gw_at hj)
  refine vx_calli (SX := Unit) (px := fun _ => True) (vx_runV (C := RX6) (As := [.int x1]) (rest := [.int 0, .ref qo]) S (c_X6_message_out (sa := sa) hl0 (gInj_D (va_Dr w.2.1)) h1) (cwV 1 S.2.2.2.2 hG rfl rfl rfl ⟨rfl, md_X6_message⟩ ⟨Nat.le_of_ble_eq_true rfl, Nat.le_of_ble_eq_true rfl⟩) ⟨mPre_blind, va_recv hKx (va_Pr w.1) (ci := 8) rfl (by rw [gw_at (show 0 < 241 by omega)]; rfl), fun U hU hW => ⟨rfl, ⟨by rw [hU]; exact va_Pr w.1, va_K.moved hW.alike hKx, va_Nw.warmM hW hN⟩, hmx.to hW (fun a _ _ => by rw [hU]) hF⟩⟩ rfl rfl hl.1 rfl (lv_room (Nat.le_of_ble_eq_true rfl)) dL_message_4 ⟨Nat.le_of_ble_eq_true rfl, Nat.le_of_ble_eq_true rfl⟩) w.2.2.1 (fun q _ h => hF q h) hF (fun q _ h => hF q h) (fun E ce q9 u t H1 locs1 ht hvm hp hB hz1 hk1 hS1 hc9 hv9 hcl => ?_) (fun r u t H1 locs1 ht hvm hp hB hz1 hk1 hS1 => hp.elim)
  obtain ⟨rfl, hP1⟩ := hB
  rw [ht] at hP1
  obtain ⟨hP2, hD2⟩ := k_joinG w.1 w.2.1 hk1 hP1
  refine vx_catch hown [] ({ startPc := 0, endPc := 9, handlerPc := 12, catchType := 13 } : ExceptionTableEntry) [] htab (fun z hz => by cases hz) rfl (by decide) (S.2.2.2.2 _ kz_L_13) (va_Nw.use rfl (hmx.2.2.2 _ (List.mem_of_getElem? (i := 4) rfl))) hc9 hv9 hcl ?_
  refine lv_astore_n (lv' := [(3, .ref q9), (0, .ref (ad 0)), (1, .int x1), (2, .ref qo)]) hx hb dL_message_12 rfl hl (by decide) rfl (fun ls hl => ?_)
  refine lv_iconst (v := 1) hx hb dL_message_13 (by decide) ?_
  exact W.iret hx hb B.returns (fun t ht hW => ⟨⟨1, (), rfl, rfl, by rw [ht]; exact hP2, hD2⟩, hS1.F ht⟩) hS1.2.2 dL_message_14
/-- the law calls it -/
theorem q_msg (S : CallFix p m c cc nL s args gW RL) (hK : va_K D vwCl (tyL cI cT cS cJ) s) (hN : va_Nw nW s) {wr : va_W} {qo sa : Nat} {fo fo' : Nat → Int64} {x1 r : Int32} (hmx : mX sa A s) (w : kWd D A (wr ++ wOX cI cT cS cJ ad M qo fo) s H locs) (hM : lMet l D cI cT cS cJ ad M qo fo fo' sa H.size x1 r) (hh : 9 ≤ R.frames ∧ 144 ≤ R.locals) (hsz : ls.size = nL) (hr8 : (rest.map fun v => v.category).sum ≤ 8) (hcs : cells + 1 ≤ R.cells ∧ slots + 6 ≤ R.slots) (hdg : decode cc pc = .ok (.invokestatic 61, 3))
    (kk : ∀ (H1 : Heap) (locs1 : List Loc), kWd D A (wr ++ wOX cI cT cS cJ ad M qo fo') s H1 locs1 → W p l e R s m args below meth c H1 locs1 (cells + 1) (slots + 6) Q (F0 m (pc + 3) ls (.int r :: rest))) : W p l e R s m args below meth c H locs cells slots Q (F0 m pc ls (.ref qo :: .int x1 :: .ref (ad 0) :: rest)) := by
  obtain ⟨hP, hD, hS, hA⟩ := w
  have hG : GoodIn gW (va_wsS RL 61 yL_message (Cond.codeWith yL_message cL_message 4 (some .int) [(0, 9, 12, 13)] :: gW)) := by
    intro q hq
    have hm : q ∈ gW := by
      simp only [va_wsS, List.mem_append, List.mem_cons, List.not_mem_nil, or_false] at hq
      rcases hq with (rfl | rfl | rfl) | rfl | hq
      · exact kL_1
      · exact kL_2
      · exact ki_L
      · exact kL_3
      · exact hq
    exact ⟨hm, gw_good q hm⟩
  have hF : ∀ q, va_A (wOX cI cT cS cJ ad M qo fo) H.size q → A q := by
    intro q h
    rcases h with ⟨k, e, h⟩ | h
    · exact (va_Dr hD).2 k (q, e) h
    · exact hA q (Nat.le_trans hS.1 h)
  refine va_calli (vx_runSW (As := [.ref (ad 0), .int x1, .ref qo]) (rest := rest) S hM (vx_cwSW 3 S.2.2.2.2 hG rfl rfl rfl md_L_message ⟨by show 8 + 1 ≤ _; omega, by show 8 + (4 + 11) + 121 ≤ _; omega⟩) ⟨lPre_blind, fun U hU hW => ⟨rfl, by rw [hU], by rw [hU]; exact va_Pr hP, (va_Dr hD).weaken (fun _ _ _ _ => trivial), va_K.moved hW.alike hK, va_Nw.warmM hW hN, hmx.to hW (fun a h1 h2 => by rw [hU]; exact hS.2.1 a h1 h2) hF⟩⟩ rfl rfl hsz rfl (lv_room hr8) hdg hcs) hS (fun q _ h => hF q h) hF (fun r' u t H1 locs1 ht hvm hp hB hz1 hk1 hS1 => ?_)
  subst hp
  obtain ⟨hP1, hD1⟩ := hB
  rw [ht] at hP1
  obtain ⟨hP2, hD2⟩ := k_join hP hD hk1 hF hP1 hD1
  exact kk H1 locs1 ⟨hP2, hD2, hS1, hA⟩
end MS
