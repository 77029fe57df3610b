/-! The law from its entry -/
set_option maxRecDepth 100000 in
theorem ginJ0 : ∀ w ∈ u_ws RJ0 TJ0 2, w ∈ gW := gw_ins [555, 557] (by decide +kernel) (by decide +kernel)
set_option maxRecDepth 100000 in
theorem ginJx00060 : ∀ w ∈ u_ws RJx00060 TJx00060 6, w ∈ gW := gw_ins [521, 523, 525, 527, 529, 531] (by decide +kernel) (by decide +kernel)
theorem kb_J0 : Cond.instantiable RJ0 4 ∈ gW := gw_in 553 (by decide +kernel) rfl
theorem kb_E : Cond.instantiable RJx00060 6 ∈ gW := gw_in 486 (by decide +kernel) rfl
theorem kb_X6 : Cond.instantiable RX6 11 ∈ gW := gw_in 55 (by decide +kernel) rfl
theorem kb_X7 : Cond.instantiable RX7 41 ∈ gW := gw_in 567 (by decide +kernel) rfl
theorem kw_AJ : Cond.arrayClass .long ∈ gW := gw_in 839 (by decide +kernel) rfl
theorem kz_L_8 : Cond.classLink RL 8 RX6 ∈ gW := gw_in 54 (by decide +kernel) rfl
theorem kz_L_16 : Cond.classLink RL 16 RX7 ∈ gW := gw_in 566 (by decide +kernel) rfl
theorem kl_L_15 : Cond.methodLink RL 15 yX6_init ∈ gW := gw_in 56 (by decide +kernel) rfl
theorem kl_L_18 : Cond.methodLink RL 18 yX7_init ∈ gW := gw_in 568 (by decide +kernel) rfl
theorem kc_X6_init : Cond.code yX6_init cX6_init 2 none ∈ gW := gw_in 58 (by decide +kernel) rfl
theorem kc_X7_init : Cond.code yX7_init cX7_init 1 none ∈ gW := gw_in 570 (by decide +kernel) rfl
theorem kn_X6_init : Cond.instanceMethod yX6_init ∈ gW := gw_in 57 (by decide +kernel) rfl
theorem kn_X7_init : Cond.instanceMethod yX7_init ∈ gW := gw_in 569 (by decide +kernel) rfl
theorem ki_T : Cond.initialized Bundle.tN ∈ gW := gw_in 48 (by decide +kernel) rfl
theorem mB_tbl : ∀ w ∈ mB, w ∈ lw_tbl := by
  have h : mB = ([536, 538, 540, 542, 534] : List Nat).filterMap (fun i => lw_tbl[i]?) := by decide +kernel
  intro w hw
  rw [h] at hw
  obtain ⟨i, -, hi⟩ := List.mem_filterMap.mp hw
  exact List.mem_of_getElem? hi
theorem df_X6 : ∀ j, j < 11 → defaultValue (tyX6 j) = vp_V [.null, .null, .null, .null, .null, .int 0, .int 0, .int 0, .int 0, .int 0, .int 0] j := by
  intro j hj
  rcases (show j = 0 ∨ j = 1 ∨ j = 2 ∨ j = 3 ∨ j = 4 ∨ j = 5 ∨ j = 6 ∨ j = 7 ∨ j = 8 ∨ j = 9 ∨ j = 10 by omega) with rfl | rfl | rfl | rfl | rfl | rfl | rfl | rfl | rfl | rfl | rfl <;> rfl
section QS
variable {p : Program} {l : Launch} {e : Env} {R : Room} {s : State} {m : MethodId} {args : Array Value} {below : List Frame} {meth : Method} {c : Code} {H : Heap} {locs : List Loc} {cells slots : Nat} {Q : State → Prop} {cc : ByteArray} {nL pc : Nat} {own : String} {ls : Array Slot} {rest : List Value} {D : va_G} {tl tys : List (ClassId × FieldType)} {A : Nat → Prop} {ws : va_W} {cI cT cS cJ : ClassId}
theorem q_new (S : CallFix p m c cc nL s args gW own) (hK : va_K D vwCl tys s) (w : kWd D A ws s H locs) {CN : String} {T : u_T} {NF ci index : Nat} {fs : List Value} (hin : ∀ w ∈ u_ws CN T NF, w ∈ gW) (ty0 : Nat → FieldType) (hty : ∀ k, k < NF → parseFieldDescriptor (T k).2.2.1 = some (ty0 k)) (h1 : Cond.classLink own index CN ∈ gW) (h2 : Cond.instantiable CN NF ∈ gW) (h3 : Cond.initialized CN ∈ gW) (hc : vwCl[ci]? = some (CN, T, NF)) (hfs : ∀ j, j < NF → defaultValue (ty0 j) = vp_V fs j) (hcells : cells + 1 ≤ R.cells) (hslots : slots + NF ≤ R.slots) (hdg : decode cc pc = .ok (.new index, 3))
    (kk : ∀ (q : Nat) (H1 : Heap), kWd D A (ws ++ [(q, .inr (ci, fs))]) s H1 locs → W p l e R s m args below meth c H1 locs (cells + 1) (slots + NF) Q (F0 m (pc + 3) ls (.ref q :: rest))) : W p l e R s m args below meth c H locs cells slots Q (F0 m pc ls rest) := by
  obtain ⟨hx, hb, hml, hown, hts⟩ := S
  obtain ⟨hP, hD, hS, hA⟩ := w
  exact va_new hx hb hts hin ty0 hty hown (hts _ h1) (hts _ h2) (hts _ h3) hK hP hD hS hA hc hfs hcells hslots hdg (fun q H1 hP1 hD1 hS1 => kk q H1 ⟨hP1, hD1, hS1, hA⟩)
theorem q_newl (S : CallFix p m c cc nL s args gW own) (hK : va_K D vwCl (tyL cI cT cS cJ) s) (w : kWd D A ws s H locs) (hcells : cells + 1 ≤ R.cells) (hslots : slots + 1 ≤ R.slots) (hdg : decode cc pc = .ok (.newarray .long, 2))
    (kk : ∀ (q : Nat) (H1 : Heap), kWd D A (ws ++ wO cJ q (fun _ => 0)) s H1 locs → W p l e R s m args below meth c H1 locs (cells + 1) (slots + 1) Q (F0 m (pc + 2) ls (.ref q :: rest))) : W p l e R s m args below meth c H locs cells slots Q (F0 m pc ls (.int 1 :: rest)) := by
  obtain ⟨hx, hb, hml, hown, hts⟩ := S
  obtain ⟨hP, hD, hS, hA⟩ := w
  refine va_newa (atype := .long) (a0 := (1, .inr (.inl (fun _ => 0)))) (ty := .long) hx hb (hts _ kw_AJ) rfl hK hP hD hS hA (fun _ => rfl) (by decide) (by decide) (by decide) hcells hslots hdg (fun q cA H1 hK1 hP1 hD1 hS1 => ?_)
  have e1 : va_RA s cA .long := (hK1.2 4 (cA, .long) rfl).2
  have e2 : va_RA s cJ .long := (hK.2 3 (cJ, .long) rfl).2
  have e3 : cA = cJ := Option.some.inj ((show s.vm.findClass ("[" ++ FieldType.long.toString) = some cA from e1).symm.trans e2)
  subst e3
  exact kk q H1 ⟨hP1, hD1, hS1, hA⟩
theorem q_init (S : CallFix p m c cc nL s args gW own) (hK : va_K D vwCl tys s) (hN : kN s) {wr : va_W} {q : Nat} {w0 : va_E} (w : kWd D A (wr ++ [(q, w0)]) s H locs) {y : MethodName} {bytes : ByteArray} {maxL index : Nat} {rm : Room} {wf : (Nat → Nat) → va_W} (hM : kMet l y bytes maxL rm D tys q w0 H.size wf) (hlk : Cond.methodLink own index y ∈ gW) (hyn : y.name = "<init>") (h1 : Cond.code y bytes maxL none ∈ gW) (h2 : Cond.initialized y.cls ∈ gW) (h3 : Cond.instanceMethod y ∈ gW) (hd : gMd y 0) (hR : rm.frames + 1 ≤ R.frames ∧ 8 + (maxL + 11) + rm.locals ≤ R.locals) (hsz : ls.size = nL) (hr8 : (rest.map fun v => v.category).sum ≤ 8) (hdg : decode cc pc = .ok (.invokespecial index, 3)) (hf : cells + rm.cells ≤ R.cells ∧ slots + rm.slots ≤ R.slots)
    (kk : ∀ (a : Nat → Nat) (H1 : Heap) (locs1 : List Loc), a 0 = q → kWd D A (wr ++ wf a) s H1 locs1 → W p l e R s m args below meth c H1 locs1 (cells + rm.cells) (slots + rm.slots) Q (F0 m (pc + 3) ls rest)) : W p l e R s m args below meth c H locs cells slots Q (F0 m pc ls (.ref q :: rest)) := by
  obtain ⟨hx, hb, hml, hown, hts⟩ := S
  obtain ⟨hP, hD, hS, hA⟩ := w
  have hG : GoodIn gW (Cond.code y bytes maxL none :: gW) := by
    intro z hz
    have hm : z ∈ gW := by
      rcases List.mem_cons.mp hz with rfl | hz
      · exact h1
      · exact hz
    exact ⟨hm, gw_good z hm⟩
  have hPc : va_P D vwCl [(q, w0)] H := va_Pr hP
  have hF : ∀ z, va_A [(q, w0)] H.size z → A z := by
    intro z h
    rcases h with ⟨k, e, h⟩ | h
    · exact (va_Dr hD).2 k (z, e) h
    · exact hA z (Nat.le_trans hS.1 h)
  refine va_callv (va_runI (As := []) (rest := rest) (Ts := gW) ⟨hx, hb, hml, hown, hts⟩ hM (cwI 0 hts hG rfl rfl rfl (hts _ h2) (hts _ hlk) (hts _ h3) hyn hd hR) ⟨kPre_blind, fun U hU hW => ⟨rfl, by rw [hU], by rw [hU]; exact hPc, va_K.moved hW.alike hK, hN.warm hW⟩⟩ rfl rfl hsz rfl (lv_room hr8) hdg hf) hS (fun z _ h => hF z h) hF (fun a t H1 locs1 ht hvm hw hB hz1 hk1 hS1 => ?_)
  obtain ⟨hP1, hD1⟩ := hB
  rw [ht] at hP1
  obtain ⟨hP2, hD2⟩ := k_join hP hD hk1 hF hP1 hD1
  exact kk a H1 locs1 hw ⟨hP2, hD2, hS1, hA⟩
end QS
theorem rel_first {M1 : Mem} (hb1 : f_X7_begins M0y = some (0, M1)) : Rel 0 0 0 M0x M1 := by
  obtain ⟨M', b1, b2, b3, b4, b5, b6, b7, b8⟩ := begins_eq M0y
  have e : M1 = M' := by
    rw [b1] at hb1
    exact (Prod.mk.inj (Option.some.inj hb1)).2.symm
  subst e
  have z : ∀ a b, M0y a b = 0 := fun _ _ => rfl
  refine rel_new ?_ (fun b hb => ?_) (fun b hb => ?_) (fun j hj => M0x_ne (by omega) (by omega)) (M0x_ne (by omega) (by omega)) ⟨M0x_ne (by omega) (by omega), M0x_ne (by omega) (by omega)⟩ ⟨fun t ht => M0x_ne (by omega) (by omega), fun t ht => M0x_ne (by omega) (by omega)⟩ (fun s hs => ⟨(M0x_S (by omega)).1, (M0x_S (by omega)).2, fun t ht => M0x_ne (by omega) (by omega), fun t ht => M0x_ne (by omega) (by omega), fun t ht => M0x_ne (by omega) (by omega)⟩) (fun t ht => ⟨fun j hj => ?_, fun i r hi hr => ?_⟩) b2 b3 b4 b5 b6 b7 (fun b hb => ⟨0, by omega, ?_⟩)
  · rw [b8 0 25 (by omega) (by omega), z]
    exact M0x_ne (by omega) (by omega)
  · rw [b8 14 b (by omega) (by omega), z]
    exact M0x_ne (by omega) (by omega)
  · rw [b8 15 b (by omega) (by omega), z]
    exact M0x_ne (by omega) (by omega)
  · rw [b8 5 _ (by omega) (by omega), z]
    exact M0x_ne (by omega) (by omega)
  · rw [b8 9 _ (by omega) (by omega), z]
    exact M0x_ne (by omega) (by omega)
  · rw [b8 22 b (by omega) (by omega)]
    rfl
set_option maxHeartbeats 4000000 in
set_option maxRecDepth 100000 in
theorem whole_start {p : Program} {e : Env} {s : State} {m : MethodId} {below : List Frame} {meth : Method} {c : Code} (l : Launch) (hl0 : l.stackTraces = false) {b L : Nat} {xs : Nat → Int32} (hL : L ≤ 3072) (C0 : lw_At p s m meth c b L xs) : W p l e room_1 s m #[Value.ref b] below meth c s.heap [] 0 0 (lw_Z below #[Value.ref b] s) (entryFrame m ([Value.ref b] : List Value).toArray 7) := by
  obtain ⟨hx, hb, hr, hml, hown, hts, hX, hbl, hlocks, hgv⟩ := C0
  have hgw : ∀ w ∈ gW, w.before #[Value.ref b] s = true := fun w hw => hts w (gw_tbl w hw)
  have S : CallFix p m c cL_law 7 s #[Value.ref b] gW RL := ⟨hx, hb, hml, hown, hgw⟩
  obtain ⟨c0, i0, k0⟩ := u_known (C := RJ0) (T := TJ0) (N := 2) (n := 4) hgw ginJ0 (hgw _ kb_J0)
  obtain ⟨c1, i1, k1⟩ := u_known (C := RJx00060) (T := TJx00060) (N := 6) (n := 6) hgw ginJx00060 (hgw _ kb_E)
  obtain ⟨c2, i2, k2⟩ := u_known (C := RX0) (T := TX0) (N := 4) (n := 4) hgw ginX0 (hgw _ kb_X0)
  obtain ⟨c3, i3, k3⟩ := u_known (C := RX1) (T := TX1) (N := 2) (n := 2) hgw ginX1 (hgw _ kb_X1)
  obtain ⟨c4, i4, k4⟩ := u_known (C := RX2) (T := TX2) (N := 3) (n := 3) hgw ginX2 (hgw _ kb_X2)
  obtain ⟨c5, i5, k5⟩ := u_known (C := RX3) (T := TX3) (N := 4) (n := 4) hgw ginX3 (hgw _ kb_X3)
  obtain ⟨c6, i6, k6⟩ := u_known (C := RX4) (T := TX4) (N := 13) (n := 13) hgw ginX4 (hgw _ kb_X4)
  obtain ⟨c7, i7, k7⟩ := u_known (C := RX5) (T := TX5) (N := 4) (n := 4) hgw ginX5 (hgw _ kb_X5)
  obtain ⟨c8, i8, k8⟩ := u_known (C := RX6) (T := TX6) (N := 11) (n := 11) hgw ginX6 (hgw _ kb_X6)
  obtain ⟨c9, i9, k9⟩ := u_known (C := RX7) (T := TX7) (N := 41) (n := 41) hgw ginX7 (hgw _ kb_X7)
  obtain ⟨D, hKc⟩ : ∃ D : va_G, ∀ (k : Nat) (q : vw_C), vwCl[k]? = some q → u_Kn s q.1 q.2.1 q.2.2 (D.1 k) (D.2 k) := by
    refine ⟨(fun k => ([c0, c1, c2, c3, c4, c5, c6, c7, c8, c9] : List ClassId).getD k c0, fun k => ([i0, i1, i2, i3, i4, i5, i6, i7, i8, i9] : List (Nat → Nat)).getD k i0), ?_⟩
    intro k q hq
    match k, hq with
    | 0, hq => cases hq; exact k0
    | 1, hq => cases hq; exact k1
    | 2, hq => cases hq; exact k2
    | 3, hq => cases hq; exact k3
    | 4, hq => cases hq; exact k4
    | 5, hq => cases hq; exact k5
    | 6, hq => cases hq; exact k6
    | 7, hq => cases hq; exact k7
    | 8, hq => cases hq; exact k8
    | 9, hq => cases hq; exact k9
    | k + 10, hq => simp [vwCl] at hq
  obtain ⟨cI, kI, mI, fI, gI, jI⟩ := Cond.arrayClass_spec (hgw _ kw_AI)
  obtain ⟨cZ, kZ, mZ, fZ, gZ, jZ⟩ := Cond.arrayClass_spec (hgw _ kw_AZ)
  obtain ⟨cJ, kJ, mJ, fJ, gJ, jJ⟩ := Cond.arrayClass_spec (hgw _ kw_AJ)
  have hO4 : (Cond.arrayOver (.object RX4)).before #[Value.ref b] s = true := hts _ (List.mem_of_getElem? (i := 63) (by decide +kernel))
  have hO3 : (Cond.arrayOver (.object RX3)).before #[Value.ref b] s = true := hts _ (List.mem_of_getElem? (i := 65) (by decide +kernel))
  obtain ⟨mT, cT, kT, t1, t2, t3, t4, t5⟩ := Cond.arrayOver_spec hO4
  obtain ⟨mS, cS, kS, s1, s2, s3, s4, s5⟩ := Cond.arrayOver_spec hO3
  have aI : ArrOfT s cI .int ∧ va_RA s cI .int := ⟨fun n z => ⟨fun k h => (by cases h), kI, gI, mI, jI⟩, fI⟩
  have aZ : ArrOfT s cZ .boolean ∧ va_RA s cZ .boolean := ⟨fun n z => ⟨fun k h => (by cases h), kZ, gZ, mZ, jZ⟩, fZ⟩
  have aJ : ArrOfT s cJ .long ∧ va_RA s cJ .long := ⟨fun n z => ⟨fun k h => (by cases h), kJ, gJ, mJ, jJ⟩, fJ⟩
  have aT : ArrOfT s cT (.object RX4) ∧ va_RA s cT (.object RX4) := ⟨fun n z => ⟨fun k h => (by cases h), kT, t3, mT, t4⟩, kT, mT, t3, t4, t1, t5⟩
  have aS : ArrOfT s cS (.object RX3) ∧ va_RA s cS (.object RX3) := ⟨fun n z => ⟨fun k h => (by cases h), kS, s3, mS, s4⟩, kS, mS, s3, s4, s1, s5⟩
  have hKL : va_K D vwCl (tyL cI cT cS cJ) s := by
    refine ⟨hKc, fun k q hq => ?_⟩
    match k, hq with
    | 0, hq => cases hq; exact aI
    | 1, hq => cases hq; exact aT
    | 2, hq => cases hq; exact aS
    | 3, hq => cases hq; exact aJ
    | k + 4, hq => simp at hq
  have hKy : va_K D vwCl (yty cI cZ) s := by
    refine ⟨hKc, fun k q hq => ?_⟩
    match k, hq with
    | 0, hq => cases hq; exact aI
    | 1, hq => cases hq; exact aZ
    | k + 2, hq => simp at hq
  have hKx : va_K D vwCl (xty cI cT cS) s := hKL.sub (tys' := xty cI cT cS) [0, 1, 2] rfl
  have hN : kN s := by
    refine ⟨fun q hq => ?_, va_AO.of hO4, va_AO.of hO3⟩
    simp only [kNs, List.mem_cons, List.not_mem_nil, or_false] at hq
    rcases hq with rfl | rfl | rfl | rfl | rfl | rfl | rfl | rfl
    · exact va_Nw.of rfl (hts _ (List.mem_of_getElem? (i := 68) (by decide +kernel)))
    · exact va_Nw.of rfl (hts _ (List.mem_of_getElem? (i := 83) (by decide +kernel)))
    · exact va_Nw.of rfl (hts _ (List.mem_of_getElem? (i := 106) (by decide +kernel)))
    · exact va_Nw.of rfl (hts _ (List.mem_of_getElem? (i := 128) (by decide +kernel)))
    · exact va_Nw.of rfl (hts _ (List.mem_of_getElem? (i := 134) (by decide +kernel)))
    · exact va_Nw.of rfl (hts _ (List.mem_of_getElem? (i := 204) (by decide +kernel)))
    · exact va_Nw.of rfl (hts _ (List.mem_of_getElem? (i := 209) (by decide +kernel)))
    · exact va_Nw.of rfl (hts _ (List.mem_of_getElem? (i := 429) (by decide +kernel)))
  have hs := flat_of_before _ hgv
  have hA0 : ∀ a : Nat, a < s.heap.size → ¬ (fun q : Nat => s.heap.size ≤ q) a := fun a h => Nat.not_le.mpr h
  obtain ⟨sa, -, -, -, hsa, -⟩ := Cond.exactly_spec (args := #[Value.ref b]) (first := s) (o := none) (s := s) (idx := []) (t := .string "ExtensionStarts" 174) (cls := "java/lang/String") (hs _ (by decide +kernel))
  have hmx : mX sa (fun q => s.heap.size ≤ q) s := ⟨vx_Zqof (hts _ (List.mem_of_getElem? (i := 503) (by decide +kernel))) (hgw _ ki_T) (hs _ (by decide +kernel)) hA0, vx_Zqof (hts _ (List.mem_of_getElem? (i := 505) (by decide +kernel))) (hgw _ ki_T) (hs _ (by decide +kernel)) hA0, vk_R.of (A := #[Value.ref b]) (hts _ (List.mem_of_getElem? (i := 564) (by decide +kernel))) hsa, fun w hw => va_Nw.of (mB_face w hw).2 (hts w (mB_tbl w hw))⟩
  have w : kWd D (fun q => s.heap.size ≤ q) [] s s.heap [] := ⟨fun k q h => by simp at h, ⟨fun i j x y h => by simp at h, fun k q h => by simp at h⟩, va_S.rf, fun _ h => h⟩
  have C : LC p s m meth c b L xs D cI cT cS cZ cJ sa := ⟨S, hKL, hKy, hN.nW, hmx, hX, hbl, hr, hlocks, hL⟩
  have hl := lv_entry ([.ref b] : List Value) (n := 7) (Nat.le_of_ble_eq_true rfl)
  rw [lg_entry_eq]
  generalize (lg_sl ([.ref b] : List Value) ++ List.replicate (7 - (lg_sl ([.ref b] : List Value)).length) Slot.unset).toArray = ls at hl ⊢
  have hl : lv_has ls 7 [(0, .ref b)] := hl
  refine q_new (ci := 8) S hKx w ginX6 tyX6 tyX6_ok kz_L_8 kb_X6 ki_X6 rfl df_X6 (Nat.le_of_ble_eq_true rfl) (Nat.le_of_ble_eq_true rfl) dL_law_0 (fun q0 H w => ?_)
  refine lv_dup hx hb dL_law_3 rfl ?_
  refine q_init (wr := []) (rest := [.ref q0]) S hKx hN w c_X6_init kl_L_15 rfl kc_X6_init ki_X6 kn_X6_init ⟨by decide +kernel, by decide +kernel, by decide +kernel⟩ ⟨Nat.le_of_ble_eq_true rfl, Nat.le_of_ble_eq_true rfl⟩ hl.1 (Nat.le_of_ble_eq_true rfl) dL_law_4 ⟨Nat.le_of_ble_eq_true rfl, Nat.le_of_ble_eq_true rfl⟩ (fun aX H locs h0 w9 => ?_)
  subst h0
  refine W.widen (k := 241) (n := 4637) (Nat.le_of_ble_eq_true rfl) (Nat.le_of_ble_eq_true rfl) ?_
  refine lv_astore_n (lv' := [(1, .ref (aX 0)), (0, .ref b)]) hx hb dL_law_7 rfl hl (by decide) rfl (fun ls hl => ?_)
  refine q_new (ci := 9) S hKy w9 ginX7 tyX7 tyX7_ok kz_L_16 kb_X7 ki_X7 rfl df_X7 (Nat.le_of_ble_eq_true rfl) (Nat.le_of_ble_eq_true rfl) dL_law_8 (fun q1 H w => ?_)
  refine lv_dup hx hb dL_law_11 rfl ?_
  obtain ⟨M1, hbg, -⟩ := begins_eq M0y
  refine q_init (wr := gw 241 (xE cI cT cS) aX M0x) (rest := [.ref q1]) S hKy hN w (c_X7_init hbg) kl_L_18 rfl kc_X7_init ki_X7 kn_X7_init ⟨by decide +kernel, by decide +kernel, by decide +kernel⟩ ⟨Nat.le_of_ble_eq_true rfl, Nat.le_of_ble_eq_true rfl⟩ hl.1 (Nat.le_of_ble_eq_true rfl) dL_law_12 ⟨Nat.le_of_ble_eq_true rfl, Nat.le_of_ble_eq_true rfl⟩ (fun aY H locs h0 w9 => ?_)
  subst h0
  refine W.widen (k := 271) (n := 12012) (Nat.le_of_ble_eq_true rfl) (Nat.le_of_ble_eq_true rfl) ?_
  refine lv_astore_n (lv' := [(2, .ref (aY 0)), (1, .ref (aX 0)), (0, .ref b)]) hx hb dL_law_15 rfl hl (by decide) rfl (fun ls hl => ?_)
  refine lv_iconst (v := 1) hx hb dL_law_16 (by decide) ?_
  refine q_newl S hKL w9 (Nat.le_of_ble_eq_true rfl) (Nat.le_of_ble_eq_true rfl) dL_law_17 (fun qo H w => ?_)
  refine lv_astore_n (lv' := [(3, .ref qo), (2, .ref (aY 0)), (1, .ref (aX 0)), (0, .ref b)]) hx hb dL_law_19 rfl hl (by decide) rfl (fun ls hl => ?_)
  refine lv_iconst (v := 0) hx hb dL_law_20 (by decide) ?_
  refine lv_istore (lv' := [(4, .int 0), (3, .ref qo), (2, .ref (aY 0)), (1, .ref (aX 0)), (0, .ref b)]) hx hb dL_law_21 hl (by decide) rfl (fun ls hl => ?_)
  have w := kWd.asc w.sw
  exact law_loop (aX := aX) (aY := aY) (qo := qo) hl0 C (L + 1) 0 0 0 M0x M1 (fun _ => 0) H _ ls (by omega) (by omega) (rel_first hbg) w.sw hl
