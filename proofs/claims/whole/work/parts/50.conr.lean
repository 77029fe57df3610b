/-! Constructors: the rows -/
def kNs : List (String × Nat × MethodName × String) := [(RX6, 23, yX1_init, RX6), (RX6, 30, yX5_init, RX6), (RX6, 37, yX0_init, RX6), (RX6, 42, yX4_init, RX6), (RX4, 17, yX2_init, RX6), (RX6, 43, yX3_init, RX6), (RX3, 11, yX1_init, RX6), (RX5, 25, yX6_within, RX6)]
/-- the words that aren't of the tables alone: nest mates, arrays over a class -/
def kN (U : State) : Prop := (∀ q ∈ kNs, va_Nw (.methodLinkNest q.1 q.2.1 q.2.2.1 q.2.2.2) U) ∧ va_AO RX4 U ∧ va_AO RX3 U
theorem kN.warm {s U : State} (hW : s.WarmedH U.vm) (h : kN s) : kN U := ⟨fun q hq => va_Nw.warmM hW (h.1 q hq), h.2.1.moved hW.alike, h.2.2.moved hW.alike⟩
theorem kN.nW {U : State} (h : kN U) : va_Nw nW U := h.1 (RX5, 25, yX6_within, RX6) (by simp [kNs])
def kPre (D : va_G) (tys : List (ClassId × FieldType)) (w0 : Nat × va_E) (sz : Nat) (U : State) : Prop := U.heap.size = sz ∧ va_P D vwCl [w0] U.heap ∧ va_K D vwCl tys U ∧ kN U
theorem kPre_blind {D : va_G} {tys : List (ClassId × FieldType)} {w0 : Nat × va_E} {sz : Nat} {As : List Value} : FrameBlind (va_Pc As (kPre D tys w0 sz)) := by
  intro a U g mk q
  obtain ⟨q0, q1, qP, qK, qN, qA, qB⟩ := q
  exact ⟨q0, q1, qP, va_K.moved (u := U) (U := U.calling g mk a) (Vm.Alike.refl U.vm) qK, fun x hx => va_Nw.same (u := U) (U := U.calling g mk a) rfl rfl (qN x hx), va_AO.moved (u := U) (U := U.calling g mk a) (Vm.Alike.refl U.vm) qA, va_AO.moved (u := U) (U := U.calling g mk a) (Vm.Alike.refl U.vm) qB⟩
def kQ (D : va_G) (h0 : Nat) (wf : (Nat → Nat) → va_W) (A : Nat → Prop) : Array Value → State → Outcome → State → Prop := va_Qv (fun a : Nat → Nat => a 0 = h0) (fun a t => va_P D vwCl (wf a) t.heap ∧ va_D A (wf a)) A
abbrev kMet (l : Launch) (y : MethodName) (cc : ByteArray) (nL : Nat) (rm : Room) (D : va_G) (tys : List (ClassId × FieldType)) (h0 : Nat) (w0 : va_E) (sz : Nat) (wf : (Nat → Nat) → va_W) : Prop :=
  Met l y (Cond.code y cc nL none :: gW) rm (va_Pc [.ref h0] (kPre D tys (h0, w0) sz)) (kQ D h0 wf (va_A [(h0, w0)] sz)) rm.cells rm.slots (va_A [(h0, w0)] sz)
def kC (p : Program) (s : State) (m : MethodId) (args : Array Value) (meth : Method) (c : Code) (own : String) (cc : ByteArray) (nL : Nat) (D : va_G) (tys : List (ClassId × FieldType)) : Prop :=
  CallFix p m c cc nL s args gW own ∧ va_K D vwCl tys s ∧ kN s ∧ meth.name = "<init>" ∧ meth.sig.returnType = none ∧ meth.locks = false
def kWd (D : va_G) (A : Nat → Prop) (ws : va_W) (s : State) (H : Heap) (locs : List Loc) : Prop := va_P D vwCl ws H ∧ va_D A ws ∧ va_S A s.heap H locs ∧ ∀ q, s.heap.size ≤ q → A q
theorem kMet_of {l : Launch} {y : MethodName} {cc : ByteArray} {nL : Nat} {rm : Room} {D : va_G} {tys : List (ClassId × FieldType)} {h0 : Nat} {w0 : va_E} {sz : Nat} {wf : (Nat → Nat) → va_W} (hy : plainName y.cls = true) (hyn : y.name = "<init>") (hn : 1 ≤ nL)
    (body : ∀ (p : Program) (e : Env) (s : State) (m : MethodId) (args : Array Value) (below : List Frame) (meth : Method) (c : Code) (ls : Array Slot) (A : Nat → Prop), kC p s m args meth c y.cls cc nL D tys → kWd D A [(h0, w0)] s s.heap [] → lv_has ls nL [(0, .ref h0)] →
      W p l e rm s m args below meth c s.heap [] 0 0 (MQ below (kQ D h0 wf A) args s rm.cells rm.slots A) (F0 m 0 ls [])) : kMet l y cc nL rm D tys h0 w0 sz wf := by
  refine Met.ofW (cc := cc) (maxL := nL) (ret := none) hy rfl ?_
  intro p e s m args below meth c s₁ B hml hv
  obtain ⟨rfl, rfl, hP, hK, hN⟩ := hv
  have hts := atoms_spec (ws := Cond.code y cc nL none :: gW) B.pre
  have hown : s.vm.findClass y.cls = some m.cls := findClass_of_methodNamed B.named
  have hin : meth.name = "<init>" := by rw [← hyn]; exact (name_of_methodNamed B.named B.method).1
  have hD : va_D (va_A [(h0, w0)] s.heap.size) [(h0, w0)] := by
    refine ⟨fun i j x y h1 h2 _ => ?_, fun k q hk => va_A.in hk⟩
    have := (List.getElem?_eq_some_iff.mp h1).1
    have := (List.getElem?_eq_some_iff.mp h2).1
    simp at *
    omega
  rw [lg_entry_eq]
  have hl := lv_entry ([.ref h0] : List Value) (n := nL) (by show 1 ≤ nL; exact hn)
  exact body p e s m _ below meth c _ _ ⟨⟨B.exec, B.bytes, hml, hown, fun w hw => hts w (List.mem_cons_of_mem _ hw)⟩, hK, hN, hin, B.returns, B.notSynchronized⟩ ⟨hP, hD, va_S.rf, fun q h => Or.inr h⟩ hl
/-- what came back from a call stands beside the rest -/
theorem k_join {A0 : Nat → Prop} {D : va_G} {cl : List vw_C} {wc wr w1 : va_W} {H H1 : Heap} (hP : va_P D cl (wr ++ wc) H) (hD : va_D A0 (wr ++ wc)) (hk : ∀ q : Nat, q < H.size → ¬ va_A wc H.size q → H1[q]? = H[q]?) (hF : ∀ q, va_A wc H.size q → A0 q) (hP1 : va_P D cl w1 H1) (hD1 : va_D (va_A wc H.size) w1) : va_P D cl (wr ++ w1) H1 ∧ va_D A0 (wr ++ w1) := by
  have apart : ∀ (k : Nat) (q : Nat × va_E), wr[k]? = some q → q.1 < H.size ∧ ¬ va_A wc H.size q.1 := by
    intro k q hq
    have hl : k < wr.length := (List.getElem?_eq_some_iff.mp hq).1
    have h2 : (wr ++ wc)[k]? = some q := by rw [List.getElem?_append_left hl]; exact hq
    refine ⟨(hP k q h2).lt, fun h => ?_⟩
    rcases h with ⟨k2, e, h⟩ | h
    · have h3 : (wr ++ wc)[wr.length + k2]? = some (q.1, e) := by rw [List.getElem?_append_right (by omega), Nat.add_sub_cancel_left]; exact h
      have := hD.1 _ _ q (q.1, e) h2 h3 rfl
      omega
    · have := (hP k q h2).lt
      omega
  refine ⟨fun k q hq => ?_, fun i j x y hx hy hxy => ?_, fun k q hq => ?_⟩
  · by_cases hl : k < wr.length
    · rw [List.getElem?_append_left hl] at hq
      have h2 : (wr ++ wc)[k]? = some q := by rw [List.getElem?_append_left hl]; exact hq
      have ha := apart k q hq
      exact (hP k q h2).kept (hk q.1 ha.1 ha.2)
    · rw [List.getElem?_append_right (by omega)] at hq
      exact hP1 _ q hq
  · by_cases hi : i < wr.length
    · rw [List.getElem?_append_left hi] at hx
      by_cases hj : j < wr.length
      · rw [List.getElem?_append_left hj] at hy
        exact hD.1 i j x y (by rw [List.getElem?_append_left hi]; exact hx) (by rw [List.getElem?_append_left hj]; exact hy) hxy
      · rw [List.getElem?_append_right (by omega)] at hy
        exact absurd (by rw [hxy]; exact hD1.2 _ y hy) (apart i x hx).2
    · rw [List.getElem?_append_right (by omega)] at hx
      by_cases hj : j < wr.length
      · rw [List.getElem?_append_left hj] at hy
        exact absurd (by rw [← hxy]; exact hD1.2 _ x hx) (apart j y hy).2
      · rw [List.getElem?_append_right (by omega)] at hy
        have := hD1.1 _ _ x y hx hy hxy
        omega
  · by_cases hl : k < wr.length
    · rw [List.getElem?_append_left hl] at hq
      exact hD.2 k q (by rw [List.getElem?_append_left hl]; exact hq)
    · rw [List.getElem?_append_right (by omega)] at hq
      exact hF _ (hD1.2 _ q hq)
theorem kw_AI : Cond.arrayClass .int ∈ gW := gw_in 80 (by decide +kernel) rfl
theorem kw_AZ : Cond.arrayClass .boolean ∈ gW := gw_in 700 (by decide +kernel) rfl
theorem kw_o1 : Cond.instanceMethod objectInit ∈ gW := gw_in 60 (by decide +kernel) rfl
theorem kw_o2 : Cond.code objectInit ⟨#[0xb1]⟩ 1 none ∈ gW := gw_in 61 (by decide +kernel) rfl
section KR
variable {p : Program} {l : Launch} {e : Env} {R : Room} {s : State} {m : MethodId} {args : Array Value} {below : List Frame} {meth : Method} {c : Code} {H : Heap} {locs : List Loc} {cells slots : Nat} {Q : State → Prop} {cc : ByteArray} {nL pc : Nat} {own : String} {ls : Array Slot} {rest : List Value} {D : va_G} {tl tys : List (ClassId × FieldType)} {A : Nat → Prop} {ws : va_W} {cI cZ : ClassId}
theorem k_obj (C : kC p s m args meth c own cc nL D tys) {idx a : Nat} (hsz : ls.size = nL) (hl : Cond.methodLink own idx objectInit ∈ gW) (hdg : decode cc pc = .ok (.invokespecial idx, 3)) (hR : 1 ≤ R.frames ∧ 12 ≤ R.locals)
    (kk : W p l e R s m args below meth c H locs cells slots Q (F0 m (pc + 3) ls [])) : W p l e R s m args below meth c H locs cells slots Q (F0 m pc ls [.ref a]) := by
  obtain ⟨⟨hx, hb, hml, hown, hts⟩, -⟩ := C
  refine W.objInit hx hb hown (hts _ hl) (hts _ kw_o1) (hts _ kw_o2) rfl (by rw [hml]; exact hsz) rfl hdg hR.1 (by show 2 * 0 + 0 + 12 ≤ _; omega) ?_
  exact kk
theorem k_newi (C : kC p s m args meth c own cc nL D ((cI, .int) :: tl)) (w : kWd D A ws s H locs) {n : Int32} {N' : Nat} (hn : ¬ n < 0) (hN : n.toNatClampNeg = N') (hbt : N' * 4 ≤ 536870912) (hcells : cells + 1 ≤ R.cells) (hslots : slots + N' ≤ R.slots) (hdg : decode cc pc = .ok (.newarray .int, 2))
    (kk : ∀ (q : Nat) (H1 : Heap), kWd D A (ws ++ [(q, .inl (cI, N', .inl (fun _ => 0)))]) s H1 locs → W p l e R s m args below meth c H1 locs (cells + 1) (slots + N') Q (F0 m (pc + 2) ls (.ref q :: rest))) : W p l e R s m args below meth c H locs cells slots Q (F0 m pc ls (.int n :: rest)) := by
  obtain ⟨⟨hx, hb, hml, hown, hts⟩, hK, -⟩ := C
  obtain ⟨hP, hD, hS, hA⟩ := w
  refine va_newa (atype := .int) (a0 := (N', .inl (fun _ => 0))) (ty := .int) hx hb (hts _ kw_AI) rfl hK hP hD hS hA (fun _ => rfl) hn hN hbt hcells hslots hdg (fun q cA H1 hK1 hP1 hD1 hS1 => ?_)
  have e1 : va_RA s cA .int := (hK1.2 ((cI, FieldType.int) :: tl).length (cA, .int) (by rw [List.getElem?_append_right (Nat.le_refl _), Nat.sub_self]; rfl)).2
  have e2 : va_RA s cI .int := (hK.2 0 (cI, .int) rfl).2
  have e3 : cA = cI := Option.some.inj ((show s.vm.findClass ("[" ++ FieldType.int.toString) = some cA from e1).symm.trans e2)
  subst e3
  exact kk q H1 ⟨hP1, hD1, hS1, hA⟩
theorem k_newz (C : kC p s m args meth c own cc nL D ((cI, .int) :: (cZ, .boolean) :: tl)) (w : kWd D A ws s H locs) {n : Int32} {N' : Nat} (hn : ¬ n < 0) (hN : n.toNatClampNeg = N') (hbt : N' * 4 ≤ 536870912) (hcells : cells + 1 ≤ R.cells) (hslots : slots + N' ≤ R.slots) (hdg : decode cc pc = .ok (.newarray .boolean, 2))
    (kk : ∀ (q : Nat) (H1 : Heap), kWd D A (ws ++ [(q, .inl (cZ, N', .inl (fun _ => 0)))]) s H1 locs → W p l e R s m args below meth c H1 locs (cells + 1) (slots + N') Q (F0 m (pc + 2) ls (.ref q :: rest))) : W p l e R s m args below meth c H locs cells slots Q (F0 m pc ls (.int n :: rest)) := by
  obtain ⟨⟨hx, hb, hml, hown, hts⟩, hK, -⟩ := C
  obtain ⟨hP, hD, hS, hA⟩ := w
  refine va_newa (atype := .boolean) (a0 := (N', .inl (fun _ => 0))) (ty := .boolean) hx hb (hts _ kw_AZ) rfl hK hP hD hS hA (fun _ => rfl) hn hN (by show N' * 1 ≤ _; omega) hcells hslots hdg (fun q cA H1 hK1 hP1 hD1 hS1 => ?_)
  have e1 : va_RA s cA .boolean := (hK1.2 ((cI, FieldType.int) :: (cZ, FieldType.boolean) :: tl).length (cA, .boolean) (by rw [List.getElem?_append_right (Nat.le_refl _), Nat.sub_self]; rfl)).2
  have e2 : va_RA s cZ .boolean := (hK.2 1 (cZ, .boolean) rfl).2
  have e3 : cA = cZ := Option.some.inj ((show s.vm.findClass ("[" ++ FieldType.boolean.toString) = some cA from e1).symm.trans e2)
  subst e3
  exact kk q H1 ⟨hP1, hD1, hS1, hA⟩
theorem k_newq (C : kC p s m args meth c own cc nL D tys) (w : kWd D A ws s H locs) {CN : String} {index t0 : Nat} {cA0 : ClassId} (ht : tys[t0]? = some (cA0, .object CN)) (hl : Cond.classLink own index CN ∈ gW) (hao : va_AO CN s) {n : Int32} {N' : Nat} (hn : ¬ n < 0) (hN : n.toNatClampNeg = N') (hbt : N' * 4 ≤ 536870912) (hcells : cells + 1 ≤ R.cells) (hslots : slots + N' ≤ R.slots) (hdg : decode cc pc = .ok (.anewarray index, 3))
    (kk : ∀ (q : Nat) (H1 : Heap), kWd D A (ws ++ [(q, .inl (cA0, N', .inr (.inr (.inr (.inr (fun _ => none))))))]) s H1 locs → W p l e R s m args below meth c H1 locs (cells + 1) (slots + N') Q (F0 m (pc + 3) ls (.ref q :: rest))) : W p l e R s m args below meth c H locs cells slots Q (F0 m pc ls (.int n :: rest)) := by
  obtain ⟨⟨hx, hb, hml, hown, hts⟩, hK, -⟩ := C
  obtain ⟨hP, hD, hS, hA⟩ := w
  refine va_newq hx hb hown (hts _ hl) hao hK hP hD hS hA hn hN hbt hcells hslots hdg (fun q cA H1 hK1 hP1 hD1 hS1 => ?_)
  obtain ⟨k1, m1, -, -, -, e1⟩ : va_RA s cA (.object CN) := (hK1.2 tys.length (cA, .object CN) (by rw [List.getElem?_append_right (Nat.le_refl _), Nat.sub_self]; rfl)).2
  obtain ⟨k2, m2, -, -, -, e2⟩ : va_RA s cA0 (.object CN) := (hK.2 t0 (cA0, .object CN) ht).2
  have e3 : cA = cA0 := Option.some.inj (e1.symm.trans e2)
  subst e3
  exact kk q H1 ⟨hP1, hD1, hS1, hA⟩
theorem k_putF (C : kC p s m args meth c own cc nL D tys) (w : kWd D A ws s H locs) {CN : String} {T : u_T} {NF ci index a : Nat} {fs : List Value} (hin : ∀ w ∈ u_ws CN T NF, w ∈ gW) (ty0 : Nat → FieldType) (hty : ∀ k, k < NF → parseFieldDescriptor (T k).2.2.1 = some (ty0 k)) (hnm : ∀ a, a < NF → ∀ b, b < NF → a ≠ b → (T a).2.1 ≠ (T b).2.1) (q0 : Nat) (he : ws[q0]? = some (a, .inr (ci, fs))) (hc : vwCl[ci]? = some (CN, T, NF)) (k : Nat) (hk : k < NF) (hl : Cond.fieldLink own index (T k).1 (T k).2.1 (T k).2.2.1 ∈ gW) (hfin : (T k).2.2.2 = true) (hdecl : (T k).1 = own) {v : Value} (hn : narrow (ty0 k) v = v) (hfit : fits (ty0 k) v = true) (hlen : k < fs.length) (hdg : decode cc pc = .ok (.putfield index, 3))
    (kk : ∀ (H1 : Heap) (locs1 : List Loc), kWd D A (ws.set q0 (a, .inr (ci, fs.set k v))) s H1 locs1 → W p l e R s m args below meth c H1 locs1 cells slots Q (F0 m (pc + 3) ls rest)) : W p l e R s m args below meth c H locs cells slots Q (F0 m pc ls (v :: .ref a :: rest)) := by
  obtain ⟨⟨hx, hb, hml, hown, hts⟩, hK, -, hin2, -, -⟩ := C
  obtain ⟨hP, hD, hS, hA⟩ := w
  exact va_putF hx hb hts hin ty0 hty hnm hown hK hP hD hS q0 he hc k hk (hts _ hl) (fun _ h9 => h9) hfin hin2 hdecl (hty k hk) hn hfit hlen hdg (fun H1 locs1 hP1 hD1 hS1 => kk H1 locs1 ⟨hP1, hD1, hS1, hA⟩)
theorem k_put (C : kC p s m args meth c own cc nL D tys) (w : kWd D A ws s H locs) {CN : String} {T : u_T} {NF ci index a : Nat} {fs : List Value} (hin : ∀ w ∈ u_ws CN T NF, w ∈ gW) (ty0 : Nat → FieldType) (hty : ∀ k, k < NF → parseFieldDescriptor (T k).2.2.1 = some (ty0 k)) (hnm : ∀ a, a < NF → ∀ b, b < NF → a ≠ b → (T a).2.1 ≠ (T b).2.1) (q0 : Nat) (he : ws[q0]? = some (a, .inr (ci, fs))) (hc : vwCl[ci]? = some (CN, T, NF)) (k : Nat) (hk : k < NF) (hl : Cond.fieldLink own index (T k).1 (T k).2.1 (T k).2.2.1 ∈ gW) (hfin : (T k).2.2.2 = false) {v : Value} (hn : narrow (ty0 k) v = v) (hfit : fits (ty0 k) v = true) (hlen : k < fs.length) (hdg : decode cc pc = .ok (.putfield index, 3))
    (kk : ∀ (H1 : Heap) (locs1 : List Loc), kWd D A (ws.set q0 (a, .inr (ci, fs.set k v))) s H1 locs1 → W p l e R s m args below meth c H1 locs1 cells slots Q (F0 m (pc + 3) ls rest)) : W p l e R s m args below meth c H locs cells slots Q (F0 m pc ls (v :: .ref a :: rest)) := by
  obtain ⟨⟨hx, hb, hml, hown, hts⟩, hK, -⟩ := C
  obtain ⟨hP, hD, hS, hA⟩ := w
  exact va_put hx hb hts hin ty0 hty hnm hown hK hP hD hS q0 he hc k hk (hts _ hl) (fun _ h9 => h9) hfin (hty k hk) hn hfit hlen hdg (fun H1 locs1 hP1 hD1 hS1 => kk H1 locs1 ⟨hP1, hD1, hS1, hA⟩)
theorem k_new (C : kC p s m args meth c own cc nL D tys) (w : kWd D A ws s H locs) {CN : String} {T : u_T} {NF ci index : Nat} {fs : List Value} (hin : ∀ w ∈ u_ws CN T NF, w ∈ gW) (ty0 : Nat → FieldType) (hty : ∀ k, k < NF → parseFieldDescriptor (T k).2.2.1 = some (ty0 k)) (h1 : Cond.classLink own index CN ∈ gW) (h2 : Cond.instantiable CN NF ∈ gW) (h3 : Cond.initialized CN ∈ gW) (hc : vwCl[ci]? = some (CN, T, NF)) (hfs : ∀ j, j < NF → defaultValue (ty0 j) = vp_V fs j) (hcells : cells + 1 ≤ R.cells) (hslots : slots + NF ≤ R.slots) (hdg : decode cc pc = .ok (.new index, 3))
    (kk : ∀ (q : Nat) (H1 : Heap), kWd D A (ws ++ [(q, .inr (ci, fs))]) s H1 locs → W p l e R s m args below meth c H1 locs (cells + 1) (slots + NF) Q (F0 m (pc + 3) ls (.ref q :: rest))) : W p l e R s m args below meth c H locs cells slots Q (F0 m pc ls rest) := by
  obtain ⟨⟨hx, hb, hml, hown, hts⟩, hK, -⟩ := C
  obtain ⟨hP, hD, hS, hA⟩ := w
  exact va_new hx hb hts hin ty0 hty hown (hts _ h1) (hts _ h2) (hts _ h3) hK hP hD hS hA hc hfs hcells hslots hdg (fun q H1 hP1 hD1 hS1 => kk q H1 ⟨hP1, hD1, hS1, hA⟩)
/-- a nest mate's constructor, on the newest cell -/
theorem k_call (C : kC p s m args meth c own cc nL D tys) {wr : va_W} {q : Nat} {w0 : va_E} (w : kWd D A (wr ++ [(q, w0)]) s H locs) {y : MethodName} {bytes : ByteArray} {maxL index : Nat} {rm : Room} {wf : (Nat → Nat) → va_W} (hM : kMet l y bytes maxL rm D tys q w0 H.size wf) (hq : (own, index, y, RX6) ∈ kNs) (hyn : y.name = "<init>") (h1 : Cond.code y bytes maxL none ∈ gW) (h2 : Cond.initialized y.cls ∈ gW) (h3 : Cond.instanceMethod y ∈ gW) (hd : gMd y 0) (hR : rm.frames + 1 ≤ R.frames ∧ 8 + (maxL + 11) + rm.locals ≤ R.locals) (hsz : ls.size = nL) (hr8 : (rest.map fun v => v.category).sum ≤ 8) (hdg : decode cc pc = .ok (.invokespecial index, 3)) (hf : cells + rm.cells ≤ R.cells ∧ slots + rm.slots ≤ R.slots)
    (kk : ∀ (a : Nat → Nat) (H1 : Heap) (locs1 : List Loc), a 0 = q → kWd D A (wr ++ wf a) s H1 locs1 → W p l e R s m args below meth c H1 locs1 (cells + rm.cells) (slots + rm.slots) Q (F0 m (pc + 3) ls rest)) : W p l e R s m args below meth c H locs cells slots Q (F0 m pc ls (.ref q :: rest)) := by
  obtain ⟨⟨hx, hb, hml, hown, hts⟩, hK, hN, -⟩ := C
  obtain ⟨hP, hD, hS, hA⟩ := w
  have hG : GoodIn gW (Cond.code y bytes maxL none :: gW) := by
    intro z hz
    have hm : z ∈ gW := by
      rcases List.mem_cons.mp hz with rfl | hz
      · exact h1
      · exact hz
    exact ⟨hm, gw_good z hm⟩
  have hPc : va_P D vwCl [(q, w0)] H := fun k x hk => hP (wr.length + k) x (by rw [List.getElem?_append_right (by omega), Nat.add_sub_cancel_left]; exact hk)
  have hF : ∀ z, va_A [(q, w0)] H.size z → A z := by
    intro z h
    rcases h with ⟨k, e, h⟩ | h
    · exact hD.2 (wr.length + k) (z, e) (by rw [List.getElem?_append_right (by omega), Nat.add_sub_cancel_left]; exact h)
    · exact hA z (Nat.le_trans hS.1 h)
  refine va_callv (va_runIN (As := []) (rest := rest) (Ts := gW) ⟨hx, hb, hml, hown, hts⟩ hM ⟨va_cnB 0 hts hG rfl rfl rfl (hN.1 _ hq) (hts _ h2) hd hR, hyn, hts _ h3⟩ ⟨kPre_blind, fun U hU hW => ⟨rfl, by rw [hU], by rw [hU]; exact hPc, va_K.moved hW.alike hK, hN.warm hW⟩⟩ rfl rfl hsz rfl (lv_room hr8) hdg hf) hS (fun z _ h => hF z h) hF (fun a t H1 locs1 ht hvm hw hB hz1 hk1 hS1 => ?_)
  obtain ⟨hP1, hD1⟩ := hB
  rw [ht] at hP1
  obtain ⟨hP2, hD2⟩ := k_join hP hD hk1 hF hP1 hD1
  exact kk a H1 locs1 hw ⟨hP2, hD2, hS1, hA⟩
theorem k_ret (C : kC p s m args meth c own cc nL D tys) {h0 mc ms : Nat} {wf : (Nat → Nat) → va_W} {a : Nat → Nat} (w : kWd D A (wf a) s H locs) (ha : a 0 = h0) (hdg : decode cc pc = .ok (.return_, 1)) : W p l e R s m args below meth c H locs mc ms (MQ below (kQ D h0 wf A) args s mc ms A) (F0 m pc ls []) := by
  obtain ⟨⟨hx, hb, -⟩, -, -, -, hr, hlk⟩ := C
  obtain ⟨hP, hD, hS, hA⟩ := w
  exact W.vret hx hb hr (fun t ht hW => ⟨⟨a, rfl, ha, by rw [ht]; exact hP, hD⟩, hS.F ht⟩) hS.2.2 hdg
end KR
