/-! Ends, beginnings and calls of methods over a world of N cells -/
def qI (D : va_G) (N : Nat) (z : Lay) (ad : Nat → Nat) (R : Int32 × Mem) : Array Value → State → Outcome → State → Prop := va_Qi (fun r u => (r, u) = R) (fun u t => va_P D vwCl (gw N z ad u) t.heap) (gA N ad)
def qV (D : va_G) (N : Nat) (z : Lay) (ad : Nat → Nat) (R : Int32 × Mem) : Array Value → State → Outcome → State → Prop := va_Qv (fun u : Mem => u = R.2) (fun u t => va_P D vwCl (gw N z ad u) t.heap) (gA N ad)
def qR (D : va_G) (N : Nat) (z : Lay) (ad : Nat → Nat) (R : Nat × Mem) : Array Value → State → Outcome → State → Prop := va_Qr (fun u : Nat × Mem => u = R) (fun u a t => a = ad u.1 ∧ va_P D vwCl (gw N z ad u.2) t.heap) (gA N ad)
abbrev gMet (l : Launch) (y : MethodName) (cc : ByteArray) (nL : Nat) (ret : Option FieldType) (h : Nat) (D : va_G) (tys : List (ClassId × FieldType)) (N : Nat) (z : Lay) (ad : Nat → Nat) (As : List Value) (M : Mem) (Qc : Array Value → State → Outcome → State → Prop) : Prop :=
  Met l y (Cond.code y cc nL ret :: gW) (rmH h) (va_Pc As (gPre D tys N z ad M)) Qc 0 0 (gA N ad)
def gWv (own : String) (index : Nat) (y : MethodName) (bytes : ByteArray) (maxL : Nat) (ret : Option FieldType) : Prop :=
  Cond.methodLink own index y ∈ gW ∧ Cond.instanceMethod y ∈ gW ∧ Cond.selects y.cls y y ∈ gW ∧ Cond.initialized y.cls ∈ gW ∧ Cond.code y bytes maxL ret ∈ gW
def gWs (own : String) (index : Nat) (y : MethodName) (bytes : ByteArray) (maxL : Nat) (ret : Option FieldType) : Prop :=
  Cond.methodLink own index y ∈ gW ∧ Cond.static y ∈ gW ∧ Cond.initialized y.cls ∈ gW ∧ Cond.code y bytes maxL ret ∈ gW
def gMd (y : MethodName) (n : Nat) : Prop := y.cls ≠ "java/lang/invoke/MethodHandle" ∧ y.cls ≠ "java/lang/invoke/VarHandle" ∧ (parseMethodDescriptor y.desc).map (fun d => d.parameters.length) = some n
theorem g_ret0 {D : va_G} {N : Nat} {z : Lay} {ad : Nat → Nat} {M : Mem} {s : State} {H : Heap} {locs : List Loc} (w : gWd D N z ad M s H locs) : ∀ q ∈ locs, gA N ad q.base := w.2.2.2
section GS
variable {p : Program} {l : Launch} {e : Env} {h : Nat} {Rm : Room} {s : State} {m : MethodId} {args : Array Value} {below : List Frame} {meth : Method} {c : Code} {H : Heap} {locs : List Loc} {Q : State → Prop} {cc : ByteArray} {nL pc : Nat} {own : String} {ls : Array Slot} {rest : List Value} {D : va_G} {tys : List (ClassId × FieldType)} {N : Nat} {z : Lay} {ad : Nat → Nat} {M : Mem}
theorem g_iret (C : gC p s m args c own cc nL D tys N z ad) (w : gWd D N z ad M s H locs) {R : Int32 × Mem} (hr : meth.sig.returnType = some .int) (hlocks : meth.locks = false) {v : Int32} (hf : some (v, M) = some R) (hdg : decode cc pc = .ok (.ireturn, 1)) :
    W p l e Rm s m args below meth c H locs 0 0 (MQ below (qI D N z ad R) args s 0 0 (gA N ad)) (F0 m pc ls [.int v]) := by
  obtain ⟨⟨hx, hb, -⟩, -⟩ := C
  exact W.iret hx hb hr (fun t ht hW => ⟨⟨v, M, rfl, Option.some.inj hf, by show va_P D vwCl _ t.heap; rw [ht]; exact w.1⟩, w.2.F ht⟩) w.2.2.2 hdg
theorem g_zret (C : gC p s m args c own cc nL D tys N z ad) (w : gWd D N z ad M s H locs) {R : Int32 × Mem} (hr : meth.sig.returnType = some .boolean) (hlocks : meth.locks = false) {v : Int32} (hf : rtZ v M = some R) (hdg : decode cc pc = .ok (.ireturn, 1)) :
    W p l e Rm s m args below meth c H locs 0 0 (MQ below (qI D N z ad R) args s 0 0 (gA N ad)) (F0 m pc ls [.int v]) := by
  obtain ⟨⟨hx, hb, -⟩, -⟩ := C
  unfold rtZ at hf
  split at hf
  · next hv => exact W.zret hx hb hr (isb_nar hv) (fun t ht hW => ⟨⟨v, M, rfl, Option.some.inj hf, by show va_P D vwCl _ t.heap; rw [ht]; exact w.1⟩, w.2.F ht⟩) w.2.2.2 hdg
  · cases hf
theorem g_vret (C : gC p s m args c own cc nL D tys N z ad) (w : gWd D N z ad M s H locs) {R : Int32 × Mem} (hr : meth.sig.returnType = none) (hlocks : meth.locks = false) (hf : some ((0 : Int32), M) = some R) (hdg : decode cc pc = .ok (.return_, 1)) :
    W p l e Rm s m args below meth c H locs 0 0 (MQ below (qV D N z ad R) args s 0 0 (gA N ad)) (F0 m pc ls []) := by
  obtain ⟨⟨hx, hb, -⟩, -⟩ := C
  cases hf
  exact W.vret hx hb hr (fun t ht hW => ⟨⟨M, rfl, rfl, by show va_P D vwCl _ t.heap; rw [ht]; exact w.1⟩, w.2.F ht⟩) w.2.2.2 hdg
theorem g_aret (C : gC p s m args c own cc nL D tys N z ad) (w : gWd D N z ad M s H locs) {R : Nat × Mem} {CN : String} (hr : meth.sig.returnType = some (.object CN)) (hlocks : meth.locks = false) {k : Nat} (hf : some (k, M) = some R) (hdg : decode cc pc = .ok (.areturn, 1)) :
    W p l e Rm s m args below meth c H locs 0 0 (MQ below (qR D N z ad R) args s 0 0 (gA N ad)) (F0 m pc ls [.ref (ad k)]) := by
  obtain ⟨⟨hx, hb, -⟩, -⟩ := C
  cases hf
  exact W.aret hx hb hr (Or.inl ⟨_, rfl⟩) (Or.inr ⟨_, rfl⟩) (fun t ht hW => ⟨⟨(k, M), ad k, rfl, rfl, rfl, by show va_P D vwCl _ t.heap; rw [ht]; exact w.1⟩, w.2.F ht⟩) w.2.2.2 hdg
theorem gMet_of {y : MethodName} {ret : Option FieldType} {As : List Value} {Qc : Array Value → State → Outcome → State → Prop} (hy : plainName y.cls = true) (hi : gInj N ad) (hz : gLoc z) (hn : (lg_sl As).length ≤ nL)
    (body : ∀ (p : Program) (e : Env) (s : State) (m : MethodId) (args : Array Value) (below : List Frame) (meth : Method) (c : Code) (ls : Array Slot), gC p s m args c y.cls cc nL D tys N z ad → meth.sig.returnType = ret → meth.locks = false → gWd D N z ad M s s.heap [] → lv_has ls nL (lv_args 0 As) →
      W p l e (rmH h) s m args below meth c s.heap [] 0 0 (MQ below Qc args s 0 0 (gA N ad)) (F0 m 0 ls [])) : gMet l y cc nL ret h D tys N z ad As M Qc := by
  refine Met.ofW (cc := cc) (maxL := nL) (ret := ret) hy rfl ?_
  intro p e s m args below meth c s₁ B hml hv
  obtain ⟨rfl, hP, hK, hN⟩ := hv
  have hts := atoms_spec (ws := Cond.code y cc nL ret :: gW) B.pre
  have hown : s.vm.findClass y.cls = some m.cls := findClass_of_methodNamed B.named
  rw [lg_entry_eq]
  exact body p e s m As.toArray below meth c _ ⟨⟨B.exec, B.bytes, hml, hown, fun w hw => hts w (List.mem_cons_of_mem _ hw)⟩, hK, hN, hi, hz⟩ B.returns B.notSynchronized ⟨hP, va_S.rf⟩ (lv_entry As hn)
theorem g_runV (C : gC p s m args c own cc nL D tys N z ad) (w : gWd D N z ad M s H locs) {y : MethodName} {bytes : ByteArray} {maxL h' n index : Nat} {ret : Option FieldType} {As st0 : List Value} {k ci NF : Nat} {fs : Mem → List Value} {T : u_T} {Qc : Array Value → State → Outcome → State → Prop}
    (hM : gMet l y bytes maxL ret h' D tys N z ad (.ref (ad k) :: As) M Qc) (hO : gOb N z ad ci k fs) (hc : vwCl[ci]? = some (y.cls, T, NF)) (hw : gWv own index y bytes maxL ret) (hd : gMd y n) (hn : As.length = n) (hh : h' + 1 ≤ h) (hL : maxL ≤ 20) (hsz : ls.size = nL) (hst : st0 = As.reverse ++ .ref (ad k) :: rest) (hr8 : (rest.map fun v => v.category).sum ≤ 8) (hdg : decode cc pc = .ok (.invokevirtual index, 3)) :
    va_Run p l e (rmH h) s m args below meth c H locs 0 0 0 0 (F0 m pc ls st0) rest (Qc (Value.ref (ad k) :: As).toArray) (gA N ad) := by
  obtain ⟨⟨hx, hb, hml, hown, hts⟩, hK, hN, hi, hloc⟩ := C
  obtain ⟨w1, w2, w3, w4, w5⟩ := hw
  have hG : GoodIn gW (wsV own index y.cls y (Cond.code y bytes maxL ret :: gW)) := by
    intro q hq
    have hm : q ∈ gW := by
      simp only [wsV, List.mem_append, List.mem_cons, List.not_mem_nil, or_false] at hq
      rcases hq with (rfl | rfl | rfl | rfl) | rfl | hq
      · exact w1
      · exact w2
      · exact w3
      · exact w4
      · exact w5
      · exact hq
    exact ⟨hm, gw_good q hm⟩
  refine va_runV (C := y.cls) (Ts := gW) ⟨hx, hb, hml, hown, hts⟩ hM (cwV n hts hG rfl rfl rfl ⟨rfl, hd⟩ ⟨hh, by show 8 + (maxL + 11) + 40 * h' ≤ 40 * h; omega⟩) ⟨gPre_blind, va_recv hK w.1 hc (by rw [gw_at hO.1, hO.2]), fun U hU hW => ⟨rfl, by rw [hU]; exact w.1, va_K.moved hW.alike hK, va_Nw.warmM hW hN⟩⟩ rfl hn hsz hst (lv_room hr8) hdg ⟨Nat.le_refl _, Nat.le_refl _⟩
theorem g_runS (C : gC p s m args c own cc nL D tys N z ad) (w : gWd D N z ad M s H locs) {y : MethodName} {bytes : ByteArray} {maxL h' n index : Nat} {ret : Option FieldType} {As st0 : List Value} {Qc : Array Value → State → Outcome → State → Prop}
    (hM : gMet l y bytes maxL ret h' D tys N z ad As M Qc) (hw : gWs own index y bytes maxL ret) (hd : gMd y n) (hn : As.length = n) (hh : h' + 1 ≤ h) (hL : maxL ≤ 20) (hsz : ls.size = nL) (hst : st0 = As.reverse ++ rest) (hr8 : (rest.map fun v => v.category).sum ≤ 8) (hdg : decode cc pc = .ok (.invokestatic index, 3)) :
    va_Run p l e (rmH h) s m args below meth c H locs 0 0 0 0 (F0 m pc ls st0) rest (Qc As.toArray) (gA N ad) := by
  obtain ⟨⟨hx, hb, hml, hown, hts⟩, hK, hN, hi, hloc⟩ := C
  obtain ⟨w1, w2, w4, w5⟩ := hw
  have hG : GoodIn gW (va_wsS own index y (Cond.code y bytes maxL ret :: gW)) := by
    intro q hq
    have hm : q ∈ gW := by
      simp only [va_wsS, List.mem_append, List.mem_cons, List.not_mem_nil, or_false] at hq
      rcases hq with (rfl | rfl | rfl) | rfl | hq
      · exact w1
      · exact w2
      · exact w4
      · exact w5
      · exact hq
    exact ⟨hm, gw_good q hm⟩
  refine va_runS (Ts := gW) ⟨hx, hb, hml, hown, hts⟩ hM (va_cwS n hts hG rfl rfl rfl hd ⟨hh, by show 8 + (maxL + 11) + 40 * h' ≤ 40 * h; omega⟩) ⟨gPre_blind, fun U hU hW => ⟨rfl, by rw [hU]; exact w.1, va_K.moved hW.alike hK, va_Nw.warmM hW hN⟩⟩ rfl hn hsz hst (lv_room hr8) hdg ⟨Nat.le_refl _, Nat.le_refl _⟩
/-- the one call of a nest mate's private static method: Uses.close asks within -/
theorem g_runN (C : gC p s m args c RX5 cc nL D tys N z ad) (w : gWd D N z ad M s H locs) {bytes : ByteArray} {maxL h' n : Nat} {ret : Option FieldType} {As st0 : List Value} {Qc : Array Value → State → Outcome → State → Prop}
    (hM : gMet l yX6_within bytes maxL ret h' D tys N z ad As M Qc) (hw : Cond.static yX6_within ∈ gW ∧ Cond.initialized RX6 ∈ gW ∧ Cond.code yX6_within bytes maxL ret ∈ gW) (hd : gMd yX6_within n) (hn : As.length = n) (hh : h' + 1 ≤ h) (hL : maxL ≤ 20) (hsz : ls.size = nL) (hst : st0 = As.reverse ++ rest) (hr8 : (rest.map fun v => v.category).sum ≤ 8) (hdg : decode cc pc = .ok (.invokestatic 25, 3)) :
    va_Run p l e (rmH h) s m args below meth c H locs 0 0 0 0 (F0 m pc ls st0) rest (Qc As.toArray) (gA N ad) := by
  obtain ⟨⟨hx, hb, hml, hown, hts⟩, hK, hN, hi, hloc⟩ := C
  obtain ⟨w2, w4, w5⟩ := hw
  have hG : GoodIn gW (Cond.code yX6_within bytes maxL ret :: gW) := by
    intro q hq
    have hm : q ∈ gW := by
      rcases List.mem_cons.mp hq with rfl | hq
      · exact w5
      · exact hq
    exact ⟨hm, gw_good q hm⟩
  exact va_runSN (Ts := gW) ⟨hx, hb, hml, hown, hts⟩ hM ⟨va_cnB n hts hG rfl rfl rfl hN (hts _ w4) hd ⟨hh, by show 8 + (maxL + 11) + 40 * h' ≤ 40 * h; omega⟩, hts _ w2, trivial⟩ ⟨gPre_blind, fun U hU hW => ⟨rfl, by rw [hU]; exact w.1, va_K.moved hW.alike hK, va_Nw.warmM hW hN⟩⟩ rfl hn hsz hst (lv_room hr8) hdg ⟨Nat.le_refl _, Nat.le_refl _⟩
theorem g_backI (w : gWd D N z ad M s H locs) {a : Array Value} {R' : Int32 × Mem} {st0 : List Value} (hr : va_Run p l e Rm s m args below meth c H locs 0 0 0 0 (F0 m pc ls st0) rest (qI D N z ad R' a) (gA N ad))
    (kk : ∀ (H1 : Heap) (locs1 : List Loc), gWd D N z ad R'.2 s H1 locs1 → W p l e Rm s m args below meth c H1 locs1 0 0 Q (F0 m (pc + 3) ls (.int R'.1 :: rest))) : W p l e Rm s m args below meth c H locs 0 0 Q (F0 m pc ls st0) := by
  refine va_calli hr w.2 (fun q _ hq => hq) (fun q hq => hq) (fun r u t H1 locs1 ht hvm hp hB hz1 hk1 hS => ?_)
  subst hp
  exact kk H1 locs1 ⟨by rw [← ht]; exact hB, hS⟩
theorem g_backV (w : gWd D N z ad M s H locs) {a : Array Value} {R' : Int32 × Mem} {st0 : List Value} (hr : va_Run p l e Rm s m args below meth c H locs 0 0 0 0 (F0 m pc ls st0) rest (qV D N z ad R' a) (gA N ad))
    (kk : ∀ (H1 : Heap) (locs1 : List Loc), gWd D N z ad R'.2 s H1 locs1 → W p l e Rm s m args below meth c H1 locs1 0 0 Q (F0 m (pc + 3) ls rest)) : W p l e Rm s m args below meth c H locs 0 0 Q (F0 m pc ls st0) := by
  refine va_callv hr w.2 (fun q _ hq => hq) (fun q hq => hq) (fun u t H1 locs1 ht hvm hp hB hz1 hk1 hS => ?_)
  subst hp
  exact kk H1 locs1 ⟨by rw [← ht]; exact hB, hS⟩
theorem g_backR (w : gWd D N z ad M s H locs) {a : Array Value} {R' : Nat × Mem} {st0 : List Value} (hr : va_Run p l e Rm s m args below meth c H locs 0 0 0 0 (F0 m pc ls st0) rest (qR D N z ad R' a) (gA N ad))
    (kk : ∀ (H1 : Heap) (locs1 : List Loc), gWd D N z ad R'.2 s H1 locs1 → W p l e Rm s m args below meth c H1 locs1 0 0 Q (F0 m (pc + 3) ls (.ref (ad R'.1) :: rest))) : W p l e Rm s m args below meth c H locs 0 0 Q (F0 m pc ls st0) := by
  refine va_callr hr w.2 (fun q _ hq => hq) (fun q hq => hq) (fun u ra t H1 locs1 ht hvm hp hB hz1 hk1 hS => ?_)
  subst hp
  obtain ⟨rfl, hB⟩ := hB
  exact kk H1 locs1 ⟨by rw [← ht]; exact hB, hS⟩
end GS
/-- a switch's place, by its number -/
theorem sw_in {x : Int32} {k lo hi : Int} (hx : x.toInt = k) (h1 : lo ≤ k) (h2 : k ≤ hi) : ¬ x.toInt < lo ∧ ¬ hi < x.toInt := by omega
