/-! The loop of the law. First rows of the kit's skeleton. -/
def R_law : String := "ExtensionStartsLaw"
def lw_P (b : Addr) (xs : List Int32) (args : Array Value) (s : State) : Prop := args = #[.ref b] ∧ s.IntsAt b xs ∧ xs.length ≤ 3072 ∧ (Jvm.Cond.and given_1 narrow_1).before args s = true
def lw_Q (_ : Array Value) (s : State) (o : Outcome) (t : State) : Prop := o = .returned (some (.int 1)) ∧ Framed s o t [] 603072 7194730
def lw_Z (below : List Frame) (a : Array Value) (s : State) : State → Prop := fun t => ∃ o, t.status = .running ∧ Ended t below o ∧ lw_Q a s o t
/-- the law's own end, with 1 on the stack, nothing written that was there before, its room as the claim has it -/
theorem lw_ret {p : Program} {l : Launch} {e : Env} {s : State} {m : MethodId} {below : List Frame} {meth : Method} {c : Code} {b : Nat} (hx : p.tables.exec = Jvm.exec) (hb : c.code = code) (hr : meth.sig.returnType = ret) (hlocks : meth.locks = false) {pc : Nat} {H : Heap} {ls : Array Slot} (hdg : decode code pc = .ok (.ireturn, 1)) : W p l e room_1 s m #[Value.ref b] below meth c H [] 603072 7194730 (lw_Z below #[Value.ref b] s) (F0 m pc ls [.int 1]) := by
  intro T hT X
  obtain ⟨fs, hret, hrun, hended, hW, hframe⟩ := X.leave (v := some (.int 1)) (hlocks := hlocks) (fun h => by rw [hr] at h; cases h)
  have hmeth' : T.vm.method? m = some meth := X.method'
  refine ⟨T.setFrames fs, ?_, .returned (some (.int 1)), hrun, hended, rfl, ⟨_, rfl⟩, hW, hframe⟩
  jvm_step X.here [X.here.top, hx, hb, hdg, hmeth', hr, ret, narrow_b1]
  (try refine ⟨rfl, ?_⟩); (try refine ⟨rfl, ?_⟩)
  first | (intro acts; rw [hret _ acts rfl rfl rfl]) | rw [hret _ _ rfl rfl rfl]
  exact Steps.refl _
/-- what holds at the law's entry: the machine, the code, the tables' words (any of lw_tbl by 'hts w (by decide +kernel)'), the script of L ints xs at the cell b, what the Statement gives of the start (any of its parts by flat_of_before) -/
def lw_At (p : Program) (s : State) (m : MethodId) (meth : Method) (c : Code) (b L : Nat) (xs : Nat → Int32) : Prop :=
  p.tables.exec = Jvm.exec ∧ c.code = code ∧ meth.sig.returnType = ret ∧ c.maxLocals = 7 ∧ s.vm.findClass R_law = some m.cls ∧ (∀ w ∈ lw_tbl, w.before #[Value.ref b] s = true) ∧ va_X b L xs s s.heap ∧ b < s.heap.size ∧ meth.locks = false ∧ (Jvm.Cond.and given_1 narrow_1).before #[Value.ref b] s = true
theorem lw_sub6 {L k : Nat} (hL : L ≤ 3072) (hk : 6 * k ≤ L) (h : ¬ nI L - 6 < nI (6 * k)) : 6 * k + 6 ≤ L := by
  have e1 : (nI L - 6).toInt = (L : Int) - 6 := pk_sub_toInt (a := L) (b := 6) (by omega) (by decide)
  rw [i32_lt, e1, nI_int (by omega)] at h
  omega
set_option maxHeartbeats 4000000 in
set_option maxRecDepth 100000 in
theorem law_loop {p : Program} {l : Launch} {e : Env} {s : State} {m : MethodId} {below : List Frame} {meth : Method} {c : Code} {D : va_G} {cI cT cS cZ cJ : ClassId} {aX aY : Nat → Nat} {qo sa : Nat} {b L : Nat} {xs : Nat → Int32} (hl0 : l.stackTraces = false) (C : LC p s m meth c b L xs D cI cT cS cZ cJ sa) : ∀ (j k n u : Nat) (Mx My : Mem) (fo : Nat → Int64) (H : Heap) (locs : List Loc) (ls : Array Slot), L < 6 * k + 6 * j → 6 * k ≤ L → Rel k n u Mx My → kWd D (fun q => s.heap.size ≤ q) (lW cI cT cS cZ cJ aX aY Mx My qo fo) s H locs → lv_has ls 7 (lvL b aX aY qo k) → W p l e room_1 s m #[Value.ref b] below meth c H locs (272 + k) (12013 + 6 * k) (lw_Z below #[Value.ref b] s) (F0 m 23 ls []) := by
  have hL := C.2.2.2.2.2.2.2.2.2
  have hx := C.1.1
  have hb := C.1.2.1
  have hX := C.2.2.2.2.2.1
  have hbl := C.2.2.2.2.2.2.1
  have hbA : ¬ (fun q : Nat => s.heap.size ≤ q) b := Nat.not_le.mpr hbl
  intro j
  induction j with
  | zero => intro k n u Mx My fo H locs ls h1 h2; omega
  | succ j ih =>
    intro k n u Mx My fo H locs ls h1 h2 hR w hl
    refine lv_iload hx hb dL_law_23 (lv_at hl 0 rfl) ?_
    refine lv_aload_n hx hb dL_law_25 rfl (lv_at hl 4 rfl) ?_
    refine va_slen hx hb hX hbl hbA w.2.2.1 dL_law_26 ?_
    refine lv_bipush (v := 6) hx hb dL_law_27 (by decide) ?_
    refine lv_isub hx hb dL_law_29 ?_
    refine lv_icmp_gt (tgt := 776) hx hb dL_law_30 (by decide) (fun c1 => ?_) (fun c1 => ?_)
    · refine lv_iconst (v := 1) hx hb dL_law_776 (by decide) ?_
      refine va_forget (fun q hq => w.2.2.1.2.2 q hq) ?_
      refine W.widen (k := 603072) (n := 7194730) (by omega) (by omega) ?_
      exact lw_ret hx hb C.2.2.2.2.2.2.2.1 C.2.2.2.2.2.2.2.2.1 dL_law_777
    · have hk : 6 * k + 6 ≤ L := lw_sub6 hL h2 c1
      have back : ∀ (n u : Nat) (Mx My : Mem) (fo : Nat → Int64) (H : Heap) (locs : List Loc) (ls : Array Slot), Rel (k + 1) n u Mx My → kWd D (fun q => s.heap.size ≤ q) (lW cI cT cS cZ cJ aX aY Mx My qo fo) s H locs → lv_has ls 7 (lvL b aX aY qo k) → W p l e room_1 s m #[Value.ref b] below meth c H locs (272 + (k + 1)) (12013 + 6 * (k + 1)) (lw_Z below #[Value.ref b] s) (F0 m 770 ls []) := fun n u Mx My fo H locs ls hR w hl => by
        refine lv_iinc (v := nI (6 * (k + 1))) (lv' := lvL b aX aY qo (k + 1)) hx hb dL_law_770 hl (k := 0) rfl (by show nI (6 * k) + nI 6 = _; rw [nI_add]; rfl) (by decide) rfl (fun ls hl => ?_)
        refine lv_goto (tgt := 23) hx hb dL_law_773 (by decide) ?_
        exact ih (k + 1) n u Mx My fo H locs ls (by omega) (by omega) hR w hl
      refine lv_aload_n hx hb dL_law_33 rfl (lv_at hl 4 rfl) ?_
      refine lv_iload hx hb dL_law_34 (lv_at hl 0 rfl) ?_
      refine va_sld hx hb hX hbl hbA w.2.2.1 (vp_in_nI (show 6 * k < L by omega) (by omega)) dL_law_36 ?_
      refine lv_bipush (v := 15) hx hb dL_law_37 (by decide) ?_
      refine lv_iand hx hb dL_law_39 ?_
      obtain ⟨t, ht, hv⟩ := pk_andE (xs (nI (6 * k)).toNatClampNeg) (m := 15) 4 (by decide)
      rw [hv]
      have ht : t < 16 := ht
      rcases (show t = 0 ∨ t = 1 ∨ t = 2 ∨ t = 3 ∨ t = 4 ∨ t = 5 ∨ t = 6 ∨ t = 7 ∨ t = 8 ∨ t = 9 ∨ t = 10 ∨ t = 11 ∨ t = 12 ∨ t = 13 ∨ t = 14 ∨ t = 15 by omega) with rfl | rfl | rfl | rfl | rfl | rfl | rfl | rfl | rfl | rfl | rfl | rfl | rfl | rfl | rfl | rfl
      · refine lv_tableIn (tgt := 116) hx hb dL_law_40 (by decide) (by decide) rfl (by decide) ?_
        exact law_0 C hR hk w hl back
      · refine lv_tableIn (tgt := 181) hx hb dL_law_40 (by decide) (by decide) rfl (by decide) ?_
        exact law_1 C hR hk w hl back
      · refine lv_tableIn (tgt := 218) hx hb dL_law_40 (by decide) (by decide) rfl (by decide) ?_
        exact law_2 C hR hk w hl back
      · refine lv_tableIn (tgt := 295) hx hb dL_law_40 (by decide) (by decide) rfl (by decide) ?_
        exact law_3 C hR hk w hl back
      · refine lv_tableIn (tgt := 368) hx hb dL_law_40 (by decide) (by decide) rfl (by decide) ?_
        exact law_4 C hR hk w hl back
      · refine lv_tableIn (tgt := 441) hx hb dL_law_40 (by decide) (by decide) rfl (by decide) ?_
        exact law_5 C hR hk w hl back
      · refine lv_tableIn (tgt := 454) hx hb dL_law_40 (by decide) (by decide) rfl (by decide) ?_
        exact law_6 C hR hk w hl back
      · refine lv_tableIn (tgt := 503) hx hb dL_law_40 (by decide) (by decide) rfl (by decide) ?_
        exact law_7 C hR hk w hl back
      · refine lv_tableIn (tgt := 552) hx hb dL_law_40 (by decide) (by decide) rfl (by decide) ?_
        exact law_8 C hR hk w hl back
      · refine lv_tableIn (tgt := 589) hx hb dL_law_40 (by decide) (by decide) rfl (by decide) ?_
        exact law_9 hl0 C hR hk w hl back
      · refine lv_tableIn (tgt := 645) hx hb dL_law_40 (by decide) (by decide) rfl (by decide) ?_
        exact law_10 C hR hk w hl back
      · refine lv_tableIn (tgt := 682) hx hb dL_law_40 (by decide) (by decide) rfl (by decide) ?_
        exact law_11 C hR hk w hl back
      · refine lv_tableIn (tgt := 707) hx hb dL_law_40 (by decide) (by decide) rfl (by decide) ?_
        exact law_12 C hR hk w hl back
      · refine lv_tableIn (tgt := 732) hx hb dL_law_40 (by decide) (by decide) rfl (by decide) ?_
        exact law_13 C hR hk w hl back
      · refine lv_tableIn (tgt := 757) hx hb dL_law_40 (by decide) (by decide) rfl (by decide) ?_
        exact law_14 C hR hk w hl back
      · refine lv_tableOut (tgt := 770) hx hb dL_law_40 (Or.inr (by decide)) (by decide) ?_
        refine W.widen (k := 272 + (k + 1)) (n := 12013 + 6 * (k + 1)) (by omega) (by omega) ?_
        exact back n u Mx My fo H locs ls hR.up w hl
