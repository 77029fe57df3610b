/-! The memory: cell, slot -> int. References stand still: they are the layout's. -/
abbrev Mem : Type := Nat → Nat → Int32
abbrev Lay : Type := (Nat → Nat) → Mem → Nat → va_E
def mset (M : Mem) (k j : Nat) (v : Int32) : Mem := fun a => if a = k then upd (M k) j v else M a
theorem mset_same (M : Mem) (k j : Nat) (v : Int32) : mset M k j v k = upd (M k) j v := by simp [mset]
theorem mset_ne (M : Mem) {a k : Nat} (j : Nat) (v : Int32) (h : a ≠ k) : mset M k j v a = M a := by simp [mset, h]
def inb (i : Int32) (n : Nat) : Bool := !(decide (i < 0) || decide (n ≤ i.toNatClampNeg))
theorem inb_in {i : Int32} {n : Nat} (h : inb i n = true) : vp_in i n := by
  simp [inb] at h
  intro q
  rcases q with q | q
  · exact absurd q (by simpa using h.1)
  · omega
theorem inb_lt {i : Int32} {n : Nat} (h : inb i n = true) : i.toNatClampNeg < n := by
  simp [inb] at h
  exact h.2
def isb (x : Int32) : Bool := decide (x = 0) || decide (x = 1)
theorem isb_nar {x : Int32} (h : isb x = true) : narrow .boolean (.int x) = .int x := by
  simp [isb] at h
  rcases h with rfl | rfl <;> rfl
theorem isb_fit {x : Int32} (h : isb x = true) : fits .boolean (.int x) = true := by
  simp [isb] at h
  rcases h with rfl | rfl <;> rfl
theorem isb_vp {x : Int32} (h : isb x = true) : vp_nar .boolean x = x := by
  simp [isb] at h
  rcases h with rfl | rfl <;> rfl
def ldI (M : Mem) (k n : Nat) (i : Int32) : Option Int32 := if inb i n = true then some (M k i.toNatClampNeg) else none
def stI (M : Mem) (k n : Nat) (i x : Int32) : Option Mem := if inb i n = true then some (mset M k i.toNatClampNeg x) else none
def stZ (M : Mem) (k n : Nat) (i x : Int32) : Option Mem := if (inb i n && isb x) = true then some (mset M k i.toNatClampNeg x) else none
def stF (M : Mem) (k j : Nat) (x : Int32) : Option Mem := some (mset M k j x)
def stFZ (M : Mem) (k j : Nat) (x : Int32) : Option Mem := if isb x = true then some (mset M k j x) else none
def rtZ (x : Int32) (M : Mem) : Option (Int32 × Mem) := if isb x = true then some (x, M) else none
def ixQ (n : Nat) (i : Int32) : Option Nat := if inb i n = true then some i.toNatClampNeg else none
def ckP (b : Bool) : Option Unit := if b = true then some () else none
theorem bindS {α β : Type} {a : Option α} {f : α → Option β} {r : β} (h : a.bind f = some r) : ∃ x, a = some x ∧ f x = some r := by
  cases a with
  | none => cases h
  | some x => exact ⟨x, rfl, h⟩
theorem ifS {c : Prop} [Decidable c] {α : Type} {a b : Option α} {r : α} (h : (if c then a else b) = some r) : (c ∧ a = some r) ∨ (¬ c ∧ b = some r) := by
  by_cases hc : c
  · rw [if_pos hc] at h
    exact Or.inl ⟨hc, h⟩
  · rw [if_neg hc] at h
    exact Or.inr ⟨hc, h⟩
theorem ixQ_lt {n : Nat} {i : Int32} {t : Nat} (h : ixQ n i = some t) : t < n := by
  unfold ixQ at h
  split at h
  · next hi =>
    cases h
    exact inb_lt hi
  · cases h
/-! The world of N cells at the addresses ad -/
def gw (N : Nat) (z : Lay) (ad : Nat → Nat) (M : Mem) : va_W := (List.range N).map (fun k => (ad k, z ad M k))
def gA (N : Nat) (ad : Nat → Nat) : Nat → Prop := fun q => ∃ k, k < N ∧ q = ad k
def gInj (N : Nat) (ad : Nat → Nat) : Prop := ∀ i j, i < N → j < N → ad i = ad j → i = j
def gLoc (z : Lay) : Prop := ∀ (ad : Nat → Nat) (M M' : Mem) (k : Nat), M k = M' k → z ad M k = z ad M' k
def gWd (D : va_G) (N : Nat) (z : Lay) (ad : Nat → Nat) (M : Mem) (s : State) (H : Heap) (locs : List Loc) : Prop := va_P D vwCl (gw N z ad M) H ∧ va_S (gA N ad) s.heap H locs
def nW : Cond := Cond.methodLinkNest RX5 25 yX6_within RX6
def gC (p : Program) (s : State) (m : MethodId) (args : Array Value) (c : Code) (own : String) (cc : ByteArray) (nL : Nat) (D : va_G) (tys : List (ClassId × FieldType)) (N : Nat) (z : Lay) (ad : Nat → Nat) : Prop :=
  CallFix p m c cc nL s args gW own ∧ va_K D vwCl tys s ∧ va_Nw nW s ∧ gInj N ad ∧ gLoc z
def gPre (D : va_G) (tys : List (ClassId × FieldType)) (N : Nat) (z : Lay) (ad : Nat → Nat) (M : Mem) (U : State) : Prop := va_P D vwCl (gw N z ad M) U.heap ∧ va_K D vwCl tys U ∧ va_Nw nW U
def gAr (N : Nat) (z : Lay) (ad : Nat → Nat) (cA : ClassId) (k n : Nat) : Prop := k < N ∧ ∀ M : Mem, z ad M k = .inl (cA, n, .inl (M k))
def gOb (N : Nat) (z : Lay) (ad : Nat → Nat) (ci : Nat) (k : Nat) (fs : Mem → List Value) : Prop := k < N ∧ ∀ M : Mem, z ad M k = .inr (ci, fs M)
def gRf (N : Nat) (z : Lay) (ad : Nat → Nat) (cA : ClassId) (k n : Nat) (f : Nat → Nat) : Prop := k < N ∧ ∀ M : Mem, z ad M k = .inl (cA, n, .inr (.inr (.inr (.inr (fun j => some (ad (f j)))))))
def rmH (h : Nat) : Room := { frames := h, cells := 0, slots := 0, locals := 40 * h }
theorem gw_at {N : Nat} {z : Lay} {ad : Nat → Nat} {M : Mem} {k : Nat} (hk : k < N) : (gw N z ad M)[k]? = some (ad k, z ad M k) := by
  simp [gw, hk]
theorem gw_set {N : Nat} {z : Lay} {ad : Nat → Nat} {M M' : Mem} {k : Nat} {E : va_E} (hk : k < N) (hE : z ad M' k = E) (hloc : ∀ a, a ≠ k → z ad M' a = z ad M a) : (gw N z ad M).set k (ad k, E) = gw N z ad M' := by
  subst hE
  apply List.ext_getElem?
  intro i
  by_cases hi : i = k
  · subst hi
    rw [List.getElem?_set_self (by simpa [gw] using hk), gw_at hk]
  · rw [List.getElem?_set_ne (Ne.symm hi)]
    by_cases hN : i < N
    · rw [gw_at hN, gw_at hN, hloc i hi]
    · rw [List.getElem?_eq_none (by simpa [gw] using hN), List.getElem?_eq_none (by simpa [gw] using hN)]
theorem gw_D {N : Nat} {z : Lay} {ad : Nat → Nat} {M : Mem} (hi : gInj N ad) : va_D (gA N ad) (gw N z ad M) := by
  have key : ∀ (k : Nat) (q : Nat × va_E), (gw N z ad M)[k]? = some q → k < N ∧ q.1 = ad k := by
    intro k q hk
    have hl : k < N := by simpa [gw] using (List.getElem?_eq_some_iff.mp hk).1
    rw [gw_at hl] at hk
    cases hk
    exact ⟨hl, rfl⟩
  refine ⟨fun i j x y h1 h2 hxy => ?_, fun k q hk => ?_⟩
  · obtain ⟨a1, a2⟩ := key i x h1
    obtain ⟨b1, b2⟩ := key j y h2
    exact hi i j a1 b1 (by rw [← a2, ← b2, hxy])
  · obtain ⟨a1, a2⟩ := key k q hk
    exact ⟨k, a1, a2⟩
theorem gPre_blind {D : va_G} {tys : List (ClassId × FieldType)} {N : Nat} {z : Lay} {ad : Nat → Nat} {M : Mem} {As : List Value} : FrameBlind (va_Pc As (gPre D tys N z ad M)) := by
  intro a U g mk q
  obtain ⟨q0, qP, qK, qN⟩ := q
  exact ⟨q0, qP, va_K.moved (u := U) (U := U.calling g mk a) (Vm.Alike.refl U.vm) qK, va_Nw.same (u := U) (U := U.calling g mk a) rfl rfl qN⟩
section GR
variable {p : Program} {l : Launch} {e : Env} {h : Nat} {R : Room} {s : State} {m : MethodId} {args : Array Value} {below : List Frame} {meth : Method} {c : Code} {H : Heap} {locs : List Loc} {cells slots : Nat} {Q : State → Prop} {cc : ByteArray} {nL pc : Nat} {own : String} {ls : Array Slot} {rest : List Value} {D : va_G} {tl : List (ClassId × FieldType)} {N : Nat} {z : Lay} {ad : Nat → Nat} {M M1 : Mem} {cI : ClassId}
theorem g_iald (C : gC p s m args c own cc nL D ((cI, .int) :: tl) N z ad) (w : gWd D N z ad M s H locs) {k n : Nat} {i x : Int32} (hA : gAr N z ad cI k n) (e1 : ldI M k n i = some x) (hdg : decode cc pc = .ok (.iaload, 1))
    (kk : W p l e R s m args below meth c H locs cells slots Q (F0 m (pc + 1) ls (.int x :: rest))) : W p l e R s m args below meth c H locs cells slots Q (F0 m pc ls (.int i :: .ref (ad k) :: rest)) := by
  obtain ⟨⟨hx, hb, hml, hown, hts⟩, hK, hN, hi, hloc⟩ := C
  unfold ldI at e1
  split at e1
  · next hin =>
    cases e1
    exact va_iald (tys := (cI, .int) :: tl) hx hb hK w.1 k 0 (by rw [gw_at hA.1, hA.2]) rfl (inb_in hin) hdg kk
  · cases e1
theorem g_zald {cZ : ClassId} (C : gC p s m args c own cc nL D ((cI, .int) :: (cZ, .boolean) :: tl) N z ad) (w : gWd D N z ad M s H locs) {k n : Nat} {i x : Int32} (hA : gAr N z ad cZ k n) (e1 : ldI M k n i = some x) (hdg : decode cc pc = .ok (.baload, 1))
    (kk : W p l e R s m args below meth c H locs cells slots Q (F0 m (pc + 1) ls (.int x :: rest))) : W p l e R s m args below meth c H locs cells slots Q (F0 m pc ls (.int i :: .ref (ad k) :: rest)) := by
  obtain ⟨⟨hx, hb, hml, hown, hts⟩, hK, hN, hi, hloc⟩ := C
  unfold ldI at e1
  split at e1
  · next hin =>
    cases e1
    exact va_zald (tys := (cI, .int) :: (cZ, .boolean) :: tl) hx hb hK w.1 k 1 (by rw [gw_at hA.1, hA.2]) rfl (inb_in hin) hdg kk
  · cases e1
theorem g_iast (C : gC p s m args c own cc nL D ((cI, .int) :: tl) N z ad) (w : gWd D N z ad M s H locs) {k n : Nat} {i x : Int32} (hA : gAr N z ad cI k n) (e1 : stI M k n i x = some M1) (hdg : decode cc pc = .ok (.iastore, 1))
    (kk : ∀ (H1 : Heap) (locs1 : List Loc), gWd D N z ad M1 s H1 locs1 → W p l e R s m args below meth c H1 locs1 cells slots Q (F0 m (pc + 1) ls rest)) : W p l e R s m args below meth c H locs cells slots Q (F0 m pc ls (.int x :: .int i :: .ref (ad k) :: rest)) := by
  obtain ⟨⟨hx, hb, hml, hown, hts⟩, hK, hN, hi, hloc⟩ := C
  unfold stI at e1
  split at e1
  · next hin =>
    cases e1
    refine va_iast (tys := (cI, .int) :: tl) hx hb hK w.1 (gw_D hi) w.2 k 0 (by rw [gw_at hA.1, hA.2]) rfl (inb_in hin) hdg (fun H1 locs1 hP hD hS => kk H1 locs1 ⟨?_, hS⟩)
    rw [gw_set (M' := mset M k i.toNatClampNeg x) hA.1 (by rw [hA.2, mset_same]) (fun a ha => hloc ad _ _ a (mset_ne M _ _ ha))] at hP
    exact hP
  · cases e1
theorem g_zast {cZ : ClassId} (C : gC p s m args c own cc nL D ((cI, .int) :: (cZ, .boolean) :: tl) N z ad) (w : gWd D N z ad M s H locs) {k n : Nat} {i x : Int32} (hA : gAr N z ad cZ k n) (e1 : stZ M k n i x = some M1) (hdg : decode cc pc = .ok (.bastore, 1))
    (kk : ∀ (H1 : Heap) (locs1 : List Loc), gWd D N z ad M1 s H1 locs1 → W p l e R s m args below meth c H1 locs1 cells slots Q (F0 m (pc + 1) ls rest)) : W p l e R s m args below meth c H locs cells slots Q (F0 m pc ls (.int x :: .int i :: .ref (ad k) :: rest)) := by
  obtain ⟨⟨hx, hb, hml, hown, hts⟩, hK, hN, hi, hloc⟩ := C
  unfold stZ at e1
  split at e1
  · next hin =>
    cases e1
    simp only [Bool.and_eq_true] at hin
    refine va_zast (tys := (cI, .int) :: (cZ, .boolean) :: tl) hx hb hK w.1 (gw_D hi) w.2 k 1 (by rw [gw_at hA.1, hA.2]) rfl (inb_in hin.1) hdg (fun H1 locs1 hP hD hS => kk H1 locs1 ⟨?_, hS⟩)
    rw [isb_vp hin.2, gw_set (M' := mset M k i.toNatClampNeg x) hA.1 (by rw [hA.2, mset_same]) (fun a ha => hloc ad _ _ a (mset_ne M _ _ ha))] at hP
    exact hP
  · cases e1
theorem g_alen (C : gC p s m args c own cc nL D ((cI, .int) :: tl) N z ad) (w : gWd D N z ad M s H locs) {k n : Nat} {v : Int32} (hA : gAr N z ad cI k n) (hv : Int32.ofNat n = v) (hdg : decode cc pc = .ok (.arraylength, 1))
    (kk : W p l e R s m args below meth c H locs cells slots Q (F0 m (pc + 1) ls (.int v :: rest))) : W p l e R s m args below meth c H locs cells slots Q (F0 m pc ls (.ref (ad k) :: rest)) := by
  obtain ⟨⟨hx, hb, hml, hown, hts⟩, hK, hN, hi, hloc⟩ := C
  exact va_alen (tys := (cI, .int) :: tl) (x := (n, .inl (M k))) hx hb hK w.1 k 0 (by rw [gw_at hA.1, hA.2]) (ty := .int) rfl hv hdg kk
theorem g_aald {tys : List (ClassId × FieldType)} (C : gC p s m args c own cc nL D tys N z ad) (w : gWd D N z ad M s H locs) {cA : ClassId} {k n t0 : Nat} {i : Int32} {t : Nat} {f : Nat → Nat} {CN : String} (hA : gRf N z ad cA k n f) (ht : tys[t0]? = some (cA, .object CN)) (e1 : ixQ n i = some t) (hdg : decode cc pc = .ok (.aaload, 1))
    (kk : W p l e R s m args below meth c H locs cells slots Q (F0 m (pc + 1) ls (.ref (ad (f t)) :: rest))) : W p l e R s m args below meth c H locs cells slots Q (F0 m pc ls (.int i :: .ref (ad k) :: rest)) := by
  obtain ⟨⟨hx, hb, hml, hown, hts⟩, hK, hN, hi, hloc⟩ := C
  unfold ixQ at e1
  split at e1
  · next hin =>
    cases e1
    exact va_aldq (C := CN) (f := fun j => some (ad (f j))) hx hb hK w.1 k t0 (by rw [gw_at hA.1, hA.2]) ht (inb_in hin) hdg kk
  · cases e1
theorem g_get {tys : List (ClassId × FieldType)} (C : gC p s m args c own cc nL D tys N z ad) (w : gWd D N z ad M s H locs) {k ci NF index : Nat} {fs : Mem → List Value} {CN : String} {T : u_T} (hO : gOb N z ad ci k fs) (hc : vwCl[ci]? = some (CN, T, NF)) (hin : ∀ w ∈ u_ws CN T NF, w ∈ gW) (j : Nat) (hj : j < NF) (hl : Cond.fieldLink own index (T j).1 (T j).2.1 (T j).2.2.1 ∈ gW) {v : Value} (hv : (fs M)[j]? = some v) (hdg : decode cc pc = .ok (.getfield index, 3))
    (kk : W p l e R s m args below meth c H locs cells slots Q (F0 m (pc + 3) ls (v :: rest))) : W p l e R s m args below meth c H locs cells slots Q (F0 m pc ls (.ref (ad k) :: rest)) := by
  obtain ⟨⟨hx, hb, hml, hown, hts⟩, hK, hN, hi, hloc⟩ := C
  exact va_get hx hb hts hin hown hK w.1 k (by rw [gw_at hO.1, hO.2]) hc j hj (hts _ hl) (fun _ q => q) hv hdg kk
theorem g_put {tys : List (ClassId × FieldType)} (C : gC p s m args c own cc nL D tys N z ad) (w : gWd D N z ad M s H locs) {k ci NF index : Nat} {fs : Mem → List Value} {CN : String} {T : u_T} {x : Int32} (hO : gOb N z ad ci k fs) (hc : vwCl[ci]? = some (CN, T, NF)) (hin : ∀ w ∈ u_ws CN T NF, w ∈ gW) (ty0 : Nat → FieldType) (hty : ∀ k, k < NF → parseFieldDescriptor (T k).2.2.1 = some (ty0 k)) (hnm : ∀ a, a < NF → ∀ b, b < NF → a ≠ b → (T a).2.1 ≠ (T b).2.1) (j : Nat) (hj : j < NF) (hl : Cond.fieldLink own index (T j).1 (T j).2.1 (T j).2.2.1 ∈ gW) (hfin : (T j).2.2.2 = false)
    (hn : narrow (ty0 j) (.int x) = .int x) (hf : fits (ty0 j) (.int x) = true) (hlen : j < (fs M).length) (hset : (fs M).set j (.int x) = fs (mset M k j x)) (hdg : decode cc pc = .ok (.putfield index, 3))
    (kk : ∀ (H1 : Heap) (locs1 : List Loc), gWd D N z ad (mset M k j x) s H1 locs1 → W p l e R s m args below meth c H1 locs1 cells slots Q (F0 m (pc + 3) ls rest)) : W p l e R s m args below meth c H locs cells slots Q (F0 m pc ls (.int x :: .ref (ad k) :: rest)) := by
  obtain ⟨⟨hx, hb, hml, hown, hts⟩, hK, hN, hi, hloc⟩ := C
  refine va_put hx hb hts hin ty0 hty hnm hown hK w.1 (gw_D hi) w.2 k (by rw [gw_at hO.1, hO.2]) hc j hj (hts _ hl) (fun _ q => q) hfin (hty j hj) hn hf hlen hdg (fun H1 locs1 hP hD hS => kk H1 locs1 ⟨?_, hS⟩)
  rw [gw_set (M' := mset M k j x) hO.1 (by rw [hO.2, hset]) (fun a ha => hloc ad _ _ a (mset_ne M _ _ ha))] at hP
  exact hP
end GR
