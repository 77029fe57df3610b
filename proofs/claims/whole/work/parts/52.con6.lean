/-! The constructor of the class -/
theorem ko_X6 : Cond.methodLink RX6 1 objectInit ∈ gW := gw_in 59 (by decide +kernel) rfl
theorem kz_X6_9 : Cond.classLink RX6 9 RX4 ∈ gW := gw_in 62 (by decide +kernel) rfl
theorem kz_X6_15 : Cond.classLink RX6 15 RX3 ∈ gW := gw_in 64 (by decide +kernel) rfl
theorem kz_X6_21 : Cond.classLink RX6 21 RX1 ∈ gW := gw_in 66 (by decide +kernel) rfl
theorem kz_X6_28 : Cond.classLink RX6 28 RX5 ∈ gW := gw_in 81 (by decide +kernel) rfl
theorem kb_X5 : Cond.instantiable RX5 4 ∈ gW := gw_in 82 (by decide +kernel) rfl
theorem kc_X5_init : Cond.code yX5_init cX5_init 1 none ∈ gW := gw_in 85 (by decide +kernel) rfl
theorem kn_X5_init : Cond.instanceMethod yX5_init ∈ gW := gw_in 84 (by decide +kernel) rfl
theorem kz_X6_35 : Cond.classLink RX6 35 RX0 ∈ gW := gw_in 104 (by decide +kernel) rfl
theorem kb_X0 : Cond.instantiable RX0 4 ∈ gW := gw_in 105 (by decide +kernel) rfl
theorem kc_X0_init : Cond.code yX0_init cX0_init 1 none ∈ gW := gw_in 108 (by decide +kernel) rfl
theorem kn_X0_init : Cond.instanceMethod yX0_init ∈ gW := gw_in 107 (by decide +kernel) rfl
theorem kb_X4 : Cond.instantiable RX4 13 ∈ gW := gw_in 127 (by decide +kernel) rfl
theorem kc_X4_init : Cond.code yX4_init cX4_init 1 none ∈ gW := gw_in 130 (by decide +kernel) rfl
theorem kn_X4_init : Cond.instanceMethod yX4_init ∈ gW := gw_in 129 (by decide +kernel) rfl
theorem kb_X3 : Cond.instantiable RX3 4 ∈ gW := gw_in 203 (by decide +kernel) rfl
theorem kc_X3_init : Cond.code yX3_init cX3_init 1 none ∈ gW := gw_in 206 (by decide +kernel) rfl
theorem kn_X3_init : Cond.instanceMethod yX3_init ∈ gW := gw_in 205 (by decide +kernel) rfl
section KX
variable {p : Program} {l : Launch} {e : Env} {R : Room} {s : State} {m : MethodId} {args : Array Value} {below : List Frame} {meth : Method} {c : Code} {H : Heap} {locs : List Loc} {cells slots : Nat} {Q : State → Prop} {cc : ByteArray} {nL pc : Nat} {own : String} {ls : Array Slot} {rest : List Value} {D : va_G} {tl tys : List (ClassId × FieldType)} {A : Nat → Prop} {ws : va_W} {cI cT cS cZ : ClassId}
theorem k_get (C : kC p s m args meth c own cc nL D tys) (w : kWd D A ws s H locs) {CN : String} {T : u_T} {NF ci index a : Nat} {fs : List Value} (hin : ∀ w ∈ u_ws CN T NF, w ∈ gW) (q0 : Nat) (he : ws[q0]? = some (a, .inr (ci, fs))) (hc : vwCl[ci]? = some (CN, T, NF)) (j : Nat) (hj : j < NF) (hl : Cond.fieldLink own index (T j).1 (T j).2.1 (T j).2.2.1 ∈ gW) {v : Value} (hv : fs[j]? = some v) (hdg : decode cc pc = .ok (.getfield index, 3))
    (kk : W p l e R s m args below meth c H locs cells slots Q (F0 m (pc + 3) ls (v :: rest))) : W p l e R s m args below meth c H locs cells slots Q (F0 m pc ls (.ref a :: rest)) := by
  obtain ⟨⟨hx, hb, hml, hown, hts⟩, hK, -⟩ := C
  exact va_get hx hb hts hin hown hK w.1 q0 he hc j hj (hts _ hl) (fun _ q => q) hv hdg kk
theorem k_astq (C : kC p s m args meth c own cc nL D tys) (w : kWd D A ws s H locs) (q0 t0 qk ci : Nat) {cA : ClassId} {r : vw_C} {n v a : Nat} {vs : List Value} {f : Nat → Option Nat} (ha : ws[q0]? = some (a, .inl (cA, n, .inr (.inr (.inr (.inr f)))))) (ht : tys[t0]? = some (cA, .object r.1)) (hv : ws[qk]? = some (v, .inr (ci, vs))) (hc : vwCl[ci]? = some r) {i : Int32} (hin : vp_in i n) (hdg : decode cc pc = .ok (.aastore, 1))
    (kk : ∀ (H1 : Heap) (locs1 : List Loc), kWd D A (ws.set q0 (a, .inl (cA, n, .inr (.inr (.inr (.inr (va_up f i.toNatClampNeg (some v)))))))) s H1 locs1 → W p l e R s m args below meth c H1 locs1 cells slots Q (F0 m (pc + 1) ls rest)) : W p l e R s m args below meth c H locs cells slots Q (F0 m pc ls (.ref v :: .int i :: .ref a :: rest)) := by
  obtain ⟨⟨hx, hb, hml, hown, hts⟩, hK, -⟩ := C
  obtain ⟨hP, hD, hS, hA⟩ := w
  exact va_astq hx hb hK hP hD hS q0 t0 qk ci ha ht hv hc hin hdg (fun H1 locs1 hP1 hD1 hS1 => kk H1 locs1 ⟨hP1, hD1, hS1, hA⟩)
end KX
/-! blocks of cells -/
def blk (w : (Nat → Nat) → va_W) (a : Nat → Nat → Nat) : Nat → va_W
  | 0 => []
  | t + 1 => blk w a t ++ w (a t)
def fUp (a : Nat → Nat → Nat) (t : Nat) : Nat → Option Nat := fun j => if j < t then some (a j 0) else none
def aUp (a : Nat → Nat → Nat) (t : Nat) (b : Nat → Nat) : Nat → Nat → Nat := fun j => if j = t then b else a j
theorem fUp_up (a : Nat → Nat → Nat) (t : Nat) (b : Nat → Nat) : va_up (fUp a t) t (some (b 0)) = fUp (aUp a t b) (t + 1) := by
  funext j
  unfold va_up fUp aUp
  by_cases h : j = t
  · subst h
    rw [if_pos rfl, if_pos (by omega), if_pos rfl]
  · rw [if_neg h]
    by_cases h2 : j < t
    · rw [if_pos h2, if_pos (by omega), if_neg h]
    · rw [if_neg h2, if_neg (by omega)]
theorem blk_congr {w : (Nat → Nat) → va_W} {a a' : Nat → Nat → Nat} : ∀ t, (∀ j, j < t → a j = a' j) → blk w a t = blk w a' t
  | 0, _ => rfl
  | t + 1, h => by
    show blk w a t ++ w (a t) = blk w a' t ++ w (a' t)
    rw [blk_congr t (fun j hj => h j (by omega)), h t (by omega)]
theorem blk_up (w : (Nat → Nat) → va_W) (a : Nat → Nat → Nat) (t : Nat) (b : Nat → Nat) : blk w (aUp a t b) (t + 1) = blk w a t ++ w b := by
  show blk w (aUp a t b) t ++ w (aUp a t b t) = _
  rw [blk_congr (a' := a) t (fun j hj => by unfold aUp; rw [if_neg (by omega)]), show aUp a t b t = b by unfold aUp; rw [if_pos rfl]]
theorem blk_len {w : (Nat → Nat) → va_W} {c : Nat} (hc : ∀ a, (w a).length = c) (a : Nat → Nat → Nat) : ∀ t, (blk w a t).length = c * t
  | 0 => rfl
  | t + 1 => by
    show (blk w a t ++ w (a t)).length = _
    rw [List.length_append, blk_len hc a t, hc, Nat.mul_succ]
theorem blk_at {w : (Nat → Nat) → va_W} {c : Nat} (hc : ∀ a, (w a).length = c) (a : Nat → Nat → Nat) {i j : Nat} (hi : i < c) : ∀ t, j < t → (blk w a t)[c * j + i]? = (w (a j))[i]?
  | 0, h => by omega
  | t + 1, h => by
    show (blk w a t ++ w (a t))[c * j + i]? = _
    by_cases hj : j = t
    · subst hj
      rw [List.getElem?_append_right (by rw [blk_len hc]; omega), blk_len hc, Nat.add_sub_cancel_left]
    · have h2 : c * j + i < c * t := by
        have : c * (j + 1) ≤ c * t := Nat.mul_le_mul_left c (by omega)
        rw [Nat.mul_succ] at this
        omega
      rw [List.getElem?_append_left (by rw [blk_len hc]; exact h2)]
      exact blk_at hc a hi t (by omega)
def hX (cI cT cS : ClassId) (x : Nat → Nat) (fT fS : Nat → Option Nat) : va_W := [((x 0), .inr (8, [.ref (x 1), .ref (x 2), .ref (x 3), .ref (x 6), .ref (x 10), .int 0, .int 0, .int 0, .int 0, .int 0, .int 0])), ((x 1), .inl (cT, 16, .inr (.inr (.inr (.inr fT))))), ((x 2), .inl (cS, 4, .inr (.inr (.inr (.inr fS))))), ((x 3), .inr (3, [.ref (x 4), .ref (x 5)])), ((x 4), .inl (cI, 16, .inl (fun _ => 0))), ((x 5), .inl (cI, 80, .inl (fun _ => 0))), ((x 6), .inr (7, [.ref (x 7), .ref (x 8), .ref (x 9), .int 0])), ((x 7), .inl (cI, 512, .inl (fun _ => 0))), ((x 8), .inl (cI, 512, .inl (fun _ => 0))), ((x 9), .inl (cI, 512, .inl (fun _ => 0))), ((x 10), .inr (2, [.ref (x 11), .ref (x 12), .int 0, .int 0])), ((x 11), .inl (cI, 600, .inl (fun _ => 0))), ((x 12), .inl (cI, 100, .inl (fun _ => 0)))]
set_option maxHeartbeats 4000000 in
set_option maxRecDepth 100000 in
theorem x6_loopT {p : Program} {l : Launch} {e : Env} {s : State} {m : MethodId} {args : Array Value} {below : List Frame} {meth : Method} {c : Code} {Q : State → Prop} {D : va_G} {A : Nat → Prop} {cI cT cS : ClassId} {x : Nat → Nat} (C : kC p s m args meth c RX6 cX6_init 2 D (xty cI cT cS)) (K : ∀ (a : Nat → Nat → Nat) (H : Heap) (locs : List Loc) (ls : Array Slot), kWd D A (hX cI cT cS x (fUp a 16) (fun _ => none) ++ blk (wX4 cI) a 16) s H locs → lv_has ls 2 [(1, .int (nI 16)), (0, .ref (x 0))] → W p l e { frames := 3, cells := 240, slots := 4626, locals := 52 } s m args below meth c H locs (12 + 13 * 16) (2362 + 112 * 16) Q (F0 m 81 ls [])) : ∀ (k t : Nat) (a : Nat → Nat → Nat) (H : Heap) (locs : List Loc) (ls : Array Slot), t + k = 16 → kWd D A (hX cI cT cS x (fUp a t) (fun _ => none) ++ blk (wX4 cI) a t) s H locs → lv_has ls 2 [(1, .int (nI t)), (0, .ref (x 0))] → W p l e { frames := 3, cells := 240, slots := 4626, locals := 52 } s m args below meth c H locs (12 + 13 * t) (2362 + 112 * t) Q (F0 m 56 ls []) := by
  have hx := C.1.1
  have hb := C.1.2.1
  intro k
  induction k with
  | zero =>
    intro t a H locs ls ht w hl
    have e : t = 16 := by omega
    subst e
    refine lv_iload_n hx hb dX6_init_56 rfl (lv_at hl 0 rfl) ?_
    refine lv_bipush (v := 16) hx hb dX6_init_57 (by decide) ?_
    refine lv_icmp_ge (tgt := 81) hx hb dX6_init_59 (by decide) (fun c1 => ?_) (fun c1 => ?_)
    · exact K a H locs ls w hl
    · exact absurd (show (16 : Int32) ≤ nI 16 by decide) c1
  | succ k ih =>
    intro t a H locs ls ht w hl
    refine lv_iload_n hx hb dX6_init_56 rfl (lv_at hl 0 rfl) ?_
    refine lv_bipush (v := 16) hx hb dX6_init_57 (by decide) ?_
    refine lv_icmp_ge (tgt := 81) hx hb dX6_init_59 (by decide) (fun c1 => ?_) (fun c1 => ?_)
    · exact absurd c1 (show ¬ (16 : Int32) ≤ nI t from nI_ge (a := t) (b := 16) (by omega) (by omega))
    · refine lv_aload_n hx hb dX6_init_62 rfl (lv_at hl 1 rfl) ?_
      refine k_get C w ginX6 0 rfl rfl 0 (by decide) kf_X6_11 rfl dX6_init_63 ?_
      refine lv_iload_n hx hb dX6_init_66 rfl (lv_at hl 0 rfl) ?_
      refine k_new (ci := 6) C w ginX4 tyX4 tyX4_ok kz_X6_9 kb_X4 ki_X4 rfl df_X4 (by show 12 + 13 * t + 1 ≤ 240; omega) (by show 2362 + 112 * t + 13 ≤ 4626; omega) dX6_init_67 (fun q H w => ?_)
      refine lv_dup hx hb dX6_init_70 rfl ?_
      refine k_call (wr := (hX cI cT cS x (fUp a t) (fun _ => none) ++ blk (wX4 cI) a t)) (rest := [.ref q, .int (nI t), .ref (x 1)]) C w c_X4_init (List.mem_of_getElem? (i := 3) rfl) rfl kc_X4_init ki_X4 kn_X4_init ⟨by decide +kernel, by decide +kernel, by decide +kernel⟩ ⟨Nat.le_of_ble_eq_true rfl, Nat.le_of_ble_eq_true rfl⟩ hl.1 (Nat.le_of_ble_eq_true rfl) dX6_init_71 ⟨by show 12 + 13 * t + 1 + 12 ≤ 240; omega, by show 2362 + 112 * t + 13 + 99 ≤ 4626; omega⟩ (fun b H locs hb0 w9 => ?_)
      subst hb0
      refine W.widen (k := 12 + 13 * (t + 1)) (n := 2362 + 112 * (t + 1)) (by show 12 + 13 * t + 1 + 12 ≤ _; omega) (by show 2362 + 112 * t + 13 + 99 ≤ _; omega) ?_
      refine k_astq C w9 1 1 ((hX cI cT cS x (fUp a t) (fun _ => none) ++ blk (wX4 cI) a t)).length 6 rfl rfl (by rw [List.getElem?_append_right (Nat.le_refl _), Nat.sub_self]; rfl) rfl (vp_in_nI (show t < 16 by omega) (by omega)) dX6_init_74 (fun H locs w => ?_)
      rw [nI_clamp (show t < 2 ^ 31 by omega)] at w
      have w : kWd D A (hX cI cT cS x (fUp (aUp a t b) (t + 1)) (fun _ => none) ++ blk (wX4 cI) (aUp a t b) (t + 1)) s H locs := by
        rw [blk_up, ← fUp_up]
        rw [List.append_assoc] at w
        skip
        exact w
      refine lv_iinc (v := nI (t + 1)) (lv' := [(1, .int (nI (t + 1))), (0, .ref (x 0))]) hx hb dX6_init_75 hl (k := 0) rfl (nI_1 t) (by decide) rfl (fun ls hl => ?_)
      refine lv_goto (tgt := 56) hx hb dX6_init_78 (by decide) ?_
      exact ih (t + 1) _ H locs ls (by omega) w hl
set_option maxHeartbeats 4000000 in
set_option maxRecDepth 100000 in
theorem x6_loopS {p : Program} {l : Launch} {e : Env} {s : State} {m : MethodId} {args : Array Value} {below : List Frame} {meth : Method} {c : Code} {Q : State → Prop} {D : va_G} {A : Nat → Prop} {cI cT cS : ClassId} {x : Nat → Nat} {fT : Nat → Option Nat} {bT : va_W} (C : kC p s m args meth c RX6 cX6_init 2 D (xty cI cT cS)) (K : ∀ (a : Nat → Nat → Nat) (H : Heap) (locs : List Loc) (ls : Array Slot), kWd D A ((hX cI cT cS x fT (fUp a 4) ++ bT) ++ blk (wX3 cI) a 4) s H locs → lv_has ls 2 [(1, .int (nI 4)), (0, .ref (x 0))] → W p l e { frames := 3, cells := 240, slots := 4626, locals := 52 } s m args below meth c H locs (220 + 5 * 4) (4154 + 118 * 4) Q (F0 m 107 ls [])) : ∀ (k t : Nat) (a : Nat → Nat → Nat) (H : Heap) (locs : List Loc) (ls : Array Slot), t + k = 4 → kWd D A ((hX cI cT cS x fT (fUp a t) ++ bT) ++ blk (wX3 cI) a t) s H locs → lv_has ls 2 [(1, .int (nI t)), (0, .ref (x 0))] → W p l e { frames := 3, cells := 240, slots := 4626, locals := 52 } s m args below meth c H locs (220 + 5 * t) (4154 + 118 * t) Q (F0 m 83 ls []) := by
  have hx := C.1.1
  have hb := C.1.2.1
  intro k
  induction k with
  | zero =>
    intro t a H locs ls ht w hl
    have e : t = 4 := by omega
    subst e
    refine lv_iload_n hx hb dX6_init_83 rfl (lv_at hl 0 rfl) ?_
    refine lv_iconst (v := 4) hx hb dX6_init_84 (by decide) ?_
    refine lv_icmp_ge (tgt := 107) hx hb dX6_init_85 (by decide) (fun c1 => ?_) (fun c1 => ?_)
    · exact K a H locs ls w hl
    · exact absurd (show (4 : Int32) ≤ nI 4 by decide) c1
  | succ k ih =>
    intro t a H locs ls ht w hl
    refine lv_iload_n hx hb dX6_init_83 rfl (lv_at hl 0 rfl) ?_
    refine lv_iconst (v := 4) hx hb dX6_init_84 (by decide) ?_
    refine lv_icmp_ge (tgt := 107) hx hb dX6_init_85 (by decide) (fun c1 => ?_) (fun c1 => ?_)
    · exact absurd c1 (show ¬ (4 : Int32) ≤ nI t from nI_ge (a := t) (b := 4) (by omega) (by omega))
    · refine lv_aload_n hx hb dX6_init_88 rfl (lv_at hl 1 rfl) ?_
      refine k_get C w ginX6 0 rfl rfl 1 (by decide) kf_X6_17 rfl dX6_init_89 ?_
      refine lv_iload_n hx hb dX6_init_92 rfl (lv_at hl 0 rfl) ?_
      refine k_new (ci := 5) C w ginX3 tyX3 tyX3_ok kz_X6_15 kb_X3 ki_X3 rfl df_X3 (by show 220 + 5 * t + 1 ≤ 240; omega) (by show 4154 + 118 * t + 4 ≤ 4626; omega) dX6_init_93 (fun q H w => ?_)
      refine lv_dup hx hb dX6_init_96 rfl ?_
      refine k_call (wr := ((hX cI cT cS x fT (fUp a t) ++ bT) ++ blk (wX3 cI) a t)) (rest := [.ref q, .int (nI t), .ref (x 2)]) C w c_X3_init (List.mem_of_getElem? (i := 5) rfl) rfl kc_X3_init ki_X3 kn_X3_init ⟨by decide +kernel, by decide +kernel, by decide +kernel⟩ ⟨Nat.le_of_ble_eq_true rfl, Nat.le_of_ble_eq_true rfl⟩ hl.1 (Nat.le_of_ble_eq_true rfl) dX6_init_97 ⟨by show 220 + 5 * t + 1 + 4 ≤ 240; omega, by show 4154 + 118 * t + 4 + 114 ≤ 4626; omega⟩ (fun b H locs hb0 w9 => ?_)
      subst hb0
      refine W.widen (k := 220 + 5 * (t + 1)) (n := 4154 + 118 * (t + 1)) (by show 220 + 5 * t + 1 + 4 ≤ _; omega) (by show 4154 + 118 * t + 4 + 114 ≤ _; omega) ?_
      refine k_astq C w9 2 2 (((hX cI cT cS x fT (fUp a t) ++ bT) ++ blk (wX3 cI) a t)).length 5 rfl rfl (by rw [List.getElem?_append_right (Nat.le_refl _), Nat.sub_self]; rfl) rfl (vp_in_nI (show t < 4 by omega) (by omega)) dX6_init_100 (fun H locs w => ?_)
      rw [nI_clamp (show t < 2 ^ 31 by omega)] at w
      have w : kWd D A ((hX cI cT cS x fT (fUp (aUp a t b) (t + 1)) ++ bT) ++ blk (wX3 cI) (aUp a t b) (t + 1)) s H locs := by
        rw [blk_up, ← fUp_up]
        rw [List.append_assoc] at w
        rw [List.append_assoc] at w ⊢
        exact w
      refine lv_iinc (v := nI (t + 1)) (lv' := [(1, .int (nI (t + 1))), (0, .ref (x 0))]) hx hb dX6_init_101 hl (k := 0) rfl (nI_1 t) (by decide) rfl (fun ls hl => ?_)
      refine lv_goto (tgt := 83) hx hb dX6_init_104 (by decide) ?_
      exact ih (t + 1) _ H locs ls (by omega) w hl
