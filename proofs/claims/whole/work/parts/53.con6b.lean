/-! The class's world, as its constructor leaves it -/
def M0x : Mem := fun k j => if 33 ≤ k ∧ (k - 33) % 13 = 0 ∧ j = 1 then -1 else if (13 ≤ k ∧ k < 33) ∧ (k - 13) % 5 = 0 ∧ j = 2 then 1000 else if (13 ≤ k ∧ k < 33) ∧ (k - 13) % 5 = 0 ∧ j = 3 then -1 else 0
def adX (x : Nat → Nat) (aT aS : Nat → Nat → Nat) (k : Nat) : Nat := if k < 13 then x k else if k < 33 then aS ((k - 13) / 5) ((k - 13) % 5) else aT ((k - 33) / 13) ((k - 33) % 13)
def posX (k : Nat) : Nat := if k < 13 then k else if k < 33 then k + 208 else k - 20
theorem adX_T {x : Nat → Nat} {aT aS : Nat → Nat → Nat} {t i : Nat} (hi : i < 13) : adX x aT aS (33 + 13 * t + i) = aT t i := by
  unfold adX
  rw [if_neg (by omega), if_neg (by omega), show (33 + 13 * t + i - 33) / 13 = t by omega, show (33 + 13 * t + i - 33) % 13 = i by omega]
theorem adX_S {x : Nat → Nat} {aT aS : Nat → Nat → Nat} {t i : Nat} (ht : t < 4) (hi : i < 5) : adX x aT aS (13 + 5 * t + i) = aS t i := by
  unfold adX
  rw [if_neg (by omega), if_pos (by omega), show (13 + 5 * t + i - 13) / 5 = t by omega, show (13 + 5 * t + i - 13) % 5 = i by omega]
theorem M0x_ne {k j : Nat} (h1 : ¬ (33 ≤ k ∧ (k - 33) % 13 = 0 ∧ j = 1)) (h2 : ¬ ((13 ≤ k ∧ k < 33) ∧ (k - 13) % 5 = 0 ∧ (j = 2 ∨ j = 3))) : M0x k j = 0 := by
  unfold M0x
  rw [if_neg h1, if_neg (by omega), if_neg (by omega)]
theorem M0x_T {k : Nat} (h1 : 33 ≤ k ∧ (k - 33) % 13 = 0) : M0x k 1 = -1 := by
  unfold M0x
  rw [if_pos ⟨h1.1, h1.2, rfl⟩]
theorem M0x_S {k : Nat} (h1 : 13 ≤ k ∧ k < 33 ∧ (k - 13) % 5 = 0) : M0x k 2 = 1000 ∧ M0x k 3 = -1 := by
  unfold M0x
  rw [if_neg (by omega), if_pos (by omega), if_neg (by omega), if_neg (by omega), if_pos (by omega)]
  exact ⟨rfl, rfl⟩
theorem M0x_0 {k : Nat} (h1 : 33 ≤ k → (k - 33) % 13 ≠ 0) (h2 : 13 ≤ k → k < 33 → (k - 13) % 5 ≠ 0) : M0x k = fun _ => 0 := by
  funext j
  exact M0x_ne (fun q => h1 q.1 q.2.1) (fun q => h2 q.1.1 q.1.2 q.2.1)
section XG
variable {cI cT cS : ClassId} {x : Nat → Nat} {aT aS : Nat → Nat → Nat}
theorem xg_T {t i : Nat} (ht : t < 16) (hi : i < 13) : (wX4 cI (aT t))[i]? = some (adX x aT aS (33 + 13 * t + i), xE cI cT cS (adX x aT aS) M0x (33 + 13 * t + i)) := by
  rw [adX_T hi]
  have ex : xT (33 + 13 * t) := ⟨t, ht, rfl⟩
  have ar : ∀ {k n : Nat}, gAr 241 (xE cI cT cS) (adX x aT aS) cI k n → (33 ≤ k → (k - 33) % 13 ≠ 0) → (13 ≤ k → k < 33 → (k - 13) % 5 ≠ 0) → xE cI cT cS (adX x aT aS) M0x k = .inl (cI, n, .inl (fun _ => 0)) := fun h h1 h2 => by rw [h.2 M0x, M0x_0 h1 h2]
  have ro : ∀ {k : Nat} {q : Nat}, xR k → adX x aT aS (k + 1) = q → (33 ≤ k → (k - 33) % 13 ≠ 0) → (13 ≤ k → k < 33 → (k - 13) % 5 ≠ 0) → xE cI cT cS (adX x aT aS) M0x k = .inr (4, [.ref q, .int 0, .int 0]) := fun h hq h1 h2 => by
    rw [(ob_X2 h).2 M0x, ← hq]
    unfold fX2
    rw [M0x_0 h1 h2]
  rcases (show i = 0 ∨ i = 1 ∨ i = 2 ∨ i = 3 ∨ i = 4 ∨ i = 5 ∨ i = 6 ∨ i = 7 ∨ i = 8 ∨ i = 9 ∨ i = 10 ∨ i = 11 ∨ i = 12 by omega) with rfl | rfl | rfl | rfl | rfl | rfl | rfl | rfl | rfl | rfl | rfl | rfl | rfl
  · rw [Nat.add_zero, (ob_X4 ex).2 M0x]
    unfold fX4
    rw [M0x_T (by omega), M0x_ne (by omega) (by omega), M0x_ne (by omega) (by omega), M0x_ne (by omega) (by omega), adX_T (by omega), adX_T (by omega), adX_T (by omega), adX_T (by omega), adX_T (by omega), adX_T (by omega), adX_T (by omega), adX_T (by omega), adX_T (by omega)]
    rfl
  · rw [ro (xT_r1 ex) (q := aT t 2) (by rw [show 33 + 13 * t + 1 + 1 = 33 + 13 * t + 2 by omega]; exact adX_T (by omega)) (by omega) (by omega)]
    rfl
  · rw [ar (xR_a (xT_r1 ex)) (by omega) (by omega)]
    rfl
  · rw [ro (xT_r3 ex) (q := aT t 4) (by rw [show 33 + 13 * t + 3 + 1 = 33 + 13 * t + 4 by omega]; exact adX_T (by omega)) (by omega) (by omega)]
    rfl
  · rw [ar (xR_a (xT_r3 ex)) (by omega) (by omega)]
    rfl
  · rw [ro (xT_r5 ex) (q := aT t 6) (by rw [show 33 + 13 * t + 5 + 1 = 33 + 13 * t + 6 by omega]; exact adX_T (by omega)) (by omega) (by omega)]
    rfl
  · rw [ar (xR_a (xT_r5 ex)) (by omega) (by omega)]
    rfl
  · rw [ar (xT_a7 ex) (by omega) (by omega)]
    rfl
  · rw [ar (xT_a8 ex) (by omega) (by omega)]
    rfl
  · rw [ar (xT_a9 ex) (by omega) (by omega)]
    rfl
  · rw [ar (xT_a10 ex) (by omega) (by omega)]
    rfl
  · rw [ar (xT_a11 ex) (by omega) (by omega)]
    rfl
  · rw [ar (xT_a12 ex) (by omega) (by omega)]
    rfl
theorem xg_S {t i : Nat} (ht : t < 4) (hi : i < 5) : (wX3 cI (aS t))[i]? = some (adX x aT aS (13 + 5 * t + i), xE cI cT cS (adX x aT aS) M0x (13 + 5 * t + i)) := by
  rw [adX_S ht hi]
  have ex : xS (13 + 5 * t) := ⟨t, ht, rfl⟩
  have ar : ∀ {k n : Nat}, gAr 241 (xE cI cT cS) (adX x aT aS) cI k n → (33 ≤ k → (k - 33) % 13 ≠ 0) → (13 ≤ k → k < 33 → (k - 13) % 5 ≠ 0) → xE cI cT cS (adX x aT aS) M0x k = .inl (cI, n, .inl (fun _ => 0)) := fun h h1 h2 => by rw [h.2 M0x, M0x_0 h1 h2]
  rcases (show i = 0 ∨ i = 1 ∨ i = 2 ∨ i = 3 ∨ i = 4 by omega) with rfl | rfl | rfl | rfl | rfl
  · rw [Nat.add_zero, (ob_X3 ex).2 M0x]
    unfold fX3
    have := M0x_S (k := 13 + 5 * t) (by omega)
    rw [this.1, this.2, adX_S ht (by omega), adX_S ht (by omega)]
    rfl
  · rw [(ob_X1 (xS_p ex)).2 M0x]
    unfold fX1
    rw [show 13 + 5 * t + 1 + 1 = 13 + 5 * t + 2 by omega, show 13 + 5 * t + 1 + 2 = 13 + 5 * t + 3 by omega, adX_S ht (by omega), adX_S ht (by omega)]
    rfl
  · have := ar (xP_s (cI := cI) (cT := cT) (cS := cS) (ad := adX x aT aS) (xS_p ex)) (by omega) (by omega)
    rw [show 13 + 5 * t + 2 = 13 + 5 * t + 1 + 1 by omega, this]
    rfl
  · have := ar (xP_n (cI := cI) (cT := cT) (cS := cS) (ad := adX x aT aS) (xS_p ex)) (by omega) (by omega)
    rw [show 13 + 5 * t + 3 = 13 + 5 * t + 1 + 2 by omega, this]
    rfl
  · rw [ar (xS_g ex) (by omega) (by omega)]
    rfl
theorem wX4_len (a : Nat → Nat) : (wX4 cI a).length = 13 := rfl
theorem wX3_len (a : Nat → Nat) : (wX3 cI a).length = 5 := rfl
set_option maxRecDepth 100000 in
set_option maxHeartbeats 4000000 in
theorem xg_at {k : Nat} (hk : k < 241) (h1 : k ≠ 1) (h2 : k ≠ 2) : ((hX cI cT cS x (fUp aT 16) (fUp aS 4) ++ blk (wX4 cI) aT 16) ++ blk (wX3 cI) aS 4)[posX k]? = some (adX x aT aS k, xE cI cT cS (adX x aT aS) M0x k) := by
  have hlX : (hX cI cT cS x (fUp aT 16) (fUp aS 4)).length = 13 := rfl
  have hlT := blk_len (w := wX4 cI) wX4_len aT 16
  unfold posX
  by_cases hk1 : k < 13
  · rw [if_pos hk1, List.getElem?_append_left (by rw [List.length_append, hlX]; omega), List.getElem?_append_left (by rw [hlX]; omega)]
    rcases (show k = 0 ∨ k = 3 ∨ k = 4 ∨ k = 5 ∨ k = 6 ∨ k = 7 ∨ k = 8 ∨ k = 9 ∨ k = 10 ∨ k = 11 ∨ k = 12 by omega) with rfl | rfl | rfl | rfl | rfl | rfl | rfl | rfl | rfl | rfl | rfl <;> rfl
  · rw [if_neg hk1]
    by_cases hk2 : k < 33
    · rw [if_pos hk2, List.getElem?_append_right (by rw [List.length_append, hlX, hlT]; omega), List.length_append, hlX, hlT]
      have e : k + 208 - (13 + 13 * 16) = 5 * ((k - 13) / 5) + (k - 13) % 5 := by omega
      rw [e, blk_at wX3_len aS (by omega) 4 (by omega), xg_S (x := x) (aT := aT) (cT := cT) (cS := cS) (by omega) (by omega), show 13 + 5 * ((k - 13) / 5) + (k - 13) % 5 = k by omega]
    · rw [if_neg hk2, List.getElem?_append_left (by rw [List.length_append, hlX, hlT]; omega), List.getElem?_append_right (by rw [hlX]; omega), hlX]
      have e : k - 20 - 13 = 13 * ((k - 33) / 13) + (k - 33) % 13 := by omega
      rw [e, blk_at wX4_len aT (by omega) 16 (by omega), xg_T (x := x) (aS := aS) (cT := cT) (cS := cS) (by omega) (by omega), show 33 + 13 * ((k - 33) / 13) + (k - 33) % 13 = k by omega]
theorem vq_ext {cA : ClassId} {n : Nat} {f g : Nat → Option Nat} (h : ∀ j, j < n → f j = g j) : vp_cell cA (n, .inr (.inr (.inr (.inr f)))) = vp_cell cA (n, .inr (.inr (.inr (.inr g)))) := by
  rw [vp_cell_q, vp_cell_q]
  unfold arrV
  congr 2
  funext j
  show va_rf (f j.1) = va_rf (g j.1)
  rw [h j.1 j.2]
theorem xg_gw {D : va_G} {A : Nat → Prop} {s : State} {H : Heap} {locs : List Loc} (w : kWd D A ((hX cI cT cS x (fUp aT 16) (fUp aS 4) ++ blk (wX4 cI) aT 16) ++ blk (wX3 cI) aS 4) s H locs) : kWd D A (gw 241 (xE cI cT cS) (adX x aT aS) M0x) s H locs := by
  obtain ⟨hP, hD, hS, hA⟩ := w
  have key : ∀ (k : Nat) (q : Nat × va_E), (gw 241 (xE cI cT cS) (adX x aT aS) M0x)[k]? = some q → k < 241 ∧ q = (adX x aT aS k, xE cI cT cS (adX x aT aS) M0x k) := by
    intro k q hk
    have hl : k < 241 := by simpa [gw] using (List.getElem?_eq_some_iff.mp hk).1
    rw [gw_at hl] at hk
    exact ⟨hl, (Option.some.inj hk).symm⟩
  have ex : ∀ k, k < 241 → ∃ e, ((hX cI cT cS x (fUp aT 16) (fUp aS 4) ++ blk (wX4 cI) aT 16) ++ blk (wX3 cI) aS 4)[posX k]? = some (adX x aT aS k, e) := by
    intro k hk
    by_cases h1 : k = 1
    · subst h1
      exact ⟨_, rfl⟩
    · by_cases h2 : k = 2
      · subst h2
        exact ⟨_, rfl⟩
      · exact ⟨_, xg_at hk h1 h2⟩
  refine ⟨fun k q hk => ?_, ⟨fun i j y z hi hj hyz => ?_, fun k q hk => ?_⟩, hS, hA⟩
  · obtain ⟨hl, rfl⟩ := key k q hk
    by_cases h1 : k = 1
    · subst h1
      have := hP 1 (x 1, .inl (cT, 16, .inr (.inr (.inr (.inr (fUp aT 16)))))) rfl
      have h3 : H[x 1]? = some (vp_cell cT (16, .inr (.inr (.inr (.inr (fUp aT 16)))))) := this
      show H[x 1]? = some (vp_cell cT (16, .inr (.inr (.inr (.inr (fun j => some (adX x aT aS (33 + 13 * j))))))))
      rw [h3, vq_ext (fun j hj => ?_)]
      unfold fUp
      rw [if_pos hj]
      have := adX_T (x := x) (aT := aT) (aS := aS) (t := j) (i := 0) (by omega)
      rw [Nat.add_zero] at this
      rw [this]
    · by_cases h2 : k = 2
      · subst h2
        have := hP 2 (x 2, .inl (cS, 4, .inr (.inr (.inr (.inr (fUp aS 4)))))) rfl
        have h3 : H[x 2]? = some (vp_cell cS (4, .inr (.inr (.inr (.inr (fUp aS 4)))))) := this
        show H[x 2]? = some (vp_cell cS (4, .inr (.inr (.inr (.inr (fun j => some (adX x aT aS (13 + 5 * j))))))))
        rw [h3, vq_ext (fun j hj => ?_)]
        unfold fUp
        rw [if_pos hj]
        have := adX_S (x := x) (aT := aT) (aS := aS) (t := j) (i := 0) hj (by omega)
        rw [Nat.add_zero] at this
        rw [this]
      · exact hP (posX k) _ (xg_at hl h1 h2)
  · obtain ⟨hli, rfl⟩ := key i y hi
    obtain ⟨hlj, rfl⟩ := key j z hj
    obtain ⟨e1, g1⟩ := ex i hli
    obtain ⟨e2, g2⟩ := ex j hlj
    have := hD.1 _ _ _ _ g1 g2 hyz
    unfold posX at this
    split at this <;> split at this <;> (try split at this) <;> (try split at this) <;> omega
  · obtain ⟨hl, rfl⟩ := key k q hk
    obtain ⟨e1, g1⟩ := ex k hl
    exact hD.2 _ (adX x aT aS k, e1) g1
end XG
set_option maxHeartbeats 4000000 in
set_option maxRecDepth 100000 in
theorem c_X6_init {l : Launch} {D : va_G} {cI cT cS : ClassId} {h0 sz : Nat} : kMet l yX6_init cX6_init 2 { frames := 3, cells := 240, slots := 4626, locals := 52 } D (xty cI cT cS) h0 (.inr (8, [.null, .null, .null, .null, .null, .int 0, .int 0, .int 0, .int 0, .int 0, .int 0])) sz (fun ad => gw 241 (xE cI cT cS) ad M0x) := by
  refine kMet_of (by decide) rfl (Nat.le_of_ble_eq_true rfl) (fun p e s m args below meth c ls A C w hl => ?_)
  have hx := C.1.1
  have hb := C.1.2.1
  refine lv_aload_n hx hb dX6_init_0 rfl (lv_at hl 0 rfl) ?_
  refine k_obj C hl.1 ko_X6 dX6_init_1 ⟨Nat.le_of_ble_eq_true rfl, Nat.le_of_ble_eq_true rfl⟩ ?_
  refine lv_aload_n hx hb dX6_init_4 rfl (lv_at hl 0 rfl) ?_
  refine lv_bipush (v := 16) hx hb dX6_init_5 (by decide) ?_
  refine k_newq (N' := 16) C w (t0 := 1) rfl kz_X6_9 C.2.2.1.2.1 (by decide) (by decide) (by decide) (Nat.le_of_ble_eq_true rfl) (Nat.le_of_ble_eq_true rfl) dX6_init_7 (fun q7 H w => ?_)
  have w : kWd D A [(h0, .inr (8, [.null, .null, .null, .null, .null, .int 0, .int 0, .int 0, .int 0, .int 0, .int 0])), (q7, .inl (cT, 16, .inr (.inr (.inr (.inr (fun _ => none))))))] s H _ := w
  refine W.widen (k := 1) (n := 16) (Nat.le_of_ble_eq_true rfl) (Nat.le_of_ble_eq_true rfl) ?_
  refine k_putF (v := .ref q7) C w ginX6 tyX6 tyX6_ok nmX6 0 rfl rfl 0 (by decide) kf_X6_11 rfl rfl rfl rfl (Nat.le_of_ble_eq_true rfl) dX6_init_10 (fun H locs w => ?_)
  have w : kWd D A [(h0, .inr (8, [.ref q7, .null, .null, .null, .null, .int 0, .int 0, .int 0, .int 0, .int 0, .int 0])), (q7, .inl (cT, 16, .inr (.inr (.inr (.inr (fun _ => none))))))] s H locs := w
  refine lv_aload_n hx hb dX6_init_13 rfl (lv_at hl 0 rfl) ?_
  refine lv_iconst (v := 4) hx hb dX6_init_14 (by decide) ?_
  refine k_newq (N' := 4) C w (t0 := 2) rfl kz_X6_15 C.2.2.1.2.2 (by decide) (by decide) (by decide) (Nat.le_of_ble_eq_true rfl) (Nat.le_of_ble_eq_true rfl) dX6_init_15 (fun q15 H w => ?_)
  have w : kWd D A [(h0, .inr (8, [.ref q7, .null, .null, .null, .null, .int 0, .int 0, .int 0, .int 0, .int 0, .int 0])), (q7, .inl (cT, 16, .inr (.inr (.inr (.inr (fun _ => none)))))), (q15, .inl (cS, 4, .inr (.inr (.inr (.inr (fun _ => none))))))] s H _ := w
  refine W.widen (k := 2) (n := 20) (Nat.le_of_ble_eq_true rfl) (Nat.le_of_ble_eq_true rfl) ?_
  refine k_putF (v := .ref q15) C w ginX6 tyX6 tyX6_ok nmX6 0 rfl rfl 1 (by decide) kf_X6_17 rfl rfl rfl rfl (Nat.le_of_ble_eq_true rfl) dX6_init_18 (fun H locs w => ?_)
  have w : kWd D A [(h0, .inr (8, [.ref q7, .ref q15, .null, .null, .null, .int 0, .int 0, .int 0, .int 0, .int 0, .int 0])), (q7, .inl (cT, 16, .inr (.inr (.inr (.inr (fun _ => none)))))), (q15, .inl (cS, 4, .inr (.inr (.inr (.inr (fun _ => none))))))] s H locs := w
  refine lv_aload_n hx hb dX6_init_21 rfl (lv_at hl 0 rfl) ?_
  refine k_new (ci := 3) C w ginX1 tyX1 tyX1_ok kz_X6_21 kb_X1 ki_X1 rfl df_X1 (Nat.le_of_ble_eq_true rfl) (Nat.le_of_ble_eq_true rfl) dX6_init_22 (fun q22 H w => ?_)
  have w : kWd D A [(h0, .inr (8, [.ref q7, .ref q15, .null, .null, .null, .int 0, .int 0, .int 0, .int 0, .int 0, .int 0])), (q7, .inl (cT, 16, .inr (.inr (.inr (.inr (fun _ => none)))))), (q15, .inl (cS, 4, .inr (.inr (.inr (.inr (fun _ => none)))))), (q22, .inr (3, [.null, .null]))] s H _ := w
  refine W.widen (k := 3) (n := 22) (Nat.le_of_ble_eq_true rfl) (Nat.le_of_ble_eq_true rfl) ?_
  refine lv_dup hx hb dX6_init_25 rfl ?_
  refine k_call (wr := [(h0, .inr (8, [.ref q7, .ref q15, .null, .null, .null, .int 0, .int 0, .int 0, .int 0, .int 0, .int 0])), (q7, .inl (cT, 16, .inr (.inr (.inr (.inr (fun _ => none)))))), (q15, .inl (cS, 4, .inr (.inr (.inr (.inr (fun _ => none))))))]) (rest := [.ref q22, .ref h0]) C w (c_X1_init) (List.mem_of_getElem? (i := 0) rfl) rfl kc_X1_init ki_X1 kn_X1_init ⟨by decide +kernel, by decide +kernel, by decide +kernel⟩ ⟨Nat.le_of_ble_eq_true rfl, Nat.le_of_ble_eq_true rfl⟩ hl.1 (Nat.le_of_ble_eq_true rfl) dX6_init_26 ⟨Nat.le_of_ble_eq_true rfl, Nat.le_of_ble_eq_true rfl⟩ (fun a26 H locs ha26 w9 => ?_)
  subst ha26
  have w : kWd D A [(h0, .inr (8, [.ref q7, .ref q15, .null, .null, .null, .int 0, .int 0, .int 0, .int 0, .int 0, .int 0])), (q7, .inl (cT, 16, .inr (.inr (.inr (.inr (fun _ => none)))))), (q15, .inl (cS, 4, .inr (.inr (.inr (.inr (fun _ => none)))))), ((a26 0), .inr (3, [.ref (a26 1), .ref (a26 2)])), ((a26 1), .inl (cI, 16, .inl (fun _ => 0))), ((a26 2), .inl (cI, 80, .inl (fun _ => 0)))] s H locs := w9
  refine W.widen (k := 5) (n := 118) (Nat.le_of_ble_eq_true rfl) (Nat.le_of_ble_eq_true rfl) ?_
  refine k_putF (v := .ref (a26 0)) C w ginX6 tyX6 tyX6_ok nmX6 0 rfl rfl 2 (by decide) kf_X6_24 rfl rfl rfl rfl (Nat.le_of_ble_eq_true rfl) dX6_init_29 (fun H locs w => ?_)
  have w : kWd D A [(h0, .inr (8, [.ref q7, .ref q15, .ref (a26 0), .null, .null, .int 0, .int 0, .int 0, .int 0, .int 0, .int 0])), (q7, .inl (cT, 16, .inr (.inr (.inr (.inr (fun _ => none)))))), (q15, .inl (cS, 4, .inr (.inr (.inr (.inr (fun _ => none)))))), ((a26 0), .inr (3, [.ref (a26 1), .ref (a26 2)])), ((a26 1), .inl (cI, 16, .inl (fun _ => 0))), ((a26 2), .inl (cI, 80, .inl (fun _ => 0)))] s H locs := w
  refine lv_aload_n hx hb dX6_init_32 rfl (lv_at hl 0 rfl) ?_
  refine k_new (ci := 7) C w ginX5 tyX5 tyX5_ok kz_X6_28 kb_X5 ki_X5 rfl df_X5 (Nat.le_of_ble_eq_true rfl) (Nat.le_of_ble_eq_true rfl) dX6_init_33 (fun q33 H w => ?_)
  have w : kWd D A [(h0, .inr (8, [.ref q7, .ref q15, .ref (a26 0), .null, .null, .int 0, .int 0, .int 0, .int 0, .int 0, .int 0])), (q7, .inl (cT, 16, .inr (.inr (.inr (.inr (fun _ => none)))))), (q15, .inl (cS, 4, .inr (.inr (.inr (.inr (fun _ => none)))))), ((a26 0), .inr (3, [.ref (a26 1), .ref (a26 2)])), ((a26 1), .inl (cI, 16, .inl (fun _ => 0))), ((a26 2), .inl (cI, 80, .inl (fun _ => 0))), (q33, .inr (7, [.null, .null, .null, .int 0]))] s H _ := w
  refine W.widen (k := 6) (n := 122) (Nat.le_of_ble_eq_true rfl) (Nat.le_of_ble_eq_true rfl) ?_
  refine lv_dup hx hb dX6_init_36 rfl ?_
  refine k_call (wr := [(h0, .inr (8, [.ref q7, .ref q15, .ref (a26 0), .null, .null, .int 0, .int 0, .int 0, .int 0, .int 0, .int 0])), (q7, .inl (cT, 16, .inr (.inr (.inr (.inr (fun _ => none)))))), (q15, .inl (cS, 4, .inr (.inr (.inr (.inr (fun _ => none)))))), ((a26 0), .inr (3, [.ref (a26 1), .ref (a26 2)])), ((a26 1), .inl (cI, 16, .inl (fun _ => 0))), ((a26 2), .inl (cI, 80, .inl (fun _ => 0)))]) (rest := [.ref q33, .ref h0]) C w (c_X5_init) (List.mem_of_getElem? (i := 1) rfl) rfl kc_X5_init ki_X5 kn_X5_init ⟨by decide +kernel, by decide +kernel, by decide +kernel⟩ ⟨Nat.le_of_ble_eq_true rfl, Nat.le_of_ble_eq_true rfl⟩ hl.1 (Nat.le_of_ble_eq_true rfl) dX6_init_37 ⟨Nat.le_of_ble_eq_true rfl, Nat.le_of_ble_eq_true rfl⟩ (fun a37 H locs ha37 w9 => ?_)
  subst ha37
  have w : kWd D A [(h0, .inr (8, [.ref q7, .ref q15, .ref (a26 0), .null, .null, .int 0, .int 0, .int 0, .int 0, .int 0, .int 0])), (q7, .inl (cT, 16, .inr (.inr (.inr (.inr (fun _ => none)))))), (q15, .inl (cS, 4, .inr (.inr (.inr (.inr (fun _ => none)))))), ((a26 0), .inr (3, [.ref (a26 1), .ref (a26 2)])), ((a26 1), .inl (cI, 16, .inl (fun _ => 0))), ((a26 2), .inl (cI, 80, .inl (fun _ => 0))), ((a37 0), .inr (7, [.ref (a37 1), .ref (a37 2), .ref (a37 3), .int 0])), ((a37 1), .inl (cI, 512, .inl (fun _ => 0))), ((a37 2), .inl (cI, 512, .inl (fun _ => 0))), ((a37 3), .inl (cI, 512, .inl (fun _ => 0)))] s H locs := w9
  refine W.widen (k := 9) (n := 1658) (Nat.le_of_ble_eq_true rfl) (Nat.le_of_ble_eq_true rfl) ?_
  refine k_putF (v := .ref (a37 0)) C w ginX6 tyX6 tyX6_ok nmX6 0 rfl rfl 3 (by decide) kf_X6_31 rfl rfl rfl rfl (Nat.le_of_ble_eq_true rfl) dX6_init_40 (fun H locs w => ?_)
  have w : kWd D A [(h0, .inr (8, [.ref q7, .ref q15, .ref (a26 0), .ref (a37 0), .null, .int 0, .int 0, .int 0, .int 0, .int 0, .int 0])), (q7, .inl (cT, 16, .inr (.inr (.inr (.inr (fun _ => none)))))), (q15, .inl (cS, 4, .inr (.inr (.inr (.inr (fun _ => none)))))), ((a26 0), .inr (3, [.ref (a26 1), .ref (a26 2)])), ((a26 1), .inl (cI, 16, .inl (fun _ => 0))), ((a26 2), .inl (cI, 80, .inl (fun _ => 0))), ((a37 0), .inr (7, [.ref (a37 1), .ref (a37 2), .ref (a37 3), .int 0])), ((a37 1), .inl (cI, 512, .inl (fun _ => 0))), ((a37 2), .inl (cI, 512, .inl (fun _ => 0))), ((a37 3), .inl (cI, 512, .inl (fun _ => 0)))] s H locs := w
  refine lv_aload_n hx hb dX6_init_43 rfl (lv_at hl 0 rfl) ?_
  refine k_new (ci := 2) C w ginX0 tyX0 tyX0_ok kz_X6_35 kb_X0 ki_X0 rfl df_X0 (Nat.le_of_ble_eq_true rfl) (Nat.le_of_ble_eq_true rfl) dX6_init_44 (fun q44 H w => ?_)
  have w : kWd D A [(h0, .inr (8, [.ref q7, .ref q15, .ref (a26 0), .ref (a37 0), .null, .int 0, .int 0, .int 0, .int 0, .int 0, .int 0])), (q7, .inl (cT, 16, .inr (.inr (.inr (.inr (fun _ => none)))))), (q15, .inl (cS, 4, .inr (.inr (.inr (.inr (fun _ => none)))))), ((a26 0), .inr (3, [.ref (a26 1), .ref (a26 2)])), ((a26 1), .inl (cI, 16, .inl (fun _ => 0))), ((a26 2), .inl (cI, 80, .inl (fun _ => 0))), ((a37 0), .inr (7, [.ref (a37 1), .ref (a37 2), .ref (a37 3), .int 0])), ((a37 1), .inl (cI, 512, .inl (fun _ => 0))), ((a37 2), .inl (cI, 512, .inl (fun _ => 0))), ((a37 3), .inl (cI, 512, .inl (fun _ => 0))), (q44, .inr (2, [.null, .null, .int 0, .int 0]))] s H _ := w
  refine W.widen (k := 10) (n := 1662) (Nat.le_of_ble_eq_true rfl) (Nat.le_of_ble_eq_true rfl) ?_
  refine lv_dup hx hb dX6_init_47 rfl ?_
  refine k_call (wr := [(h0, .inr (8, [.ref q7, .ref q15, .ref (a26 0), .ref (a37 0), .null, .int 0, .int 0, .int 0, .int 0, .int 0, .int 0])), (q7, .inl (cT, 16, .inr (.inr (.inr (.inr (fun _ => none)))))), (q15, .inl (cS, 4, .inr (.inr (.inr (.inr (fun _ => none)))))), ((a26 0), .inr (3, [.ref (a26 1), .ref (a26 2)])), ((a26 1), .inl (cI, 16, .inl (fun _ => 0))), ((a26 2), .inl (cI, 80, .inl (fun _ => 0))), ((a37 0), .inr (7, [.ref (a37 1), .ref (a37 2), .ref (a37 3), .int 0])), ((a37 1), .inl (cI, 512, .inl (fun _ => 0))), ((a37 2), .inl (cI, 512, .inl (fun _ => 0))), ((a37 3), .inl (cI, 512, .inl (fun _ => 0)))]) (rest := [.ref q44, .ref h0]) C w (c_X0_init) (List.mem_of_getElem? (i := 2) rfl) rfl kc_X0_init ki_X0 kn_X0_init ⟨by decide +kernel, by decide +kernel, by decide +kernel⟩ ⟨Nat.le_of_ble_eq_true rfl, Nat.le_of_ble_eq_true rfl⟩ hl.1 (Nat.le_of_ble_eq_true rfl) dX6_init_48 ⟨Nat.le_of_ble_eq_true rfl, Nat.le_of_ble_eq_true rfl⟩ (fun a48 H locs ha48 w9 => ?_)
  subst ha48
  have w : kWd D A [(h0, .inr (8, [.ref q7, .ref q15, .ref (a26 0), .ref (a37 0), .null, .int 0, .int 0, .int 0, .int 0, .int 0, .int 0])), (q7, .inl (cT, 16, .inr (.inr (.inr (.inr (fun _ => none)))))), (q15, .inl (cS, 4, .inr (.inr (.inr (.inr (fun _ => none)))))), ((a26 0), .inr (3, [.ref (a26 1), .ref (a26 2)])), ((a26 1), .inl (cI, 16, .inl (fun _ => 0))), ((a26 2), .inl (cI, 80, .inl (fun _ => 0))), ((a37 0), .inr (7, [.ref (a37 1), .ref (a37 2), .ref (a37 3), .int 0])), ((a37 1), .inl (cI, 512, .inl (fun _ => 0))), ((a37 2), .inl (cI, 512, .inl (fun _ => 0))), ((a37 3), .inl (cI, 512, .inl (fun _ => 0))), ((a48 0), .inr (2, [.ref (a48 1), .ref (a48 2), .int 0, .int 0])), ((a48 1), .inl (cI, 600, .inl (fun _ => 0))), ((a48 2), .inl (cI, 100, .inl (fun _ => 0)))] s H locs := w9
  refine W.widen (k := 12) (n := 2362) (Nat.le_of_ble_eq_true rfl) (Nat.le_of_ble_eq_true rfl) ?_
  refine k_putF (v := .ref (a48 0)) C w ginX6 tyX6 tyX6_ok nmX6 0 rfl rfl 4 (by decide) kf_X6_38 rfl rfl rfl rfl (Nat.le_of_ble_eq_true rfl) dX6_init_51 (fun H locs w => ?_)
  have w : kWd D A [(h0, .inr (8, [.ref q7, .ref q15, .ref (a26 0), .ref (a37 0), .ref (a48 0), .int 0, .int 0, .int 0, .int 0, .int 0, .int 0])), (q7, .inl (cT, 16, .inr (.inr (.inr (.inr (fun _ => none)))))), (q15, .inl (cS, 4, .inr (.inr (.inr (.inr (fun _ => none)))))), ((a26 0), .inr (3, [.ref (a26 1), .ref (a26 2)])), ((a26 1), .inl (cI, 16, .inl (fun _ => 0))), ((a26 2), .inl (cI, 80, .inl (fun _ => 0))), ((a37 0), .inr (7, [.ref (a37 1), .ref (a37 2), .ref (a37 3), .int 0])), ((a37 1), .inl (cI, 512, .inl (fun _ => 0))), ((a37 2), .inl (cI, 512, .inl (fun _ => 0))), ((a37 3), .inl (cI, 512, .inl (fun _ => 0))), ((a48 0), .inr (2, [.ref (a48 1), .ref (a48 2), .int 0, .int 0])), ((a48 1), .inl (cI, 600, .inl (fun _ => 0))), ((a48 2), .inl (cI, 100, .inl (fun _ => 0)))] s H locs := w
  obtain ⟨x, hxe⟩ : ∃ x : Nat → Nat, x = (fun k => ([h0, q7, q15, a26 0, a26 1, a26 2, a37 0, a37 1, a37 2, a37 3, a48 0, a48 1, a48 2] : List Nat).getD k 0) := ⟨_, rfl⟩
  have hx0 : x 0 = h0 := by rw [hxe]; rfl
  have w : kWd D A (hX cI cT cS x (fUp (fun _ _ => 0) 0) (fun _ => none) ++ blk (wX4 cI) (fun _ _ => 0) 0) s H locs := by
    show kWd D A (hX cI cT cS _ (fUp (fun _ _ => 0) 0) (fun _ => none) ++ []) s H locs
    rw [List.append_nil, show fUp (fun _ _ => 0) 0 = fun _ => none by funext j; unfold fUp; rw [if_neg (Nat.not_lt_zero j)], hxe]
    exact w
  refine lv_iconst (v := 0) hx hb dX6_init_54 (by decide) ?_
  refine lv_istore_n (lv' := [(1, .int 0), (0, .ref h0)]) hx hb dX6_init_55 rfl hl (by decide) rfl (fun ls hl => ?_)
  rw [← hx0] at hl
  refine x6_loopT (x := x) C (fun aT H locs ls w hl => ?_) 16 0 (fun _ _ => 0) H locs ls rfl w hl
  refine lv_iconst (v := 0) hx hb dX6_init_81 (by decide) ?_
  refine lv_istore_n (lv' := [(1, .int 0), (0, .ref (x 0))]) hx hb dX6_init_82 rfl hl (by decide) rfl (fun ls hl => ?_)
  have w : kWd D A ((hX cI cT cS x (fUp aT 16) (fUp (fun _ _ => 0) 0) ++ blk (wX4 cI) aT 16) ++ blk (wX3 cI) (fun _ _ => 0) 0) s H locs := by
    show kWd D A ((hX cI cT cS x (fUp aT 16) (fUp (fun _ _ => 0) 0) ++ blk (wX4 cI) aT 16) ++ []) s H locs
    rw [List.append_nil, show fUp (fun _ _ => 0) 0 = fun _ => none by funext j; unfold fUp; rw [if_neg (Nat.not_lt_zero j)]]
    exact w
  refine x6_loopS (x := x) (fT := fUp aT 16) (bT := blk (wX4 cI) aT 16) C (fun aS H locs ls w hl => ?_) 4 0 (fun _ _ => 0) H locs ls rfl w hl
  exact k_ret (wf := fun ad => gw 241 (xE cI cT cS) ad M0x) (a := adX x aT aS) C (xg_gw w) hx0 dX6_init_107
