/-! The layouts: the class (241 cells), the reference (30 cells) -/
set_option maxRecDepth 100000 in
theorem ginX0 : ∀ w ∈ u_ws RX0 TX0 4, w ∈ gW := gw_ins [118, 120, 122, 124] (by decide +kernel) (by decide +kernel)
set_option maxRecDepth 100000 in
theorem ginX1 : ∀ w ∈ u_ws RX1 TX1 2, w ∈ gW := gw_ins [75, 77] (by decide +kernel) (by decide +kernel)
set_option maxRecDepth 100000 in
theorem ginX2 : ∀ w ∈ u_ws RX2 TX2 3, w ∈ gW := gw_ins [143, 145, 147] (by decide +kernel) (by decide +kernel)
set_option maxRecDepth 100000 in
theorem ginX3 : ∀ w ∈ u_ws RX3 TX3 4, w ∈ gW := gw_ins [218, 220, 222, 224] (by decide +kernel) (by decide +kernel)
set_option maxRecDepth 100000 in
theorem ginX4 : ∀ w ∈ u_ws RX4 TX4 13, w ∈ gW := gw_ins [176, 178, 180, 182, 184, 186, 188, 190, 192, 194, 196, 198, 200] (by decide +kernel) (by decide +kernel)
set_option maxRecDepth 100000 in
theorem ginX5 : ∀ w ∈ u_ws RX5 TX5 4, w ∈ gW := gw_ins [95, 97, 99, 101] (by decide +kernel) (by decide +kernel)
set_option maxRecDepth 100000 in
theorem ginX6 : ∀ w ∈ u_ws RX6 TX6 11, w ∈ gW := gw_ins [238, 240, 242, 244, 246, 248, 250, 252, 254, 256, 258] (by decide +kernel) (by decide +kernel)
set_option maxRecDepth 100000 in
theorem ginX7 : ∀ w ∈ u_ws RX7 TX7 41, w ∈ gW := gw_ins [617, 619, 621, 623, 625, 627, 629, 631, 633, 635, 637, 639, 641, 643, 645, 647, 649, 651, 653, 655, 657, 659, 661, 663, 665, 667, 669, 671, 673, 675, 677, 679, 681, 683, 685, 687, 689, 691, 693, 695, 697] (by decide +kernel) (by decide +kernel)
def xK (k : Nat) : Nat := if k = 0 then 0 else if k = 1 then 1 else if k = 2 then 2 else if k = 3 then 3 else if k = 6 then 5 else if k = 10 then 6 else if k < 13 then 4 else if k < 33 then (match (k - 13) % 5 with | 0 => 7 | 1 => 3 | _ => 4) else (match (k - 33) % 13 with | 0 => 8 | 1 => 9 | 3 => 9 | 5 => 9 | _ => 4)
def xL (k : Nat) : Nat := if k = 4 then 16 else if k = 5 then 80 else if k = 11 then 600 else if k = 12 then 100 else if k < 13 then 512 else if k < 33 then (match (k - 13) % 5 with | 3 => 80 | _ => 16) else (match (k - 33) % 13 with | 2 => 16 | 4 => 16 | 6 => 16 | 7 => 5 | 8 => 5 | _ => 8)
def fX0 (ad : Nat → Nat) (k : Nat) (M : Mem) : List Value := [.ref (ad 11), .ref (ad 12), .int (M k 2), .int (M k 3)]
def fX1 (ad : Nat → Nat) (k : Nat) (_ : Mem) : List Value := [.ref (ad (k + 1)), .ref (ad (k + 2))]
def fX2 (ad : Nat → Nat) (k : Nat) (M : Mem) : List Value := [.ref (ad (k + 1)), .int (M k 1), .int (M k 2)]
def fX3 (ad : Nat → Nat) (k : Nat) (M : Mem) : List Value := [.ref (ad (k + 1)), .ref (ad (k + 4)), .int (M k 2), .int (M k 3)]
def fX4 (ad : Nat → Nat) (k : Nat) (M : Mem) : List Value := [.int (M k 0), .int (M k 1), .int (M k 2), .ref (ad (k + 1)), .ref (ad (k + 3)), .ref (ad (k + 5)), .ref (ad (k + 7)), .ref (ad (k + 8)), .ref (ad (k + 9)), .ref (ad (k + 10)), .ref (ad (k + 11)), .ref (ad (k + 12)), .int (M k 12)]
def fX5 (ad : Nat → Nat) (k : Nat) (M : Mem) : List Value := [.ref (ad 7), .ref (ad 8), .ref (ad 9), .int (M k 3)]
def fX6 (ad : Nat → Nat) (k : Nat) (M : Mem) : List Value := [.ref (ad 1), .ref (ad 2), .ref (ad 3), .ref (ad 6), .ref (ad 10), .int (M k 5), .int (M k 6), .int (M k 7), .int (M k 8), .int (M k 9), .int (M k 10)]
def xE (cI cT cS : ClassId) (ad : Nat → Nat) (M : Mem) (k : Nat) : va_E := match xK k with
  | 0 => .inr (8, fX6 ad k M)
  | 1 => .inl (cT, 16, .inr (.inr (.inr (.inr (fun j => some (ad (33 + 13 * j)))))))
  | 2 => .inl (cS, 4, .inr (.inr (.inr (.inr (fun j => some (ad (13 + 5 * j)))))))
  | 3 => .inr (3, fX1 ad k M)
  | 5 => .inr (7, fX5 ad k M)
  | 6 => .inr (2, fX0 ad k M)
  | 7 => .inr (5, fX3 ad k M)
  | 8 => .inr (6, fX4 ad k M)
  | 9 => .inr (4, fX2 ad k M)
  | _ => .inl (cI, xL k, .inl (M k))
abbrev xty (cI cT cS : ClassId) : List (ClassId × FieldType) := [(cI, .int), (cT, .object RX4), (cS, .object RX3)]
theorem xE_loc (cI cT cS : ClassId) : gLoc (xE cI cT cS) := by
  intro ad M M' k h
  unfold xE fX0 fX1 fX2 fX3 fX4 fX5 fX6
  rw [h]
def xT (k : Nat) : Prop := ∃ t, t < 16 ∧ k = 33 + 13 * t
def xS (k : Nat) : Prop := ∃ t, t < 4 ∧ k = 13 + 5 * t
def xP (k : Nat) : Prop := k = 3 ∨ k = 14 ∨ k = 19 ∨ k = 24 ∨ k = 29
def xPb (k : Nat) : Bool := decide (k = 3) || decide (k = 14) || decide (k = 19) || decide (k = 24) || decide (k = 29)
theorem xPb_ok {k : Nat} {u : Unit} (h : ckP (xPb k) = some u) : xP k := by
  unfold ckP xPb at h
  split at h
  · next hk => simpa [xP, or_assoc] using hk
  · cases h
def xR (k : Nat) : Prop := ∃ t, t < 16 ∧ (k = 34 + 13 * t ∨ k = 36 + 13 * t ∨ k = 38 + 13 * t)
section XL
variable {cI cT cS : ClassId} {ad : Nat → Nat}
theorem x_ar {k n : Nat} (h : k < 241 ∧ xK k = 4 ∧ xL k = n) : gAr 241 (xE cI cT cS) ad cI k n := ⟨h.1, fun M => by simp [xE, h.2.1, h.2.2]⟩
theorem ob_X6 : gOb 241 (xE cI cT cS) ad 8 0 (fX6 ad 0) := ⟨by decide, fun M => rfl⟩
theorem ob_X5 : gOb 241 (xE cI cT cS) ad 7 6 (fX5 ad 6) := ⟨by decide, fun M => rfl⟩
theorem ob_X0 : gOb 241 (xE cI cT cS) ad 2 10 (fX0 ad 10) := ⟨by decide, fun M => rfl⟩
theorem rf_T : gRf 241 (xE cI cT cS) ad cT 1 16 (fun j => 33 + 13 * j) := ⟨by decide, fun M => rfl⟩
theorem rf_S : gRf 241 (xE cI cT cS) ad cS 2 4 (fun j => 13 + 5 * j) := ⟨by decide, fun M => rfl⟩
theorem ob_X4 {k : Nat} (h : xT k) : gOb 241 (xE cI cT cS) ad 6 k (fX4 ad k) := by
  obtain ⟨t, ht, rfl⟩ := h
  have h1 : ∀ t, t < 16 → (33 + 13 * t < 241 ∧ xK (33 + 13 * t) = 8) := by decide
  exact ⟨(h1 t ht).1, fun M => by simp [xE, (h1 t ht).2]⟩
theorem ob_X3 {k : Nat} (h : xS k) : gOb 241 (xE cI cT cS) ad 5 k (fX3 ad k) := by
  obtain ⟨t, ht, rfl⟩ := h
  have h1 : ∀ t, t < 4 → (13 + 5 * t < 241 ∧ xK (13 + 5 * t) = 7) := by decide
  exact ⟨(h1 t ht).1, fun M => by simp [xE, (h1 t ht).2]⟩
theorem ob_X1 {k : Nat} (h : xP k) : gOb 241 (xE cI cT cS) ad 3 k (fX1 ad k) := by
  rcases h with rfl | rfl | rfl | rfl | rfl <;> exact ⟨by decide, fun M => rfl⟩
theorem ob_X2 {k : Nat} (h : xR k) : gOb 241 (xE cI cT cS) ad 4 k (fX2 ad k) := by
  obtain ⟨t, ht, h⟩ := h
  have h1 : ∀ t, t < 16 → (34 + 13 * t < 241 ∧ xK (34 + 13 * t) = 9) ∧ (36 + 13 * t < 241 ∧ xK (36 + 13 * t) = 9) ∧ (38 + 13 * t < 241 ∧ xK (38 + 13 * t) = 9) := by decide
  rcases h with rfl | rfl | rfl
  · exact ⟨(h1 t ht).1.1, fun M => by simp [xE, (h1 t ht).1.2]⟩
  · exact ⟨(h1 t ht).2.1.1, fun M => by simp [xE, (h1 t ht).2.1.2]⟩
  · exact ⟨(h1 t ht).2.2.1, fun M => by simp [xE, (h1 t ht).2.2.2]⟩
theorem xP_3 : xP 3 := Or.inl rfl
theorem xR_a {k : Nat} (h : xR k) : gAr 241 (xE cI cT cS) ad cI (k + 1) 16 := by
  obtain ⟨t, ht, h⟩ := h
  have h1 : ∀ t, t < 16 → (34 + 13 * t + 1 < 241 ∧ xK (34 + 13 * t + 1) = 4 ∧ xL (34 + 13 * t + 1) = 16) ∧ (36 + 13 * t + 1 < 241 ∧ xK (36 + 13 * t + 1) = 4 ∧ xL (36 + 13 * t + 1) = 16) ∧ (38 + 13 * t + 1 < 241 ∧ xK (38 + 13 * t + 1) = 4 ∧ xL (38 + 13 * t + 1) = 16) := by decide
  rcases h with rfl | rfl | rfl
  · exact x_ar (h1 t ht).1
  · exact x_ar (h1 t ht).2.1
  · exact x_ar (h1 t ht).2.2
theorem xP_s {k : Nat} (h : xP k) : gAr 241 (xE cI cT cS) ad cI (k + 1) 16 := by
  rcases h with rfl | rfl | rfl | rfl | rfl <;> exact x_ar (by decide)
theorem xP_n {k : Nat} (h : xP k) : gAr 241 (xE cI cT cS) ad cI (k + 2) 80 := by
  rcases h with rfl | rfl | rfl | rfl | rfl <;> exact x_ar (by decide)
theorem xS_p {k : Nat} (h : xS k) : xP (k + 1) := by
  obtain ⟨t, ht, rfl⟩ := h
  have h1 : ∀ t, t < 4 → (13 + 5 * t + 1 = 3 ∨ 13 + 5 * t + 1 = 14 ∨ 13 + 5 * t + 1 = 19 ∨ 13 + 5 * t + 1 = 24 ∨ 13 + 5 * t + 1 = 29) := by decide
  exact h1 t ht
theorem xS_g {k : Nat} (h : xS k) : gAr 241 (xE cI cT cS) ad cI (k + 4) 16 := by
  obtain ⟨t, ht, rfl⟩ := h
  have h1 : ∀ t, t < 4 → (13 + 5 * t + 4 < 241 ∧ xK (13 + 5 * t + 4) = 4 ∧ xL (13 + 5 * t + 4) = 16) := by decide
  exact x_ar (h1 t ht)
theorem xT_r1 {k : Nat} (h : xT k) : xR (k + 1) := by obtain ⟨t, ht, rfl⟩ := h; exact ⟨t, ht, Or.inl (by omega)⟩
theorem xT_r3 {k : Nat} (h : xT k) : xR (k + 3) := by obtain ⟨t, ht, rfl⟩ := h; exact ⟨t, ht, Or.inr (Or.inl (by omega))⟩
theorem xT_r5 {k : Nat} (h : xT k) : xR (k + 5) := by obtain ⟨t, ht, rfl⟩ := h; exact ⟨t, ht, Or.inr (Or.inr (by omega))⟩
theorem xT_a7 {k : Nat} (h : xT k) : gAr 241 (xE cI cT cS) ad cI (k + 7) 5 := by
  obtain ⟨t, ht, rfl⟩ := h
  have h1 : ∀ t, t < 16 → (33 + 13 * t + 7 < 241 ∧ xK (33 + 13 * t + 7) = 4 ∧ xL (33 + 13 * t + 7) = 5) := by decide
  exact x_ar (h1 t ht)
theorem xT_a8 {k : Nat} (h : xT k) : gAr 241 (xE cI cT cS) ad cI (k + 8) 5 := by
  obtain ⟨t, ht, rfl⟩ := h
  have h1 : ∀ t, t < 16 → (33 + 13 * t + 8 < 241 ∧ xK (33 + 13 * t + 8) = 4 ∧ xL (33 + 13 * t + 8) = 5) := by decide
  exact x_ar (h1 t ht)
theorem xT_a9 {k : Nat} (h : xT k) : gAr 241 (xE cI cT cS) ad cI (k + 9) 8 := by
  obtain ⟨t, ht, rfl⟩ := h
  have h1 : ∀ t, t < 16 → (33 + 13 * t + 9 < 241 ∧ xK (33 + 13 * t + 9) = 4 ∧ xL (33 + 13 * t + 9) = 8) := by decide
  exact x_ar (h1 t ht)
theorem xT_a10 {k : Nat} (h : xT k) : gAr 241 (xE cI cT cS) ad cI (k + 10) 8 := by
  obtain ⟨t, ht, rfl⟩ := h
  have h1 : ∀ t, t < 16 → (33 + 13 * t + 10 < 241 ∧ xK (33 + 13 * t + 10) = 4 ∧ xL (33 + 13 * t + 10) = 8) := by decide
  exact x_ar (h1 t ht)
theorem xT_a11 {k : Nat} (h : xT k) : gAr 241 (xE cI cT cS) ad cI (k + 11) 8 := by
  obtain ⟨t, ht, rfl⟩ := h
  have h1 : ∀ t, t < 16 → (33 + 13 * t + 11 < 241 ∧ xK (33 + 13 * t + 11) = 4 ∧ xL (33 + 13 * t + 11) = 8) := by decide
  exact x_ar (h1 t ht)
theorem xT_a12 {k : Nat} (h : xT k) : gAr 241 (xE cI cT cS) ad cI (k + 12) 8 := by
  obtain ⟨t, ht, rfl⟩ := h
  have h1 : ∀ t, t < 16 → (33 + 13 * t + 12 < 241 ∧ xK (33 + 13 * t + 12) = 4 ∧ xL (33 + 13 * t + 12) = 8) := by decide
  exact x_ar (h1 t ht)
theorem x_a7 : gAr 241 (xE cI cT cS) ad cI 7 512 := x_ar (by decide)
theorem x_a8 : gAr 241 (xE cI cT cS) ad cI 8 512 := x_ar (by decide)
theorem x_a9 : gAr 241 (xE cI cT cS) ad cI 9 512 := x_ar (by decide)
theorem x_a11 : gAr 241 (xE cI cT cS) ad cI 11 600 := x_ar (by decide)
theorem x_a12 : gAr 241 (xE cI cT cS) ad cI 12 100 := x_ar (by decide)
end XL
def yL (k : Nat) : Nat := match k with
  | 1 => 16
  | 2 => 16
  | 3 => 16
  | 4 => 16
  | 5 => 48
  | 6 => 80
  | 7 => 80
  | 8 => 16
  | 9 => 512
  | 10 => 80
  | 11 => 400
  | 12 => 64
  | 13 => 4
  | 14 => 600
  | 15 => 100
  | 16 => 4
  | 17 => 2400
  | 18 => 2400
  | 19 => 16
  | 20 => 16
  | 21 => 16
  | 22 => 16
  | 23 => 16
  | 24 => 256
  | 25 => 16
  | 26 => 16
  | 27 => 17
  | 28 => 17
  | 29 => 80
  | _ => 0
def fX7 (ad : Nat → Nat) (k : Nat) (M : Mem) : List Value := [.int (M k 0), .int (M k 1), .ref (ad 1), .ref (ad 2), .ref (ad 3), .ref (ad 4), .ref (ad 5), .ref (ad 6), .ref (ad 7), .ref (ad 8), .ref (ad 9), .ref (ad 10), .ref (ad 11), .ref (ad 12), .ref (ad 13), .int (M k 15), .int (M k 16), .int (M k 17), .ref (ad 14), .int (M k 19), .ref (ad 15), .int (M k 21), .ref (ad 16), .ref (ad 17), .ref (ad 18), .int (M k 25), .int (M k 26), .ref (ad 19), .ref (ad 20), .ref (ad 21), .ref (ad 22), .ref (ad 23), .ref (ad 24), .ref (ad 25), .int (M k 34), .int (M k 35), .ref (ad 26), .ref (ad 27), .ref (ad 28), .int (M k 39), .ref (ad 29)]
def yE (cI cZ : ClassId) (ad : Nat → Nat) (M : Mem) (k : Nat) : va_E := match k with
  | 0 => .inr (9, fX7 ad 0 M)
  | 3 => .inl (cZ, yL 3, .inl (M 3))
  | 26 => .inl (cZ, yL 26, .inl (M 26))
  | k => .inl (cI, yL k, .inl (M k))
abbrev yty (cI cZ : ClassId) : List (ClassId × FieldType) := [(cI, .int), (cZ, .boolean)]
theorem yE_loc (cI cZ : ClassId) : gLoc (yE cI cZ) := by
  intro ad M M' k h
  unfold yE fX7
  split <;> (first | rw [h] | simp_all)
section YL
variable {cI cZ : ClassId} {ad : Nat → Nat}
theorem ob_X7 : gOb 30 (yE cI cZ) ad 9 0 (fX7 ad 0) := ⟨by decide, fun M => rfl⟩
theorem y_a1 : gAr 30 (yE cI cZ) ad cI 1 16 := ⟨by decide, fun M => rfl⟩
theorem y_a2 : gAr 30 (yE cI cZ) ad cI 2 16 := ⟨by decide, fun M => rfl⟩
theorem y_a3 : gAr 30 (yE cI cZ) ad cZ 3 16 := ⟨by decide, fun M => rfl⟩
theorem y_a4 : gAr 30 (yE cI cZ) ad cI 4 16 := ⟨by decide, fun M => rfl⟩
theorem y_a5 : gAr 30 (yE cI cZ) ad cI 5 48 := ⟨by decide, fun M => rfl⟩
theorem y_a6 : gAr 30 (yE cI cZ) ad cI 6 80 := ⟨by decide, fun M => rfl⟩
theorem y_a7 : gAr 30 (yE cI cZ) ad cI 7 80 := ⟨by decide, fun M => rfl⟩
theorem y_a8 : gAr 30 (yE cI cZ) ad cI 8 16 := ⟨by decide, fun M => rfl⟩
theorem y_a9 : gAr 30 (yE cI cZ) ad cI 9 512 := ⟨by decide, fun M => rfl⟩
theorem y_a10 : gAr 30 (yE cI cZ) ad cI 10 80 := ⟨by decide, fun M => rfl⟩
theorem y_a11 : gAr 30 (yE cI cZ) ad cI 11 400 := ⟨by decide, fun M => rfl⟩
theorem y_a12 : gAr 30 (yE cI cZ) ad cI 12 64 := ⟨by decide, fun M => rfl⟩
theorem y_a13 : gAr 30 (yE cI cZ) ad cI 13 4 := ⟨by decide, fun M => rfl⟩
theorem y_a14 : gAr 30 (yE cI cZ) ad cI 14 600 := ⟨by decide, fun M => rfl⟩
theorem y_a15 : gAr 30 (yE cI cZ) ad cI 15 100 := ⟨by decide, fun M => rfl⟩
theorem y_a16 : gAr 30 (yE cI cZ) ad cI 16 4 := ⟨by decide, fun M => rfl⟩
theorem y_a17 : gAr 30 (yE cI cZ) ad cI 17 2400 := ⟨by decide, fun M => rfl⟩
theorem y_a18 : gAr 30 (yE cI cZ) ad cI 18 2400 := ⟨by decide, fun M => rfl⟩
theorem y_a19 : gAr 30 (yE cI cZ) ad cI 19 16 := ⟨by decide, fun M => rfl⟩
theorem y_a20 : gAr 30 (yE cI cZ) ad cI 20 16 := ⟨by decide, fun M => rfl⟩
theorem y_a21 : gAr 30 (yE cI cZ) ad cI 21 16 := ⟨by decide, fun M => rfl⟩
theorem y_a22 : gAr 30 (yE cI cZ) ad cI 22 16 := ⟨by decide, fun M => rfl⟩
theorem y_a23 : gAr 30 (yE cI cZ) ad cI 23 16 := ⟨by decide, fun M => rfl⟩
theorem y_a24 : gAr 30 (yE cI cZ) ad cI 24 256 := ⟨by decide, fun M => rfl⟩
theorem y_a25 : gAr 30 (yE cI cZ) ad cI 25 16 := ⟨by decide, fun M => rfl⟩
theorem y_a26 : gAr 30 (yE cI cZ) ad cZ 26 16 := ⟨by decide, fun M => rfl⟩
theorem y_a27 : gAr 30 (yE cI cZ) ad cI 27 17 := ⟨by decide, fun M => rfl⟩
theorem y_a28 : gAr 30 (yE cI cZ) ad cI 28 17 := ⟨by decide, fun M => rfl⟩
theorem y_a29 : gAr 30 (yE cI cZ) ad cI 29 80 := ⟨by decide, fun M => rfl⟩
end YL
