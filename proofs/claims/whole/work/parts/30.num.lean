/-! Pure rows: numbers, loads and stores at known places -/
theorem ldI_n (M : Mem) (k : Nat) {n i : Nat} (h : i < n) (hn : n < 2 ^ 31 := by decide) : ldI M k n (nI i) = some (M k i) := by
  unfold ldI inb
  rw [nI_clamp (by omega)]
  simp [nI_pos (show i < 2 ^ 31 by omega), h]
theorem stI_n (M : Mem) (k : Nat) {n i : Nat} (x : Int32) (h : i < n) (hn : n < 2 ^ 31 := by decide) : stI M k n (nI i) x = some (mset M k i x) := by
  unfold stI inb
  rw [nI_clamp (by omega)]
  simp [nI_pos (show i < 2 ^ 31 by omega), h]
theorem stZ_n (M : Mem) (k : Nat) {n i : Nat} (x : Int32) (h : i < n) (hx : isb x = true) (hn : n < 2 ^ 31 := by decide) : stZ M k n (nI i) x = some (mset M k i x) := by
  unfold stZ inb
  rw [nI_clamp (by omega)]
  simp [nI_pos (show i < 2 ^ 31 by omega), h, hx]
theorem ixQ_n {n i : Nat} (h : i < n) (hn : n < 2 ^ 31 := by decide) : ixQ n (nI i) = some i := by
  unfold ixQ inb
  rw [nI_clamp (by omega)]
  simp [nI_pos (show i < 2 ^ 31 by omega), h]
theorem stFZ_n (M : Mem) (k j : Nat) {x : Int32} (hx : isb x = true) : stFZ M k j x = some (mset M k j x) := by simp [stFZ, hx]
theorem rtZ0 (M : Mem) : rtZ 0 M = some (0, M) := rfl
theorem rtZ1 (M : Mem) : rtZ 1 M = some (1, M) := rfl
theorem mset_get (M : Mem) (k j : Nat) (v : Int32) : mset M k j v k j = v := by simp [mset, upd]
theorem mset_get_ne (M : Mem) {k j a b : Nat} (v : Int32) (h : a ≠ k ∨ b ≠ j) : mset M k j v a b = M a b := by
  unfold mset
  by_cases ha : a = k
  · subst ha
    rcases h with h | h
    · exact absurd rfl h
    · simp [upd, h]
  · simp [ha]
theorem mset_if (M : Mem) (k j a b : Nat) (v : Int32) : mset M k j v a b = if a = k ∧ b = j then v else M a b := by
  by_cases h : a = k ∧ b = j
  · obtain ⟨rfl, rfl⟩ := h
    simp [mset_get]
  · rw [if_neg h]
    exact mset_get_ne M v (by omega)
theorem i32_le {x y : Int32} : x ≤ y ↔ x.toInt ≤ y.toInt := Int32.le_iff_toInt_le
theorem i32_lt {x y : Int32} : x < y ↔ x.toInt < y.toInt := Int32.lt_iff_toInt_lt
theorem nI_int {n : Nat} (h : n < 2 ^ 31) : (nI n).toInt = n := nI_toInt h
theorem nI_of_int {x : Int32} {n : Nat} (h : x.toInt = n) (hn : n < 2 ^ 31) : x = nI n := Int32.toInt_inj.mp (by rw [h, nI_int hn])
theorem nI_range {x : Int32} {lo hi : Int32} {n : Nat} (h0 : lo.toInt = 0) (h1 : hi.toInt = (n : Int) - 1) (hn : n < 2 ^ 31) (hx : lo ≤ x ∧ x ≤ hi) : ∃ t, t < n ∧ x = nI t := by
  obtain ⟨a, b⟩ := hx
  rw [i32_le] at a b
  refine ⟨x.toInt.toNat, by omega, nI_of_int (by omega) (by omega)⟩
theorem nI_sub1 {n : Nat} (h : n < 2 ^ 30) : (nI n - 1).toInt = (n : Int) - 1 := by
  have := pk_sub_toInt (a := n) (b := 1) h (by decide)
  exact this
/-- the two askings whether a number lies within -/
theorem in_cases (x lo hi : Int32) : ((lo ≤ x ∧ x ≤ hi) ∧ (∀ M, f_X6_within x lo hi M = some (1, M)) ∧ ∀ M, f_X7_in x lo hi M = some (1, M)) ∨ (¬ (lo ≤ x ∧ x ≤ hi) ∧ (∀ M, f_X6_within x lo hi M = some (0, M)) ∧ ∀ M, f_X7_in x lo hi M = some (0, M)) := by
  have e1 : x < lo ↔ ¬ lo ≤ x := by rw [i32_lt, i32_le]; omega
  have e2 : hi < x ↔ ¬ x ≤ hi := by rw [i32_lt, i32_le]; omega
  by_cases h1 : lo ≤ x <;> by_cases h2 : x ≤ hi
  · exact Or.inl ⟨⟨h1, h2⟩, fun M => by simp [f_X6_within, f_X6_within_0, e1, e2, h1, h2, rtZ1], fun M => by simp [f_X7_in, f_X7_in_0, e1, e2, h1, h2, rtZ1]⟩
  · exact Or.inr ⟨fun h => h2 h.2, fun M => by simp [f_X6_within, f_X6_within_0, e1, e2, h1, h2, rtZ0], fun M => by simp [f_X7_in, f_X7_in_0, e1, e2, h1, h2, rtZ0]⟩
  · exact Or.inr ⟨fun h => h1 h.1, fun M => by simp [f_X6_within, f_X6_within_0, e1, h1, rtZ0], fun M => by simp [f_X7_in, f_X7_in_0, e1, h1, rtZ0]⟩
  · exact Or.inr ⟨fun h => h1 h.1, fun M => by simp [f_X6_within, f_X6_within_0, e1, h1, rtZ0], fun M => by simp [f_X7_in, f_X7_in_0, e1, h1, rtZ0]⟩
/-- a number as a TYPE -/
theorem ty_cases {n : Nat} (hn : n ≤ 16) (x : Int32) : (∃ t, t < n ∧ x = nI t ∧ (∀ M : Mem, M 0 5 = nI n → f_X6_isType x M = some (1, M)) ∧ ∀ M : Mem, M 0 1 = nI n → f_X7_isType x M = some (1, M)) ∨ ((∀ t, t < n → x ≠ nI t) ∧ (∀ M : Mem, M 0 5 = nI n → f_X6_isType x M = some (0, M)) ∧ ∀ M : Mem, M 0 1 = nI n → f_X7_isType x M = some (0, M)) := by
  have hs := nI_sub1 (n := n) (by omega)
  rcases in_cases x 0 (nI n - 1) with ⟨h, hx, hy⟩ | ⟨h, hx, hy⟩
  · obtain ⟨t, ht, rfl⟩ := nI_range (n := n) rfl hs (by omega) h
    exact Or.inl ⟨t, ht, rfl, fun M hM => by simp [f_X6_isType, f_X6_isType_0, hM, hx, rtZ1], fun M hM => by simp [f_X7_isType, f_X7_isType_0, hM, hy, rtZ1]⟩
  · refine Or.inr ⟨fun t ht e => h ?_, fun M hM => by simp [f_X6_isType, f_X6_isType_0, hM, hx, rtZ0], fun M hM => by simp [f_X7_isType, f_X7_isType_0, hM, hy, rtZ0]⟩
    subst e
    refine ⟨nI_pos' (by omega), ?_⟩
    rw [i32_le, hs, nI_int (by omega)]
    omega
theorem se_cases (x : Int32) : (∃ t, t < 4 ∧ x = nI t ∧ (∀ M : Mem, f_X6_isSession x M = some (1, M)) ∧ ∀ M : Mem, f_X7_isSession x M = some (1, M)) ∨ ((∀ t, t < 4 → x ≠ nI t) ∧ (∀ M : Mem, f_X6_isSession x M = some (0, M)) ∧ ∀ M : Mem, f_X7_isSession x M = some (0, M)) := by
  rcases in_cases x 0 3 with ⟨h, hx, hy⟩ | ⟨h, hx, hy⟩
  · obtain ⟨t, ht, rfl⟩ := nI_range (n := 4) rfl rfl (by omega) h
    exact Or.inl ⟨t, ht, rfl, fun M => by simp [f_X6_isSession, f_X6_isSession_0, hx, rtZ1], fun M => by simp [f_X7_isSession, f_X7_isSession_0, hy, rtZ1]⟩
  · refine Or.inr ⟨fun t ht e => h ?_, fun M => by simp [f_X6_isSession, f_X6_isSession_0, hx, rtZ0], fun M => by simp [f_X7_isSession, f_X7_isSession_0, hy, rtZ0]⟩
    subst e
    exact ⟨nI_pos' (by omega), nI_le (b := 3) (by omega) (by omega)⟩
theorem fi_cases (x : Int32) : (∃ t, t < 5 ∧ x = nI t ∧ (∀ M : Mem, f_X6_isField x M = some (1, M)) ∧ ∀ M : Mem, f_X7_in x 0 4 M = some (1, M)) ∨ ((∀ t, t < 5 → x ≠ nI t) ∧ (∀ M : Mem, f_X6_isField x M = some (0, M)) ∧ ∀ M : Mem, f_X7_in x 0 4 M = some (0, M)) := by
  rcases in_cases x 0 4 with ⟨h, hx, hy⟩ | ⟨h, hx, hy⟩
  · obtain ⟨t, ht, rfl⟩ := nI_range (n := 5) rfl rfl (by omega) h
    exact Or.inl ⟨t, ht, rfl, fun M => by simp [f_X6_isField, f_X6_isField_0, hx, rtZ1], hy⟩
  · refine Or.inr ⟨fun t ht e => h ?_, fun M => by simp [f_X6_isField, f_X6_isField_0, hx, rtZ0], hy⟩
    subst e
    exact ⟨nI_pos' (by omega), nI_le (b := 4) (by omega) (by omega)⟩
theorem nu_cases (x : Int32) : ((-999 ≤ x ∧ x ≤ 999) ∧ (∀ M : Mem, f_X6_isNumber x M = some (1, M)) ∧ ∀ M : Mem, f_X7_in x (-999) 999 M = some (1, M)) ∨ (¬ (-999 ≤ x ∧ x ≤ 999) ∧ (∀ M : Mem, f_X6_isNumber x M = some (0, M)) ∧ ∀ M : Mem, f_X7_in x (-999) 999 M = some (0, M)) := by
  rcases in_cases x (-999) 999 with ⟨h, hx, hy⟩ | ⟨h, hx, hy⟩
  · exact Or.inl ⟨h, fun M => by simp [f_X6_isNumber, f_X6_isNumber_0, hx, rtZ1], hy⟩
  · exact Or.inr ⟨h, fun M => by simp [f_X6_isNumber, f_X6_isNumber_0, hx, rtZ0], hy⟩
theorem mt_cases (x : Int32) : (∃ t, t < 16 ∧ x = nI t ∧ (∀ M : Mem, f_X6_mayNameType x M = some (1, M)) ∧ ∀ M : Mem, f_X7_in x 0 15 M = some (1, M)) ∨ ((∀ t, t < 16 → x ≠ nI t) ∧ (∀ M : Mem, f_X6_mayNameType x M = some (0, M)) ∧ ∀ M : Mem, f_X7_in x 0 15 M = some (0, M)) := by
  rcases in_cases x 0 15 with ⟨h, hx, hy⟩ | ⟨h, hx, hy⟩
  · obtain ⟨t, ht, rfl⟩ := nI_range (n := 16) rfl rfl (by omega) h
    exact Or.inl ⟨t, ht, rfl, fun M => by simp [f_X6_mayNameType, f_X6_mayNameType_0, hx, rtZ1], hy⟩
  · refine Or.inr ⟨fun t ht e => h ?_, fun M => by simp [f_X6_mayNameType, f_X6_mayNameType_0, hx, rtZ0], hy⟩
    subst e
    exact ⟨nI_pos' (by omega), nI_le (b := 15) (by omega) (by omega)⟩
/-! The map from the reference's places to the class's -/
def ps (a b : Nat) : Nat × Nat := match a with
  | 0 => if b = 1 then (0, 5) else if b = 21 then (0, 6) else if b = 15 then (0, 7) else if b = 16 then (6, 3) else if b = 17 then (10, 2) else if b = 19 then (10, 3) else (0, 9)
  | 1 => (33 + 13 * b, 0)
  | 2 => (33 + 13 * b, 1)
  | 3 => (33 + 13 * b, 2)
  | 4 => (34 + 13 * b, 1)
  | 5 => (35 + 13 * (b / 3), b % 3)
  | 6 => (40 + 13 * (b / 5), b % 5)
  | 8 => (33 + 13 * b, 12)
  | 9 => (42 + 13 * (b / 32) + b % 4, b % 32 / 4)
  | 10 => if b < 64 then (15 + 5 * (b / 16), b % 16) else (4, b - 64)
  | 11 => if b < 320 then (16 + 5 * (b / 80), b % 80) else (5, b - 320)
  | 12 => (17 + 5 * (b / 16), b % 16)
  | 13 => (13 + 5 * b, 2)
  | 14 => (11, b)
  | _ => (12, b)
def dm (n a b : Nat) : Prop := match a with
  | 0 => b = 1 ∨ b = 21 ∨ b = 15 ∨ b = 16 ∨ b = 17 ∨ b = 19 ∨ b = 25
  | 1 => b < n
  | 2 => b < n
  | 3 => b < n
  | 4 => b < n
  | 5 => b < 3 * n
  | 6 => b < 5 * n
  | 8 => b < n
  | 9 => b < 32 * n
  | 10 => b < 80
  | 11 => b < 400
  | 12 => b < 64
  | 13 => b < 4
  | 14 => b < 600
  | 15 => b < 100
  | _ => False
/-- the kind of a class's cell, to tell the families apart -/
theorem dm_cases {n a b : Nat} (h : dm n a b) : (a = 0 ∧ (b = 1 ∨ b = 21 ∨ b = 15 ∨ b = 16 ∨ b = 17 ∨ b = 19 ∨ b = 25)) ∨ (a = 1 ∧ b < n) ∨ (a = 2 ∧ b < n) ∨ (a = 3 ∧ b < n) ∨ (a = 4 ∧ b < n) ∨ (a = 5 ∧ b < 3 * n) ∨ (a = 6 ∧ b < 5 * n) ∨ (a = 8 ∧ b < n) ∨ (a = 9 ∧ b < 32 * n) ∨ (a = 10 ∧ b < 80) ∨ (a = 11 ∧ b < 400) ∨ (a = 12 ∧ b < 64) ∨ (a = 13 ∧ b < 4) ∨ (a = 14 ∧ b < 600) ∨ (a = 15 ∧ b < 100) := by
  unfold dm at h
  split at h <;> simp_all
