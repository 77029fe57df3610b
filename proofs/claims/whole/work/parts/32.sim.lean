/-! What class and reference hold alike -/
def dmb (a b : Nat) : Bool := match a with
  | 0 => b == 1 || b == 21 || b == 15 || b == 16 || b == 17 || b == 19 || b == 25
  | 1 => decide (b < 16)
  | 2 => decide (b < 16)
  | 3 => decide (b < 16)
  | 4 => decide (b < 16)
  | 5 => decide (b < 48)
  | 6 => decide (b < 80)
  | 8 => decide (b < 16)
  | 9 => decide (b < 512)
  | 10 => decide (b < 80)
  | 11 => decide (b < 400)
  | 12 => decide (b < 64)
  | 13 => decide (b < 4)
  | 14 => decide (b < 600)
  | 15 => decide (b < 100)
  | _ => false
def qs (k j : Nat) : Nat × Nat :=
  if k = 0 then (0, if j = 5 then 1 else if j = 6 then 21 else if j = 7 then 15 else 25)
  else if k = 6 then (0, 16)
  else if k = 10 then (0, if j = 2 then 17 else 19)
  else if k = 11 then (14, j)
  else if k = 12 then (15, j)
  else if k = 4 then (10, 64 + j)
  else if k = 5 then (11, 320 + j)
  else if k < 13 then (99, 0)
  else if k < 33 then (match (k - 13) % 5 with | 0 => (13, (k - 13) / 5) | 2 => (10, 16 * ((k - 13) / 5) + j) | 3 => (11, 80 * ((k - 13) / 5) + j) | 4 => (12, 16 * ((k - 13) / 5) + j) | _ => (99, 0))
  else (match (k - 33) % 13 with
    | 0 => (if j = 0 then 1 else if j = 1 then 2 else if j = 2 then 3 else 8, (k - 33) / 13)
    | 1 => (4, (k - 33) / 13)
    | 2 => (5, 3 * ((k - 33) / 13) + j)
    | 7 => (6, 5 * ((k - 33) / 13) + j)
    | 9 => (9, 32 * ((k - 33) / 13) + 4 * j)
    | 10 => (9, 32 * ((k - 33) / 13) + 4 * j + 1)
    | 11 => (9, 32 * ((k - 33) / 13) + 4 * j + 2)
    | 12 => (9, 32 * ((k - 33) / 13) + 4 * j + 3)
    | _ => (99, 0))
set_option maxRecDepth 100000 in
theorem ps_inv0 : ∀ a, a < 16 → ∀ b, b < 600 → dmb a b = true → qs (ps a b).1 (ps a b).2 = (a, b) := by decide +kernel
theorem dm_b {n a b : Nat} (hn : n ≤ 16) (h : dm n a b) : a < 16 ∧ b < 600 ∧ dmb a b = true := by
  rcases dm_cases h with ⟨rfl, h⟩ | ⟨rfl, h⟩ | ⟨rfl, h⟩ | ⟨rfl, h⟩ | ⟨rfl, h⟩ | ⟨rfl, h⟩ | ⟨rfl, h⟩ | ⟨rfl, h⟩ | ⟨rfl, h⟩ | ⟨rfl, h⟩ | ⟨rfl, h⟩ | ⟨rfl, h⟩ | ⟨rfl, h⟩ | ⟨rfl, h⟩ | ⟨rfl, h⟩
  · rcases h with rfl | rfl | rfl | rfl | rfl | rfl | rfl <;> decide
  all_goals (refine ⟨by omega, by omega, ?_⟩; simp [dmb]; omega)
theorem ps_inv {n a b : Nat} (hn : n ≤ 16) (h : dm n a b) : qs (ps a b).1 (ps a b).2 = (a, b) := by
  obtain ⟨h1, h2, h3⟩ := dm_b hn h
  exact ps_inv0 a h1 b h2 h3
theorem ps_inj {n a b a' b' : Nat} (hn : n ≤ 16) (h : dm n a b) (h' : dm n a' b') (e : ps a b = ps a' b') : a = a' ∧ b = b' := by
  have h1 := ps_inv hn h
  have h2 := ps_inv hn h'
  rw [e, h2] at h1
  cases h1
  exact ⟨rfl, rfl⟩
def Sim (n : Nat) (Mx My : Mem) : Prop := ∀ a b, dm n a b → Mx (ps a b).1 (ps a b).2 = My a b
theorem Sim.at {n : Nat} {Mx My : Mem} (h : Sim n Mx My) (a b : Nat) {k j : Nat} (hd : dm n a b) (hp : ps a b = (k, j)) : Mx k j = My a b := by
  have := h a b hd
  rw [hp] at this
  exact this
theorem Sim.set {n : Nat} {Mx My : Mem} (hn : n ≤ 16) (h : Sim n Mx My) {a b k j : Nat} (hd : dm n a b) (hp : ps a b = (k, j)) (v : Int32) : Sim n (mset Mx k j v) (mset My a b v) := by
  intro a' b' hd'
  by_cases he : a' = a ∧ b' = b
  · obtain ⟨rfl, rfl⟩ := he
    rw [hp]
    simp only []
    rw [mset_get, mset_get]
  · rw [mset_get_ne My v (by omega), mset_get_ne Mx v, h a' b' hd']
    by_cases h1 : (ps a' b').1 = k
    · refine Or.inr fun h2 => he ?_
      exact ps_inj hn hd' hd (by rw [hp]; exact Prod.ext h1 h2)
    · exact Or.inl h1
theorem Sim.setY {n : Nat} {Mx My : Mem} (h : Sim n Mx My) {a b : Nat} (hd : ¬ dm n a b) (v : Int32) : Sim n Mx (mset My a b v) := by
  intro a' b' hd'
  rw [mset_get_ne My v, h a' b' hd']
  by_cases h1 : a' = a
  · refine Or.inr fun h2 => hd ?_
    rw [← h1, ← h2]
    exact hd'
  · exact Or.inl h1
theorem Sim.setX {n : Nat} {Mx My : Mem} (hn : n ≤ 16) (h : Sim n Mx My) {k j : Nat} (hd : ¬ dm n (qs k j).1 (qs k j).2 ∨ ps (qs k j).1 (qs k j).2 ≠ (k, j)) (v : Int32) : Sim n (mset Mx k j v) My := by
  intro a' b' hd'
  rw [mset_get_ne Mx v, h a' b' hd']
  by_cases h1 : (ps a' b').1 = k
  · refine Or.inr fun h2 => ?_
    have h3 := ps_inv hn hd'
    rw [h1, h2] at h3
    rw [h3] at hd
    rcases hd with hd | hd
    · exact hd hd'
    · exact hd (Prod.ext h1 h2)
  · exact Or.inl h1
/-- cells that the run of a USE may change -/
def DY (a b : Nat) : Prop := (10 ≤ a ∧ a ≤ 15) ∨ (a = 0 ∧ (b = 17 ∨ b = 19 ∨ b = 21 ∨ b = 25))
def DX (k j : Nat) : Prop := k = 4 ∨ k = 5 ∨ k = 10 ∨ k = 11 ∨ k = 12 ∨ (k = 0 ∧ (j = 6 ∨ j = 9 ∨ j = 10)) ∨ (13 ≤ k ∧ k < 33 ∧ ¬ ((k - 13) % 5 = 0 ∧ j ≠ 2))
def FrY (My My' : Mem) : Prop := ∀ a b, ¬ DY a b → My' a b = My a b
def FrX (Mx Mx' : Mem) : Prop := ∀ k j, ¬ DX k j → Mx' k j = Mx k j
theorem FrY.rf {M : Mem} : FrY M M := fun _ _ _ => rfl
theorem FrX.rf {M : Mem} : FrX M M := fun _ _ _ => rfl
theorem FrY.tr {A B C : Mem} (h : FrY A B) (h' : FrY B C) : FrY A C := fun a b d => (h' a b d).trans (h a b d)
theorem FrX.tr {A B C : Mem} (h : FrX A B) (h' : FrX B C) : FrX A C := fun a b d => (h' a b d).trans (h a b d)
theorem FrY.set (M : Mem) {a b : Nat} (v : Int32) (h : DY a b) : FrY M (mset M a b v) := fun x y d => mset_get_ne M v (by
  by_cases h1 : x = a
  · refine Or.inr fun h2 => d ?_
    rw [h1, h2]
    exact h
  · exact Or.inl h1)
theorem FrX.set (M : Mem) {a b : Nat} (v : Int32) (h : DX a b) : FrX M (mset M a b v) := fun x y d => mset_get_ne M v (by
  by_cases h1 : x = a
  · refine Or.inr fun h2 => d ?_
    rw [h1, h2]
    exact h
  · exact Or.inl h1)
/-! where a TYPE's number stands -/
def pl (My : Mem) (s t : Nat) : Nat := if My 3 t = 0 then 16 * s + t else 64 + t
def pk (My : Mem) (s t : Nat) : Nat := if My 3 t = 0 then 14 + 5 * s else 3
theorem pl_lt {My : Mem} {s t : Nat} (hs : s < 4) (ht : t < 16) : pl My s t < 80 := by unfold pl; split <;> omega
theorem nI_ne {a b : Nat} (ha : a < 2 ^ 31) (hb : b < 2 ^ 31) (h : a ≠ b) : nI a ≠ nI b := fun e => h ((nI_eq ha hb).mp e)
theorem nI_m1 {a : Nat} (ha : a < 2 ^ 31) : nI a ≠ -1 := by
  intro e
  have := nI_int ha
  rw [e] at this
  have h2 : (-1 : Int32).toInt = -1 := rfl
  omega
theorem x16 (s t : Nat) : (16 : Int32) * nI s + nI t = nI (16 * s + t) := by
  show nI 16 * nI s + nI t = _
  rw [pk_mul, nI_add]
theorem x5 (s t : Nat) : (5 : Int32) * nI s + nI t = nI (5 * s + t) := by
  show nI 5 * nI s + nI t = _
  rw [pk_mul, nI_add]
theorem x5' (s t : Nat) : nI s * (5 : Int32) + nI t = nI (5 * s + t) := by
  show nI s * nI 5 + nI t = _
  rw [pk_mul, nI_add, Nat.mul_comm]
theorem x3 (s t : Nat) : (3 : Int32) * nI s + nI t = nI (3 * s + t) := by
  show nI 3 * nI s + nI t = _
  rw [pk_mul, nI_add]
theorem x4 (s t : Nat) : (4 : Int32) * nI s + nI t = nI (4 * s + t) := by
  show nI 4 * nI s + nI t = _
  rw [pk_mul, nI_add]
theorem x4' (s t : Nat) : nI s * (4 : Int32) + nI t = nI (4 * s + t) := by
  show nI s * nI 4 + nI t = _
  rw [pk_mul, nI_add, Nat.mul_comm]
theorem x600 (s t : Nat) : (600 : Int32) * nI s + nI t = nI (600 * s + t) := by
  show nI 600 * nI s + nI t = _
  rw [pk_mul, nI_add]
theorem at_eq {M : Mem} {s t : Nat} (ht : t < 16) : f_X7_at (nI s) (nI t) M = some (nI (pl M s t), M) := by
  unfold f_X7_at f_X7_at_0 pl
  rw [ldI_n M 3 ht]
  simp only [Option.bind_some]
  by_cases h : M 3 t = 0
  · rw [if_pos h, if_pos h, x16]
  · rw [if_neg h, if_neg h]
    show some (nI 64 + nI t, M) = _
    rw [nI_add]
theorem xPb_3 : ckP (xPb 3) = some () := rfl
theorem pk_xP (My : Mem) {s : Nat} (hs : s < 4) (t : Nat) : ckP (xPb (pk My s t)) = some () := by
  unfold pk
  split
  · have : ∀ s, s < 4 → ckP (xPb (14 + 5 * s)) = some () := by decide
    exact this s hs
  · rfl
theorem place_eq {n : Nat} {Mx My : Mem} (hS : Sim n Mx My) {s t : Nat} (hs : s < 4) (ht : t < n) (hn : n ≤ 16) : f_X6_placeOf (nI s) (nI t) Mx = some (pk My s t, Mx) := by
  unfold f_X6_placeOf f_X6_placeOf_0 pk
  rw [ixQ_n (show t < 16 by omega)]
  simp only [Option.bind_some]
  have e : Mx (33 + 13 * t) 2 = My 3 t := hS.at 3 t ht rfl
  rw [e]
  by_cases h : My 3 t = 0
  · rw [if_pos h, if_pos h, ixQ_n hs]
    simp only [Option.bind_some]
    congr 2
    omega
  · rw [if_neg h, if_neg h]
/-- the state of a TYPE, and a number, at both sides -/
theorem st_ps {My : Mem} {s t n : Nat} (hs : s < 4) (ht : t < 16) : dm n 10 (pl My s t) ∧ ps 10 (pl My s t) = (pk My s t + 1, t) := by
  unfold pl pk
  split
  · refine ⟨show 16 * s + t < 80 by omega, ?_⟩
    show (if 16 * s + t < 64 then _ else _) = _
    rw [if_pos (by omega)]
    apply Prod.ext
    · show 15 + 5 * ((16 * s + t) / 16) = 14 + 5 * s + 1
      omega
    · show (16 * s + t) % 16 = t
      omega
  · refine ⟨show 64 + t < 80 by omega, ?_⟩
    show (if 64 + t < 64 then _ else _) = _
    rw [if_neg (by omega)]
    apply Prod.ext
    · rfl
    · show 64 + t - 64 = t
      omega
theorem nu_ps {My : Mem} {s t f n : Nat} (hs : s < 4) (ht : t < 16) (hf : f < 5) : dm n 11 (5 * pl My s t + f) ∧ ps 11 (5 * pl My s t + f) = (pk My s t + 2, 5 * t + f) := by
  unfold pl pk
  split
  · refine ⟨show 5 * (16 * s + t) + f < 400 by omega, ?_⟩
    show (if 5 * (16 * s + t) + f < 320 then _ else _) = _
    rw [if_pos (by omega)]
    apply Prod.ext
    · show 16 + 5 * ((5 * (16 * s + t) + f) / 80) = 14 + 5 * s + 2
      omega
    · show (5 * (16 * s + t) + f) % 80 = 5 * t + f
      omega
  · refine ⟨show 5 * (64 + t) + f < 400 by omega, ?_⟩
    show (if 5 * (64 + t) + f < 320 then _ else _) = _
    rw [if_neg (by omega)]
    apply Prod.ext
    · rfl
    · show 5 * (64 + t) + f - 320 = 5 * t + f
      omega
theorem th_ps {s t n : Nat} (hs : s < 4) (ht : t < 16) : dm n 12 (16 * s + t) ∧ ps 12 (16 * s + t) = (13 + 5 * s + 4, t) := by
  refine ⟨show 16 * s + t < 64 by omega, ?_⟩
  apply Prod.ext
  · show 17 + 5 * ((16 * s + t) / 16) = 13 + 5 * s + 4
    omega
  · show (16 * s + t) % 16 = t
    omega
theorem fs_ps {t f n : Nat} (ht : t < n) (hf : f < 5) : dm n 6 (5 * t + f) ∧ ps 6 (5 * t + f) = (33 + 13 * t + 7, f) := by
  refine ⟨show 5 * t + f < 5 * n by omega, ?_⟩
  apply Prod.ext
  · show 40 + 13 * ((5 * t + f) / 5) = 33 + 13 * t + 7
    omega
  · show (5 * t + f) % 5 = f
    omega
theorem ln_ps {t i r n : Nat} (ht : t < n) (hi : i < 8) (hr : r < 4) : dm n 9 (32 * t + 4 * i + r) ∧ ps 9 (32 * t + 4 * i + r) = (33 + 13 * t + (9 + r), i) := by
  refine ⟨show 32 * t + 4 * i + r < 32 * n by omega, ?_⟩
  apply Prod.ext
  · show 42 + 13 * ((32 * t + 4 * i + r) / 32) + (32 * t + 4 * i + r) % 4 = 33 + 13 * t + (9 + r)
    omega
  · show (32 * t + 4 * i + r) % 32 / 4 = i
    omega
theorem fc_ps {t j n : Nat} (ht : t < n) (hj : j < 3) : dm n 5 (3 * t + j) ∧ ps 5 (3 * t + j) = (33 + 13 * t + 2, j) := by
  refine ⟨show 3 * t + j < 3 * n by omega, ?_⟩
  apply Prod.ext
  · show 35 + 13 * ((3 * t + j) / 3) = 33 + 13 * t + 2
    omega
  · show (3 * t + j) % 3 = j
    omega
theorem dx_pk1 {My : Mem} {s t : Nat} (hs : s < 4) (j : Nat) : DX (pk My s t + 1) j := by
  unfold pk DX
  split <;> omega
theorem dx_pk2 {My : Mem} {s t : Nat} (hs : s < 4) (j : Nat) : DX (pk My s t + 2) j := by
  unfold pk DX
  split <;> omega
theorem dx_th {s : Nat} (hs : s < 4) (j : Nat) : DX (13 + 5 * s + 4) j := by
  unfold DX
  omega
theorem dx_lf {s : Nat} (hs : s < 4) : DX (13 + 5 * s) 2 := by
  unfold DX
  omega
theorem pl_fr {My My' : Mem} (h : FrY My My') (s t : Nat) : pl My' s t = pl My s t := by
  unfold pl
  rw [h 3 t (by unfold DY; omega)]
theorem pk_fr {My My' : Mem} (h : FrY My My') (s t : Nat) : pk My' s t = pk My s t := by
  unfold pk
  rw [h 3 t (by unfold DY; omega)]
