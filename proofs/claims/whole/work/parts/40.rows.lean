/-! Rows of TYPES (class only); the rows on bits are out of the kit's text to paste -/
def bt (x : Int32) (i : Nat) : Bool := x.toBitVec.getLsbD i
theorem b_ext {x y : Int32} (h : ∀ i, i < 32 → bt x i = bt y i) : x = y := Int32.toBitVec_inj.mp (BitVec.eq_of_getLsbD_eq (fun i hi => h i hi))
theorem b_or (x y : Int32) (i : Nat) : bt (x ||| y) i = (bt x i || bt y i) := by unfold bt; rw [Int32.toBitVec_or, BitVec.getLsbD_or]
theorem b_and (x y : Int32) (i : Nat) : bt (x &&& y) i = (bt x i && bt y i) := by unfold bt; rw [Int32.toBitVec_and, BitVec.getLsbD_and]
theorem b_0 (i : Nat) : bt 0 i = false := BitVec.getLsbD_zero
theorem s_l : ∀ n, n < 32 → ((nI n &&& 31).toBitVec.smod 32).toNat = n := by decide +kernel
theorem b_shl (n : Nat) (hn : n < 32) (x : Int32) {i : Nat} (hi : i < 32) : bt (x <<< (nI n &&& 31)) i = (decide (n ≤ i) && bt x (i - n)) := by
  unfold bt
  rw [Int32.toBitVec_shiftLeft]
  show (x.toBitVec <<< ((nI n &&& 31).toBitVec.smod 32).toNat).getLsbD i = _
  rw [s_l n hn, BitVec.getLsbD_shiftLeft]
  rcases Nat.lt_or_ge i n with h | h
  · simp [h, Nat.not_le.mpr h]
  · simp [hi, h, Nat.not_lt.mpr h]
theorem b_sshr (n : Nat) (hn : n < 32) (x : Int32) {i : Nat} (hi : i < 32) : bt (x >>> (nI n &&& 31)) i = if n + i < 32 then bt x (n + i) else bt x 31 := by
  unfold bt
  rw [Int32.toBitVec_shiftRight]
  show (x.toBitVec.sshiftRight ((nI n &&& 31).toBitVec.smod 32).toNat).getLsbD i = _
  rw [s_l n hn, BitVec.getLsbD_sshiftRight, BitVec.msb_eq_getLsbD_last]
  simp [hi]
theorem b_one : ∀ i, i < 32 → bt 1 i = decide (i = 0) := by decide +kernel
theorem bit_iff (m : Int32) {y : Nat} (hy : y < 16) : ((m >>> (nI y &&& 31)) &&& (1 : Int32)) = 0 ↔ bt m y = false := by
  have h0 : bt ((m >>> (nI y &&& 31)) &&& (1 : Int32)) 0 = bt m y := by
    rw [b_and, b_sshr y (by omega) m (by omega), b_one 0 (by omega), if_pos (by omega)]
    simp
  constructor
  · intro h
    rw [h, b_0] at h0
    exact h0.symm
  · intro h
    apply b_ext
    intro i hi
    rw [b_0]
    by_cases hi0 : i = 0
    · subst hi0
      rw [h0, h]
    · rw [b_and, b_one i hi, decide_eq_false hi0, Bool.and_false]
theorem bit_or (m : Int32) {x y : Nat} (hx : x < 16) (hy : y < 16) : bt (m ||| ((1 : Int32) <<< (nI x &&& 31))) y = (bt m y || decide (x = y)) := by
  rw [b_or, b_shl x (by omega) 1 (by omega)]
  congr 1
  by_cases h : x ≤ y
  · rw [b_one (y - x) (by omega)]
    simp only [h, decide_true, Bool.true_and]
    by_cases e : x = y
    · subst e; simp
    · rw [decide_eq_false e, decide_eq_false (by omega)]
  · simp only [h, decide_false, Bool.false_and]
    rw [decide_eq_false (by omega)]
def smR (k : Nat) (A B : Mem) : Prop := ∀ a b, a ≠ k → a ≠ k + 1 → B a b = A a b
theorem smR.rf {k : Nat} {A : Mem} : smR k A A := fun _ _ _ _ => rfl
theorem smR.tr {k : Nat} {A B C : Mem} (h : smR k A B) (h' : smR k B C) : smR k A C := fun a b h1 h2 => (h' a b h1 h2).trans (h a b h1 h2)
theorem has_eq {M : Mem} {k : Nat} {L : List Nat} (h : RowIs M k L) {x : Nat} (hx : x < 16) : f_X2_has k (nI x) M = some (if x ∈ L then 1 else 0, M) := by
  unfold f_X2_has f_X2_has_0
  have := h.2.2.2.2.2 x hx
  by_cases hm : x ∈ L
  · rw [if_neg (fun q => (this.mp q) hm), if_pos hm]
    rfl
  · rw [if_pos (this.mpr hm), if_neg hm]
    rfl
theorem empty_eq (M : Mem) (k : Nat) : ∃ M', f_X2_empty k M = some (0, M') ∧ RowIs M' k [] ∧ smR k M M' := by
  refine ⟨_, rfl, ⟨?_, by simp, fun j x hj => by simp at hj, List.nodup_nil, fun x hx => by simp at hx, fun x hx => ?_⟩, fun a b h1 h2 => ?_⟩
  · rw [mset_get_ne _ _ (by omega), mset_get]
    rfl
  · rw [mset_get, bit_iff _ hx, b_0]
    simp
  · rw [mset_get_ne _ _ (Or.inl h1), mset_get_ne _ _ (Or.inl h1)]
theorem addOnce_eq {M : Mem} {k : Nat} {L : List Nat} (h : RowIs M k L) {x : Nat} (hx : x < 16) : ∃ M', f_X2_addOnce k (nI x) M = some (0, M') ∧ RowIs M' k (addU L x) ∧ smR k M M' := by
  unfold f_X2_addOnce f_X2_addOnce_0
  rw [has_eq h hx]
  simp only [Option.bind_some]
  obtain ⟨r1, r2, r3, r4, r5, r6⟩ := h
  by_cases hm : x ∈ L
  · rw [if_pos hm, if_neg (by decide), addU_in hm]
    exact ⟨M, rfl, ⟨r1, r2, r3, r4, r5, r6⟩, smR.rf⟩
  · rw [if_neg hm, if_pos rfl, addU_out hm, r1]
    have hl : L.length + 1 ≤ 16 := by
      have := nodup_len 16 (x :: L) (List.nodup_cons.mpr ⟨hm, r4⟩) (fun y hy => (List.mem_cons.mp hy).elim (fun e => e ▸ hx) (r5 y))
      simpa using this
    rw [if_neg (show ¬ (16 : Int32) ≤ nI L.length from nI_ge (a := L.length) (b := 16) (by omega) (by omega)), stI_n M _ (nI x) (show L.length < 16 by omega)]
    simp only [Option.bind_some, stF]
    rw [mset_get_ne _ _ (show k ≠ k + 1 ∨ 1 ≠ L.length by omega), r1, mset_get_ne _ _ (show k ≠ k ∨ 2 ≠ 1 by omega), mset_get_ne _ _ (show k ≠ k + 1 ∨ 2 ≠ L.length by omega)]
    refine ⟨_, rfl, ⟨?_, by simp; omega, fun j y hj => ?_, ?_, fun y hy => ?_, fun y hy => ?_⟩, fun a b h1 h2 => ?_⟩
    · rw [mset_get_ne _ _ (by omega), mset_get, nI_1]
      simp
    · rw [mset_get_ne _ _ (by omega), mset_get_ne _ _ (by omega)]
      by_cases hjl : j < L.length
      · rw [List.getElem?_append_left hjl] at hj
        rw [mset_get_ne _ _ (by omega)]
        exact r3 j y hj
      · rw [List.getElem?_append_right (by omega)] at hj
        have : j - L.length < 1 := (List.getElem?_eq_some_iff.mp hj).1
        have he : j = L.length := by omega
        subst he
        simp at hj
        subst hj
        exact mset_get _ _ _ _
    · have := addU_nodup (l := L) (x := x) r4
      rw [addU_out hm] at this
      exact this
    · rcases List.mem_append.mp hy with h | h
      · exact r5 y h
      · simp at h
        omega
    · rw [mset_get, bit_iff _ hy, bit_or _ hx hy]
      have := r6 y hy
      rw [bit_iff _ hy] at this
      rw [List.mem_append]
      simp
      rw [this]
      constructor
      · rintro ⟨a, b⟩
        exact ⟨a, fun e => b e.symm⟩
      · rintro ⟨a, b⟩
        exact ⟨a, fun e => b e.symm⟩
    · rw [mset_get_ne _ _ (Or.inl h1), mset_get_ne _ _ (Or.inl h1), mset_get_ne _ _ (Or.inl h2)]
theorem addAll_loop {k k1 : Nat} {L1 : List Nat} (hk : k1 ≠ k ∧ k1 ≠ k + 1 ∧ k1 + 1 ≠ k) : ∀ (m j : Nat) (M : Mem) (L : List Nat), RowIs M k L → RowIs M k1 L1 → j ≤ L1.length → L1.length - j < m → ∃ M', f_X2_addAllOnce_2 m k k1 (nI j) M = some (0, M') ∧ RowIs M' k ((L1.drop j).foldl addU L) ∧ smR k M M' := by
  intro m
  induction m with
  | zero => intro j M L _ _ _ h; omega
  | succ m ih =>
    intro j M L h h1 hj hm
    show ∃ M', f_X2_addAllOnce_2b (f_X2_addAllOnce_2 m) k k1 (nI j) M = _ ∧ _
    unfold f_X2_addAllOnce_2b
    rw [h1.1]
    have hl16 := h1.2.1
    by_cases hjl : L1.length ≤ j
    · rw [if_pos (nI_le hjl (by omega)), List.drop_eq_nil_of_le hjl]
      exact ⟨M, rfl, h, smR.rf⟩
    · rw [if_neg (nI_ge (by omega) (by omega))]
      have hx : L1[j]? = some (L1[j]'(by omega)) := List.getElem?_eq_getElem (by omega)
      generalize hxe : L1[j]'(by omega) = x at hx
      have hx16 := h1.2.2.2.2.1 x (List.mem_of_getElem? hx)
      rw [ldI_n M _ (show j < 16 by omega), h1.2.2.1 j x hx]
      simp only [Option.bind_some]
      obtain ⟨M1, q1, q2, q3⟩ := addOnce_eq h hx16
      rw [q1]
      simp only [Option.bind_some]
      obtain ⟨M', w1, w2, w3⟩ := ih (j + 1) M1 (addU L x) q2 (h1.fr (fun b => q3 _ b hk.1 hk.2.1) (fun b => q3 _ b hk.2.2 (by omega))) (by omega) (by omega)
      refine ⟨M', ?_, ?_, q3.tr w3⟩
      · rw [← nI_1 j] at w1
        exact w1
      · rw [List.drop_eq_getElem_cons (by omega), hxe]
        exact w2
theorem addAll_eq {M : Mem} {k k1 : Nat} {L L1 : List Nat} (hk : k1 ≠ k ∧ k1 ≠ k + 1 ∧ k1 + 1 ≠ k) (h : RowIs M k L) (h1 : RowIs M k1 L1) : ∃ M', f_X2_addAllOnce k k1 M = some (0, M') ∧ RowIs M' k (L1.foldl addU L) ∧ smR k M M' := by
  have hl16 := h1.2.1
  have := addAll_loop hk FU 0 M L h h1 (Nat.zero_le _) (by have := FU_ge; omega)
  rw [List.drop_zero] at this
  exact this
/-- what arrange(t) may change -/
def smT (t : Nat) (A B : Mem) : Prop := ∀ a b, a ≠ 36 + 13 * t → a ≠ 37 + 13 * t → a ≠ 38 + 13 * t → a ≠ 39 + 13 * t → B a b = A a b
/-- the rows of the TYPES before t are right -/
def rowsB (t : Nat) (Mx My : Mem) : Prop := ∀ u, u < t → RowIs Mx (33 + 13 * u + 3) (ddp (lk (chY My) u)) ∧ RowIs Mx (33 + 13 * u + 5) (ddp (ff (faY My) (owY My) u))
theorem rowsB.fr {t v : Nat} {Mx Mx' My : Mem} (h : rowsB t Mx My) (hv : t ≤ v) (hf : smT v Mx Mx') : rowsB t Mx' My := by
  intro u hu
  obtain ⟨a, b⟩ := h u hu
  exact ⟨a.fr (fun j => hf _ j (by omega) (by omega) (by omega) (by omega)) (fun j => hf _ j (by omega) (by omega) (by omega) (by omega)), b.fr (fun j => hf _ j (by omega) (by omega) (by omega) (by omega)) (fun j => hf _ j (by omega) (by omega) (by omega) (by omega))⟩
theorem arr_loop {n t : Nat} {My : Mem} (hw : WF n My) (ht : t < n) : ∀ (m j : Nat) (Mx : Mem), j ≤ (faY My t).length → (faY My t).length - j < m → rowsB t Mx My → RowIs Mx (33 + 13 * t + 1) (faY My t) → (∀ u, u < t → Mx (33 + 13 * u) 0 = My 1 u) → Mx (33 + 13 * t) 1 = My 2 t → RowIs Mx (33 + 13 * t + 3) (ddp (t :: ((faY My t).take j).flatMap (lk (chY My)))) → RowIs Mx (33 + 13 * t + 5) (ddp (((faY My t).take j).flatMap (gg (faY My) (owY My)))) → ∃ Mx', f_X6_arrange_31 m (33 + 13 * t) (nI j) Mx = some (0, Mx') ∧ RowIs Mx' (33 + 13 * t + 3) (ddp (lk (chY My) t)) ∧ RowIs Mx' (33 + 13 * t + 5) (ddp (ff (faY My) (owY My) t)) ∧ smT t Mx Mx' := by
  intro m
  have hn := hw.1
  induction m with
  | zero => intro j Mx _ h; omega
  | succ m ih =>
    intro j Mx hj hm hB hfa hk hp h3 h5
    show ∃ Mx', f_X6_arrange_31b (f_X6_arrange_31 m) (33 + 13 * t) (nI j) Mx = _ ∧ _
    unfold f_X6_arrange_31b
    rw [hfa.1]
    have hl16 := hfa.2.1
    by_cases hjl : (faY My t).length ≤ j
    · rw [if_pos (nI_le hjl (by omega)), hp]
      have htk : (faY My t).take j = faY My t := List.take_of_length_le hjl
      rw [htk] at h3 h5
      by_cases hpa : My 2 t = -1
      · rw [if_pos hpa]
        refine ⟨Mx, rfl, ?_, h5, fun _ _ _ _ _ _ => rfl⟩
        rw [lk_eq (chY_lt hw) ht]
        unfold chY paY
        rw [if_pos hpa, List.append_nil]
        exact h3
      · rw [if_neg hpa]
        rcases hw.2.2.2.1 t ht with e | ⟨q, q1, q2, -⟩
        · exact absurd e hpa
        · rw [q2, ixQ_n (show q < 16 by omega)]
          simp only [Option.bind_some]
          obtain ⟨M', w1, w2, w3⟩ := addAll_eq (show 33 + 13 * q + 3 ≠ 33 + 13 * t + 3 ∧ 33 + 13 * q + 3 ≠ 33 + 13 * t + 3 + 1 ∧ 33 + 13 * q + 3 + 1 ≠ 33 + 13 * t + 3 by omega) h3 (hB q q1).1
          rw [w1]
          refine ⟨M', rfl, ?_, h5.fr (fun b => w3 _ b (by omega) (by omega)) (fun b => w3 _ b (by omega) (by omega)), fun a b x1 x2 x3 x4 => w3 a b (by omega) (by omega)⟩
          rw [ddp_app] at w2
          rw [lk_eq (chY_lt hw) ht]
          have hch : chY My t = faY My t ++ [q] := by
            unfold chY paY
            rw [if_neg hpa, q2, nI_clamp (by omega)]
          rw [hch, List.flatMap_append]
          simpa using w2
    · rw [if_neg (nI_ge (by omega) (by omega))]
      have hx : (faY My t)[j]? = some ((faY My t)[j]'(by omega)) := List.getElem?_eq_getElem (by omega)
      generalize hxe : (faY My t)[j]'(by omega) = f at hx
      have hft : f < t := faY_lt hw t ht f (List.mem_of_getElem? hx)
      rw [ldI_n Mx _ (show j < 16 by omega), hfa.2.2.1 j f hx]
      simp only [Option.bind_some]
      rw [ixQ_n (show f < 16 by omega)]
      simp only [Option.bind_some]
      obtain ⟨M1, w1, w2, w3⟩ := addAll_eq (show 33 + 13 * f + 3 ≠ 33 + 13 * t + 3 ∧ 33 + 13 * f + 3 ≠ 33 + 13 * t + 3 + 1 ∧ 33 + 13 * f + 3 + 1 ≠ 33 + 13 * t + 3 by omega) h3 (hB f hft).1
      rw [w1]
      simp only [Option.bind_some]
      have h51 := h5.fr (B := M1) (fun b => w3 _ b (by omega) (by omega)) (fun b => w3 _ b (by omega) (by omega))
      have hB51 := (hB f hft).2.fr (B := M1) (fun b => w3 _ b (by omega) (by omega)) (fun b => w3 _ b (by omega) (by omega))
      obtain ⟨M2, u1, u2, u3⟩ := addAll_eq (show 33 + 13 * f + 5 ≠ 33 + 13 * t + 5 ∧ 33 + 13 * f + 5 ≠ 33 + 13 * t + 5 + 1 ∧ 33 + 13 * f + 5 + 1 ≠ 33 + 13 * t + 5 by omega) h51 hB51
      rw [u1]
      simp only [Option.bind_some]
      have hk2 : M2 (33 + 13 * f) 0 = My 1 f := by rw [u3 _ 0 (by omega) (by omega), w3 _ 0 (by omega) (by omega)]; exact hk f hft
      rw [hk2]
      rw [ddp_app] at w2 u2
      have htk : (faY My t).take (j + 1) = (faY My t).take j ++ [f] := by
        rw [List.take_add_one, hx]
        rfl
      have hsm2 : smT t Mx M2 := fun a b x1 x2 x3 x4 => by rw [u3 a b (by omega) (by omega), w3 a b (by omega) (by omega)]
      have fin : ∀ M3 : Mem, smT t M2 M3 → (∀ b, M3 (33 + 13 * t + 3) b = M2 (33 + 13 * t + 3) b) → (∀ b, M3 (33 + 13 * t + 3 + 1) b = M2 (33 + 13 * t + 3 + 1) b) → RowIs M3 (33 + 13 * t + 5) (ddp (((faY My t).take (j + 1)).flatMap (gg (faY My) (owY My)))) → ∃ Mx', f_X6_arrange_110 (f_X6_arrange_31 m) (33 + 13 * t) (nI j) M3 = some (0, Mx') ∧ RowIs Mx' (33 + 13 * t + 3) (ddp (lk (chY My) t)) ∧ RowIs Mx' (33 + 13 * t + 5) (ddp (ff (faY My) (owY My) t)) ∧ smT t Mx Mx' := by
        intro M3 g1 g2 g3 g4
        unfold f_X6_arrange_110
        have hsm3 : smT t Mx M3 := fun a b x1 x2 x3 x4 => by rw [g1 a b x1 x2 x3 x4]; exact hsm2 a b x1 x2 x3 x4
        have hrow3 : RowIs M3 (33 + 13 * t + 3) (ddp (t :: ((faY My t).take (j + 1)).flatMap (lk (chY My)))) := by
          rw [htk, List.flatMap_append]
          have : RowIs M2 (33 + 13 * t + 3) (ddp (t :: ((faY My t).take j).flatMap (lk (chY My)) ++ lk (chY My) f)) := w2.fr (fun b => u3 _ b (by omega) (by omega)) (fun b => u3 _ b (by omega) (by omega))
          have := this.fr g2 g3
          simpa using this
        obtain ⟨Mx', v1, v2, v3, v4⟩ := ih (j + 1) M3 (by omega) (by omega) (hB.fr (Nat.le_refl t) hsm3) (hfa.fr (fun b => hsm3 _ b (by omega) (by omega) (by omega) (by omega)) (fun b => hsm3 _ b (by omega) (by omega) (by omega) (by omega))) (fun u hu => by rw [hsm3 _ 0 (by omega) (by omega) (by omega) (by omega)]; exact hk u hu) (by rw [hsm3 _ 1 (by omega) (by omega) (by omega) (by omega)]; exact hp) hrow3 g4
        refine ⟨Mx', ?_, v2, v3, fun a b x1 x2 x3 x4 => by rw [v4 a b x1 x2 x3 x4]; exact hsm3 a b x1 x2 x3 x4⟩
        rw [← nI_1 j] at v1
        exact v1
      have hgg : gg (faY My) (owY My) f = ff (faY My) (owY My) f ++ owY My f := gg_eq (faY_lt hw) (by omega)
      by_cases hk2' : My 1 f = 2
      · rw [if_pos hk2']
        obtain ⟨M3, y1, y2, y3⟩ := addOnce_eq u2 (show f < 16 by omega)
        rw [y1]
        simp only [Option.bind_some]
        refine fin M3 (fun a b x1 x2 x3 x4 => y3 a b (by omega) (by omega)) (fun b => y3 _ b (by omega) (by omega)) (fun b => y3 _ b (by omega) (by omega)) ?_
        have how : owY My f = [f] := if_pos hk2'
        rw [htk, List.flatMap_append]
        have : addU (ddp (((faY My t).take j).flatMap (gg (faY My) (owY My)) ++ ff (faY My) (owY My) f)) f = ddp (((faY My t).take j).flatMap (gg (faY My) (owY My)) ++ [f].flatMap (gg (faY My) (owY My))) := by
          have e1 : [f].flatMap (gg (faY My) (owY My)) = ff (faY My) (owY My) f ++ [f] := by simp [hgg, how]
          rw [e1, ← List.append_assoc]
          unfold ddp
          rw [foldU_app _ _ [f]]
          rfl
        rw [← this]
        exact y2
      · rw [if_neg hk2']
        refine fin M2 (fun _ _ _ _ _ _ => rfl) (fun _ => rfl) (fun _ => rfl) ?_
        have how : owY My f = [] := if_neg hk2'
        rw [htk, List.flatMap_append]
        have e1 : [f].flatMap (gg (faY My) (owY My)) = ff (faY My) (owY My) f := by simp [hgg, how]
        rw [e1]
        exact u2
theorem bindE {α β : Type} {a : Option α} {x : α} {f : α → Option β} (h : a = some x) : a.bind f = f x := by rw [h]; rfl
theorem arr_eq {n t : Nat} {Mx My : Mem} (hw : WF n My) (ht : t < n) (hB : rowsB t Mx My) (hfa : RowIs Mx (33 + 13 * t + 1) (faY My t)) (hk : ∀ u, u < t → Mx (33 + 13 * u) 0 = My 1 u) (hp : Mx (33 + 13 * t) 1 = My 2 t) : ∃ Mx', f_X6_arrange (nI t) Mx = some (0, Mx') ∧ RowIs Mx' (33 + 13 * t + 3) (ddp (lk (chY My) t)) ∧ RowIs Mx' (33 + 13 * t + 5) (ddp (ff (faY My) (owY My) t)) ∧ smT t Mx Mx' := by
  have hn := hw.1
  unfold f_X6_arrange f_X6_arrange_0
  rw [bindE (ixQ_n (show t < 16 by omega))]
  obtain ⟨M1, a1, a2, a3⟩ := empty_eq Mx (33 + 13 * t + 3)
  rw [bindE a1]
  dsimp only
  obtain ⟨M2, b1, b2, b3⟩ := empty_eq M1 (33 + 13 * t + 5)
  rw [bindE b1]
  dsimp only
  obtain ⟨M3, c1, c2, c3⟩ := addOnce_eq (a2.fr (B := M2) (fun b => b3 _ b (by omega) (by omega)) (fun b => b3 _ b (by omega) (by omega))) (show t < 16 by omega)
  rw [bindE c1]
  dsimp only
  have hsm : smT t Mx M3 := fun a b x1 x2 x3 x4 => by rw [c3 a b (by omega) (by omega), b3 a b (by omega) (by omega), a3 a b (by omega) (by omega)]
  have e3 : ddp (t :: ((faY My t).take 0).flatMap (lk (chY My))) = addU [] t := by
    rw [List.take_zero]
    rfl
  have e5 : ddp (((faY My t).take 0).flatMap (gg (faY My) (owY My))) = [] := by
    rw [List.take_zero]
    rfl
  obtain ⟨Mx', v1, v2, v3, v4⟩ := arr_loop hw ht FU 0 M3 (Nat.zero_le _) (by have := FU_ge; have := hfa.2.1; omega) (hB.fr (Nat.le_refl t) hsm) (hfa.fr (fun b => hsm _ b (by omega) (by omega) (by omega) (by omega)) (fun b => hsm _ b (by omega) (by omega) (by omega) (by omega))) (fun u hu => by rw [hsm _ 0 (by omega) (by omega) (by omega) (by omega)]; exact hk u hu) (by rw [hsm _ 1 (by omega) (by omega) (by omega) (by omega)]; exact hp) (by rw [e3]; exact c2) (by rw [e5]; exact b2.fr (fun b => c3 _ b (by omega) (by omega)) (fun b => c3 _ b (by omega) (by omega)))
  exact ⟨Mx', v1, v2, v3, fun a b x1 x2 x3 x4 => by rw [v4 a b x1 x2 x3 x4]; exact hsm a b x1 x2 x3 x4⟩
