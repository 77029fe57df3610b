/-! The reference's list of FULL FACES -/
def its (fa : Nat → List Nat) : List (Nat × Nat) → List (Nat ⊕ Nat)
  | [] => []
  | (v, i) :: rest => ((fa v).drop i).map Sum.inl ++ (if rest = [] then [] else Sum.inr v :: its fa rest)
def smF (d : Nat) (A B : Mem) : Prop := ∀ a b, a ≠ 26 → a ≠ 27 → a ≠ 28 → ¬ (a = 24 ∧ 16 * d ≤ b) → ¬ (a = 25 ∧ b = d) → B a b = A a b
def pIs (M : Mem) (B : List (Nat × Nat)) : Prop := ∀ i q, B[i]? = some q → M 27 i = nI q.1 ∧ M 28 i = nI q.2
def fo (M : Mem) (d : Nat) (out : List Nat) : Prop := M 25 d = nI out.length ∧ ∀ j x, out[j]? = some x → M 24 (16 * d + j) = nI x
theorem smF.set {d : Nat} {A B : Mem} (h : smF d A B) {a b : Nat} (v : Int32) (hq : a = 26 ∨ a = 27 ∨ a = 28 ∨ (a = 24 ∧ 16 * d ≤ b) ∨ (a = 25 ∧ b = d)) : smF d A (mset B a b v) := by
  intro x y h1 h2 h3 h4 h5
  rw [mset_get_ne, h x y h1 h2 h3 h4 h5]
  by_cases e : x = a
  · refine Or.inr fun e2 => ?_
    subst e e2
    rcases hq with q | q | q | q | q
    · exact h1 q
    · exact h2 q
    · exact h3 q
    · exact h4 q
    · exact h5 q
  · exact Or.inl e
theorem pIs_snoc {M : Mem} {B : List (Nat × Nat)} {v i : Nat} (h : pIs M B) (h1 : M 27 B.length = nI v) (h2 : M 28 B.length = nI i) : pIs M (B ++ [(v, i)]) := by
  intro j q hq
  by_cases hj : j < B.length
  · rw [List.getElem?_append_left hj] at hq
    exact h j q hq
  · rw [List.getElem?_append_right (by omega)] at hq
    have : j - B.length < 1 := (List.getElem?_eq_some_iff.mp hq).1
    have hj2 : j = B.length := by omega
    subst hj2
    simp at hq
    subst hq
    exact ⟨h1, h2⟩
theorem pIs_set {M : Mem} {B : List (Nat × Nat)} {a b : Nat} {v : Int32} (h : pIs M B) (hq : (a ≠ 27 ∧ a ≠ 28) ∨ B.length ≤ b) : pIs (mset M a b v) B := by
  intro j q hj
  have hl : j < B.length := (List.getElem?_eq_some_iff.mp hj).1
  rw [mset_get_ne _ _ (by omega), mset_get_ne _ _ (by omega)]
  exact h j q hj
theorem owY_cases (My : Mem) (t : Nat) : owY My t = [] ∨ owY My t = [t] := by
  unfold owY
  split
  · exact Or.inr rfl
  · exact Or.inl rfl
theorem yfl_loop {n : Nat} {My : Mem} (hw : WF n My) {d : Nat} (hd : d < 16) : ∀ (m : Nat) (seen : List Nat) (v i : Nat) (rest : List (Nat × Nat)) (out : List Nat) (M : Mem) (r : List Nat), gR (faY My) (owY My) m seen (its (faY My) ((v, i) :: rest)) out = some r → sn M seen → pIs M (rest.reverse ++ [(v, i)]) → (∀ q ∈ (v, i) :: rest, q.1 < n) → i ≤ (faY My v).length → (∀ q ∈ rest, q.2 ≤ (faY My q.1).length) → seen.Nodup → (∀ w ∈ seen, w < n) → rest.length + out.length ≤ seen.length → fo M d out → M 0 26 = nI d → smF d My M → ∃ M', f_X7_listFulls_37 (m + 2) (nI (rest.length + 1)) M = some (0, M') ∧ fo M' d r ∧ smF d My M' := by
  intro m
  have hn := hw.1
  induction m with
  | zero => intro seen v i rest out M r hr; cases hr
  | succ m ih =>
    intro seen v i rest out M r hr hs hp hq hi hqi hN hsn hlen ho h26 hM
    have hsl := nodup_len n seen hN hsn
    have hv : v < n := hq (v, i) List.mem_cons_self
    obtain ⟨c, c1, c2, c3, c4⟩ := faY_len hw hv
    show ∃ M', f_X7_listFulls_37b (f_X7_listFulls_37 (m + 2)) (nI (rest.length + 1)) M = _ ∧ _
    unfold f_X7_listFulls_37b
    obtain ⟨p1, p2⟩ := hp rest.length (v, i) (by
      have : rest.length = rest.reverse.length := by simp
      rw [this, List.getElem?_append_right (Nat.le_refl _)]
      simp)
    simp only [] at p1 p2
    have hprest : pIs M rest.reverse := fun j q hj => hp j q (by
      rw [List.getElem?_append_left (List.getElem?_eq_some_iff.mp hj).1]
      exact hj)
    rw [if_neg (nI_nle (by omega) (by omega)), nI_pred, ldI_n M 27 (show rest.length < 17 by omega), p1]
    simp only [Option.bind_some]
    rw [ldI_n M 28 (show rest.length < 17 by omega), p2]
    simp only [Option.bind_some]
    rw [ldI_n M 4 (show v < 16 by omega), hM 4 v (by omega) (by omega) (by omega) (by omega) (by omega), c2]
    simp only [Option.bind_some]
    unfold its at hr
    by_cases hci : c ≤ i
    · -- all faces of v are done
      rw [if_pos (nI_le hci (by omega))]
      rw [List.drop_eq_nil_of_le (by omega)] at hr
      simp only [List.map_nil, List.nil_append] at hr
      have e0 : nI (rest.length + 1) + (-1) = nI rest.length := pk_m1 _
      rw [e0]
      cases rest with
      | nil =>
        simp only [if_true] at hr
        unfold gR at hr
        cases hr
        rw [if_pos (show nI ([] : List (Nat × Nat)).length ≤ 0 by decide)]
        unfold f_X7_listFulls_190
        refine ⟨M, ?_, ho, hM⟩
        show f_X7_listFulls_37b (f_X7_listFulls_37 (m + 1)) (nI 0) M = _
        unfold f_X7_listFulls_37b
        rw [if_pos (show nI 0 ≤ 0 by decide)]
      | cons q rest =>
        rw [if_neg (by simp)] at hr
        unfold gR at hr
        simp only [List.length_cons] at hlen p1 p2 ⊢
        rw [if_neg (nI_nle (by omega) (by omega)), ldI_n M 1 (show v < 16 by omega), hM 1 v (by omega) (by omega) (by omega) (by omega) (by omega)]
        simp only [Option.bind_some]
        obtain ⟨w, j⟩ := q
        have hq' : ∀ x ∈ (w, j) :: rest, x.1 < n := fun x hx => hq x (List.mem_cons_of_mem _ hx)
        have hj := hqi (w, j) List.mem_cons_self
        have hpr : pIs M (rest.reverse ++ [(w, j)]) := by
          rw [List.reverse_cons] at hprest
          exact hprest
        by_cases hk : My 1 v = 2
        · have how : owY My v = [v] := if_pos hk
          rw [how] at hr
          obtain ⟨o1, o2⟩ := ho
          rw [if_pos hk, h26, ldI_n M 25 hd, o1]
          simp only [Option.bind_some]
          rw [x16, stI_n M 24 (nI v) (show 16 * d + out.length < 256 by omega)]
          simp only [Option.bind_some]
          rw [mset_get_ne _ _ (by omega), h26, ldI_n _ 25 hd, mset_get_ne _ _ (by omega), o1]
          simp only [Option.bind_some]
          rw [stI_n _ 25 _ hd, nI_1]
          simp only [Option.bind_some]
          unfold f_X7_listFulls_190
          refine ih seen w j rest (out ++ [v]) _ r hr ?_ (pIs_set (pIs_set hpr (by omega)) (by omega)) hq' hj (fun x hx => hqi x (List.mem_cons_of_mem _ hx)) hN hsn (by simp; omega) ?_ (by rw [mset_get_ne _ _ (by omega), mset_get_ne _ _ (by omega)]; exact h26) ((hM.set _ (by omega)).set _ (by omega))
          · intro x hx
            rw [mset_get_ne _ _ (by omega), mset_get_ne _ _ (by omega)]
            exact hs x hx
          · refine ⟨by rw [mset_get]; simp, fun k x hk' => ?_⟩
            rw [mset_get_ne _ _ (by omega)]
            by_cases hkl : k < out.length
            · rw [List.getElem?_append_left hkl] at hk'
              rw [mset_get_ne _ _ (by omega)]
              exact o2 k x hk'
            · rw [List.getElem?_append_right (by omega)] at hk'
              have : k - out.length < 1 := (List.getElem?_eq_some_iff.mp hk').1
              have hke : k = out.length := by omega
              subst hke
              simp at hk'
              subst hk'
              exact mset_get _ _ _ _
        · have how : owY My v = [] := if_neg hk
          rw [how, List.append_nil] at hr
          rw [if_neg hk]
          unfold f_X7_listFulls_190
          exact ih seen w j rest out M r hr hs hpr hq' hj (fun x hx => hqi x (List.mem_cons_of_mem _ hx)) hN hsn (by omega) ho h26 hM
    · -- the next face
      rw [if_neg (nI_ge (by omega) (by omega))]
      obtain ⟨f, f1, f2, f3⟩ := c4 i (by omega)
      have hdrop : (faY My v).drop i = f :: (faY My v).drop (i + 1) := by
        rw [List.drop_eq_getElem_cons (by omega)]
        congr 1
        have := List.getElem?_eq_getElem (l := faY My v) (i := i) (by omega)
        rw [f3] at this
        exact (Option.some.inj this).symm
      rw [hdrop] at hr
      simp only [List.map_cons, List.cons_append] at hr
      unfold gR at hr
      rw [x3, ldI_n M 5 (show 3 * v + i < 48 by omega), hM 5 _ (by omega) (by omega) (by omega) (by omega) (by omega), f2]
      simp only [Option.bind_some]
      rw [stI_n M 28 _ (show rest.length < 17 by omega), nI_1]
      simp only [Option.bind_some]
      rw [ldI_n _ 26 (show f < 16 by omega), mset_get_ne _ _ (by omega), hs f (by omega)]
      simp only [Option.bind_some]
      have hM1 : smF d My (mset M 28 rest.length (nI (i + 1))) := hM.set _ (by omega)
      have hp1 : pIs (mset M 28 rest.length (nI (i + 1))) (rest.reverse ++ [(v, i + 1)]) := by
        refine pIs_snoc (pIs_set hprest (by simp)) ?_ ?_
        · rw [mset_get_ne _ _ (by omega)]
          simpa using p1
        · simp [mset_get]
      have hq1 : ∀ q ∈ (v, i + 1) :: rest, q.1 < n := fun q hq' => (List.mem_cons.mp hq').elim (fun e => by rw [e]; exact hv) (fun h => hq q (List.mem_cons_of_mem _ h))
      have ho1 : fo (mset M 28 rest.length (nI (i + 1))) d out := by
        refine ⟨by rw [mset_get_ne _ _ (by omega)]; exact ho.1, fun k x hk => by rw [mset_get_ne _ _ (by omega)]; exact ho.2 k x hk⟩
      by_cases hfs : f ∈ seen
      · rw [if_pos hfs] at hr
        rw [if_pos hfs, if_neg (by decide)]
        unfold f_X7_listFulls_134 f_X7_listFulls_190
        exact ih seen v (i + 1) rest out _ r hr (fun x hx => by rw [mset_get_ne _ _ (by omega)]; exact hs x hx) hp1 hq1 (by omega) hqi hN hsn hlen ho1 (by rw [mset_get_ne _ _ (by omega)]; exact h26) hM1
      · rw [if_neg hfs] at hr
        rw [if_neg hfs, if_pos rfl, stZ_n _ 26 1 (show f < 16 by omega) rfl]
        simp only [Option.bind_some]
        have hN1 : (f :: seen).Nodup := List.nodup_cons.mpr ⟨hfs, hN⟩
        have hsn1 : ∀ w ∈ f :: seen, w < n := fun w hw => (List.mem_cons.mp hw).elim (fun e => by omega) (hsn w)
        have hsl1 := nodup_len n _ hN1 hsn1
        simp only [List.length_cons] at hsl1
        rw [stI_n _ 27 _ (show rest.length + 1 < 17 by omega)]
        simp only [Option.bind_some]
        rw [stI_n _ 28 _ (show rest.length + 1 < 17 by omega), nI_1]
        simp only [Option.bind_some]
        unfold f_X7_listFulls_134 f_X7_listFulls_190
        have hl : (rest.reverse ++ [(v, i + 1)]).length = rest.length + 1 := by simp
        refine ih (f :: seen) f 0 ((v, i + 1) :: rest) out _ r ?_ ?_ ?_ ?_ (Nat.zero_le _) ?_ hN1 hsn1 (by simp only [List.length_cons]; omega) ?_ ?_ (((hM1.set _ (by omega)).set _ (by omega)).set _ (by omega))
        · rw [← hr]
          congr 1
        · intro x hx
          rw [mset_get_ne _ _ (by omega), mset_get_ne _ _ (by omega)]
          by_cases e : x = f
          · subst e
            rw [mset_get, if_pos List.mem_cons_self]
          · rw [mset_get_ne _ _ (Or.inr e), mset_get_ne _ _ (by omega), hs x hx]
            simp [e]
        · rw [List.reverse_cons]
          refine pIs_snoc (pIs_set (pIs_set (pIs_set hp1 (by omega)) (by omega)) (by omega)) ?_ ?_
          · rw [hl, mset_get_ne _ _ (by omega), mset_get]
          · rw [hl, mset_get]
            rfl
        · intro q hq'
          rcases List.mem_cons.mp hq' with rfl | h
          · show f < n
            omega
          · exact hq1 q h
        · intro q hq'
          rcases List.mem_cons.mp hq' with rfl | h
          · show i + 1 ≤ (faY My v).length
            omega
          · exact hqi q h
        · refine ⟨?_, fun k x hk => ?_⟩
          · rw [mset_get_ne _ _ (by omega), mset_get_ne _ _ (by omega), mset_get_ne _ _ (by omega)]
            exact ho1.1
          · rw [mset_get_ne _ _ (by omega), mset_get_ne _ _ (by omega), mset_get_ne _ _ (by omega)]
            exact ho1.2 k x hk
        · rw [mset_get_ne _ _ (by omega), mset_get_ne _ _ (by omega), mset_get_ne _ _ (by omega), mset_get_ne _ _ (by omega)]
          exact h26
theorem yfl_sn {x1 : Int32} : ∀ (m j : Nat) (M : Mem), j ≤ 16 → 16 - j < m → (∀ v, v < j → M 26 v = 0) → ∃ M', f_X7_listFulls_2 m x1 (nI j) M = ((stI M' 27 17 (0 : Int32) x1).bind fun M2 => (stI M2 28 17 (0 : Int32) (0 : Int32)).bind fun M4 => f_X7_listFulls_37 FU (1 : Int32) M4) ∧ (∀ v, v < 16 → M' 26 v = 0) ∧ ∀ a b, a ≠ 26 → M' a b = M a b := by
  intro m
  induction m with
  | zero => intro j M _ h; omega
  | succ m ih =>
    intro j M hj hm h0
    show ∃ M', f_X7_listFulls_2b (f_X7_listFulls_2 m) x1 (nI j) M = _ ∧ _
    unfold f_X7_listFulls_2b
    by_cases hj16 : 16 ≤ j
    · rw [if_pos (show (16 : Int32) ≤ nI j from nI_le (a := 16) hj16 (by omega))]
      exact ⟨M, rfl, fun v hv => h0 v (by omega), fun _ _ _ => rfl⟩
    · rw [if_neg (show ¬ (16 : Int32) ≤ nI j from nI_ge (a := j) (b := 16) (by omega) (by omega)), stZ_n M 26 0 (show j < 16 by omega) rfl]
      simp only [Option.bind_some]
      obtain ⟨M', e1, e2, e3⟩ := ih (j + 1) (mset M 26 j 0) (by omega) (by omega) (fun v hv => by
        by_cases e : v = j
        · subst e; exact mset_get _ _ _ _
        · rw [mset_get_ne _ _ (Or.inr e)]; exact h0 v (by omega))
      refine ⟨M', ?_, e2, fun a b ha => by rw [e3 a b ha, mset_get_ne _ _ (Or.inl ha)]⟩
      rw [← nI_1 j] at e1
      exact e1
theorem yfl_main {n : Nat} {My : Mem} (hw : WF n My) {t d F : Nat} (ht : t < n) (hd : d < 16) (hF : 4000 ≤ F) (h26 : My 0 26 = nI d) (h25 : My 25 d = 0) {M1 : Mem} (e2 : ∀ v, v < 16 → M1 26 v = 0) (e3 : ∀ a b, a ≠ 26 → M1 a b = My a b) : ∃ M', f_X7_listFulls_37 (F + 2) (nI (([] : List (Nat × Nat)).length + 1)) (mset (mset M1 27 0 (nI t)) 28 0 (nI 0)) = some (0, M') ∧ fo M' d (ddp (ff (faY My) (owY My) t)) ∧ smF d My M' := by
  have hits : its (faY My) [(t, 0)] = (faY My t).map Sum.inl := by
    show ((faY My t).drop 0).map Sum.inl ++ (if ([] : List (Nat × Nat)) = [] then [] else _) = _
    rw [if_pos rfl, List.drop_zero, List.append_nil]
  have hR1 := gR_ok (faY_lt hw) (owY_cases My) (faY_3 hw) F [] ((faY My t).map Sum.inl) [] ⟨fun w hw => by simp at hw, fun v hv => by simp at hv, fun u hu => by simp at hu, by
    have : ((faY My t).map (Sum.inl : Nat → Nat ⊕ Nat)).filter (fun x => x.isRight) = [] := by
      rw [List.filter_eq_nil_iff]
      intro a ha
      obtain ⟨b, -, rfl⟩ := List.mem_map.mp ha
      simp
    rw [this]
    exact List.nodup_nil⟩ List.nodup_nil (fun w hw => by simp at hw) (fun v hv => by
      have : v ∈ faY My t := by simpa using hv
      have := faY_lt hw t ht v this
      omega) (by simp) (by have := faY_3 hw t ht; have := hw.1; simp; omega)
  have hfl : ((faY My t).map Sum.inl).flatMap (uf (faY My) (owY My)) = ff (faY My) (owY My) t := by
    rw [List.flatMap_map]
    rfl
  rw [hfl] at hR1
  have hM1 : smF d My (mset (mset M1 27 0 (nI t)) 28 0 (nI 0)) := by
    have : smF d My M1 := fun a b h1 h2 h3 h4 h5 => e3 a b h1
    exact (this.set _ (by omega)).set _ (by omega)
  refine yfl_loop hw hd F [] t 0 [] [] (mset (mset M1 27 0 (nI t)) 28 0 (nI 0)) (ddp (ff (faY My) (owY My) t)) (by rw [hits]; exact hR1) (fun v hv => by rw [mset_get_ne _ _ (by omega), mset_get_ne _ _ (by omega), e2 v hv]; simp) ?_ (fun q hq => by simp at hq; rw [hq]; exact ht) (Nat.zero_le _) (fun q hq => by simp at hq) List.nodup_nil (fun w hw => by simp at hw) (by simp) ⟨by rw [mset_get_ne _ _ (by omega), mset_get_ne _ _ (by omega), e3 25 d (by omega), h25]; rfl, fun j x hj => by simp at hj⟩ (by rw [mset_get_ne _ _ (by omega), mset_get_ne _ _ (by omega), e3 0 26 (by omega)]; exact h26) hM1
  refine pIs_snoc (fun j q hj => by simp at hj) ?_ ?_
  · rw [mset_get_ne _ _ (by omega)]
    exact mset_get _ _ _ _
  · exact mset_get _ _ _ _
theorem yfl_pre {x1 : Int32} {M : Mem} {F : Nat} (hF : 17 < F) : ∃ M', f_X7_listFulls_2 F x1 (nI 0) M = f_X7_listFulls_37 FU (1 : Int32) (mset (mset M' 27 0 x1) 28 0 (nI 0)) ∧ (∀ v, v < 16 → M' 26 v = 0) ∧ ∀ a b, a ≠ 26 → M' a b = M a b := by
  obtain ⟨M1, e1, e2, e3⟩ := yfl_sn (x1 := x1) F 0 M (by omega) (by omega) (fun v hv => by omega)
  refine ⟨M1, ?_, e2, e3⟩
  rw [e1]
  have hst : stI M1 27 17 (0 : Int32) x1 = some (mset M1 27 0 x1) := stI_n (i := 0) M1 27 x1 (by omega)
  rw [hst]
  simp only [Option.bind_some]
  have hst2 : stI (mset M1 27 0 x1) 28 17 (0 : Int32) (0 : Int32) = some (mset (mset M1 27 0 x1) 28 0 (nI 0)) := stI_n (i := 0) _ 28 0 (by omega)
  rw [hst2]
  simp only [Option.bind_some]
theorem yfulls {n : Nat} {My : Mem} (hw : WF n My) {t d : Nat} (ht : t < n) (hd : d < 16) (h26 : My 0 26 = nI d) (h25 : My 25 d = 0) : ∃ M', f_X7_listFulls (nI t) My = some (0, M') ∧ fo M' d (ddp (ff (faY My) (owY My) t)) ∧ smF d My M' := by
  unfold f_X7_listFulls f_X7_listFulls_0
  obtain ⟨M1, e1, e2, e3⟩ := yfl_pre (x1 := nI t) (M := My) (F := FU) (by have := FU_ge; omega)
  rw [show (0 : Int32) = nI 0 from rfl, e1]
  obtain ⟨F, hF⟩ : ∃ F, FU = F + 2 := ⟨FU - 2, by have := FU_ge; omega⟩
  rw [hF]
  exact yfl_main hw ht hd (by have := FU_ge; omega) h26 h25 e2 e3
