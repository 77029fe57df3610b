/-! Looking for a FIELD, at both sides -/
def enc : Option Nat → Int32
  | none => -1
  | some v => nI v
def hasF (My : Mem) (f : Nat) (v : Nat) : Bool := decide (My 6 (5 * v + f) ≠ 0)
/-- the HOME of FIELD f of TYPE t -/
def home (My : Mem) (t f : Nat) : Option Nat := (lk (chY My) t).find? (hasF My f)
theorem faY_len {n : Nat} {My : Mem} (h : WF n My) {t : Nat} (ht : t < n) : ∃ c, c ≤ 3 ∧ My 4 t = nI c ∧ (faY My t).length = c ∧ ∀ j, j < c → ∃ f, f < t ∧ My 5 (3 * t + j) = nI f ∧ (faY My t)[j]? = some f := by
  obtain ⟨c, c1, c2, c3⟩ := h.2.2.2.2.2.1 t ht
  have hn := h.1
  have e : (My 4 t).toNatClampNeg = c := by rw [c2]; exact nI_clamp (by omega)
  refine ⟨c, c1, c2, by simp [faY, e], fun j hj => ?_⟩
  obtain ⟨f, f1, f2⟩ := c3 j hj
  refine ⟨f, f1, f2, ?_⟩
  unfold faY
  rw [e, List.getElem?_map, List.getElem?_range hj]
  simp only [Option.map_some]
  rw [f2, nI_clamp (by omega)]
theorem faY_lt {n : Nat} {My : Mem} (h : WF n My) : down n (faY My) := by
  intro t ht c hc
  obtain ⟨k, k1, k2, k3, k4⟩ := faY_len h ht
  obtain ⟨j, hj⟩ := List.getElem?_of_mem hc
  have hjl : j < k := by
    rw [← k3]
    exact (List.getElem?_eq_some_iff.mp hj).1
  obtain ⟨f, f1, f2, f3⟩ := k4 j hjl
  rw [f3] at hj
  cases hj
  exact f1
theorem paY_lt {n : Nat} {My : Mem} (h : WF n My) : down n (paY My) := by
  intro t ht c hc
  unfold paY at hc
  split at hc
  · simp at hc
  · next hne =>
    rcases h.2.2.2.1 t ht with e | ⟨q, q1, q2, -⟩
    · exact absurd e hne
    · simp at hc
      have hn := h.1
      rw [q2, nI_clamp (by omega)] at hc
      omega
theorem chY_lt {n : Nat} {My : Mem} (h : WF n My) : down n (chY My) := by
  intro t ht c hc
  rcases List.mem_append.mp hc with hc | hc
  · exact faY_lt h t ht c hc
  · exact paY_lt h t ht c hc
theorem chY_4 {n : Nat} {My : Mem} (h : WF n My) (t : Nat) (ht : t < n) : (chY My t).length ≤ 4 := by
  obtain ⟨k, k1, k2, k3, k4⟩ := faY_len h ht
  unfold chY
  rw [List.length_append, k3]
  have : (paY My t).length ≤ 1 := by
    unfold paY
    split <;> simp
  omega
theorem faY_3 {n : Nat} {My : Mem} (h : WF n My) (t : Nat) (ht : t < n) : (faY My t).length ≤ 3 := by
  obtain ⟨k, k1, k2, k3, k4⟩ := faY_len h ht
  omega
theorem home_lt {n : Nat} {My : Mem} (h : WF n My) {t f v : Nat} (ht : t < n) (hv : home My t f = some v) : v < n ∧ My 6 (5 * v + f) ≠ 0 := by
  have h1 := List.mem_of_find?_eq_some hv
  have h2 := lk_lt (chY_lt h) t ht v h1
  have h3 := List.find?_some hv
  exact ⟨by omega, by simpa [hasF] using h3⟩
theorem nI_pred1 {c : Nat} (h : 0 < c) : nI c + (-1) = nI (c - 1) := by
  obtain ⟨k, rfl⟩ : ∃ k, c = k + 1 := ⟨c - 1, by omega⟩
  rw [pk_m1]
  rfl
theorem nI_pred2 {c : Nat} (h : 0 < c) : nI c - 1 = nI (c - 1) := by
  obtain ⟨k, rfl⟩ : ∃ k, c = k + 1 := ⟨c - 1, by omega⟩
  rw [nI_pred]
  rfl
/-- the class's way: along the row of TYPES looked in -/
theorem xhome_loop {n s : Nat} {Mx My : Mem} (h : RW n s Mx My) {f k : Nat} (hf : f < 5) {L : List Nat} (hL : RowIs Mx k L) (hlt : ∀ x ∈ L, x < n) : ∀ (m j : Nat), j ≤ L.length → L.length - j < m → f_X6_homeOf_13 m (nI f) k (nI j) Mx = some (enc ((L.drop j).find? (hasF My f)), Mx) := by
  intro m
  have hn := h.n16
  obtain ⟨r1, r2, r3, r4, r5, r6⟩ := hL
  induction m with
  | zero => intro j _ h; omega
  | succ m ih =>
    intro j hj hm
    show f_X6_homeOf_13b (f_X6_homeOf_13 m) (nI f) k (nI j) Mx = _
    unfold f_X6_homeOf_13b
    rw [r1]
    by_cases hlj : L.length ≤ j
    · rw [if_pos (nI_le hlj (by omega)), List.drop_eq_nil_of_le hlj]
      rfl
    · rw [if_neg (nI_ge (by omega) (by omega))]
      have hx : L[j]? = some (L[j]'(by omega)) := List.getElem?_eq_getElem (by omega)
      generalize hxe : L[j]'(by omega) = x at hx
      have hxm : x ∈ L := List.mem_of_getElem? hx
      have hxn := hlt x hxm
      rw [ldI_n Mx _ (show j < 16 by omega), r3 j x hx]
      simp only [Option.bind_some]
      rw [ixQ_n (show x < 16 by omega)]
      simp only [Option.bind_some]
      rw [ldI_n Mx _ hf]
      simp only [Option.bind_some]
      have hp := fs_ps (n := n) hxn hf
      rw [h.1.at _ _ hp.1 hp.2]
      have hdrop : L.drop j = x :: L.drop (j + 1) := by
        rw [List.drop_eq_getElem_cons (by omega), hxe]
      rw [hdrop, List.find?_cons]
      by_cases h0 : My 6 (5 * x + f) = 0
      · rw [if_pos h0]
        have : hasF My f x = false := by simp [hasF, h0]
        rw [this]
        have := ih (j + 1) (by omega) (by omega)
        rw [← nI_1 j] at this
        exact this
      · rw [if_neg h0]
        have : hasF My f x = true := by simp [hasF, h0]
        rw [this]
        rfl
theorem xhome {n s : Nat} {Mx My : Mem} (h : RW n s Mx My) {t f : Nat} (ht : t < n) (hf : f < 5) : f_X6_homeOf (nI t) (nI f) Mx = some (enc (home My t f), Mx) := by
  have hn := h.n16
  unfold f_X6_homeOf f_X6_homeOf_0
  rw [ixQ_n (show t < 16 by omega)]
  simp only [Option.bind_some]
  obtain ⟨hr, -, -⟩ := h.2.1.2.2 t ht
  have hlen := hr.2.1
  have := xhome_loop h hf hr (fun x hx => by
    have := lk_lt (chY_lt h.2.1.1) t ht x (ddp_mem.mp hx)
    omega) FU 0 (Nat.zero_le _) (by have := FU_ge; omega)
  rw [List.drop_zero, find_ddp] at this
  exact this
/-- the reference's way -/
def sn (M : Mem) (seen : List Nat) : Prop := ∀ v, v < 16 → M 26 v = if v ∈ seen then 1 else 0
def wn (M : Mem) (W : List Nat) : Prop := ∀ i x, W[i]? = some x → M 29 i = nI x
def sm29 (A B : Mem) : Prop := ∀ a b, a ≠ 26 → a ≠ 29 → B a b = A a b
theorem wn_push {M : Mem} {W : List Nat} {x : Nat} (h : wn M W) : wn (mset M 29 W.length (nI x)) (W ++ [x]) := by
  intro i y hy
  by_cases hi : i < W.length
  · rw [List.getElem?_append_left hi] at hy
    rw [mset_get_ne _ _ (Or.inr (by omega))]
    exact h i y hy
  · rw [List.getElem?_append_right (by omega)] at hy
    have : i - W.length < 1 := (List.getElem?_eq_some_iff.mp hy).1
    have hi2 : i = W.length := by omega
    subst hi2
    simp at hy
    subst hy
    exact mset_get _ _ _ _
theorem yhome_faces {n : Nat} {My : Mem} (hw : WF n My) {v f : Nat} (hv : v < n) (k30 : Int32 → Int32 → Mem → Option (Int32 × Mem)) : ∀ (m j : Nat) (W : List Nat) (M : Mem), j ≤ (faY My v).length → j < m → wn M W → W.length + j ≤ 80 → sm29 My M → ∃ M', f_X7_homeOf_118 k30 m (nI f) (nI W.length) (nI v) (nI j - 1) M = k30 (nI f) (nI (W.length + j)) M' ∧ wn M' (W ++ ((faY My v).take j).reverse) ∧ (∀ a b, a ≠ 29 → M' a b = M a b) := by
  intro m
  have hn := hw.1
  obtain ⟨c, c1, c2, c3, c4⟩ := faY_len hw hv
  induction m with
  | zero => intro j W M _ h; omega
  | succ m ih =>
    intro j W M hj hm hW hl hs
    show ∃ M', f_X7_homeOf_118b k30 (f_X7_homeOf_118 k30 m) (nI f) (nI W.length) (nI v) (nI j - 1) M = _ ∧ _
    unfold f_X7_homeOf_118b
    cases j with
    | zero =>
      rw [if_pos (show nI 0 - 1 < 0 by decide)]
      unfold f_X7_homeOf_150
      exact ⟨M, rfl, by simpa using hW, fun _ _ _ => rfl⟩
    | succ j =>
      obtain ⟨x, x1, x2, x3'⟩ := c4 j (by omega)
      rw [nI_pred, if_neg (nI_pos (by omega)), x3, ldI_n M 5 (show 3 * v + j < 48 by omega)]
      simp only [Option.bind_some]
      rw [hs 5 _ (by omega) (by omega), x2, stI_n M 29 (nI x) (show W.length < 80 by omega)]
      simp only [Option.bind_some]
      obtain ⟨M', e1, e2, e3⟩ := ih j (W ++ [x]) (mset M 29 W.length (nI x)) (by omega) (by omega) (wn_push hW) (by simp; omega) (fun a b ha hb => by rw [mset_get_ne _ _ (Or.inl hb)]; exact hs a b ha hb)
      refine ⟨M', ?_, ?_, fun a b ha => by rw [e3 a b ha, mset_get_ne _ _ (Or.inl ha)]⟩
      · rw [List.length_append] at e1
        have : nI W.length + 1 = nI (W.length + [x].length) := nI_1 _
        rw [this]
        have h2 : nI j + (-1) = nI j - 1 := by
          rw [Int32.sub_eq_add_neg]
        rw [h2, e1]
        congr 2
        simp
        omega
      · have : (faY My v).take (j + 1) = (faY My v).take j ++ [x] := by
          rw [List.take_add_one, x3']
          rfl
        rw [this, List.reverse_append]
        simpa using e2
theorem snoc_cases (W : List Nat) : W = [] ∨ ∃ W' v, W = W' ++ [v] := by
  rcases List.eq_nil_or_concat W with h | ⟨a, b, h⟩
  · exact Or.inl h
  · exact Or.inr ⟨a, b, by rw [h, List.concat_eq_append]⟩
theorem yhome_loop {n : Nat} {My : Mem} (hw : WF n My) {f : Nat} (hf : f < 5) : ∀ (m : Nat) (seen W : List Nat) (M : Mem) (r : Option Nat), hR (hasF My f) (chY My) m seen W.reverse = some r → sn M seen → wn M W → (∀ v ∈ W, v < n) → seen.Nodup → (∀ w ∈ seen, w < n) → W.length ≤ 1 + 3 * seen.length → sm29 My M → ∃ M', f_X7_homeOf_30 m (nI f) (nI W.length) M = some (enc r, M') ∧ sm29 My M' := by
  intro m
  have hn := hw.1
  induction m with
  | zero => intro seen W M r hr; cases hr
  | succ m ih =>
    intro seen W M r hr hs hW hWn hN hsn hlen hM
    have hsl := nodup_len n seen hN hsn
    show ∃ M', f_X7_homeOf_30b (f_X7_homeOf_30 m) (nI f) (nI W.length) M = _ ∧ _
    unfold f_X7_homeOf_30b
    rcases snoc_cases W with rfl | ⟨W', v, rfl⟩
    · unfold hR at hr
      simp at hr
      subst hr
      rw [if_pos (show nI ([] : List Nat).length ≤ 0 by decide)]
      exact ⟨M, rfl, hM⟩
    · have hv : v < n := hWn v (by simp)
      rw [List.length_append] at hlen ⊢
      simp only [List.length_singleton] at hlen ⊢
      rw [if_neg (nI_nle (by omega) (by omega)), nI_pred1 (by omega)]
      simp only [Nat.add_sub_cancel]
      rw [ldI_n M 29 (show W'.length < 80 by omega), hW W'.length v (by simp)]
      simp only [Option.bind_some]
      rw [ldI_n M 26 (show v < 16 by omega), hs v (by omega)]
      simp only [Option.bind_some]
      have hW' : wn M W' := fun i x hx => hW i x (by
        rw [List.getElem?_append_left (List.getElem?_eq_some_iff.mp hx).1]
        exact hx)
      rw [List.reverse_append] at hr
      simp only [List.reverse_cons, List.reverse_nil, List.nil_append, List.cons_append] at hr
      unfold hR at hr
      by_cases hvs : v ∈ seen
      · rw [if_pos hvs] at hr
        rw [if_pos hvs, if_neg (by decide)]
        unfold f_X7_homeOf_150
        exact ih seen W' M r hr hs hW' (fun x hx => hWn x (List.mem_append_left _ hx)) hN hsn (by omega) hM
      · rw [if_neg hvs] at hr
        rw [if_neg hvs, if_pos rfl, stZ_n M 26 1 (show v < 16 by omega) rfl]
        simp only [Option.bind_some]
        rw [x5, ldI_n _ 6 (show 5 * v + f < 80 by omega), mset_get_ne _ _ (by omega), hM 6 _ (by omega) (by omega)]
        simp only [Option.bind_some]
        have hM1 : sm29 My (mset M 26 v 1) := fun a b ha hb => by rw [mset_get_ne _ _ (Or.inl ha)]; exact hM a b ha hb
        by_cases hp : hasF My f v = true
        · rw [if_pos hp] at hr
          cases hr
          have h0 : ¬ My 6 (5 * v + f) ≤ 0 := by
            have h0 : My 6 (5 * v + f) ≠ 0 := by simpa [hasF] using hp
            rcases hw.2.2.2.2.2.2.1 (5 * v + f) (by omega) with e | e | e
            · exact absurd e h0
            · rw [e]; decide
            · rw [e]; decide
          rw [if_neg h0]
          exact ⟨_, rfl, hM1⟩
        · rw [if_neg hp] at hr
          have h0 : My 6 (5 * v + f) = 0 := by simpa [hasF] using hp
          rw [h0, if_pos (show (0 : Int32) ≤ 0 by decide)]
          have hs1 : sn (mset M 26 v 1) (v :: seen) := fun x hx => by
            by_cases e : x = v
            · subst e
              rw [mset_get, if_pos List.mem_cons_self]
            · rw [mset_get_ne _ _ (Or.inr e), hs x hx]
              simp [e]
          have hN1 : (v :: seen).Nodup := List.nodup_cons.mpr ⟨hvs, hN⟩
          have hsn1 : ∀ w ∈ v :: seen, w < n := fun w hw => (List.mem_cons.mp hw).elim (fun e => e ▸ hv) (hsn w)
          have hsl1 := nodup_len n _ hN1 hsn1
          simp only [List.length_cons] at hsl1
          have hch := chY_4 hw v hv
          obtain ⟨c, c1, c2, c3, c4⟩ := faY_len hw hv
          -- the rest, behind the parent
          have fin : ∀ (W2 : List Nat) (M2 : Mem), wn M2 W2 → W2.length ≤ W'.length + 1 → (∀ x ∈ W2, x < n) → sn M2 (v :: seen) → sm29 My M2 → (W2 ++ (faY My v).reverse).reverse = chY My v ++ W'.reverse → ∃ M', f_X7_homeOf_107 (f_X7_homeOf_30 m) (nI f) (nI W2.length) (nI v) M2 = some (enc r, M') ∧ sm29 My M' := by
            intro W2 M2 g1 g2 g3 g4 g5 g6
            unfold f_X7_homeOf_107
            rw [ldI_n M2 4 (show v < 16 by omega), g5 4 v (by omega) (by omega), c2]
            simp only [Option.bind_some]
            obtain ⟨M3, q1, q2, q3⟩ := yhome_faces hw (f := f) hv (f_X7_homeOf_30 m) FU c W2 M2 (by omega) (by have := FU_ge; omega) g1 (by omega) g5
            rw [q1]
            have htk : (faY My v).take c = faY My v := by rw [← c3]; exact List.take_length
            rw [htk] at q2
            have hlen2 : (W2 ++ (faY My v).reverse).length = W2.length + c := by simp [c3]
            rw [← hlen2]
            refine ih (v :: seen) (W2 ++ (faY My v).reverse) M3 r (by rw [g6]; exact hr) (fun x hx => by rw [q3 26 x (by omega)]; exact g4 x hx) q2 (fun x hx => ?_) hN1 hsn1 (by rw [hlen2]; simp only [List.length_cons]; omega) (fun a b ha hb => by rw [q3 a b hb]; exact g5 a b ha hb)
            rcases List.mem_append.mp hx with h | h
            · exact g3 x h
            · have := faY_lt hw v hv x (List.mem_reverse.mp h)
              omega
          rw [ldI_n _ 2 (show v < 16 by omega), hM1 2 v (by omega) (by omega)]
          simp only [Option.bind_some]
          by_cases hpa : My 2 v = -1
          · rw [if_pos hpa]
            refine fin W' _ (fun i x hx => by rw [mset_get_ne _ _ (by omega)]; exact hW' i x hx) (by omega) (fun x hx => hWn x (List.mem_append_left _ hx)) hs1 hM1 ?_
            unfold chY paY
            rw [if_pos hpa]
            simp
          · rw [if_neg hpa]
            rcases hw.2.2.2.1 v hv with e | ⟨q, q1, q2, -⟩
            · exact absurd e hpa
            · rw [q2, stI_n _ 29 (nI q) (show W'.length < 80 by omega), nI_1]
              simp only [Option.bind_some]
              have hl1 : W'.length + 1 = (W' ++ [q]).length := by simp
              rw [hl1]
              have hWm : wn (mset M 26 v 1) W' := fun i x hx => by rw [mset_get_ne _ _ (by omega)]; exact hW' i x hx
              refine fin (W' ++ [q]) _ (wn_push hWm) (by simp) (fun x hx => ?_) (fun x hx => by rw [mset_get_ne _ _ (by omega)]; exact hs1 x hx) (fun a b ha hb => by rw [mset_get_ne _ _ (Or.inl hb)]; exact hM1 a b ha hb) ?_
              · rcases List.mem_append.mp hx with h | h
                · exact hWn x (List.mem_append_left _ h)
                · simp at h
                  omega
              · unfold chY paY
                rw [if_neg hpa, q2, nI_clamp (by omega)]
                simp
theorem ysn_loop {x1 x2 : Int32} : ∀ (m j : Nat) (M : Mem), j ≤ 16 → 16 - j < m → (∀ v, v < j → M 26 v = 0) → ∃ M', f_X7_homeOf_2 m x1 x2 (nI j) M = ((stI M' 29 80 (0 : Int32) x1).bind fun M2 => f_X7_homeOf_30 FU x2 (1 : Int32) M2) ∧ (∀ v, v < 16 → M' 26 v = 0) ∧ ∀ a b, a ≠ 26 → M' a b = M a b := by
  intro m
  induction m with
  | zero => intro j M _ h; omega
  | succ m ih =>
    intro j M hj hm h0
    show ∃ M', f_X7_homeOf_2b (f_X7_homeOf_2 m) x1 x2 (nI j) M = _ ∧ _
    unfold f_X7_homeOf_2b
    by_cases hj16 : 16 ≤ j
    · rw [if_pos (show (16 : Int32) ≤ nI j from nI_le (a := 16) hj16 (by omega))]
      exact ⟨M, rfl, fun v hv => h0 v (by omega), fun _ _ _ => rfl⟩
    · rw [if_neg (show ¬ (16 : Int32) ≤ nI j from nI_ge (a := j) (b := 16) (by omega) (by omega)), stZ_n M 26 0 (show j < 16 by omega) rfl]
      simp only [Option.bind_some]
      obtain ⟨M', e1, e2, e3⟩ := ih (j + 1) (mset M 26 j 0) (by omega) (by omega) (fun v hv => by
        by_cases e : v = j
        · subst e; exact mset_get _ _ _ _
        · rw [mset_get_ne _ _ (Or.inr e)]; exact h0 v (by omega))
      refine ⟨M', ?_, e2, fun a b ha => by rw [e3 a b ha, mset_get_ne _ _ (Or.inl ha)]⟩
      rw [← nI_1 j] at e1
      exact e1
theorem yhome {n : Nat} {My : Mem} (hw : WF n My) {t f : Nat} (ht : t < n) (hf : f < 5) : ∃ M', f_X7_homeOf (nI t) (nI f) My = some (enc (home My t f), M') ∧ sm29 My M' := by
  have hn := hw.1
  unfold f_X7_homeOf f_X7_homeOf_0
  obtain ⟨M1, e1, e2, e3⟩ := ysn_loop (x1 := nI t) (x2 := nI f) FU 0 My (by omega) (by have := FU_ge; omega) (fun v hv => by omega)
  have e1' : f_X7_homeOf_2 FU (nI t) (nI f) (0 : Int32) My = _ := e1
  rw [e1']
  have hst : stI M1 29 80 (0 : Int32) (nI t) = some (mset M1 29 0 (nI t)) := stI_n (i := 0) M1 29 (nI t) (by omega)
  rw [hst]
  simp only [Option.bind_some]
  have hR1 := hR_ok (P := hasF My f) (chY_lt hw) (chY_4 hw) FU [] [t] (fun w hw => by simp at hw) List.nodup_nil (fun w hw => by simp at hw) (fun v hv => by simp at hv; omega) (by simp) (by have := FU_ge; simp; omega)
  have := yhome_loop hw hf FU [] [t] (mset M1 29 0 (nI t)) (home My t f) (by
    rw [List.reverse_singleton, hR1]
    simp [home]) (fun v hv => by rw [mset_get_ne _ _ (by omega), e2 v hv]; simp) (fun i x hx => by
      cases i with
      | zero => simp at hx; subst hx; exact mset_get _ _ _ _
      | succ i => simp at hx) (fun v hv => by simp at hv; omega) List.nodup_nil (fun w hw => by simp at hw) (by simp) (fun a b ha hb => by rw [mset_get_ne _ _ (Or.inl hb), e3 a b ha])
  exact this
