/-! What stands still while a USE runs, and the small acts -/
def faY (My : Mem) (t : Nat) : List Nat := (List.range (My 4 t).toNatClampNeg).map (fun j => (My 5 (3 * t + j)).toNatClampNeg)
def paY (My : Mem) (t : Nat) : List Nat := if My 2 t = -1 then [] else [(My 2 t).toNatClampNeg]
def chY (My : Mem) (t : Nat) : List Nat := faY My t ++ paY My t
def owY (My : Mem) (t : Nat) : List Nat := if My 1 t = 2 then [t] else []
def lok (act a b c : Int32) : Prop :=
  (act = 0 ∧ ∃ f, f < 5 ∧ a = nI f) ∨ (act = 1 ∧ (∃ f, f < 5 ∧ a = nI f) ∧ (∃ t, t < 16 ∧ b = nI t) ∧ ∃ g, g < 5 ∧ c = nI g) ∨ (act = 2 ∧ ∃ t, t < 16 ∧ a = nI t) ∨ act = 3 ∨ act = 4 ∨ act = 5 ∨ (act = 6 ∧ (∃ f, f < 5 ∧ a = nI f) ∧ ∃ t, t < 16 ∧ b = nI t)
def RowIs (M : Mem) (k : Nat) (L : List Nat) : Prop :=
  M k 1 = nI L.length ∧ L.length ≤ 16 ∧ (∀ j x, L[j]? = some x → M (k + 1) j = nI x) ∧ L.Nodup ∧ (∀ x ∈ L, x < 16) ∧ ∀ x, x < 16 → (((M k 2) >>> (nI x &&& 31)) &&& (1 : Int32) = 0 ↔ x ∉ L)
def wfK (n : Nat) (My : Mem) : Prop := ∀ t, t < n → My 1 t = 0 ∨ My 1 t = 1 ∨ My 1 t = 2
def wfP (n : Nat) (My : Mem) : Prop := ∀ t, t < n → My 2 t = -1 ∨ ∃ q, q < t ∧ My 2 t = nI q ∧ My 1 t = 0
def wfS (n : Nat) (My : Mem) : Prop := ∀ t, t < n → My 3 t = 0 ∨ My 3 t = 1
def wfF (n : Nat) (My : Mem) : Prop := ∀ t, t < n → ∃ c, c ≤ 3 ∧ My 4 t = nI c ∧ ∀ j, j < c → ∃ f, f < t ∧ My 5 (3 * t + j) = nI f
def wfE (n : Nat) (My : Mem) : Prop := ∀ q, q < 5 * n → My 6 q = 0 ∨ My 6 q = 1 ∨ My 6 q = 2
def wfL (n : Nat) (My : Mem) : Prop := ∀ t, t < n → ∃ c, c ≤ 8 ∧ My 8 t = nI c ∧ ∀ i, i < c → lok (My 9 (32 * t + 4 * i)) (My 9 (32 * t + 4 * i + 1)) (My 9 (32 * t + 4 * i + 2)) (My 9 (32 * t + 4 * i + 3))
def WF (n : Nat) (My : Mem) : Prop := n ≤ 16 ∧ My 0 1 = nI n ∧ wfK n My ∧ wfP n My ∧ wfS n My ∧ wfF n My ∧ wfE n My ∧ wfL n My
def xCo (n : Nat) (Mx My : Mem) : Prop := ∀ t f, t < n → f < 5 → My 6 (5 * t + f) = 1 → Mx (33 + 13 * t + 8) f = My 7 (5 * t + f)
def xRo (n : Nat) (Mx My : Mem) : Prop := ∀ t, t < n → RowIs Mx (33 + 13 * t + 3) (ddp (lk (chY My) t)) ∧ RowIs Mx (33 + 13 * t + 5) (ddp (ff (faY My) (owY My) t)) ∧ RowIs Mx (33 + 13 * t + 1) (faY My t)
def St (n : Nat) (Mx My : Mem) : Prop := WF n My ∧ xCo n Mx My ∧ xRo n Mx My
/-- what a part of a run above depth d leaves -/
def FrM (d : Nat) (My My' : Mem) : Prop := ∀ a b, ¬ DY a b → ¬ (a = 0 ∧ (b = 26 ∨ b = 34 ∨ b = 35)) → ¬ (26 ≤ a ∧ a ≤ 29) → ¬ ((a = 19 ∨ a = 20 ∨ a = 21 ∨ a = 22 ∨ a = 23 ∨ a = 25) ∧ d ≤ b) → ¬ (a = 24 ∧ 16 * d ≤ b) → My' a b = My a b
theorem FrM.rf {d : Nat} {M : Mem} : FrM d M M := fun _ _ _ _ _ _ _ => rfl
theorem FrM.tr {d : Nat} {A B C : Mem} (h : FrM d A B) (h' : FrM d B C) : FrM d A C := fun a b d1 d2 d3 d4 d5 => (h' a b d1 d2 d3 d4 d5).trans (h a b d1 d2 d3 d4 d5)
theorem FrM.of {d : Nat} {A B : Mem} (h : FrY A B) : FrM d A B := fun a b d1 _ _ _ _ => h a b d1
theorem FrM.dn {d e : Nat} {A B : Mem} (h : FrM e A B) (hd : d ≤ e) : FrM d A B := fun a b d1 d2 d3 d4 d5 => h a b d1 d2 d3 (by omega) (by omega)
theorem FrM.set {d : Nat} (M : Mem) {a b : Nat} (v : Int32) (h : (a = 0 ∧ (b = 26 ∨ b = 34 ∨ b = 35)) ∨ (26 ≤ a ∧ a ≤ 29) ∨ ((a = 19 ∨ a = 20 ∨ a = 21 ∨ a = 22 ∨ a = 23 ∨ a = 25) ∧ d ≤ b) ∨ (a = 24 ∧ 16 * d ≤ b)) : FrM d M (mset M a b v) := fun x y d1 d2 d3 d4 d5 => mset_get_ne M v (by
  by_cases h1 : x = a
  · refine Or.inr fun h2 => ?_
    subst h1 h2
    rcases h with h | h | h | h
    · exact d2 h
    · exact d3 h
    · exact d4 h
    · exact d5 h
  · exact Or.inl h1)
theorem FrM.st {d : Nat} {A B : Mem} (h : FrM d A B) {a b : Nat} (ha : (1 ≤ a ∧ a ≤ 9) ∨ (a = 0 ∧ (b = 0 ∨ b = 1 ∨ b = 15 ∨ b = 16 ∨ b = 39)) ∨ (16 ≤ a ∧ a ≤ 18)) : B a b = A a b := h a b (by unfold DY; omega) (by omega) (by omega) (by omega) (by omega)
theorem FrX.ty {A B : Mem} (h : FrX A B) {k : Nat} (hk : 33 ≤ k) (j : Nat) : B k j = A k j := h k j (by unfold DX; omega)
theorem faY_fr {d : Nat} {A B : Mem} (h : FrM d A B) : faY B = faY A := by
  funext t
  unfold faY
  rw [h.st (a := 4) (b := t) (by omega)]
  apply List.map_congr_left
  intro j _
  rw [h.st (a := 5) (by omega)]
theorem paY_fr {d : Nat} {A B : Mem} (h : FrM d A B) : paY B = paY A := by
  funext t
  unfold paY
  rw [h.st (a := 2) (b := t) (by omega)]
theorem chY_fr {d : Nat} {A B : Mem} (h : FrM d A B) : chY B = chY A := by
  funext t
  unfold chY
  rw [faY_fr h, paY_fr h]
theorem owY_fr {d : Nat} {A B : Mem} (h : FrM d A B) : owY B = owY A := by
  funext t
  unfold owY
  rw [h.st (a := 1) (b := t) (by omega)]
theorem WF.fr {n d : Nat} {A B : Mem} (h : WF n A) (hf : FrM d A B) : WF n B := by
  obtain ⟨h1, h2, h3, h4, h5, h6, h7, h8⟩ := h
  have e : ∀ a b, 1 ≤ a → a ≤ 9 → B a b = A a b := fun a b x y => hf.st (by omega)
  refine ⟨h1, ?_, ?_, ?_, ?_, ?_, ?_, ?_⟩
  · rw [hf.st (by omega)]; exact h2
  · intro t ht
    rw [e 1 t (by omega) (by omega)]; exact h3 t ht
  · intro t ht
    rw [e 2 t (by omega) (by omega), e 1 t (by omega) (by omega)]; exact h4 t ht
  · intro t ht
    rw [e 3 t (by omega) (by omega)]; exact h5 t ht
  · intro t ht
    obtain ⟨c, c1, c2, c3⟩ := h6 t ht
    refine ⟨c, c1, by rw [e 4 t (by omega) (by omega)]; exact c2, fun j hj => ?_⟩
    rw [e 5 _ (by omega) (by omega)]; exact c3 j hj
  · intro q hq
    rw [e 6 q (by omega) (by omega)]; exact h7 q hq
  · intro t ht
    obtain ⟨c, c1, c2, c3⟩ := h8 t ht
    refine ⟨c, c1, by rw [e 8 t (by omega) (by omega)]; exact c2, fun i hi => ?_⟩
    rw [e 9 _ (by omega) (by omega), e 9 _ (by omega) (by omega), e 9 _ (by omega) (by omega), e 9 _ (by omega) (by omega)]; exact c3 i hi
theorem RowIs.fr {A B : Mem} {k : Nat} {L : List Nat} (h : RowIs A k L) (e : ∀ j, B k j = A k j) (e' : ∀ j, B (k + 1) j = A (k + 1) j) : RowIs B k L := by
  obtain ⟨h1, h2, h3, h4, h5, h6⟩ := h
  refine ⟨by rw [e]; exact h1, h2, fun j x hj => by rw [e']; exact h3 j x hj, h4, h5, fun x hx => by rw [e]; exact h6 x hx⟩
theorem St.fr {n d : Nat} {Mx My Mx' My' : Mem} (h : St n Mx My) (hx : FrX Mx Mx') (hy : FrM d My My') : St n Mx' My' := by
  obtain ⟨h1, h2, h3⟩ := h
  refine ⟨h1.fr hy, ?_, ?_⟩
  · intro t f ht hf he
    rw [hy.st (a := 6) (by omega)] at he
    rw [hx.ty (by omega), hy.st (a := 7) (by omega)]
    exact h2 t f ht hf he
  · intro t ht
    obtain ⟨a, b, c⟩ := h3 t ht
    rw [chY_fr hy, faY_fr hy, owY_fr hy]
    exact ⟨a.fr (fun j => hx.ty (by omega) j) (fun j => hx.ty (by omega) j), b.fr (fun j => hx.ty (by omega) j) (fun j => hx.ty (by omega) j), c.fr (fun j => hx.ty (by omega) j) (fun j => hx.ty (by omega) j)⟩
/-- a run in SESSION s -/
def RW (n s : Nat) (Mx My : Mem) : Prop := Sim n Mx My ∧ St n Mx My ∧ s < 4 ∧ Mx 0 8 = nI s ∧ (∃ c, c ≤ 150 ∧ My 0 17 = nI c) ∧ (∃ c, c ≤ 100 ∧ My 0 19 = nI c) ∧ (∀ b, b < 16 → ∃ q, q < 509 ∧ My 22 b = nI q) ∧ ∀ t, t < n → ∃ v, v < 4 ∧ My 10 (pl My s t) = nI v
/-- how many TYPES are ASLEEP -/
def slp (n s : Nat) (My : Mem) : Nat := ((List.range n).filter (fun t => decide (My 10 (pl My s t) = 0))).length
/-- what is not of a TYPE in the SESSION stays -/
def Zk (n s : Nat) (My My' : Mem) : Prop := (∀ b, (∀ t, t < n → b ≠ pl My s t) → My' 10 b = My 10 b ∧ ∀ f, f < 5 → My' 11 (5 * b + f) = My 11 (5 * b + f)) ∧ ∀ b, (∀ t, t < n → b ≠ 16 * s + t) → My' 12 b = My 12 b
theorem Zk.rf {n s : Nat} {My : Mem} : Zk n s My My := ⟨fun _ _ => ⟨rfl, fun _ _ => rfl⟩, fun _ _ => rfl⟩
theorem Zk.of {n s : Nat} {My My' : Mem} (h10 : ∀ b, My' 10 b = My 10 b) (h11 : ∀ b, My' 11 b = My 11 b) (h12 : ∀ b, My' 12 b = My 12 b) : Zk n s My My' := ⟨fun b _ => ⟨h10 b, fun f _ => h11 _⟩, fun b _ => h12 b⟩
theorem Zk.tr {n s : Nat} {A B C : Mem} (hp : ∀ t, pl B s t = pl A s t) (h : Zk n s A B) (h' : Zk n s B C) : Zk n s A C := by
  refine ⟨fun b hb => ?_, fun b hb => (h'.2 b hb).trans (h.2 b hb)⟩
  have h1 := h.1 b hb
  have h2 := h'.1 b (fun t ht => by rw [hp]; exact hb t ht)
  exact ⟨h2.1.trans h1.1, fun f hf => (h2.2 f hf).trans (h1.2 f hf)⟩
/-- one act of both: what it leaves -/
def Act (n s d : Nat) (Mx My Mx' My' : Mem) : Prop := RW n s Mx' My' ∧ FrX Mx Mx' ∧ FrM d My My' ∧ (∀ t, t < n → My 10 (pl My s t) ≠ 0 → My' 10 (pl My' s t) = 0 → False) ∧ Zk n s My My'
theorem RW.act {n s d : Nat} {Mx My Mx' My' : Mem} (h : RW n s Mx My) (hS : Sim n Mx' My') (hx : FrX Mx Mx') (hy : FrM d My My') (h17 : ∃ c, c ≤ 150 ∧ My' 0 17 = nI c) (h19 : ∃ c, c ≤ 100 ∧ My' 0 19 = nI c) (h22 : ∀ b, b < 16 → ∃ q, q < 509 ∧ My' 22 b = nI q) (h10 : ∀ t, t < n → ∃ v, v < 4 ∧ My' 10 (pl My' s t) = nI v) : RW n s Mx' My' := by
  obtain ⟨a1, a2, a3, a4, -⟩ := h
  exact ⟨hS, a2.fr hx hy, a3, by rw [hx 0 8 (by unfold DX; omega)]; exact a4, h17, h19, h22, h10⟩
theorem RW.quiet {n s d : Nat} {Mx My Mx' My' : Mem} (h : RW n s Mx My) (hS : Sim n Mx' My') (hx : FrX Mx Mx') (hy : FrY My My') (h17 : My' 0 17 = My 0 17) (h19 : ∃ c, c ≤ 100 ∧ My' 0 19 = nI c) (h10 : ∀ b, My' 10 b = My 10 b) (hz : Zk n s My My') : Act n s d Mx My Mx' My' := by
  have hp : ∀ t, pl My' s t = pl My s t := fun t => pl_fr hy s t
  refine ⟨h.act hS hx (FrM.of (d := d) hy) (by rw [h17]; exact h.2.2.2.2.1) h19 (fun b hb => by rw [hy 22 b (by unfold DY; omega)]; exact h.2.2.2.2.2.2.1 b hb) (fun t ht => by rw [hp, h10]; exact h.2.2.2.2.2.2.2 t ht), hx, FrM.of hy, fun t ht h1 h2 => ?_, hz⟩
  rw [hp, h10] at h2
  exact h1 h2
section PR
variable {n s d : Nat} {Mx My : Mem}
theorem RW.n16 (h : RW n s Mx My) : n ≤ 16 := h.2.1.1.1
theorem num_eq (h : RW n s Mx My) {t f : Nat} (ht : t < n) (hf : f < 5) : f_X1_numberOf (pk My s t) (nI t) (nI f) Mx = some (My 11 (5 * pl My s t + f), Mx) := by
  have hn := h.n16
  unfold f_X1_numberOf f_X1_numberOf_0
  rw [x5', ldI_n Mx _ (show 5 * t + f < 80 by omega)]
  simp only [Option.bind_some]
  have hp := nu_ps (My := My) (n := n) h.2.2.1 (show t < 16 by omega) hf
  rw [h.1.at _ _ hp.1 hp.2]
theorem plain_eq {My : Mem} {s t f : Nat} (hs : s < 4) (ht : t < 16) (hf : f < 5) : f_X7_plain (nI s) (nI t) (nI f) My = some (My 11 (5 * pl My s t + f), My) := by
  unfold f_X7_plain f_X7_plain_0
  rw [at_eq ht]
  simp only [Option.bind_some]
  have := pl_lt (My := My) hs ht
  rw [x5, ldI_n My 11 (show 5 * pl My s t + f < 400 by omega)]
  rfl
theorem write_sim (h : RW n s Mx My) {t f : Nat} (ht : t < n) (hf : f < 5) (v : Int32) : ∃ r Mx' My', f_X6_write (nI t) (nI f) v Mx = some (r, Mx') ∧ f_X7_write (nI s) (nI t) (nI f) v My = some (r, My') ∧ Act n s d Mx My Mx' My' ∧ FrY My My' := by
  have hn := h.n16
  have hs := h.2.2.1
  have ht16 : t < 16 := by omega
  have hpl := pl_lt (My := My) hs ht16
  have hp := fs_ps (n := n) ht hf
  have e1 : Mx (33 + 13 * t + 7) f = My 6 (5 * t + f) := h.1.at _ _ hp.1 hp.2
  unfold f_X6_write f_X6_write_0 f_X7_write f_X7_write_0
  rw [ixQ_n ht16, x5, ldI_n My 6 (show 5 * t + f < 80 by omega)]
  simp only [Option.bind_some]
  rw [ldI_n Mx _ hf]
  simp only [Option.bind_some]
  rw [e1]
  by_cases h2 : My 6 (5 * t + f) = 2
  · rw [if_pos h2, if_pos h2, h.2.2.2.1, place_eq h.1 hs ht hn, at_eq ht16]
    simp only [Option.bind_some]
    rw [pk_xP My hs t, x5, stI_n My 11 v (show 5 * pl My s t + f < 400 by omega)]
    simp only [Option.bind_some]
    unfold f_X1_setNumber f_X1_setNumber_0
    rw [x5', stI_n Mx _ v (show 5 * t + f < 80 by omega)]
    simp only [Option.bind_some, stF]
    have hq := nu_ps (My := My) (n := n) hs ht16 hf
    have hS1 := h.1.set hn hq.1 hq.2 v
    have e9 : mset Mx (pk My s t + 2) (5 * t + f) v 0 9 = mset My 11 (5 * pl My s t + f) v 0 25 := hS1.at 0 25 (by simp [dm]) rfl
    rw [e9]
    have hS2 := hS1.set hn (a := 0) (b := 25) (k := 0) (j := 9) (by simp [dm]) rfl (mset My 11 (5 * pl My s t + f) v 0 25 + 1)
    have hY : FrY My (mset (mset My 11 (5 * pl My s t + f) v) 0 25 (mset My 11 (5 * pl My s t + f) v 0 25 + 1)) := FrY.tr (FrY.set My v (by unfold DY; omega)) (FrY.set _ _ (by unfold DY; omega))
    refine ⟨_, _, _, rfl, rfl, h.quiet (d := d) hS2 (FrX.tr (FrX.set Mx v (dx_pk2 hs _)) (FrX.set _ _ (by unfold DX; omega))) hY ?_ ?_ ?_ ?_, hY⟩
    · rw [mset_get_ne _ _ (by omega), mset_get_ne _ _ (by omega)]
    · rw [mset_get_ne _ _ (by omega), mset_get_ne _ _ (by omega)]
      exact h.2.2.2.2.2.1
    · intro b
      rw [mset_get_ne _ _ (by omega), mset_get_ne _ _ (by omega)]
    · refine ⟨fun b hb => ⟨by rw [mset_get_ne _ _ (by omega), mset_get_ne _ _ (by omega)], fun g hg => ?_⟩, fun b _ => by rw [mset_get_ne _ _ (by omega), mset_get_ne _ _ (by omega)]⟩
      have := hb t ht
      rw [mset_get_ne _ _ (by omega), mset_get_ne _ _ (by omega)]
  · rw [if_neg h2, if_neg h2]
    exact ⟨_, _, _, rfl, rfl, h.quiet (d := d) h.1 FrX.rf FrY.rf rfl h.2.2.2.2.2.1 (fun _ => rfl) Zk.rf, FrY.rf⟩
theorem take_sim (h : RW n s Mx My) (x : Int32) : (x ≤ My 13 s → ∃ Mx', f_X6_takeSteps x Mx = some (1, Mx') ∧ Act n s d Mx My Mx' (mset (mset My 13 s (My 13 s - x)) 0 21 (My 0 21 + x))) ∧ (¬ x ≤ My 13 s → f_X6_takeSteps x Mx = some (0, Mx)) := by
  have hn := h.n16
  have hs := h.2.2.1
  have e1 : Mx (13 + 5 * s) 2 = My 13 s := h.1.at 13 s hs rfl
  have e2 : Mx 0 6 = My 0 21 := h.1.at 0 21 (by simp [dm]) rfl
  unfold f_X6_takeSteps f_X6_takeSteps_0
  rw [h.2.2.2.1, ixQ_n hs]
  simp only [Option.bind_some, stF]
  rw [e1]
  refine ⟨fun hx => ?_, fun hx => by rw [if_neg hx]; rfl⟩
  rw [if_pos hx, mset_get_ne _ _ (by omega), e2]
  have hS1 := h.1.set hn (a := 13) (b := s) (k := 13 + 5 * s) (j := 2) hs rfl (My 13 s - x)
  have hS2 := hS1.set hn (a := 0) (b := 21) (k := 0) (j := 6) (by simp [dm]) rfl (My 0 21 + x)
  refine ⟨_, rfl, h.quiet (d := d) hS2 (FrX.tr (FrX.set Mx _ (dx_lf hs)) (FrX.set _ _ (by unfold DX; omega))) (FrY.tr (FrY.set My _ (by unfold DY; omega)) (FrY.set _ _ (by unfold DY; omega))) ?_ ?_ ?_ (Zk.of (fun b => by rw [mset_get_ne _ _ (by omega), mset_get_ne _ _ (by omega)]) (fun b => by rw [mset_get_ne _ _ (by omega), mset_get_ne _ _ (by omega)]) (fun b => by rw [mset_get_ne _ _ (by omega), mset_get_ne _ _ (by omega)]))⟩
  · rw [mset_get_ne _ _ (by omega), mset_get_ne _ _ (by omega)]
  · rw [mset_get_ne _ _ (by omega), mset_get_ne _ _ (by omega)]
    exact h.2.2.2.2.2.1
  · intro b
    rw [mset_get_ne _ _ (by omega), mset_get_ne _ _ (by omega)]
theorem thing_sim (h : RW n s Mx My) {t : Nat} (ht : t < n) : ldI Mx (13 + 5 * s + 4) 16 (nI t) = some (My 12 (16 * s + t)) ∧ ∀ v, ∃ Mx', stI Mx (13 + 5 * s + 4) 16 (nI t) v = some Mx' ∧ Act n s d Mx My Mx' (mset My 12 (16 * s + t) v) := by
  have hn := h.n16
  have hs := h.2.2.1
  have hp := th_ps (n := n) hs (show t < 16 by omega)
  refine ⟨by rw [ldI_n Mx _ (show t < 16 by omega), h.1.at _ _ hp.1 hp.2], fun v => ⟨_, stI_n Mx _ v (show t < 16 by omega), h.quiet (d := d) (h.1.set hn hp.1 hp.2 v) (FrX.set Mx _ (dx_th hs _)) (FrY.set My _ (by unfold DY; omega)) ?_ ?_ ?_ ?_⟩⟩
  · rw [mset_get_ne _ _ (by omega)]
  · rw [mset_get_ne _ _ (by omega)]
    exact h.2.2.2.2.2.1
  · intro b
    rw [mset_get_ne _ _ (by omega)]
  · refine ⟨fun b hb => ⟨by rw [mset_get_ne _ _ (by omega)], fun g hg => by rw [mset_get_ne _ _ (by omega)]⟩, fun b hb => ?_⟩
    have := hb t ht
    rw [mset_get_ne _ _ (by omega)]
theorem Act.tr {Mx1 My1 Mx2 My2 : Mem} (h : Act n s d Mx My Mx1 My1) (h' : Act n s d Mx1 My1 Mx2 My2) : Act n s d Mx My Mx2 My2 :=
  ⟨h'.1, h.2.1.tr h'.2.1, h.2.2.1.tr h'.2.2.1, fun t ht h1 h2 => h'.2.2.2.1 t ht (fun q => h.2.2.2.1 t ht h1 q) h2, Zk.tr (fun t => by unfold pl; rw [h.2.2.1.st (a := 3) (b := t) (by omega)]) h.2.2.2.2 h'.2.2.2.2⟩
theorem Act.dn {e : Nat} {Mx1 My1 : Mem} (h : Act n s e Mx My Mx1 My1) (hd : d ≤ e) : Act n s d Mx My Mx1 My1 := ⟨h.1, h.2.1, h.2.2.1.dn hd, h.2.2.2⟩
theorem Act.rf (h : RW n s Mx My) : Act n s d Mx My Mx My := ⟨h, FrX.rf, FrM.rf, fun _ _ h1 h2 => h1 h2, Zk.rf⟩
theorem msg_sim (h : RW n s Mx My) (x : Int32) : ∃ Mx' My', f_X0_addMessage x Mx = some (0, Mx') ∧ (if (100 : Int32) ≤ My 0 19 then some My else (stI My 15 100 (My 0 19) x).bind fun M15 => (stF M15 0 19 (M15 0 19 + 1))) = some My' ∧ Act n s d Mx My Mx' My' := by
  have hn := h.n16
  have hs := h.2.2.1
  obtain ⟨c, hc, e19⟩ := h.2.2.2.2.2.1
  have e1 : Mx 10 3 = My 0 19 := h.1.at 0 19 (by simp [dm]) rfl
  unfold f_X0_addMessage f_X0_addMessage_0
  rw [e1, e19]
  by_cases hx : (100 : Int32) ≤ nI c
  · rw [if_pos hx, if_pos hx]
    exact ⟨_, _, rfl, rfl, Act.rf h⟩
  · rw [if_neg hx, if_neg hx]
    have hc2 : c < 100 := by
      rcases Nat.lt_or_ge c 100 with q | q
      · exact q
      · exact absurd (nI_le (a := 100) q (by omega)) hx
    rw [stI_n Mx 12 x hc2, stI_n My 15 x hc2]
    simp only [Option.bind_some, stF]
    rw [mset_get_ne _ _ (by omega), mset_get_ne _ _ (by omega), e1, e19]
    have hS1 := h.1.set hn (a := 15) (b := c) (k := 12) (j := c) hc2 rfl x
    have hS2 := hS1.set hn (a := 0) (b := 19) (k := 10) (j := 3) (by simp [dm]) rfl (nI c + 1)
    refine ⟨_, _, rfl, rfl, h.quiet (d := d) hS2 (FrX.tr (FrX.set Mx _ (by unfold DX; omega)) (FrX.set _ _ (by unfold DX; omega))) (FrY.tr (FrY.set My _ (by unfold DY; omega)) (FrY.set _ _ (by unfold DY; omega))) ?_ ?_ ?_ (Zk.of (fun b => by rw [mset_get_ne _ _ (by omega), mset_get_ne _ _ (by omega)]) (fun b => by rw [mset_get_ne _ _ (by omega), mset_get_ne _ _ (by omega)]) (fun b => by rw [mset_get_ne _ _ (by omega), mset_get_ne _ _ (by omega)]))⟩
    · rw [mset_get_ne _ _ (by omega), mset_get_ne _ _ (by omega)]
    · rw [mset_get]
      exact ⟨c + 1, by omega, nI_1 c⟩
    · intro b
      rw [mset_get_ne _ _ (by omega), mset_get_ne _ _ (by omega)]
end PR
