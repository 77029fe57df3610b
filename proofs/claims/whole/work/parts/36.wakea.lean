/-! A START, at both sides: its beginning and its end -/
theorem flt_le {P Q : Nat → Bool} : ∀ (l : List Nat), (∀ x ∈ l, Q x = true → P x = true) → (l.filter Q).length ≤ (l.filter P).length
  | [], _ => Nat.le_refl _
  | a :: l, h => by
    have ih := flt_le l (fun x hx => h x (List.mem_cons_of_mem _ hx))
    rw [List.filter_cons, List.filter_cons]
    cases hq : Q a with
    | true =>
      rw [h a List.mem_cons_self hq]
      simp
      omega
    | false =>
      cases hp : P a with
      | true => simp; omega
      | false => simpa using ih
theorem flt_lt {P Q : Nat → Bool} : ∀ (l : List Nat), (∀ x ∈ l, Q x = true → P x = true) → ∀ t ∈ l, P t = true → Q t = false → (l.filter Q).length < (l.filter P).length
  | [], _, t, ht, _, _ => by simp at ht
  | a :: l, h, t, ht, hp, hq => by
    have hl := flt_le l (fun x hx => h x (List.mem_cons_of_mem _ hx))
    rw [List.filter_cons, List.filter_cons]
    rcases List.mem_cons.mp ht with rfl | ht
    · rw [hp, hq]
      simp
      omega
    · have ih := flt_lt l (fun x hx => h x (List.mem_cons_of_mem _ hx)) t ht hp hq
      cases hq' : Q a with
      | true =>
        rw [h a List.mem_cons_self hq']
        simp
        omega
      | false =>
        cases hp' : P a with
        | true => simp; omega
        | false => simpa using ih
theorem slp_le {n s d : Nat} {Mx My Mx' My' : Mem} (h : Act n s d Mx My Mx' My') : slp n s My' ≤ slp n s My := by
  unfold slp
  refine flt_le _ (fun t ht hq => ?_)
  have ht' : t < n := List.mem_range.mp ht
  simp at hq ⊢
  exact Classical.byContradiction fun q => h.2.2.2.1 t ht' q hq
theorem slp_pos {n s t : Nat} {My : Mem} (ht : t < n) (h : My 10 (pl My s t) = 0) : 0 < slp n s My := by
  unfold slp
  have : t ∈ (List.range n).filter (fun t => decide (My 10 (pl My s t) = 0)) := by
    rw [List.mem_filter]
    exact ⟨List.mem_range.mpr ht, by simpa using h⟩
  exact List.length_pos_of_mem this
theorem pl_ne {My : Mem} {s t u : Nat} (hs : s < 4) (ht : t < 16) (hu : u < 16) (h : t ≠ u) : pl My s t ≠ pl My s u := by
  unfold pl
  split <;> split <;> omega
theorem pl_frm {d : Nat} {My My' : Mem} (h : FrM d My My') (s t : Nat) : pl My' s t = pl My s t := by
  unfold pl
  rw [h.st (a := 3) (b := t) (by omega)]
theorem pk_frm {d : Nat} {My My' : Mem} (h : FrM d My My') (s t : Nat) : pk My' s t = pk My s t := by
  unfold pk
  rw [h.st (a := 3) (b := t) (by omega)]
theorem RW.stv {n s : Nat} {Mx My : Mem} (h : RW n s Mx My) {t : Nat} (ht : t < n) : Mx (pk My s t + 1) t = My 10 (pl My s t) := by
  have hn := h.n16
  have hp := st_ps (My := My) (n := n) h.2.2.1 (show t < 16 by omega)
  exact h.1.at _ _ hp.1 hp.2
/-- only the machine's own cells are written -/
theorem Act.mach {n s d : Nat} {Mx My My' : Mem} (h : RW n s Mx My) (hS : Sim n Mx My') (hy : FrM d My My') (hD : ∀ a b, DY a b → My' a b = My a b) (h22 : ∀ b, b < 16 → ∃ q, q < 509 ∧ My' 22 b = nI q) : Act n s d Mx My Mx My' := by
  have hp : ∀ t, pl My' s t = pl My s t := fun t => pl_frm hy s t
  refine ⟨h.act hS FrX.rf hy ?_ ?_ h22 ?_, FrX.rf, hy, fun t ht h1 h2 => ?_, Zk.of (fun b => hD 10 b (by unfold DY; omega)) (fun b => hD 11 b (by unfold DY; omega)) (fun b => hD 12 b (by unfold DY; omega))⟩
  · rw [hD 0 17 (by unfold DY; omega)]; exact h.2.2.2.2.1
  · rw [hD 0 19 (by unfold DY; omega)]; exact h.2.2.2.2.2.1
  · intro t ht
    rw [hp, hD 10 _ (by unfold DY; omega)]
    exact h.2.2.2.2.2.2.2 t ht
  · rw [hp, hD 10 _ (by unfold DY; omega)] at h2
    exact h1 h2
theorem ndm {n a b : Nat} (h : 16 ≤ a ∨ (a = 0 ∧ (b = 0 ∨ b = 26 ∨ b = 34 ∨ b = 35 ∨ b = 39))) : ¬ dm n a b := by
  intro q
  rcases dm_cases q with q | q | q | q | q | q | q | q | q | q | q | q | q | q | q <;> omega
theorem Sim.sm {n : Nat} {Mx A B : Mem} (h : Sim n Mx A) (e : ∀ a b, dm n a b → B a b = A a b) : Sim n Mx B := fun a b hd => (h a b hd).trans (e a b hd).symm
/-- one write to a cell of the machine -/
theorem Act.m1 {n s d : Nat} {Mx My : Mem} (h : RW n s Mx My) {a b : Nat} (v : Int32) (hq : (a = 0 ∧ (b = 26 ∨ b = 34 ∨ b = 35)) ∨ (26 ≤ a ∧ a ≤ 29) ∨ ((a = 19 ∨ a = 20 ∨ a = 21 ∨ a = 22 ∨ a = 23 ∨ a = 25) ∧ d ≤ b) ∨ (a = 24 ∧ 16 * d ≤ b)) (h22 : a = 22 → ∃ q, q < 509 ∧ v = nI q) : Act n s d Mx My Mx (mset My a b v) := by
  have q1 : 16 ≤ a ∨ (a = 0 ∧ (b = 0 ∨ b = 26 ∨ b = 34 ∨ b = 35 ∨ b = 39)) := by clear h22; omega
  refine Act.mach h (h.1.setY (ndm q1) v) (FrM.set My v hq) (fun x y hD => mset_get_ne _ _ ?_) (fun x hx => ?_)
  · clear h22
    unfold DY at hD
    omega
  · rw [mset_if]
    split
    · next e => exact h22 e.1.symm
    · exact h.2.2.2.2.2.2.1 x hx
/-- asking for one that is not ASLEEP -/
theorem ask_up {n s d : Nat} {Mx My : Mem} (h : RW n s Mx My) (h26 : My 0 26 = nI d) {t : Nat} (ht : t < n) (h0 : My 10 (pl My s t) ≠ 0) (wk : Int32 → Int32 → Mem → Option (Int32 × Mem)) (x2 : Int32) : ∃ r My', f_X6_wake wk (nI t) x2 Mx = some (r, Mx) ∧ f_X7_ask (nI s) (nI t) My = some (0, My') ∧ Act n s d Mx My Mx My' ∧ My' 0 26 = nI d ∧ My' 0 34 = 1 ∧ My' 0 35 = r := by
  have hn := h.n16
  have hs := h.2.2.1
  have ht16 : t < 16 := by omega
  have hpl := pl_lt (My := My) hs ht16
  obtain ⟨v, v4, ve⟩ := h.2.2.2.2.2.2.2 t ht
  have hv0 : v ≠ 0 := fun e => h0 (by rw [ve, e]; rfl)
  -- the reference
  have hy : ∀ r : Int32, (if nI v = 3 then f_X7_ask_37 (nI s) (nI t) (nI v) 18 (mset My 0 34 1) else f_X7_ask_37 (nI s) (nI t) (nI v) 0 (mset My 0 34 1)) = f_X7_ask_37 (nI s) (nI t) (nI v) r (mset My 0 34 1) → f_X7_ask (nI s) (nI t) My = some (0, mset (mset My 0 34 1) 0 35 r) := by
    intro r hr
    unfold f_X7_ask f_X7_ask_0
    rw [at_eq ht16]
    simp only [Option.bind_some]
    rw [ldI_n My 10 hpl, ve]
    simp only [Option.bind_some]
    rw [if_neg (show ¬ nI v = 0 from nI_ne (b := 0) (by omega) (by omega) hv0)]
    unfold f_X7_ask_22
    rw [stFZ_n My 0 34 (show isb 1 = true from rfl)]
    simp only [Option.bind_some]
    rw [hr]
    unfold f_X7_ask_37
    simp only [stF, Option.bind_some]
    rw [if_neg (show ¬ nI v = 0 from nI_ne (b := 0) (by omega) (by omega) hv0)]
  have hact : ∀ r : Int32, Act n s d Mx My Mx (mset (mset My 0 34 1) 0 35 r) ∧ mset (mset My 0 34 1) 0 35 r 0 26 = nI d ∧ mset (mset My 0 34 1) 0 35 r 0 34 = 1 ∧ mset (mset My 0 34 1) 0 35 r 0 35 = r := by
    intro r
    have a1 := Act.m1 (d := d) h (a := 0) (b := 34) 1 (by omega) (by omega)
    refine ⟨a1.tr (Act.m1 (d := d) a1.1 (a := 0) (b := 35) r (by omega) (by omega)), ?_, ?_, mset_get _ _ _ _⟩
    · rw [mset_get_ne _ _ (by omega), mset_get_ne _ _ (by omega)]; exact h26
    · rw [mset_get_ne _ _ (by omega), mset_get]
  -- the class
  have hx : f_X6_wake wk (nI t) x2 Mx = (if nI v = 2 then some (0, Mx) else if nI v = 1 then some (0, Mx) else if nI v = 3 then some (18, Mx) else if x2 < (16 : Int32) then ((stI Mx (pk My s t + 1) 16 (nI t) (1 : Int32)).bind fun M16 => (f_X6_wakeAbove wk (nI t) x2 M16).bind fun (v20, M18) => if v20 = 0 then ((f_X6_doLines wk (nI t) x2 M18).bind fun (v24, M22) => f_X6_wake_70 wk (nI t) (pk My s t + 1) v24 M22) else (f_X6_wake_70 wk (nI t) (pk My s t + 1) v20 M18)) else some (18, Mx)) := by
    unfold f_X6_wake f_X6_wake_0
    rw [h.2.2.2.1, place_eq h.1 hs ht hn]
    simp only [Option.bind_some]
    rw [pk_xP My hs t]
    simp only [Option.bind_some]
    rw [ldI_n Mx _ ht16, h.stv ht, ve]
    simp only [Option.bind_some]
  have hc : v = 1 ∨ v = 2 ∨ v = 3 := by omega
  rcases hc with rfl | rfl | rfl
  · refine ⟨0, _, ?_, hy 0 (by rw [if_neg (by decide)]), (hact 0).1, (hact 0).2.1, (hact 0).2.2.1, (hact 0).2.2.2⟩
    rw [hx, if_neg (by decide), if_pos (by decide)]
  · refine ⟨0, _, ?_, hy 0 (by rw [if_neg (by decide)]), (hact 0).1, (hact 0).2.1, (hact 0).2.2.1, (hact 0).2.2.2⟩
    rw [hx, if_pos (by decide)]
  · refine ⟨18, _, ?_, hy 18 (by rw [if_pos (by decide)]), (hact 18).1, (hact 18).2.1, (hact 18).2.2.1, (hact 18).2.2.2⟩
    rw [hx, if_neg (by decide), if_neg (by decide), if_pos (by decide)]
/-- the row of those that are to be started above t -/
def FLs (My : Mem) (t : Nat) : List Nat := if My 1 t = 0 then ddp (ff (faY My) (owY My) t) else []
/-- the frame of t at depth d -/
def FI (d t : Nat) (L : List Nat) (My : Mem) : Prop := d < 16 ∧ My 0 26 = nI (d + 1) ∧ My 19 d = nI t ∧ fo My d L
theorem ask_dn {n s d : Nat} {Mx My : Mem} (h : RW n s Mx My) (h26 : My 0 26 = nI d) (hd : d < 16) {t : Nat} (ht : t < n) (h0 : My 10 (pl My s t) = 0) : ∃ Mx' My', stI Mx (pk My s t + 1) 16 (nI t) 1 = some Mx' ∧ f_X7_ask (nI s) (nI t) My = some (0, My') ∧ Act n s d Mx My Mx' My' ∧ FI d t (FLs My t) My' ∧ My' 20 d = nI 0 ∧ My' 0 34 = 0 ∧ slp n s My' < slp n s My := by
  have hn := h.n16
  have hs := h.2.2.1
  have ht16 : t < 16 := by omega
  have hpl := pl_lt (My := My) hs ht16
  have hp := st_ps (My := My) (n := n) hs ht16
  -- up to the list
  have a1 := Act.m1 (d := d) h (a := 0) (b := 34) 0 (by omega) (by omega)
  have a2 := a1.tr (Act.m1 (d := d) a1.1 (a := 0) (b := 35) 0 (by omega) (by omega))
  have e2 : pl (mset (mset My 0 34 0) 0 35 0) s t = pl My s t := pl_frm a2.2.2.1 s t
  have hS3 : Sim n (mset Mx (pk My s t + 1) t 1) (mset (mset (mset My 0 34 0) 0 35 0) 10 (pl My s t) 1) := a2.1.1.set hn hp.1 hp.2 1
  have f3 : FrM d My (mset (mset (mset My 0 34 0) 0 35 0) 10 (pl My s t) 1) := a2.2.2.1.tr (FrM.of (FrY.set _ _ (by unfold DY; omega)))
  have st3 : ∀ u, u < n → mset (mset (mset My 0 34 0) 0 35 0) 10 (pl My s t) 1 10 (pl My s u) = if u = t then 1 else My 10 (pl My s u) := by
    intro u hu
    by_cases e : u = t
    · subst e
      rw [mset_get, if_pos rfl]
    · rw [mset_get_ne _ _ (Or.inr (pl_ne hs (by omega) ht16 e)), mset_get_ne _ _ (by omega), mset_get_ne _ _ (by omega), if_neg e]
  have a3 : Act n s d Mx My (mset Mx (pk My s t + 1) t 1) (mset (mset (mset My 0 34 0) 0 35 0) 10 (pl My s t) 1) := by
    refine ⟨h.act hS3 (FrX.set Mx _ (dx_pk1 hs _)) f3 ?_ ?_ ?_ ?_, FrX.set Mx _ (dx_pk1 hs _), f3, ?_, ⟨fun b hb => ⟨by rw [mset_get_ne _ _ (Or.inr (hb t ht)), mset_get_ne _ _ (by omega), mset_get_ne _ _ (by omega)], fun g hg => by rw [mset_get_ne _ _ (by omega), mset_get_ne _ _ (by omega), mset_get_ne _ _ (by omega)]⟩, fun b _ => by rw [mset_get_ne _ _ (by omega), mset_get_ne _ _ (by omega), mset_get_ne _ _ (by omega)]⟩⟩
    · rw [mset_get_ne _ _ (by omega), mset_get_ne _ _ (by omega), mset_get_ne _ _ (by omega)]; exact h.2.2.2.2.1
    · rw [mset_get_ne _ _ (by omega), mset_get_ne _ _ (by omega), mset_get_ne _ _ (by omega)]; exact h.2.2.2.2.2.1
    · intro b hb
      rw [mset_get_ne _ _ (by omega), mset_get_ne _ _ (by omega), mset_get_ne _ _ (by omega)]; exact h.2.2.2.2.2.2.1 b hb
    · intro u hu
      rw [pl_frm f3, st3 u hu]
      by_cases e : u = t
      · rw [if_pos e]; exact ⟨1, by omega, rfl⟩
      · rw [if_neg e]; exact h.2.2.2.2.2.2.2 u hu
    · intro u hu q1 q2
      rw [pl_frm f3, st3 u hu] at q2
      by_cases e : u = t
      · rw [if_pos e] at q2; exact absurd q2 (by decide)
      · rw [if_neg e] at q2; exact q1 q2
  have a4 := a3.tr (Act.m1 (d := d) a3.1 (a := 19) (b := d) (nI t) (by omega) (by omega))
  have a5 := a4.tr (Act.m1 (d := d) a4.1 (a := 20) (b := d) 0 (by omega) (by omega))
  have a6 := a5.tr (Act.m1 (d := d) a5.1 (a := 25) (b := d) 0 (by omega) (by omega))
  generalize hM6 : mset (mset (mset (mset (mset (mset My 0 34 0) 0 35 0) 10 (pl My s t) 1) 19 d (nI t)) 20 d 0) 25 d 0 = M6 at a6
  have g26 : M6 0 26 = nI d := by
    rw [← hM6, mset_get_ne _ _ (by omega), mset_get_ne _ _ (by omega), mset_get_ne _ _ (by omega), mset_get_ne _ _ (by omega), mset_get_ne _ _ (by omega), mset_get_ne _ _ (by omega)]
    exact h26
  have g25 : M6 25 d = 0 := by rw [← hM6, mset_get]
  have g19 : M6 19 d = nI t := by rw [← hM6, mset_get_ne _ _ (by omega), mset_get_ne _ _ (by omega), mset_get]
  have g20 : M6 20 d = nI 0 := by rw [← hM6, mset_get_ne _ _ (by omega), mset_get]; rfl
  have g34 : M6 0 34 = 0 := by
    rw [← hM6, mset_get_ne _ _ (by omega), mset_get_ne _ _ (by omega), mset_get_ne _ _ (by omega), mset_get_ne _ _ (by omega), mset_get_ne _ _ (by omega), mset_get]
  have gst : M6 10 (pl My s t) = 1 := by
    rw [← hM6, mset_get_ne _ _ (by omega), mset_get_ne _ _ (by omega), mset_get_ne _ _ (by omega), mset_get]
  -- the list of the FULL ones
  have key : ∃ M7, (if M6 1 t = 0 then ((f_X7_listFulls (nI t) M6).bind fun (v20, M18) => f_X7_ask_100 M18) else (f_X7_ask_100 M6)) = some (0, M7) ∧ Act n s d (mset Mx (pk My s t + 1) t 1) M6 (mset Mx (pk My s t + 1) t 1) M7 ∧ FI d t (FLs My t) M7 ∧ M7 20 d = nI 0 ∧ M7 0 34 = 0 := by
    have e1 : M6 1 t = My 1 t := a6.2.2.1.st (by omega)
    have hfin : ∀ (M8 : Mem), Act n s d (mset Mx (pk My s t + 1) t 1) M6 (mset Mx (pk My s t + 1) t 1) M8 → M8 0 26 = nI d → M8 19 d = nI t → fo M8 d (FLs My t) → M8 20 d = nI 0 → M8 0 34 = 0 → ∃ M7, f_X7_ask_100 M8 = some (0, M7) ∧ Act n s d (mset Mx (pk My s t + 1) t 1) M6 (mset Mx (pk My s t + 1) t 1) M7 ∧ FI d t (FLs My t) M7 ∧ M7 20 d = nI 0 ∧ M7 0 34 = 0 := by
      intro M8 b1 b2 b3 b4 b5 b6
      refine ⟨mset M8 0 26 (M8 0 26 + 1), rfl, b1.tr (Act.m1 (d := d) b1.1 (a := 0) (b := 26) _ (by omega) (by omega)), ⟨hd, by rw [mset_get, b2, nI_1], by rw [mset_get_ne _ _ (by omega)]; exact b3, ?_⟩, by rw [mset_get_ne _ _ (by omega)]; exact b5, by rw [mset_get_ne _ _ (by omega)]; exact b6⟩
      exact ⟨by rw [mset_get_ne _ _ (by omega)]; exact b4.1, fun j x hj => by rw [mset_get_ne _ _ (by omega)]; exact b4.2 j x hj⟩
    rw [e1]
    by_cases hk : My 1 t = 0
    · rw [if_pos hk]
      obtain ⟨M8, q1, q2, q3⟩ := yfulls a6.1.2.1.1 ht hd g26 g25
      rw [q1]
      simp only [Option.bind_some]
      have hfr : FrM d M6 M8 := fun a b d1 d2 d3 d4 d5 => q3 a b (by omega) (by omega) (by omega) (by omega) (by omega)
      have hD8 : ∀ a b, DY a b → M8 a b = M6 a b := fun a b hD => q3 a b (by unfold DY at hD; omega) (by unfold DY at hD; omega) (by unfold DY at hD; omega) (by unfold DY at hD; omega) (by unfold DY at hD; omega)
      have b1 : Act n s d (mset Mx (pk My s t + 1) t 1) M6 (mset Mx (pk My s t + 1) t 1) M8 := Act.mach a6.1 (a6.1.1.sm (fun a b hdm => by
        have hb := dm_b hn hdm
        refine q3 a b (by omega) (by omega) (by omega) (by omega) (by omega))) hfr hD8 (fun b hb => by
          rw [q3 22 b (by omega) (by omega) (by omega) (by omega) (by omega)]
          exact a6.1.2.2.2.2.2.2.1 b hb)
      have hFL : FLs My t = ddp (ff (faY M6) (owY M6) t) := by
        unfold FLs
        rw [if_pos hk, faY_fr a6.2.2.1, owY_fr a6.2.2.1]
      refine hfin M8 b1 (by rw [q3 0 26 (by omega) (by omega) (by omega) (by omega) (by omega)]; exact g26) (by rw [q3 19 d (by omega) (by omega) (by omega) (by omega) (by omega)]; exact g19) (by rw [hFL]; exact q2) (by rw [q3 20 d (by omega) (by omega) (by omega) (by omega) (by omega)]; exact g20) (by rw [q3 0 34 (by omega) (by omega) (by omega) (by omega) (by omega)]; exact g34)
    · rw [if_neg hk]
      have hFL : FLs My t = [] := if_neg hk
      refine hfin M6 (Act.rf a6.1) g26 g19 (by rw [hFL]; exact ⟨g25, fun j x hj => by simp at hj⟩) g20 g34
  obtain ⟨M7, k1, k2, k3, k4, k5⟩ := key
  have a7 := a6.tr k2
  refine ⟨_, M7, stI_n Mx _ 1 ht16, ?_, a7, k3, k4, k5, ?_⟩
  · unfold f_X7_ask f_X7_ask_0
    rw [at_eq ht16]
    simp only [Option.bind_some]
    rw [ldI_n My 10 hpl, h0]
    simp only [Option.bind_some]
    rw [if_pos trivial]
    unfold f_X7_ask_22
    rw [stFZ_n My 0 34 (show isb 0 = true from rfl)]
    simp only [Option.bind_some]
    rw [if_neg (show ¬ (0 : Int32) = 3 by decide)]
    unfold f_X7_ask_37
    simp only [stF, Option.bind_some]
    rw [if_pos trivial, at_eq ht16, e2]
    simp only [Option.bind_some]
    rw [stI_n _ 10 1 hpl]
    simp only [Option.bind_some]
    have d3 : mset (mset (mset My 0 34 0) 0 35 0) 10 (pl My s t) 1 0 26 = nI d := by
      rw [mset_get_ne _ _ (by omega), mset_get_ne _ _ (by omega), mset_get_ne _ _ (by omega)]; exact h26
    rw [d3, stI_n _ 19 (nI t) hd]
    simp only [Option.bind_some]
    rw [mset_get_ne _ _ (show 0 ≠ 19 ∨ 26 ≠ d by omega), d3, stI_n _ 20 0 hd]
    simp only [Option.bind_some]
    rw [mset_get_ne _ _ (show 0 ≠ 20 ∨ 26 ≠ d by omega), mset_get_ne _ _ (show 0 ≠ 19 ∨ 26 ≠ d by omega), d3, stI_n _ 25 0 hd]
    simp only [Option.bind_some]
    rw [hM6, ldI_n M6 1 ht16]
    simp only [Option.bind_some]
    exact k1
  · have hle := slp_le k2
    refine Nat.lt_of_le_of_lt hle ?_
    unfold slp
    refine flt_lt _ (fun u hu hq => ?_) t (List.mem_range.mpr ht) (by simpa using h0) ?_
    · have hu' : u < n := List.mem_range.mp hu
      simp at hq ⊢
      exact Classical.byContradiction fun q => a6.2.2.2.1 u hu' q hq
    · rw [pl_frm a6.2.2.1, gst]
      simp
/-- the end of a START -/
theorem end_sim {n s d : Nat} {Mx My : Mem} (h : RW n s Mx My) {t : Nat} {L : List Nat} (hF : FI d t L My) (ht : t < n) (r : Int32) (wk : Int32 → Int32 → Mem → Option (Int32 × Mem)) : ∃ Mx' My', f_X6_wake_70 wk (nI t) (pk My s t + 1) r Mx = some (r, Mx') ∧ f_X7_end (nI s) r My = some (0, My') ∧ Act n s d Mx My Mx' My' ∧ My' 0 26 = nI d ∧ My' 0 34 = 1 ∧ My' 0 35 = r := by
  have hn := h.n16
  have hs := h.2.2.1
  obtain ⟨hd, h26, h19, -⟩ := hF
  have ht16 : t < 16 := by omega
  have hpl := pl_lt (My := My) hs ht16
  have hp := st_ps (My := My) (n := n) hs ht16
  have a1 := Act.m1 (d := d) h (a := 0) (b := 26) (nI d) (by omega) (by omega)
  have e1 : pl (mset My 0 26 (nI d)) s t = pl My s t := pl_frm a1.2.2.1 s t
  have core : ∀ v : Int32, (v = 2 ∨ v = 3) → ∃ Mx' My', f_X6_wake_82 wk (nI t) r (pk My s t + 1) (nI t) v Mx = some (r, Mx') ∧ f_X7_end_39 (nI s) r (nI t) 10 (nI (pl My s t)) v (mset My 0 26 (nI d)) = some (0, My') ∧ Act n s d Mx My Mx' My' ∧ My' 0 26 = nI d ∧ My' 0 34 = 1 ∧ My' 0 35 = r := by
    intro v hv
    have hS2 : Sim n (mset Mx (pk My s t + 1) t v) (mset (mset My 0 26 (nI d)) 10 (pl My s t) v) := a1.1.1.set hn hp.1 hp.2 v
    have f2 : FrM d My (mset (mset My 0 26 (nI d)) 10 (pl My s t) v) := a1.2.2.1.tr (FrM.of (FrY.set _ _ (by unfold DY; omega)))
    have fx2 : FrX Mx (mset Mx (pk My s t + 1) t v) := FrX.set Mx _ (dx_pk1 hs _)
    have st2 : ∀ u, u < n → mset (mset My 0 26 (nI d)) 10 (pl My s t) v 10 (pl My s u) = if u = t then v else My 10 (pl My s u) := by
      intro u hu
      by_cases e : u = t
      · subst e
        rw [mset_get, if_pos rfl]
      · rw [mset_get_ne _ _ (Or.inr (pl_ne hs (by omega) ht16 e)), mset_get_ne _ _ (by omega), if_neg e]
    have a2 : Act n s d Mx My (mset Mx (pk My s t + 1) t v) (mset (mset My 0 26 (nI d)) 10 (pl My s t) v) := by
      refine ⟨h.act hS2 fx2 f2 ?_ ?_ ?_ ?_, fx2, f2, ?_, ⟨fun b hb => ⟨by rw [mset_get_ne _ _ (Or.inr (hb t ht)), mset_get_ne _ _ (by omega)], fun g hg => by rw [mset_get_ne _ _ (by omega), mset_get_ne _ _ (by omega)]⟩, fun b _ => by rw [mset_get_ne _ _ (by omega), mset_get_ne _ _ (by omega)]⟩⟩
      · rw [mset_get_ne _ _ (by omega), mset_get_ne _ _ (by omega)]; exact h.2.2.2.2.1
      · rw [mset_get_ne _ _ (by omega), mset_get_ne _ _ (by omega)]; exact h.2.2.2.2.2.1
      · intro b hb
        rw [mset_get_ne _ _ (by omega), mset_get_ne _ _ (by omega)]; exact h.2.2.2.2.2.2.1 b hb
      · intro u hu
        rw [pl_frm f2, st2 u hu]
        by_cases e : u = t
        · rw [if_pos e]
          rcases hv with rfl | rfl
          · exact ⟨2, by omega, rfl⟩
          · exact ⟨3, by omega, rfl⟩
        · rw [if_neg e]; exact h.2.2.2.2.2.2.2 u hu
      · intro u hu q1 q2
        rw [pl_frm f2, st2 u hu] at q2
        by_cases e : u = t
        · rw [if_pos e] at q2
          rcases hv with rfl | rfl <;> exact absurd q2 (by decide)
        · rw [if_neg e] at q2; exact q1 q2
    -- the STARTS that are kept
    obtain ⟨c, hc, e17⟩ := a2.1.2.2.2.2.1
    have ex17 : mset Mx (pk My s t + 1) t v 10 2 = nI c := (hS2.at 0 17 (by simp [dm]) rfl).trans e17
    have exu : mset Mx (pk My s t + 1) t v 6 3 = mset (mset My 0 26 (nI d)) 10 (pl My s t) v 0 16 := hS2.at 0 16 (by simp [dm]) rfl
    have ex8 : mset Mx (pk My s t + 1) t v 0 8 = nI s := a2.1.2.2.2.1
    have fin : ∀ (A B : Mem), Act n s d Mx My A B → B 0 26 = nI d → ∃ My', f_X7_end_117 r B = some (0, My') ∧ Act n s d Mx My A My' ∧ My' 0 26 = nI d ∧ My' 0 34 = 1 ∧ My' 0 35 = r := by
      intro A B hAB hB
      refine ⟨mset (mset B 0 34 1) 0 35 r, ?_, ?_, ?_, ?_, mset_get _ _ _ _⟩
      · unfold f_X7_end_117
        rw [stFZ_n B 0 34 (show isb 1 = true from rfl)]
        rfl
      · have b1 := hAB.tr (Act.m1 (d := d) hAB.1 (a := 0) (b := 34) 1 (by omega) (by omega))
        exact b1.tr (Act.m1 (d := d) b1.1 (a := 0) (b := 35) r (by omega) (by omega))
      · rw [mset_get_ne _ _ (by omega), mset_get_ne _ _ (by omega)]; exact hB
      · rw [mset_get_ne _ _ (by omega), mset_get]
    have h26' : mset (mset My 0 26 (nI d)) 10 (pl My s t) v 0 26 = nI d := by rw [mset_get_ne _ _ (by omega), mset_get]
    unfold f_X6_wake_82 f_X7_end_39 f_X0_addStart f_X0_addStart_0
    rw [stI_n Mx _ v ht16, stI_n _ 10 v hpl]
    simp only [Option.bind_some]
    generalize mset Mx (pk My s t + 1) t v = Mx2 at *
    generalize mset (mset My 0 26 (nI d)) 10 (pl My s t) v = My2 at *
    rw [ex17, e17, ex8, exu]
    by_cases hc150 : (150 : Int32) ≤ nI c
    · rw [if_pos hc150, if_neg (show ¬ nI c < (150 : Int32) by
        intro q
        rw [i32_lt] at q
        rw [i32_le] at hc150
        omega)]
      obtain ⟨My', g1, g2, g3, g4, g5⟩ := fin Mx2 My2 a2 h26'
      exact ⟨_, My', rfl, g1, g2, g3, g4, g5⟩
    · have hc2 : c < 150 := by
        rcases Nat.lt_or_ge c 150 with q | q
        · exact q
        · exact absurd (nI_le (a := 150) q (by omega)) hc150
      rw [if_neg hc150, if_pos (show nI c < (150 : Int32) from nI_lt (b := 150) hc2 (by omega))]
      have m0 : nI c * (4 : Int32) = nI (4 * c) := by
        show nI c * nI 4 = _
        rw [pk_mul, Nat.mul_comm]
      have m0' : (4 : Int32) * nI c = nI (4 * c) := by
        show nI 4 * nI c = _
        rw [pk_mul]
      have m1 : nI (4 * c) + (1 : Int32) = nI (4 * c + 1) := nI_1 _
      have m2 : nI (4 * c) + (2 : Int32) = nI (4 * c + 2) := nI_add _ 2
      have m3 : nI (4 * c) + (3 : Int32) = nI (4 * c + 3) := nI_add _ 3
      rw [m0, m0', m1, m2, m3, stI_n Mx2 11 _ (show 4 * c < 600 by omega), stI_n My2 14 _ (show 4 * c < 600 by omega)]
      simp only [Option.bind_some]
      rw [mset_get_ne _ _ (show 0 ≠ 14 ∨ 17 ≠ 4 * c by omega), e17, m0', m1, stI_n _ 11 _ (show 4 * c + 1 < 600 by omega), stI_n _ 14 _ (show 4 * c + 1 < 600 by omega)]
      simp only [Option.bind_some]
      rw [mset_get_ne _ _ (show 0 ≠ 14 ∨ 17 ≠ 4 * c + 1 by omega), mset_get_ne _ _ (show 0 ≠ 14 ∨ 17 ≠ 4 * c by omega), e17, m0', m2, stI_n _ 11 _ (show 4 * c + 2 < 600 by omega), stI_n _ 14 _ (show 4 * c + 2 < 600 by omega)]
      simp only [Option.bind_some]
      rw [mset_get_ne _ _ (show 0 ≠ 14 ∨ 17 ≠ 4 * c + 2 by omega), mset_get_ne _ _ (show 0 ≠ 14 ∨ 17 ≠ 4 * c + 1 by omega), mset_get_ne _ _ (show 0 ≠ 14 ∨ 17 ≠ 4 * c by omega), e17, m0', m3, mset_get_ne _ _ (show 0 ≠ 14 ∨ 16 ≠ 4 * c + 2 by omega), mset_get_ne _ _ (show 0 ≠ 14 ∨ 16 ≠ 4 * c + 1 by omega), mset_get_ne _ _ (show 0 ≠ 14 ∨ 16 ≠ 4 * c by omega), stI_n _ 11 _ (show 4 * c + 3 < 600 by omega), stI_n _ 14 _ (show 4 * c + 3 < 600 by omega)]
      simp only [Option.bind_some, stF]
      rw [mset_get_ne _ _ (show 0 ≠ 14 ∨ 17 ≠ 4 * c + 3 by omega), mset_get_ne _ _ (show 0 ≠ 14 ∨ 17 ≠ 4 * c + 2 by omega), mset_get_ne _ _ (show 0 ≠ 14 ∨ 17 ≠ 4 * c + 1 by omega), mset_get_ne _ _ (show 0 ≠ 14 ∨ 17 ≠ 4 * c by omega), e17, mset_get_ne _ _ (show 10 ≠ 11 ∨ 2 ≠ 4 * c + 3 by omega), mset_get_ne _ _ (show 10 ≠ 11 ∨ 2 ≠ 4 * c + 2 by omega), mset_get_ne _ _ (show 10 ≠ 11 ∨ 2 ≠ 4 * c + 1 by omega), mset_get_ne _ _ (show 10 ≠ 11 ∨ 2 ≠ 4 * c by omega), ex17]
      have stp : ∀ (A B : Mem) (j : Nat) (x : Int32), j < 600 → Act n s d Mx My A B → B 0 17 = nI c → B 0 26 = nI d → Act n s d Mx My (mset A 11 j x) (mset B 14 j x) ∧ mset B 14 j x 0 17 = nI c ∧ mset B 14 j x 0 26 = nI d := by
        intro A B j x hj hAB h17 hB
        refine ⟨hAB.tr (hAB.1.quiet (d := d) (hAB.1.1.set hn (a := 14) (b := j) (k := 11) (j := j) hj rfl x) (FrX.set _ _ (by unfold DX; omega)) (FrY.set _ _ (by unfold DY; omega)) ?_ ?_ ?_ (Zk.of (fun b => by rw [mset_get_ne _ _ (by omega)]) (fun b => by rw [mset_get_ne _ _ (by omega)]) (fun b => by rw [mset_get_ne _ _ (by omega)]))), by rw [mset_get_ne _ _ (by omega)]; exact h17, by rw [mset_get_ne _ _ (by omega)]; exact hB⟩
        · rw [mset_get_ne _ _ (by omega)]
        · rw [mset_get_ne _ _ (by omega)]
          exact hAB.1.2.2.2.2.2.1
        · intro b
          rw [mset_get_ne _ _ (by omega)]
      obtain ⟨b1, b1', b1''⟩ := stp Mx2 My2 (4 * c) (nI t) (by omega) a2 e17 h26'
      obtain ⟨b2, b2', b2''⟩ := stp _ _ (4 * c + 1) (nI s) (by omega) b1 b1' b1''
      obtain ⟨b3, b3', b3''⟩ := stp _ _ (4 * c + 2) r (by omega) b2 b2' b2''
      obtain ⟨b4, b4', b4''⟩ := stp _ _ (4 * c + 3) (My2 0 16) (by omega) b3 b3' b3''
      have b5 := b4.tr (d := d) (show Act n s d _ _ (mset (mset (mset (mset (mset Mx2 11 (4 * c) (nI t)) 11 (4 * c + 1) (nI s)) 11 (4 * c + 2) r) 11 (4 * c + 3) (My2 0 16)) 10 2 (nI c + 1)) (mset (mset (mset (mset (mset My2 14 (4 * c) (nI t)) 14 (4 * c + 1) (nI s)) 14 (4 * c + 2) r) 14 (4 * c + 3) (My2 0 16)) 0 17 (nI c + 1)) from by
        have hfy := FrY.set (mset (mset (mset (mset My2 14 (4 * c) (nI t)) 14 (4 * c + 1) (nI s)) 14 (4 * c + 2) r) 14 (4 * c + 3) (My2 0 16)) (a := 0) (b := 17) (nI c + 1) (by unfold DY; omega)
        have hfx := FrX.set (mset (mset (mset (mset Mx2 11 (4 * c) (nI t)) 11 (4 * c + 1) (nI s)) 11 (4 * c + 2) r) 11 (4 * c + 3) (My2 0 16)) (a := 10) (b := 2) (nI c + 1) (by unfold DX; omega)
        have hpl' := fun u => pl_fr hfy s u
        refine ⟨b4.1.act (b4.1.1.set hn (a := 0) (b := 17) (k := 10) (j := 2) (by simp [dm]) rfl _) hfx (FrM.of (d := d) hfy) ⟨c + 1, by omega, by rw [mset_get, nI_1]⟩ ?_ ?_ ?_, hfx, FrM.of hfy, ?_, Zk.of (fun b => by rw [mset_get_ne _ _ (by omega)]) (fun b => by rw [mset_get_ne _ _ (by omega)]) (fun b => by rw [mset_get_ne _ _ (by omega)])⟩
        · rw [mset_get_ne _ _ (by omega)]; exact b4.1.2.2.2.2.2.1
        · intro b hb
          rw [mset_get_ne _ _ (by omega)]; exact b4.1.2.2.2.2.2.2.1 b hb
        · intro u hu
          rw [hpl', mset_get_ne _ _ (by omega)]; exact b4.1.2.2.2.2.2.2.2 u hu
        · intro u hu q1 q2
          rw [hpl', mset_get_ne _ _ (by omega)] at q2
          exact q1 q2)
      obtain ⟨My', g1, g2, g3, g4, g5⟩ := fin _ _ b5 (by rw [mset_get_ne _ _ (by omega)]; exact b4'')
      exact ⟨_, My', rfl, g1, g2, g3, g4, g5⟩
  unfold f_X6_wake_70 f_X7_end f_X7_end_0
  simp only [stF, Option.bind_some]
  rw [h26, nI_pred, mset_get, ldI_n _ 19 hd, mset_get_ne _ _ (show 19 ≠ 0 ∨ d ≠ 26 by omega), h19]
  simp only [Option.bind_some]
  rw [at_eq ht16, e1]
  simp only [Option.bind_some]
  by_cases hr : r = 0
  · rw [if_pos hr, if_pos hr]
    exact core 2 (Or.inl rfl)
  · rw [if_neg hr, if_neg hr]
    exact core 3 (Or.inr rfl)
