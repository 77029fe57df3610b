/-! field, line -/
theorem faY_c {A B : Mem} (h4 : ∀ b, B 4 b = A 4 b) (h5 : ∀ b, B 5 b = A 5 b) : faY B = faY A := by
  funext t
  unfold faY
  rw [h4 t]
  apply List.map_congr_left
  intro j _
  rw [h5]
theorem chY_c {A B : Mem} (h2 : ∀ b, B 2 b = A 2 b) (h4 : ∀ b, B 4 b = A 4 b) (h5 : ∀ b, B 5 b = A 5 b) : chY B = chY A := by
  funext t
  unfold chY paY
  rw [faY_c h4 h5, h2 t]
theorem owY_c {A B : Mem} (h1 : ∀ b, B 1 b = A 1 b) : owY B = owY A := by
  funext t
  unfold owY
  rw [h1 t]
theorem il_cases (x0 x1 x2 x3 : Int32) : (lok x0 x1 x2 x3 ∧ (∀ M, f_X6_isLine x0 x1 x2 x3 M = some (1, M)) ∧ ∀ M, f_X7_isLine x0 x1 x2 x3 M = some (1, M)) ∨ ((∀ M, f_X6_isLine x0 x1 x2 x3 M = some (0, M)) ∧ ∀ M, f_X7_isLine x0 x1 x2 x3 M = some (0, M)) := by
  unfold f_X6_isLine f_X6_isLine_0 f_X7_isLine f_X7_isLine_0
  by_cases h0 : x0 = 0
  · simp only [if_pos h0]
    rcases fi_cases x1 with ⟨f, hf, e, fx, fy⟩ | ⟨-, fx, fy⟩
    · rcases nu_cases x2 with ⟨-, gx, gy⟩ | ⟨-, gx, gy⟩
      · exact Or.inl ⟨Or.inl ⟨h0, f, hf, e⟩, fun M => by rw [fx, bindE rfl]; dsimp only; rw [gx]; rfl, fun M => by rw [fy, bindE rfl]; dsimp only; rw [gy]; rfl⟩
      · exact Or.inr ⟨fun M => by rw [fx, bindE rfl]; dsimp only; rw [gx]; rfl, fun M => by rw [fy, bindE rfl]; dsimp only; rw [gy]; rfl⟩
    · exact Or.inr ⟨fun M => by rw [fx]; rfl, fun M => by rw [fy]; rfl⟩
  · simp only [if_neg h0]
    by_cases h1 : x0 = 1
    · simp only [if_pos h1]
      rcases fi_cases x1 with ⟨f, hf, e, fx, fy⟩ | ⟨-, fx, fy⟩
      · rcases mt_cases x2 with ⟨t, ht, e2, gx, gy⟩ | ⟨-, gx, gy⟩
        · rcases fi_cases x3 with ⟨g, hg, e3, kx, ky⟩ | ⟨-, kx, ky⟩
          · exact Or.inl ⟨Or.inr (Or.inl ⟨h1, ⟨f, hf, e⟩, ⟨t, ht, e2⟩, ⟨g, hg, e3⟩⟩), fun M => by rw [fx, bindE rfl]; dsimp only; rw [gx, bindE rfl]; dsimp only; rw [kx]; rfl, fun M => by rw [fy, bindE rfl]; dsimp only; rw [gy, bindE rfl]; dsimp only; rw [ky]; rfl⟩
          · exact Or.inr ⟨fun M => by rw [fx, bindE rfl]; dsimp only; rw [gx, bindE rfl]; dsimp only; rw [kx]; rfl, fun M => by rw [fy, bindE rfl]; dsimp only; rw [gy, bindE rfl]; dsimp only; rw [ky]; rfl⟩
        · exact Or.inr ⟨fun M => by rw [fx, bindE rfl]; dsimp only; rw [gx]; rfl, fun M => by rw [fy, bindE rfl]; dsimp only; rw [gy]; rfl⟩
      · exact Or.inr ⟨fun M => by rw [fx]; rfl, fun M => by rw [fy]; rfl⟩
    · simp only [if_neg h1]
      by_cases h2 : x0 = 2
      · simp only [if_pos h2]
        rcases mt_cases x1 with ⟨t, ht, e2, gx, gy⟩ | ⟨-, gx, gy⟩
        · exact Or.inl ⟨Or.inr (Or.inr (Or.inl ⟨h2, t, ht, e2⟩)), fun M => by rw [gx]; rfl, fun M => by rw [gy]; rfl⟩
        · exact Or.inr ⟨fun M => by rw [gx]; rfl, fun M => by rw [gy]; rfl⟩
      · simp only [if_neg h2]
        by_cases h3 : x0 = 3
        · simp only [if_pos h3]
          rcases in_cases x1 0 6 with ⟨-, gx, gy⟩ | ⟨-, gx, gy⟩
          · exact Or.inl ⟨Or.inr (Or.inr (Or.inr (Or.inl h3))), fun M => by rw [gx]; rfl, fun M => by rw [gy]; rfl⟩
          · exact Or.inr ⟨fun M => by rw [gx]; rfl, fun M => by rw [gy]; rfl⟩
        · simp only [if_neg h3]
          by_cases h4 : x0 = 4
          · simp only [if_pos h4]
            rcases in_cases x1 0 1000 with ⟨-, gx, gy⟩ | ⟨-, gx, gy⟩
            · exact Or.inl ⟨Or.inr (Or.inr (Or.inr (Or.inr (Or.inl h4)))), fun M => by rw [gx]; rfl, fun M => by rw [gy]; rfl⟩
            · exact Or.inr ⟨fun M => by rw [gx]; rfl, fun M => by rw [gy]; rfl⟩
          · simp only [if_neg h4]
            by_cases h5 : x0 = 5
            · simp only [if_pos h5]
              rcases nu_cases x1 with ⟨-, gx, gy⟩ | ⟨-, gx, gy⟩
              · exact Or.inl ⟨Or.inr (Or.inr (Or.inr (Or.inr (Or.inr (Or.inl h5))))), fun M => by rw [gx]; rfl, fun M => by rw [gy]; rfl⟩
              · exact Or.inr ⟨fun M => by rw [gx]; rfl, fun M => by rw [gy]; rfl⟩
            · simp only [if_neg h5]
              by_cases h6 : x0 = 6
              · simp only [if_pos h6]
                rcases fi_cases x1 with ⟨f, hf, e, fx, fy⟩ | ⟨-, fx, fy⟩
                · rcases mt_cases x2 with ⟨t, ht, e2, gx, gy⟩ | ⟨-, gx, gy⟩
                  · exact Or.inl ⟨Or.inr (Or.inr (Or.inr (Or.inr (Or.inr (Or.inr ⟨h6, ⟨f, hf, e⟩, ⟨t, ht, e2⟩⟩))))), fun M => by rw [fx, bindE rfl]; dsimp only; rw [gx]; rfl, fun M => by rw [fy, bindE rfl]; dsimp only; rw [gy]; rfl⟩
                  · exact Or.inr ⟨fun M => by rw [fx, bindE rfl]; dsimp only; rw [gx]; rfl, fun M => by rw [fy, bindE rfl]; dsimp only; rw [gy]; rfl⟩
                · exact Or.inr ⟨fun M => by rw [fx]; rfl, fun M => by rw [fy]; rfl⟩
              · simp only [if_neg h6]
                exact Or.inr ⟨fun M => rfl, fun M => rfl⟩
theorem qs_T8 (t j : Nat) : qs (33 + 13 * t + 8) j = (99, 0) := by
  unfold qs
  rw [if_neg (by omega), if_neg (by omega), if_neg (by omega), if_neg (by omega), if_neg (by omega), if_neg (by omega), if_neg (by omega), if_neg (by omega), if_neg (by omega)]
  have : (33 + 13 * t + 8 - 33) % 13 = 8 := by omega
  rw [this]
  rfl
theorem ndm99 {n b : Nat} : ¬ dm n 99 b := ndm (by omega)
section OPB
variable {c n u : Nat} {Mx My : Mem}
theorem op_field (h : Rel c n u Mx My) (x1 x2 x3 x4 : Int32) : OpR c (f_X6_field x1 x2 x3 x4 Mx) (f_X7_field x1 x2 x3 x4 My) := by
  have hn := h.n16
  have h0 := h.y0 0
  unfold f_X6_field f_X6_field_0 f_X7_field f_X7_field_0
  simp only [stF, Option.bind_some]
  generalize mset My 0 0 0 = My1 at *
  rcases ty_cases (n := n) hn x1 with ⟨t, ht, rfl, tx, ty⟩ | ⟨-, tx, ty⟩
  · rw [tx Mx h0.e5, ty My1 h0.e1]
    simp only [Option.bind_some]
    rw [if_neg (show ¬ (1 : Int32) = 0 by decide), if_neg (show ¬ (1 : Int32) = 0 by decide)]
    rcases fi_cases x2 with ⟨f, hf, rfl, fx, fy⟩ | ⟨-, fx, fy⟩
    · rw [fx, fy]
      simp only [Option.bind_some]
      rw [if_neg (show ¬ (1 : Int32) = 0 by decide), if_neg (show ¬ (1 : Int32) = 0 by decide)]
      have ht16 : t < 16 := by omega
      have hps := fs_ps (n := n) ht hf
      -- the new memories
      have key : ∀ (k : Int32) (w : Int32) (Mx' : Mem), (k = 1 ∨ k = 2) → Sim n Mx' (mset My1 6 (5 * t + f) k) → (∀ a b, a ≠ 33 + 13 * t + 7 → a ≠ 33 + 13 * t + 8 → Mx' a b = Mx a b) → (∀ b, b ≠ f → Mx' (33 + 13 * t + 8) b = Mx (33 + 13 * t + 8) b) → (k = 1 → Mx' (33 + 13 * t + 8) f = w) → Rel (c + 1) n u Mx' (mset (mset My1 6 (5 * t + f) k) 7 (5 * t + f) w) := by
        intro k w Mx' hk hS hX hX8 hw
        obtain ⟨r1, r2, r3, r4, r5, r6, r7, r8, r9, r10, r11, r12⟩ := h0
        have hy : ∀ a b, a ≠ 6 → a ≠ 7 → mset (mset My1 6 (5 * t + f) k) 7 (5 * t + f) w a b = My1 a b := fun a b q1 q2 => by rw [mset_get_ne _ _ (Or.inl q2), mset_get_ne _ _ (Or.inl q1)]
        have hy6 : ∀ b, mset (mset My1 6 (5 * t + f) k) 7 (5 * t + f) w 6 b = if b = 5 * t + f then k else My1 6 b := fun b => by
          rw [mset_get_ne _ _ (by omega), mset_if]
          simp
        refine ⟨hS.setY (by intro q; rcases dm_cases q with q | q | q | q | q | q | q | q | q | q | q | q | q | q | q <;> omega) w, ⟨?_, ?_, ?_⟩, by rw [hy 0 17 (by omega) (by omega)]; exact r3, by rw [hy 0 19 (by omega) (by omega)]; exact r4, fun b hb => by rw [hy 22 b (by omega) (by omega)]; exact r5 b hb, fun b hb => by rw [hy 10 b (by omega) (by omega)]; exact r6 b hb, ?_, ?_, ?_, by rw [hy 0 16 (by omega) (by omega)]; exact r10, by omega, r12.fr (fun k j _ _ => hX k j (by omega) (by omega)) (fun s hs => hX _ _ (by omega) (by omega)) (fun a b _ _ => hy a b (by omega) (by omega))⟩
        · obtain ⟨w1, w2, w3, w4, w5, w6, w7, w8⟩ := r2.1
          refine ⟨w1, by rw [hy 0 1 (by omega) (by omega)]; exact w2, fun x hx => by rw [hy 1 x (by omega) (by omega)]; exact w3 x hx, fun x hx => by rw [hy 2 x (by omega) (by omega), hy 1 x (by omega) (by omega)]; exact w4 x hx, fun x hx => by rw [hy 3 x (by omega) (by omega)]; exact w5 x hx, fun x hx => ?_, fun q hq => ?_, fun x hx => ?_⟩
          · obtain ⟨d, d1, d2, d3⟩ := w6 x hx
            exact ⟨d, d1, by rw [hy 4 x (by omega) (by omega)]; exact d2, fun j hj => by rw [hy 5 _ (by omega) (by omega)]; exact d3 j hj⟩
          · rw [hy6]
            split
            · rcases hk with rfl | rfl
              · exact Or.inr (Or.inl rfl)
              · exact Or.inr (Or.inr rfl)
            · exact w7 q hq
          · obtain ⟨d, d1, d2, d3⟩ := w8 x hx
            refine ⟨d, d1, by rw [hy 8 x (by omega) (by omega)]; exact d2, fun i hi => ?_⟩
            rw [hy 9 _ (by omega) (by omega), hy 9 _ (by omega) (by omega), hy 9 _ (by omega) (by omega), hy 9 _ (by omega) (by omega)]
            exact d3 i hi
        · intro t' f' ht' hf' he
          rw [hy6] at he
          by_cases e : t' = t ∧ f' = f
          · obtain ⟨rfl, rfl⟩ := e
            rw [if_pos rfl] at he
            rw [hw he, mset_get]
          · have hne : 5 * t' + f' ≠ 5 * t + f := by omega
            rw [if_neg hne] at he
            rw [mset_get_ne _ _ (Or.inr hne), mset_get_ne _ _ (by omega)]
            have := r2.2.1 t' f' ht' hf' he
            rw [← this]
            by_cases e2 : t' = t
            · subst e2
              exact hX8 f' (fun q => e ⟨rfl, q⟩)
            · exact hX _ _ (by omega) (by omega)
        · intro t' ht'
          obtain ⟨a1, a2, a3⟩ := r2.2.2 t' ht'
          rw [chY_c (fun b => hy 2 b (by omega) (by omega)) (fun b => hy 4 b (by omega) (by omega)) (fun b => hy 5 b (by omega) (by omega)), faY_c (fun b => hy 4 b (by omega) (by omega)) (fun b => hy 5 b (by omega) (by omega)), owY_c (fun b => hy 1 b (by omega) (by omega))]
          exact ⟨a1.fr (fun j => hX _ j (by omega) (by omega)) (fun j => hX _ j (by omega) (by omega)), a2.fr (fun j => hX _ j (by omega) (by omega)) (fun j => hX _ j (by omega) (by omega)), a3.fr (fun j => hX _ j (by omega) (by omega)) (fun j => hX _ j (by omega) (by omega))⟩
        · intro t' h1 h2
          obtain ⟨a1, a2⟩ := r7 t' h1 h2
          exact ⟨fun j hj => by rw [hX _ _ (by omega) (by omega), hy 5 _ (by omega) (by omega)]; exact a1 j hj, fun i r hi hr => by rw [hX _ _ (by omega) (by omega), hy 9 _ (by omega) (by omega)]; exact a2 i r hi hr⟩
        · intro t' h1 h2
          obtain ⟨a1, a2, a3⟩ := r8 t' h1 h2
          refine ⟨by rw [hy 4 _ (by omega) (by omega)]; exact a1, by rw [hy 8 _ (by omega) (by omega)]; exact a2, fun g hg => ?_⟩
          rw [hy6, if_neg (by omega)]
          exact a3 g hg
        · intro t' h1
          obtain ⟨a1, a2⟩ := r9 t' h1
          refine ⟨fun s hs q => ?_, fun q => ?_⟩
          · rw [hy 3 _ (by omega) (by omega)] at q
            obtain ⟨b1, b2⟩ := a1 s hs q
            exact ⟨by rw [hy 10 _ (by omega) (by omega)]; exact b1, fun g hg => by rw [hy 11 _ (by omega) (by omega)]; exact b2 g hg⟩
          · obtain ⟨b1, b2, b3⟩ := a2 q
            exact ⟨fun s hs => by rw [hy 12 _ (by omega) (by omega)]; exact b1 s hs, by rw [hy 10 _ (by omega) (by omega)]; exact b2, fun g hg => by rw [hy 11 _ (by omega) (by omega)]; exact b3 g hg⟩
      have plain : x3 = 0 → OpR c (f_X6_field_33 (nI t) (nI f) x3 x4 Mx) (f_X7_field_46 (nI t) (nI f) x3 x4 My1) := by
        intro e3
        unfold f_X6_field_33 f_X7_field_46 f_X7_field_64 f_X7_field_84
        rw [if_pos e3, if_pos e3, ixQ_n ht16, x5, stI_n My1 6 2 (show 5 * t + f < 80 by omega)]
        simp only [Option.bind_some]
        rw [if_pos e3, stI_n Mx _ 2 hf, stI_n _ 7 0 (show 5 * t + f < 80 by omega)]
        simp only [Option.bind_some]
        rw [if_pos e3]
        refine ⟨0, _, _, n, u, rfl, rfl, key 2 0 _ (Or.inr rfl) (h0.1.set hn hps.1 hps.2 2) (fun a b q1 q2 => mset_get_ne _ _ (Or.inl q1)) (fun b hb => mset_get_ne _ _ (by omega)) (fun q => absurd q (by decide))⟩
      have const : x3 ≠ 0 → OpR c (f_X6_field_33 (nI t) (nI f) x3 x4 Mx) (f_X7_field_46 (nI t) (nI f) x3 x4 My1) := by
        intro e3
        unfold f_X6_field_33 f_X7_field_46 f_X7_field_64 f_X7_field_84
        rw [if_neg e3, if_neg e3, ixQ_n ht16, x5, stI_n My1 6 1 (show 5 * t + f < 80 by omega)]
        simp only [Option.bind_some]
        rw [if_neg e3, stI_n Mx _ 1 hf, stI_n _ 7 x4 (show 5 * t + f < 80 by omega)]
        simp only [Option.bind_some]
        rw [if_neg e3, stI_n _ _ x4 hf]
        simp only [Option.bind_some]
        refine ⟨1, _, _, n, u, rfl, rfl, key 1 x4 _ (Or.inl rfl) ((h0.1.set hn hps.1 hps.2 1).setX hn (Or.inl (by rw [qs_T8]; exact ndm99)) x4) (fun a b q1 q2 => by rw [mset_get_ne _ _ (Or.inl q2), mset_get_ne _ _ (Or.inl q1)]) (fun b hb => by rw [mset_get_ne _ _ (Or.inr hb), mset_get_ne _ _ (by omega)]) (fun _ => mset_get _ _ _ _)⟩
      by_cases e3 : x3 = 0
      · rw [if_pos e3, if_pos e3]
        exact plain e3
      · rw [if_neg e3, if_neg e3]
        rcases nu_cases x4 with ⟨-, gx, gy⟩ | ⟨-, gx, gy⟩
        · rw [gx, gy]
          simp only [Option.bind_some]
          rw [if_neg (show ¬ (1 : Int32) = 0 by decide), if_neg (show ¬ (1 : Int32) = 0 by decide)]
          exact const e3
        · rw [gx, gy]
          exact OpR.same h0 _ rfl rfl
    · rw [fx, fy]
      exact OpR.same h0 _ rfl rfl
  · rw [tx Mx h0.e5, ty My1 h0.e1]
    exact OpR.same h0 _ rfl rfl
theorem op_line (h : Rel c n u Mx My) (x1 x2 x3 x4 x5 : Int32) : OpR c (f_X6_line x1 x2 x3 x4 x5 Mx) (f_X7_line x1 x2 x3 x4 x5 My) := by
  have hn := h.n16
  have h0 := h.y0 0
  unfold f_X6_line f_X6_line_0 f_X7_line f_X7_line_0
  simp only [stF, Option.bind_some]
  generalize mset My 0 0 0 = My1 at *
  rcases ty_cases (n := n) hn x1 with ⟨t, ht, rfl, tx, ty⟩ | ⟨-, tx, ty⟩
  · rw [tx Mx h0.e5, ty My1 h0.e1]
    simp only [Option.bind_some]
    rw [if_neg (show ¬ (1 : Int32) = 0 by decide), if_neg (show ¬ (1 : Int32) = 0 by decide)]
    rcases il_cases x2 x3 x4 x5 with ⟨hlok, gx, gy⟩ | ⟨gx, gy⟩
    · rw [gx, gy]
      simp only [Option.bind_some]
      rw [if_neg (show ¬ (1 : Int32) = 0 by decide), if_neg (show ¬ (1 : Int32) = 0 by decide)]
      have ht16 : t < 16 := by omega
      obtain ⟨l, l1, l2, l3⟩ := h0.2.1.1.2.2.2.2.2.2.2 t ht
      have e12 : Mx (33 + 13 * t) 12 = nI l := (h0.1.at 8 t ht rfl).trans l2
      rw [ixQ_n ht16, ldI_n My1 8 ht16, l2]
      simp only [Option.bind_some]
      rw [e12]
      by_cases hl : l < 8
      · rw [if_pos (show nI l < (8 : Int32) from nI_lt (b := 8) hl (by omega)), if_neg (show ¬ nI l = (8 : Int32) from nI_ne (b := 8) (by omega) (by omega) (by omega))]
        have e4 : (32 : Int32) * nI t + (4 : Int32) * nI l = nI (32 * t + 4 * l) := by
          show nI 32 * nI t + nI 4 * nI l = _
          rw [pk_mul, pk_mul, nI_add]
        have m1 : nI (32 * t + 4 * l) + (1 : Int32) = nI (32 * t + 4 * l + 1) := nI_1 _
        have m2 : nI (32 * t + 4 * l) + (2 : Int32) = nI (32 * t + 4 * l + 2) := nI_add _ 2
        have m3 : nI (32 * t + 4 * l) + (3 : Int32) = nI (32 * t + 4 * l + 3) := nI_add _ 3
        rw [e4, m1, m2, m3, stI_n My1 9 x2 (show 32 * t + 4 * l < 512 by omega)]
        simp only [Option.bind_some]
        rw [stI_n _ 9 x3 (show 32 * t + 4 * l + 1 < 512 by omega)]
        simp only [Option.bind_some]
        rw [stI_n _ 9 x4 (show 32 * t + 4 * l + 2 < 512 by omega)]
        simp only [Option.bind_some]
        rw [stI_n _ 9 x5 (show 32 * t + 4 * l + 3 < 512 by omega)]
        simp only [Option.bind_some]
        rw [ldI_n _ 8 ht16, mset_get_ne _ _ (by omega), mset_get_ne _ _ (by omega), mset_get_ne _ _ (by omega), mset_get_ne _ _ (by omega), l2]
        simp only [Option.bind_some]
        rw [stI_n _ 8 _ ht16, nI_1]
        simp only [Option.bind_some]
        rw [ldI_n _ 8 ht16, mset_get]
        simp only [Option.bind_some]
        unfold f_X4_addLine f_X4_addLine_0
        rw [e12, if_neg (show ¬ (8 : Int32) ≤ nI l from nI_ge (a := l) (b := 8) hl (by omega)), stI_n Mx _ x2 hl]
        simp only [Option.bind_some]
        rw [mset_get_ne _ _ (by omega), e12, stI_n _ _ x3 hl]
        simp only [Option.bind_some]
        rw [mset_get_ne _ _ (by omega), mset_get_ne _ _ (by omega), e12, stI_n _ _ x4 hl]
        simp only [Option.bind_some]
        rw [mset_get_ne _ _ (by omega), mset_get_ne _ _ (by omega), mset_get_ne _ _ (by omega), e12, stI_n _ _ x5 hl]
        simp only [Option.bind_some, stF]
        rw [mset_get, mset_get_ne _ _ (by omega), mset_get_ne _ _ (by omega), mset_get_ne _ _ (by omega), mset_get_ne _ _ (by omega), e12, nI_1]
        have p0 := ln_ps (n := n) (t := t) (i := l) (r := 0) ht hl (by omega)
        have p1 := ln_ps (n := n) (t := t) (i := l) (r := 1) ht hl (by omega)
        have p2 := ln_ps (n := n) (t := t) (i := l) (r := 2) ht hl (by omega)
        have p3 := ln_ps (n := n) (t := t) (i := l) (r := 3) ht hl (by omega)
        rw [Nat.add_zero] at p0
        have hS := ((((h0.1.set hn p0.1 p0.2 x2).set hn p1.1 p1.2 x3).set hn p2.1 p2.2 x4).set hn p3.1 p3.2 x5).set hn (a := 8) (b := t) (k := 33 + 13 * t) (j := 12) ht rfl (nI (l + 1))
        refine ⟨_, _, _, n, u, rfl, rfl, ?_⟩
        have hX : ∀ a b, a ≠ 33 + 13 * t + 9 → a ≠ 33 + 13 * t + 10 → a ≠ 33 + 13 * t + 11 → a ≠ 33 + 13 * t + 12 → (a ≠ 33 + 13 * t ∨ b ≠ 12) → mset (mset (mset (mset (mset Mx (33 + 13 * t + 9) l x2) (33 + 13 * t + 10) l x3) (33 + 13 * t + 11) l x4) (33 + 13 * t + 12) l x5) (33 + 13 * t) 12 (nI (l + 1)) a b = Mx a b := fun a b q1 q2 q3 q4 q5 => by
          rw [mset_get_ne _ _ q5, mset_get_ne _ _ (Or.inl q4), mset_get_ne _ _ (Or.inl q3), mset_get_ne _ _ (Or.inl q2), mset_get_ne _ _ (Or.inl q1)]
        have hy : ∀ a b, a ≠ 9 → (a ≠ 8 ∨ b ≠ t) → mset (mset (mset (mset (mset My1 9 (32 * t + 4 * l) x2) 9 (32 * t + 4 * l + 1) x3) 9 (32 * t + 4 * l + 2) x4) 9 (32 * t + 4 * l + 3) x5) 8 t (nI (l + 1)) a b = My1 a b := fun a b q1 q2 => by
          rw [mset_get_ne _ _ q2, mset_get_ne _ _ (Or.inl q1), mset_get_ne _ _ (Or.inl q1), mset_get_ne _ _ (Or.inl q1), mset_get_ne _ _ (Or.inl q1)]
        have hy9 : ∀ b, (b < 32 * t + 4 * l ∨ 32 * t + 4 * l + 3 < b) → mset (mset (mset (mset (mset My1 9 (32 * t + 4 * l) x2) 9 (32 * t + 4 * l + 1) x3) 9 (32 * t + 4 * l + 2) x4) 9 (32 * t + 4 * l + 3) x5) 8 t (nI (l + 1)) 9 b = My1 9 b := fun b q => by
          rw [mset_get_ne _ _ (by omega), mset_get_ne _ _ (by omega), mset_get_ne _ _ (by omega), mset_get_ne _ _ (by omega), mset_get_ne _ _ (by omega)]
        have n0 : mset (mset (mset (mset (mset My1 9 (32 * t + 4 * l) x2) 9 (32 * t + 4 * l + 1) x3) 9 (32 * t + 4 * l + 2) x4) 9 (32 * t + 4 * l + 3) x5) 8 t (nI (l + 1)) 9 (32 * t + 4 * l) = x2 := by
          rw [mset_get_ne _ _ (by omega), mset_get_ne _ _ (by omega), mset_get_ne _ _ (by omega), mset_get_ne _ _ (by omega), mset_get]
        have n1 : mset (mset (mset (mset (mset My1 9 (32 * t + 4 * l) x2) 9 (32 * t + 4 * l + 1) x3) 9 (32 * t + 4 * l + 2) x4) 9 (32 * t + 4 * l + 3) x5) 8 t (nI (l + 1)) 9 (32 * t + 4 * l + 1) = x3 := by
          rw [mset_get_ne _ _ (by omega), mset_get_ne _ _ (by omega), mset_get_ne _ _ (by omega), mset_get]
        have n2 : mset (mset (mset (mset (mset My1 9 (32 * t + 4 * l) x2) 9 (32 * t + 4 * l + 1) x3) 9 (32 * t + 4 * l + 2) x4) 9 (32 * t + 4 * l + 3) x5) 8 t (nI (l + 1)) 9 (32 * t + 4 * l + 2) = x4 := by
          rw [mset_get_ne _ _ (by omega), mset_get_ne _ _ (by omega), mset_get]
        have n3 : mset (mset (mset (mset (mset My1 9 (32 * t + 4 * l) x2) 9 (32 * t + 4 * l + 1) x3) 9 (32 * t + 4 * l + 2) x4) 9 (32 * t + 4 * l + 3) x5) 8 t (nI (l + 1)) 9 (32 * t + 4 * l + 3) = x5 := by
          rw [mset_get_ne _ _ (by omega), mset_get]
        have n8 : mset (mset (mset (mset (mset My1 9 (32 * t + 4 * l) x2) 9 (32 * t + 4 * l + 1) x3) 9 (32 * t + 4 * l + 2) x4) 9 (32 * t + 4 * l + 3) x5) 8 t (nI (l + 1)) 8 t = nI (l + 1) := mset_get _ _ _ _
        have hS' : Sim n (mset (mset (mset (mset (mset Mx (33 + 13 * t + 9) l x2) (33 + 13 * t + 10) l x3) (33 + 13 * t + 11) l x4) (33 + 13 * t + 12) l x5) (33 + 13 * t) 12 (nI (l + 1))) (mset (mset (mset (mset (mset My1 9 (32 * t + 4 * l) x2) 9 (32 * t + 4 * l + 1) x3) 9 (32 * t + 4 * l + 2) x4) 9 (32 * t + 4 * l + 3) x5) 8 t (nI (l + 1))) := hS
        generalize mset (mset (mset (mset (mset Mx (33 + 13 * t + 9) l x2) (33 + 13 * t + 10) l x3) (33 + 13 * t + 11) l x4) (33 + 13 * t + 12) l x5) (33 + 13 * t) 12 (nI (l + 1)) = Mx' at *
        generalize mset (mset (mset (mset (mset My1 9 (32 * t + 4 * l) x2) 9 (32 * t + 4 * l + 1) x3) 9 (32 * t + 4 * l + 2) x4) 9 (32 * t + 4 * l + 3) x5) 8 t (nI (l + 1)) = My' at *
        obtain ⟨r1, r2, r3, r4, r5, r6, r7, r8, r9, r10, r11, r12⟩ := h0
        refine ⟨hS', ⟨?_, ?_, ?_⟩, by rw [hy 0 17 (by omega) (by omega)]; exact r3, by rw [hy 0 19 (by omega) (by omega)]; exact r4, fun b hb => by rw [hy 22 b (by omega) (by omega)]; exact r5 b hb, fun b hb => by rw [hy 10 b (by omega) (by omega)]; exact r6 b hb, ?_, ?_, ?_, by rw [hy 0 16 (by omega) (by omega)]; exact r10, by omega, r12.fr (fun k j _ _ => hX k j (by omega) (by omega) (by omega) (by omega) (by omega)) (fun s hs => hX _ _ (by omega) (by omega) (by omega) (by omega) (by omega)) (fun a b _ _ => hy a b (by omega) (by omega))⟩
        · obtain ⟨w1, w2, w3, w4, w5, w6, w7, w8⟩ := r2.1
          refine ⟨w1, by rw [hy 0 1 (by omega) (by omega)]; exact w2, fun x hx => by rw [hy 1 x (by omega) (by omega)]; exact w3 x hx, fun x hx => by rw [hy 2 x (by omega) (by omega), hy 1 x (by omega) (by omega)]; exact w4 x hx, fun x hx => by rw [hy 3 x (by omega) (by omega)]; exact w5 x hx, fun x hx => ?_, fun q hq => by rw [hy 6 q (by omega) (by omega)]; exact w7 q hq, fun x hx => ?_⟩
          · obtain ⟨d, d1, d2, d3⟩ := w6 x hx
            exact ⟨d, d1, by rw [hy 4 x (by omega) (by omega)]; exact d2, fun j hj => by rw [hy 5 _ (by omega) (by omega)]; exact d3 j hj⟩
          · by_cases e : x = t
            · subst e
              refine ⟨l + 1, by omega, n8, fun i hi => ?_⟩
              by_cases ei : i = l
              · subst ei
                rw [n0, n1, n2, n3]
                exact hlok
              · rw [hy9 _ (by omega), hy9 _ (by omega), hy9 _ (by omega), hy9 _ (by omega)]
                exact l3 i (by omega)
            · obtain ⟨d, d1, d2, d3⟩ := w8 x hx
              refine ⟨d, d1, by rw [hy 8 x (by omega) (Or.inr e)]; exact d2, fun i hi => ?_⟩
              rw [hy9 _ (by omega), hy9 _ (by omega), hy9 _ (by omega), hy9 _ (by omega)]
              exact d3 i hi
        · intro t' f' ht' hf' he
          rw [hy 6 _ (by omega) (by omega)] at he
          rw [hX _ _ (by omega) (by omega) (by omega) (by omega) (by omega), hy 7 _ (by omega) (by omega)]
          exact r2.2.1 t' f' ht' hf' he
        · intro t' ht'
          obtain ⟨a1, a2, a3⟩ := r2.2.2 t' ht'
          rw [chY_c (fun b => hy 2 b (by omega) (by omega)) (fun b => hy 4 b (by omega) (by omega)) (fun b => hy 5 b (by omega) (by omega)), faY_c (fun b => hy 4 b (by omega) (by omega)) (fun b => hy 5 b (by omega) (by omega)), owY_c (fun b => hy 1 b (by omega) (by omega))]
          exact ⟨a1.fr (fun j => hX _ j (by omega) (by omega) (by omega) (by omega) (by omega)) (fun j => hX _ j (by omega) (by omega) (by omega) (by omega) (by omega)), a2.fr (fun j => hX _ j (by omega) (by omega) (by omega) (by omega) (by omega)) (fun j => hX _ j (by omega) (by omega) (by omega) (by omega) (by omega)), a3.fr (fun j => hX _ j (by omega) (by omega) (by omega) (by omega) (by omega)) (fun j => hX _ j (by omega) (by omega) (by omega) (by omega) (by omega))⟩
        · intro t' h1 h2
          obtain ⟨a1, a2⟩ := r7 t' h1 h2
          exact ⟨fun j hj => by rw [hX _ _ (by omega) (by omega) (by omega) (by omega) (by omega), hy 5 _ (by omega) (by omega)]; exact a1 j hj, fun i r hi hr => by rw [hX _ _ (by omega) (by omega) (by omega) (by omega) (by omega), hy9 _ (by omega)]; exact a2 i r hi hr⟩
        · intro t' h1 h2
          obtain ⟨a1, a2, a3⟩ := r8 t' h1 h2
          exact ⟨by rw [hy 4 _ (by omega) (by omega)]; exact a1, by rw [hy 8 _ (by omega) (by omega)]; exact a2, fun g hg => by rw [hy 6 _ (by omega) (by omega)]; exact a3 g hg⟩
        · intro t' h1
          obtain ⟨a1, a2⟩ := r9 t' h1
          refine ⟨fun s hs q => ?_, fun q => ?_⟩
          · rw [hy 3 _ (by omega) (by omega)] at q
            obtain ⟨b1, b2⟩ := a1 s hs q
            exact ⟨by rw [hy 10 _ (by omega) (by omega)]; exact b1, fun g hg => by rw [hy 11 _ (by omega) (by omega)]; exact b2 g hg⟩
          · obtain ⟨b1, b2, b3⟩ := a2 q
            exact ⟨fun s hs => by rw [hy 12 _ (by omega) (by omega)]; exact b1 s hs, by rw [hy 10 _ (by omega) (by omega)]; exact b2, fun g hg => by rw [hy 11 _ (by omega) (by omega)]; exact b3 g hg⟩
      · have he : l = 8 := by omega
        subst he
        rw [if_neg (show ¬ nI 8 < (8 : Int32) by decide), if_pos (show nI 8 = (8 : Int32) from rfl)]
        exact OpR.same h0 _ rfl rfl
    · rw [gx, gy]
      exact OpR.same h0 _ rfl rfl
  · rw [tx Mx h0.e5, ty My1 h0.e1]
    exact OpR.same h0 _ rfl rfl
end OPB
