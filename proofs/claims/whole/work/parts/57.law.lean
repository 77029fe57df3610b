/-! The law: its rows, its cases -/
def LC (p : Program) (s : State) (m : MethodId) (meth : Method) (c : Code) (b L : Nat) (xs : Nat → Int32) (D : va_G) (cI cT cS cZ cJ : ClassId) (sa : Nat) : Prop := CallFix p m c cL_law 7 s #[Value.ref b] gW RL ∧ va_K D vwCl (tyL cI cT cS cJ) s ∧ va_K D vwCl (yty cI cZ) s ∧ va_Nw nW s ∧ mX sa (fun q => s.heap.size ≤ q) s ∧ va_X b L xs s s.heap ∧ b < s.heap.size ∧ meth.sig.returnType = ret ∧ meth.locks = false ∧ L ≤ 3072
abbrev lW (cI cT cS cZ cJ : ClassId) (aX aY : Nat → Nat) (Mx My : Mem) (qo : Nat) (fo : Nat → Int64) : va_W := gw 30 (yE cI cZ) aY My ++ wOX cI cT cS cJ aX Mx qo fo
abbrev lvL (b : Nat) (aX aY : Nat → Nat) (qo k : Nat) : List (Nat × Value) := [(4, .int (nI (6 * k))), (3, .ref qo), (2, .ref (aY 0)), (1, .ref (aX 0)), (0, .ref b)]
theorem kWd.asc {D : va_G} {A : Nat → Prop} {a b c : va_W} {s : State} {H : Heap} {locs : List Loc} (w : kWd D A (a ++ (b ++ c)) s H locs) : kWd D A ((a ++ b) ++ c) s H locs := by
  rw [List.append_assoc]
  exact w
theorem kWd.csa {D : va_G} {A : Nat → Prop} {a b c : va_W} {s : State} {H : Heap} {locs : List Loc} (w : kWd D A ((a ++ b) ++ c) s H locs) : kWd D A (a ++ (b ++ c)) s H locs := by
  rw [← List.append_assoc]
  exact w
def bz (v : Int32) : Int32 := if v = 0 then 0 else 1
theorem bz_b (v : Int32) : isb (bz v) = true := by
  unfold bz
  split <;> rfl
section LR
variable {p : Program} {l : Launch} {e : Env} {R : Room} {s : State} {m : MethodId} {args : Array Value} {below : List Frame} {meth : Method} {c : Code} {H : Heap} {locs : List Loc} {cells slots : Nat} {Q : State → Prop} {cc : ByteArray} {nL pc : Nat} {ls : Array Slot} {rest : List Value} {D : va_G} {ws : va_W} {cI cT cS cZ cJ : ClassId} {b L sa : Nat} {xs : Nat → Int32}
theorem q_bool (hx : p.tables.exec = Jvm.exec) (hb : c.code = cc) {v : Int32} (d0 : decode cc pc = .ok (.ifCond .eq 7, 3)) (d1 : decode cc (pc + 3) = .ok (.iconst 1, 1)) (d2 : decode cc (pc + 4) = .ok (.goto 4, 3)) (d3 : decode cc (pc + 7) = .ok (.iconst 0, 1))
    (kk : W p l e R s m args below meth c H locs cells slots Q (F0 m (pc + 8) ls (.int (bz v) :: rest))) : W p l e R s m args below meth c H locs cells slots Q (F0 m pc ls (.int v :: rest)) := by
  refine lv_if_eq (tgt := pc + 7) hx hb d0 (by omega) (fun h => ?_) (fun h => ?_)
  · refine lv_iconst (v := 0) hx hb d3 (by decide) ?_
    have : bz v = 0 := by unfold bz; rw [if_pos h]
    rw [this] at kk
    exact kk
  · refine lv_iconst (v := 1) hx hb d1 (by decide) ?_
    refine lv_goto (tgt := pc + 8) hx hb d2 (by omega) ?_
    have : bz v = 1 := by unfold bz; rw [if_neg h]
    rw [this] at kk
    exact kk
theorem q_arg {A : Nat → Prop} (hx : p.tables.exec = Jvm.exec) (hb : c.code = cc) (hX : va_X b L xs s s.heap) (hbl : b < s.heap.size) (hbA : ¬ A b) (hL : L ≤ 3072) (w : kWd D A ws s H locs) {lv : List (Nat × Value)} (hl : lv_has ls nL lv) {k j : Nat} (i4 i0 : Nat) (h4 : lv[i4]? = some (4, Value.int (nI (6 * k)))) (h0 : lv[i0]? = some (0, Value.ref b)) {n : Int} (hn : Int32.ofInt n = nI j) (hj : 6 * k + j < L)
    (d0 : decode cc pc = .ok (.aload_n 0, 1)) (d1 : decode cc (pc + 1) = .ok (.iload 4, 2)) (d2 : decode cc (pc + 3) = .ok (.iconst n, 1)) (d3 : decode cc (pc + 4) = .ok (.iadd, 1)) (d4 : decode cc (pc + 5) = .ok (.iaload, 1))
    (kk : W p l e R s m args below meth c H locs cells slots Q (F0 m (pc + 6) ls (.int (xs (6 * k + j)) :: rest))) : W p l e R s m args below meth c H locs cells slots Q (F0 m pc ls rest) := by
  refine lv_aload_n hx hb d0 rfl (lv_at hl i0 h0) ?_
  refine lv_iload hx hb d1 (lv_at hl i4 h4) ?_
  refine lv_iconst (v := nI j) hx hb d2 hn ?_
  refine lv_iadd hx hb d3 ?_
  rw [nI_add]
  refine va_sld hx hb hX hbl hbA w.2.2.1 (vp_in_nI hj (by omega)) d4 ?_
  rw [nI_clamp (by omega)]
  exact kk
end LR
theorem kl_L_19 : Cond.methodLink RL 19 yX6_type ∈ gW := gw_in 261 (by decide +kernel) rfl
theorem kn_X6_type : Cond.instanceMethod yX6_type ∈ gW := gw_in 262 (by decide +kernel) rfl
theorem ks_X6_type : Cond.selects RX6 yX6_type yX6_type ∈ gW := gw_in 263 (by decide +kernel) rfl
theorem kc_X6_type : Cond.code yX6_type cX6_type 5 (some .int) ∈ gW := gw_in 264 (by decide +kernel) rfl
theorem md_X6_type : gMd yX6_type 3 := ⟨by decide +kernel, by decide +kernel, by decide +kernel⟩
theorem gv_L_19 : gWv RL 19 yX6_type cX6_type 5 (some .int) := ⟨kl_L_19, kn_X6_type, ks_X6_type, ki_X6, kc_X6_type⟩
theorem kl_L_23 : Cond.methodLink RL 23 yX7_type ∈ gW := gw_in 705 (by decide +kernel) rfl
theorem kn_X7_type : Cond.instanceMethod yX7_type ∈ gW := gw_in 706 (by decide +kernel) rfl
theorem ks_X7_type : Cond.selects RX7 yX7_type yX7_type ∈ gW := gw_in 707 (by decide +kernel) rfl
theorem kc_X7_type : Cond.code yX7_type cX7_type 4 (some .int) ∈ gW := gw_in 708 (by decide +kernel) rfl
theorem md_X7_type : gMd yX7_type 3 := ⟨by decide +kernel, by decide +kernel, by decide +kernel⟩
theorem gv_L_23 : gWv RL 23 yX7_type cX7_type 4 (some .int) := ⟨kl_L_23, kn_X7_type, ks_X7_type, ki_X7, kc_X7_type⟩
theorem kl_L_24 : Cond.methodLink RL 24 yX6_face ∈ gW := gw_in 305 (by decide +kernel) rfl
theorem kn_X6_face : Cond.instanceMethod yX6_face ∈ gW := gw_in 306 (by decide +kernel) rfl
theorem ks_X6_face : Cond.selects RX6 yX6_face yX6_face ∈ gW := gw_in 307 (by decide +kernel) rfl
theorem kc_X6_face : Cond.code yX6_face cX6_face 5 (some .int) ∈ gW := gw_in 308 (by decide +kernel) rfl
theorem md_X6_face : gMd yX6_face 2 := ⟨by decide +kernel, by decide +kernel, by decide +kernel⟩
theorem gv_L_24 : gWv RL 24 yX6_face cX6_face 5 (some .int) := ⟨kl_L_24, kn_X6_face, ks_X6_face, ki_X6, kc_X6_face⟩
theorem kl_L_28 : Cond.methodLink RL 28 yX7_face ∈ gW := gw_in 716 (by decide +kernel) rfl
theorem kn_X7_face : Cond.instanceMethod yX7_face ∈ gW := gw_in 717 (by decide +kernel) rfl
theorem ks_X7_face : Cond.selects RX7 yX7_face yX7_face ∈ gW := gw_in 718 (by decide +kernel) rfl
theorem kc_X7_face : Cond.code yX7_face cX7_face 5 (some .int) ∈ gW := gw_in 719 (by decide +kernel) rfl
theorem md_X7_face : gMd yX7_face 2 := ⟨by decide +kernel, by decide +kernel, by decide +kernel⟩
theorem gv_L_28 : gWv RL 28 yX7_face cX7_face 5 (some .int) := ⟨kl_L_28, kn_X7_face, ks_X7_face, ki_X7, kc_X7_face⟩
theorem kl_L_29 : Cond.methodLink RL 29 yX6_field ∈ gW := gw_in 310 (by decide +kernel) rfl
theorem kn_X6_field : Cond.instanceMethod yX6_field ∈ gW := gw_in 311 (by decide +kernel) rfl
theorem ks_X6_field : Cond.selects RX6 yX6_field yX6_field ∈ gW := gw_in 312 (by decide +kernel) rfl
theorem kc_X6_field : Cond.code yX6_field cX6_field 5 (some .int) ∈ gW := gw_in 313 (by decide +kernel) rfl
theorem md_X6_field : gMd yX6_field 4 := ⟨by decide +kernel, by decide +kernel, by decide +kernel⟩
theorem gv_L_29 : gWv RL 29 yX6_field cX6_field 5 (some .int) := ⟨kl_L_29, kn_X6_field, ks_X6_field, ki_X6, kc_X6_field⟩
theorem kl_L_33 : Cond.methodLink RL 33 yX7_field ∈ gW := gw_in 720 (by decide +kernel) rfl
theorem kn_X7_field : Cond.instanceMethod yX7_field ∈ gW := gw_in 721 (by decide +kernel) rfl
theorem ks_X7_field : Cond.selects RX7 yX7_field yX7_field ∈ gW := gw_in 722 (by decide +kernel) rfl
theorem kc_X7_field : Cond.code yX7_field cX7_field 5 (some .int) ∈ gW := gw_in 723 (by decide +kernel) rfl
theorem md_X7_field : gMd yX7_field 4 := ⟨by decide +kernel, by decide +kernel, by decide +kernel⟩
theorem gv_L_33 : gWv RL 33 yX7_field cX7_field 5 (some .int) := ⟨kl_L_33, kn_X7_field, ks_X7_field, ki_X7, kc_X7_field⟩
theorem kl_L_34 : Cond.methodLink RL 34 yX6_line ∈ gW := gw_in 320 (by decide +kernel) rfl
theorem kn_X6_line : Cond.instanceMethod yX6_line ∈ gW := gw_in 321 (by decide +kernel) rfl
theorem ks_X6_line : Cond.selects RX6 yX6_line yX6_line ∈ gW := gw_in 322 (by decide +kernel) rfl
theorem kc_X6_line : Cond.code yX6_line cX6_line 6 (some .int) ∈ gW := gw_in 323 (by decide +kernel) rfl
theorem md_X6_line : gMd yX6_line 5 := ⟨by decide +kernel, by decide +kernel, by decide +kernel⟩
theorem gv_L_34 : gWv RL 34 yX6_line cX6_line 6 (some .int) := ⟨kl_L_34, kn_X6_line, ks_X6_line, ki_X6, kc_X6_line⟩
theorem kl_L_38 : Cond.methodLink RL 38 yX7_line ∈ gW := gw_in 724 (by decide +kernel) rfl
theorem kn_X7_line : Cond.instanceMethod yX7_line ∈ gW := gw_in 725 (by decide +kernel) rfl
theorem ks_X7_line : Cond.selects RX7 yX7_line yX7_line ∈ gW := gw_in 726 (by decide +kernel) rfl
theorem kc_X7_line : Cond.code yX7_line cX7_line 7 (some .int) ∈ gW := gw_in 727 (by decide +kernel) rfl
theorem md_X7_line : gMd yX7_line 5 := ⟨by decide +kernel, by decide +kernel, by decide +kernel⟩
theorem gv_L_38 : gWv RL 38 yX7_line cX7_line 7 (some .int) := ⟨kl_L_38, kn_X7_line, ks_X7_line, ki_X7, kc_X7_line⟩
theorem kl_L_39 : Cond.methodLink RL 39 yX6_use ∈ gW := gw_in 334 (by decide +kernel) rfl
theorem kn_X6_use : Cond.instanceMethod yX6_use ∈ gW := gw_in 335 (by decide +kernel) rfl
theorem ks_X6_use : Cond.selects RX6 yX6_use yX6_use ∈ gW := gw_in 336 (by decide +kernel) rfl
theorem kc_X6_use : Cond.code yX6_use cX6_use 9 (some .int) ∈ gW := gw_in 337 (by decide +kernel) rfl
theorem md_X6_use : gMd yX6_use 5 := ⟨by decide +kernel, by decide +kernel, by decide +kernel⟩
theorem gv_L_39 : gWv RL 39 yX6_use cX6_use 9 (some .int) := ⟨kl_L_39, kn_X6_use, ks_X6_use, ki_X6, kc_X6_use⟩
theorem kl_L_42 : Cond.methodLink RL 42 yX7_use ∈ gW := gw_in 731 (by decide +kernel) rfl
theorem kn_X7_use : Cond.instanceMethod yX7_use ∈ gW := gw_in 732 (by decide +kernel) rfl
theorem ks_X7_use : Cond.selects RX7 yX7_use yX7_use ∈ gW := gw_in 733 (by decide +kernel) rfl
theorem kc_X7_use : Cond.code yX7_use cX7_use 9 (some .int) ∈ gW := gw_in 734 (by decide +kernel) rfl
theorem md_X7_use : gMd yX7_use 5 := ⟨by decide +kernel, by decide +kernel, by decide +kernel⟩
theorem gv_L_42 : gWv RL 42 yX7_use cX7_use 9 (some .int) := ⟨kl_L_42, kn_X7_use, ks_X7_use, ki_X7, kc_X7_use⟩
theorem kl_L_43 : Cond.methodLink RL 43 yX6_failure ∈ gW := gw_in 430 (by decide +kernel) rfl
theorem kn_X6_failure : Cond.instanceMethod yX6_failure ∈ gW := gw_in 431 (by decide +kernel) rfl
theorem ks_X6_failure : Cond.selects RX6 yX6_failure yX6_failure ∈ gW := gw_in 432 (by decide +kernel) rfl
theorem kc_X6_failure : Cond.code yX6_failure cX6_failure 1 (some .int) ∈ gW := gw_in 433 (by decide +kernel) rfl
theorem md_X6_failure : gMd yX6_failure 0 := ⟨by decide +kernel, by decide +kernel, by decide +kernel⟩
theorem gv_L_43 : gWv RL 43 yX6_failure cX6_failure 1 (some .int) := ⟨kl_L_43, kn_X6_failure, ks_X6_failure, ki_X6, kc_X6_failure⟩
theorem kl_L_47 : Cond.methodLink RL 47 yX7_failure ∈ gW := gw_in 798 (by decide +kernel) rfl
theorem kn_X7_failure : Cond.instanceMethod yX7_failure ∈ gW := gw_in 799 (by decide +kernel) rfl
theorem ks_X7_failure : Cond.selects RX7 yX7_failure yX7_failure ∈ gW := gw_in 800 (by decide +kernel) rfl
theorem kc_X7_failure : Cond.code yX7_failure cX7_failure 1 (some .int) ∈ gW := gw_in 801 (by decide +kernel) rfl
theorem md_X7_failure : gMd yX7_failure 0 := ⟨by decide +kernel, by decide +kernel, by decide +kernel⟩
theorem gv_L_47 : gWv RL 47 yX7_failure cX7_failure 1 (some .int) := ⟨kl_L_47, kn_X7_failure, ks_X7_failure, ki_X7, kc_X7_failure⟩
theorem kl_L_48 : Cond.methodLink RL 48 yX6_told ∈ gW := gw_in 434 (by decide +kernel) rfl
theorem kn_X6_told : Cond.instanceMethod yX6_told ∈ gW := gw_in 435 (by decide +kernel) rfl
theorem ks_X6_told : Cond.selects RX6 yX6_told yX6_told ∈ gW := gw_in 436 (by decide +kernel) rfl
theorem kc_X6_told : Cond.code yX6_told cX6_told 4 (some .int) ∈ gW := gw_in 437 (by decide +kernel) rfl
theorem md_X6_told : gMd yX6_told 3 := ⟨by decide +kernel, by decide +kernel, by decide +kernel⟩
theorem gv_L_48 : gWv RL 48 yX6_told cX6_told 4 (some .int) := ⟨kl_L_48, kn_X6_told, ks_X6_told, ki_X6, kc_X6_told⟩
theorem kl_L_52 : Cond.methodLink RL 52 yX7_told ∈ gW := gw_in 802 (by decide +kernel) rfl
theorem kn_X7_told : Cond.instanceMethod yX7_told ∈ gW := gw_in 803 (by decide +kernel) rfl
theorem ks_X7_told : Cond.selects RX7 yX7_told yX7_told ∈ gW := gw_in 804 (by decide +kernel) rfl
theorem kc_X7_told : Cond.code yX7_told cX7_told 6 (some .int) ∈ gW := gw_in 805 (by decide +kernel) rfl
theorem md_X7_told : gMd yX7_told 3 := ⟨by decide +kernel, by decide +kernel, by decide +kernel⟩
theorem gv_L_52 : gWv RL 52 yX7_told cX7_told 6 (some .int) := ⟨kl_L_52, kn_X7_told, ks_X7_told, ki_X7, kc_X7_told⟩
theorem kl_L_53 : Cond.methodLink RL 53 yX6_peek ∈ gW := gw_in 442 (by decide +kernel) rfl
theorem kn_X6_peek : Cond.instanceMethod yX6_peek ∈ gW := gw_in 443 (by decide +kernel) rfl
theorem ks_X6_peek : Cond.selects RX6 yX6_peek yX6_peek ∈ gW := gw_in 444 (by decide +kernel) rfl
theorem kc_X6_peek : Cond.code yX6_peek cX6_peek 4 (some .int) ∈ gW := gw_in 445 (by decide +kernel) rfl
theorem md_X6_peek : gMd yX6_peek 3 := ⟨by decide +kernel, by decide +kernel, by decide +kernel⟩
theorem gv_L_53 : gWv RL 53 yX6_peek cX6_peek 4 (some .int) := ⟨kl_L_53, kn_X6_peek, ks_X6_peek, ki_X6, kc_X6_peek⟩
theorem kl_L_56 : Cond.methodLink RL 56 yX7_peek ∈ gW := gw_in 806 (by decide +kernel) rfl
theorem kn_X7_peek : Cond.instanceMethod yX7_peek ∈ gW := gw_in 807 (by decide +kernel) rfl
theorem ks_X7_peek : Cond.selects RX7 yX7_peek yX7_peek ∈ gW := gw_in 808 (by decide +kernel) rfl
theorem kc_X7_peek : Cond.code yX7_peek cX7_peek 4 (some .int) ∈ gW := gw_in 809 (by decide +kernel) rfl
theorem md_X7_peek : gMd yX7_peek 3 := ⟨by decide +kernel, by decide +kernel, by decide +kernel⟩
theorem gv_L_56 : gWv RL 56 yX7_peek cX7_peek 4 (some .int) := ⟨kl_L_56, kn_X7_peek, ks_X7_peek, ki_X7, kc_X7_peek⟩
theorem kl_L_57 : Cond.methodLink RL 57 yX6_start ∈ gW := gw_in 446 (by decide +kernel) rfl
theorem kn_X6_start : Cond.instanceMethod yX6_start ∈ gW := gw_in 447 (by decide +kernel) rfl
theorem ks_X6_start : Cond.selects RX6 yX6_start yX6_start ∈ gW := gw_in 448 (by decide +kernel) rfl
theorem kc_X6_start : Cond.code yX6_start cX6_start 3 (some .int) ∈ gW := gw_in 449 (by decide +kernel) rfl
theorem md_X6_start : gMd yX6_start 2 := ⟨by decide +kernel, by decide +kernel, by decide +kernel⟩
theorem gv_L_57 : gWv RL 57 yX6_start cX6_start 3 (some .int) := ⟨kl_L_57, kn_X6_start, ks_X6_start, ki_X6, kc_X6_start⟩
theorem kl_L_60 : Cond.methodLink RL 60 yX7_start ∈ gW := gw_in 810 (by decide +kernel) rfl
theorem kn_X7_start : Cond.instanceMethod yX7_start ∈ gW := gw_in 811 (by decide +kernel) rfl
theorem ks_X7_start : Cond.selects RX7 yX7_start yX7_start ∈ gW := gw_in 812 (by decide +kernel) rfl
theorem kc_X7_start : Cond.code yX7_start cX7_start 3 (some .int) ∈ gW := gw_in 813 (by decide +kernel) rfl
theorem md_X7_start : gMd yX7_start 2 := ⟨by decide +kernel, by decide +kernel, by decide +kernel⟩
theorem gv_L_60 : gWv RL 60 yX7_start cX7_start 3 (some .int) := ⟨kl_L_60, kn_X7_start, ks_X7_start, ki_X7, kc_X7_start⟩
theorem kl_L_70 : Cond.methodLink RL 70 yX6_steps ∈ gW := gw_in 450 (by decide +kernel) rfl
theorem kn_X6_steps : Cond.instanceMethod yX6_steps ∈ gW := gw_in 451 (by decide +kernel) rfl
theorem ks_X6_steps : Cond.selects RX6 yX6_steps yX6_steps ∈ gW := gw_in 452 (by decide +kernel) rfl
theorem kc_X6_steps : Cond.code yX6_steps cX6_steps 4 (some .int) ∈ gW := gw_in 453 (by decide +kernel) rfl
theorem md_X6_steps : gMd yX6_steps 2 := ⟨by decide +kernel, by decide +kernel, by decide +kernel⟩
theorem gv_L_70 : gWv RL 70 yX6_steps cX6_steps 4 (some .int) := ⟨kl_L_70, kn_X6_steps, ks_X6_steps, ki_X6, kc_X6_steps⟩
theorem kl_L_73 : Cond.methodLink RL 73 yX7_steps ∈ gW := gw_in 818 (by decide +kernel) rfl
theorem kn_X7_steps : Cond.instanceMethod yX7_steps ∈ gW := gw_in 819 (by decide +kernel) rfl
theorem ks_X7_steps : Cond.selects RX7 yX7_steps yX7_steps ∈ gW := gw_in 820 (by decide +kernel) rfl
theorem kc_X7_steps : Cond.code yX7_steps cX7_steps 4 (some .int) ∈ gW := gw_in 821 (by decide +kernel) rfl
theorem md_X7_steps : gMd yX7_steps 2 := ⟨by decide +kernel, by decide +kernel, by decide +kernel⟩
theorem gv_L_73 : gWv RL 73 yX7_steps cX7_steps 4 (some .int) := ⟨kl_L_73, kn_X7_steps, ks_X7_steps, ki_X7, kc_X7_steps⟩
theorem kl_L_74 : Cond.methodLink RL 74 yX6_undo ∈ gW := gw_in 455 (by decide +kernel) rfl
theorem kn_X6_undo : Cond.instanceMethod yX6_undo ∈ gW := gw_in 456 (by decide +kernel) rfl
theorem ks_X6_undo : Cond.selects RX6 yX6_undo yX6_undo ∈ gW := gw_in 457 (by decide +kernel) rfl
theorem kc_X6_undo : Cond.code yX6_undo cX6_undo 5 (some .int) ∈ gW := gw_in 458 (by decide +kernel) rfl
theorem md_X6_undo : gMd yX6_undo 1 := ⟨by decide +kernel, by decide +kernel, by decide +kernel⟩
theorem gv_L_74 : gWv RL 74 yX6_undo cX6_undo 5 (some .int) := ⟨kl_L_74, kn_X6_undo, ks_X6_undo, ki_X6, kc_X6_undo⟩
theorem kl_L_77 : Cond.methodLink RL 77 yX7_undo ∈ gW := gw_in 823 (by decide +kernel) rfl
theorem kn_X7_undo : Cond.instanceMethod yX7_undo ∈ gW := gw_in 824 (by decide +kernel) rfl
theorem ks_X7_undo : Cond.selects RX7 yX7_undo yX7_undo ∈ gW := gw_in 825 (by decide +kernel) rfl
theorem kc_X7_undo : Cond.code yX7_undo cX7_undo 3 (some .int) ∈ gW := gw_in 826 (by decide +kernel) rfl
theorem md_X7_undo : gMd yX7_undo 1 := ⟨by decide +kernel, by decide +kernel, by decide +kernel⟩
theorem gv_L_77 : gWv RL 77 yX7_undo cX7_undo 3 (some .int) := ⟨kl_L_77, kn_X7_undo, ks_X7_undo, ki_X7, kc_X7_undo⟩
theorem kl_L_78 : Cond.methodLink RL 78 yX6_restart ∈ gW := gw_in 459 (by decide +kernel) rfl
theorem kn_X6_restart : Cond.instanceMethod yX6_restart ∈ gW := gw_in 460 (by decide +kernel) rfl
theorem ks_X6_restart : Cond.selects RX6 yX6_restart yX6_restart ∈ gW := gw_in 461 (by decide +kernel) rfl
theorem kc_X6_restart : Cond.code yX6_restart cX6_restart 2 (some .int) ∈ gW := gw_in 462 (by decide +kernel) rfl
theorem md_X6_restart : gMd yX6_restart 1 := ⟨by decide +kernel, by decide +kernel, by decide +kernel⟩
theorem gv_L_78 : gWv RL 78 yX6_restart cX6_restart 2 (some .int) := ⟨kl_L_78, kn_X6_restart, ks_X6_restart, ki_X6, kc_X6_restart⟩
theorem kl_L_81 : Cond.methodLink RL 81 yX7_restart ∈ gW := gw_in 827 (by decide +kernel) rfl
theorem kn_X7_restart : Cond.instanceMethod yX7_restart ∈ gW := gw_in 828 (by decide +kernel) rfl
theorem ks_X7_restart : Cond.selects RX7 yX7_restart yX7_restart ∈ gW := gw_in 829 (by decide +kernel) rfl
theorem kc_X7_restart : Cond.code yX7_restart cX7_restart 6 (some .int) ∈ gW := gw_in 830 (by decide +kernel) rfl
theorem md_X7_restart : gMd yX7_restart 1 := ⟨by decide +kernel, by decide +kernel, by decide +kernel⟩
theorem gv_L_81 : gWv RL 81 yX7_restart cX7_restart 6 (some .int) := ⟨kl_L_81, kn_X7_restart, ks_X7_restart, ki_X7, kc_X7_restart⟩
theorem kl_L_82 : Cond.methodLink RL 82 yX6_about ∈ gW := gw_in 473 (by decide +kernel) rfl
theorem kn_X6_about : Cond.instanceMethod yX6_about ∈ gW := gw_in 474 (by decide +kernel) rfl
theorem ks_X6_about : Cond.selects RX6 yX6_about yX6_about ∈ gW := gw_in 475 (by decide +kernel) rfl
theorem kc_X6_about : Cond.code yX6_about cX6_about 2 (some .int) ∈ gW := gw_in 476 (by decide +kernel) rfl
theorem md_X6_about : gMd yX6_about 1 := ⟨by decide +kernel, by decide +kernel, by decide +kernel⟩
theorem gv_L_82 : gWv RL 82 yX6_about cX6_about 2 (some .int) := ⟨kl_L_82, kn_X6_about, ks_X6_about, ki_X6, kc_X6_about⟩
theorem kl_L_85 : Cond.methodLink RL 85 yX7_about ∈ gW := gw_in 831 (by decide +kernel) rfl
theorem kn_X7_about : Cond.instanceMethod yX7_about ∈ gW := gw_in 832 (by decide +kernel) rfl
theorem ks_X7_about : Cond.selects RX7 yX7_about yX7_about ∈ gW := gw_in 833 (by decide +kernel) rfl
theorem kc_X7_about : Cond.code yX7_about cX7_about 2 (some .int) ∈ gW := gw_in 834 (by decide +kernel) rfl
theorem md_X7_about : gMd yX7_about 1 := ⟨by decide +kernel, by decide +kernel, by decide +kernel⟩
theorem gv_L_85 : gWv RL 85 yX7_about cX7_about 2 (some .int) := ⟨kl_L_85, kn_X7_about, ks_X7_about, ki_X7, kc_X7_about⟩
theorem kl_L_86 : Cond.methodLink RL 86 yX6_clear ∈ gW := gw_in 477 (by decide +kernel) rfl
theorem kn_X6_clear : Cond.instanceMethod yX6_clear ∈ gW := gw_in 478 (by decide +kernel) rfl
theorem ks_X6_clear : Cond.selects RX6 yX6_clear yX6_clear ∈ gW := gw_in 479 (by decide +kernel) rfl
theorem kc_X6_clear : Cond.code yX6_clear cX6_clear 3 (some .int) ∈ gW := gw_in 480 (by decide +kernel) rfl
theorem md_X6_clear : gMd yX6_clear 0 := ⟨by decide +kernel, by decide +kernel, by decide +kernel⟩
theorem gv_L_86 : gWv RL 86 yX6_clear cX6_clear 3 (some .int) := ⟨kl_L_86, kn_X6_clear, ks_X6_clear, ki_X6, kc_X6_clear⟩
theorem kl_L_89 : Cond.methodLink RL 89 yX7_clear ∈ gW := gw_in 835 (by decide +kernel) rfl
theorem kn_X7_clear : Cond.instanceMethod yX7_clear ∈ gW := gw_in 836 (by decide +kernel) rfl
theorem ks_X7_clear : Cond.selects RX7 yX7_clear yX7_clear ∈ gW := gw_in 837 (by decide +kernel) rfl
theorem kc_X7_clear : Cond.code yX7_clear cX7_clear 2 (some .int) ∈ gW := gw_in 838 (by decide +kernel) rfl
theorem md_X7_clear : gMd yX7_clear 0 := ⟨by decide +kernel, by decide +kernel, by decide +kernel⟩
theorem gv_L_89 : gWv RL 89 yX7_clear cX7_clear 2 (some .int) := ⟨kl_L_89, kn_X7_clear, ks_X7_clear, ki_X7, kc_X7_clear⟩
theorem kl_L_66 : Cond.methodLink RL 66 yX7_message ∈ gW := gw_in 814 (by decide +kernel) rfl
theorem kn_X7_message : Cond.instanceMethod yX7_message ∈ gW := gw_in 815 (by decide +kernel) rfl
theorem ks_X7_message : Cond.selects RX7 yX7_message yX7_message ∈ gW := gw_in 816 (by decide +kernel) rfl
theorem kc_X7_message : Cond.code yX7_message cX7_message 2 (some .int) ∈ gW := gw_in 817 (by decide +kernel) rfl
theorem md_X7_message : gMd yX7_message 1 := ⟨by decide +kernel, by decide +kernel, by decide +kernel⟩
theorem gv_L_66 : gWv RL 66 yX7_message cX7_message 2 (some .int) := ⟨kl_L_66, kn_X7_message, ks_X7_message, ki_X7, kc_X7_message⟩
theorem kl_L_67 : Cond.methodLink RL 67 yX7_thrown ∈ gW := gw_in 701 (by decide +kernel) rfl
theorem kn_X7_thrown : Cond.instanceMethod yX7_thrown ∈ gW := gw_in 702 (by decide +kernel) rfl
theorem ks_X7_thrown : Cond.selects RX7 yX7_thrown yX7_thrown ∈ gW := gw_in 703 (by decide +kernel) rfl
theorem kc_X7_thrown : Cond.code yX7_thrown cX7_thrown 1 (some .int) ∈ gW := gw_in 704 (by decide +kernel) rfl
theorem md_X7_thrown : gMd yX7_thrown 0 := ⟨by decide +kernel, by decide +kernel, by decide +kernel⟩
theorem gv_L_67 : gWv RL 67 yX7_thrown cX7_thrown 1 (some .int) := ⟨kl_L_67, kn_X7_thrown, ks_X7_thrown, ki_X7, kc_X7_thrown⟩
set_option maxRecDepth 100000 in
theorem law_0 {p : Program} {l : Launch} {e : Env} {s : State} {m : MethodId} {below : List Frame} {meth : Method} {c : Code} {H : Heap} {locs : List Loc} {Q : State → Prop} {ls : Array Slot} {D : va_G} {cI cT cS cZ cJ : ClassId} {aX aY : Nat → Nat} {qo sa : Nat} {fo : Nat → Int64} {Mx My : Mem} {b L k n u : Nat} {xs : Nat → Int32} (C : LC p s m meth c b L xs D cI cT cS cZ cJ sa) (hR : Rel k n u Mx My) (hk : 6 * k + 6 ≤ L) (w : kWd D (fun q => s.heap.size ≤ q) (lW cI cT cS cZ cJ aX aY Mx My qo fo) s H locs) (hl : lv_has ls 7 (lvL b aX aY qo k)) (K : ∀ (n u : Nat) (Mx My : Mem) (fo : Nat → Int64) (H : Heap) (locs : List Loc) (ls : Array Slot), Rel (k + 1) n u Mx My → kWd D (fun q => s.heap.size ≤ q) (lW cI cT cS cZ cJ aX aY Mx My qo fo) s H locs → lv_has ls 7 (lvL b aX aY qo k) → W p l e room_1 s m #[Value.ref b] below meth c H locs (272 + (k + 1)) (12013 + 6 * (k + 1)) Q (F0 m 770 ls [])) : W p l e room_1 s m #[Value.ref b] below meth c H locs (272 + k) (12013 + 6 * k) Q (F0 m 116 ls []) := by
  have hL := C.2.2.2.2.2.2.2.2.2
  have hx := C.1.1
  have hb := C.1.2.1
  have hbA : ¬ (fun q : Nat => s.heap.size ≤ q) b := Nat.not_le.mpr C.2.2.2.2.2.2.1
  obtain ⟨r, Mx1, My1, n1, u1, e1, e2, hR1⟩ := op_type hR (xs (6 * k + 1)) (xs (6 * k + 2)) (bz (xs (6 * k + 3))) (bz_b _)
  refine lv_aload_n hx hb dL_law_116 rfl (lv_at hl 3 rfl) ?_
  refine q_arg (j := 1) hx hb C.2.2.2.2.2.1 C.2.2.2.2.2.2.1 hbA C.2.2.2.2.2.2.2.2.2 w hl 0 4 rfl rfl rfl (by omega) dL_law_117 dL_law_118 dL_law_120 dL_law_121 dL_law_122 ?_
  refine q_arg (j := 2) hx hb C.2.2.2.2.2.1 C.2.2.2.2.2.2.1 hbA C.2.2.2.2.2.2.2.2.2 w hl 0 4 rfl rfl rfl (by omega) dL_law_123 dL_law_124 dL_law_126 dL_law_127 dL_law_128 ?_
  refine q_arg (j := 3) hx hb C.2.2.2.2.2.1 C.2.2.2.2.2.2.1 hbA C.2.2.2.2.2.2.2.2.2 w hl 0 4 rfl rfl rfl (by omega) dL_law_129 dL_law_130 dL_law_132 dL_law_133 dL_law_134 ?_
  refine q_bool hx hb dL_law_135 dL_law_138 dL_law_139 dL_law_142 ?_
  replace w := kWd.asc (a := gw 30 (yE cI cZ) aY My) (b := wO cJ qo fo) (c := gw 241 (xE cI cT cS) aX Mx) w
  refine q_callI (rest := []) C.1 (C.2.1.sub (tys' := xty cI cT cS) [0, 1, 2] rfl) C.2.2.2.1 w (c_X6_type (gInj_D (va_Dr w.2.1)) e1) ob_X6 rfl gv_L_19 md_X6_type rfl ⟨Nat.le_of_ble_eq_true rfl, Nat.le_of_ble_eq_true rfl⟩ hl.1 rfl (Nat.le_of_ble_eq_true rfl) ⟨by show 272 + k ≤ 603072; omega, by show 12013 + 6 * k ≤ 7194730; omega⟩ dL_law_143 (fun H locs w => ?_)
  replace w := (kWd.csa w).sw
  refine lv_aload_n hx hb dL_law_146 rfl (lv_at hl 2 rfl) ?_
  refine q_arg (j := 1) hx hb C.2.2.2.2.2.1 C.2.2.2.2.2.2.1 hbA C.2.2.2.2.2.2.2.2.2 w hl 0 4 rfl rfl rfl (by omega) dL_law_147 dL_law_148 dL_law_150 dL_law_151 dL_law_152 ?_
  refine q_arg (j := 2) hx hb C.2.2.2.2.2.1 C.2.2.2.2.2.2.1 hbA C.2.2.2.2.2.2.2.2.2 w hl 0 4 rfl rfl rfl (by omega) dL_law_153 dL_law_154 dL_law_156 dL_law_157 dL_law_158 ?_
  refine q_arg (j := 3) hx hb C.2.2.2.2.2.1 C.2.2.2.2.2.2.1 hbA C.2.2.2.2.2.2.2.2.2 w hl 0 4 rfl rfl rfl (by omega) dL_law_159 dL_law_160 dL_law_162 dL_law_163 dL_law_164 ?_
  refine q_bool hx hb dL_law_165 dL_law_168 dL_law_169 dL_law_172 ?_
  refine q_callI (rest := [.int r]) C.1 C.2.2.1 C.2.2.2.1 w (c_X7_type (gInj_D (va_Dr w.2.1)) e2) ob_X7 rfl gv_L_23 md_X7_type rfl ⟨Nat.le_of_ble_eq_true rfl, Nat.le_of_ble_eq_true rfl⟩ hl.1 rfl (Nat.le_of_ble_eq_true rfl) ⟨by show 272 + k ≤ 603072; omega, by show 12013 + 6 * k ≤ 7194730; omega⟩ dL_law_173 (fun H locs w => ?_)
  refine lv_icmp_eq (tgt := 770) hx hb dL_law_176 (by decide) (fun _ => ?_) (fun h => absurd rfl h)
  refine W.widen (k := 272 + (k + 1)) (n := 12013 + 6 * (k + 1)) (by omega) (by omega) ?_
  exact K n1 u1 Mx1 My1 fo H locs ls hR1 w.sw hl
set_option maxRecDepth 100000 in
theorem law_1 {p : Program} {l : Launch} {e : Env} {s : State} {m : MethodId} {below : List Frame} {meth : Method} {c : Code} {H : Heap} {locs : List Loc} {Q : State → Prop} {ls : Array Slot} {D : va_G} {cI cT cS cZ cJ : ClassId} {aX aY : Nat → Nat} {qo sa : Nat} {fo : Nat → Int64} {Mx My : Mem} {b L k n u : Nat} {xs : Nat → Int32} (C : LC p s m meth c b L xs D cI cT cS cZ cJ sa) (hR : Rel k n u Mx My) (hk : 6 * k + 6 ≤ L) (w : kWd D (fun q => s.heap.size ≤ q) (lW cI cT cS cZ cJ aX aY Mx My qo fo) s H locs) (hl : lv_has ls 7 (lvL b aX aY qo k)) (K : ∀ (n u : Nat) (Mx My : Mem) (fo : Nat → Int64) (H : Heap) (locs : List Loc) (ls : Array Slot), Rel (k + 1) n u Mx My → kWd D (fun q => s.heap.size ≤ q) (lW cI cT cS cZ cJ aX aY Mx My qo fo) s H locs → lv_has ls 7 (lvL b aX aY qo k) → W p l e room_1 s m #[Value.ref b] below meth c H locs (272 + (k + 1)) (12013 + 6 * (k + 1)) Q (F0 m 770 ls [])) : W p l e room_1 s m #[Value.ref b] below meth c H locs (272 + k) (12013 + 6 * k) Q (F0 m 181 ls []) := by
  have hL := C.2.2.2.2.2.2.2.2.2
  have hx := C.1.1
  have hb := C.1.2.1
  have hbA : ¬ (fun q : Nat => s.heap.size ≤ q) b := Nat.not_le.mpr C.2.2.2.2.2.2.1
  obtain ⟨r, Mx1, My1, n1, u1, e1, e2, hR1⟩ := op_face hR (xs (6 * k + 1)) (xs (6 * k + 2))
  refine lv_aload_n hx hb dL_law_181 rfl (lv_at hl 3 rfl) ?_
  refine q_arg (j := 1) hx hb C.2.2.2.2.2.1 C.2.2.2.2.2.2.1 hbA C.2.2.2.2.2.2.2.2.2 w hl 0 4 rfl rfl rfl (by omega) dL_law_182 dL_law_183 dL_law_185 dL_law_186 dL_law_187 ?_
  refine q_arg (j := 2) hx hb C.2.2.2.2.2.1 C.2.2.2.2.2.2.1 hbA C.2.2.2.2.2.2.2.2.2 w hl 0 4 rfl rfl rfl (by omega) dL_law_188 dL_law_189 dL_law_191 dL_law_192 dL_law_193 ?_
  replace w := kWd.asc (a := gw 30 (yE cI cZ) aY My) (b := wO cJ qo fo) (c := gw 241 (xE cI cT cS) aX Mx) w
  refine q_callI (rest := []) C.1 (C.2.1.sub (tys' := xty cI cT cS) [0, 1, 2] rfl) C.2.2.2.1 w (c_X6_face (gInj_D (va_Dr w.2.1)) e1) ob_X6 rfl gv_L_24 md_X6_face rfl ⟨Nat.le_of_ble_eq_true rfl, Nat.le_of_ble_eq_true rfl⟩ hl.1 rfl (Nat.le_of_ble_eq_true rfl) ⟨by show 272 + k ≤ 603072; omega, by show 12013 + 6 * k ≤ 7194730; omega⟩ dL_law_194 (fun H locs w => ?_)
  replace w := (kWd.csa w).sw
  refine lv_aload_n hx hb dL_law_197 rfl (lv_at hl 2 rfl) ?_
  refine q_arg (j := 1) hx hb C.2.2.2.2.2.1 C.2.2.2.2.2.2.1 hbA C.2.2.2.2.2.2.2.2.2 w hl 0 4 rfl rfl rfl (by omega) dL_law_198 dL_law_199 dL_law_201 dL_law_202 dL_law_203 ?_
  refine q_arg (j := 2) hx hb C.2.2.2.2.2.1 C.2.2.2.2.2.2.1 hbA C.2.2.2.2.2.2.2.2.2 w hl 0 4 rfl rfl rfl (by omega) dL_law_204 dL_law_205 dL_law_207 dL_law_208 dL_law_209 ?_
  refine q_callI (rest := [.int r]) C.1 C.2.2.1 C.2.2.2.1 w (c_X7_face (gInj_D (va_Dr w.2.1)) e2) ob_X7 rfl gv_L_28 md_X7_face rfl ⟨Nat.le_of_ble_eq_true rfl, Nat.le_of_ble_eq_true rfl⟩ hl.1 rfl (Nat.le_of_ble_eq_true rfl) ⟨by show 272 + k ≤ 603072; omega, by show 12013 + 6 * k ≤ 7194730; omega⟩ dL_law_210 (fun H locs w => ?_)
  refine lv_icmp_eq (tgt := 770) hx hb dL_law_213 (by decide) (fun _ => ?_) (fun h => absurd rfl h)
  refine W.widen (k := 272 + (k + 1)) (n := 12013 + 6 * (k + 1)) (by omega) (by omega) ?_
  exact K n1 u1 Mx1 My1 fo H locs ls hR1 w.sw hl
set_option maxRecDepth 100000 in
theorem law_2 {p : Program} {l : Launch} {e : Env} {s : State} {m : MethodId} {below : List Frame} {meth : Method} {c : Code} {H : Heap} {locs : List Loc} {Q : State → Prop} {ls : Array Slot} {D : va_G} {cI cT cS cZ cJ : ClassId} {aX aY : Nat → Nat} {qo sa : Nat} {fo : Nat → Int64} {Mx My : Mem} {b L k n u : Nat} {xs : Nat → Int32} (C : LC p s m meth c b L xs D cI cT cS cZ cJ sa) (hR : Rel k n u Mx My) (hk : 6 * k + 6 ≤ L) (w : kWd D (fun q => s.heap.size ≤ q) (lW cI cT cS cZ cJ aX aY Mx My qo fo) s H locs) (hl : lv_has ls 7 (lvL b aX aY qo k)) (K : ∀ (n u : Nat) (Mx My : Mem) (fo : Nat → Int64) (H : Heap) (locs : List Loc) (ls : Array Slot), Rel (k + 1) n u Mx My → kWd D (fun q => s.heap.size ≤ q) (lW cI cT cS cZ cJ aX aY Mx My qo fo) s H locs → lv_has ls 7 (lvL b aX aY qo k) → W p l e room_1 s m #[Value.ref b] below meth c H locs (272 + (k + 1)) (12013 + 6 * (k + 1)) Q (F0 m 770 ls [])) : W p l e room_1 s m #[Value.ref b] below meth c H locs (272 + k) (12013 + 6 * k) Q (F0 m 218 ls []) := by
  have hL := C.2.2.2.2.2.2.2.2.2
  have hx := C.1.1
  have hb := C.1.2.1
  have hbA : ¬ (fun q : Nat => s.heap.size ≤ q) b := Nat.not_le.mpr C.2.2.2.2.2.2.1
  obtain ⟨r, Mx1, My1, n1, u1, e1, e2, hR1⟩ := op_field hR (xs (6 * k + 1)) (xs (6 * k + 2)) (bz (xs (6 * k + 3))) (xs (6 * k + 4))
  refine lv_aload_n hx hb dL_law_218 rfl (lv_at hl 3 rfl) ?_
  refine q_arg (j := 1) hx hb C.2.2.2.2.2.1 C.2.2.2.2.2.2.1 hbA C.2.2.2.2.2.2.2.2.2 w hl 0 4 rfl rfl rfl (by omega) dL_law_219 dL_law_220 dL_law_222 dL_law_223 dL_law_224 ?_
  refine q_arg (j := 2) hx hb C.2.2.2.2.2.1 C.2.2.2.2.2.2.1 hbA C.2.2.2.2.2.2.2.2.2 w hl 0 4 rfl rfl rfl (by omega) dL_law_225 dL_law_226 dL_law_228 dL_law_229 dL_law_230 ?_
  refine q_arg (j := 3) hx hb C.2.2.2.2.2.1 C.2.2.2.2.2.2.1 hbA C.2.2.2.2.2.2.2.2.2 w hl 0 4 rfl rfl rfl (by omega) dL_law_231 dL_law_232 dL_law_234 dL_law_235 dL_law_236 ?_
  refine q_bool hx hb dL_law_237 dL_law_240 dL_law_241 dL_law_244 ?_
  refine q_arg (j := 4) hx hb C.2.2.2.2.2.1 C.2.2.2.2.2.2.1 hbA C.2.2.2.2.2.2.2.2.2 w hl 0 4 rfl rfl rfl (by omega) dL_law_245 dL_law_246 dL_law_248 dL_law_249 dL_law_250 ?_
  replace w := kWd.asc (a := gw 30 (yE cI cZ) aY My) (b := wO cJ qo fo) (c := gw 241 (xE cI cT cS) aX Mx) w
  refine q_callI (rest := []) C.1 (C.2.1.sub (tys' := xty cI cT cS) [0, 1, 2] rfl) C.2.2.2.1 w (c_X6_field (gInj_D (va_Dr w.2.1)) e1) ob_X6 rfl gv_L_29 md_X6_field rfl ⟨Nat.le_of_ble_eq_true rfl, Nat.le_of_ble_eq_true rfl⟩ hl.1 rfl (Nat.le_of_ble_eq_true rfl) ⟨by show 272 + k ≤ 603072; omega, by show 12013 + 6 * k ≤ 7194730; omega⟩ dL_law_251 (fun H locs w => ?_)
  replace w := (kWd.csa w).sw
  refine lv_aload_n hx hb dL_law_254 rfl (lv_at hl 2 rfl) ?_
  refine q_arg (j := 1) hx hb C.2.2.2.2.2.1 C.2.2.2.2.2.2.1 hbA C.2.2.2.2.2.2.2.2.2 w hl 0 4 rfl rfl rfl (by omega) dL_law_255 dL_law_256 dL_law_258 dL_law_259 dL_law_260 ?_
  refine q_arg (j := 2) hx hb C.2.2.2.2.2.1 C.2.2.2.2.2.2.1 hbA C.2.2.2.2.2.2.2.2.2 w hl 0 4 rfl rfl rfl (by omega) dL_law_261 dL_law_262 dL_law_264 dL_law_265 dL_law_266 ?_
  refine q_arg (j := 3) hx hb C.2.2.2.2.2.1 C.2.2.2.2.2.2.1 hbA C.2.2.2.2.2.2.2.2.2 w hl 0 4 rfl rfl rfl (by omega) dL_law_267 dL_law_268 dL_law_270 dL_law_271 dL_law_272 ?_
  refine q_bool hx hb dL_law_273 dL_law_276 dL_law_277 dL_law_280 ?_
  refine q_arg (j := 4) hx hb C.2.2.2.2.2.1 C.2.2.2.2.2.2.1 hbA C.2.2.2.2.2.2.2.2.2 w hl 0 4 rfl rfl rfl (by omega) dL_law_281 dL_law_282 dL_law_284 dL_law_285 dL_law_286 ?_
  refine q_callI (rest := [.int r]) C.1 C.2.2.1 C.2.2.2.1 w (c_X7_field (gInj_D (va_Dr w.2.1)) e2) ob_X7 rfl gv_L_33 md_X7_field rfl ⟨Nat.le_of_ble_eq_true rfl, Nat.le_of_ble_eq_true rfl⟩ hl.1 rfl (Nat.le_of_ble_eq_true rfl) ⟨by show 272 + k ≤ 603072; omega, by show 12013 + 6 * k ≤ 7194730; omega⟩ dL_law_287 (fun H locs w => ?_)
  refine lv_icmp_eq (tgt := 770) hx hb dL_law_290 (by decide) (fun _ => ?_) (fun h => absurd rfl h)
  refine W.widen (k := 272 + (k + 1)) (n := 12013 + 6 * (k + 1)) (by omega) (by omega) ?_
  exact K n1 u1 Mx1 My1 fo H locs ls hR1 w.sw hl
set_option maxRecDepth 100000 in
theorem law_3 {p : Program} {l : Launch} {e : Env} {s : State} {m : MethodId} {below : List Frame} {meth : Method} {c : Code} {H : Heap} {locs : List Loc} {Q : State → Prop} {ls : Array Slot} {D : va_G} {cI cT cS cZ cJ : ClassId} {aX aY : Nat → Nat} {qo sa : Nat} {fo : Nat → Int64} {Mx My : Mem} {b L k n u : Nat} {xs : Nat → Int32} (C : LC p s m meth c b L xs D cI cT cS cZ cJ sa) (hR : Rel k n u Mx My) (hk : 6 * k + 6 ≤ L) (w : kWd D (fun q => s.heap.size ≤ q) (lW cI cT cS cZ cJ aX aY Mx My qo fo) s H locs) (hl : lv_has ls 7 (lvL b aX aY qo k)) (K : ∀ (n u : Nat) (Mx My : Mem) (fo : Nat → Int64) (H : Heap) (locs : List Loc) (ls : Array Slot), Rel (k + 1) n u Mx My → kWd D (fun q => s.heap.size ≤ q) (lW cI cT cS cZ cJ aX aY Mx My qo fo) s H locs → lv_has ls 7 (lvL b aX aY qo k) → W p l e room_1 s m #[Value.ref b] below meth c H locs (272 + (k + 1)) (12013 + 6 * (k + 1)) Q (F0 m 770 ls [])) : W p l e room_1 s m #[Value.ref b] below meth c H locs (272 + k) (12013 + 6 * k) Q (F0 m 295 ls []) := by
  have hL := C.2.2.2.2.2.2.2.2.2
  have hx := C.1.1
  have hb := C.1.2.1
  have hbA : ¬ (fun q : Nat => s.heap.size ≤ q) b := Nat.not_le.mpr C.2.2.2.2.2.2.1
  obtain ⟨r, Mx1, My1, n1, u1, e1, e2, hR1⟩ := op_line hR (xs (6 * k + 1)) (xs (6 * k + 2)) (xs (6 * k + 3)) (xs (6 * k + 4)) (xs (6 * k + 5))
  refine lv_aload_n hx hb dL_law_295 rfl (lv_at hl 3 rfl) ?_
  refine q_arg (j := 1) hx hb C.2.2.2.2.2.1 C.2.2.2.2.2.2.1 hbA C.2.2.2.2.2.2.2.2.2 w hl 0 4 rfl rfl rfl (by omega) dL_law_296 dL_law_297 dL_law_299 dL_law_300 dL_law_301 ?_
  refine q_arg (j := 2) hx hb C.2.2.2.2.2.1 C.2.2.2.2.2.2.1 hbA C.2.2.2.2.2.2.2.2.2 w hl 0 4 rfl rfl rfl (by omega) dL_law_302 dL_law_303 dL_law_305 dL_law_306 dL_law_307 ?_
  refine q_arg (j := 3) hx hb C.2.2.2.2.2.1 C.2.2.2.2.2.2.1 hbA C.2.2.2.2.2.2.2.2.2 w hl 0 4 rfl rfl rfl (by omega) dL_law_308 dL_law_309 dL_law_311 dL_law_312 dL_law_313 ?_
  refine q_arg (j := 4) hx hb C.2.2.2.2.2.1 C.2.2.2.2.2.2.1 hbA C.2.2.2.2.2.2.2.2.2 w hl 0 4 rfl rfl rfl (by omega) dL_law_314 dL_law_315 dL_law_317 dL_law_318 dL_law_319 ?_
  refine q_arg (j := 5) hx hb C.2.2.2.2.2.1 C.2.2.2.2.2.2.1 hbA C.2.2.2.2.2.2.2.2.2 w hl 0 4 rfl rfl rfl (by omega) dL_law_320 dL_law_321 dL_law_323 dL_law_324 dL_law_325 ?_
  replace w := kWd.asc (a := gw 30 (yE cI cZ) aY My) (b := wO cJ qo fo) (c := gw 241 (xE cI cT cS) aX Mx) w
  refine q_callI (rest := []) C.1 (C.2.1.sub (tys' := xty cI cT cS) [0, 1, 2] rfl) C.2.2.2.1 w (c_X6_line (gInj_D (va_Dr w.2.1)) e1) ob_X6 rfl gv_L_34 md_X6_line rfl ⟨Nat.le_of_ble_eq_true rfl, Nat.le_of_ble_eq_true rfl⟩ hl.1 rfl (Nat.le_of_ble_eq_true rfl) ⟨by show 272 + k ≤ 603072; omega, by show 12013 + 6 * k ≤ 7194730; omega⟩ dL_law_326 (fun H locs w => ?_)
  replace w := (kWd.csa w).sw
  refine lv_aload_n hx hb dL_law_329 rfl (lv_at hl 2 rfl) ?_
  refine q_arg (j := 1) hx hb C.2.2.2.2.2.1 C.2.2.2.2.2.2.1 hbA C.2.2.2.2.2.2.2.2.2 w hl 0 4 rfl rfl rfl (by omega) dL_law_330 dL_law_331 dL_law_333 dL_law_334 dL_law_335 ?_
  refine q_arg (j := 2) hx hb C.2.2.2.2.2.1 C.2.2.2.2.2.2.1 hbA C.2.2.2.2.2.2.2.2.2 w hl 0 4 rfl rfl rfl (by omega) dL_law_336 dL_law_337 dL_law_339 dL_law_340 dL_law_341 ?_
  refine q_arg (j := 3) hx hb C.2.2.2.2.2.1 C.2.2.2.2.2.2.1 hbA C.2.2.2.2.2.2.2.2.2 w hl 0 4 rfl rfl rfl (by omega) dL_law_342 dL_law_343 dL_law_345 dL_law_346 dL_law_347 ?_
  refine q_arg (j := 4) hx hb C.2.2.2.2.2.1 C.2.2.2.2.2.2.1 hbA C.2.2.2.2.2.2.2.2.2 w hl 0 4 rfl rfl rfl (by omega) dL_law_348 dL_law_349 dL_law_351 dL_law_352 dL_law_353 ?_
  refine q_arg (j := 5) hx hb C.2.2.2.2.2.1 C.2.2.2.2.2.2.1 hbA C.2.2.2.2.2.2.2.2.2 w hl 0 4 rfl rfl rfl (by omega) dL_law_354 dL_law_355 dL_law_357 dL_law_358 dL_law_359 ?_
  refine q_callI (rest := [.int r]) C.1 C.2.2.1 C.2.2.2.1 w (c_X7_line (gInj_D (va_Dr w.2.1)) e2) ob_X7 rfl gv_L_38 md_X7_line rfl ⟨Nat.le_of_ble_eq_true rfl, Nat.le_of_ble_eq_true rfl⟩ hl.1 rfl (Nat.le_of_ble_eq_true rfl) ⟨by show 272 + k ≤ 603072; omega, by show 12013 + 6 * k ≤ 7194730; omega⟩ dL_law_360 (fun H locs w => ?_)
  refine lv_icmp_eq (tgt := 770) hx hb dL_law_363 (by decide) (fun _ => ?_) (fun h => absurd rfl h)
  refine W.widen (k := 272 + (k + 1)) (n := 12013 + 6 * (k + 1)) (by omega) (by omega) ?_
  exact K n1 u1 Mx1 My1 fo H locs ls hR1 w.sw hl
set_option maxRecDepth 100000 in
theorem law_4 {p : Program} {l : Launch} {e : Env} {s : State} {m : MethodId} {below : List Frame} {meth : Method} {c : Code} {H : Heap} {locs : List Loc} {Q : State → Prop} {ls : Array Slot} {D : va_G} {cI cT cS cZ cJ : ClassId} {aX aY : Nat → Nat} {qo sa : Nat} {fo : Nat → Int64} {Mx My : Mem} {b L k n u : Nat} {xs : Nat → Int32} (C : LC p s m meth c b L xs D cI cT cS cZ cJ sa) (hR : Rel k n u Mx My) (hk : 6 * k + 6 ≤ L) (w : kWd D (fun q => s.heap.size ≤ q) (lW cI cT cS cZ cJ aX aY Mx My qo fo) s H locs) (hl : lv_has ls 7 (lvL b aX aY qo k)) (K : ∀ (n u : Nat) (Mx My : Mem) (fo : Nat → Int64) (H : Heap) (locs : List Loc) (ls : Array Slot), Rel (k + 1) n u Mx My → kWd D (fun q => s.heap.size ≤ q) (lW cI cT cS cZ cJ aX aY Mx My qo fo) s H locs → lv_has ls 7 (lvL b aX aY qo k) → W p l e room_1 s m #[Value.ref b] below meth c H locs (272 + (k + 1)) (12013 + 6 * (k + 1)) Q (F0 m 770 ls [])) : W p l e room_1 s m #[Value.ref b] below meth c H locs (272 + k) (12013 + 6 * k) Q (F0 m 368 ls []) := by
  have hL := C.2.2.2.2.2.2.2.2.2
  have hx := C.1.1
  have hb := C.1.2.1
  have hbA : ¬ (fun q : Nat => s.heap.size ≤ q) b := Nat.not_le.mpr C.2.2.2.2.2.2.1
  obtain ⟨r, Mx1, My1, n1, u1, e1, e2, hR1⟩ := op_use hR (by omega) (xs (6 * k + 1)) (xs (6 * k + 2)) (xs (6 * k + 3)) (xs (6 * k + 4)) (xs (6 * k + 5))
  refine lv_aload_n hx hb dL_law_368 rfl (lv_at hl 3 rfl) ?_
  refine q_arg (j := 1) hx hb C.2.2.2.2.2.1 C.2.2.2.2.2.2.1 hbA C.2.2.2.2.2.2.2.2.2 w hl 0 4 rfl rfl rfl (by omega) dL_law_369 dL_law_370 dL_law_372 dL_law_373 dL_law_374 ?_
  refine q_arg (j := 2) hx hb C.2.2.2.2.2.1 C.2.2.2.2.2.2.1 hbA C.2.2.2.2.2.2.2.2.2 w hl 0 4 rfl rfl rfl (by omega) dL_law_375 dL_law_376 dL_law_378 dL_law_379 dL_law_380 ?_
  refine q_arg (j := 3) hx hb C.2.2.2.2.2.1 C.2.2.2.2.2.2.1 hbA C.2.2.2.2.2.2.2.2.2 w hl 0 4 rfl rfl rfl (by omega) dL_law_381 dL_law_382 dL_law_384 dL_law_385 dL_law_386 ?_
  refine q_arg (j := 4) hx hb C.2.2.2.2.2.1 C.2.2.2.2.2.2.1 hbA C.2.2.2.2.2.2.2.2.2 w hl 0 4 rfl rfl rfl (by omega) dL_law_387 dL_law_388 dL_law_390 dL_law_391 dL_law_392 ?_
  refine q_arg (j := 5) hx hb C.2.2.2.2.2.1 C.2.2.2.2.2.2.1 hbA C.2.2.2.2.2.2.2.2.2 w hl 0 4 rfl rfl rfl (by omega) dL_law_393 dL_law_394 dL_law_396 dL_law_397 dL_law_398 ?_
  replace w := kWd.asc (a := gw 30 (yE cI cZ) aY My) (b := wO cJ qo fo) (c := gw 241 (xE cI cT cS) aX Mx) w
  refine q_callI (rest := []) C.1 (C.2.1.sub (tys' := xty cI cT cS) [0, 1, 2] rfl) C.2.2.2.1 w (c_X6_use (gInj_D (va_Dr w.2.1)) e1) ob_X6 rfl gv_L_39 md_X6_use rfl ⟨Nat.le_of_ble_eq_true rfl, Nat.le_of_ble_eq_true rfl⟩ hl.1 rfl (Nat.le_of_ble_eq_true rfl) ⟨by show 272 + k ≤ 603072; omega, by show 12013 + 6 * k ≤ 7194730; omega⟩ dL_law_399 (fun H locs w => ?_)
  replace w := (kWd.csa w).sw
  refine lv_aload_n hx hb dL_law_402 rfl (lv_at hl 2 rfl) ?_
  refine q_arg (j := 1) hx hb C.2.2.2.2.2.1 C.2.2.2.2.2.2.1 hbA C.2.2.2.2.2.2.2.2.2 w hl 0 4 rfl rfl rfl (by omega) dL_law_403 dL_law_404 dL_law_406 dL_law_407 dL_law_408 ?_
  refine q_arg (j := 2) hx hb C.2.2.2.2.2.1 C.2.2.2.2.2.2.1 hbA C.2.2.2.2.2.2.2.2.2 w hl 0 4 rfl rfl rfl (by omega) dL_law_409 dL_law_410 dL_law_412 dL_law_413 dL_law_414 ?_
  refine q_arg (j := 3) hx hb C.2.2.2.2.2.1 C.2.2.2.2.2.2.1 hbA C.2.2.2.2.2.2.2.2.2 w hl 0 4 rfl rfl rfl (by omega) dL_law_415 dL_law_416 dL_law_418 dL_law_419 dL_law_420 ?_
  refine q_arg (j := 4) hx hb C.2.2.2.2.2.1 C.2.2.2.2.2.2.1 hbA C.2.2.2.2.2.2.2.2.2 w hl 0 4 rfl rfl rfl (by omega) dL_law_421 dL_law_422 dL_law_424 dL_law_425 dL_law_426 ?_
  refine q_arg (j := 5) hx hb C.2.2.2.2.2.1 C.2.2.2.2.2.2.1 hbA C.2.2.2.2.2.2.2.2.2 w hl 0 4 rfl rfl rfl (by omega) dL_law_427 dL_law_428 dL_law_430 dL_law_431 dL_law_432 ?_
  refine q_callI (rest := [.int r]) C.1 C.2.2.1 C.2.2.2.1 w (c_X7_use (gInj_D (va_Dr w.2.1)) e2) ob_X7 rfl gv_L_42 md_X7_use rfl ⟨Nat.le_of_ble_eq_true rfl, Nat.le_of_ble_eq_true rfl⟩ hl.1 rfl (Nat.le_of_ble_eq_true rfl) ⟨by show 272 + k ≤ 603072; omega, by show 12013 + 6 * k ≤ 7194730; omega⟩ dL_law_433 (fun H locs w => ?_)
  refine lv_icmp_eq (tgt := 770) hx hb dL_law_436 (by decide) (fun _ => ?_) (fun h => absurd rfl h)
  refine W.widen (k := 272 + (k + 1)) (n := 12013 + 6 * (k + 1)) (by omega) (by omega) ?_
  exact K n1 u1 Mx1 My1 fo H locs ls hR1 w.sw hl
set_option maxRecDepth 100000 in
theorem law_5 {p : Program} {l : Launch} {e : Env} {s : State} {m : MethodId} {below : List Frame} {meth : Method} {c : Code} {H : Heap} {locs : List Loc} {Q : State → Prop} {ls : Array Slot} {D : va_G} {cI cT cS cZ cJ : ClassId} {aX aY : Nat → Nat} {qo sa : Nat} {fo : Nat → Int64} {Mx My : Mem} {b L k n u : Nat} {xs : Nat → Int32} (C : LC p s m meth c b L xs D cI cT cS cZ cJ sa) (hR : Rel k n u Mx My) (hk : 6 * k + 6 ≤ L) (w : kWd D (fun q => s.heap.size ≤ q) (lW cI cT cS cZ cJ aX aY Mx My qo fo) s H locs) (hl : lv_has ls 7 (lvL b aX aY qo k)) (K : ∀ (n u : Nat) (Mx My : Mem) (fo : Nat → Int64) (H : Heap) (locs : List Loc) (ls : Array Slot), Rel (k + 1) n u Mx My → kWd D (fun q => s.heap.size ≤ q) (lW cI cT cS cZ cJ aX aY Mx My qo fo) s H locs → lv_has ls 7 (lvL b aX aY qo k) → W p l e room_1 s m #[Value.ref b] below meth c H locs (272 + (k + 1)) (12013 + 6 * (k + 1)) Q (F0 m 770 ls [])) : W p l e room_1 s m #[Value.ref b] below meth c H locs (272 + k) (12013 + 6 * k) Q (F0 m 441 ls []) := by
  have hL := C.2.2.2.2.2.2.2.2.2
  have hx := C.1.1
  have hb := C.1.2.1
  have hbA : ¬ (fun q : Nat => s.heap.size ≤ q) b := Nat.not_le.mpr C.2.2.2.2.2.2.1
  obtain ⟨r, Mx1, My1, n1, u1, e1, e2, hR1⟩ := op_failure hR
  refine lv_aload_n hx hb dL_law_441 rfl (lv_at hl 3 rfl) ?_
  replace w := kWd.asc (a := gw 30 (yE cI cZ) aY My) (b := wO cJ qo fo) (c := gw 241 (xE cI cT cS) aX Mx) w
  refine q_callI (rest := []) C.1 (C.2.1.sub (tys' := xty cI cT cS) [0, 1, 2] rfl) C.2.2.2.1 w (c_X6_failure (gInj_D (va_Dr w.2.1)) e1) ob_X6 rfl gv_L_43 md_X6_failure rfl ⟨Nat.le_of_ble_eq_true rfl, Nat.le_of_ble_eq_true rfl⟩ hl.1 rfl (Nat.le_of_ble_eq_true rfl) ⟨by show 272 + k ≤ 603072; omega, by show 12013 + 6 * k ≤ 7194730; omega⟩ dL_law_442 (fun H locs w => ?_)
  replace w := (kWd.csa w).sw
  refine lv_aload_n hx hb dL_law_445 rfl (lv_at hl 2 rfl) ?_
  refine q_callI (rest := [.int r]) C.1 C.2.2.1 C.2.2.2.1 w (c_X7_failure (gInj_D (va_Dr w.2.1)) e2) ob_X7 rfl gv_L_47 md_X7_failure rfl ⟨Nat.le_of_ble_eq_true rfl, Nat.le_of_ble_eq_true rfl⟩ hl.1 rfl (Nat.le_of_ble_eq_true rfl) ⟨by show 272 + k ≤ 603072; omega, by show 12013 + 6 * k ≤ 7194730; omega⟩ dL_law_446 (fun H locs w => ?_)
  refine lv_icmp_eq (tgt := 770) hx hb dL_law_449 (by decide) (fun _ => ?_) (fun h => absurd rfl h)
  refine W.widen (k := 272 + (k + 1)) (n := 12013 + 6 * (k + 1)) (by omega) (by omega) ?_
  exact K n1 u1 Mx1 My1 fo H locs ls hR1 w.sw hl
set_option maxRecDepth 100000 in
theorem law_6 {p : Program} {l : Launch} {e : Env} {s : State} {m : MethodId} {below : List Frame} {meth : Method} {c : Code} {H : Heap} {locs : List Loc} {Q : State → Prop} {ls : Array Slot} {D : va_G} {cI cT cS cZ cJ : ClassId} {aX aY : Nat → Nat} {qo sa : Nat} {fo : Nat → Int64} {Mx My : Mem} {b L k n u : Nat} {xs : Nat → Int32} (C : LC p s m meth c b L xs D cI cT cS cZ cJ sa) (hR : Rel k n u Mx My) (hk : 6 * k + 6 ≤ L) (w : kWd D (fun q => s.heap.size ≤ q) (lW cI cT cS cZ cJ aX aY Mx My qo fo) s H locs) (hl : lv_has ls 7 (lvL b aX aY qo k)) (K : ∀ (n u : Nat) (Mx My : Mem) (fo : Nat → Int64) (H : Heap) (locs : List Loc) (ls : Array Slot), Rel (k + 1) n u Mx My → kWd D (fun q => s.heap.size ≤ q) (lW cI cT cS cZ cJ aX aY Mx My qo fo) s H locs → lv_has ls 7 (lvL b aX aY qo k) → W p l e room_1 s m #[Value.ref b] below meth c H locs (272 + (k + 1)) (12013 + 6 * (k + 1)) Q (F0 m 770 ls [])) : W p l e room_1 s m #[Value.ref b] below meth c H locs (272 + k) (12013 + 6 * k) Q (F0 m 454 ls []) := by
  have hL := C.2.2.2.2.2.2.2.2.2
  have hx := C.1.1
  have hb := C.1.2.1
  have hbA : ¬ (fun q : Nat => s.heap.size ≤ q) b := Nat.not_le.mpr C.2.2.2.2.2.2.1
  obtain ⟨r, Mx1, My1, n1, u1, e1, e2, hR1⟩ := op_told hR (xs (6 * k + 1)) (xs (6 * k + 2)) (xs (6 * k + 3))
  refine lv_aload_n hx hb dL_law_454 rfl (lv_at hl 3 rfl) ?_
  refine q_arg (j := 1) hx hb C.2.2.2.2.2.1 C.2.2.2.2.2.2.1 hbA C.2.2.2.2.2.2.2.2.2 w hl 0 4 rfl rfl rfl (by omega) dL_law_455 dL_law_456 dL_law_458 dL_law_459 dL_law_460 ?_
  refine q_arg (j := 2) hx hb C.2.2.2.2.2.1 C.2.2.2.2.2.2.1 hbA C.2.2.2.2.2.2.2.2.2 w hl 0 4 rfl rfl rfl (by omega) dL_law_461 dL_law_462 dL_law_464 dL_law_465 dL_law_466 ?_
  refine q_arg (j := 3) hx hb C.2.2.2.2.2.1 C.2.2.2.2.2.2.1 hbA C.2.2.2.2.2.2.2.2.2 w hl 0 4 rfl rfl rfl (by omega) dL_law_467 dL_law_468 dL_law_470 dL_law_471 dL_law_472 ?_
  replace w := kWd.asc (a := gw 30 (yE cI cZ) aY My) (b := wO cJ qo fo) (c := gw 241 (xE cI cT cS) aX Mx) w
  refine q_callI (rest := []) C.1 (C.2.1.sub (tys' := xty cI cT cS) [0, 1, 2] rfl) C.2.2.2.1 w (c_X6_told (gInj_D (va_Dr w.2.1)) e1) ob_X6 rfl gv_L_48 md_X6_told rfl ⟨Nat.le_of_ble_eq_true rfl, Nat.le_of_ble_eq_true rfl⟩ hl.1 rfl (Nat.le_of_ble_eq_true rfl) ⟨by show 272 + k ≤ 603072; omega, by show 12013 + 6 * k ≤ 7194730; omega⟩ dL_law_473 (fun H locs w => ?_)
  replace w := (kWd.csa w).sw
  refine lv_aload_n hx hb dL_law_476 rfl (lv_at hl 2 rfl) ?_
  refine q_arg (j := 1) hx hb C.2.2.2.2.2.1 C.2.2.2.2.2.2.1 hbA C.2.2.2.2.2.2.2.2.2 w hl 0 4 rfl rfl rfl (by omega) dL_law_477 dL_law_478 dL_law_480 dL_law_481 dL_law_482 ?_
  refine q_arg (j := 2) hx hb C.2.2.2.2.2.1 C.2.2.2.2.2.2.1 hbA C.2.2.2.2.2.2.2.2.2 w hl 0 4 rfl rfl rfl (by omega) dL_law_483 dL_law_484 dL_law_486 dL_law_487 dL_law_488 ?_
  refine q_arg (j := 3) hx hb C.2.2.2.2.2.1 C.2.2.2.2.2.2.1 hbA C.2.2.2.2.2.2.2.2.2 w hl 0 4 rfl rfl rfl (by omega) dL_law_489 dL_law_490 dL_law_492 dL_law_493 dL_law_494 ?_
  refine q_callI (rest := [.int r]) C.1 C.2.2.1 C.2.2.2.1 w (c_X7_told (gInj_D (va_Dr w.2.1)) e2) ob_X7 rfl gv_L_52 md_X7_told rfl ⟨Nat.le_of_ble_eq_true rfl, Nat.le_of_ble_eq_true rfl⟩ hl.1 rfl (Nat.le_of_ble_eq_true rfl) ⟨by show 272 + k ≤ 603072; omega, by show 12013 + 6 * k ≤ 7194730; omega⟩ dL_law_495 (fun H locs w => ?_)
  refine lv_icmp_eq (tgt := 770) hx hb dL_law_498 (by decide) (fun _ => ?_) (fun h => absurd rfl h)
  refine W.widen (k := 272 + (k + 1)) (n := 12013 + 6 * (k + 1)) (by omega) (by omega) ?_
  exact K n1 u1 Mx1 My1 fo H locs ls hR1 w.sw hl
set_option maxRecDepth 100000 in
theorem law_7 {p : Program} {l : Launch} {e : Env} {s : State} {m : MethodId} {below : List Frame} {meth : Method} {c : Code} {H : Heap} {locs : List Loc} {Q : State → Prop} {ls : Array Slot} {D : va_G} {cI cT cS cZ cJ : ClassId} {aX aY : Nat → Nat} {qo sa : Nat} {fo : Nat → Int64} {Mx My : Mem} {b L k n u : Nat} {xs : Nat → Int32} (C : LC p s m meth c b L xs D cI cT cS cZ cJ sa) (hR : Rel k n u Mx My) (hk : 6 * k + 6 ≤ L) (w : kWd D (fun q => s.heap.size ≤ q) (lW cI cT cS cZ cJ aX aY Mx My qo fo) s H locs) (hl : lv_has ls 7 (lvL b aX aY qo k)) (K : ∀ (n u : Nat) (Mx My : Mem) (fo : Nat → Int64) (H : Heap) (locs : List Loc) (ls : Array Slot), Rel (k + 1) n u Mx My → kWd D (fun q => s.heap.size ≤ q) (lW cI cT cS cZ cJ aX aY Mx My qo fo) s H locs → lv_has ls 7 (lvL b aX aY qo k) → W p l e room_1 s m #[Value.ref b] below meth c H locs (272 + (k + 1)) (12013 + 6 * (k + 1)) Q (F0 m 770 ls [])) : W p l e room_1 s m #[Value.ref b] below meth c H locs (272 + k) (12013 + 6 * k) Q (F0 m 503 ls []) := by
  have hL := C.2.2.2.2.2.2.2.2.2
  have hx := C.1.1
  have hb := C.1.2.1
  have hbA : ¬ (fun q : Nat => s.heap.size ≤ q) b := Nat.not_le.mpr C.2.2.2.2.2.2.1
  obtain ⟨r, Mx1, My1, n1, u1, e1, e2, hR1⟩ := op_peek hR (xs (6 * k + 1)) (xs (6 * k + 2)) (xs (6 * k + 3))
  refine lv_aload_n hx hb dL_law_503 rfl (lv_at hl 3 rfl) ?_
  refine q_arg (j := 1) hx hb C.2.2.2.2.2.1 C.2.2.2.2.2.2.1 hbA C.2.2.2.2.2.2.2.2.2 w hl 0 4 rfl rfl rfl (by omega) dL_law_504 dL_law_505 dL_law_507 dL_law_508 dL_law_509 ?_
  refine q_arg (j := 2) hx hb C.2.2.2.2.2.1 C.2.2.2.2.2.2.1 hbA C.2.2.2.2.2.2.2.2.2 w hl 0 4 rfl rfl rfl (by omega) dL_law_510 dL_law_511 dL_law_513 dL_law_514 dL_law_515 ?_
  refine q_arg (j := 3) hx hb C.2.2.2.2.2.1 C.2.2.2.2.2.2.1 hbA C.2.2.2.2.2.2.2.2.2 w hl 0 4 rfl rfl rfl (by omega) dL_law_516 dL_law_517 dL_law_519 dL_law_520 dL_law_521 ?_
  replace w := kWd.asc (a := gw 30 (yE cI cZ) aY My) (b := wO cJ qo fo) (c := gw 241 (xE cI cT cS) aX Mx) w
  refine q_callI (rest := []) C.1 (C.2.1.sub (tys' := xty cI cT cS) [0, 1, 2] rfl) C.2.2.2.1 w (c_X6_peek (gInj_D (va_Dr w.2.1)) e1) ob_X6 rfl gv_L_53 md_X6_peek rfl ⟨Nat.le_of_ble_eq_true rfl, Nat.le_of_ble_eq_true rfl⟩ hl.1 rfl (Nat.le_of_ble_eq_true rfl) ⟨by show 272 + k ≤ 603072; omega, by show 12013 + 6 * k ≤ 7194730; omega⟩ dL_law_522 (fun H locs w => ?_)
  replace w := (kWd.csa w).sw
  refine lv_aload_n hx hb dL_law_525 rfl (lv_at hl 2 rfl) ?_
  refine q_arg (j := 1) hx hb C.2.2.2.2.2.1 C.2.2.2.2.2.2.1 hbA C.2.2.2.2.2.2.2.2.2 w hl 0 4 rfl rfl rfl (by omega) dL_law_526 dL_law_527 dL_law_529 dL_law_530 dL_law_531 ?_
  refine q_arg (j := 2) hx hb C.2.2.2.2.2.1 C.2.2.2.2.2.2.1 hbA C.2.2.2.2.2.2.2.2.2 w hl 0 4 rfl rfl rfl (by omega) dL_law_532 dL_law_533 dL_law_535 dL_law_536 dL_law_537 ?_
  refine q_arg (j := 3) hx hb C.2.2.2.2.2.1 C.2.2.2.2.2.2.1 hbA C.2.2.2.2.2.2.2.2.2 w hl 0 4 rfl rfl rfl (by omega) dL_law_538 dL_law_539 dL_law_541 dL_law_542 dL_law_543 ?_
  refine q_callI (rest := [.int r]) C.1 C.2.2.1 C.2.2.2.1 w (c_X7_peek (gInj_D (va_Dr w.2.1)) e2) ob_X7 rfl gv_L_56 md_X7_peek rfl ⟨Nat.le_of_ble_eq_true rfl, Nat.le_of_ble_eq_true rfl⟩ hl.1 rfl (Nat.le_of_ble_eq_true rfl) ⟨by show 272 + k ≤ 603072; omega, by show 12013 + 6 * k ≤ 7194730; omega⟩ dL_law_544 (fun H locs w => ?_)
  refine lv_icmp_eq (tgt := 770) hx hb dL_law_547 (by decide) (fun _ => ?_) (fun h => absurd rfl h)
  refine W.widen (k := 272 + (k + 1)) (n := 12013 + 6 * (k + 1)) (by omega) (by omega) ?_
  exact K n1 u1 Mx1 My1 fo H locs ls hR1 w.sw hl
set_option maxRecDepth 100000 in
theorem law_8 {p : Program} {l : Launch} {e : Env} {s : State} {m : MethodId} {below : List Frame} {meth : Method} {c : Code} {H : Heap} {locs : List Loc} {Q : State → Prop} {ls : Array Slot} {D : va_G} {cI cT cS cZ cJ : ClassId} {aX aY : Nat → Nat} {qo sa : Nat} {fo : Nat → Int64} {Mx My : Mem} {b L k n u : Nat} {xs : Nat → Int32} (C : LC p s m meth c b L xs D cI cT cS cZ cJ sa) (hR : Rel k n u Mx My) (hk : 6 * k + 6 ≤ L) (w : kWd D (fun q => s.heap.size ≤ q) (lW cI cT cS cZ cJ aX aY Mx My qo fo) s H locs) (hl : lv_has ls 7 (lvL b aX aY qo k)) (K : ∀ (n u : Nat) (Mx My : Mem) (fo : Nat → Int64) (H : Heap) (locs : List Loc) (ls : Array Slot), Rel (k + 1) n u Mx My → kWd D (fun q => s.heap.size ≤ q) (lW cI cT cS cZ cJ aX aY Mx My qo fo) s H locs → lv_has ls 7 (lvL b aX aY qo k) → W p l e room_1 s m #[Value.ref b] below meth c H locs (272 + (k + 1)) (12013 + 6 * (k + 1)) Q (F0 m 770 ls [])) : W p l e room_1 s m #[Value.ref b] below meth c H locs (272 + k) (12013 + 6 * k) Q (F0 m 552 ls []) := by
  have hL := C.2.2.2.2.2.2.2.2.2
  have hx := C.1.1
  have hb := C.1.2.1
  have hbA : ¬ (fun q : Nat => s.heap.size ≤ q) b := Nat.not_le.mpr C.2.2.2.2.2.2.1
  obtain ⟨r, Mx1, My1, n1, u1, e1, e2, hR1⟩ := op_start hR (xs (6 * k + 1)) (xs (6 * k + 2))
  refine lv_aload_n hx hb dL_law_552 rfl (lv_at hl 3 rfl) ?_
  refine q_arg (j := 1) hx hb C.2.2.2.2.2.1 C.2.2.2.2.2.2.1 hbA C.2.2.2.2.2.2.2.2.2 w hl 0 4 rfl rfl rfl (by omega) dL_law_553 dL_law_554 dL_law_556 dL_law_557 dL_law_558 ?_
  refine q_arg (j := 2) hx hb C.2.2.2.2.2.1 C.2.2.2.2.2.2.1 hbA C.2.2.2.2.2.2.2.2.2 w hl 0 4 rfl rfl rfl (by omega) dL_law_559 dL_law_560 dL_law_562 dL_law_563 dL_law_564 ?_
  replace w := kWd.asc (a := gw 30 (yE cI cZ) aY My) (b := wO cJ qo fo) (c := gw 241 (xE cI cT cS) aX Mx) w
  refine q_callI (rest := []) C.1 (C.2.1.sub (tys' := xty cI cT cS) [0, 1, 2] rfl) C.2.2.2.1 w (c_X6_start (gInj_D (va_Dr w.2.1)) e1) ob_X6 rfl gv_L_57 md_X6_start rfl ⟨Nat.le_of_ble_eq_true rfl, Nat.le_of_ble_eq_true rfl⟩ hl.1 rfl (Nat.le_of_ble_eq_true rfl) ⟨by show 272 + k ≤ 603072; omega, by show 12013 + 6 * k ≤ 7194730; omega⟩ dL_law_565 (fun H locs w => ?_)
  replace w := (kWd.csa w).sw
  refine lv_aload_n hx hb dL_law_568 rfl (lv_at hl 2 rfl) ?_
  refine q_arg (j := 1) hx hb C.2.2.2.2.2.1 C.2.2.2.2.2.2.1 hbA C.2.2.2.2.2.2.2.2.2 w hl 0 4 rfl rfl rfl (by omega) dL_law_569 dL_law_570 dL_law_572 dL_law_573 dL_law_574 ?_
  refine q_arg (j := 2) hx hb C.2.2.2.2.2.1 C.2.2.2.2.2.2.1 hbA C.2.2.2.2.2.2.2.2.2 w hl 0 4 rfl rfl rfl (by omega) dL_law_575 dL_law_576 dL_law_578 dL_law_579 dL_law_580 ?_
  refine q_callI (rest := [.int r]) C.1 C.2.2.1 C.2.2.2.1 w (c_X7_start (gInj_D (va_Dr w.2.1)) e2) ob_X7 rfl gv_L_60 md_X7_start rfl ⟨Nat.le_of_ble_eq_true rfl, Nat.le_of_ble_eq_true rfl⟩ hl.1 rfl (Nat.le_of_ble_eq_true rfl) ⟨by show 272 + k ≤ 603072; omega, by show 12013 + 6 * k ≤ 7194730; omega⟩ dL_law_581 (fun H locs w => ?_)
  refine lv_icmp_eq (tgt := 770) hx hb dL_law_584 (by decide) (fun _ => ?_) (fun h => absurd rfl h)
  refine W.widen (k := 272 + (k + 1)) (n := 12013 + 6 * (k + 1)) (by omega) (by omega) ?_
  exact K n1 u1 Mx1 My1 fo H locs ls hR1 w.sw hl
set_option maxRecDepth 100000 in
theorem law_10 {p : Program} {l : Launch} {e : Env} {s : State} {m : MethodId} {below : List Frame} {meth : Method} {c : Code} {H : Heap} {locs : List Loc} {Q : State → Prop} {ls : Array Slot} {D : va_G} {cI cT cS cZ cJ : ClassId} {aX aY : Nat → Nat} {qo sa : Nat} {fo : Nat → Int64} {Mx My : Mem} {b L k n u : Nat} {xs : Nat → Int32} (C : LC p s m meth c b L xs D cI cT cS cZ cJ sa) (hR : Rel k n u Mx My) (hk : 6 * k + 6 ≤ L) (w : kWd D (fun q => s.heap.size ≤ q) (lW cI cT cS cZ cJ aX aY Mx My qo fo) s H locs) (hl : lv_has ls 7 (lvL b aX aY qo k)) (K : ∀ (n u : Nat) (Mx My : Mem) (fo : Nat → Int64) (H : Heap) (locs : List Loc) (ls : Array Slot), Rel (k + 1) n u Mx My → kWd D (fun q => s.heap.size ≤ q) (lW cI cT cS cZ cJ aX aY Mx My qo fo) s H locs → lv_has ls 7 (lvL b aX aY qo k) → W p l e room_1 s m #[Value.ref b] below meth c H locs (272 + (k + 1)) (12013 + 6 * (k + 1)) Q (F0 m 770 ls [])) : W p l e room_1 s m #[Value.ref b] below meth c H locs (272 + k) (12013 + 6 * k) Q (F0 m 645 ls []) := by
  have hL := C.2.2.2.2.2.2.2.2.2
  have hx := C.1.1
  have hb := C.1.2.1
  have hbA : ¬ (fun q : Nat => s.heap.size ≤ q) b := Nat.not_le.mpr C.2.2.2.2.2.2.1
  obtain ⟨r, Mx1, My1, n1, u1, e1, e2, hR1⟩ := op_steps hR (xs (6 * k + 1)) (xs (6 * k + 2))
  refine lv_aload_n hx hb dL_law_645 rfl (lv_at hl 3 rfl) ?_
  refine q_arg (j := 1) hx hb C.2.2.2.2.2.1 C.2.2.2.2.2.2.1 hbA C.2.2.2.2.2.2.2.2.2 w hl 0 4 rfl rfl rfl (by omega) dL_law_646 dL_law_647 dL_law_649 dL_law_650 dL_law_651 ?_
  refine q_arg (j := 2) hx hb C.2.2.2.2.2.1 C.2.2.2.2.2.2.1 hbA C.2.2.2.2.2.2.2.2.2 w hl 0 4 rfl rfl rfl (by omega) dL_law_652 dL_law_653 dL_law_655 dL_law_656 dL_law_657 ?_
  replace w := kWd.asc (a := gw 30 (yE cI cZ) aY My) (b := wO cJ qo fo) (c := gw 241 (xE cI cT cS) aX Mx) w
  refine q_callI (rest := []) C.1 (C.2.1.sub (tys' := xty cI cT cS) [0, 1, 2] rfl) C.2.2.2.1 w (c_X6_steps (gInj_D (va_Dr w.2.1)) e1) ob_X6 rfl gv_L_70 md_X6_steps rfl ⟨Nat.le_of_ble_eq_true rfl, Nat.le_of_ble_eq_true rfl⟩ hl.1 rfl (Nat.le_of_ble_eq_true rfl) ⟨by show 272 + k ≤ 603072; omega, by show 12013 + 6 * k ≤ 7194730; omega⟩ dL_law_658 (fun H locs w => ?_)
  replace w := (kWd.csa w).sw
  refine lv_aload_n hx hb dL_law_661 rfl (lv_at hl 2 rfl) ?_
  refine q_arg (j := 1) hx hb C.2.2.2.2.2.1 C.2.2.2.2.2.2.1 hbA C.2.2.2.2.2.2.2.2.2 w hl 0 4 rfl rfl rfl (by omega) dL_law_662 dL_law_663 dL_law_665 dL_law_666 dL_law_667 ?_
  refine q_arg (j := 2) hx hb C.2.2.2.2.2.1 C.2.2.2.2.2.2.1 hbA C.2.2.2.2.2.2.2.2.2 w hl 0 4 rfl rfl rfl (by omega) dL_law_668 dL_law_669 dL_law_671 dL_law_672 dL_law_673 ?_
  refine q_callI (rest := [.int r]) C.1 C.2.2.1 C.2.2.2.1 w (c_X7_steps (gInj_D (va_Dr w.2.1)) e2) ob_X7 rfl gv_L_73 md_X7_steps rfl ⟨Nat.le_of_ble_eq_true rfl, Nat.le_of_ble_eq_true rfl⟩ hl.1 rfl (Nat.le_of_ble_eq_true rfl) ⟨by show 272 + k ≤ 603072; omega, by show 12013 + 6 * k ≤ 7194730; omega⟩ dL_law_674 (fun H locs w => ?_)
  refine lv_icmp_eq (tgt := 770) hx hb dL_law_677 (by decide) (fun _ => ?_) (fun h => absurd rfl h)
  refine W.widen (k := 272 + (k + 1)) (n := 12013 + 6 * (k + 1)) (by omega) (by omega) ?_
  exact K n1 u1 Mx1 My1 fo H locs ls hR1 w.sw hl
set_option maxRecDepth 100000 in
theorem law_11 {p : Program} {l : Launch} {e : Env} {s : State} {m : MethodId} {below : List Frame} {meth : Method} {c : Code} {H : Heap} {locs : List Loc} {Q : State → Prop} {ls : Array Slot} {D : va_G} {cI cT cS cZ cJ : ClassId} {aX aY : Nat → Nat} {qo sa : Nat} {fo : Nat → Int64} {Mx My : Mem} {b L k n u : Nat} {xs : Nat → Int32} (C : LC p s m meth c b L xs D cI cT cS cZ cJ sa) (hR : Rel k n u Mx My) (hk : 6 * k + 6 ≤ L) (w : kWd D (fun q => s.heap.size ≤ q) (lW cI cT cS cZ cJ aX aY Mx My qo fo) s H locs) (hl : lv_has ls 7 (lvL b aX aY qo k)) (K : ∀ (n u : Nat) (Mx My : Mem) (fo : Nat → Int64) (H : Heap) (locs : List Loc) (ls : Array Slot), Rel (k + 1) n u Mx My → kWd D (fun q => s.heap.size ≤ q) (lW cI cT cS cZ cJ aX aY Mx My qo fo) s H locs → lv_has ls 7 (lvL b aX aY qo k) → W p l e room_1 s m #[Value.ref b] below meth c H locs (272 + (k + 1)) (12013 + 6 * (k + 1)) Q (F0 m 770 ls [])) : W p l e room_1 s m #[Value.ref b] below meth c H locs (272 + k) (12013 + 6 * k) Q (F0 m 682 ls []) := by
  have hL := C.2.2.2.2.2.2.2.2.2
  have hx := C.1.1
  have hb := C.1.2.1
  have hbA : ¬ (fun q : Nat => s.heap.size ≤ q) b := Nat.not_le.mpr C.2.2.2.2.2.2.1
  obtain ⟨r, Mx1, My1, n1, u1, e1, e2, hR1⟩ := op_undo hR (by omega) (xs (6 * k + 1))
  refine lv_aload_n hx hb dL_law_682 rfl (lv_at hl 3 rfl) ?_
  refine q_arg (j := 1) hx hb C.2.2.2.2.2.1 C.2.2.2.2.2.2.1 hbA C.2.2.2.2.2.2.2.2.2 w hl 0 4 rfl rfl rfl (by omega) dL_law_683 dL_law_684 dL_law_686 dL_law_687 dL_law_688 ?_
  replace w := kWd.asc (a := gw 30 (yE cI cZ) aY My) (b := wO cJ qo fo) (c := gw 241 (xE cI cT cS) aX Mx) w
  refine q_callI (rest := []) C.1 (C.2.1.sub (tys' := xty cI cT cS) [0, 1, 2] rfl) C.2.2.2.1 w (c_X6_undo (gInj_D (va_Dr w.2.1)) e1) ob_X6 rfl gv_L_74 md_X6_undo rfl ⟨Nat.le_of_ble_eq_true rfl, Nat.le_of_ble_eq_true rfl⟩ hl.1 rfl (Nat.le_of_ble_eq_true rfl) ⟨by show 272 + k ≤ 603072; omega, by show 12013 + 6 * k ≤ 7194730; omega⟩ dL_law_689 (fun H locs w => ?_)
  replace w := (kWd.csa w).sw
  refine lv_aload_n hx hb dL_law_692 rfl (lv_at hl 2 rfl) ?_
  refine q_arg (j := 1) hx hb C.2.2.2.2.2.1 C.2.2.2.2.2.2.1 hbA C.2.2.2.2.2.2.2.2.2 w hl 0 4 rfl rfl rfl (by omega) dL_law_693 dL_law_694 dL_law_696 dL_law_697 dL_law_698 ?_
  refine q_callI (rest := [.int r]) C.1 C.2.2.1 C.2.2.2.1 w (c_X7_undo (gInj_D (va_Dr w.2.1)) e2) ob_X7 rfl gv_L_77 md_X7_undo rfl ⟨Nat.le_of_ble_eq_true rfl, Nat.le_of_ble_eq_true rfl⟩ hl.1 rfl (Nat.le_of_ble_eq_true rfl) ⟨by show 272 + k ≤ 603072; omega, by show 12013 + 6 * k ≤ 7194730; omega⟩ dL_law_699 (fun H locs w => ?_)
  refine lv_icmp_eq (tgt := 770) hx hb dL_law_702 (by decide) (fun _ => ?_) (fun h => absurd rfl h)
  refine W.widen (k := 272 + (k + 1)) (n := 12013 + 6 * (k + 1)) (by omega) (by omega) ?_
  exact K n1 u1 Mx1 My1 fo H locs ls hR1 w.sw hl
set_option maxRecDepth 100000 in
theorem law_12 {p : Program} {l : Launch} {e : Env} {s : State} {m : MethodId} {below : List Frame} {meth : Method} {c : Code} {H : Heap} {locs : List Loc} {Q : State → Prop} {ls : Array Slot} {D : va_G} {cI cT cS cZ cJ : ClassId} {aX aY : Nat → Nat} {qo sa : Nat} {fo : Nat → Int64} {Mx My : Mem} {b L k n u : Nat} {xs : Nat → Int32} (C : LC p s m meth c b L xs D cI cT cS cZ cJ sa) (hR : Rel k n u Mx My) (hk : 6 * k + 6 ≤ L) (w : kWd D (fun q => s.heap.size ≤ q) (lW cI cT cS cZ cJ aX aY Mx My qo fo) s H locs) (hl : lv_has ls 7 (lvL b aX aY qo k)) (K : ∀ (n u : Nat) (Mx My : Mem) (fo : Nat → Int64) (H : Heap) (locs : List Loc) (ls : Array Slot), Rel (k + 1) n u Mx My → kWd D (fun q => s.heap.size ≤ q) (lW cI cT cS cZ cJ aX aY Mx My qo fo) s H locs → lv_has ls 7 (lvL b aX aY qo k) → W p l e room_1 s m #[Value.ref b] below meth c H locs (272 + (k + 1)) (12013 + 6 * (k + 1)) Q (F0 m 770 ls [])) : W p l e room_1 s m #[Value.ref b] below meth c H locs (272 + k) (12013 + 6 * k) Q (F0 m 707 ls []) := by
  have hL := C.2.2.2.2.2.2.2.2.2
  have hx := C.1.1
  have hb := C.1.2.1
  have hbA : ¬ (fun q : Nat => s.heap.size ≤ q) b := Nat.not_le.mpr C.2.2.2.2.2.2.1
  obtain ⟨r, Mx1, My1, n1, u1, e1, e2, hR1⟩ := op_restart hR (xs (6 * k + 1))
  refine lv_aload_n hx hb dL_law_707 rfl (lv_at hl 3 rfl) ?_
  refine q_arg (j := 1) hx hb C.2.2.2.2.2.1 C.2.2.2.2.2.2.1 hbA C.2.2.2.2.2.2.2.2.2 w hl 0 4 rfl rfl rfl (by omega) dL_law_708 dL_law_709 dL_law_711 dL_law_712 dL_law_713 ?_
  replace w := kWd.asc (a := gw 30 (yE cI cZ) aY My) (b := wO cJ qo fo) (c := gw 241 (xE cI cT cS) aX Mx) w
  refine q_callI (rest := []) C.1 (C.2.1.sub (tys' := xty cI cT cS) [0, 1, 2] rfl) C.2.2.2.1 w (c_X6_restart (gInj_D (va_Dr w.2.1)) e1) ob_X6 rfl gv_L_78 md_X6_restart rfl ⟨Nat.le_of_ble_eq_true rfl, Nat.le_of_ble_eq_true rfl⟩ hl.1 rfl (Nat.le_of_ble_eq_true rfl) ⟨by show 272 + k ≤ 603072; omega, by show 12013 + 6 * k ≤ 7194730; omega⟩ dL_law_714 (fun H locs w => ?_)
  replace w := (kWd.csa w).sw
  refine lv_aload_n hx hb dL_law_717 rfl (lv_at hl 2 rfl) ?_
  refine q_arg (j := 1) hx hb C.2.2.2.2.2.1 C.2.2.2.2.2.2.1 hbA C.2.2.2.2.2.2.2.2.2 w hl 0 4 rfl rfl rfl (by omega) dL_law_718 dL_law_719 dL_law_721 dL_law_722 dL_law_723 ?_
  refine q_callI (rest := [.int r]) C.1 C.2.2.1 C.2.2.2.1 w (c_X7_restart (gInj_D (va_Dr w.2.1)) e2) ob_X7 rfl gv_L_81 md_X7_restart rfl ⟨Nat.le_of_ble_eq_true rfl, Nat.le_of_ble_eq_true rfl⟩ hl.1 rfl (Nat.le_of_ble_eq_true rfl) ⟨by show 272 + k ≤ 603072; omega, by show 12013 + 6 * k ≤ 7194730; omega⟩ dL_law_724 (fun H locs w => ?_)
  refine lv_icmp_eq (tgt := 770) hx hb dL_law_727 (by decide) (fun _ => ?_) (fun h => absurd rfl h)
  refine W.widen (k := 272 + (k + 1)) (n := 12013 + 6 * (k + 1)) (by omega) (by omega) ?_
  exact K n1 u1 Mx1 My1 fo H locs ls hR1 w.sw hl
set_option maxRecDepth 100000 in
theorem law_13 {p : Program} {l : Launch} {e : Env} {s : State} {m : MethodId} {below : List Frame} {meth : Method} {c : Code} {H : Heap} {locs : List Loc} {Q : State → Prop} {ls : Array Slot} {D : va_G} {cI cT cS cZ cJ : ClassId} {aX aY : Nat → Nat} {qo sa : Nat} {fo : Nat → Int64} {Mx My : Mem} {b L k n u : Nat} {xs : Nat → Int32} (C : LC p s m meth c b L xs D cI cT cS cZ cJ sa) (hR : Rel k n u Mx My) (hk : 6 * k + 6 ≤ L) (w : kWd D (fun q => s.heap.size ≤ q) (lW cI cT cS cZ cJ aX aY Mx My qo fo) s H locs) (hl : lv_has ls 7 (lvL b aX aY qo k)) (K : ∀ (n u : Nat) (Mx My : Mem) (fo : Nat → Int64) (H : Heap) (locs : List Loc) (ls : Array Slot), Rel (k + 1) n u Mx My → kWd D (fun q => s.heap.size ≤ q) (lW cI cT cS cZ cJ aX aY Mx My qo fo) s H locs → lv_has ls 7 (lvL b aX aY qo k) → W p l e room_1 s m #[Value.ref b] below meth c H locs (272 + (k + 1)) (12013 + 6 * (k + 1)) Q (F0 m 770 ls [])) : W p l e room_1 s m #[Value.ref b] below meth c H locs (272 + k) (12013 + 6 * k) Q (F0 m 732 ls []) := by
  have hL := C.2.2.2.2.2.2.2.2.2
  have hx := C.1.1
  have hb := C.1.2.1
  have hbA : ¬ (fun q : Nat => s.heap.size ≤ q) b := Nat.not_le.mpr C.2.2.2.2.2.2.1
  obtain ⟨r, Mx1, My1, n1, u1, e1, e2, hR1⟩ := op_about hR (xs (6 * k + 1))
  refine lv_aload_n hx hb dL_law_732 rfl (lv_at hl 3 rfl) ?_
  refine q_arg (j := 1) hx hb C.2.2.2.2.2.1 C.2.2.2.2.2.2.1 hbA C.2.2.2.2.2.2.2.2.2 w hl 0 4 rfl rfl rfl (by omega) dL_law_733 dL_law_734 dL_law_736 dL_law_737 dL_law_738 ?_
  replace w := kWd.asc (a := gw 30 (yE cI cZ) aY My) (b := wO cJ qo fo) (c := gw 241 (xE cI cT cS) aX Mx) w
  refine q_callI (rest := []) C.1 (C.2.1.sub (tys' := xty cI cT cS) [0, 1, 2] rfl) C.2.2.2.1 w (c_X6_about (gInj_D (va_Dr w.2.1)) e1) ob_X6 rfl gv_L_82 md_X6_about rfl ⟨Nat.le_of_ble_eq_true rfl, Nat.le_of_ble_eq_true rfl⟩ hl.1 rfl (Nat.le_of_ble_eq_true rfl) ⟨by show 272 + k ≤ 603072; omega, by show 12013 + 6 * k ≤ 7194730; omega⟩ dL_law_739 (fun H locs w => ?_)
  replace w := (kWd.csa w).sw
  refine lv_aload_n hx hb dL_law_742 rfl (lv_at hl 2 rfl) ?_
  refine q_arg (j := 1) hx hb C.2.2.2.2.2.1 C.2.2.2.2.2.2.1 hbA C.2.2.2.2.2.2.2.2.2 w hl 0 4 rfl rfl rfl (by omega) dL_law_743 dL_law_744 dL_law_746 dL_law_747 dL_law_748 ?_
  refine q_callI (rest := [.int r]) C.1 C.2.2.1 C.2.2.2.1 w (c_X7_about (gInj_D (va_Dr w.2.1)) e2) ob_X7 rfl gv_L_85 md_X7_about rfl ⟨Nat.le_of_ble_eq_true rfl, Nat.le_of_ble_eq_true rfl⟩ hl.1 rfl (Nat.le_of_ble_eq_true rfl) ⟨by show 272 + k ≤ 603072; omega, by show 12013 + 6 * k ≤ 7194730; omega⟩ dL_law_749 (fun H locs w => ?_)
  refine lv_icmp_eq (tgt := 770) hx hb dL_law_752 (by decide) (fun _ => ?_) (fun h => absurd rfl h)
  refine W.widen (k := 272 + (k + 1)) (n := 12013 + 6 * (k + 1)) (by omega) (by omega) ?_
  exact K n1 u1 Mx1 My1 fo H locs ls hR1 w.sw hl
set_option maxRecDepth 100000 in
theorem law_14 {p : Program} {l : Launch} {e : Env} {s : State} {m : MethodId} {below : List Frame} {meth : Method} {c : Code} {H : Heap} {locs : List Loc} {Q : State → Prop} {ls : Array Slot} {D : va_G} {cI cT cS cZ cJ : ClassId} {aX aY : Nat → Nat} {qo sa : Nat} {fo : Nat → Int64} {Mx My : Mem} {b L k n u : Nat} {xs : Nat → Int32} (C : LC p s m meth c b L xs D cI cT cS cZ cJ sa) (hR : Rel k n u Mx My) (hk : 6 * k + 6 ≤ L) (w : kWd D (fun q => s.heap.size ≤ q) (lW cI cT cS cZ cJ aX aY Mx My qo fo) s H locs) (hl : lv_has ls 7 (lvL b aX aY qo k)) (K : ∀ (n u : Nat) (Mx My : Mem) (fo : Nat → Int64) (H : Heap) (locs : List Loc) (ls : Array Slot), Rel (k + 1) n u Mx My → kWd D (fun q => s.heap.size ≤ q) (lW cI cT cS cZ cJ aX aY Mx My qo fo) s H locs → lv_has ls 7 (lvL b aX aY qo k) → W p l e room_1 s m #[Value.ref b] below meth c H locs (272 + (k + 1)) (12013 + 6 * (k + 1)) Q (F0 m 770 ls [])) : W p l e room_1 s m #[Value.ref b] below meth c H locs (272 + k) (12013 + 6 * k) Q (F0 m 757 ls []) := by
  have hL := C.2.2.2.2.2.2.2.2.2
  have hx := C.1.1
  have hb := C.1.2.1
  have hbA : ¬ (fun q : Nat => s.heap.size ≤ q) b := Nat.not_le.mpr C.2.2.2.2.2.2.1
  obtain ⟨r, Mx1, My1, n1, u1, e1, e2, hR1⟩ := op_clear hR
  refine lv_aload_n hx hb dL_law_757 rfl (lv_at hl 3 rfl) ?_
  replace w := kWd.asc (a := gw 30 (yE cI cZ) aY My) (b := wO cJ qo fo) (c := gw 241 (xE cI cT cS) aX Mx) w
  refine q_callI (rest := []) C.1 (C.2.1.sub (tys' := xty cI cT cS) [0, 1, 2] rfl) C.2.2.2.1 w (c_X6_clear (gInj_D (va_Dr w.2.1)) e1) ob_X6 rfl gv_L_86 md_X6_clear rfl ⟨Nat.le_of_ble_eq_true rfl, Nat.le_of_ble_eq_true rfl⟩ hl.1 rfl (Nat.le_of_ble_eq_true rfl) ⟨by show 272 + k ≤ 603072; omega, by show 12013 + 6 * k ≤ 7194730; omega⟩ dL_law_758 (fun H locs w => ?_)
  replace w := (kWd.csa w).sw
  refine lv_aload_n hx hb dL_law_761 rfl (lv_at hl 2 rfl) ?_
  refine q_callI (rest := [.int r]) C.1 C.2.2.1 C.2.2.2.1 w (c_X7_clear (gInj_D (va_Dr w.2.1)) e2) ob_X7 rfl gv_L_89 md_X7_clear rfl ⟨Nat.le_of_ble_eq_true rfl, Nat.le_of_ble_eq_true rfl⟩ hl.1 rfl (Nat.le_of_ble_eq_true rfl) ⟨by show 272 + k ≤ 603072; omega, by show 12013 + 6 * k ≤ 7194730; omega⟩ dL_law_762 (fun H locs w => ?_)
  refine lv_icmp_eq (tgt := 770) hx hb dL_law_765 (by decide) (fun _ => ?_) (fun h => absurd rfl h)
  refine W.widen (k := 272 + (k + 1)) (n := 12013 + 6 * (k + 1)) (by omega) (by omega) ?_
  exact K n1 u1 Mx1 My1 fo H locs ls hR1 w.sw hl
theorem op_message {c n u : Nat} {Mx My : Mem} (h : Rel c n u Mx My) (x : Int32) : (∃ v, f_X6_within x 0 (Mx 10 3 - 1) Mx = some (1, Mx) ∧ ldI Mx 12 100 x = some v ∧ f_X7_message x My = some (v, mset My 0 0 0)) ∨ (f_X6_within x 0 (Mx 10 3 - 1) Mx = some (0, Mx) ∧ f_X7_message x My = some (0, mset My 0 0 1)) := by
  obtain ⟨q, hq, e19⟩ := h.2.2.2.1
  have ex : Mx 10 3 = nI q := (h.1.at 0 19 (by simp [dm]) rfl).trans e19
  rw [ex]
  unfold f_X7_message f_X7_message_0
  rw [e19]
  rcases in_cases x 0 (nI q - 1) with ⟨hr, ix, iy⟩ | ⟨-, ix, iy⟩
  · obtain ⟨i, hi, rfl⟩ := nI_range (n := q) rfl (nI_sub1 (by omega)) (by omega) hr
    refine Or.inl ⟨My 15 i, ix Mx, ?_, ?_⟩
    · rw [ldI_n Mx 12 (show i < 100 by omega), h.1.at 15 i (show i < 100 by omega) rfl]
    · rw [iy]
      simp only [Option.bind_some]
      rw [if_neg (show ¬ (1 : Int32) = 0 by decide)]
      unfold f_X7_message_20
      simp only [stF, Option.bind_some]
      rw [mset_get, if_pos (show (0 : Int32) ≤ 0 by decide), ldI_n _ 15 (show i < 100 by omega), mset_get_ne _ _ (by omega)]
      rfl
  · refine Or.inr ⟨ix Mx, ?_⟩
    rw [iy]
    simp only [Option.bind_some]
    rw [if_pos (show True from trivial)]
    unfold f_X7_message_20
    simp only [stF, Option.bind_some]
    rw [mset_get, if_neg (show ¬ (1 : Int32) ≤ 0 by decide)]
set_option maxRecDepth 100000 in
theorem law_9 {p : Program} {l : Launch} {e : Env} {s : State} {m : MethodId} {below : List Frame} {meth : Method} {c : Code} {H : Heap} {locs : List Loc} {Q : State → Prop} {ls : Array Slot} {D : va_G} {cI cT cS cZ cJ : ClassId} {aX aY : Nat → Nat} {qo sa : Nat} {fo : Nat → Int64} {Mx My : Mem} {b L k n u : Nat} {xs : Nat → Int32} (hl0 : l.stackTraces = false) (C : LC p s m meth c b L xs D cI cT cS cZ cJ sa) (hR : Rel k n u Mx My) (hk : 6 * k + 6 ≤ L) (w : kWd D (fun q => s.heap.size ≤ q) (lW cI cT cS cZ cJ aX aY Mx My qo fo) s H locs) (hl : lv_has ls 7 (lvL b aX aY qo k)) (K : ∀ (n u : Nat) (Mx My : Mem) (fo : Nat → Int64) (H : Heap) (locs : List Loc) (ls : Array Slot), Rel (k + 1) n u Mx My → kWd D (fun q => s.heap.size ≤ q) (lW cI cT cS cZ cJ aX aY Mx My qo fo) s H locs → lv_has ls 7 (lvL b aX aY qo k) → W p l e room_1 s m #[Value.ref b] below meth c H locs (272 + (k + 1)) (12013 + 6 * (k + 1)) Q (F0 m 770 ls [])) : W p l e room_1 s m #[Value.ref b] below meth c H locs (272 + k) (12013 + 6 * k) Q (F0 m 589 ls []) := by
  have hL := C.2.2.2.2.2.2.2.2.2
  have hx := C.1.1
  have hb := C.1.2.1
  have hbA : ¬ (fun q : Nat => s.heap.size ≤ q) b := Nat.not_le.mpr C.2.2.2.2.2.2.1
  have key : ∃ (r v t0 : Int32) (fo' : Nat → Int64), lMet l D cI cT cS cJ aX Mx qo fo fo' sa H.size (xs (6 * k + 1)) r ∧ f_X7_message (xs (6 * k + 1)) My = some (v, mset My 0 0 r) ∧ (r = 0 → fo' 0 = v.toInt64) := by
    rcases op_message hR (xs (6 * k + 1)) with ⟨v, h1, h2, h3⟩ | ⟨h1, h3⟩
    · exact ⟨0, v, 0, _, c_L_in h1 h2, h3, fun _ => rfl⟩
    · exact ⟨1, 0, 0, fo, c_L_out hl0 h1, h3, fun h => absurd h (by decide)⟩
  obtain ⟨r, v, t0, fo', hM, e2, hfo⟩ := key
  refine lv_aload_n hx hb dL_law_589 rfl (lv_at hl 3 rfl) ?_
  refine q_arg (j := 1) hx hb C.2.2.2.2.2.1 C.2.2.2.2.2.2.1 hbA C.2.2.2.2.2.2.2.2.2 w hl 0 4 rfl rfl rfl (by omega) dL_law_590 dL_law_591 dL_law_593 dL_law_594 dL_law_595 ?_
  refine lv_aload_n hx hb dL_law_596 rfl (lv_at hl 1 rfl) ?_
  refine q_msg (rest := []) C.1 C.2.1 C.2.2.2.1 C.2.2.2.2.1 w hM ⟨Nat.le_of_ble_eq_true rfl, Nat.le_of_ble_eq_true rfl⟩ hl.1 (Nat.le_of_ble_eq_true rfl) ⟨by show 272 + k + 1 ≤ 603072; omega, by show 12013 + 6 * k + 6 ≤ 7194730; omega⟩ dL_law_597 (fun H locs w => ?_)
  replace w := w.sw
  refine lv_istore (lv' := [(5, .int r), (4, .int (nI (6 * k))), (3, .ref qo), (2, .ref (aY 0)), (1, .ref (aX 0)), (0, .ref b)]) hx hb dL_law_600 hl (by decide) rfl (fun ls hl => ?_)
  refine lv_aload_n hx hb dL_law_602 rfl (lv_at hl 3 rfl) ?_
  refine q_arg (j := 1) hx hb C.2.2.2.2.2.1 C.2.2.2.2.2.2.1 hbA C.2.2.2.2.2.2.2.2.2 w hl 1 5 rfl rfl rfl (by omega) dL_law_603 dL_law_604 dL_law_606 dL_law_607 dL_law_608 ?_
  refine q_callI (rest := []) C.1 C.2.2.1 C.2.2.2.1 w (c_X7_message (gInj_D (va_Dr w.2.1)) e2) ob_X7 rfl gv_L_66 md_X7_message rfl ⟨Nat.le_of_ble_eq_true rfl, Nat.le_of_ble_eq_true rfl⟩ hl.1 rfl (Nat.le_of_ble_eq_true rfl) ⟨by show 272 + k + 1 ≤ 603072; omega, by show 12013 + 6 * k + 6 ≤ 7194730; omega⟩ dL_law_609 (fun H locs w => ?_)
  refine lv_istore (lv' := [(6, .int v), (5, .int r), (4, .int (nI (6 * k))), (3, .ref qo), (2, .ref (aY 0)), (1, .ref (aX 0)), (0, .ref b)]) hx hb dL_law_612 hl (by decide) rfl (fun ls hl => ?_)
  refine lv_aload_n hx hb dL_law_614 rfl (lv_at hl 4 rfl) ?_
  have e3 : f_X7_thrown (mset My 0 0 r) = some (r, mset My 0 0 r) := by
    unfold f_X7_thrown f_X7_thrown_0
    rw [mset_get]
  refine q_callI (rest := []) C.1 C.2.2.1 C.2.2.2.1 w (c_X7_thrown (gInj_D (va_Dr w.2.1)) e3) ob_X7 rfl gv_L_67 md_X7_thrown rfl ⟨Nat.le_of_ble_eq_true rfl, Nat.le_of_ble_eq_true rfl⟩ hl.1 rfl (Nat.le_of_ble_eq_true rfl) ⟨by show 272 + k + 1 ≤ 603072; omega, by show 12013 + 6 * k + 6 ≤ 7194730; omega⟩ dL_law_615 (fun H locs w => ?_)
  refine lv_iload hx hb dL_law_618 (lv_at hl 1 rfl) ?_
  refine lv_icmp_eq (tgt := 625) hx hb dL_law_620 (by decide) (fun _ => ?_) (fun h => absurd rfl h)
  refine lv_iload hx hb dL_law_625 (lv_at hl 1 rfl) ?_
  have fin : W p l e room_1 s m #[Value.ref b] below meth c H locs (272 + k + 1) (12013 + 6 * k + 6) Q (F0 m 642 ls []) := by
    refine lv_goto (tgt := 770) hx hb dL_law_642 (by decide) ?_
    refine W.widen (k := 272 + (k + 1)) (n := 12013 + 6 * (k + 1)) (by omega) (by omega) ?_
    exact K n u Mx (mset My 0 0 r) fo' H locs ls (hR.y0 r).up w.sw (lv_sub hl [2, 3, 4, 5, 6] rfl)
  refine lv_if_ne (tgt := 642) hx hb dL_law_627 (by decide) (fun _ => fin) (fun h => ?_)
  have hr0 : r = 0 := h
  refine lv_aload_n hx hb dL_law_630 rfl (lv_at hl 3 rfl) ?_
  refine lv_iconst (v := 0) hx hb dL_law_631 (by decide) ?_
  refine va_lald hx hb C.2.1 w.1 0 3 (cA := cJ) (n := 1) (f := fo') rfl rfl (show vp_in (0 : Int32) 1 from inb_in rfl) dL_law_632 ?_
  refine lv_iload hx hb dL_law_633 (lv_at hl 0 rfl) ?_
  refine lv_i2l hx hb dL_law_635 rfl ?_
  refine W.lcmp hx hb dL_law_636 ?_
  refine lv_if_eq (tgt := 642) hx hb dL_law_637 (by decide) (fun _ => fin) (fun h => absurd ?_ h)
  rw [show (0 : Int32).toNatClampNeg = 0 from rfl, hfo hr0]
  simp [lg_cmp]
