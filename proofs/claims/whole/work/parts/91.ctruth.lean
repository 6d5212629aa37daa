/-! the class' truth -/
def upd56 (e : Nat → Nat) (I : Nat → Nat → Int32) : Prop := ∀ v, v < 6 → I 56 v = nI (e v) ∧ e v < 3
def Fct (a n : Nat) (fc : Nat → Bool) (I : Nat → Nat → Int32) : Prop := ∀ k, k < n → I a k = bI (fc k)
/-- what stays while a reading is judged -/
def TCx (L : Nat → Nat) (t : Nat) (fs : List Fg) (o : List Nat) (l : List (Nat × List Nat)) (fc : Nat → Bool) (dm : Nat) (I : Nat → Nat → Int32) : Prop := SN L t fs I ∧ Ordr fs o l ∧ LYk (kdF fs) o l fs.length I ∧ Fct 55 45 fc I ∧ I 54 3 = nI dm ∧ dm ≤ 3 ∧ Usd L fs
theorem TCx.fr {L : Nat → Nat} {t : Nat} {fs : List Fg} {o : List Nat} {l : List (Nat × List Nat)} {fc : Nat → Bool} {dm : Nat} {I I' : Nat → Nat → Int32} (h : TCx L t fs o l fc dm I) (h2 : ∀ c, c < 56 → I' c = I c) : TCx L t fs o l fc dm I' := by
  obtain ⟨h3, h4, h5, h6, h7, h8, h9⟩ := h
  refine ⟨h3.fr (fun c _ _ => h2 c (by omega)), h4, h5.fr (fun c _ _ => h2 c (by omega)), fun k hk => ?_, ?_, h8, h9⟩
  · rw [h2 55 (by omega)]; exact h6 k hk
  · rw [h2 54 (by omega)]; exact h7
/-- quantifiers from a place on have the value 0 -/
def zrV (fs : List Fg) (o : List Nat) (j : Nat) (e : Nat → Nat) : Prop := ∀ k, j ≤ k → k < o.length → rk (kF (nF fs (o.getD k 0))) = 2 → e (vF (nF fs (o.getD k 0))) = 0
section CT1
variable (g : am_G) {L : Nat → Nat} {t : Nat} {fs : List Fg} {o : List Nat} {l : List (Nat × List Nat)} {fc : Nat → Bool} {dm : Nat}
set_option maxRecDepth 100000 in
set_option maxHeartbeats 400000 in
theorem c_X4_indexOfFact (h : Nat) (I : Nat → Nat → Int32) (J : Nat → Nat → Int64) (p a b : Nat) :
    am_Ctr g am_mt 1 (h + 1) 38 [.int (nI p), .int (nI a), .int (nI b)] (am_SH, I, J) 0 0 (fun r M => r = some (.int (nI (9 * p + 3 * a + b))) ∧ M = (am_SH, I, J)) := by
  refine am_rule0 (q := qX4_indexOfFact) (B := am_blk bX4_indexOfFact) 30 rfl rfl kX4_indexOfFact nX4_indexOfFact (Nat.le_of_ble_eq_true rfl) ?_
  simp (decide := true) (disch := (first | exact eq_false (by decide) | exact eq_true (by decide) | decide | omega)) only [lX4_indexOfFact_0, bX4_indexOfFact_0, (show qX4_indexOfFact.2.2.2.1 = (some .int) from rfl), am_rok_int, w_bipush, w_iadd, w_iconst, w_iload_n, w_imul, w_ireturn, cB_9, cI_3, am_lk0, am_lk1, am_ld_some, am_isI_i, am_isJ_j, am_isR_r, am_st_eq, am_rmv_nil, am_rmv_t, am_rmv_i, am_rmv_r, sf_SH, sj_SH, sf_eq, sf_nk, sf_na, sf_sf, am_args_i, am_args_r, am_args_n, Nat.reduceAdd, List.cons_append, List.nil_append, Option.toList, List.drop_succ_cons, List.drop_zero, am_RP, am_CP, am_PH, Fin.isValue, Fin.val_zero, Fin.val_one, am_f2, am_f3, true_and, and_true, true_implies, false_implies, not_false_eq_true, ne_eq, nI_clampD, nI_leT, nI_leF, nI_ltT, nI_ltF, nI_eqT, nI_eqF, nI_lt0F, nI_0leT, nI_eq0T, nI_eq0F, nI_0ltT, nI_0ltF, nI_le0T, nI_le0F, nI_m1, nI_m1', m1_m1, m1_lt, m1_le, nI_mul, nI_add, nI_sub, nI_add1, nI_dec, nI_div, nI_mod, vp_inD, sf_nkD, sf_eqD]
set_option maxRecDepth 100000 in
set_option maxHeartbeats 8000000 in
theorem c_X4_isEnough (h : Nat) (I : Nat → Nat → Int32) (J : Nat → Nat → Int64) (k a b : Nat) (hk : 1 ≤ k ∧ k ≤ 4) (ha : a ≤ 3) (hb : b ≤ 3) :
    am_Ctr g am_mt 1 (h + 1) 44 [.int (nI k), .int (nI a), .int (nI b)] (am_SH, I, J) 0 0 (fun r M => r = some (.int (bI (enuf k a b))) ∧ M = (am_SH, I, J)) := by
  refine am_rule0 (q := qX4_isEnough) (B := am_blk bX4_isEnough) 30 rfl rfl kX4_isEnough nX4_isEnough (Nat.le_of_ble_eq_true rfl) ?_
  have hk4 : k = 1 ∨ k = 2 ∨ k = 3 ∨ k = 4 := by omega
  have hb4 : b = 0 ∨ b = 1 ∨ b = 2 ∨ b = 3 := by omega
  have ha4 : a = 0 ∨ a = 1 ∨ a = 2 ∨ a = 3 := by omega
  rcases hk4 with rfl | rfl | rfl | rfl <;> rcases hb4 with rfl | rfl | rfl | rfl <;> rcases ha4 with rfl | rfl | rfl | rfl <;> (simp (decide := true) (disch := (first | exact eq_false (by decide) | exact eq_true (by decide) | decide | omega)) only [lX4_isEnough_0, lX4_isEnough_28, lX4_isEnough_37, lX4_isEnough_38, lX4_isEnough_39, lX4_isEnough_47, lX4_isEnough_48, lX4_isEnough_49, lX4_isEnough_57, lX4_isEnough_58, lX4_isEnough_59, lX4_isEnough_70, lX4_isEnough_71, bX4_isEnough_0, bX4_isEnough_28, bX4_isEnough_37, bX4_isEnough_38, bX4_isEnough_39, bX4_isEnough_47, bX4_isEnough_48, bX4_isEnough_49, bX4_isEnough_57, bX4_isEnough_58, bX4_isEnough_59, bX4_isEnough_70, bX4_isEnough_71, (show qX4_isEnough.2.2.2.1 = (some .boolean) from rfl), am_rok_bool, (show ((((1 : Nat) : Int)) + 27).toNat = 28 from rfl), (show ((((1 : Nat) : Int)) + 38).toNat = 39 from rfl), (show ((((1 : Nat) : Int)) + 48).toNat = 49 from rfl), (show ((((1 : Nat) : Int)) + 58).toNat = 59 from rfl), Int.reduceAdd, am_tsw, w_goto, w_icmp_le, w_icmp_ne, w_iconst, w_if_le, w_if_ne, w_iload_n, w_imul, w_ireturn, w_swap, w_tsw, cI_0, cI_1, cI_2, cI_3, am_lk0, am_lk1, am_ld_some, am_isI_i, am_isJ_j, am_isR_r, am_st_eq, am_rmv_nil, am_rmv_t, am_rmv_i, am_rmv_r, sf_SH, sj_SH, sf_eq, sf_nk, sf_na, sf_sf, am_args_i, am_args_r, am_args_n, Nat.reduceAdd, List.cons_append, List.nil_append, Option.toList, List.drop_succ_cons, List.drop_zero, am_RP, am_CP, am_PH, Fin.isValue, Fin.val_zero, Fin.val_one, am_f2, am_f3, true_and, and_true, true_implies, false_implies, not_false_eq_true, ne_eq, nI_clampD, nI_leT, nI_leF, nI_ltT, nI_ltF, nI_eqT, nI_eqF, nI_lt0F, nI_0leT, nI_eq0T, nI_eq0F, nI_0ltT, nI_0ltF, nI_le0T, nI_le0F, nI_m1, nI_m1', m1_m1, m1_lt, m1_le, nI_mul, nI_add, nI_sub, nI_add1, nI_dec, nI_div, nI_mod, vp_inD, sf_nkD, sf_eqD, nI0_01, nI1_01]; try rfl)
set_option maxRecDepth 100000 in
set_option maxHeartbeats 8000000 in
theorem c_X4_atomHolds (h : Nat) (I : Nat → Nat → Int32) (J : Nat → Nat → Int64) (hT : TCx L t fs o l fc dm I) (f : Nat) (e : Nat → Nat) (hf : f < fs.length) (hk : kF (nF fs f) = 0) (he : upd56 e I) :
    am_Ctr g am_mt 1 (h + 2) 42 [.ref 54, .int (nI f)] (am_SH, I, J) 0 0 (fun r M => r = some (.int (bI (tvF L fs fc f e))) ∧ M = (am_SH, I, J)) := by
  obtain ⟨hS, hO, hY, hF, hd, hd3, hU⟩ := hT
  have hn := hS.2.le
  have hl := hS.1.2.2.2.2.1 f hf hk
  have hL := hS.2.leaf hf hk
  unfold LFt at hL
  have hp5 := hS.2.pls5
  have hpr := (prd_spec L fs hf hk).1
  have e1 := he (vF (nF fs f)) (by omega)
  have l8 : I 10 f = nI (vF (nF fs f)) := hl.2.2.2.1
  have l9 : I 11 f = wI (wF (nF fs f)) := hl.2.2.2.2.1
  have l10 : I 12 f = nI (prd L fs f) := hl.2.2.2.2.2
  refine am_rule0 (q := qX4_atomHolds) (B := am_blk bX4_atomHolds) 60 rfl rfl kX4_atomHolds nX4_atomHolds (Nat.le_of_ble_eq_true rfl) ?_
  by_cases hw : wF (nF fs f) = 0
  · have ew : (wI (wF (nF fs f)) = -1) = True := by rw [hw]; exact wI_m1t
    simp (decide := true) (disch := (first | exact eq_false (by decide) | exact eq_true (by decide) | decide | omega)) only [lX4_atomHolds_0, lX4_atomHolds_34, lX4_atomHolds_40, bX4_atomHolds_0, bX4_atomHolds_34, bX4_atomHolds_40, (show qX4_atomHolds.2.2.2.1 = (some .boolean) from rfl), am_rok_bool, w_aload_n, w_baload, w_getfield, w_goto, w_iaload, w_icmp_ne, w_iconst, w_iload, w_iload_n, w_ireturn, w_istore, w_istore_n, w_swap, sa_10, sa_11, sa_12, sa_23, sa_24, sa_25, sa_55, sa_56, sg_15_10, sg_15_8, sg_15_9, sg_2_10, sg_2_8, sg_2_9, sg_54_0, sg_54_4, sg_54_5, cI_0, cI_m1, am_lk0, am_lk1, am_ld_some, am_isI_i, am_isJ_j, am_isR_r, am_st_eq, am_rmv_nil, am_rmv_t, am_rmv_i, am_rmv_r, sf_SH, sj_SH, sf_eq, sf_nk, sf_na, sf_sf, am_args_i, am_args_r, am_args_n, Nat.reduceAdd, List.cons_append, List.nil_append, Option.toList, List.drop_succ_cons, List.drop_zero, am_RP, am_CP, am_PH, Fin.isValue, Fin.val_zero, Fin.val_one, am_f2, am_f3, true_and, and_true, true_implies, false_implies, not_false_eq_true, ne_eq, nI_clampD, nI_leT, nI_leF, nI_ltT, nI_ltF, nI_eqT, nI_eqF, nI_lt0F, nI_0leT, nI_eq0T, nI_eq0F, nI_0ltT, nI_0ltF, nI_le0T, nI_le0F, nI_m1, nI_m1', m1_m1, m1_lt, m1_le, nI_mul, nI_add, nI_sub, nI_add1, nI_dec, nI_div, nI_mod, vp_inD, sf_nkD, sf_eqD, l8, l9, l10, e1.1, ew]
    refine w_statE (c_X4_indexOfFact g h I J (prd L fs f) (e (vF (nF fs f))) 0) (by decide) rfl rfl rfl (Nat.le_refl _) (Nat.le_refl _) ?_
    have hfk := hF (9 * prd L fs f + 3 * e (vF (nF fs f)) + 0) (by omega)
    have e9 : tvF L fs fc f e = fc (9 * prd L fs f + 3 * e (vF (nF fs f)) + 0) := by unfold tvF; rw [if_pos hw]
    rw [e9]
    simp (decide := true) (disch := (first | exact eq_false (by decide) | exact eq_true (by decide) | decide | omega)) only [lX4_atomHolds_0, lX4_atomHolds_34, lX4_atomHolds_40, bX4_atomHolds_0, bX4_atomHolds_34, bX4_atomHolds_40, (show qX4_atomHolds.2.2.2.1 = (some .boolean) from rfl), am_rok_bool, w_aload_n, w_baload, w_getfield, w_goto, w_iaload, w_icmp_ne, w_iconst, w_iload, w_iload_n, w_ireturn, w_istore, w_istore_n, w_swap, sa_10, sa_11, sa_12, sa_23, sa_24, sa_25, sa_55, sa_56, sg_15_10, sg_15_8, sg_15_9, sg_2_10, sg_2_8, sg_2_9, sg_54_0, sg_54_4, sg_54_5, cI_0, cI_m1, am_lk0, am_lk1, am_ld_some, am_isI_i, am_isJ_j, am_isR_r, am_st_eq, am_rmv_nil, am_rmv_t, am_rmv_i, am_rmv_r, sf_SH, sj_SH, sf_eq, sf_nk, sf_na, sf_sf, am_args_i, am_args_r, am_args_n, Nat.reduceAdd, List.cons_append, List.nil_append, Option.toList, List.drop_succ_cons, List.drop_zero, am_RP, am_CP, am_PH, Fin.isValue, Fin.val_zero, Fin.val_one, am_f2, am_f3, true_and, and_true, true_implies, false_implies, not_false_eq_true, ne_eq, nI_clampD, nI_leT, nI_leF, nI_ltT, nI_ltF, nI_eqT, nI_eqF, nI_lt0F, nI_0leT, nI_eq0T, nI_eq0F, nI_0ltT, nI_0ltF, nI_le0T, nI_le0F, nI_m1, nI_m1', m1_m1, m1_lt, m1_le, nI_mul, nI_add, nI_sub, nI_add1, nI_dec, nI_div, nI_mod, vp_inD, sf_nkD, sf_eqD, hfk, bI_01]
  · have ew : (wI (wF (nF fs f)) = -1) = False := wI_m1f (by omega) (by omega)
    have ep : wI (wF (nF fs f)) = nI (wF (nF fs f) - 1) := wI_p (by omega)
    have e2 := he (wF (nF fs f) - 1) (by omega)
    simp (decide := true) (disch := (first | exact eq_false (by decide) | exact eq_true (by decide) | decide | omega)) only [lX4_atomHolds_0, lX4_atomHolds_34, lX4_atomHolds_40, bX4_atomHolds_0, bX4_atomHolds_34, bX4_atomHolds_40, (show qX4_atomHolds.2.2.2.1 = (some .boolean) from rfl), am_rok_bool, w_aload_n, w_baload, w_getfield, w_goto, w_iaload, w_icmp_ne, w_iconst, w_iload, w_iload_n, w_ireturn, w_istore, w_istore_n, w_swap, sa_10, sa_11, sa_12, sa_23, sa_24, sa_25, sa_55, sa_56, sg_15_10, sg_15_8, sg_15_9, sg_2_10, sg_2_8, sg_2_9, sg_54_0, sg_54_4, sg_54_5, cI_0, cI_m1, am_lk0, am_lk1, am_ld_some, am_isI_i, am_isJ_j, am_isR_r, am_st_eq, am_rmv_nil, am_rmv_t, am_rmv_i, am_rmv_r, sf_SH, sj_SH, sf_eq, sf_nk, sf_na, sf_sf, am_args_i, am_args_r, am_args_n, Nat.reduceAdd, List.cons_append, List.nil_append, Option.toList, List.drop_succ_cons, List.drop_zero, am_RP, am_CP, am_PH, Fin.isValue, Fin.val_zero, Fin.val_one, am_f2, am_f3, true_and, and_true, true_implies, false_implies, not_false_eq_true, ne_eq, nI_clampD, nI_leT, nI_leF, nI_ltT, nI_ltF, nI_eqT, nI_eqF, nI_lt0F, nI_0leT, nI_eq0T, nI_eq0F, nI_0ltT, nI_0ltF, nI_le0T, nI_le0F, nI_m1, nI_m1', m1_m1, m1_lt, m1_le, nI_mul, nI_add, nI_sub, nI_add1, nI_dec, nI_div, nI_mod, vp_inD, sf_nkD, sf_eqD, l8, l9, l10, e1.1, ep, e2.1]
    refine w_statE (c_X4_indexOfFact g h I J (prd L fs f) (e (vF (nF fs f))) (e (wF (nF fs f) - 1))) (by decide) rfl rfl rfl (Nat.le_refl _) (Nat.le_refl _) ?_
    have hfk := hF (9 * prd L fs f + 3 * e (vF (nF fs f)) + e (wF (nF fs f) - 1)) (by omega)
    have e9 : tvF L fs fc f e = fc (9 * prd L fs f + 3 * e (vF (nF fs f)) + e (wF (nF fs f) - 1)) := by unfold tvF; rw [if_neg hw]
    rw [e9]
    simp (decide := true) (disch := (first | exact eq_false (by decide) | exact eq_true (by decide) | decide | omega)) only [lX4_atomHolds_0, lX4_atomHolds_34, lX4_atomHolds_40, bX4_atomHolds_0, bX4_atomHolds_34, bX4_atomHolds_40, (show qX4_atomHolds.2.2.2.1 = (some .boolean) from rfl), am_rok_bool, w_aload_n, w_baload, w_getfield, w_goto, w_iaload, w_icmp_ne, w_iconst, w_iload, w_iload_n, w_ireturn, w_istore, w_istore_n, w_swap, sa_10, sa_11, sa_12, sa_23, sa_24, sa_25, sa_55, sa_56, sg_15_10, sg_15_8, sg_15_9, sg_2_10, sg_2_8, sg_2_9, sg_54_0, sg_54_4, sg_54_5, cI_0, cI_m1, am_lk0, am_lk1, am_ld_some, am_isI_i, am_isJ_j, am_isR_r, am_st_eq, am_rmv_nil, am_rmv_t, am_rmv_i, am_rmv_r, sf_SH, sj_SH, sf_eq, sf_nk, sf_na, sf_sf, am_args_i, am_args_r, am_args_n, Nat.reduceAdd, List.cons_append, List.nil_append, Option.toList, List.drop_succ_cons, List.drop_zero, am_RP, am_CP, am_PH, Fin.isValue, Fin.val_zero, Fin.val_one, am_f2, am_f3, true_and, and_true, true_implies, false_implies, not_false_eq_true, ne_eq, nI_clampD, nI_leT, nI_leF, nI_ltT, nI_ltF, nI_eqT, nI_eqF, nI_lt0F, nI_0leT, nI_eq0T, nI_eq0F, nI_0ltT, nI_0ltF, nI_le0T, nI_le0F, nI_m1, nI_m1', m1_m1, m1_lt, m1_le, nI_mul, nI_add, nI_sub, nI_add1, nI_dec, nI_div, nI_mod, vp_inD, sf_nkD, sf_eqD, hfk, bI_01]
set_option maxRecDepth 100000 in
set_option maxHeartbeats 1500000 in
theorem c_X4_holds : ∀ (m h : Nat) (I : Nat → Nat → Int32) (J : Nat → Nat → Int64) (j : Nat) (e : Nat → Nat), m ≤ 11 → TCx L t fs o l fc dm I → j < o.length → upd56 e I → zrV fs o j e →
    am_Ctr g am_mt 1 (h + 2 * m + 3) 41 [.ref 54, .int (nI (o.getD j 0)), .int (nI (11 - m))] (am_SH, I, J) 0 0 (fun r M => r = some (.int (bI (tv L fs (plg l) fc dm m (o.getD j 0) e))) ∧ M = (am_SH, I, J)) := by
  intro m
  induction m with
  | zero =>
    intro h I J j e hm hT hj he hz
    refine am_rule0 (q := qX4_holds) (B := am_blk bX4_holds) 60 rfl rfl kX4_holds nX4_holds (Nat.le_of_ble_eq_true rfl) ?_
    have e9 : 11 - 0 = 11 := rfl
    simp (decide := true) (disch := (first | exact eq_false (by decide) | exact eq_true (by decide) | decide | omega)) only [lX4_holds_0, bX4_holds_0, (show qX4_holds.2.2.2.1 = (some .boolean) from rfl), am_rok_bool, (show ((((17 : Nat) : Int)) + 27).toNat = 44 from rfl), (show ((((17 : Nat) : Int)) + 33).toNat = 50 from rfl), (show ((((17 : Nat) : Int)) + 60).toNat = 77 from rfl), Int.reduceAdd, am_lsw, w_aload_n, w_bipush, w_getfield, w_goto, w_iadd, w_iaload, w_icmp_lt, w_iconst, w_if_ne, w_iload_n, w_imul, w_ireturn, w_lsw, w_swap, sa_17, sa_4, sa_44, sg_15_2, sg_2_2, sg_39_5, sg_54_0, sg_54_2, cB_11, cI_0, cI_1, cI_2, cI_5, am_lk0, am_lk1, am_ld_some, am_isI_i, am_isJ_j, am_isR_r, am_st_eq, am_rmv_nil, am_rmv_t, am_rmv_i, am_rmv_r, sf_SH, sj_SH, sf_eq, sf_nk, sf_na, sf_sf, am_args_i, am_args_r, am_args_n, Nat.reduceAdd, List.cons_append, List.nil_append, Option.toList, List.drop_succ_cons, List.drop_zero, am_RP, am_CP, am_PH, Fin.isValue, Fin.val_zero, Fin.val_one, am_f2, am_f3, true_and, and_true, true_implies, false_implies, not_false_eq_true, ne_eq, nI_clampD, nI_leT, nI_leF, nI_ltT, nI_ltF, nI_eqT, nI_eqF, nI_lt0F, nI_0leT, nI_eq0T, nI_eq0F, nI_0ltT, nI_0ltF, nI_le0T, nI_le0F, nI_m1, nI_m1', m1_m1, m1_lt, m1_le, nI_mul, nI_add, nI_sub, nI_add1, nI_dec, nI_div, nI_mod, vp_inD, sf_nkD, sf_eqD, e9, nI0_01]
    rfl
  | succ m ih =>
    intro h I J j e hm hT hj he hz
    have hT0 := hT
    obtain ⟨hS, hO, hY, hF, hd, hd3, hU⟩ := hT
    have hn := hS.2.le
    have hcnt := hS.2.cnt
    have hf := gD_lt hO.2.2.2 hj
    have hk := hS.1.2.2.1 _ hf
    have hk6 := hS.2.k6 hf
    have hol : o.length = fs.length := hO.2.2.1
    rw [show h + 2 * (m + 1) + 3 = (h + 2 * m + 4) + 1 by omega]
    have htk : l.take fs.length = l := List.take_of_length_le (by have := congrArg List.length (rrun_fst _ _ _ _ hO.1); rw [List.length_map] at this; omega)
    have child : ∀ i, i < rk (kF (nF fs (o.getD j 0))) → ∃ j', j < j' ∧ j' < o.length ∧ plg l (2 * o.getD j 0 + i) = o.getD j' 0 ∧ I 44 (2 * o.getD j 0 + i) = nI (o.getD j' 0) := by
      intro i hi
      have hr2 := rk_le (kF (nF fs (o.getD j 0)))
      obtain ⟨p, hp⟩ := hO.get hf
      obtain ⟨c, hcm⟩ := hO.fill hcnt hp (i := i) hi
      have hco : c ∈ o := by rw [← rrun_fst _ _ _ _ hO.1]; exact List.mem_map.mpr ⟨_, hcm, rfl⟩
      obtain ⟨j', hj', hjc⟩ := gD_of hco
      have hlt := hO.later hcm (q := o.getD j 0) (by omega) hj hj' rfl hjc
      exact ⟨j', hlt, hj', by rw [plg_eq hO hcm, hjc], by rw [hY.2.2 c _ _ (by rw [htk]; exact hcm), hjc]⟩
    have zmono : ∀ j', j < j' → zrV fs o j' e := fun j' hjj k hk => hz k (by omega)
    have hdep : 11 - (m + 1) + 1 = 11 - m := by omega
    by_cases h0 : kF (nF fs (o.getD j 0)) = 0
    · have e9 : tv L fs (plg l) fc dm (m + 1) (o.getD j 0) e = tvF L fs fc (o.getD j 0) e := by unfold tv; rw [if_pos h0]
      rw [e9]
      refine am_rule0 (q := qX4_holds) (B := am_blk bX4_holds) 60 rfl rfl kX4_holds nX4_holds (Nat.le_of_ble_eq_true rfl) ?_
      rw [h0] at hk
      simp (decide := true) (disch := (first | exact eq_false (by decide) | exact eq_true (by decide) | decide | omega)) only [lX4_holds_0, lX4_holds_8, lX4_holds_44, bX4_holds_0, bX4_holds_8, bX4_holds_44, (show qX4_holds.2.2.2.1 = (some .boolean) from rfl), am_rok_bool, (show ((((17 : Nat) : Int)) + 27).toNat = 44 from rfl), (show ((((17 : Nat) : Int)) + 33).toNat = 50 from rfl), (show ((((17 : Nat) : Int)) + 60).toNat = 77 from rfl), Int.reduceAdd, am_lsw, w_aload_n, w_bipush, w_getfield, w_goto, w_iadd, w_iaload, w_icmp_lt, w_iconst, w_if_ne, w_iload_n, w_imul, w_ireturn, w_lsw, w_swap, sa_17, sa_4, sa_44, sg_15_2, sg_2_2, sg_39_5, sg_54_0, sg_54_2, cB_11, cI_0, cI_1, cI_2, cI_5, am_lk0, am_lk1, am_ld_some, am_isI_i, am_isJ_j, am_isR_r, am_st_eq, am_rmv_nil, am_rmv_t, am_rmv_i, am_rmv_r, sf_SH, sj_SH, sf_eq, sf_nk, sf_na, sf_sf, am_args_i, am_args_r, am_args_n, Nat.reduceAdd, List.cons_append, List.nil_append, Option.toList, List.drop_succ_cons, List.drop_zero, am_RP, am_CP, am_PH, Fin.isValue, Fin.val_zero, Fin.val_one, am_f2, am_f3, true_and, and_true, true_implies, false_implies, not_false_eq_true, ne_eq, nI_clampD, nI_leT, nI_leF, nI_ltT, nI_ltF, nI_eqT, nI_eqF, nI_lt0F, nI_0leT, nI_eq0T, nI_eq0F, nI_0ltT, nI_0ltF, nI_le0T, nI_le0F, nI_m1, nI_m1', m1_m1, m1_lt, m1_le, nI_mul, nI_add, nI_sub, nI_add1, nI_dec, nI_div, nI_mod, vp_inD, sf_nkD, sf_eqD, hk]
      refine w_virtE (c_X4_atomHolds g (h + 2 * m + 2) I J hT0 (o.getD j 0) e hf h0 he) rfl rfl rfl (of_eq_true so_54) rfl (Nat.le_refl _) (Nat.le_refl _) ?_
      simp (decide := true) (disch := (first | exact eq_false (by decide) | exact eq_true (by decide) | decide | omega)) only [lX4_holds_0, lX4_holds_8, lX4_holds_44, bX4_holds_0, bX4_holds_8, bX4_holds_44, (show qX4_holds.2.2.2.1 = (some .boolean) from rfl), am_rok_bool, (show ((((17 : Nat) : Int)) + 27).toNat = 44 from rfl), (show ((((17 : Nat) : Int)) + 33).toNat = 50 from rfl), (show ((((17 : Nat) : Int)) + 60).toNat = 77 from rfl), Int.reduceAdd, am_lsw, w_aload_n, w_bipush, w_getfield, w_goto, w_iadd, w_iaload, w_icmp_lt, w_iconst, w_if_ne, w_iload_n, w_imul, w_ireturn, w_lsw, w_swap, sa_17, sa_4, sa_44, sg_15_2, sg_2_2, sg_39_5, sg_54_0, sg_54_2, cB_11, cI_0, cI_1, cI_2, cI_5, am_lk0, am_lk1, am_ld_some, am_isI_i, am_isJ_j, am_isR_r, am_st_eq, am_rmv_nil, am_rmv_t, am_rmv_i, am_rmv_r, sf_SH, sj_SH, sf_eq, sf_nk, sf_na, sf_sf, am_args_i, am_args_r, am_args_n, Nat.reduceAdd, List.cons_append, List.nil_append, Option.toList, List.drop_succ_cons, List.drop_zero, am_RP, am_CP, am_PH, Fin.isValue, Fin.val_zero, Fin.val_one, am_f2, am_f3, true_and, and_true, true_implies, false_implies, not_false_eq_true, ne_eq, nI_clampD, nI_leT, nI_leF, nI_ltT, nI_ltF, nI_eqT, nI_eqF, nI_lt0F, nI_0leT, nI_eq0T, nI_eq0F, nI_0ltT, nI_0ltF, nI_le0T, nI_le0F, nI_m1, nI_m1', m1_m1, m1_lt, m1_le, nI_mul, nI_add, nI_sub, nI_add1, nI_dec, nI_div, nI_mod, vp_inD, sf_nkD, sf_eqD, bI_01]
    · by_cases h5 : kF (nF fs (o.getD j 0)) = 5
      · obtain ⟨j', c1, c2, c3, c4⟩ := child 0 (by rw [h5]; decide)
        rw [Nat.add_zero] at c3 c4
        have e9 : tv L fs (plg l) fc dm (m + 1) (o.getD j 0) e = !tv L fs (plg l) fc dm m (o.getD j' 0) e := by
          conv => lhs; unfold tv
          rw [if_neg h0, if_pos h5, c3]
        rw [e9]
        have ih1 := ih (h + 1) I J j' e (by omega) hT0 c2 he (zmono j' c1)
        rw [show h + 1 + 2 * m + 3 = h + 2 * m + 4 by omega] at ih1
        refine am_rule0 (q := qX4_holds) (B := am_blk bX4_holds) 60 rfl rfl kX4_holds nX4_holds (Nat.le_of_ble_eq_true rfl) ?_
        rw [h5] at hk
        simp (decide := true) (disch := (first | exact eq_false (by decide) | exact eq_true (by decide) | decide | omega)) only [lX4_holds_0, lX4_holds_8, lX4_holds_50, lX4_holds_75, lX4_holds_76, bX4_holds_0, bX4_holds_8, bX4_holds_50, bX4_holds_75, bX4_holds_76, (show qX4_holds.2.2.2.1 = (some .boolean) from rfl), am_rok_bool, (show ((((17 : Nat) : Int)) + 27).toNat = 44 from rfl), (show ((((17 : Nat) : Int)) + 33).toNat = 50 from rfl), (show ((((17 : Nat) : Int)) + 60).toNat = 77 from rfl), Int.reduceAdd, am_lsw, w_aload_n, w_bipush, w_getfield, w_goto, w_iadd, w_iaload, w_icmp_lt, w_iconst, w_if_ne, w_iload_n, w_imul, w_ireturn, w_lsw, w_swap, sa_17, sa_4, sa_44, sg_15_2, sg_2_2, sg_39_5, sg_54_0, sg_54_2, cB_11, cI_0, cI_1, cI_2, cI_5, am_lk0, am_lk1, am_ld_some, am_isI_i, am_isJ_j, am_isR_r, am_st_eq, am_rmv_nil, am_rmv_t, am_rmv_i, am_rmv_r, sf_SH, sj_SH, sf_eq, sf_nk, sf_na, sf_sf, am_args_i, am_args_r, am_args_n, Nat.reduceAdd, List.cons_append, List.nil_append, Option.toList, List.drop_succ_cons, List.drop_zero, am_RP, am_CP, am_PH, Fin.isValue, Fin.val_zero, Fin.val_one, am_f2, am_f3, true_and, and_true, true_implies, false_implies, not_false_eq_true, ne_eq, nI_clampD, nI_leT, nI_leF, nI_ltT, nI_ltF, nI_eqT, nI_eqF, nI_lt0F, nI_0leT, nI_eq0T, nI_eq0F, nI_0ltT, nI_0ltF, nI_le0T, nI_le0F, nI_m1, nI_m1', m1_m1, m1_lt, m1_le, nI_mul, nI_add, nI_sub, nI_add1, nI_dec, nI_div, nI_mod, vp_inD, sf_nkD, sf_eqD, hk, c4, hdep]
        refine w_virtE (ih1) rfl rfl rfl (of_eq_true so_54) rfl (Nat.le_refl _) (Nat.le_refl _) ?_
        cases tv L fs (plg l) fc dm m (o.getD j' 0) e with
        | true =>
          simp (decide := true) (disch := (first | exact eq_false (by decide) | exact eq_true (by decide) | decide | omega)) only [lX4_holds_0, lX4_holds_8, lX4_holds_50, lX4_holds_75, lX4_holds_76, bX4_holds_0, bX4_holds_8, bX4_holds_50, bX4_holds_75, bX4_holds_76, (show qX4_holds.2.2.2.1 = (some .boolean) from rfl), am_rok_bool, (show ((((17 : Nat) : Int)) + 27).toNat = 44 from rfl), (show ((((17 : Nat) : Int)) + 33).toNat = 50 from rfl), (show ((((17 : Nat) : Int)) + 60).toNat = 77 from rfl), Int.reduceAdd, am_lsw, w_aload_n, w_bipush, w_getfield, w_goto, w_iadd, w_iaload, w_icmp_lt, w_iconst, w_if_ne, w_iload_n, w_imul, w_ireturn, w_lsw, w_swap, sa_17, sa_4, sa_44, sg_15_2, sg_2_2, sg_39_5, sg_54_0, sg_54_2, cB_11, cI_0, cI_1, cI_2, cI_5, am_lk0, am_lk1, am_ld_some, am_isI_i, am_isJ_j, am_isR_r, am_st_eq, am_rmv_nil, am_rmv_t, am_rmv_i, am_rmv_r, sf_SH, sj_SH, sf_eq, sf_nk, sf_na, sf_sf, am_args_i, am_args_r, am_args_n, Nat.reduceAdd, List.cons_append, List.nil_append, Option.toList, List.drop_succ_cons, List.drop_zero, am_RP, am_CP, am_PH, Fin.isValue, Fin.val_zero, Fin.val_one, am_f2, am_f3, true_and, and_true, true_implies, false_implies, not_false_eq_true, ne_eq, nI_clampD, nI_leT, nI_leF, nI_ltT, nI_ltF, nI_eqT, nI_eqF, nI_lt0F, nI_0leT, nI_eq0T, nI_eq0F, nI_0ltT, nI_0ltF, nI_le0T, nI_le0F, nI_m1, nI_m1', m1_m1, m1_lt, m1_le, nI_mul, nI_add, nI_sub, nI_add1, nI_dec, nI_div, nI_mod, vp_inD, sf_nkD, sf_eqD, bI_t, nI0_01]
          rfl
        | false =>
          simp (decide := true) (disch := (first | exact eq_false (by decide) | exact eq_true (by decide) | decide | omega)) only [lX4_holds_0, lX4_holds_8, lX4_holds_50, lX4_holds_75, lX4_holds_76, bX4_holds_0, bX4_holds_8, bX4_holds_50, bX4_holds_75, bX4_holds_76, (show qX4_holds.2.2.2.1 = (some .boolean) from rfl), am_rok_bool, (show ((((17 : Nat) : Int)) + 27).toNat = 44 from rfl), (show ((((17 : Nat) : Int)) + 33).toNat = 50 from rfl), (show ((((17 : Nat) : Int)) + 60).toNat = 77 from rfl), Int.reduceAdd, am_lsw, w_aload_n, w_bipush, w_getfield, w_goto, w_iadd, w_iaload, w_icmp_lt, w_iconst, w_if_ne, w_iload_n, w_imul, w_ireturn, w_lsw, w_swap, sa_17, sa_4, sa_44, sg_15_2, sg_2_2, sg_39_5, sg_54_0, sg_54_2, cB_11, cI_0, cI_1, cI_2, cI_5, am_lk0, am_lk1, am_ld_some, am_isI_i, am_isJ_j, am_isR_r, am_st_eq, am_rmv_nil, am_rmv_t, am_rmv_i, am_rmv_r, sf_SH, sj_SH, sf_eq, sf_nk, sf_na, sf_sf, am_args_i, am_args_r, am_args_n, Nat.reduceAdd, List.cons_append, List.nil_append, Option.toList, List.drop_succ_cons, List.drop_zero, am_RP, am_CP, am_PH, Fin.isValue, Fin.val_zero, Fin.val_one, am_f2, am_f3, true_and, and_true, true_implies, false_implies, not_false_eq_true, ne_eq, nI_clampD, nI_leT, nI_leF, nI_ltT, nI_ltF, nI_eqT, nI_eqF, nI_lt0F, nI_0leT, nI_eq0T, nI_eq0F, nI_0ltT, nI_0ltF, nI_le0T, nI_le0F, nI_m1, nI_m1', m1_m1, m1_lt, m1_le, nI_mul, nI_add, nI_sub, nI_add1, nI_dec, nI_div, nI_mod, vp_inD, sf_nkD, sf_eqD, bI_f, nI1_01]
          rfl
      · have hr : rk (kF (nF fs (o.getD j 0))) = 2 := by unfold rk; rw [if_neg h0, if_neg h5]
        have hq := hS.2.quant hf hr
        obtain ⟨j0, a1, a2, a3, a4⟩ := child 0 (by omega)
        obtain ⟨j1, b1, b2, b3, b4⟩ := child 1 (by omega)
        rw [Nat.add_zero] at a3 a4
        have hv5 : I 5 (o.getD j 0) = nI (vF (nF fs (o.getD j 0))) := (hS.1.2.2.2.1 _ hf hr).1
        have hz0 := hz j (Nat.le_refl _) hj hr
        have e9 : tv L fs (plg l) fc dm (m + 1) (o.getD j 0) e = enuf (kF (nF fs (o.getD j 0))) (cD dm (fun d => tv L fs (plg l) fc dm m (o.getD j0 0) (upE e (vF (nF fs (o.getD j 0))) d))) (cD dm (fun d => tv L fs (plg l) fc dm m (o.getD j0 0) (upE e (vF (nF fs (o.getD j 0))) d) && tv L fs (plg l) fc dm m (o.getD j1 0) (upE e (vF (nF fs (o.getD j 0))) d))) := by
          conv => lhs; unfold tv
          rw [if_neg h0, if_neg h5, a3, b3]
        rw [e9]
        obtain ⟨v, hvd⟩ : ∃ v, v = vF (nF fs (o.getD j 0)) := ⟨_, rfl⟩
        rw [← hvd] at hv5 hz0 hq ⊢
        obtain ⟨P, hPd⟩ : ∃ P : Nat → Bool, P = fun d => tv L fs (plg l) fc dm m (o.getD j0 0) (upE e v d) := ⟨_, rfl⟩
        obtain ⟨Q, hQd⟩ : ∃ Q : Nat → Bool, Q = fun d => tv L fs (plg l) fc dm m (o.getD j0 0) (upE e v d) && tv L fs (plg l) fc dm m (o.getD j1 0) (upE e v d) := ⟨_, rfl⟩
        rw [← hPd, ← hQd]
        have hzup : ∀ d j', j < j' → zrV fs o j' (upE e v d) := fun d j' hjj k hk hk2 hkr => by
          have hne : vF (nF fs (o.getD k 0)) ≠ v := fun h9 => by
            have := hU.1 _ _ (gD_lt hO.2.2.2 hk2) hf hkr hr (by rw [h9, hvd])
            have := gD_inj hO.2.1 hk2 hj this
            omega
          unfold upE
          rw [if_neg hne]
          exact hz k (by omega) hk2 hkr
        have hres : ∀ d d', sf (sf I 56 v (nI d)) 56 v d' = sf I 56 v d' := fun d d' => sf_sf I 56 v _ _
        have hback : sf I 56 v (nI 0) = I := by
          have := (he v (by omega)).1
          rw [hz0] at this
          rw [← this]
          exact sf_self I 56 v
        have hmem : ∀ d, d < 3 → TCx L t fs o l fc dm (sf I 56 v (nI d)) ∧ upd56 (upE e v d) (sf I 56 v (nI d)) := fun d hd3' => ⟨hT0.fr (fun c hc => sf_naD (by omega)), fun u hu => by
          unfold upE
          by_cases huv : u = v
          · rw [if_pos huv, sf_eqD huv]; exact ⟨rfl, hd3'⟩
          · rw [if_neg huv, sf_nkD huv]; exact he u hu⟩
        have qc : am_Ctr g am_mt 1 (h + 2 * m + 4) 43 [.ref 54, .int (nI (o.getD j 0)), .int (nI (11 - (m + 1)))] (am_SH, I, J) 0 0 (fun r M => r = some (.int (bI (enuf (kF (nF fs (o.getD j 0))) (cD dm P) (cD dm Q)))) ∧ M = (am_SH, I, J)) := by
          obtain ⟨JJ, hJJ⟩ : ∃ JJ : Nat → am_Cut, JJ = (fun zu zpc zl zst zM zk zn => (∃ (d : Nat) (I1 : Nat → Nat → Int32), zu = dm - d ∧ (d ≤ dm) ∧ ((∃ x, I1 = sf I 56 v x)) ∧ zpc = 19 ∧ zl = [(0, .ref 54), (1, .int (nI (o.getD j 0))), (2, .int (nI (11 - (m + 1)))), (3, .int (nI v)), (4, .int (nI (cD d P))), (5, .int (nI (cD d Q))), (6, .int (nI d))] ∧ zst = [] ∧ zM = (am_SH, I1, J) ∧ zk = 0 ∧ zn = 0)) := ⟨_, rfl⟩
          have mk : ∀ (d : Nat) (I1 : Nat → Nat → Int32), (d ≤ dm) → ((∃ x, I1 = sf I 56 v x)) → JJ (dm - d) 19 [(0, .ref 54), (1, .int (nI (o.getD j 0))), (2, .int (nI (11 - (m + 1)))), (3, .int (nI v)), (4, .int (nI (cD d P))), (5, .int (nI (cD d Q))), (6, .int (nI d))] [] (am_SH, I1, J) 0 0 := by
            intro d I1 a0 a1
            rw [hJJ]
            exact ⟨d, I1, rfl, a0, a1, rfl, rfl, rfl, rfl, rfl, rfl⟩
          refine am_rule2 (q := qX4_quantifierHolds) (B := am_blk bX4_quantifierHolds) rfl rfl kX4_quantifierHolds nX4_quantifierHolds (Nat.le_of_ble_eq_true rfl) JJ (fun zu zpc zl zst zM zk zn hj => ?_) ?_
          rotate_left
          · refine ⟨60, ?_⟩
            simp (decide := true) (disch := (first | exact eq_false (by decide) | exact eq_true (by decide) | decide | omega)) only [lX4_quantifierHolds_0, lX4_quantifierHolds_19, lX4_quantifierHolds_86, lX4_quantifierHolds_92, bX4_quantifierHolds_0, bX4_quantifierHolds_19, bX4_quantifierHolds_86, bX4_quantifierHolds_92, (show qX4_quantifierHolds.2.2.2.1 = (some .boolean) from rfl), am_rok_bool, w_aload_n, w_getfield, w_goto, w_iadd, w_iaload, w_iastore, w_icmp_ge, w_iconst, w_if_eq, w_iinc, w_iload, w_iload_n, w_imul, w_ireturn, w_istore, w_istore_n, w_nop, w_swap, sa_17, sa_18, sa_4, sa_44, sa_5, sa_56, sg_15_2, sg_15_3, sg_2_2, sg_2_3, sg_39_5, sg_54_0, sg_54_2, sg_54_3, sg_54_5, cI_0, cI_1, cI_2, am_lk0, am_lk1, am_ld_some, am_isI_i, am_isJ_j, am_isR_r, am_st_eq, am_rmv_nil, am_rmv_t, am_rmv_i, am_rmv_r, sf_SH, sj_SH, sf_eq, sf_nk, sf_na, sf_sf, am_args_i, am_args_r, am_args_n, Nat.reduceAdd, List.cons_append, List.nil_append, Option.toList, List.drop_succ_cons, List.drop_zero, am_RP, am_CP, am_PH, Fin.isValue, Fin.val_zero, Fin.val_one, am_f2, am_f3, true_and, and_true, true_implies, false_implies, not_false_eq_true, ne_eq, nI_clampD, nI_leT, nI_leF, nI_ltT, nI_ltF, nI_eqT, nI_eqF, nI_lt0F, nI_0leT, nI_eq0T, nI_eq0F, nI_0ltT, nI_0ltF, nI_le0T, nI_le0F, nI_m1, nI_m1', m1_m1, m1_lt, m1_le, nI_mul, nI_add, nI_sub, nI_add1, nI_dec, nI_div, nI_mod, vp_inD, sf_nkD, sf_eqD, hv5]
            refine ⟨_, _, ?_, mk 0 I (Nat.zero_le _) ⟨_, hback.symm⟩⟩
            · (simp (decide := true) only [am_has, am_lk0, am_lk1, and_self, true_and, and_true] <;> first | rfl | (refine ⟨?_, ?_⟩ <;> rfl) | (refine ⟨?_, ?_, ?_⟩ <;> rfl) | (refine ⟨?_, ?_, ?_, ?_⟩ <;> rfl))
          rw [hJJ] at hj
          clear hJJ
          obtain ⟨d, I1, rfl, e1, e2, rfl, rfl, rfl, rfl, rfl, rfl⟩ := hj
          refine ⟨_, 90, rfl, rfl, ?_⟩
          obtain ⟨x, rfl⟩ := e2
          have k54 : sf I 56 v x 54 3 = nI dm := by rw [sf_naD (by decide)]; exact hd
          have p1 := cD_le d P
          have p2 := cD_le d Q
          by_cases hdd : d = dm
          · subst hdd
            have k4 : sf I 56 v (nI 0) 4 (o.getD j 0) = nI (kF (nF fs (o.getD j 0))) := by rw [sf_naD (by decide)]; exact hk
            simp (decide := true) (disch := (first | exact eq_false (by decide) | exact eq_true (by decide) | decide | omega)) only [lX4_quantifierHolds_0, lX4_quantifierHolds_19, lX4_quantifierHolds_86, lX4_quantifierHolds_92, bX4_quantifierHolds_0, bX4_quantifierHolds_19, bX4_quantifierHolds_86, bX4_quantifierHolds_92, (show qX4_quantifierHolds.2.2.2.1 = (some .boolean) from rfl), am_rok_bool, w_aload_n, w_getfield, w_goto, w_iadd, w_iaload, w_iastore, w_icmp_ge, w_iconst, w_if_eq, w_iinc, w_iload, w_iload_n, w_imul, w_ireturn, w_istore, w_istore_n, w_nop, w_swap, sa_17, sa_18, sa_4, sa_44, sa_5, sa_56, sg_15_2, sg_15_3, sg_2_2, sg_2_3, sg_39_5, sg_54_0, sg_54_2, sg_54_3, sg_54_5, cI_0, cI_1, cI_2, am_lk0, am_lk1, am_ld_some, am_isI_i, am_isJ_j, am_isR_r, am_st_eq, am_rmv_nil, am_rmv_t, am_rmv_i, am_rmv_r, sf_SH, sj_SH, sf_eq, sf_nk, sf_na, sf_sf, am_args_i, am_args_r, am_args_n, Nat.reduceAdd, List.cons_append, List.nil_append, Option.toList, List.drop_succ_cons, List.drop_zero, am_RP, am_CP, am_PH, Fin.isValue, Fin.val_zero, Fin.val_one, am_f2, am_f3, true_and, and_true, true_implies, false_implies, not_false_eq_true, ne_eq, nI_clampD, nI_leT, nI_leF, nI_ltT, nI_ltF, nI_eqT, nI_eqF, nI_lt0F, nI_0leT, nI_eq0T, nI_eq0F, nI_0ltT, nI_0ltF, nI_le0T, nI_le0F, nI_m1, nI_m1', m1_m1, m1_lt, m1_le, nI_mul, nI_add, nI_sub, nI_add1, nI_dec, nI_div, nI_mod, vp_inD, sf_nkD, sf_eqD, k54, k4]
            refine w_statE (c_X4_isEnough g (h + 2 * m + 2) _ J (kF (nF fs (o.getD j 0))) (cD d P) (cD d Q) ⟨by omega, by omega⟩ (by omega) (by omega)) (by decide) rfl rfl rfl (Nat.le_refl _) (Nat.le_refl _) ?_
            simp (decide := true) (disch := (first | exact eq_false (by decide) | exact eq_true (by decide) | decide | omega)) only [lX4_quantifierHolds_0, lX4_quantifierHolds_19, lX4_quantifierHolds_86, lX4_quantifierHolds_92, bX4_quantifierHolds_0, bX4_quantifierHolds_19, bX4_quantifierHolds_86, bX4_quantifierHolds_92, (show qX4_quantifierHolds.2.2.2.1 = (some .boolean) from rfl), am_rok_bool, w_aload_n, w_getfield, w_goto, w_iadd, w_iaload, w_iastore, w_icmp_ge, w_iconst, w_if_eq, w_iinc, w_iload, w_iload_n, w_imul, w_ireturn, w_istore, w_istore_n, w_nop, w_swap, sa_17, sa_18, sa_4, sa_44, sa_5, sa_56, sg_15_2, sg_15_3, sg_2_2, sg_2_3, sg_39_5, sg_54_0, sg_54_2, sg_54_3, sg_54_5, cI_0, cI_1, cI_2, am_lk0, am_lk1, am_ld_some, am_isI_i, am_isJ_j, am_isR_r, am_st_eq, am_rmv_nil, am_rmv_t, am_rmv_i, am_rmv_r, sf_SH, sj_SH, sf_eq, sf_nk, sf_na, sf_sf, am_args_i, am_args_r, am_args_n, Nat.reduceAdd, List.cons_append, List.nil_append, Option.toList, List.drop_succ_cons, List.drop_zero, am_RP, am_CP, am_PH, Fin.isValue, Fin.val_zero, Fin.val_one, am_f2, am_f3, true_and, and_true, true_implies, false_implies, not_false_eq_true, ne_eq, nI_clampD, nI_leT, nI_leF, nI_ltT, nI_ltF, nI_eqT, nI_eqF, nI_lt0F, nI_0leT, nI_eq0T, nI_eq0F, nI_0ltT, nI_0ltF, nI_le0T, nI_le0F, nI_m1, nI_m1', m1_m1, m1_lt, m1_le, nI_mul, nI_add, nI_sub, nI_add1, nI_dec, nI_div, nI_mod, vp_inD, sf_nkD, sf_eqD, hback, bI_01]
          · have hd3' : d < 3 := by omega
            obtain ⟨t1, t2⟩ := hmem d hd3'
            have k44a : sf I 56 v (nI d) 44 (2 * o.getD j 0) = nI (o.getD j0 0) := by rw [sf_naD (by decide)]; exact a4
            have k44b : sf I 56 v (nI d) 44 (2 * o.getD j 0 + 1) = nI (o.getD j1 0) := by rw [sf_naD (by decide)]; exact b4
            have hPs : cD (d + 1) P = cD d P + (if P d = true then 1 else 0) := rfl
            have hQs : cD (d + 1) Q = cD d Q + (if Q d = true then 1 else 0) := rfl
            simp (decide := true) (disch := (first | exact eq_false (by decide) | exact eq_true (by decide) | decide | omega)) only [lX4_quantifierHolds_0, lX4_quantifierHolds_19, lX4_quantifierHolds_86, lX4_quantifierHolds_92, bX4_quantifierHolds_0, bX4_quantifierHolds_19, bX4_quantifierHolds_86, bX4_quantifierHolds_92, (show qX4_quantifierHolds.2.2.2.1 = (some .boolean) from rfl), am_rok_bool, w_aload_n, w_getfield, w_goto, w_iadd, w_iaload, w_iastore, w_icmp_ge, w_iconst, w_if_eq, w_iinc, w_iload, w_iload_n, w_imul, w_ireturn, w_istore, w_istore_n, w_nop, w_swap, sa_17, sa_18, sa_4, sa_44, sa_5, sa_56, sg_15_2, sg_15_3, sg_2_2, sg_2_3, sg_39_5, sg_54_0, sg_54_2, sg_54_3, sg_54_5, cI_0, cI_1, cI_2, am_lk0, am_lk1, am_ld_some, am_isI_i, am_isJ_j, am_isR_r, am_st_eq, am_rmv_nil, am_rmv_t, am_rmv_i, am_rmv_r, sf_SH, sj_SH, sf_eq, sf_nk, sf_na, sf_sf, am_args_i, am_args_r, am_args_n, Nat.reduceAdd, List.cons_append, List.nil_append, Option.toList, List.drop_succ_cons, List.drop_zero, am_RP, am_CP, am_PH, Fin.isValue, Fin.val_zero, Fin.val_one, am_f2, am_f3, true_and, and_true, true_implies, false_implies, not_false_eq_true, ne_eq, nI_clampD, nI_leT, nI_leF, nI_ltT, nI_ltF, nI_eqT, nI_eqF, nI_lt0F, nI_0leT, nI_eq0T, nI_eq0F, nI_0ltT, nI_0ltF, nI_le0T, nI_le0F, nI_m1, nI_m1', m1_m1, m1_lt, m1_le, nI_mul, nI_add, nI_sub, nI_add1, nI_dec, nI_div, nI_mod, vp_inD, sf_nkD, sf_eqD, k54, k44a, hdep]
            refine w_virtE (ih h (sf I 56 v (nI d)) J j0 (upE e v d) (by omega) t1 a2 t2 (hzup d j0 a1)) rfl rfl rfl (of_eq_true so_54) rfl (Nat.le_refl _) (Nat.le_refl _) ?_
            have hPv : P d = tv L fs (plg l) fc dm m (o.getD j0 0) (upE e v d) := by rw [hPd]
            have hQv : Q d = (tv L fs (plg l) fc dm m (o.getD j0 0) (upE e v d) && tv L fs (plg l) fc dm m (o.getD j1 0) (upE e v d)) := by rw [hQd]
            rw [← hPv]
            cases hP : P d with
            | false =>
              have hQf : Q d = false := by rw [hQv, ← hPv, hP]; rfl
              rw [hP, if_neg (by decide), Nat.add_zero] at hPs
              rw [hQf, if_neg (by decide), Nat.add_zero] at hQs
              have mk9 := mk (d + 1) (sf I 56 v (nI d)) (by omega) ⟨_, rfl⟩
              rw [hPs, hQs] at mk9
              simp (decide := true) (disch := (first | exact eq_false (by decide) | exact eq_true (by decide) | decide | omega)) only [lX4_quantifierHolds_0, lX4_quantifierHolds_19, lX4_quantifierHolds_86, lX4_quantifierHolds_92, bX4_quantifierHolds_0, bX4_quantifierHolds_19, bX4_quantifierHolds_86, bX4_quantifierHolds_92, (show qX4_quantifierHolds.2.2.2.1 = (some .boolean) from rfl), am_rok_bool, w_aload_n, w_getfield, w_goto, w_iadd, w_iaload, w_iastore, w_icmp_ge, w_iconst, w_if_eq, w_iinc, w_iload, w_iload_n, w_imul, w_ireturn, w_istore, w_istore_n, w_nop, w_swap, sa_17, sa_18, sa_4, sa_44, sa_5, sa_56, sg_15_2, sg_15_3, sg_2_2, sg_2_3, sg_39_5, sg_54_0, sg_54_2, sg_54_3, sg_54_5, cI_0, cI_1, cI_2, am_lk0, am_lk1, am_ld_some, am_isI_i, am_isJ_j, am_isR_r, am_st_eq, am_rmv_nil, am_rmv_t, am_rmv_i, am_rmv_r, sf_SH, sj_SH, sf_eq, sf_nk, sf_na, sf_sf, am_args_i, am_args_r, am_args_n, Nat.reduceAdd, List.cons_append, List.nil_append, Option.toList, List.drop_succ_cons, List.drop_zero, am_RP, am_CP, am_PH, Fin.isValue, Fin.val_zero, Fin.val_one, am_f2, am_f3, true_and, and_true, true_implies, false_implies, not_false_eq_true, ne_eq, nI_clampD, nI_leT, nI_leF, nI_ltT, nI_ltF, nI_eqT, nI_eqF, nI_lt0F, nI_0leT, nI_eq0T, nI_eq0F, nI_0ltT, nI_0ltF, nI_le0T, nI_le0F, nI_m1, nI_m1', m1_m1, m1_lt, m1_le, nI_mul, nI_add, nI_sub, nI_add1, nI_dec, nI_div, nI_mod, vp_inD, sf_nkD, sf_eqD, bI_f]
              refine ⟨_, _, ?_, ?_, mk9⟩
              · omega
              · (simp (decide := true) only [am_has, am_lk0, am_lk1, and_self, true_and, and_true] <;> first | rfl | (refine ⟨?_, ?_⟩ <;> rfl) | (refine ⟨?_, ?_, ?_⟩ <;> rfl) | (refine ⟨?_, ?_, ?_, ?_⟩ <;> rfl))
            | true =>
              rw [hP, if_pos rfl] at hPs
              simp (decide := true) (disch := (first | exact eq_false (by decide) | exact eq_true (by decide) | decide | omega)) only [lX4_quantifierHolds_0, lX4_quantifierHolds_19, lX4_quantifierHolds_86, lX4_quantifierHolds_92, bX4_quantifierHolds_0, bX4_quantifierHolds_19, bX4_quantifierHolds_86, bX4_quantifierHolds_92, (show qX4_quantifierHolds.2.2.2.1 = (some .boolean) from rfl), am_rok_bool, w_aload_n, w_getfield, w_goto, w_iadd, w_iaload, w_iastore, w_icmp_ge, w_iconst, w_if_eq, w_iinc, w_iload, w_iload_n, w_imul, w_ireturn, w_istore, w_istore_n, w_nop, w_swap, sa_17, sa_18, sa_4, sa_44, sa_5, sa_56, sg_15_2, sg_15_3, sg_2_2, sg_2_3, sg_39_5, sg_54_0, sg_54_2, sg_54_3, sg_54_5, cI_0, cI_1, cI_2, am_lk0, am_lk1, am_ld_some, am_isI_i, am_isJ_j, am_isR_r, am_st_eq, am_rmv_nil, am_rmv_t, am_rmv_i, am_rmv_r, sf_SH, sj_SH, sf_eq, sf_nk, sf_na, sf_sf, am_args_i, am_args_r, am_args_n, Nat.reduceAdd, List.cons_append, List.nil_append, Option.toList, List.drop_succ_cons, List.drop_zero, am_RP, am_CP, am_PH, Fin.isValue, Fin.val_zero, Fin.val_one, am_f2, am_f3, true_and, and_true, true_implies, false_implies, not_false_eq_true, ne_eq, nI_clampD, nI_leT, nI_leF, nI_ltT, nI_ltF, nI_eqT, nI_eqF, nI_lt0F, nI_0leT, nI_eq0T, nI_eq0F, nI_0ltT, nI_0ltF, nI_le0T, nI_le0F, nI_m1, nI_m1', m1_m1, m1_lt, m1_le, nI_mul, nI_add, nI_sub, nI_add1, nI_dec, nI_div, nI_mod, vp_inD, sf_nkD, sf_eqD, bI_t, k44b, hdep]
              refine w_virtE (ih h (sf I 56 v (nI d)) J j1 (upE e v d) (by omega) t1 b2 t2 (hzup d j1 b1)) rfl rfl rfl (of_eq_true so_54) rfl (Nat.le_refl _) (Nat.le_refl _) ?_
              have hQ2 : Q d = tv L fs (plg l) fc dm m (o.getD j1 0) (upE e v d) := by rw [hQv, ← hPv, hP]; rfl
              rw [← hQ2]
              cases hQ : Q d with
              | false =>
                rw [hQ, if_neg (by decide), Nat.add_zero] at hQs
                have mk9 := mk (d + 1) (sf I 56 v (nI d)) (by omega) ⟨_, rfl⟩
                rw [hPs, hQs] at mk9
                simp (decide := true) (disch := (first | exact eq_false (by decide) | exact eq_true (by decide) | decide | omega)) only [lX4_quantifierHolds_0, lX4_quantifierHolds_19, lX4_quantifierHolds_86, lX4_quantifierHolds_92, bX4_quantifierHolds_0, bX4_quantifierHolds_19, bX4_quantifierHolds_86, bX4_quantifierHolds_92, (show qX4_quantifierHolds.2.2.2.1 = (some .boolean) from rfl), am_rok_bool, w_aload_n, w_getfield, w_goto, w_iadd, w_iaload, w_iastore, w_icmp_ge, w_iconst, w_if_eq, w_iinc, w_iload, w_iload_n, w_imul, w_ireturn, w_istore, w_istore_n, w_nop, w_swap, sa_17, sa_18, sa_4, sa_44, sa_5, sa_56, sg_15_2, sg_15_3, sg_2_2, sg_2_3, sg_39_5, sg_54_0, sg_54_2, sg_54_3, sg_54_5, cI_0, cI_1, cI_2, am_lk0, am_lk1, am_ld_some, am_isI_i, am_isJ_j, am_isR_r, am_st_eq, am_rmv_nil, am_rmv_t, am_rmv_i, am_rmv_r, sf_SH, sj_SH, sf_eq, sf_nk, sf_na, sf_sf, am_args_i, am_args_r, am_args_n, Nat.reduceAdd, List.cons_append, List.nil_append, Option.toList, List.drop_succ_cons, List.drop_zero, am_RP, am_CP, am_PH, Fin.isValue, Fin.val_zero, Fin.val_one, am_f2, am_f3, true_and, and_true, true_implies, false_implies, not_false_eq_true, ne_eq, nI_clampD, nI_leT, nI_leF, nI_ltT, nI_ltF, nI_eqT, nI_eqF, nI_lt0F, nI_0leT, nI_eq0T, nI_eq0F, nI_0ltT, nI_0ltF, nI_le0T, nI_le0F, nI_m1, nI_m1', m1_m1, m1_lt, m1_le, nI_mul, nI_add, nI_sub, nI_add1, nI_dec, nI_div, nI_mod, vp_inD, sf_nkD, sf_eqD, bI_f]
                refine ⟨_, _, ?_, ?_, mk9⟩
                · omega
                · (simp (decide := true) only [am_has, am_lk0, am_lk1, and_self, true_and, and_true] <;> first | rfl | (refine ⟨?_, ?_⟩ <;> rfl) | (refine ⟨?_, ?_, ?_⟩ <;> rfl) | (refine ⟨?_, ?_, ?_, ?_⟩ <;> rfl))
              | true =>
                rw [hQ, if_pos rfl] at hQs
                have mk9 := mk (d + 1) (sf I 56 v (nI d)) (by omega) ⟨_, rfl⟩
                rw [hPs, hQs] at mk9
                simp (decide := true) (disch := (first | exact eq_false (by decide) | exact eq_true (by decide) | decide | omega)) only [lX4_quantifierHolds_0, lX4_quantifierHolds_19, lX4_quantifierHolds_86, lX4_quantifierHolds_92, bX4_quantifierHolds_0, bX4_quantifierHolds_19, bX4_quantifierHolds_86, bX4_quantifierHolds_92, (show qX4_quantifierHolds.2.2.2.1 = (some .boolean) from rfl), am_rok_bool, w_aload_n, w_getfield, w_goto, w_iadd, w_iaload, w_iastore, w_icmp_ge, w_iconst, w_if_eq, w_iinc, w_iload, w_iload_n, w_imul, w_ireturn, w_istore, w_istore_n, w_nop, w_swap, sa_17, sa_18, sa_4, sa_44, sa_5, sa_56, sg_15_2, sg_15_3, sg_2_2, sg_2_3, sg_39_5, sg_54_0, sg_54_2, sg_54_3, sg_54_5, cI_0, cI_1, cI_2, am_lk0, am_lk1, am_ld_some, am_isI_i, am_isJ_j, am_isR_r, am_st_eq, am_rmv_nil, am_rmv_t, am_rmv_i, am_rmv_r, sf_SH, sj_SH, sf_eq, sf_nk, sf_na, sf_sf, am_args_i, am_args_r, am_args_n, Nat.reduceAdd, List.cons_append, List.nil_append, Option.toList, List.drop_succ_cons, List.drop_zero, am_RP, am_CP, am_PH, Fin.isValue, Fin.val_zero, Fin.val_one, am_f2, am_f3, true_and, and_true, true_implies, false_implies, not_false_eq_true, ne_eq, nI_clampD, nI_leT, nI_leF, nI_ltT, nI_ltF, nI_eqT, nI_eqF, nI_lt0F, nI_0leT, nI_eq0T, nI_eq0F, nI_0ltT, nI_0ltF, nI_le0T, nI_le0F, nI_m1, nI_m1', m1_m1, m1_lt, m1_le, nI_mul, nI_add, nI_sub, nI_add1, nI_dec, nI_div, nI_mod, vp_inD, sf_nkD, sf_eqD, bI_t]
                refine ⟨_, _, ?_, ?_, mk9⟩
                · omega
                · (simp (decide := true) only [am_has, am_lk0, am_lk1, and_self, true_and, and_true] <;> first | rfl | (refine ⟨?_, ?_⟩ <;> rfl) | (refine ⟨?_, ?_, ?_⟩ <;> rfl) | (refine ⟨?_, ?_, ?_, ?_⟩ <;> rfl))
        refine am_rule0 (q := qX4_holds) (B := am_blk bX4_holds) 60 rfl rfl kX4_holds nX4_holds (Nat.le_of_ble_eq_true rfl) ?_
        simp (decide := true) (disch := (first | exact eq_false (by decide) | exact eq_true (by decide) | decide | omega)) only [lX4_holds_0, lX4_holds_8, lX4_holds_77, bX4_holds_0, bX4_holds_8, bX4_holds_77, (show qX4_holds.2.2.2.1 = (some .boolean) from rfl), am_rok_bool, (show ((((17 : Nat) : Int)) + 27).toNat = 44 from rfl), (show ((((17 : Nat) : Int)) + 33).toNat = 50 from rfl), (show ((((17 : Nat) : Int)) + 60).toNat = 77 from rfl), Int.reduceAdd, am_lsw, w_aload_n, w_bipush, w_getfield, w_goto, w_iadd, w_iaload, w_icmp_lt, w_iconst, w_if_ne, w_iload_n, w_imul, w_ireturn, w_lsw, w_swap, sa_17, sa_4, sa_44, sg_15_2, sg_2_2, sg_39_5, sg_54_0, sg_54_2, cB_11, cI_0, cI_1, cI_2, cI_5, am_lk0, am_lk1, am_ld_some, am_isI_i, am_isJ_j, am_isR_r, am_st_eq, am_rmv_nil, am_rmv_t, am_rmv_i, am_rmv_r, sf_SH, sj_SH, sf_eq, sf_nk, sf_na, sf_sf, am_args_i, am_args_r, am_args_n, Nat.reduceAdd, List.cons_append, List.nil_append, Option.toList, List.drop_succ_cons, List.drop_zero, am_RP, am_CP, am_PH, Fin.isValue, Fin.val_zero, Fin.val_one, am_f2, am_f3, true_and, and_true, true_implies, false_implies, not_false_eq_true, ne_eq, nI_clampD, nI_leT, nI_leF, nI_ltT, nI_ltF, nI_eqT, nI_eqF, nI_lt0F, nI_0leT, nI_eq0T, nI_eq0F, nI_0ltT, nI_0ltF, nI_le0T, nI_le0F, nI_m1, nI_m1', m1_m1, m1_lt, m1_le, nI_mul, nI_add, nI_sub, nI_add1, nI_dec, nI_div, nI_mod, vp_inD, sf_nkD, sf_eqD, hk]
        refine w_virtE (qc) rfl rfl rfl (of_eq_true so_54) rfl (Nat.le_refl _) (Nat.le_refl _) ?_
        simp (decide := true) (disch := (first | exact eq_false (by decide) | exact eq_true (by decide) | decide | omega)) only [lX4_holds_0, lX4_holds_8, lX4_holds_77, bX4_holds_0, bX4_holds_8, bX4_holds_77, (show qX4_holds.2.2.2.1 = (some .boolean) from rfl), am_rok_bool, (show ((((17 : Nat) : Int)) + 27).toNat = 44 from rfl), (show ((((17 : Nat) : Int)) + 33).toNat = 50 from rfl), (show ((((17 : Nat) : Int)) + 60).toNat = 77 from rfl), Int.reduceAdd, am_lsw, w_aload_n, w_bipush, w_getfield, w_goto, w_iadd, w_iaload, w_icmp_lt, w_iconst, w_if_ne, w_iload_n, w_imul, w_ireturn, w_lsw, w_swap, sa_17, sa_4, sa_44, sg_15_2, sg_2_2, sg_39_5, sg_54_0, sg_54_2, cB_11, cI_0, cI_1, cI_2, cI_5, am_lk0, am_lk1, am_ld_some, am_isI_i, am_isJ_j, am_isR_r, am_st_eq, am_rmv_nil, am_rmv_t, am_rmv_i, am_rmv_r, sf_SH, sj_SH, sf_eq, sf_nk, sf_na, sf_sf, am_args_i, am_args_r, am_args_n, Nat.reduceAdd, List.cons_append, List.nil_append, Option.toList, List.drop_succ_cons, List.drop_zero, am_RP, am_CP, am_PH, Fin.isValue, Fin.val_zero, Fin.val_one, am_f2, am_f3, true_and, and_true, true_implies, false_implies, not_false_eq_true, ne_eq, nI_clampD, nI_leT, nI_leF, nI_ltT, nI_ltF, nI_eqT, nI_eqF, nI_lt0F, nI_0leT, nI_eq0T, nI_eq0F, nI_0ltT, nI_0ltF, nI_le0T, nI_le0F, nI_m1, nI_m1', m1_m1, m1_lt, m1_le, nI_mul, nI_add, nI_sub, nI_add1, nI_dec, nI_div, nI_mod, vp_inD, sf_nkD, sf_eqD, bI_01]
end CT1
