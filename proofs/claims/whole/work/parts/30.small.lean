/-! small methods of both sides: contracts by evaluation -/
section SM1
variable (g : am_G) (h : Nat) (I : Nat → Nat → Int32) (J : Nat → Nat → Int64)
set_option maxRecDepth 100000 in
set_option maxHeartbeats 400000 in
theorem c_X2_parentOf (k : Nat) (hk : k < 11) :
    am_Ctr g am_mt 1 (h + 1) 20 [.ref 39, .int (nI k)] (am_SH, I, J) 0 0 (fun r M => r = some (.int (if I 42 k = -1 then -1 else I 42 k / nI 2)) ∧ M = (am_SH, I, J)) := by
  refine am_rule0 (q := qX2_parentOf) (B := am_blk bX2_parentOf) 30 rfl rfl kX2_parentOf nX2_parentOf (Nat.le_of_ble_eq_true rfl) ?_
  have hin : vp_in (nI k) 11 := vp_in_nI hk (by decide)
  have hcl : (nI k).toNatClampNeg = k := nI_clamp (by omega)
  simp (decide := true) only [lX2_parentOf_0, lX2_parentOf_14, lX2_parentOf_22, bX2_parentOf_0, bX2_parentOf_14, bX2_parentOf_22, (show qX2_parentOf.2.2.2.1 = (some .int) from rfl), am_rok_int, w_aload_n, w_getfield, w_goto, w_iaload, w_icmp_ne, w_iconst, w_idiv, w_iload_n, w_ireturn, w_swap, sa_42, sg_39_3, cI_2, cI_m1, am_lk0, am_lk1, am_ld_some, am_isI_i, am_isJ_j, am_isR_r, am_st_eq, am_rmv_nil, am_rmv_t, am_rmv_i, am_rmv_r, sf_SH, sj_SH, sf_eq, sf_nk, sf_na, sf_sf, am_args_i, am_args_r, am_args_n, Nat.reduceAdd, List.cons_append, List.nil_append, Option.toList, List.drop_succ_cons, List.drop_zero, am_RP, am_CP, am_PH, Fin.isValue, Fin.val_zero, Fin.val_one, am_f2, am_f3, true_and, and_true, true_implies, false_implies, not_false_eq_true, ne_eq, hin, hcl]
  exact ⟨fun h1 => by rw [if_neg h1], fun h1 => by rw [if_pos h1]⟩
set_option maxRecDepth 100000 in
set_option maxHeartbeats 400000 in
theorem c_X10_in (x lo hi : Int32) :
    am_Ctr g am_mt 1 (h + 1) 132 [.int x, .int lo, .int hi] (am_SH, I, J) 0 0 (fun r M => r = some (.int (bI (decide (lo ≤ x ∧ x ≤ hi)))) ∧ M = (am_SH, I, J)) := by
  refine am_rule0 (q := qX10_in) (B := am_blk bX10_in) 30 rfl rfl kX10_in nX10_in (Nat.le_of_ble_eq_true rfl) ?_
  simp (decide := true) only [lX10_in_0, lX10_in_14, lX10_in_15, bX10_in_0, bX10_in_14, bX10_in_15, (show qX10_in.2.2.2.1 = (some .boolean) from rfl), am_rok_bool, w_goto, w_icmp_gt, w_icmp_lt, w_iconst, w_iload_n, w_ireturn, w_swap, cI_0, cI_1, am_lk0, am_lk1, am_ld_some, am_isI_i, am_isJ_j, am_isR_r, am_st_eq, am_rmv_nil, am_rmv_t, am_rmv_i, am_rmv_r, sf_SH, sj_SH, sf_eq, sf_nk, sf_na, sf_sf, am_args_i, am_args_r, am_args_n, Nat.reduceAdd, List.cons_append, List.nil_append, Option.toList, List.drop_succ_cons, List.drop_zero, am_RP, am_CP, am_PH, Fin.isValue, Fin.val_zero, Fin.val_one, am_f2, am_f3, true_and, and_true, true_implies, false_implies, not_false_eq_true, ne_eq, nI1_01, nI0_01]
  refine ⟨fun h1 => ?_, fun h1 => ⟨fun h2 => ?_, fun h2 => ?_⟩⟩
  · rw [decide_eq_false (fun h0 => absurd h1 (Int32.not_lt.mpr h0.1))]; rfl
  · rw [decide_eq_false (fun h0 => absurd h2 (Int32.not_lt.mpr h0.2))]; rfl
  · rw [decide_eq_true ⟨Int32.not_lt.mp h1, Int32.not_lt.mp h2⟩]; rfl
set_option maxRecDepth 100000 in
set_option maxHeartbeats 400000 in
theorem c_X10_fails (v : Int32) :
    am_Ctr g am_mt 1 (h + 1) 133 [.ref 60, .int v] (am_SH, I, J) 0 0 (fun r M => r = some (.int (nI 0)) ∧ M = (am_SH, sf I 60 0 v, J)) := by
  refine am_rule0 (q := qX10_fails) (B := am_blk bX10_fails) 30 rfl rfl kX10_fails nX10_fails (Nat.le_of_ble_eq_true rfl) ?_
  simp (decide := true) only [lX10_fails_0, bX10_fails_0, (show qX10_fails.2.2.2.1 = (some .int) from rfl), am_rok_int, w_aload_n, w_iconst, w_iload_n, w_ireturn, w_puti, sp_60_0, cI_0, am_lk0, am_lk1, am_ld_some, am_isI_i, am_isJ_j, am_isR_r, am_st_eq, am_rmv_nil, am_rmv_t, am_rmv_i, am_rmv_r, sf_SH, sj_SH, sf_eq, sf_nk, sf_na, sf_sf, am_args_i, am_args_r, am_args_n, Nat.reduceAdd, List.cons_append, List.nil_append, Option.toList, List.drop_succ_cons, List.drop_zero, am_RP, am_CP, am_PH, Fin.isValue, Fin.val_zero, Fin.val_one, am_f2, am_f3, true_and, and_true, true_implies, false_implies, not_false_eq_true, ne_eq]
set_option maxRecDepth 100000 in
set_option maxHeartbeats 400000 in
theorem c_X10_thrown :
    am_Ctr g am_mt 1 (h + 1) 131 [.ref 60] (am_SH, I, J) 0 0 (fun r M => r = some (.int (I 60 0)) ∧ M = (am_SH, I, J)) := by
  refine am_rule0 (q := qX10_thrown) (B := am_blk bX10_thrown) 30 rfl rfl kX10_thrown nX10_thrown (Nat.le_of_ble_eq_true rfl) ?_
  simp (decide := true) only [lX10_thrown_0, bX10_thrown_0, (show qX10_thrown.2.2.2.1 = (some .int) from rfl), am_rok_int, w_aload_n, w_getfield, w_ireturn, sg_60_0, am_lk0, am_lk1, am_ld_some, am_isI_i, am_isJ_j, am_isR_r, am_st_eq, am_rmv_nil, am_rmv_t, am_rmv_i, am_rmv_r, sf_SH, sj_SH, sf_eq, sf_nk, sf_na, sf_sf, am_args_i, am_args_r, am_args_n, Nat.reduceAdd, List.cons_append, List.nil_append, Option.toList, List.drop_succ_cons, List.drop_zero, am_RP, am_CP, am_PH, Fin.isValue, Fin.val_zero, Fin.val_one, am_f2, am_f3, true_and, and_true, true_implies, false_implies, not_false_eq_true, ne_eq]
set_option maxRecDepth 100000 in
set_option maxHeartbeats 400000 in
theorem c_X10_clearText :
    am_Ctr g am_mt 1 (h + 1) 135 [.ref 60] (am_SH, I, J) 0 0 (fun r M => r = some (.int (I 60 2)) ∧ M = (am_SH, sf (sf I 60 0 (nI 0)) 60 2 (nI 0), J)) := by
  refine am_rule0 (q := qX10_clearText) (B := am_blk bX10_clearText) 30 rfl rfl kX10_clearText nX10_clearText (Nat.le_of_ble_eq_true rfl) ?_
  simp (decide := true) only [lX10_clearText_0, bX10_clearText_0, (show qX10_clearText.2.2.2.1 = (some .int) from rfl), am_rok_int, w_aload_n, w_getfield, w_iconst, w_iload_n, w_ireturn, w_istore_n, w_puti, sg_60_2, sp_60_0, sp_60_2, cI_0, am_lk0, am_lk1, am_ld_some, am_isI_i, am_isJ_j, am_isR_r, am_st_eq, am_rmv_nil, am_rmv_t, am_rmv_i, am_rmv_r, sf_SH, sj_SH, sf_eq, sf_nk, sf_na, sf_sf, am_args_i, am_args_r, am_args_n, Nat.reduceAdd, List.cons_append, List.nil_append, Option.toList, List.drop_succ_cons, List.drop_zero, am_RP, am_CP, am_PH, Fin.isValue, Fin.val_zero, Fin.val_one, am_f2, am_f3, true_and, and_true, true_implies, false_implies, not_false_eq_true, ne_eq]
set_option maxRecDepth 100000 in
set_option maxHeartbeats 400000 in
theorem c_X10_errorKind :
    am_Ctr g am_mt 1 (h + 1) 151 [.ref 60] (am_SH, I, J) 0 0 (fun r M => r = some (.int (I 60 3)) ∧ M = (am_SH, sf I 60 0 (nI 0), J)) := by
  refine am_rule0 (q := qX10_errorKind) (B := am_blk bX10_errorKind) 30 rfl rfl kX10_errorKind nX10_errorKind (Nat.le_of_ble_eq_true rfl) ?_
  simp (decide := true) only [lX10_errorKind_0, bX10_errorKind_0, (show qX10_errorKind.2.2.2.1 = (some .int) from rfl), am_rok_int, w_aload_n, w_getfield, w_iconst, w_ireturn, w_puti, sg_60_3, sp_60_0, cI_0, am_lk0, am_lk1, am_ld_some, am_isI_i, am_isJ_j, am_isR_r, am_st_eq, am_rmv_nil, am_rmv_t, am_rmv_i, am_rmv_r, sf_SH, sj_SH, sf_eq, sf_nk, sf_na, sf_sf, am_args_i, am_args_r, am_args_n, Nat.reduceAdd, List.cons_append, List.nil_append, Option.toList, List.drop_succ_cons, List.drop_zero, am_RP, am_CP, am_PH, Fin.isValue, Fin.val_zero, Fin.val_one, am_f2, am_f3, true_and, and_true, true_implies, false_implies, not_false_eq_true, ne_eq]
set_option maxRecDepth 100000 in
set_option maxHeartbeats 400000 in
theorem c_X10_fragments :
    am_Ctr g am_mt 1 (h + 1) 158 [.ref 60] (am_SH, I, J) 0 0 (fun r M => r = some (.int (I 60 16)) ∧ M = (am_SH, sf I 60 0 (nI 0), J)) := by
  refine am_rule0 (q := qX10_fragments) (B := am_blk bX10_fragments) 30 rfl rfl kX10_fragments nX10_fragments (Nat.le_of_ble_eq_true rfl) ?_
  simp (decide := true) only [lX10_fragments_0, bX10_fragments_0, (show qX10_fragments.2.2.2.1 = (some .int) from rfl), am_rok_int, w_aload_n, w_getfield, w_iconst, w_ireturn, w_puti, sg_60_16, sp_60_0, cI_0, am_lk0, am_lk1, am_ld_some, am_isI_i, am_isJ_j, am_isR_r, am_st_eq, am_rmv_nil, am_rmv_t, am_rmv_i, am_rmv_r, sf_SH, sj_SH, sf_eq, sf_nk, sf_na, sf_sf, am_args_i, am_args_r, am_args_n, Nat.reduceAdd, List.cons_append, List.nil_append, Option.toList, List.drop_succ_cons, List.drop_zero, am_RP, am_CP, am_PH, Fin.isValue, Fin.val_zero, Fin.val_one, am_f2, am_f3, true_and, and_true, true_implies, false_implies, not_false_eq_true, ne_eq]
set_option maxRecDepth 100000 in
set_option maxHeartbeats 400000 in
theorem c_X10_predicates :
    am_Ctr g am_mt 1 (h + 1) 201 [.ref 60] (am_SH, I, J) 0 0 (fun r M => r = some (.int (I 60 23)) ∧ M = (am_SH, sf I 60 0 (nI 0), J)) := by
  refine am_rule0 (q := qX10_predicates) (B := am_blk bX10_predicates) 30 rfl rfl kX10_predicates nX10_predicates (Nat.le_of_ble_eq_true rfl) ?_
  simp (decide := true) only [lX10_predicates_0, bX10_predicates_0, (show qX10_predicates.2.2.2.1 = (some .int) from rfl), am_rok_int, w_aload_n, w_getfield, w_iconst, w_ireturn, w_puti, sg_60_23, sp_60_0, cI_0, am_lk0, am_lk1, am_ld_some, am_isI_i, am_isJ_j, am_isR_r, am_st_eq, am_rmv_nil, am_rmv_t, am_rmv_i, am_rmv_r, sf_SH, sj_SH, sf_eq, sf_nk, sf_na, sf_sf, am_args_i, am_args_r, am_args_n, Nat.reduceAdd, List.cons_append, List.nil_append, Option.toList, List.drop_succ_cons, List.drop_zero, am_RP, am_CP, am_PH, Fin.isValue, Fin.val_zero, Fin.val_one, am_f2, am_f3, true_and, and_true, true_implies, false_implies, not_false_eq_true, ne_eq]
set_option maxRecDepth 100000 in
set_option maxHeartbeats 400000 in
theorem c_X10_letter (k t : Nat) (hk : k < 101) (ht : t ≤ 100) (hI : I 60 2 = nI t) :
    am_Ctr g am_mt 1 (h + 1) 136 [.ref 60, .int (nI k)] (am_SH, I, J) 0 0 (fun r M => r = some (.int (if k < t then I 61 k else -1)) ∧ M = (am_SH, I, J)) := by
  refine am_rule0 (q := qX10_letter) (B := am_blk bX10_letter) 30 rfl rfl kX10_letter nX10_letter (Nat.le_of_ble_eq_true rfl) ?_
  have hcl : (nI k).toNatClampNeg = k := nI_clamp (by omega)
  have hle : (nI t ≤ nI k) = (t ≤ k) := propext (nI_leI (by omega) (by omega))
  simp (decide := true) only [lX10_letter_0, lX10_letter_17, lX10_letter_18, bX10_letter_0, bX10_letter_17, bX10_letter_18, (show qX10_letter.2.2.2.1 = (some .int) from rfl), am_rok_int, w_aload_n, w_getfield, w_goto, w_iaload, w_icmp_ge, w_iconst, w_iload_n, w_ireturn, w_swap, sa_61, sg_60_1, sg_60_2, cI_m1, am_lk0, am_lk1, am_ld_some, am_isI_i, am_isJ_j, am_isR_r, am_st_eq, am_rmv_nil, am_rmv_t, am_rmv_i, am_rmv_r, sf_SH, sj_SH, sf_eq, sf_nk, sf_na, sf_sf, am_args_i, am_args_r, am_args_n, Nat.reduceAdd, List.cons_append, List.nil_append, Option.toList, List.drop_succ_cons, List.drop_zero, am_RP, am_CP, am_PH, Fin.isValue, Fin.val_zero, Fin.val_one, am_f2, am_f3, true_and, and_true, true_implies, false_implies, not_false_eq_true, ne_eq, hI, hcl, hle]
  refine ⟨fun h1 => ?_, fun h1 => ⟨vp_in_nI (by omega) (by decide), ?_⟩⟩
  · rw [if_neg (by omega)]
  · rw [if_pos (by omega)]
set_option maxRecDepth 100000 in
set_option maxHeartbeats 400000 in
theorem c_X9_clearText :
    am_Ctr g am_mt 1 (h + 1) 91 [.ref 0] (am_SH, I, J) 0 0 (fun r M => r = some (.int (I 0 1)) ∧ M = (am_SH, sf I 0 1 (nI 0), J)) := by
  refine am_rule0 (q := qX9_clearText) (B := am_blk bX9_clearText) 30 rfl rfl kX9_clearText nX9_clearText (Nat.le_of_ble_eq_true rfl) ?_
  simp (decide := true) only [lX9_clearText_0, bX9_clearText_0, (show qX9_clearText.2.2.2.1 = (some .int) from rfl), am_rok_int, w_aload_n, w_getfield, w_iconst, w_iload_n, w_ireturn, w_istore_n, w_puti, sg_0_1, sp_0_1, cI_0, am_lk0, am_lk1, am_ld_some, am_isI_i, am_isJ_j, am_isR_r, am_st_eq, am_rmv_nil, am_rmv_t, am_rmv_i, am_rmv_r, sf_SH, sj_SH, sf_eq, sf_nk, sf_na, sf_sf, am_args_i, am_args_r, am_args_n, Nat.reduceAdd, List.cons_append, List.nil_append, Option.toList, List.drop_succ_cons, List.drop_zero, am_RP, am_CP, am_PH, Fin.isValue, Fin.val_zero, Fin.val_one, am_f2, am_f3, true_and, and_true, true_implies, false_implies, not_false_eq_true, ne_eq]
set_option maxRecDepth 100000 in
set_option maxHeartbeats 400000 in
theorem c_X9_errorKind :
    am_Ctr g am_mt 1 (h + 1) 93 [.ref 0] (am_SH, I, J) 0 0 (fun r M => r = some (.int (I 0 2)) ∧ M = (am_SH, I, J)) := by
  refine am_rule0 (q := qX9_errorKind) (B := am_blk bX9_errorKind) 30 rfl rfl kX9_errorKind nX9_errorKind (Nat.le_of_ble_eq_true rfl) ?_
  simp (decide := true) only [lX9_errorKind_0, bX9_errorKind_0, (show qX9_errorKind.2.2.2.1 = (some .int) from rfl), am_rok_int, w_aload_n, w_getfield, w_ireturn, sg_0_2, am_lk0, am_lk1, am_ld_some, am_isI_i, am_isJ_j, am_isR_r, am_st_eq, am_rmv_nil, am_rmv_t, am_rmv_i, am_rmv_r, sf_SH, sj_SH, sf_eq, sf_nk, sf_na, sf_sf, am_args_i, am_args_r, am_args_n, Nat.reduceAdd, List.cons_append, List.nil_append, Option.toList, List.drop_succ_cons, List.drop_zero, am_RP, am_CP, am_PH, Fin.isValue, Fin.val_zero, Fin.val_one, am_f2, am_f3, true_and, and_true, true_implies, false_implies, not_false_eq_true, ne_eq]
set_option maxRecDepth 100000 in
set_option maxHeartbeats 400000 in
theorem c_X9_fragments :
    am_Ctr g am_mt 1 (h + 1) 94 [.ref 0] (am_SH, I, J) 0 0 (fun r M => r = some (.int (I 2 1)) ∧ M = (am_SH, I, J)) := by
  refine am_rule0 (q := qX9_fragments) (B := am_blk bX9_fragments) 30 rfl rfl kX9_fragments nX9_fragments (Nat.le_of_ble_eq_true rfl) ?_
  simp (decide := true) only [lX9_fragments_0, bX9_fragments_0, (show qX9_fragments.2.2.2.1 = (some .int) from rfl), am_rok_int, w_aload_n, w_getfield, w_ireturn, sg_0_3, sg_15_1, sg_2_1, am_lk0, am_lk1, am_ld_some, am_isI_i, am_isJ_j, am_isR_r, am_st_eq, am_rmv_nil, am_rmv_t, am_rmv_i, am_rmv_r, sf_SH, sj_SH, sf_eq, sf_nk, sf_na, sf_sf, am_args_i, am_args_r, am_args_n, Nat.reduceAdd, List.cons_append, List.nil_append, Option.toList, List.drop_succ_cons, List.drop_zero, am_RP, am_CP, am_PH, Fin.isValue, Fin.val_zero, Fin.val_one, am_f2, am_f3, true_and, and_true, true_implies, false_implies, not_false_eq_true, ne_eq]
set_option maxRecDepth 100000 in
set_option maxHeartbeats 400000 in
theorem c_X9_predicates :
    am_Ctr g am_mt 1 (h + 1) 113 [.ref 0] (am_SH, I, J) 0 0 (fun r M => r = some (.int (I 2 11)) ∧ M = (am_SH, I, J)) := by
  refine am_rule0 (q := qX9_predicates) (B := am_blk bX9_predicates) 30 rfl rfl kX9_predicates nX9_predicates (Nat.le_of_ble_eq_true rfl) ?_
  simp (decide := true) only [lX9_predicates_0, bX9_predicates_0, (show qX9_predicates.2.2.2.1 = (some .int) from rfl), am_rok_int, w_aload_n, w_getfield, w_ireturn, sg_0_3, sg_15_11, sg_2_11, am_lk0, am_lk1, am_ld_some, am_isI_i, am_isJ_j, am_isR_r, am_st_eq, am_rmv_nil, am_rmv_t, am_rmv_i, am_rmv_r, sf_SH, sj_SH, sf_eq, sf_nk, sf_na, sf_sf, am_args_i, am_args_r, am_args_n, Nat.reduceAdd, List.cons_append, List.nil_append, Option.toList, List.drop_succ_cons, List.drop_zero, am_RP, am_CP, am_PH, Fin.isValue, Fin.val_zero, Fin.val_one, am_f2, am_f3, true_and, and_true, true_implies, false_implies, not_false_eq_true, ne_eq]
end SM1
