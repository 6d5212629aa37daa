/-! small methods of both sides: contracts by evaluation -/
def bI (b : Bool) : Int32 := if b then nI 1 else nI 0
theorem bI_t : bI true = nI 1 := rfl
theorem bI_f : bI false = nI 0 := rfl
theorem bI_01 (b : Bool) : bI b = 0 ∨ bI b = 1 := by cases b <;> decide +kernel
theorem bI_ne (b : Bool) : (bI b = 0) = (b = false) := by cases b <;> (apply propext; decide +kernel)
theorem nI1_01 : nI 1 = 0 ∨ nI 1 = 1 := Or.inr (by decide +kernel)
theorem nI0_01 : nI 0 = 0 ∨ nI 0 = 1 := Or.inl (by decide +kernel)
theorem le00 : (0 : Nat) ≤ 0 := Nat.le_refl 0
section SM1
variable (g : am_G) (h : Nat) (I : Nat → Nat → Int32) (J : Nat → Nat → Int64)
set_option maxRecDepth 100000 in
set_option maxHeartbeats 4000000 in
theorem c_X2_parentOf (k : Nat) (hk : k < 11) :
    am_Ctr g am_mt 1 (h + 1) 20 [.ref 39, .int (nI k)] (am_SH, I, J) 0 0 (fun r M => r = some (.int (if I 42 k = -1 then -1 else I 42 k / nI 2)) ∧ M = (am_SH, I, J)) := by
  refine am_rule0 (q := qX2_parentOf) (B := am_blk bX2_parentOf) 30 rfl rfl kX2_parentOf nX2_parentOf (Nat.le_of_ble_eq_true rfl) ?_
  have e0 : lv_args 0 [Value.ref 39, Value.int (nI k)] = [(0, .ref 39), (1, .int (nI k))] := rfl
  have hin : vp_in (nI k) 11 := vp_in_nI hk (by decide)
  have hcl : (nI k).toNatClampNeg = k := nI_clamp (by omega)
  have hq : qX2_parentOf.2.2.2.1 = some .int := rfl
  rw [e0]
  simp (decide := true) only [lX2_parentOf_0, lX2_parentOf_14, lX2_parentOf_22, bX2_parentOf_0, bX2_parentOf_14, bX2_parentOf_22, w_aload_n, w_getfield, w_goto, w_iaload, w_icmp_ne, w_iconst, w_idiv, w_iload_n, w_ireturn, w_swap, sa_42, sg_39_3, cI_2, cI_m1, am_lk0, am_lk1, am_ld_some, am_isI_i, am_isJ_j, am_isR_r, am_st_eq, am_rmv_nil, am_rmv_t, am_rmv_i, am_rmv_r, am_puti_SH, am_putj_SH, am_RP, am_CP, am_PH, Fin.isValue, Fin.val_zero, Fin.val_one, am_f2, am_f3, true_and, and_true, true_implies, false_implies, not_false_eq_true, ne_eq, hin, hcl, hq, am_rok_int]
  exact ⟨fun h1 => by rw [if_neg h1], fun h1 => by rw [if_pos h1]⟩
set_option maxRecDepth 100000 in
set_option maxHeartbeats 4000000 in
theorem c_X10_in (x lo hi : Int32) :
    am_Ctr g am_mt 1 (h + 1) 132 [.int x, .int lo, .int hi] (am_SH, I, J) 0 0 (fun r M => r = some (.int (bI (decide (lo ≤ x ∧ x ≤ hi)))) ∧ M = (am_SH, I, J)) := by
  refine am_rule0 (q := qX10_in) (B := am_blk bX10_in) 30 rfl rfl kX10_in nX10_in (Nat.le_of_ble_eq_true rfl) ?_
  have e0 : lv_args 0 [Value.int x, Value.int lo, Value.int hi] = [(0, .int x), (1, .int lo), (2, .int hi)] := rfl
  have hq : qX10_in.2.2.2.1 = some .boolean := rfl
  rw [e0]
  simp (decide := true) only [lX10_in_0, lX10_in_14, lX10_in_15, bX10_in_0, bX10_in_14, bX10_in_15, w_goto, w_icmp_gt, w_icmp_lt, w_iconst, w_iload_n, w_ireturn, w_swap, cI_0, cI_1, am_lk0, am_lk1, am_ld_some, am_isI_i, am_isJ_j, am_isR_r, am_st_eq, am_rmv_nil, am_rmv_t, am_rmv_i, am_rmv_r, am_puti_SH, am_putj_SH, am_RP, am_CP, am_PH, Fin.isValue, Fin.val_zero, Fin.val_one, am_f2, am_f3, true_and, and_true, true_implies, false_implies, not_false_eq_true, ne_eq, hq, am_rok_bool, nI1_01, nI0_01]
  trace_state
  sorry
set_option maxRecDepth 100000 in
set_option maxHeartbeats 4000000 in
theorem c_X10_fails (v : Int32) :
    am_Ctr g am_mt 1 (h + 1) 133 [.ref 60, .int v] (am_SH, I, J) 0 0 (fun r M => r = some (.int (nI 0)) ∧ M = (am_SH, am_rs I 60 (upd (I 60) 0 v), J)) := by
  refine am_rule0 (q := qX10_fails) (B := am_blk bX10_fails) 30 rfl rfl kX10_fails nX10_fails (Nat.le_of_ble_eq_true rfl) ?_
  have e0 : lv_args 0 [Value.ref 60, Value.int v] = [(0, .ref 60), (1, .int v)] := rfl
  have hq : qX10_fails.2.2.2.1 = some .int := rfl
  rw [e0]
  simp (decide := true) only [lX10_fails_0, bX10_fails_0, w_aload_n, w_iconst, w_iload_n, w_ireturn, w_puti, sp_60_0, cI_0, am_lk0, am_lk1, am_ld_some, am_isI_i, am_isJ_j, am_isR_r, am_st_eq, am_rmv_nil, am_rmv_t, am_rmv_i, am_rmv_r, am_puti_SH, am_putj_SH, am_RP, am_CP, am_PH, Fin.isValue, Fin.val_zero, Fin.val_one, am_f2, am_f3, true_and, and_true, true_implies, false_implies, not_false_eq_true, ne_eq, hq, am_rok_int]
  trace_state
  sorry
end SM1
