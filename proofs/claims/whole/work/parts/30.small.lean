section SM1
variable (g : am_G) (h : Nat) (I : Nat → Nat → Int32) (J : Nat → Nat → Int64)
set_option maxRecDepth 100000 in
set_option maxHeartbeats 4000000 in
theorem c_X2_parentOf (k : Nat) (hk : k < 11) :
    am_Ctr g am_mt 1 (h + 1) 20 [.ref 39, .int (nI k)] (am_SH, I, J) 0 0 (fun r M => r = some (.int (if I 42 k = -1 then -1 else I 42 k / nI 2)) ∧ M = (am_SH, I, J)) := by
  refine am_rule0 (q := qX2_parentOf) (B := am_blk bX2_parentOf) 30 rfl rfl kX2_parentOf nX2_parentOf (Nat.le_of_ble_eq_true rfl) ?_
  have e0 : lv_args 0 [Value.ref 39, Value.int (nI k)] = [(0, .ref 39), (1, .int (nI k))] := rfl
  have hin : vp_in (nI k) 11 := vp_in_nI hk (by decide)
  have hcl : (nI k).toNatClampNeg = k := nI_clamp (by omega)
  have hq : qX2_parentOf.2.2.2.1 = some .int := rfl
  rw [e0]
  simp (decide := true) only [lX2_parentOf_0, lX2_parentOf_14, lX2_parentOf_22, bX2_parentOf_0, bX2_parentOf_14, bX2_parentOf_22, w_aload_n, w_getfield, w_goto, w_iaload, w_icmp_ne, w_iconst, w_idiv, w_iload_n, w_ireturn, w_swap, sa_42, sg_39_3, cI_2, cI_m1, am_lk0, am_lk1, am_ld_some, am_isI_i, am_isJ_j, am_isR_r, am_st_eq, am_rmv_nil, am_rmv_t, am_rmv_i, am_rmv_r, am_puti_SH, am_putj_SH, am_RP, am_CP, am_PH, Fin.isValue, Fin.val_zero, Fin.val_one, am_f2, am_f3, true_and, and_true, true_implies, false_implies, not_false_eq_true, ne_eq, hin, hcl, hq, am_rok_int]
  trace_state
  sorry
end SM1
