/-! the class finds a number by halving -/
theorem cmp_eq {a b : Nat} (ha : a < 9223372036854775808) (hb : b < 9223372036854775808) : (lg_cmp (Int64.ofNat a) (Int64.ofNat b) = 0) = (a = b) := by
  have e1 := Int64.toInt_ofNat_of_lt (n := a) (by omega)
  have e2 := Int64.toInt_ofNat_of_lt (n := b) (by omega)
  unfold lg_cmp
  apply propext
  by_cases h1 : Int64.ofNat a > Int64.ofNat b
  · rw [if_pos h1]
    have h2 := Int64.lt_iff_toInt_lt.mp h1
    rw [e1, e2] at h2
    exact ⟨fun h => absurd h (by decide), fun h => by omega⟩
  · rw [if_neg h1]
    by_cases h2 : Int64.ofNat a = Int64.ofNat b
    · rw [if_pos h2]
      have h3 := congrArg Int64.toInt h2
      rw [e1, e2] at h3
      exact ⟨fun _ => by omega, fun _ => rfl⟩
    · rw [if_neg h2]
      exact ⟨fun h => absurd h (by decide), fun h => absurd (by rw [h]) h2⟩
theorem cmp_ge {a b : Nat} (ha : a < 9223372036854775808) (hb : b < 9223372036854775808) : (0 ≤ lg_cmp (Int64.ofNat a) (Int64.ofNat b)) = (b ≤ a) := by
  have e1 := Int64.toInt_ofNat_of_lt (n := a) (by omega)
  have e2 := Int64.toInt_ofNat_of_lt (n := b) (by omega)
  unfold lg_cmp
  apply propext
  by_cases h1 : Int64.ofNat a > Int64.ofNat b
  · rw [if_pos h1]
    have h2 := Int64.lt_iff_toInt_lt.mp h1
    rw [e1, e2] at h2
    exact ⟨fun _ => by omega, fun _ => by decide⟩
  · rw [if_neg h1]
    by_cases h2 : Int64.ofNat a = Int64.ofNat b
    · rw [if_pos h2]
      have h3 := congrArg Int64.toInt h2
      rw [e1, e2] at h3
      exact ⟨fun _ => by omega, fun _ => by decide⟩
    · rw [if_neg h2]
      refine ⟨fun h => absurd h (by decide), fun h => ?_⟩
      exfalso
      by_cases hab : a = b
      · exact h2 (by rw [hab])
      · apply h1
        apply Int64.lt_iff_toInt_lt.mpr
        rw [e1, e2]
        omega
theorem wI_ltn {w l : Nat} (hw : w < 2147483648) (hl : l < 2147483648) : (wI w < nI l) = (w ≤ l) := by
  unfold wI
  apply propext
  by_cases h : w = 0
  · rw [if_pos h]
    refine ⟨fun _ => by omega, fun _ => ?_⟩
    exact Int32.lt_of_lt_of_le (by decide : (-1 : Int32) < 0) (nI_pos' (n := l) hl)
  · rw [if_neg h]
    by_cases h2 : w ≤ l
    · rw [nI_ltT (by omega) hl]; exact ⟨fun _ => h2, fun _ => trivial⟩
    · rw [nI_ltF (by omega) (by omega)]; exact ⟨False.elim, fun h3 => h2 h3⟩
section FD1
variable (g : am_G) (h : Nat) (I : Nat → Nat → Int32) (J : Nat → Nat → Int64)
set_option maxRecDepth 100000 in
set_option maxHeartbeats 8000000 in
theorem c_X6_find (cnt v : Nat) (V : Nat → Nat) (hcnt : cnt ≤ 720) (h35 : I 35 1 = nI cnt) (hJ : ∀ i, i < cnt → J 36 i = Int64.ofNat (V i)) (hV : ∀ i, i < cnt → V i < 9223372036854775808) (hv : v < 9223372036854775808) (hs : ∀ i j, i < j → j < cnt → V i < V j) :
    am_Ctr g am_mt 1 (h + 1) 56 [.ref 35, .long (Int64.ofNat v)] (am_SH, I, J) 0 0 (fun r M => ∃ w, r = some (.int (wI w)) ∧ ((w = 0 ∧ ∀ i, i < cnt → V i ≠ v) ∨ (0 < w ∧ w - 1 < cnt ∧ V (w - 1) = v)) ∧ M = (am_SH, I, J)) := by
  obtain ⟨JJ, hJJ⟩ : ∃ JJ : Nat → am_Cut, JJ = (fun zu zpc zl zst zM zk zn => (∃ (k lo hi : Nat), zu = 12 - k ∧ (k ≤ 12 ∧ hi ≤ cnt ∧ lo ≤ cnt) ∧ (hi - lo < 2 ^ (12 - k)) ∧ (∀ i, i < cnt → V i = v → lo ≤ i ∧ i < hi) ∧ zpc = 13 ∧ zl = [(0, .ref 35), (1, .long (Int64.ofNat v)), (3, .int (nI lo)), (4, .int (wI hi)), (5, .int (nI k))] ∧ zst = [] ∧ zM = (am_SH, I, J) ∧ zk = 0 ∧ zn = 0)) := ⟨_, rfl⟩
  have mk : ∀ (k lo hi : Nat), (k ≤ 12 ∧ hi ≤ cnt ∧ lo ≤ cnt) → (hi - lo < 2 ^ (12 - k)) → (∀ i, i < cnt → V i = v → lo ≤ i ∧ i < hi) → JJ (12 - k) 13 [(0, .ref 35), (1, .long (Int64.ofNat v)), (3, .int (nI lo)), (4, .int (wI hi)), (5, .int (nI k))] [] (am_SH, I, J) 0 0 := by
    intro k lo hi a0 a1 a2
    rw [hJJ]
    exact ⟨k, lo, hi, rfl, a0, a1, a2, rfl, rfl, rfl, rfl, rfl, rfl⟩
  refine am_rule2 (q := qX6_find) (B := am_blk bX6_find) rfl rfl kX6_find nX6_find (Nat.le_of_ble_eq_true rfl) JJ (fun zu zpc zl zst zM zk zn hj => ?_) ?_
  rotate_left
  · refine ⟨60, ?_⟩
    have h9 := wI_dec' (i := cnt)
    simp (decide := true) (disch := (first | exact eq_false (by decide) | exact eq_true (by decide) | decide | omega)) only [lX6_find_0, lX6_find_13, lX6_find_49, lX6_find_69, lX6_find_75, lX6_find_81, bX6_find_0, bX6_find_13, bX6_find_49, bX6_find_69, bX6_find_75, bX6_find_81, am_rmv_j, am_rmv_jt, am_args_j, am_st2_eq, am_rmw_n, am_rmw_t, am_rmw_f, (show qX6_find.2.2.2.1 = (some .int) from rfl), am_rok_int, w_aload_n, w_bipush, w_getfield, w_goto, w_iadd, w_icmp_ge, w_icmp_gt, w_iconst, w_idiv, w_if_ge, w_if_ne, w_iinc, w_iload, w_iload_n, w_ireturn, w_istore, w_istore_n, w_isub, w_laload, w_lcmp, w_lload_n, w_nop, w_swap, sa_36, sg_35_0, sg_35_1, cB_12, cI_0, cI_1, cI_2, cI_m1, am_lk0, am_lk1, am_ld_some, am_isI_i, am_isJ_j, am_isR_r, am_st_eq, am_rmv_nil, am_rmv_t, am_rmv_i, am_rmv_r, sf_SH, sj_SH, sf_eq, sf_nk, sf_na, sf_sf, am_args_i, am_args_r, am_args_n, Nat.reduceAdd, List.cons_append, List.nil_append, Option.toList, List.drop_succ_cons, List.drop_zero, am_RP, am_CP, am_PH, Fin.isValue, Fin.val_zero, Fin.val_one, am_f2, am_f3, true_and, and_true, true_implies, false_implies, not_false_eq_true, ne_eq, nI_clampD, nI_leT, nI_leF, nI_ltT, nI_ltF, nI_eqT, nI_eqF, nI_lt0F, nI_0leT, nI_eq0T, nI_eq0F, nI_0ltT, nI_0ltF, nI_le0T, nI_le0F, nI_m1, nI_m1', m1_m1, m1_lt, m1_le, nI_mul, nI_add, nI_sub, nI_add1, nI_dec, nI_div, nI_mod, vp_inD, sf_nkD, sf_eqD, h35, h9]
    refine ⟨_, _, ?_, mk 0 0 cnt ⟨by omega, Nat.le_refl _, by omega⟩ (by show cnt - 0 < 4096; omega) (fun i hi _ => ⟨by omega, hi⟩)⟩
    · (simp (decide := true) only [am_has, am_lk0, am_lk1, and_self, true_and, and_true] <;> first | rfl | (refine ⟨?_, ?_⟩ <;> rfl) | (refine ⟨?_, ?_, ?_⟩ <;> rfl) | (refine ⟨?_, ?_, ?_, ?_⟩ <;> rfl))
  rw [hJJ] at hj
  clear hJJ
  obtain ⟨k, lo, hi, rfl, e1, e2, e3, rfl, rfl, rfl, rfl, rfl, rfl⟩ := hj
  refine ⟨_, 90, rfl, rfl, ?_⟩
  obtain ⟨e1, e4, e5⟩ := e1
  have ew := wI_ltn (w := hi) (l := lo) (by omega) (by omega)
  by_cases hk : k = 12
  · subst hk
    have e2 : hi - lo < 1 := e2
    simp (decide := true) (disch := (first | exact eq_false (by decide) | exact eq_true (by decide) | decide | omega)) only [lX6_find_0, lX6_find_13, lX6_find_49, lX6_find_69, lX6_find_75, lX6_find_81, bX6_find_0, bX6_find_13, bX6_find_49, bX6_find_69, bX6_find_75, bX6_find_81, am_rmv_j, am_rmv_jt, am_args_j, am_st2_eq, am_rmw_n, am_rmw_t, am_rmw_f, (show qX6_find.2.2.2.1 = (some .int) from rfl), am_rok_int, w_aload_n, w_bipush, w_getfield, w_goto, w_iadd, w_icmp_ge, w_icmp_gt, w_iconst, w_idiv, w_if_ge, w_if_ne, w_iinc, w_iload, w_iload_n, w_ireturn, w_istore, w_istore_n, w_isub, w_laload, w_lcmp, w_lload_n, w_nop, w_swap, sa_36, sg_35_0, sg_35_1, cB_12, cI_0, cI_1, cI_2, cI_m1, am_lk0, am_lk1, am_ld_some, am_isI_i, am_isJ_j, am_isR_r, am_st_eq, am_rmv_nil, am_rmv_t, am_rmv_i, am_rmv_r, sf_SH, sj_SH, sf_eq, sf_nk, sf_na, sf_sf, am_args_i, am_args_r, am_args_n, Nat.reduceAdd, List.cons_append, List.nil_append, Option.toList, List.drop_succ_cons, List.drop_zero, am_RP, am_CP, am_PH, Fin.isValue, Fin.val_zero, Fin.val_one, am_f2, am_f3, true_and, and_true, true_implies, false_implies, not_false_eq_true, ne_eq, nI_clampD, nI_leT, nI_leF, nI_ltT, nI_ltF, nI_eqT, nI_eqF, nI_lt0F, nI_0leT, nI_eq0T, nI_eq0F, nI_0ltT, nI_0ltF, nI_le0T, nI_le0F, nI_m1, nI_m1', m1_m1, m1_lt, m1_le, nI_mul, nI_add, nI_sub, nI_add1, nI_dec, nI_div, nI_mod, vp_inD, sf_nkD, sf_eqD]
    exact ⟨0, rfl, Or.inl ⟨rfl, fun i hi9 h9 => by have := e3 i hi9 h9; omega⟩⟩
  · by_cases hlh : hi ≤ lo
    · have ew := ew.trans (eq_true hlh)
      simp (decide := true) (disch := (first | exact eq_false (by decide) | exact eq_true (by decide) | decide | omega)) only [lX6_find_0, lX6_find_13, lX6_find_49, lX6_find_69, lX6_find_75, lX6_find_81, bX6_find_0, bX6_find_13, bX6_find_49, bX6_find_69, bX6_find_75, bX6_find_81, am_rmv_j, am_rmv_jt, am_args_j, am_st2_eq, am_rmw_n, am_rmw_t, am_rmw_f, (show qX6_find.2.2.2.1 = (some .int) from rfl), am_rok_int, w_aload_n, w_bipush, w_getfield, w_goto, w_iadd, w_icmp_ge, w_icmp_gt, w_iconst, w_idiv, w_if_ge, w_if_ne, w_iinc, w_iload, w_iload_n, w_ireturn, w_istore, w_istore_n, w_isub, w_laload, w_lcmp, w_lload_n, w_nop, w_swap, sa_36, sg_35_0, sg_35_1, cB_12, cI_0, cI_1, cI_2, cI_m1, am_lk0, am_lk1, am_ld_some, am_isI_i, am_isJ_j, am_isR_r, am_st_eq, am_rmv_nil, am_rmv_t, am_rmv_i, am_rmv_r, sf_SH, sj_SH, sf_eq, sf_nk, sf_na, sf_sf, am_args_i, am_args_r, am_args_n, Nat.reduceAdd, List.cons_append, List.nil_append, Option.toList, List.drop_succ_cons, List.drop_zero, am_RP, am_CP, am_PH, Fin.isValue, Fin.val_zero, Fin.val_one, am_f2, am_f3, true_and, and_true, true_implies, false_implies, not_false_eq_true, ne_eq, nI_clampD, nI_leT, nI_leF, nI_ltT, nI_ltF, nI_eqT, nI_eqF, nI_lt0F, nI_0leT, nI_eq0T, nI_eq0F, nI_0ltT, nI_0ltF, nI_le0T, nI_le0F, nI_m1, nI_m1', m1_m1, m1_lt, m1_le, nI_mul, nI_add, nI_sub, nI_add1, nI_dec, nI_div, nI_mod, vp_inD, sf_nkD, sf_eqD, ew]
      exact ⟨0, rfl, Or.inl ⟨rfl, fun i hi9 h9 => by have := e3 i hi9 h9; omega⟩⟩
    · have ew := ew.trans (eq_false hlh)
      have ehi : wI hi = nI (hi - 1) := wI_p (by omega)
      have hp : 2 ^ (12 - k) = 2 * 2 ^ (12 - (k + 1)) := by rw [show 12 - k = (12 - (k + 1)) + 1 by omega, Nat.pow_succ, Nat.mul_comm]
      have ew2 : (nI (hi - 1) < nI lo) = False := by rw [← ehi]; exact ew
      obtain ⟨md, hmd⟩ : ∃ md, md = (lo + (hi - 1)) / 2 := ⟨_, rfl⟩
      have hmd1 : lo ≤ md := by omega
      have hmd2 : md < hi := by omega
      have hmd3 : md < cnt := by omega
      have hJm := hJ md hmd3
      have hVm := hV md hmd3
      have ec := cmp_eq hVm hv
      have eg := cmp_ge hVm hv
      by_cases hq : V md = v
      · have ec := ec.trans (eq_true hq)
        simp (decide := true) (disch := (first | exact eq_false (by decide) | exact eq_true (by decide) | decide | omega)) only [lX6_find_0, lX6_find_13, lX6_find_49, lX6_find_69, lX6_find_75, lX6_find_81, bX6_find_0, bX6_find_13, bX6_find_49, bX6_find_69, bX6_find_75, bX6_find_81, am_rmv_j, am_rmv_jt, am_args_j, am_st2_eq, am_rmw_n, am_rmw_t, am_rmw_f, (show qX6_find.2.2.2.1 = (some .int) from rfl), am_rok_int, w_aload_n, w_bipush, w_getfield, w_goto, w_iadd, w_icmp_ge, w_icmp_gt, w_iconst, w_idiv, w_if_ge, w_if_ne, w_iinc, w_iload, w_iload_n, w_ireturn, w_istore, w_istore_n, w_isub, w_laload, w_lcmp, w_lload_n, w_nop, w_swap, sa_36, sg_35_0, sg_35_1, cB_12, cI_0, cI_1, cI_2, cI_m1, am_lk0, am_lk1, am_ld_some, am_isI_i, am_isJ_j, am_isR_r, am_st_eq, am_rmv_nil, am_rmv_t, am_rmv_i, am_rmv_r, sf_SH, sj_SH, sf_eq, sf_nk, sf_na, sf_sf, am_args_i, am_args_r, am_args_n, Nat.reduceAdd, List.cons_append, List.nil_append, Option.toList, List.drop_succ_cons, List.drop_zero, am_RP, am_CP, am_PH, Fin.isValue, Fin.val_zero, Fin.val_one, am_f2, am_f3, true_and, and_true, true_implies, false_implies, not_false_eq_true, ne_eq, nI_clampD, nI_leT, nI_leF, nI_ltT, nI_ltF, nI_eqT, nI_eqF, nI_lt0F, nI_0leT, nI_eq0T, nI_eq0F, nI_0ltT, nI_0ltF, nI_le0T, nI_le0F, nI_m1, nI_m1', m1_m1, m1_lt, m1_le, nI_mul, nI_add, nI_sub, nI_add1, nI_dec, nI_div, nI_mod, vp_inD, sf_nkD, sf_eqD, ehi, ew2, ← hmd, hJm, ec]
        exact ⟨md + 1, rfl, Or.inr ⟨by omega, by omega, hq⟩⟩
      · have ec := ec.trans (eq_false hq)
        by_cases hlt : v ≤ V md
        · have eg := eg.trans (eq_true hlt)
          have h9 := wI_dec' (i := md)
          simp (decide := true) (disch := (first | exact eq_false (by decide) | exact eq_true (by decide) | decide | omega)) only [lX6_find_0, lX6_find_13, lX6_find_49, lX6_find_69, lX6_find_75, bX6_find_0, bX6_find_13, bX6_find_49, bX6_find_69, bX6_find_75, am_rmv_j, am_rmv_jt, am_args_j, am_st2_eq, am_rmw_n, am_rmw_t, am_rmw_f, (show qX6_find.2.2.2.1 = (some .int) from rfl), am_rok_int, w_aload_n, w_bipush, w_getfield, w_goto, w_iadd, w_icmp_ge, w_icmp_gt, w_iconst, w_idiv, w_if_ge, w_if_ne, w_iinc, w_iload, w_iload_n, w_ireturn, w_istore, w_istore_n, w_isub, w_laload, w_lcmp, w_lload_n, w_nop, w_swap, sa_36, sg_35_0, sg_35_1, cB_12, cI_0, cI_1, cI_2, cI_m1, am_lk0, am_lk1, am_ld_some, am_isI_i, am_isJ_j, am_isR_r, am_st_eq, am_rmv_nil, am_rmv_t, am_rmv_i, am_rmv_r, sf_SH, sj_SH, sf_eq, sf_nk, sf_na, sf_sf, am_args_i, am_args_r, am_args_n, Nat.reduceAdd, List.cons_append, List.nil_append, Option.toList, List.drop_succ_cons, List.drop_zero, am_RP, am_CP, am_PH, Fin.isValue, Fin.val_zero, Fin.val_one, am_f2, am_f3, true_and, and_true, true_implies, false_implies, not_false_eq_true, ne_eq, nI_clampD, nI_leT, nI_leF, nI_ltT, nI_ltF, nI_eqT, nI_eqF, nI_lt0F, nI_0leT, nI_eq0T, nI_eq0F, nI_0ltT, nI_0ltF, nI_le0T, nI_le0F, nI_m1, nI_m1', m1_m1, m1_lt, m1_le, nI_mul, nI_add, nI_sub, nI_add1, nI_dec, nI_div, nI_mod, vp_inD, sf_nkD, sf_eqD, ehi, ew2, ← hmd, hJm, ec, eg, h9]
          refine ⟨_, _, ?_, ?_, mk (k + 1) lo md ⟨by omega, by omega, e5⟩ (by omega) (fun i hi9 h8 => ?_)⟩
          · omega
          · (simp (decide := true) only [am_has, am_lk0, am_lk1, and_self, true_and, and_true] <;> first | rfl | (refine ⟨?_, ?_⟩ <;> rfl) | (refine ⟨?_, ?_, ?_⟩ <;> rfl) | (refine ⟨?_, ?_, ?_, ?_⟩ <;> rfl))
          have h7 := e3 i hi9 h8
          refine ⟨h7.1, Classical.byContradiction fun h6 => ?_⟩
          by_cases him : i = md
          · rw [him] at h8; exact hq h8
          · have := hs md i (by omega) hi9; omega
        · have eg := eg.trans (eq_false hlt)
          simp (decide := true) (disch := (first | exact eq_false (by decide) | exact eq_true (by decide) | decide | omega)) only [lX6_find_0, lX6_find_13, lX6_find_49, lX6_find_69, lX6_find_75, lX6_find_81, bX6_find_0, bX6_find_13, bX6_find_49, bX6_find_69, bX6_find_75, bX6_find_81, am_rmv_j, am_rmv_jt, am_args_j, am_st2_eq, am_rmw_n, am_rmw_t, am_rmw_f, (show qX6_find.2.2.2.1 = (some .int) from rfl), am_rok_int, w_aload_n, w_bipush, w_getfield, w_goto, w_iadd, w_icmp_ge, w_icmp_gt, w_iconst, w_idiv, w_if_ge, w_if_ne, w_iinc, w_iload, w_iload_n, w_ireturn, w_istore, w_istore_n, w_isub, w_laload, w_lcmp, w_lload_n, w_nop, w_swap, sa_36, sg_35_0, sg_35_1, cB_12, cI_0, cI_1, cI_2, cI_m1, am_lk0, am_lk1, am_ld_some, am_isI_i, am_isJ_j, am_isR_r, am_st_eq, am_rmv_nil, am_rmv_t, am_rmv_i, am_rmv_r, sf_SH, sj_SH, sf_eq, sf_nk, sf_na, sf_sf, am_args_i, am_args_r, am_args_n, Nat.reduceAdd, List.cons_append, List.nil_append, Option.toList, List.drop_succ_cons, List.drop_zero, am_RP, am_CP, am_PH, Fin.isValue, Fin.val_zero, Fin.val_one, am_f2, am_f3, true_and, and_true, true_implies, false_implies, not_false_eq_true, ne_eq, nI_clampD, nI_leT, nI_leF, nI_ltT, nI_ltF, nI_eqT, nI_eqF, nI_lt0F, nI_0leT, nI_eq0T, nI_eq0F, nI_0ltT, nI_0ltF, nI_le0T, nI_le0F, nI_m1, nI_m1', m1_m1, m1_lt, m1_le, nI_mul, nI_add, nI_sub, nI_add1, nI_dec, nI_div, nI_mod, vp_inD, sf_nkD, sf_eqD, ehi, ew2, ← hmd, hJm, ec, eg]
          rw [← ehi]
          refine ⟨_, _, ?_, ?_, mk (k + 1) (md + 1) hi ⟨by omega, e4, by omega⟩ (by omega) (fun i hi9 h8 => ?_)⟩
          · omega
          · (simp (decide := true) only [am_has, am_lk0, am_lk1, and_self, true_and, and_true] <;> first | rfl | (refine ⟨?_, ?_⟩ <;> rfl) | (refine ⟨?_, ?_, ?_⟩ <;> rfl) | (refine ⟨?_, ?_, ?_, ?_⟩ <;> rfl))
          have h7 := e3 i hi9 h8
          refine ⟨Classical.byContradiction fun h6 => ?_, h7.2⟩
          by_cases him : i = md
          · rw [him] at h8; exact hq h8
          · have := hs i md (by omega) hmd3; omega
end FD1
