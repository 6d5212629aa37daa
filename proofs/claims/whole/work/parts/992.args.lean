/-! arguments of any size -/
theorem rng {x : Int32} {c : Nat} (hc : c < 2147483648) : decide (nI 0 ≤ x ∧ x ≤ wI c) = true ↔ ∃ r, r < c ∧ x = nI r := by
  rw [decide_eq_true_iff]
  constructor
  · rintro ⟨h1, h2⟩
    rw [nI_0] at h1
    have e : nI x.toNatClampNeg = x := Int32.ofNat_toNatClampNeg x h1
    have hb : x.toNatClampNeg < 2147483648 := Int32.toNatClampNeg_lt x
    refine ⟨x.toNatClampNeg, ?_, e.symm⟩
    rw [← e] at h2
    by_cases h0 : c = 0
    · exfalso
      rw [h0] at h2
      have h3 := nI_pos' (n := x.toNatClampNeg) hb
      exact absurd (Int32.le_trans h3 h2) (by decide)
    · rw [wI_p (by omega)] at h2
      have := (nI_leI hb (by omega)).mp h2
      omega
  · rintro ⟨r, h1, rfl⟩
    refine ⟨nI_le (Nat.zero_le _) (by omega), ?_⟩
    rw [wI_p (by omega)]
    exact nI_le (by omega) (by omega)
section AR1
variable (g : am_G) (h : Nat) (I : Nat → Nat → Int32) (J : Nat → Nat → Int64)
set_option maxRecDepth 100000 in
set_option maxHeartbeats 400000 in
theorem c_X10_isReading (x : Int32) (c : Nat) (hc : c < 2147483648) (h29 : I 60 29 = nI c) :
    am_Ctr g am_mt 1 (h + 2) 170 [.ref 60, .int x] (am_SH, I, J) 0 0 (fun r M => ∃ b, r = some (.int (bI b)) ∧ (b = true ↔ ∃ r, r < c ∧ x = nI r) ∧ M = (am_SH, I, J)) := by
  have h9 := wI_dec' (i := c)
  refine am_rule0 (q := qX10_isReading) (B := am_blk bX10_isReading) 30 rfl rfl kX10_isReading nX10_isReading (Nat.le_of_ble_eq_true rfl) ?_
  simp (decide := true) (disch := (first | exact eq_false (by decide) | exact eq_true (by decide) | decide | omega)) only [lX10_isReading_0, bX10_isReading_0, (show qX10_isReading.2.2.2.1 = (some .boolean) from rfl), am_rok_bool, w_aload_n, w_getfield, w_iconst, w_iload_n, w_ireturn, w_isub, sg_60_29, cI_0, cI_1, am_lk0, am_lk1, am_ld_some, am_isI_i, am_isJ_j, am_isR_r, am_st_eq, am_rmv_nil, am_rmv_t, am_rmv_i, am_rmv_r, sf_SH, sj_SH, sf_eq, sf_nk, sf_na, sf_sf, am_args_i, am_args_r, am_args_n, Nat.reduceAdd, List.cons_append, List.nil_append, Option.toList, List.drop_succ_cons, List.drop_zero, am_RP, am_CP, am_PH, Fin.isValue, Fin.val_zero, Fin.val_one, am_f2, am_f3, true_and, and_true, true_implies, false_implies, not_false_eq_true, ne_eq, nI_clampD, nI_leT, nI_leF, nI_ltT, nI_ltF, nI_eqT, nI_eqF, nI_lt0F, nI_0leT, nI_eq0T, nI_eq0F, nI_0ltT, nI_0ltF, nI_le0T, nI_le0F, nI_m1, nI_m1', m1_m1, m1_lt, m1_le, nI_mul, nI_add, nI_sub, nI_add1, nI_dec, nI_div, nI_mod, vp_inD, sf_nkD, sf_eqD, h29]
  rw [h9]
  refine w_statE (c_X10_in g h I J _ _ _) (by decide) rfl rfl rfl (Nat.le_refl _) (Nat.le_refl _) ?_
  simp (decide := true) (disch := (first | exact eq_false (by decide) | exact eq_true (by decide) | decide | omega)) only [lX10_isReading_0, bX10_isReading_0, (show qX10_isReading.2.2.2.1 = (some .boolean) from rfl), am_rok_bool, w_aload_n, w_getfield, w_iconst, w_iload_n, w_ireturn, w_isub, sg_60_29, cI_0, cI_1, am_lk0, am_lk1, am_ld_some, am_isI_i, am_isJ_j, am_isR_r, am_st_eq, am_rmv_nil, am_rmv_t, am_rmv_i, am_rmv_r, sf_SH, sj_SH, sf_eq, sf_nk, sf_na, sf_sf, am_args_i, am_args_r, am_args_n, Nat.reduceAdd, List.cons_append, List.nil_append, Option.toList, List.drop_succ_cons, List.drop_zero, am_RP, am_CP, am_PH, Fin.isValue, Fin.val_zero, Fin.val_one, am_f2, am_f3, true_and, and_true, true_implies, false_implies, not_false_eq_true, ne_eq, nI_clampD, nI_leT, nI_leF, nI_ltT, nI_ltF, nI_eqT, nI_eqF, nI_lt0F, nI_0leT, nI_eq0T, nI_eq0F, nI_0ltT, nI_0ltF, nI_le0T, nI_le0F, nI_m1, nI_m1', m1_m1, m1_lt, m1_le, nI_mul, nI_add, nI_sub, nI_add1, nI_dec, nI_div, nI_mod, vp_inD, sf_nkD, sf_eqD, bI_01]
  exact ⟨_, rfl, rng hc⟩
set_option maxRecDepth 100000 in
set_option maxHeartbeats 400000 in
theorem c_X10_isFragment (x : Int32) (c : Nat) (hc : c < 2147483648) (h16 : I 60 16 = nI c) :
    am_Ctr g am_mt 1 (h + 2) 156 [.ref 60, .int x] (am_SH, I, J) 0 0 (fun r M => ∃ b, r = some (.int (bI b)) ∧ (b = true ↔ ∃ r, r < c ∧ x = nI r) ∧ M = (am_SH, I, J)) := by
  have h9 := wI_dec' (i := c)
  refine am_rule0 (q := qX10_isFragment) (B := am_blk bX10_isFragment) 30 rfl rfl kX10_isFragment nX10_isFragment (Nat.le_of_ble_eq_true rfl) ?_
  simp (decide := true) (disch := (first | exact eq_false (by decide) | exact eq_true (by decide) | decide | omega)) only [lX10_isFragment_0, bX10_isFragment_0, (show qX10_isFragment.2.2.2.1 = (some .boolean) from rfl), am_rok_bool, w_aload_n, w_getfield, w_iconst, w_iload_n, w_ireturn, w_isub, sg_60_16, cI_0, cI_1, am_lk0, am_lk1, am_ld_some, am_isI_i, am_isJ_j, am_isR_r, am_st_eq, am_rmv_nil, am_rmv_t, am_rmv_i, am_rmv_r, sf_SH, sj_SH, sf_eq, sf_nk, sf_na, sf_sf, am_args_i, am_args_r, am_args_n, Nat.reduceAdd, List.cons_append, List.nil_append, Option.toList, List.drop_succ_cons, List.drop_zero, am_RP, am_CP, am_PH, Fin.isValue, Fin.val_zero, Fin.val_one, am_f2, am_f3, true_and, and_true, true_implies, false_implies, not_false_eq_true, ne_eq, nI_clampD, nI_leT, nI_leF, nI_ltT, nI_ltF, nI_eqT, nI_eqF, nI_lt0F, nI_0leT, nI_eq0T, nI_eq0F, nI_0ltT, nI_0ltF, nI_le0T, nI_le0F, nI_m1, nI_m1', m1_m1, m1_lt, m1_le, nI_mul, nI_add, nI_sub, nI_add1, nI_dec, nI_div, nI_mod, vp_inD, sf_nkD, sf_eqD, h16]
  rw [h9]
  refine w_statE (c_X10_in g h I J _ _ _) (by decide) rfl rfl rfl (Nat.le_refl _) (Nat.le_refl _) ?_
  simp (decide := true) (disch := (first | exact eq_false (by decide) | exact eq_true (by decide) | decide | omega)) only [lX10_isFragment_0, bX10_isFragment_0, (show qX10_isFragment.2.2.2.1 = (some .boolean) from rfl), am_rok_bool, w_aload_n, w_getfield, w_iconst, w_iload_n, w_ireturn, w_isub, sg_60_16, cI_0, cI_1, am_lk0, am_lk1, am_ld_some, am_isI_i, am_isJ_j, am_isR_r, am_st_eq, am_rmv_nil, am_rmv_t, am_rmv_i, am_rmv_r, sf_SH, sj_SH, sf_eq, sf_nk, sf_na, sf_sf, am_args_i, am_args_r, am_args_n, Nat.reduceAdd, List.cons_append, List.nil_append, Option.toList, List.drop_succ_cons, List.drop_zero, am_RP, am_CP, am_PH, Fin.isValue, Fin.val_zero, Fin.val_one, am_f2, am_f3, true_and, and_true, true_implies, false_implies, not_false_eq_true, ne_eq, nI_clampD, nI_leT, nI_leF, nI_ltT, nI_ltF, nI_eqT, nI_eqF, nI_lt0F, nI_0leT, nI_eq0T, nI_eq0F, nI_0ltT, nI_0ltF, nI_le0T, nI_le0F, nI_m1, nI_m1', m1_m1, m1_lt, m1_le, nI_mul, nI_add, nI_sub, nI_add1, nI_dec, nI_div, nI_mod, vp_inD, sf_nkD, sf_eqD, bI_01]
  exact ⟨_, rfl, rng hc⟩
set_option maxRecDepth 100000 in
set_option maxHeartbeats 400000 in
theorem c_X10_isHole {L : Nat → Nat} {t : Nat} {fs : List Fg} (hS : SMd L t fs I) (hk6 : ∀ f, f < fs.length → kF (nF fs f) < 6) (hn : fs.length ≤ 11) (x y : Int32) :
    am_Ctr g am_mt 1 (h + 3) 157 [.ref 60, .int x, .int y] (am_SH, I, J) 0 0 (fun r M => ∃ b, r = some (.int (bI b)) ∧ (b = true ↔ ∃ f k, f < fs.length ∧ k < rk (kF (nF fs f)) ∧ x = nI f ∧ y = nI k) ∧ M = (am_SH, I, J)) := by
  refine am_rule0 (q := qX10_isHole) (B := am_blk bX10_isHole) 60 rfl rfl kX10_isHole nX10_isHole (Nat.le_of_ble_eq_true rfl) ?_
  simp (decide := true) (disch := (first | exact eq_false (by decide) | exact eq_true (by decide) | decide | omega)) only [lX10_isHole_0, lX10_isHole_27, lX10_isHole_28, bX10_isHole_0, bX10_isHole_27, bX10_isHole_28, (show qX10_isHole.2.2.2.1 = (some .boolean) from rfl), am_rok_bool, w_aload_n, w_goto, w_iconst, w_if_eq, w_iload_n, w_ireturn, w_isub, w_swap, cI_0, cI_1, am_lk0, am_lk1, am_ld_some, am_isI_i, am_isJ_j, am_isR_r, am_st_eq, am_rmv_nil, am_rmv_t, am_rmv_i, am_rmv_r, sf_SH, sj_SH, sf_eq, sf_nk, sf_na, sf_sf, am_args_i, am_args_r, am_args_n, Nat.reduceAdd, List.cons_append, List.nil_append, Option.toList, List.drop_succ_cons, List.drop_zero, am_RP, am_CP, am_PH, Fin.isValue, Fin.val_zero, Fin.val_one, am_f2, am_f3, true_and, and_true, true_implies, false_implies, not_false_eq_true, ne_eq, nI_clampD, nI_leT, nI_leF, nI_ltT, nI_ltF, nI_eqT, nI_eqF, nI_lt0F, nI_0leT, nI_eq0T, nI_eq0F, nI_0ltT, nI_0ltF, nI_le0T, nI_le0F, nI_m1, nI_m1', m1_m1, m1_lt, m1_le, nI_mul, nI_add, nI_sub, nI_add1, nI_dec, nI_div, nI_mod, vp_inD, sf_nkD, sf_eqD]
  refine w_virtP (c_X10_isFragment g h I J x fs.length (by omega) hS.1) rfl rfl rfl (of_eq_true so_60) rfl (Nat.le_refl _) (Nat.le_refl _) ?_
  rintro R1 M1 ⟨b, rfl, hb, rfl⟩
  cases b with
  | false =>
    have hno : ¬ ∃ r, r < fs.length ∧ x = nI r := fun h9 => by have := hb.mpr h9; cases this
    simp (decide := true) (disch := (first | exact eq_false (by decide) | exact eq_true (by decide) | decide | omega)) only [lX10_isHole_0, lX10_isHole_27, lX10_isHole_28, bX10_isHole_0, bX10_isHole_27, bX10_isHole_28, (show qX10_isHole.2.2.2.1 = (some .boolean) from rfl), am_rok_bool, w_aload_n, w_goto, w_iconst, w_if_eq, w_iload_n, w_ireturn, w_isub, w_swap, cI_0, cI_1, am_lk0, am_lk1, am_ld_some, am_isI_i, am_isJ_j, am_isR_r, am_st_eq, am_rmv_nil, am_rmv_t, am_rmv_i, am_rmv_r, sf_SH, sj_SH, sf_eq, sf_nk, sf_na, sf_sf, am_args_i, am_args_r, am_args_n, Nat.reduceAdd, List.cons_append, List.nil_append, Option.toList, List.drop_succ_cons, List.drop_zero, am_RP, am_CP, am_PH, Fin.isValue, Fin.val_zero, Fin.val_one, am_f2, am_f3, true_and, and_true, true_implies, false_implies, not_false_eq_true, ne_eq, nI_clampD, nI_leT, nI_leF, nI_ltT, nI_ltF, nI_eqT, nI_eqF, nI_lt0F, nI_0leT, nI_eq0T, nI_eq0F, nI_0ltT, nI_0ltF, nI_le0T, nI_le0F, nI_m1, nI_m1', m1_m1, m1_lt, m1_le, nI_mul, nI_add, nI_sub, nI_add1, nI_dec, nI_div, nI_mod, vp_inD, sf_nkD, sf_eqD, bI_f, nI0_01]
    exact ⟨false, rfl, fun h9 => (by cases h9), fun ⟨f, k, h1, _, h3, _⟩ => absurd ⟨f, h1, h3⟩ hno⟩
  | true =>
    obtain ⟨f, hf, rfl⟩ := hb.mp rfl
    have hr2 := rk_le (kF (nF fs f))
    have h9 := wI_dec' (i := rk (kF (nF fs f)))
    have huni : (∃ f' k, f' < fs.length ∧ k < rk (kF (nF fs f')) ∧ nI f = nI f' ∧ y = nI k) ↔ ∃ k, k < rk (kF (nF fs f)) ∧ y = nI k := ⟨fun ⟨f', k, q1, q2, q3, q4⟩ => by
      have := (nI_eq (by omega) (by omega)).mp q3
      subst this
      exact ⟨k, q2, q4⟩, fun ⟨k, q2, q4⟩ => ⟨f, k, hf, q2, rfl, q4⟩⟩
    simp (decide := true) (disch := (first | exact eq_false (by decide) | exact eq_true (by decide) | decide | omega)) only [lX10_isHole_0, lX10_isHole_27, lX10_isHole_28, bX10_isHole_0, bX10_isHole_27, bX10_isHole_28, (show qX10_isHole.2.2.2.1 = (some .boolean) from rfl), am_rok_bool, w_aload_n, w_goto, w_iconst, w_if_eq, w_iload_n, w_ireturn, w_isub, w_swap, cI_0, cI_1, am_lk0, am_lk1, am_ld_some, am_isI_i, am_isJ_j, am_isR_r, am_st_eq, am_rmv_nil, am_rmv_t, am_rmv_i, am_rmv_r, sf_SH, sj_SH, sf_eq, sf_nk, sf_na, sf_sf, am_args_i, am_args_r, am_args_n, Nat.reduceAdd, List.cons_append, List.nil_append, Option.toList, List.drop_succ_cons, List.drop_zero, am_RP, am_CP, am_PH, Fin.isValue, Fin.val_zero, Fin.val_one, am_f2, am_f3, true_and, and_true, true_implies, false_implies, not_false_eq_true, ne_eq, nI_clampD, nI_leT, nI_leF, nI_ltT, nI_ltF, nI_eqT, nI_eqF, nI_lt0F, nI_0leT, nI_eq0T, nI_eq0F, nI_0ltT, nI_0ltF, nI_le0T, nI_le0F, nI_m1, nI_m1', m1_m1, m1_lt, m1_le, nI_mul, nI_add, nI_sub, nI_add1, nI_dec, nI_div, nI_mod, vp_inD, sf_nkD, sf_eqD, bI_t]
    refine w_virtE (c_X10_holesOf g (h + 1) I J f (kF (nF fs f)) (by omega) (hS.2.1 f hf).1 (hk6 f hf)) rfl rfl rfl (of_eq_true so_60) rfl (Nat.le_refl _) (Nat.le_refl _) ?_
    simp (decide := true) (disch := (first | exact eq_false (by decide) | exact eq_true (by decide) | decide | omega)) only [lX10_isHole_0, lX10_isHole_27, lX10_isHole_28, bX10_isHole_0, bX10_isHole_27, bX10_isHole_28, (show qX10_isHole.2.2.2.1 = (some .boolean) from rfl), am_rok_bool, w_aload_n, w_goto, w_iconst, w_if_eq, w_iload_n, w_ireturn, w_isub, w_swap, cI_0, cI_1, am_lk0, am_lk1, am_ld_some, am_isI_i, am_isJ_j, am_isR_r, am_st_eq, am_rmv_nil, am_rmv_t, am_rmv_i, am_rmv_r, sf_SH, sj_SH, sf_eq, sf_nk, sf_na, sf_sf, am_args_i, am_args_r, am_args_n, Nat.reduceAdd, List.cons_append, List.nil_append, Option.toList, List.drop_succ_cons, List.drop_zero, am_RP, am_CP, am_PH, Fin.isValue, Fin.val_zero, Fin.val_one, am_f2, am_f3, true_and, and_true, true_implies, false_implies, not_false_eq_true, ne_eq, nI_clampD, nI_leT, nI_leF, nI_ltT, nI_ltF, nI_eqT, nI_eqF, nI_lt0F, nI_0leT, nI_eq0T, nI_eq0F, nI_0ltT, nI_0ltF, nI_le0T, nI_le0F, nI_m1, nI_m1', m1_m1, m1_lt, m1_le, nI_mul, nI_add, nI_sub, nI_add1, nI_dec, nI_div, nI_mod, vp_inD, sf_nkD, sf_eqD, h9]
    refine w_statE (c_X10_in g (h + 1) I J _ _ _) (by decide) rfl rfl rfl (Nat.le_refl _) (Nat.le_refl _) ?_
    have hrg := rng (x := y) (c := rk (kF (nF fs f))) (by omega)
    cases hd : decide (nI 0 ≤ y ∧ y ≤ wI (rk (kF (nF fs f)))) with
    | true =>
      simp (decide := true) (disch := (first | exact eq_false (by decide) | exact eq_true (by decide) | decide | omega)) only [lX10_isHole_0, lX10_isHole_27, lX10_isHole_28, bX10_isHole_0, bX10_isHole_27, bX10_isHole_28, (show qX10_isHole.2.2.2.1 = (some .boolean) from rfl), am_rok_bool, w_aload_n, w_goto, w_iconst, w_if_eq, w_iload_n, w_ireturn, w_isub, w_swap, cI_0, cI_1, am_lk0, am_lk1, am_ld_some, am_isI_i, am_isJ_j, am_isR_r, am_st_eq, am_rmv_nil, am_rmv_t, am_rmv_i, am_rmv_r, sf_SH, sj_SH, sf_eq, sf_nk, sf_na, sf_sf, am_args_i, am_args_r, am_args_n, Nat.reduceAdd, List.cons_append, List.nil_append, Option.toList, List.drop_succ_cons, List.drop_zero, am_RP, am_CP, am_PH, Fin.isValue, Fin.val_zero, Fin.val_one, am_f2, am_f3, true_and, and_true, true_implies, false_implies, not_false_eq_true, ne_eq, nI_clampD, nI_leT, nI_leF, nI_ltT, nI_ltF, nI_eqT, nI_eqF, nI_lt0F, nI_0leT, nI_eq0T, nI_eq0F, nI_0ltT, nI_0ltF, nI_le0T, nI_le0F, nI_m1, nI_m1', m1_m1, m1_lt, m1_le, nI_mul, nI_add, nI_sub, nI_add1, nI_dec, nI_div, nI_mod, vp_inD, sf_nkD, sf_eqD, bI_t, nI1_01]
      exact ⟨true, rfl, huni.trans (hrg.symm.trans (by rw [hd])) |>.symm⟩
    | false =>
      simp (decide := true) (disch := (first | exact eq_false (by decide) | exact eq_true (by decide) | decide | omega)) only [lX10_isHole_0, lX10_isHole_27, lX10_isHole_28, bX10_isHole_0, bX10_isHole_27, bX10_isHole_28, (show qX10_isHole.2.2.2.1 = (some .boolean) from rfl), am_rok_bool, w_aload_n, w_goto, w_iconst, w_if_eq, w_iload_n, w_ireturn, w_isub, w_swap, cI_0, cI_1, am_lk0, am_lk1, am_ld_some, am_isI_i, am_isJ_j, am_isR_r, am_st_eq, am_rmv_nil, am_rmv_t, am_rmv_i, am_rmv_r, sf_SH, sj_SH, sf_eq, sf_nk, sf_na, sf_sf, am_args_i, am_args_r, am_args_n, Nat.reduceAdd, List.cons_append, List.nil_append, Option.toList, List.drop_succ_cons, List.drop_zero, am_RP, am_CP, am_PH, Fin.isValue, Fin.val_zero, Fin.val_one, am_f2, am_f3, true_and, and_true, true_implies, false_implies, not_false_eq_true, ne_eq, nI_clampD, nI_leT, nI_leF, nI_ltT, nI_ltF, nI_eqT, nI_eqF, nI_lt0F, nI_0leT, nI_eq0T, nI_eq0F, nI_0ltT, nI_0ltF, nI_le0T, nI_le0F, nI_m1, nI_m1', m1_m1, m1_lt, m1_le, nI_mul, nI_add, nI_sub, nI_add1, nI_dec, nI_div, nI_mod, vp_inD, sf_nkD, sf_eqD, bI_f, nI0_01]
      exact ⟨false, rfl, huni.trans (hrg.symm.trans (by rw [hd])) |>.symm⟩
end AR1
