/-! errors of use: the reference -/
theorem tkI_RD {L : Nat → Nat} {t : Nat} {fs : List Fg} {I : Nat → Nat → Int32} (hD : RD 15 L fs I) (hn : fs.length ≤ 11) (hp : (pls L fs fs.length).length ≤ 5) : RD 2 L fs (tkI I) := by
  obtain ⟨d1, d2, d3, d4, d5, d6⟩ := hD
  refine ⟨?_, ?_, fun f hf => ?_, fun f hf hk => ?_, fun f hf hk => ?_, fun p hp => ?_⟩
  · unfold tkI
    simp (decide := true) only [cpI_na, sf_nk, sf_eq, sf_na]
    exact d1
  · unfold tkI
    simp (decide := true) only [cpI_na, sf_nk, sf_eq, sf_na]
    exact d2
  · rw [← d3 f hf]
    unfold tkI
    simp (decide := true) only [cpI_na]
    rw [cpI_in (by omega)]
    simp (decide := true) only [cpI_na, sf_nk, sf_eq, sf_na]
  · rw [← (d4 f hf hk).1, ← (d4 f hf hk).2]
    unfold tkI
    simp (decide := true) only [cpI_na]
    rw [cpI_in (by omega), cpI_in (by omega)]
    simp (decide := true) only [cpI_na, sf_nk, sf_eq, sf_na]
  · obtain ⟨e1, e2, e3, e4, e5, e6⟩ := d5 f hf hk
    rw [← e1, ← e2, ← e3, ← e4, ← e5, ← e6]
    unfold tkI
    simp (decide := true) only [cpI_na]
    rw [cpI_in (by omega), cpI_in (by omega), cpI_in (by omega), cpI_in (by omega), cpI_in (by omega), cpI_in (by omega)]
    simp (decide := true) only [cpI_na, sf_nk, sf_eq, sf_na]
  · rw [← (d6 p hp).1, ← (d6 p hp).2]
    unfold tkI
    simp (decide := true) only [cpI_na]
    rw [cpI_in (by omega), cpI_in (by omega)]
    simp (decide := true) only [cpI_na, sf_nk, sf_eq, sf_na]
theorem tkI_TX {L : Nat → Nat} {t : Nat} {I : Nat → Nat → Int32} (hT : TX 16 L t I) : TX 3 L t (tkI I) := by
  refine ⟨hT.1, fun k hk => ?_, hT.2.2⟩
  have h1 := hT.2.1 k hk
  have h2 := hT.1
  refine ⟨?_, h1.2⟩
  rw [← h1.1]
  unfold tkI
  simp (decide := true) only [cpI_na, sf_na]
  rw [cpI_in (by omega)]
theorem tkI_fr (I : Nat → Nat → Int32) : FrS I (tkI I) := by
  intro c hc
  unfold tkI
  rw [cpI_na (eq_false (by omega)), cpI_na (eq_false (by omega)), cpI_na (eq_false (by omega)), cpI_na (eq_false (by omega)), cpI_na (eq_false (by omega)), cpI_na (eq_false (by omega)), cpI_na (eq_false (by omega)), cpI_na (eq_false (by omega)), cpI_na (eq_false (by omega)), cpI_na (eq_false (by omega)), cpI_na (eq_false (by omega)), sf_naD (by omega), sf_naD (by omega), cpI_na (eq_false (by omega))]
theorem wI_lt0t : (wI 0 < 0) = True := by decide
theorem wI_lt0f {w : Nat} (h : 0 < w) (h2 : w < 2147483648) : (wI w < 0) = False := by rw [wI_p h]; exact nI_lt0F (by omega)
theorem wI_0let {w : Nat} (h : 0 < w) (h2 : w < 2147483648) : (0 ≤ wI w) = True := by rw [wI_p h]; exact nI_0leT (by omega)
theorem wI_0lef : (0 ≤ wI 0) = False := by decide
theorem rk2 {k : Nat} (h : k < 6) : (rk k = 2) = (1 ≤ k ∧ k ≤ 4) := by
  unfold rk
  apply propext
  by_cases h0 : k = 0
  · rw [if_pos h0]; omega
  · rw [if_neg h0]
    by_cases h5 : k = 5
    · rw [if_pos h5]; omega
    · rw [if_neg h5]; omega
def fnd (m : Nat) (b : Bool) (p : Nat) : Nat := if b = true ∧ (m = 0 ∨ p + 1 < m) then p + 1 else m
theorem fnd_le {m p : Nat} {b : Bool} (hm : m ≤ 200) (hp : p < 200) : fnd m b p ≤ 200 := by
  unfold fnd; split <;> omega
def rin (L : Nat → Nat) (fs : List Fg) (f m : Nat) : Nat → Nat
  | 0 => m
  | g + 1 => fnd (rin L fs f m g) (decide (kF (nF fs g) = 0) && smN L (nF fs f) (nF fs g) && decide (arF (nF fs f) ≠ arF (nF fs g))) (aF (nF fs f))
def rst (L : Nat → Nat) (fs : List Fg) (f m : Nat) : Nat :=
  if rk (kF (nF fs f)) = 2 then fnd (fnd m (decide (qof fs (vF (nF fs f)) fs.length ≠ f + 1)) (aF (nF fs f))) (!cnt1 (nF fs (f + 1)) (vF (nF fs f))) (aF (nF fs (f + 1))) else
  if kF (nF fs f) = 0 then rin L fs f (fnd (fnd m (decide (qof fs (vF (nF fs f)) fs.length = 0)) (bF (nF fs f) + 1)) (decide (0 < wF (nF fs f) ∧ qof fs (wF (nF fs f) - 1) fs.length = 0)) (bF (nF fs f) + 3)) f else m
def rer (L : Nat → Nat) (fs : List Fg) : Nat → Nat
  | 0 => 0
  | f + 1 => rst L fs f (rer L fs f)
theorem arF_ne (x y : Fg) : (arF x ≠ arF y) ↔ ¬ ((wF x = 0) ↔ (wF y = 0)) := by
  unfold arF
  by_cases h1 : wF x = 0 <;> by_cases h2 : wF y = 0 <;> simp [h1, h2]
theorem bI_ff : bI false = nI 0 := rfl
section MU1
variable (g : am_G) (h : Nat) (I : Nat → Nat → Int32) (J : Nat → Nat → Int64) {L : Nat → Nat} {t : Nat} {fs : List Fg}
set_option maxRecDepth 100000 in
set_option maxHeartbeats 400000 in
theorem c_X10_endOfName (hT : TX 61 L t I) (x : Fg) (f : Nat) (hf : f < 12) (h1 : I 65 f = nI (aF x)) (hx : LFt L t x) :
    am_Ctr g am_mt 1 (h + 1) 144 [.ref 60, .int (nI f)] (am_SH, I, J) 0 0 (fun r M => r = some (.int (nI (bF x))) ∧ M = (am_SH, I, J)) := by
  have ht := hT.1
  have hx0 := hx
  unfold LFt at hx0
  obtain ⟨JJ, hJJ⟩ : ∃ JJ : Nat → am_Cut, JJ = (fun u pc l st M k' n' => ∃ i, u = bF x - i ∧ aF x ≤ i ∧ i ≤ bF x ∧ pc = 7 ∧ l = [(0, .ref 60), (1, .int (nI f)), (2, .int (nI i))] ∧ st = [] ∧ M = (am_SH, I, J) ∧ k' = 0 ∧ n' = 0) := ⟨_, rfl⟩
  have mk : ∀ i, aF x ≤ i → i ≤ bF x → JJ (bF x - i) 7 [(0, .ref 60), (1, .int (nI f)), (2, .int (nI i))] [] (am_SH, I, J) 0 0 := by
    intro i a1 a2
    rw [hJJ]
    exact ⟨i, rfl, a1, a2, rfl, rfl, rfl, rfl, rfl, rfl⟩
  refine am_rule2 (q := qX10_endOfName) (B := am_blk bX10_endOfName) rfl rfl kX10_endOfName nX10_endOfName (Nat.le_of_ble_eq_true rfl) JJ ?_ ?_
  · intro u pc l st M k' n' hj
    rw [hJJ] at hj
    obtain ⟨i, rfl, hi, hi2, rfl, rfl, rfl, rfl, rfl, rfl⟩ := hj
    clear hJJ
    refine ⟨_, 60, rfl, rfl, ?_⟩
    have e1 := hT.2.1 i (by omega)
    by_cases hib : i = bF x
    · have : L i = 40 := by rw [hib]; exact hx0.2.2.2.1
      simp (decide := true) (disch := (first | exact eq_false (by decide) | exact eq_true (by decide) | decide | omega)) only [lX10_endOfName_0, lX10_endOfName_7, lX10_endOfName_24, bX10_endOfName_0, bX10_endOfName_7, bX10_endOfName_24, (show qX10_endOfName.2.2.2.1 = (some .int) from rfl), am_rok_int, w_aload_n, w_bipush, w_getfield, w_goto, w_iaload, w_icmp_eq, w_iinc, w_iload_n, w_ireturn, w_istore_n, w_nop, w_swap, sa_61, sa_65, sg_60_1, sg_60_12, cB_40, am_lk0, am_lk1, am_ld_some, am_isI_i, am_isJ_j, am_isR_r, am_st_eq, am_rmv_nil, am_rmv_t, am_rmv_i, am_rmv_r, sf_SH, sj_SH, sf_eq, sf_nk, sf_na, sf_sf, am_args_i, am_args_r, am_args_n, Nat.reduceAdd, List.cons_append, List.nil_append, Option.toList, List.drop_succ_cons, List.drop_zero, am_RP, am_CP, am_PH, Fin.isValue, Fin.val_zero, Fin.val_one, am_f2, am_f3, true_and, and_true, true_implies, false_implies, not_false_eq_true, ne_eq, nI_clampD, nI_leT, nI_leF, nI_ltT, nI_ltF, nI_eqT, nI_eqF, nI_lt0F, nI_0leT, nI_eq0T, nI_eq0F, nI_0ltT, nI_0ltF, nI_le0T, nI_le0F, nI_m1, nI_m1', m1_m1, m1_lt, m1_le, nI_mul, nI_add, nI_sub, nI_add1, nI_dec, nI_div, nI_mod, vp_inD, sf_nkD, sf_eqD, e1.1]
      rw [hib]
    · have h9 := isl_pos (hx0.2.2.1 i hi (by omega))
      simp (decide := true) (disch := (first | exact eq_false (by decide) | exact eq_true (by decide) | decide | omega)) only [lX10_endOfName_0, lX10_endOfName_7, lX10_endOfName_24, bX10_endOfName_0, bX10_endOfName_7, bX10_endOfName_24, (show qX10_endOfName.2.2.2.1 = (some .int) from rfl), am_rok_int, w_aload_n, w_bipush, w_getfield, w_goto, w_iaload, w_icmp_eq, w_iinc, w_iload_n, w_ireturn, w_istore_n, w_nop, w_swap, sa_61, sa_65, sg_60_1, sg_60_12, cB_40, am_lk0, am_lk1, am_ld_some, am_isI_i, am_isJ_j, am_isR_r, am_st_eq, am_rmv_nil, am_rmv_t, am_rmv_i, am_rmv_r, sf_SH, sj_SH, sf_eq, sf_nk, sf_na, sf_sf, am_args_i, am_args_r, am_args_n, Nat.reduceAdd, List.cons_append, List.nil_append, Option.toList, List.drop_succ_cons, List.drop_zero, am_RP, am_CP, am_PH, Fin.isValue, Fin.val_zero, Fin.val_one, am_f2, am_f3, true_and, and_true, true_implies, false_implies, not_false_eq_true, ne_eq, nI_clampD, nI_leT, nI_leF, nI_ltT, nI_ltF, nI_eqT, nI_eqF, nI_lt0F, nI_0leT, nI_eq0T, nI_eq0F, nI_0ltT, nI_0ltF, nI_le0T, nI_le0F, nI_m1, nI_m1', m1_m1, m1_lt, m1_le, nI_mul, nI_add, nI_sub, nI_add1, nI_dec, nI_div, nI_mod, vp_inD, sf_nkD, sf_eqD, e1.1]
      refine ⟨_, _, ?_, ?_, mk (i + 1) (by omega) (by omega)⟩
      · omega
      · (simp (decide := true) only [am_has, am_lk0, am_lk1, and_self, true_and, and_true] <;> first | rfl | (refine ⟨?_, ?_⟩ <;> rfl) | (refine ⟨?_, ?_, ?_⟩ <;> rfl) | (refine ⟨?_, ?_, ?_, ?_⟩ <;> rfl))
  · refine ⟨60, ?_⟩
    simp (decide := true) (disch := (first | exact eq_false (by decide) | exact eq_true (by decide) | decide | omega)) only [lX10_endOfName_0, lX10_endOfName_7, lX10_endOfName_24, bX10_endOfName_0, bX10_endOfName_7, bX10_endOfName_24, (show qX10_endOfName.2.2.2.1 = (some .int) from rfl), am_rok_int, w_aload_n, w_bipush, w_getfield, w_goto, w_iaload, w_icmp_eq, w_iinc, w_iload_n, w_ireturn, w_istore_n, w_nop, w_swap, sa_61, sa_65, sg_60_1, sg_60_12, cB_40, am_lk0, am_lk1, am_ld_some, am_isI_i, am_isJ_j, am_isR_r, am_st_eq, am_rmv_nil, am_rmv_t, am_rmv_i, am_rmv_r, sf_SH, sj_SH, sf_eq, sf_nk, sf_na, sf_sf, am_args_i, am_args_r, am_args_n, Nat.reduceAdd, List.cons_append, List.nil_append, Option.toList, List.drop_succ_cons, List.drop_zero, am_RP, am_CP, am_PH, Fin.isValue, Fin.val_zero, Fin.val_one, am_f2, am_f3, true_and, and_true, true_implies, false_implies, not_false_eq_true, ne_eq, nI_clampD, nI_leT, nI_leF, nI_ltT, nI_ltF, nI_eqT, nI_eqF, nI_lt0F, nI_0leT, nI_eq0T, nI_eq0F, nI_0ltT, nI_0ltF, nI_le0T, nI_le0F, nI_m1, nI_m1', m1_m1, m1_lt, m1_le, nI_mul, nI_add, nI_sub, nI_add1, nI_dec, nI_div, nI_mod, vp_inD, sf_nkD, sf_eqD, h1]
    refine ⟨_, _, ?_, mk (aF x) (Nat.le_refl _) (by omega)⟩
    (simp (decide := true) only [am_has, am_lk0, am_lk1, and_self, true_and, and_true] <;> first | rfl | (refine ⟨?_, ?_⟩ <;> rfl) | (refine ⟨?_, ?_, ?_⟩ <;> rfl) | (refine ⟨?_, ?_, ?_, ?_⟩ <;> rfl))
set_option maxRecDepth 100000 in
set_option maxHeartbeats 400000 in
theorem c_X10_haveOneName (hT : TX 61 L t I) (x y : Fg) (f f' : Nat) (hf : f < 12) (hf' : f' < 12) (h1 : I 65 f = nI (aF x)) (h2 : I 65 f' = nI (aF y)) (hx : LFt L t x) (hy : LFt L t y) :
    am_Ctr g am_mt 1 (h + 2) 145 [.ref 60, .int (nI f), .int (nI f')] (am_SH, I, J) 0 0 (fun r M => r = some (.int (bI (smN L x y))) ∧ M = (am_SH, I, J)) := by
  have ht := hT.1
  have hx0 := hx
  have hy0 := hy
  unfold LFt at hx0 hy0
  obtain ⟨JJ, hJJ⟩ : ∃ JJ : Nat → am_Cut, JJ = (fun u pc l st M k' n' => ∃ i b, u = 100 - i ∧ i ≤ bF x - aF x ∧ (b = true → bF x - aF x = bF y - aF y ∧ ∀ j, j < i → L (aF x + j) = L (aF y + j)) ∧ (b = false → smN L x y = false) ∧ pc = 43 ∧ l = [(0, .ref 60), (3, .int (nI (aF x))), (4, .int (nI (aF y))), (5, .int (bI b)), (6, .int (nI i))] ∧ st = [] ∧ M = (am_SH, I, J) ∧ k' = 0 ∧ n' = 0) := ⟨_, rfl⟩
  have mk : ∀ i b, i ≤ bF x - aF x → (b = true → bF x - aF x = bF y - aF y ∧ ∀ j, j < i → L (aF x + j) = L (aF y + j)) → (b = false → smN L x y = false) → JJ (100 - i) 43 [(0, .ref 60), (3, .int (nI (aF x))), (4, .int (nI (aF y))), (5, .int (bI b)), (6, .int (nI i))] [] (am_SH, I, J) 0 0 := by
    intro i b a1 a2 a3
    rw [hJJ]
    exact ⟨i, b, rfl, a1, a2, a3, rfl, rfl, rfl, rfl, rfl, rfl⟩
  refine am_rule2 (q := qX10_haveOneName) (B := am_blk bX10_haveOneName) rfl rfl kX10_haveOneName nX10_haveOneName (Nat.le_of_ble_eq_true rfl) JJ ?_ ?_
  · intro u pc l st M k' n' hj
    rw [hJJ] at hj
    obtain ⟨i, b, rfl, hi, hbt, hbf, rfl, rfl, rfl, rfl, rfl, rfl⟩ := hj
    clear hJJ
    refine ⟨_, 60, rfl, rfl, ?_⟩
    cases b with
    | false =>
      simp (decide := true) (disch := (first | exact eq_false (by decide) | exact eq_true (by decide) | decide | omega)) only [lX10_haveOneName_0, lX10_haveOneName_37, lX10_haveOneName_38, lX10_haveOneName_43, lX10_haveOneName_88, lX10_haveOneName_89, lX10_haveOneName_97, bX10_haveOneName_0, bX10_haveOneName_37, bX10_haveOneName_38, bX10_haveOneName_43, bX10_haveOneName_88, bX10_haveOneName_89, bX10_haveOneName_97, (show qX10_haveOneName.2.2.2.1 = (some .boolean) from rfl), am_rok_bool, w_aload_n, w_bipush, w_getfield, w_goto, w_iadd, w_iaload, w_icmp_eq, w_icmp_ne, w_iconst, w_if_eq, w_iinc, w_iload, w_iload_n, w_ireturn, w_istore, w_istore_n, w_isub, w_nop, w_swap, sa_61, sa_65, sg_60_1, sg_60_12, cB_40, cI_0, cI_1, am_lk0, am_lk1, am_ld_some, am_isI_i, am_isJ_j, am_isR_r, am_st_eq, am_rmv_nil, am_rmv_t, am_rmv_i, am_rmv_r, sf_SH, sj_SH, sf_eq, sf_nk, sf_na, sf_sf, am_args_i, am_args_r, am_args_n, Nat.reduceAdd, List.cons_append, List.nil_append, Option.toList, List.drop_succ_cons, List.drop_zero, am_RP, am_CP, am_PH, Fin.isValue, Fin.val_zero, Fin.val_one, am_f2, am_f3, true_and, and_true, true_implies, false_implies, not_false_eq_true, ne_eq, nI_clampD, nI_leT, nI_leF, nI_ltT, nI_ltF, nI_eqT, nI_eqF, nI_lt0F, nI_0leT, nI_eq0T, nI_eq0F, nI_0ltT, nI_0ltF, nI_le0T, nI_le0F, nI_m1, nI_m1', m1_m1, m1_lt, m1_le, nI_mul, nI_add, nI_sub, nI_add1, nI_dec, nI_div, nI_mod, vp_inD, sf_nkD, sf_eqD, bI_f, nI0_01]
      rw [hbf rfl]; rfl
    | true =>
      obtain ⟨b1, b2⟩ := hbt rfl
      have e1 := hT.2.1 (aF x + i) (by omega)
      by_cases hib : i = bF x - aF x
      · have : L (aF x + i) = 40 := by rw [hib, show aF x + (bF x - aF x) = bF x by omega]; exact hx0.2.2.2.1
        simp (decide := true) (disch := (first | exact eq_false (by decide) | exact eq_true (by decide) | decide | omega)) only [lX10_haveOneName_0, lX10_haveOneName_37, lX10_haveOneName_38, lX10_haveOneName_43, lX10_haveOneName_88, lX10_haveOneName_89, lX10_haveOneName_97, bX10_haveOneName_0, bX10_haveOneName_37, bX10_haveOneName_38, bX10_haveOneName_43, bX10_haveOneName_88, bX10_haveOneName_89, bX10_haveOneName_97, (show qX10_haveOneName.2.2.2.1 = (some .boolean) from rfl), am_rok_bool, w_aload_n, w_bipush, w_getfield, w_goto, w_iadd, w_iaload, w_icmp_eq, w_icmp_ne, w_iconst, w_if_eq, w_iinc, w_iload, w_iload_n, w_ireturn, w_istore, w_istore_n, w_isub, w_nop, w_swap, sa_61, sa_65, sg_60_1, sg_60_12, cB_40, cI_0, cI_1, am_lk0, am_lk1, am_ld_some, am_isI_i, am_isJ_j, am_isR_r, am_st_eq, am_rmv_nil, am_rmv_t, am_rmv_i, am_rmv_r, sf_SH, sj_SH, sf_eq, sf_nk, sf_na, sf_sf, am_args_i, am_args_r, am_args_n, Nat.reduceAdd, List.cons_append, List.nil_append, Option.toList, List.drop_succ_cons, List.drop_zero, am_RP, am_CP, am_PH, Fin.isValue, Fin.val_zero, Fin.val_one, am_f2, am_f3, true_and, and_true, true_implies, false_implies, not_false_eq_true, ne_eq, nI_clampD, nI_leT, nI_leF, nI_ltT, nI_ltF, nI_eqT, nI_eqF, nI_lt0F, nI_0leT, nI_eq0T, nI_eq0F, nI_0ltT, nI_0ltF, nI_le0T, nI_le0F, nI_m1, nI_m1', m1_m1, m1_lt, m1_le, nI_mul, nI_add, nI_sub, nI_add1, nI_dec, nI_div, nI_mod, vp_inD, sf_nkD, sf_eqD, bI_t, e1.1, nI1_01]
        rw [smN_t b1 (fun k hk => b2 k (by omega))]; rfl
      · have h9 := isl_pos (hx0.2.2.1 (aF x + i) (by omega) (by omega))
        have e2 := hT.2.1 (aF y + i) (by omega)
        by_cases hq : L (aF x + i) = L (aF y + i)
        · simp (decide := true) (disch := (first | exact eq_false (by decide) | exact eq_true (by decide) | decide | omega)) only [lX10_haveOneName_0, lX10_haveOneName_37, lX10_haveOneName_38, lX10_haveOneName_43, lX10_haveOneName_88, lX10_haveOneName_89, lX10_haveOneName_97, bX10_haveOneName_0, bX10_haveOneName_37, bX10_haveOneName_38, bX10_haveOneName_43, bX10_haveOneName_88, bX10_haveOneName_89, bX10_haveOneName_97, (show qX10_haveOneName.2.2.2.1 = (some .boolean) from rfl), am_rok_bool, w_aload_n, w_bipush, w_getfield, w_goto, w_iadd, w_iaload, w_icmp_eq, w_icmp_ne, w_iconst, w_if_eq, w_iinc, w_iload, w_iload_n, w_ireturn, w_istore, w_istore_n, w_isub, w_nop, w_swap, sa_61, sa_65, sg_60_1, sg_60_12, cB_40, cI_0, cI_1, am_lk0, am_lk1, am_ld_some, am_isI_i, am_isJ_j, am_isR_r, am_st_eq, am_rmv_nil, am_rmv_t, am_rmv_i, am_rmv_r, sf_SH, sj_SH, sf_eq, sf_nk, sf_na, sf_sf, am_args_i, am_args_r, am_args_n, Nat.reduceAdd, List.cons_append, List.nil_append, Option.toList, List.drop_succ_cons, List.drop_zero, am_RP, am_CP, am_PH, Fin.isValue, Fin.val_zero, Fin.val_one, am_f2, am_f3, true_and, and_true, true_implies, false_implies, not_false_eq_true, ne_eq, nI_clampD, nI_leT, nI_leF, nI_ltT, nI_ltF, nI_eqT, nI_eqF, nI_lt0F, nI_0leT, nI_eq0T, nI_eq0F, nI_0ltT, nI_0ltF, nI_le0T, nI_le0F, nI_m1, nI_m1', m1_m1, m1_lt, m1_le, nI_mul, nI_add, nI_sub, nI_add1, nI_dec, nI_div, nI_mod, vp_inD, sf_nkD, sf_eqD, bI_t, e1.1, e2.1]
          refine ⟨_, _, ?_, ?_, mk (i + 1) true (by omega) (fun _ => ⟨b1, fun j hj => ?_⟩) (fun h0 => by cases h0)⟩
          · omega
          · (simp (decide := true) only [am_has, am_lk0, am_lk1, and_self, true_and, and_true] <;> first | rfl | (refine ⟨?_, ?_⟩ <;> rfl) | (refine ⟨?_, ?_, ?_⟩ <;> rfl) | (refine ⟨?_, ?_, ?_, ?_⟩ <;> rfl))
          · by_cases hji : j = i
            · rw [hji]; exact hq
            · exact b2 j (by omega)
        · simp (decide := true) (disch := (first | exact eq_false (by decide) | exact eq_true (by decide) | decide | omega)) only [lX10_haveOneName_0, lX10_haveOneName_37, lX10_haveOneName_38, lX10_haveOneName_43, lX10_haveOneName_88, lX10_haveOneName_89, lX10_haveOneName_97, bX10_haveOneName_0, bX10_haveOneName_37, bX10_haveOneName_38, bX10_haveOneName_43, bX10_haveOneName_88, bX10_haveOneName_89, bX10_haveOneName_97, (show qX10_haveOneName.2.2.2.1 = (some .boolean) from rfl), am_rok_bool, w_aload_n, w_bipush, w_getfield, w_goto, w_iadd, w_iaload, w_icmp_eq, w_icmp_ne, w_iconst, w_if_eq, w_iinc, w_iload, w_iload_n, w_ireturn, w_istore, w_istore_n, w_isub, w_nop, w_swap, sa_61, sa_65, sg_60_1, sg_60_12, cB_40, cI_0, cI_1, am_lk0, am_lk1, am_ld_some, am_isI_i, am_isJ_j, am_isR_r, am_st_eq, am_rmv_nil, am_rmv_t, am_rmv_i, am_rmv_r, sf_SH, sj_SH, sf_eq, sf_nk, sf_na, sf_sf, am_args_i, am_args_r, am_args_n, Nat.reduceAdd, List.cons_append, List.nil_append, Option.toList, List.drop_succ_cons, List.drop_zero, am_RP, am_CP, am_PH, Fin.isValue, Fin.val_zero, Fin.val_one, am_f2, am_f3, true_and, and_true, true_implies, false_implies, not_false_eq_true, ne_eq, nI_clampD, nI_leT, nI_leF, nI_ltT, nI_ltF, nI_eqT, nI_eqF, nI_lt0F, nI_0leT, nI_eq0T, nI_eq0F, nI_0ltT, nI_0ltF, nI_le0T, nI_le0F, nI_m1, nI_m1', m1_m1, m1_lt, m1_le, nI_mul, nI_add, nI_sub, nI_add1, nI_dec, nI_div, nI_mod, vp_inD, sf_nkD, sf_eqD, bI_t, e1.1, e2.1]
          refine ⟨_, _, ?_, ?_, mk (i + 1) false (by omega) (fun h0 => by cases h0) (fun _ => Bool.eq_false_iff.mpr (fun h0 => hq ((smN_iff.mp h0).2 i (by omega))))⟩
          · omega
          · (simp (decide := true) only [am_has, am_lk0, am_lk1, and_self, true_and, and_true] <;> first | rfl | (refine ⟨?_, ?_⟩ <;> rfl) | (refine ⟨?_, ?_, ?_⟩ <;> rfl) | (refine ⟨?_, ?_, ?_, ?_⟩ <;> rfl))
  · refine ⟨60, ?_⟩
    simp (decide := true) (disch := (first | exact eq_false (by decide) | exact eq_true (by decide) | decide | omega)) only [lX10_haveOneName_0, lX10_haveOneName_37, lX10_haveOneName_38, lX10_haveOneName_43, lX10_haveOneName_88, lX10_haveOneName_89, lX10_haveOneName_97, bX10_haveOneName_0, bX10_haveOneName_37, bX10_haveOneName_38, bX10_haveOneName_43, bX10_haveOneName_88, bX10_haveOneName_89, bX10_haveOneName_97, (show qX10_haveOneName.2.2.2.1 = (some .boolean) from rfl), am_rok_bool, w_aload_n, w_bipush, w_getfield, w_goto, w_iadd, w_iaload, w_icmp_eq, w_icmp_ne, w_iconst, w_if_eq, w_iinc, w_iload, w_iload_n, w_ireturn, w_istore, w_istore_n, w_isub, w_nop, w_swap, sa_61, sa_65, sg_60_1, sg_60_12, cB_40, cI_0, cI_1, am_lk0, am_lk1, am_ld_some, am_isI_i, am_isJ_j, am_isR_r, am_st_eq, am_rmv_nil, am_rmv_t, am_rmv_i, am_rmv_r, sf_SH, sj_SH, sf_eq, sf_nk, sf_na, sf_sf, am_args_i, am_args_r, am_args_n, Nat.reduceAdd, List.cons_append, List.nil_append, Option.toList, List.drop_succ_cons, List.drop_zero, am_RP, am_CP, am_PH, Fin.isValue, Fin.val_zero, Fin.val_one, am_f2, am_f3, true_and, and_true, true_implies, false_implies, not_false_eq_true, ne_eq, nI_clampD, nI_leT, nI_leF, nI_ltT, nI_ltF, nI_eqT, nI_eqF, nI_lt0F, nI_0leT, nI_eq0T, nI_eq0F, nI_0ltT, nI_0ltF, nI_le0T, nI_le0F, nI_m1, nI_m1', m1_m1, m1_lt, m1_le, nI_mul, nI_add, nI_sub, nI_add1, nI_dec, nI_div, nI_mod, vp_inD, sf_nkD, sf_eqD, h1, h2]
    refine w_virtE (c_X10_endOfName g h I J hT x f hf h1 hx) rfl rfl rfl (of_eq_true so_60) rfl (Nat.le_refl _) (Nat.le_refl _) ?_
    simp (decide := true) (disch := (first | exact eq_false (by decide) | exact eq_true (by decide) | decide | omega)) only [lX10_haveOneName_0, lX10_haveOneName_37, lX10_haveOneName_38, lX10_haveOneName_43, lX10_haveOneName_88, lX10_haveOneName_89, lX10_haveOneName_97, bX10_haveOneName_0, bX10_haveOneName_37, bX10_haveOneName_38, bX10_haveOneName_43, bX10_haveOneName_88, bX10_haveOneName_89, bX10_haveOneName_97, (show qX10_haveOneName.2.2.2.1 = (some .boolean) from rfl), am_rok_bool, w_aload_n, w_bipush, w_getfield, w_goto, w_iadd, w_iaload, w_icmp_eq, w_icmp_ne, w_iconst, w_if_eq, w_iinc, w_iload, w_iload_n, w_ireturn, w_istore, w_istore_n, w_isub, w_nop, w_swap, sa_61, sa_65, sg_60_1, sg_60_12, cB_40, cI_0, cI_1, am_lk0, am_lk1, am_ld_some, am_isI_i, am_isJ_j, am_isR_r, am_st_eq, am_rmv_nil, am_rmv_t, am_rmv_i, am_rmv_r, sf_SH, sj_SH, sf_eq, sf_nk, sf_na, sf_sf, am_args_i, am_args_r, am_args_n, Nat.reduceAdd, List.cons_append, List.nil_append, Option.toList, List.drop_succ_cons, List.drop_zero, am_RP, am_CP, am_PH, Fin.isValue, Fin.val_zero, Fin.val_one, am_f2, am_f3, true_and, and_true, true_implies, false_implies, not_false_eq_true, ne_eq, nI_clampD, nI_leT, nI_leF, nI_ltT, nI_ltF, nI_eqT, nI_eqF, nI_lt0F, nI_0leT, nI_eq0T, nI_eq0F, nI_0ltT, nI_0ltF, nI_le0T, nI_le0F, nI_m1, nI_m1', m1_m1, m1_lt, m1_le, nI_mul, nI_add, nI_sub, nI_add1, nI_dec, nI_div, nI_mod, vp_inD, sf_nkD, sf_eqD]
    refine w_virtE (c_X10_endOfName g h I J hT y f' hf' h2 hy) rfl rfl rfl (of_eq_true so_60) rfl (Nat.le_refl _) (Nat.le_refl _) ?_
    by_cases hl : bF x - aF x = bF y - aF y
    · simp (decide := true) (disch := (first | exact eq_false (by decide) | exact eq_true (by decide) | decide | omega)) only [lX10_haveOneName_0, lX10_haveOneName_37, lX10_haveOneName_38, lX10_haveOneName_43, lX10_haveOneName_88, lX10_haveOneName_89, lX10_haveOneName_97, bX10_haveOneName_0, bX10_haveOneName_37, bX10_haveOneName_38, bX10_haveOneName_43, bX10_haveOneName_88, bX10_haveOneName_89, bX10_haveOneName_97, (show qX10_haveOneName.2.2.2.1 = (some .boolean) from rfl), am_rok_bool, w_aload_n, w_bipush, w_getfield, w_goto, w_iadd, w_iaload, w_icmp_eq, w_icmp_ne, w_iconst, w_if_eq, w_iinc, w_iload, w_iload_n, w_ireturn, w_istore, w_istore_n, w_isub, w_nop, w_swap, sa_61, sa_65, sg_60_1, sg_60_12, cB_40, cI_0, cI_1, am_lk0, am_lk1, am_ld_some, am_isI_i, am_isJ_j, am_isR_r, am_st_eq, am_rmv_nil, am_rmv_t, am_rmv_i, am_rmv_r, sf_SH, sj_SH, sf_eq, sf_nk, sf_na, sf_sf, am_args_i, am_args_r, am_args_n, Nat.reduceAdd, List.cons_append, List.nil_append, Option.toList, List.drop_succ_cons, List.drop_zero, am_RP, am_CP, am_PH, Fin.isValue, Fin.val_zero, Fin.val_one, am_f2, am_f3, true_and, and_true, true_implies, false_implies, not_false_eq_true, ne_eq, nI_clampD, nI_leT, nI_leF, nI_ltT, nI_ltF, nI_eqT, nI_eqF, nI_lt0F, nI_0leT, nI_eq0T, nI_eq0F, nI_0ltT, nI_0ltF, nI_le0T, nI_le0F, nI_m1, nI_m1', m1_m1, m1_lt, m1_le, nI_mul, nI_add, nI_sub, nI_add1, nI_dec, nI_div, nI_mod, vp_inD, sf_nkD, sf_eqD]
      refine ⟨_, _, ?_, mk 0 true (by omega) (fun _ => ⟨hl, fun j hj => absurd hj (Nat.not_lt_zero _)⟩) (fun h0 => by cases h0)⟩
      (simp (decide := true) only [am_has, am_lk0, am_lk1, and_self, true_and, and_true] <;> first | rfl | (refine ⟨?_, ?_⟩ <;> rfl) | (refine ⟨?_, ?_, ?_⟩ <;> rfl) | (refine ⟨?_, ?_, ?_, ?_⟩ <;> rfl))
    · simp (decide := true) (disch := (first | exact eq_false (by decide) | exact eq_true (by decide) | decide | omega)) only [lX10_haveOneName_0, lX10_haveOneName_37, lX10_haveOneName_38, lX10_haveOneName_43, lX10_haveOneName_88, lX10_haveOneName_89, lX10_haveOneName_97, bX10_haveOneName_0, bX10_haveOneName_37, bX10_haveOneName_38, bX10_haveOneName_43, bX10_haveOneName_88, bX10_haveOneName_89, bX10_haveOneName_97, (show qX10_haveOneName.2.2.2.1 = (some .boolean) from rfl), am_rok_bool, w_aload_n, w_bipush, w_getfield, w_goto, w_iadd, w_iaload, w_icmp_eq, w_icmp_ne, w_iconst, w_if_eq, w_iinc, w_iload, w_iload_n, w_ireturn, w_istore, w_istore_n, w_isub, w_nop, w_swap, sa_61, sa_65, sg_60_1, sg_60_12, cB_40, cI_0, cI_1, am_lk0, am_lk1, am_ld_some, am_isI_i, am_isJ_j, am_isR_r, am_st_eq, am_rmv_nil, am_rmv_t, am_rmv_i, am_rmv_r, sf_SH, sj_SH, sf_eq, sf_nk, sf_na, sf_sf, am_args_i, am_args_r, am_args_n, Nat.reduceAdd, List.cons_append, List.nil_append, Option.toList, List.drop_succ_cons, List.drop_zero, am_RP, am_CP, am_PH, Fin.isValue, Fin.val_zero, Fin.val_one, am_f2, am_f3, true_and, and_true, true_implies, false_implies, not_false_eq_true, ne_eq, nI_clampD, nI_leT, nI_leF, nI_ltT, nI_ltF, nI_eqT, nI_eqF, nI_lt0F, nI_0leT, nI_eq0T, nI_eq0F, nI_0ltT, nI_0ltF, nI_le0T, nI_le0F, nI_m1, nI_m1', m1_m1, m1_lt, m1_le, nI_mul, nI_add, nI_sub, nI_add1, nI_dec, nI_div, nI_mod, vp_inD, sf_nkD, sf_eqD]
      refine ⟨_, _, ?_, mk 0 false (by omega) (fun h0 => by cases h0) (fun _ => Bool.eq_false_iff.mpr (fun h0 => hl (smN_iff.mp h0).1))⟩
      (simp (decide := true) only [am_has, am_lk0, am_lk1, and_self, true_and, and_true] <;> first | rfl | (refine ⟨?_, ?_⟩ <;> rfl) | (refine ⟨?_, ?_, ?_⟩ <;> rfl) | (refine ⟨?_, ?_, ?_, ?_⟩ <;> rfl))
set_option maxRecDepth 100000 in
set_option maxHeartbeats 400000 in
theorem c_X10_quantifierOf (hD : RM fs I) (hn : fs.length ≤ 11) (hk6 : ∀ f, f < fs.length → kF (nF fs f) < 6) (hv6 : ∀ f, f < fs.length → vF (nF fs f) < 6) (v : Nat) (hv : v < 100) :
    am_Ctr g am_mt 1 (h + 2) 146 [.ref 60, .int (nI v)] (am_SH, I, J) 0 0 (fun r M => r = some (.int (wI (qof fs v fs.length))) ∧ M = (am_SH, I, J)) := by
  have h6 : I 60 6 = nI fs.length := hD.1
  generalize hb : fs.length = b at *
  obtain ⟨JJ, hJJ⟩ : ∃ JJ : Nat → am_Cut, JJ = (fun u pc l st M k' n' => ∃ i, u = b - i ∧ i ≤ b ∧ qof fs v i = 0 ∧ pc = 2 ∧ l = [(0, .ref 60), (1, .int (nI v)), (2, .int (nI i))] ∧ st = [] ∧ M = (am_SH, I, J) ∧ k' = 0 ∧ n' = 0) := ⟨_, rfl⟩
  have mk : ∀ i, i ≤ b → qof fs v i = 0 → JJ (b - i) 2 [(0, .ref 60), (1, .int (nI v)), (2, .int (nI i))] [] (am_SH, I, J) 0 0 := by
    intro i a1 a2
    rw [hJJ]
    exact ⟨i, rfl, a1, a2, rfl, rfl, rfl, rfl, rfl, rfl⟩
  refine am_rule2 (q := qX10_quantifierOf) (B := am_blk bX10_quantifierOf) rfl rfl kX10_quantifierOf nX10_quantifierOf (Nat.le_of_ble_eq_true rfl) JJ ?_ ?_
  · intro u pc l st M k' n' hj
    rw [hJJ] at hj
    obtain ⟨i, rfl, hi, hq, rfl, rfl, rfl, rfl, rfl, rfl⟩ := hj
    clear hJJ
    refine ⟨_, 60, rfl, rfl, ?_⟩
    by_cases hib : i = b
    · subst hib
      simp (decide := true) (disch := (first | exact eq_false (by decide) | exact eq_true (by decide) | decide | omega)) only [lX10_quantifierOf_0, lX10_quantifierOf_2, lX10_quantifierOf_36, lX10_quantifierOf_42, bX10_quantifierOf_0, bX10_quantifierOf_2, bX10_quantifierOf_36, bX10_quantifierOf_42, (show qX10_quantifierOf.2.2.2.1 = (some .int) from rfl), am_rok_int, w_aload_n, w_getfield, w_goto, w_iaload, w_icmp_ge, w_icmp_ne, w_iconst, w_if_eq, w_iinc, w_iload_n, w_ireturn, w_istore_n, w_nop, w_swap, sa_62, sa_63, sg_60_10, sg_60_6, sg_60_9, cI_0, cI_1, cI_4, cI_m1, am_lk0, am_lk1, am_ld_some, am_isI_i, am_isJ_j, am_isR_r, am_st_eq, am_rmv_nil, am_rmv_t, am_rmv_i, am_rmv_r, sf_SH, sj_SH, sf_eq, sf_nk, sf_na, sf_sf, am_args_i, am_args_r, am_args_n, Nat.reduceAdd, List.cons_append, List.nil_append, Option.toList, List.drop_succ_cons, List.drop_zero, am_RP, am_CP, am_PH, Fin.isValue, Fin.val_zero, Fin.val_one, am_f2, am_f3, true_and, and_true, true_implies, false_implies, not_false_eq_true, ne_eq, nI_clampD, nI_leT, nI_leF, nI_ltT, nI_ltF, nI_eqT, nI_eqF, nI_lt0F, nI_0leT, nI_eq0T, nI_eq0F, nI_0ltT, nI_0ltF, nI_le0T, nI_le0F, nI_m1, nI_m1', m1_m1, m1_lt, m1_le, nI_mul, nI_add, nI_sub, nI_add1, nI_dec, nI_div, nI_mod, vp_inD, sf_nkD, sf_eqD, h6]
      rw [hq]; rfl
    · have hkf := (hD.2 i (by omega)).1
      have hk6' := hk6 i (by omega)
      have hv6' := hv6 i (by omega)
      simp (decide := true) (disch := (first | exact eq_false (by decide) | exact eq_true (by decide) | decide | omega)) only [lX10_quantifierOf_0, lX10_quantifierOf_2, lX10_quantifierOf_36, lX10_quantifierOf_42, bX10_quantifierOf_0, bX10_quantifierOf_2, bX10_quantifierOf_36, bX10_quantifierOf_42, (show qX10_quantifierOf.2.2.2.1 = (some .int) from rfl), am_rok_int, w_aload_n, w_getfield, w_goto, w_iaload, w_icmp_ge, w_icmp_ne, w_iconst, w_if_eq, w_iinc, w_iload_n, w_ireturn, w_istore_n, w_nop, w_swap, sa_62, sa_63, sg_60_10, sg_60_6, sg_60_9, cI_0, cI_1, cI_4, cI_m1, am_lk0, am_lk1, am_ld_some, am_isI_i, am_isJ_j, am_isR_r, am_st_eq, am_rmv_nil, am_rmv_t, am_rmv_i, am_rmv_r, sf_SH, sj_SH, sf_eq, sf_nk, sf_na, sf_sf, am_args_i, am_args_r, am_args_n, Nat.reduceAdd, List.cons_append, List.nil_append, Option.toList, List.drop_succ_cons, List.drop_zero, am_RP, am_CP, am_PH, Fin.isValue, Fin.val_zero, Fin.val_one, am_f2, am_f3, true_and, and_true, true_implies, false_implies, not_false_eq_true, ne_eq, nI_clampD, nI_leT, nI_leF, nI_ltT, nI_ltF, nI_eqT, nI_eqF, nI_lt0F, nI_0leT, nI_eq0T, nI_eq0F, nI_0ltT, nI_0ltF, nI_le0T, nI_le0F, nI_m1, nI_m1', m1_m1, m1_lt, m1_le, nI_mul, nI_add, nI_sub, nI_add1, nI_dec, nI_div, nI_mod, vp_inD, sf_nkD, sf_eqD, h6, hkf]
      refine w_statE (c_X10_in g h I J _ _ _) (by decide) rfl rfl rfl (Nat.le_refl _) (Nat.le_refl _) ?_
      rw [in_nI (by omega) (by decide) (by decide), ← decide_eq_decide.mpr (Iff.of_eq (rk2 hk6'))]
      by_cases h1 : rk (kF (nF fs i)) = 2
      · have hvf := ((hD.2 i (by omega)).2.1 h1).1
        rw [decide_eq_true h1]
        by_cases h2 : vF (nF fs i) = v
        · simp (decide := true) (disch := (first | exact eq_false (by decide) | exact eq_true (by decide) | decide | omega)) only [lX10_quantifierOf_0, lX10_quantifierOf_2, lX10_quantifierOf_36, lX10_quantifierOf_42, bX10_quantifierOf_0, bX10_quantifierOf_2, bX10_quantifierOf_36, bX10_quantifierOf_42, (show qX10_quantifierOf.2.2.2.1 = (some .int) from rfl), am_rok_int, w_aload_n, w_getfield, w_goto, w_iaload, w_icmp_ge, w_icmp_ne, w_iconst, w_if_eq, w_iinc, w_iload_n, w_ireturn, w_istore_n, w_nop, w_swap, sa_62, sa_63, sg_60_10, sg_60_6, sg_60_9, cI_0, cI_1, cI_4, cI_m1, am_lk0, am_lk1, am_ld_some, am_isI_i, am_isJ_j, am_isR_r, am_st_eq, am_rmv_nil, am_rmv_t, am_rmv_i, am_rmv_r, sf_SH, sj_SH, sf_eq, sf_nk, sf_na, sf_sf, am_args_i, am_args_r, am_args_n, Nat.reduceAdd, List.cons_append, List.nil_append, Option.toList, List.drop_succ_cons, List.drop_zero, am_RP, am_CP, am_PH, Fin.isValue, Fin.val_zero, Fin.val_one, am_f2, am_f3, true_and, and_true, true_implies, false_implies, not_false_eq_true, ne_eq, nI_clampD, nI_leT, nI_leF, nI_ltT, nI_ltF, nI_eqT, nI_eqF, nI_lt0F, nI_0leT, nI_eq0T, nI_eq0F, nI_0ltT, nI_0ltF, nI_le0T, nI_le0F, nI_m1, nI_m1', m1_m1, m1_lt, m1_le, nI_mul, nI_add, nI_sub, nI_add1, nI_dec, nI_div, nI_mod, vp_inD, sf_nkD, sf_eqD, bI_t, hvf]
          have hqs : qof fs v (i + 1) = i + 1 := by
            unfold qof
            rw [if_neg (by omega), if_pos ⟨h1, h2⟩]
          have : ∀ j, i + 1 ≤ j → qof fs v j = i + 1 := by
            intro j
            induction j with
            | zero => intro h0; omega
            | succ j ih =>
              intro h0
              by_cases hj : j = i
              · rw [hj]; exact hqs
              · have := ih (by omega)
                unfold qof
                rw [if_pos (by omega), this]
          rw [this b (by omega)]
          rfl
        · simp (decide := true) (disch := (first | exact eq_false (by decide) | exact eq_true (by decide) | decide | omega)) only [lX10_quantifierOf_0, lX10_quantifierOf_2, lX10_quantifierOf_36, lX10_quantifierOf_42, bX10_quantifierOf_0, bX10_quantifierOf_2, bX10_quantifierOf_36, bX10_quantifierOf_42, (show qX10_quantifierOf.2.2.2.1 = (some .int) from rfl), am_rok_int, w_aload_n, w_getfield, w_goto, w_iaload, w_icmp_ge, w_icmp_ne, w_iconst, w_if_eq, w_iinc, w_iload_n, w_ireturn, w_istore_n, w_nop, w_swap, sa_62, sa_63, sg_60_10, sg_60_6, sg_60_9, cI_0, cI_1, cI_4, cI_m1, am_lk0, am_lk1, am_ld_some, am_isI_i, am_isJ_j, am_isR_r, am_st_eq, am_rmv_nil, am_rmv_t, am_rmv_i, am_rmv_r, sf_SH, sj_SH, sf_eq, sf_nk, sf_na, sf_sf, am_args_i, am_args_r, am_args_n, Nat.reduceAdd, List.cons_append, List.nil_append, Option.toList, List.drop_succ_cons, List.drop_zero, am_RP, am_CP, am_PH, Fin.isValue, Fin.val_zero, Fin.val_one, am_f2, am_f3, true_and, and_true, true_implies, false_implies, not_false_eq_true, ne_eq, nI_clampD, nI_leT, nI_leF, nI_ltT, nI_ltF, nI_eqT, nI_eqF, nI_lt0F, nI_0leT, nI_eq0T, nI_eq0F, nI_0ltT, nI_0ltF, nI_le0T, nI_le0F, nI_m1, nI_m1', m1_m1, m1_lt, m1_le, nI_mul, nI_add, nI_sub, nI_add1, nI_dec, nI_div, nI_mod, vp_inD, sf_nkD, sf_eqD, bI_t, hvf]
          refine ⟨_, _, ?_, ?_, mk (i + 1) (by omega) ?_⟩
          · omega
          · (simp (decide := true) only [am_has, am_lk0, am_lk1, and_self, true_and, and_true] <;> first | rfl | (refine ⟨?_, ?_⟩ <;> rfl) | (refine ⟨?_, ?_, ?_⟩ <;> rfl) | (refine ⟨?_, ?_, ?_, ?_⟩ <;> rfl))
          · unfold qof
            rw [if_neg (by omega), if_neg (fun h0 => h2 h0.2)]
      · rw [decide_eq_false h1]
        simp (decide := true) (disch := (first | exact eq_false (by decide) | exact eq_true (by decide) | decide | omega)) only [lX10_quantifierOf_0, lX10_quantifierOf_2, lX10_quantifierOf_36, lX10_quantifierOf_42, bX10_quantifierOf_0, bX10_quantifierOf_2, bX10_quantifierOf_36, bX10_quantifierOf_42, (show qX10_quantifierOf.2.2.2.1 = (some .int) from rfl), am_rok_int, w_aload_n, w_getfield, w_goto, w_iaload, w_icmp_ge, w_icmp_ne, w_iconst, w_if_eq, w_iinc, w_iload_n, w_ireturn, w_istore_n, w_nop, w_swap, sa_62, sa_63, sg_60_10, sg_60_6, sg_60_9, cI_0, cI_1, cI_4, cI_m1, am_lk0, am_lk1, am_ld_some, am_isI_i, am_isJ_j, am_isR_r, am_st_eq, am_rmv_nil, am_rmv_t, am_rmv_i, am_rmv_r, sf_SH, sj_SH, sf_eq, sf_nk, sf_na, sf_sf, am_args_i, am_args_r, am_args_n, Nat.reduceAdd, List.cons_append, List.nil_append, Option.toList, List.drop_succ_cons, List.drop_zero, am_RP, am_CP, am_PH, Fin.isValue, Fin.val_zero, Fin.val_one, am_f2, am_f3, true_and, and_true, true_implies, false_implies, not_false_eq_true, ne_eq, nI_clampD, nI_leT, nI_leF, nI_ltT, nI_ltF, nI_eqT, nI_eqF, nI_lt0F, nI_0leT, nI_eq0T, nI_eq0F, nI_0ltT, nI_0ltF, nI_le0T, nI_le0F, nI_m1, nI_m1', m1_m1, m1_lt, m1_le, nI_mul, nI_add, nI_sub, nI_add1, nI_dec, nI_div, nI_mod, vp_inD, sf_nkD, sf_eqD, bI_f]
        refine ⟨_, _, ?_, ?_, mk (i + 1) (by omega) ?_⟩
        · omega
        · (simp (decide := true) only [am_has, am_lk0, am_lk1, and_self, true_and, and_true] <;> first | rfl | (refine ⟨?_, ?_⟩ <;> rfl) | (refine ⟨?_, ?_, ?_⟩ <;> rfl) | (refine ⟨?_, ?_, ?_, ?_⟩ <;> rfl))
        · unfold qof
          rw [if_neg (by omega), if_neg (fun h0 => h1 h0.1)]
  · refine ⟨60, ?_⟩
    simp (decide := true) (disch := (first | exact eq_false (by decide) | exact eq_true (by decide) | decide | omega)) only [lX10_quantifierOf_0, lX10_quantifierOf_2, lX10_quantifierOf_36, lX10_quantifierOf_42, bX10_quantifierOf_0, bX10_quantifierOf_2, bX10_quantifierOf_36, bX10_quantifierOf_42, (show qX10_quantifierOf.2.2.2.1 = (some .int) from rfl), am_rok_int, w_aload_n, w_getfield, w_goto, w_iaload, w_icmp_ge, w_icmp_ne, w_iconst, w_if_eq, w_iinc, w_iload_n, w_ireturn, w_istore_n, w_nop, w_swap, sa_62, sa_63, sg_60_10, sg_60_6, sg_60_9, cI_0, cI_1, cI_4, cI_m1, am_lk0, am_lk1, am_ld_some, am_isI_i, am_isJ_j, am_isR_r, am_st_eq, am_rmv_nil, am_rmv_t, am_rmv_i, am_rmv_r, sf_SH, sj_SH, sf_eq, sf_nk, sf_na, sf_sf, am_args_i, am_args_r, am_args_n, Nat.reduceAdd, List.cons_append, List.nil_append, Option.toList, List.drop_succ_cons, List.drop_zero, am_RP, am_CP, am_PH, Fin.isValue, Fin.val_zero, Fin.val_one, am_f2, am_f3, true_and, and_true, true_implies, false_implies, not_false_eq_true, ne_eq, nI_clampD, nI_leT, nI_leF, nI_ltT, nI_ltF, nI_eqT, nI_eqF, nI_lt0F, nI_0leT, nI_eq0T, nI_eq0F, nI_0ltT, nI_0ltF, nI_le0T, nI_le0F, nI_m1, nI_m1', m1_m1, m1_lt, m1_le, nI_mul, nI_add, nI_sub, nI_add1, nI_dec, nI_div, nI_mod, vp_inD, sf_nkD, sf_eqD]
    refine ⟨_, _, ?_, mk 0 (by omega) rfl⟩
    (simp (decide := true) only [am_has, am_lk0, am_lk1, and_self, true_and, and_true] <;> first | rfl | (refine ⟨?_, ?_⟩ <;> rfl) | (refine ⟨?_, ?_, ?_⟩ <;> rfl) | (refine ⟨?_, ?_, ?_, ?_⟩ <;> rfl))
set_option maxRecDepth 100000 in
set_option maxHeartbeats 400000 in
theorem c_X10_finds (b : Bool) (m p : Nat) (hm : m ≤ 200) (hp : p < 200) :
    am_Ctr g am_mt 1 (h + 1) 147 [.ref 60, .int (bI b), .int (nI p)] (am_SH, sf I 60 15 (wI m), J) 0 0 (fun r M => r = none ∧ M = (am_SH, sf I 60 15 (wI (fnd m b p)), J)) := by
  refine am_rule0 (q := qX10_finds) (B := am_blk bX10_finds) 40 rfl rfl kX10_finds nX10_finds (Nat.le_of_ble_eq_true rfl) ?_
  unfold fnd
  cases b with
  | false =>
    rw [if_neg (fun h0 => by cases h0.1)]
    simp (decide := true) (disch := (first | exact eq_false (by decide) | exact eq_true (by decide) | decide | omega)) only [lX10_finds_0, lX10_finds_20, lX10_finds_24, lX10_finds_28, bX10_finds_0, bX10_finds_20, bX10_finds_24, bX10_finds_28, (show qX10_finds.2.2.2.1 = none from rfl), am_rok_none, w_aload_n, w_getfield, w_goto, w_icmp_ge, w_if_eq, w_if_lt, w_iload_n, w_puti, w_return, w_swap, sg_60_15, sp_60_15, am_lk0, am_lk1, am_ld_some, am_isI_i, am_isJ_j, am_isR_r, am_st_eq, am_rmv_nil, am_rmv_t, am_rmv_i, am_rmv_r, sf_SH, sj_SH, sf_eq, sf_nk, sf_na, sf_sf, am_args_i, am_args_r, am_args_n, Nat.reduceAdd, List.cons_append, List.nil_append, Option.toList, List.drop_succ_cons, List.drop_zero, am_RP, am_CP, am_PH, Fin.isValue, Fin.val_zero, Fin.val_one, am_f2, am_f3, true_and, and_true, true_implies, false_implies, not_false_eq_true, ne_eq, nI_clampD, nI_leT, nI_leF, nI_ltT, nI_ltF, nI_eqT, nI_eqF, nI_lt0F, nI_0leT, nI_eq0T, nI_eq0F, nI_0ltT, nI_0ltF, nI_le0T, nI_le0F, nI_m1, nI_m1', m1_m1, m1_lt, m1_le, nI_mul, nI_add, nI_sub, nI_add1, nI_dec, nI_div, nI_mod, vp_inD, sf_nkD, sf_eqD, bI_f]
  | true =>
    by_cases h0 : m = 0
    · rw [if_pos ⟨rfl, Or.inl h0⟩, h0, show wI (p + 1) = nI p from rfl]
      simp (decide := true) (disch := (first | exact eq_false (by decide) | exact eq_true (by decide) | decide | omega)) only [lX10_finds_0, lX10_finds_20, lX10_finds_24, lX10_finds_28, bX10_finds_0, bX10_finds_20, bX10_finds_24, bX10_finds_28, (show qX10_finds.2.2.2.1 = none from rfl), am_rok_none, w_aload_n, w_getfield, w_goto, w_icmp_ge, w_if_eq, w_if_lt, w_iload_n, w_puti, w_return, w_swap, sg_60_15, sp_60_15, am_lk0, am_lk1, am_ld_some, am_isI_i, am_isJ_j, am_isR_r, am_st_eq, am_rmv_nil, am_rmv_t, am_rmv_i, am_rmv_r, sf_SH, sj_SH, sf_eq, sf_nk, sf_na, sf_sf, am_args_i, am_args_r, am_args_n, Nat.reduceAdd, List.cons_append, List.nil_append, Option.toList, List.drop_succ_cons, List.drop_zero, am_RP, am_CP, am_PH, Fin.isValue, Fin.val_zero, Fin.val_one, am_f2, am_f3, true_and, and_true, true_implies, false_implies, not_false_eq_true, ne_eq, nI_clampD, nI_leT, nI_leF, nI_ltT, nI_ltF, nI_eqT, nI_eqF, nI_lt0F, nI_0leT, nI_eq0T, nI_eq0F, nI_0ltT, nI_0ltF, nI_le0T, nI_le0F, nI_m1, nI_m1', m1_m1, m1_lt, m1_le, nI_mul, nI_add, nI_sub, nI_add1, nI_dec, nI_div, nI_mod, vp_inD, sf_nkD, sf_eqD, bI_t, wI_lt0t, Nat.add_sub_cancel]
    · by_cases h1 : p + 1 < m
      · rw [if_pos ⟨rfl, Or.inr h1⟩, wI_p (w := m) (by omega), show wI (p + 1) = nI p from rfl]
        simp (decide := true) (disch := (first | exact eq_false (by decide) | exact eq_true (by decide) | decide | omega)) only [lX10_finds_0, lX10_finds_20, lX10_finds_24, lX10_finds_28, bX10_finds_0, bX10_finds_20, bX10_finds_24, bX10_finds_28, (show qX10_finds.2.2.2.1 = none from rfl), am_rok_none, w_aload_n, w_getfield, w_goto, w_icmp_ge, w_if_eq, w_if_lt, w_iload_n, w_puti, w_return, w_swap, sg_60_15, sp_60_15, am_lk0, am_lk1, am_ld_some, am_isI_i, am_isJ_j, am_isR_r, am_st_eq, am_rmv_nil, am_rmv_t, am_rmv_i, am_rmv_r, sf_SH, sj_SH, sf_eq, sf_nk, sf_na, sf_sf, am_args_i, am_args_r, am_args_n, Nat.reduceAdd, List.cons_append, List.nil_append, Option.toList, List.drop_succ_cons, List.drop_zero, am_RP, am_CP, am_PH, Fin.isValue, Fin.val_zero, Fin.val_one, am_f2, am_f3, true_and, and_true, true_implies, false_implies, not_false_eq_true, ne_eq, nI_clampD, nI_leT, nI_leF, nI_ltT, nI_ltF, nI_eqT, nI_eqF, nI_lt0F, nI_0leT, nI_eq0T, nI_eq0F, nI_0ltT, nI_0ltF, nI_le0T, nI_le0F, nI_m1, nI_m1', m1_m1, m1_lt, m1_le, nI_mul, nI_add, nI_sub, nI_add1, nI_dec, nI_div, nI_mod, vp_inD, sf_nkD, sf_eqD, bI_t, Nat.add_sub_cancel]
      · rw [if_neg (by omega), wI_p (w := m) (by omega)]
        simp (decide := true) (disch := (first | exact eq_false (by decide) | exact eq_true (by decide) | decide | omega)) only [lX10_finds_0, lX10_finds_20, lX10_finds_24, lX10_finds_28, bX10_finds_0, bX10_finds_20, bX10_finds_24, bX10_finds_28, (show qX10_finds.2.2.2.1 = none from rfl), am_rok_none, w_aload_n, w_getfield, w_goto, w_icmp_ge, w_if_eq, w_if_lt, w_iload_n, w_puti, w_return, w_swap, sg_60_15, sp_60_15, am_lk0, am_lk1, am_ld_some, am_isI_i, am_isJ_j, am_isR_r, am_st_eq, am_rmv_nil, am_rmv_t, am_rmv_i, am_rmv_r, sf_SH, sj_SH, sf_eq, sf_nk, sf_na, sf_sf, am_args_i, am_args_r, am_args_n, Nat.reduceAdd, List.cons_append, List.nil_append, Option.toList, List.drop_succ_cons, List.drop_zero, am_RP, am_CP, am_PH, Fin.isValue, Fin.val_zero, Fin.val_one, am_f2, am_f3, true_and, and_true, true_implies, false_implies, not_false_eq_true, ne_eq, nI_clampD, nI_leT, nI_leF, nI_ltT, nI_ltF, nI_eqT, nI_eqF, nI_lt0F, nI_0leT, nI_eq0T, nI_eq0F, nI_0ltT, nI_0ltF, nI_le0T, nI_le0F, nI_m1, nI_m1', m1_m1, m1_lt, m1_le, nI_mul, nI_add, nI_sub, nI_add1, nI_dec, nI_div, nI_mod, vp_inD, sf_nkD, sf_eqD, bI_t, Nat.add_sub_cancel]
end MU1
