/-! the reference's truth -/
def nQ (fs : List Fg) (k : Nat) : Nat := (List.range k).countP (fun f => decide (rk (kF (nF fs f)) = 2))
theorem nQ_s (fs : List Fg) (k : Nat) : nQ fs (k + 1) = nQ fs k + (if rk (kF (nF fs k)) = 2 then 1 else 0) := by
  unfold nQ
  rw [List.range_succ, List.countP_append, List.countP_singleton]
  congr 1
  by_cases h : rk (kF (nF fs k)) = 2
  · rw [if_pos h, if_pos (decide_eq_true h)]
  · rw [if_neg h, if_neg (by rw [decide_eq_false h]; decide)]
theorem nQ_mono (fs : List Fg) {a : Nat} : ∀ {b : Nat}, a ≤ b → nQ fs a ≤ nQ fs b
  | 0, h => by rw [show a = 0 by omega]; exact Nat.le_refl _
  | b + 1, h => by
    by_cases hab : a = b + 1
    · rw [hab]; exact Nat.le_refl _
    · have h1 := nQ_mono fs (a := a) (b := b) (by omega)
      rw [nQ_s]; omega
theorem nQ_4 {L : Nat → Nat} {t : Nat} {fs : List Fg} (hG : Good L t fs) : nQ fs fs.length ≤ 4 := by
  have e : nQ fs fs.length = fs.countP (fun x => decide (rk (kF x) = 2)) := by
    unfold nQ
    conv => rhs; rw [← nF_map fs, List.countP_map]
    rfl
  have h4 := hG.2.2.1
  unfold cQ at h4
  omega
theorem nQ_3 {L : Nat → Nat} {t : Nat} {fs : List Fg} (hG : Good L t fs) {q : Nat} (hq : q < fs.length) (hk : rk (kF (nF fs q)) = 2) : nQ fs q ≤ 3 := by
  have h1 := nQ_4 hG
  have h2 := nQ_mono fs (show q + 1 ≤ fs.length by omega)
  rw [nQ_s, if_pos hk] at h2
  omega
theorem nQ_inj {L : Nat → Nat} {t : Nat} {fs : List Fg} (hG : Good L t fs) {q q' : Nat} (hk : rk (kF (nF fs q)) = 2) (hk' : rk (kF (nF fs q')) = 2) (h : nQ fs q = nQ fs q') : q = q' := by
  rcases Nat.lt_trichotomy q q' with h9 | h9 | h9
  · have h2 := nQ_mono fs (show q + 1 ≤ q' by omega)
    rw [nQ_s, if_pos hk] at h2
    omega
  · exact h9
  · have h2 := nQ_mono fs (show q' + 1 ≤ q by omega)
    rw [nQ_s, if_pos hk'] at h2
    omega
def wtV (fs : List Fg) (v : Nat) : Nat := 3 ^ nQ fs (qof fs v fs.length - 1)
def eV (fs : List Fg) (vals v : Nat) : Nat := vals / wtV fs v % 3
theorem dgt : ∀ a, a < 4 → ∀ b, b < 4 → ∀ vals, vals < 81 → ∀ d, d < 3 → (vals - vals / 3 ^ a % 3 * 3 ^ a + d * 3 ^ a) / 3 ^ b % 3 = (if b = a then d else vals / 3 ^ b % 3) ∧ vals - vals / 3 ^ a % 3 * 3 ^ a + d * 3 ^ a < 81 ∧ vals / 3 ^ a % 3 * 3 ^ a ≤ vals := by
  intro a ha b hb vals hv d hd
  have ha4 : a = 0 ∨ a = 1 ∨ a = 2 ∨ a = 3 := by omega
  have hb4 : b = 0 ∨ b = 1 ∨ b = 2 ∨ b = 3 := by omega
  rcases ha4 with rfl | rfl | rfl | rfl <;> rcases hb4 with rfl | rfl | rfl | rfl <;> (simp (decide := true) only [Nat.reducePow, if_true, if_false, reduceIte]; omega)
theorem wt_q {L : Nat → Nat} {fs : List Fg} (hU : Usd L fs) {q : Nat} (hq : q < fs.length) (hk : rk (kF (nF fs q)) = 2) : wtV fs (vF (nF fs q)) = 3 ^ nQ fs q := by
  have h0 : qof fs (vF (nF fs q)) q = 0 := Classical.byContradiction fun h9 => by
    obtain ⟨q', h1, h2, h3⟩ := qof_some h9
    have := hU.1 q' q (by omega) hq h2 hk h3
    omega
  have h1 := (qof_first hk rfl fs.length hq).mpr h0
  unfold wtV
  rw [h1]
  rfl
theorem eV_up {L : Nat → Nat} {t : Nat} {fs : List Fg} (hG : Good L t fs) (hU : Usd L fs) {q vals d : Nat} (hq : q < fs.length) (hk : rk (kF (nF fs q)) = 2) (hv : vals < 81) (hd : d < 3) : ∀ v, bdV fs v → eV fs (vals - vals / 3 ^ nQ fs q % 3 * 3 ^ nQ fs q + d * 3 ^ nQ fs q) v = upE (eV fs vals) (vF (nF fs q)) d v := by
  rintro v ⟨q', h1, h2, rfl⟩
  have a1 := nQ_3 hG hq hk
  have a2 := nQ_3 hG h1 h2
  have h3 := (dgt (nQ fs q) (by omega) (nQ fs q') (by omega) vals hv d hd).1
  unfold eV upE
  rw [wt_q hU h1 h2, h3]
  by_cases hqq : q' = q
  · rw [if_pos (by rw [hqq]), if_pos (by rw [hqq])]
  · rw [if_neg (fun h9 => hqq (nQ_inj hG h2 hk h9)), if_neg (fun h9 => hqq (hU.1 q' q h1 hq h2 hk h9))]
    show _ = vals / wtV fs (vF (nF fs q')) % 3
    rw [wt_q hU h1 h2]
section MT2
variable (g : am_G) (h : Nat) (I : Nat → Nat → Int32) (J : Nat → Nat → Int64) {L : Nat → Nat} {t : Nat} {fs : List Fg} {fc : Nat → Bool} {dm : Nat}
set_option maxRecDepth 100000 in
set_option maxHeartbeats 8000000 in
theorem c_X10_weightOf (hS : SMd L t fs I) (hG : Good L t fs) (hU : Usd L fs) (v : Nat) (hv : bdV fs v) (hv6 : v < 6) :
    am_Ctr g am_mt 1 (h + 3) 204 [.ref 60, .int (nI v)] (am_SH, I, J) 0 0 (fun r M => r = some (.int (nI (wtV fs v))) ∧ M = (am_SH, I, J)) := by
  obtain ⟨q, h1, h2, h3⟩ := hv
  have hn := hG.le
  have h16 : I 60 16 = nI fs.length := hS.1
  subst h3
  rw [wt_q hU h1 h2]
  have hq3 := nQ_3 hG h1 h2
  obtain ⟨JJ, hJJ⟩ : ∃ JJ : Nat → am_Cut, JJ = (fun zu zpc zl zst zM zk zn => (∃ (f w : Nat), zu = q + 1 - f ∧ (f ≤ q ∧ w = 3 ^ nQ fs f) ∧ zpc = 4 ∧ zl = [(0, .ref 60), (1, .int (nI (vF (nF fs q)))), (2, .int (nI w)), (3, .int (nI f))] ∧ zst = [] ∧ zM = (am_SH, I, J) ∧ zk = 0 ∧ zn = 0)) := ⟨_, rfl⟩
  have mk : ∀ (f w : Nat), (f ≤ q ∧ w = 3 ^ nQ fs f) → JJ (q + 1 - f) 4 [(0, .ref 60), (1, .int (nI (vF (nF fs q)))), (2, .int (nI w)), (3, .int (nI f))] [] (am_SH, I, J) 0 0 := by
    intro f w a0
    rw [hJJ]
    exact ⟨f, w, rfl, a0, rfl, rfl, rfl, rfl, rfl, rfl⟩
  refine am_rule2 (q := qX10_weightOf) (B := am_blk bX10_weightOf) rfl rfl kX10_weightOf nX10_weightOf (Nat.le_of_ble_eq_true rfl) JJ (fun zu zpc zl zst zM zk zn hj => ?_) ?_
  rotate_left
  · refine ⟨60, ?_⟩
    simp (decide := true) (disch := (first | exact eq_false (by decide) | exact eq_true (by decide) | decide | omega)) only [lX10_weightOf_0, lX10_weightOf_4, lX10_weightOf_32, lX10_weightOf_36, lX10_weightOf_42, bX10_weightOf_0, bX10_weightOf_4, bX10_weightOf_32, bX10_weightOf_36, bX10_weightOf_42, (show qX10_weightOf.2.2.2.1 = (some .int) from rfl), am_rok_int, w_aload_n, w_getfield, w_goto, w_iaload, w_icmp_ge, w_icmp_ne, w_iconst, w_if_eq, w_iinc, w_iload_n, w_imul, w_ireturn, w_istore_n, w_nop, w_swap, sa_69, sg_60_16, sg_60_18, cI_0, cI_1, cI_3, am_lk0, am_lk1, am_ld_some, am_isI_i, am_isJ_j, am_isR_r, am_st_eq, am_rmv_nil, am_rmv_t, am_rmv_i, am_rmv_r, sf_SH, sj_SH, sf_eq, sf_nk, sf_na, sf_sf, am_args_i, am_args_r, am_args_n, Nat.reduceAdd, List.cons_append, List.nil_append, Option.toList, List.drop_succ_cons, List.drop_zero, am_RP, am_CP, am_PH, Fin.isValue, Fin.val_zero, Fin.val_one, am_f2, am_f3, true_and, and_true, true_implies, false_implies, not_false_eq_true, ne_eq, nI_clampD, nI_leT, nI_leF, nI_ltT, nI_ltF, nI_eqT, nI_eqF, nI_lt0F, nI_0leT, nI_eq0T, nI_eq0F, nI_0ltT, nI_0ltF, nI_le0T, nI_le0F, nI_m1, nI_m1', m1_m1, m1_lt, m1_le, nI_mul, nI_add, nI_sub, nI_add1, nI_dec, nI_div, nI_mod, vp_inD, sf_nkD, sf_eqD]
    refine ⟨_, _, ?_, mk 0 1 ⟨Nat.zero_le _, rfl⟩⟩
    · (simp (decide := true) only [am_has, am_lk0, am_lk1, and_self, true_and, and_true] <;> first | rfl | (refine ⟨?_, ?_⟩ <;> rfl) | (refine ⟨?_, ?_, ?_⟩ <;> rfl) | (refine ⟨?_, ?_, ?_, ?_⟩ <;> rfl))
  rw [hJJ] at hj
  clear hJJ
  obtain ⟨f, w, rfl, e1, rfl, rfl, rfl, rfl, rfl, rfl⟩ := hj
  refine ⟨_, 60, rfl, rfl, ?_⟩
  obtain ⟨e1, e2⟩ := e1
  have hfn : f < fs.length := by omega
  have hk := (hS.2.1 f hfn).1
  have hk6 := hG.k6 hfn
  have hs := nQ_s fs f
  simp (decide := true) (disch := (first | exact eq_false (by decide) | exact eq_true (by decide) | decide | omega)) only [lX10_weightOf_0, lX10_weightOf_4, lX10_weightOf_32, lX10_weightOf_36, lX10_weightOf_42, bX10_weightOf_0, bX10_weightOf_4, bX10_weightOf_32, bX10_weightOf_36, bX10_weightOf_42, (show qX10_weightOf.2.2.2.1 = (some .int) from rfl), am_rok_int, w_aload_n, w_getfield, w_goto, w_iaload, w_icmp_ge, w_icmp_ne, w_iconst, w_if_eq, w_iinc, w_iload_n, w_imul, w_ireturn, w_istore_n, w_nop, w_swap, sa_69, sg_60_16, sg_60_18, cI_0, cI_1, cI_3, am_lk0, am_lk1, am_ld_some, am_isI_i, am_isJ_j, am_isR_r, am_st_eq, am_rmv_nil, am_rmv_t, am_rmv_i, am_rmv_r, sf_SH, sj_SH, sf_eq, sf_nk, sf_na, sf_sf, am_args_i, am_args_r, am_args_n, Nat.reduceAdd, List.cons_append, List.nil_append, Option.toList, List.drop_succ_cons, List.drop_zero, am_RP, am_CP, am_PH, Fin.isValue, Fin.val_zero, Fin.val_one, am_f2, am_f3, true_and, and_true, true_implies, false_implies, not_false_eq_true, ne_eq, nI_clampD, nI_leT, nI_leF, nI_ltT, nI_ltF, nI_eqT, nI_eqF, nI_lt0F, nI_0leT, nI_eq0T, nI_eq0F, nI_0ltT, nI_0ltF, nI_le0T, nI_le0F, nI_m1, nI_m1', m1_m1, m1_lt, m1_le, nI_mul, nI_add, nI_sub, nI_add1, nI_dec, nI_div, nI_mod, vp_inD, sf_nkD, sf_eqD, h16]
  refine w_virtE (c_X10_isQuantifier g h I J f (kF (nF fs f)) (by omega) hk hk6) rfl rfl rfl (of_eq_true so_60) rfl (Nat.le_refl _) (Nat.le_refl _) ?_
  by_cases hf2 : rk (kF (nF fs f)) = 2
  · have hd : decide (rk (kF (nF fs f)) = 2) = true := decide_eq_true hf2
    have hv := (hS.2.1 f hfn).2.1 hf2
    have hvb := (hG.quant hfn hf2).2.2.1
    rw [if_pos hf2] at hs
    by_cases hfq : f = q
    · subst hfq
      simp (decide := true) (disch := (first | exact eq_false (by decide) | exact eq_true (by decide) | decide | omega)) only [lX10_weightOf_0, lX10_weightOf_4, lX10_weightOf_32, lX10_weightOf_36, lX10_weightOf_42, bX10_weightOf_0, bX10_weightOf_4, bX10_weightOf_32, bX10_weightOf_36, bX10_weightOf_42, (show qX10_weightOf.2.2.2.1 = (some .int) from rfl), am_rok_int, w_aload_n, w_getfield, w_goto, w_iaload, w_icmp_ge, w_icmp_ne, w_iconst, w_if_eq, w_iinc, w_iload_n, w_imul, w_ireturn, w_istore_n, w_nop, w_swap, sa_69, sg_60_16, sg_60_18, cI_0, cI_1, cI_3, am_lk0, am_lk1, am_ld_some, am_isI_i, am_isJ_j, am_isR_r, am_st_eq, am_rmv_nil, am_rmv_t, am_rmv_i, am_rmv_r, sf_SH, sj_SH, sf_eq, sf_nk, sf_na, sf_sf, am_args_i, am_args_r, am_args_n, Nat.reduceAdd, List.cons_append, List.nil_append, Option.toList, List.drop_succ_cons, List.drop_zero, am_RP, am_CP, am_PH, Fin.isValue, Fin.val_zero, Fin.val_one, am_f2, am_f3, true_and, and_true, true_implies, false_implies, not_false_eq_true, ne_eq, nI_clampD, nI_leT, nI_leF, nI_ltT, nI_ltF, nI_eqT, nI_eqF, nI_lt0F, nI_0leT, nI_eq0T, nI_eq0F, nI_0ltT, nI_0ltF, nI_le0T, nI_le0F, nI_m1, nI_m1', m1_m1, m1_lt, m1_le, nI_mul, nI_add, nI_sub, nI_add1, nI_dec, nI_div, nI_mod, vp_inD, sf_nkD, sf_eqD, hd, bI_t, hv]
      rw [e2]
    · have hne : vF (nF fs f) ≠ vF (nF fs q) := fun h9 => hfq (hU.1 f q hfn h1 hf2 h2 h9)
      simp (decide := true) (disch := (first | exact eq_false (by decide) | exact eq_true (by decide) | decide | omega)) only [lX10_weightOf_0, lX10_weightOf_4, lX10_weightOf_32, lX10_weightOf_36, lX10_weightOf_42, bX10_weightOf_0, bX10_weightOf_4, bX10_weightOf_32, bX10_weightOf_36, bX10_weightOf_42, (show qX10_weightOf.2.2.2.1 = (some .int) from rfl), am_rok_int, w_aload_n, w_getfield, w_goto, w_iaload, w_icmp_ge, w_icmp_ne, w_iconst, w_if_eq, w_iinc, w_iload_n, w_imul, w_ireturn, w_istore_n, w_nop, w_swap, sa_69, sg_60_16, sg_60_18, cI_0, cI_1, cI_3, am_lk0, am_lk1, am_ld_some, am_isI_i, am_isJ_j, am_isR_r, am_st_eq, am_rmv_nil, am_rmv_t, am_rmv_i, am_rmv_r, sf_SH, sj_SH, sf_eq, sf_nk, sf_na, sf_sf, am_args_i, am_args_r, am_args_n, Nat.reduceAdd, List.cons_append, List.nil_append, Option.toList, List.drop_succ_cons, List.drop_zero, am_RP, am_CP, am_PH, Fin.isValue, Fin.val_zero, Fin.val_one, am_f2, am_f3, true_and, and_true, true_implies, false_implies, not_false_eq_true, ne_eq, nI_clampD, nI_leT, nI_leF, nI_ltT, nI_ltF, nI_eqT, nI_eqF, nI_lt0F, nI_0leT, nI_eq0T, nI_eq0F, nI_0ltT, nI_0ltF, nI_le0T, nI_le0F, nI_m1, nI_m1', m1_m1, m1_lt, m1_le, nI_mul, nI_add, nI_sub, nI_add1, nI_dec, nI_div, nI_mod, vp_inD, sf_nkD, sf_eqD, hd, bI_t, hv]
      refine ⟨_, _, ?_, ?_, mk (f + 1) (w * 3) ⟨by omega, by rw [hs, Nat.pow_succ, e2]⟩⟩
      · omega
      · (simp (decide := true) only [am_has, am_lk0, am_lk1, and_self, true_and, and_true] <;> first | rfl | (refine ⟨?_, ?_⟩ <;> rfl) | (refine ⟨?_, ?_, ?_⟩ <;> rfl) | (refine ⟨?_, ?_, ?_, ?_⟩ <;> rfl))
  · have hd : decide (rk (kF (nF fs f)) = 2) = false := decide_eq_false hf2
    have hfq : f ≠ q := fun h9 => hf2 (h9 ▸ h2)
    rw [if_neg hf2, Nat.add_zero] at hs
    simp (decide := true) (disch := (first | exact eq_false (by decide) | exact eq_true (by decide) | decide | omega)) only [lX10_weightOf_0, lX10_weightOf_4, lX10_weightOf_32, lX10_weightOf_36, lX10_weightOf_42, bX10_weightOf_0, bX10_weightOf_4, bX10_weightOf_32, bX10_weightOf_36, bX10_weightOf_42, (show qX10_weightOf.2.2.2.1 = (some .int) from rfl), am_rok_int, w_aload_n, w_getfield, w_goto, w_iaload, w_icmp_ge, w_icmp_ne, w_iconst, w_if_eq, w_iinc, w_iload_n, w_imul, w_ireturn, w_istore_n, w_nop, w_swap, sa_69, sg_60_16, sg_60_18, cI_0, cI_1, cI_3, am_lk0, am_lk1, am_ld_some, am_isI_i, am_isJ_j, am_isR_r, am_st_eq, am_rmv_nil, am_rmv_t, am_rmv_i, am_rmv_r, sf_SH, sj_SH, sf_eq, sf_nk, sf_na, sf_sf, am_args_i, am_args_r, am_args_n, Nat.reduceAdd, List.cons_append, List.nil_append, Option.toList, List.drop_succ_cons, List.drop_zero, am_RP, am_CP, am_PH, Fin.isValue, Fin.val_zero, Fin.val_one, am_f2, am_f3, true_and, and_true, true_implies, false_implies, not_false_eq_true, ne_eq, nI_clampD, nI_leT, nI_leF, nI_ltT, nI_ltF, nI_eqT, nI_eqF, nI_lt0F, nI_0leT, nI_eq0T, nI_eq0F, nI_0ltT, nI_0ltF, nI_le0T, nI_le0F, nI_m1, nI_m1', m1_m1, m1_lt, m1_le, nI_mul, nI_add, nI_sub, nI_add1, nI_dec, nI_div, nI_mod, vp_inD, sf_nkD, sf_eqD, hd, bI_f]
    refine ⟨_, _, ?_, ?_, mk (f + 1) w ⟨by omega, by rw [hs]; exact e2⟩⟩
    · omega
    · (simp (decide := true) only [am_has, am_lk0, am_lk1, and_self, true_and, and_true] <;> first | rfl | (refine ⟨?_, ?_⟩ <;> rfl) | (refine ⟨?_, ?_, ?_⟩ <;> rfl) | (refine ⟨?_, ?_, ?_, ?_⟩ <;> rfl))
theorem wtV_le {v : Nat} (hG : Good L t fs) (hU : Usd L fs) (hv : bdV fs v) : 1 ≤ wtV fs v ∧ wtV fs v ≤ 27 := by
  obtain ⟨q, h1, h2, h3⟩ := hv
  subst h3
  rw [wt_q hU h1 h2]
  have hq3 := nQ_3 hG h1 h2
  have : nQ fs q = 0 ∨ nQ fs q = 1 ∨ nQ fs q = 2 ∨ nQ fs q = 3 := by omega
  rcases this with h9 | h9 | h9 | h9 <;> rw [h9] <;> decide
set_option maxRecDepth 100000 in
set_option maxHeartbeats 8000000 in
theorem c_X10_isFact (hS : SMd L t fs I) (hG : Good L t fs) (hU : Usd L fs) (hF : Fct 93 45 fc I) (f vals : Nat) (hf : f < fs.length) (hk : kF (nF fs f) = 0) (hv : vals < 81) :
    am_Ctr g am_mt 1 (h + 4) 205 [.ref 60, .int (nI f), .int (nI vals)] (am_SH, I, J) 0 0 (fun r M => r = some (.int (bI (tvF L fs fc f (eV fs vals)))) ∧ M = (am_SH, I, J)) := by
  have hn := hG.le
  have hl := (hS.2.1 f hf).2.2 hk
  have hL := hG.leaf hf hk
  unfold LFt at hL
  have hp5 := hG.pls5
  have hpr := (prd_spec L fs hf hk).1
  have hbv := hU.2 f hf hk
  have w1 := wtV_le hG hU hbv.1
  have e3 : ∀ v, eV fs vals v < 3 := fun v => Nat.mod_lt _ (by decide)
  have e3a := e3 (vF (nF fs f))
  have ea : vals / wtV fs (vF (nF fs f)) - vals / wtV fs (vF (nF fs f)) / 3 * 3 = eV fs vals (vF (nF fs f)) := by unfold eV; omega
  have hdl : vals / wtV fs (vF (nF fs f)) ≤ vals := Nat.div_le_self _ _
  refine am_rule0 (q := qX10_isFact) (B := am_blk bX10_isFact) 60 rfl rfl kX10_isFact nX10_isFact (Nat.le_of_ble_eq_true rfl) ?_
  simp (decide := true) (disch := (first | exact eq_false (by decide) | exact eq_true (by decide) | decide | omega)) only [lX10_isFact_0, lX10_isFact_28, lX10_isFact_42, bX10_isFact_0, bX10_isFact_28, bX10_isFact_42, (show qX10_isFact.2.2.2.1 = (some .boolean) from rfl), am_rok_bool, w_aload_n, w_baload, w_bipush, w_getfield, w_goto, w_iadd, w_iaload, w_iconst, w_idiv, w_if_ge, w_iload, w_iload_n, w_imul, w_irem, w_ireturn, w_istore, w_istore_n, w_swap, sa_69, sa_70, sa_71, sa_93, sg_60_18, sg_60_19, sg_60_20, sg_60_49, cB_9, cI_0, cI_3, am_lk0, am_lk1, am_ld_some, am_isI_i, am_isJ_j, am_isR_r, am_st_eq, am_rmv_nil, am_rmv_t, am_rmv_i, am_rmv_r, sf_SH, sj_SH, sf_eq, sf_nk, sf_na, sf_sf, am_args_i, am_args_r, am_args_n, Nat.reduceAdd, List.cons_append, List.nil_append, Option.toList, List.drop_succ_cons, List.drop_zero, am_RP, am_CP, am_PH, Fin.isValue, Fin.val_zero, Fin.val_one, am_f2, am_f3, true_and, and_true, true_implies, false_implies, not_false_eq_true, ne_eq, nI_clampD, nI_leT, nI_leF, nI_ltT, nI_ltF, nI_eqT, nI_eqF, nI_lt0F, nI_0leT, nI_eq0T, nI_eq0F, nI_0ltT, nI_0ltF, nI_le0T, nI_le0F, nI_m1, nI_m1', m1_m1, m1_lt, m1_le, nI_mul, nI_add, nI_sub, nI_add1, nI_dec, nI_div, nI_mod, vp_inD, sf_nkD, sf_eqD, hl.1]
  refine w_virtE (c_X10_weightOf g h I J hS hG hU (vF (nF fs f)) hbv.1 (by omega)) rfl rfl rfl (of_eq_true so_60) rfl (Nat.le_refl _) (Nat.le_refl _) ?_
  by_cases hw : wF (nF fs f) = 0
  · have ew : (0 ≤ wI (wF (nF fs f))) = False := by rw [hw]; exact wI_0lef
    have hfk := hF (9 * prd L fs f + 3 * eV fs vals (vF (nF fs f)) + 0) (by omega)
    have e9 : tvF L fs fc f (eV fs vals) = fc (9 * prd L fs f + 3 * eV fs vals (vF (nF fs f)) + 0) := by unfold tvF; rw [if_pos hw]
    rw [e9]
    simp (decide := true) (disch := (first | exact eq_false (by decide) | exact eq_true (by decide) | decide | omega)) only [lX10_isFact_0, lX10_isFact_28, lX10_isFact_42, bX10_isFact_0, bX10_isFact_28, bX10_isFact_42, (show qX10_isFact.2.2.2.1 = (some .boolean) from rfl), am_rok_bool, w_aload_n, w_baload, w_bipush, w_getfield, w_goto, w_iadd, w_iaload, w_iconst, w_idiv, w_if_ge, w_iload, w_iload_n, w_imul, w_irem, w_ireturn, w_istore, w_istore_n, w_swap, sa_69, sa_70, sa_71, sa_93, sg_60_18, sg_60_19, sg_60_20, sg_60_49, cB_9, cI_0, cI_3, am_lk0, am_lk1, am_ld_some, am_isI_i, am_isJ_j, am_isR_r, am_st_eq, am_rmv_nil, am_rmv_t, am_rmv_i, am_rmv_r, sf_SH, sj_SH, sf_eq, sf_nk, sf_na, sf_sf, am_args_i, am_args_r, am_args_n, Nat.reduceAdd, List.cons_append, List.nil_append, Option.toList, List.drop_succ_cons, List.drop_zero, am_RP, am_CP, am_PH, Fin.isValue, Fin.val_zero, Fin.val_one, am_f2, am_f3, true_and, and_true, true_implies, false_implies, not_false_eq_true, ne_eq, nI_clampD, nI_leT, nI_leF, nI_ltT, nI_ltF, nI_eqT, nI_eqF, nI_lt0F, nI_0leT, nI_eq0T, nI_eq0F, nI_0ltT, nI_0ltF, nI_le0T, nI_le0F, nI_m1, nI_m1', m1_m1, m1_lt, m1_le, nI_mul, nI_add, nI_sub, nI_add1, nI_dec, nI_div, nI_mod, vp_inD, sf_nkD, sf_eqD, hl.2.1, hl.2.2.1, ew, ea, hfk, bI_01]
  · have ep : wI (wF (nF fs f)) = nI (wF (nF fs f) - 1) := wI_p (by omega)
    have w2 := wtV_le hG hU (hbv.2 hw)
    have e3b := e3 (wF (nF fs f) - 1)
    have eb : vals / wtV fs (wF (nF fs f) - 1) - vals / wtV fs (wF (nF fs f) - 1) / 3 * 3 = eV fs vals (wF (nF fs f) - 1) := by unfold eV; omega
    have hdl2 : vals / wtV fs (wF (nF fs f) - 1) ≤ vals := Nat.div_le_self _ _
    have hfk := hF (9 * prd L fs f + 3 * eV fs vals (vF (nF fs f)) + eV fs vals (wF (nF fs f) - 1)) (by omega)
    have e9 : tvF L fs fc f (eV fs vals) = fc (9 * prd L fs f + 3 * eV fs vals (vF (nF fs f)) + eV fs vals (wF (nF fs f) - 1)) := by unfold tvF; rw [if_neg hw]
    rw [e9]
    simp (decide := true) (disch := (first | exact eq_false (by decide) | exact eq_true (by decide) | decide | omega)) only [lX10_isFact_0, lX10_isFact_28, lX10_isFact_42, bX10_isFact_0, bX10_isFact_28, bX10_isFact_42, (show qX10_isFact.2.2.2.1 = (some .boolean) from rfl), am_rok_bool, w_aload_n, w_baload, w_bipush, w_getfield, w_goto, w_iadd, w_iaload, w_iconst, w_idiv, w_if_ge, w_iload, w_iload_n, w_imul, w_irem, w_ireturn, w_istore, w_istore_n, w_swap, sa_69, sa_70, sa_71, sa_93, sg_60_18, sg_60_19, sg_60_20, sg_60_49, cB_9, cI_0, cI_3, am_lk0, am_lk1, am_ld_some, am_isI_i, am_isJ_j, am_isR_r, am_st_eq, am_rmv_nil, am_rmv_t, am_rmv_i, am_rmv_r, sf_SH, sj_SH, sf_eq, sf_nk, sf_na, sf_sf, am_args_i, am_args_r, am_args_n, Nat.reduceAdd, List.cons_append, List.nil_append, Option.toList, List.drop_succ_cons, List.drop_zero, am_RP, am_CP, am_PH, Fin.isValue, Fin.val_zero, Fin.val_one, am_f2, am_f3, true_and, and_true, true_implies, false_implies, not_false_eq_true, ne_eq, nI_clampD, nI_leT, nI_leF, nI_ltT, nI_ltF, nI_eqT, nI_eqF, nI_lt0F, nI_0leT, nI_eq0T, nI_eq0F, nI_0ltT, nI_0ltF, nI_le0T, nI_le0F, nI_m1, nI_m1', m1_m1, m1_lt, m1_le, nI_mul, nI_add, nI_sub, nI_add1, nI_dec, nI_div, nI_mod, vp_inD, sf_nkD, sf_eqD, hl.2.1, ep, ea]
    refine w_virtE (c_X10_weightOf g h I J hS hG hU (wF (nF fs f) - 1) (hbv.2 hw) (by omega)) rfl rfl rfl (of_eq_true so_60) rfl (Nat.le_refl _) (Nat.le_refl _) ?_
    simp (decide := true) (disch := (first | exact eq_false (by decide) | exact eq_true (by decide) | decide | omega)) only [lX10_isFact_0, lX10_isFact_28, lX10_isFact_42, bX10_isFact_0, bX10_isFact_28, bX10_isFact_42, (show qX10_isFact.2.2.2.1 = (some .boolean) from rfl), am_rok_bool, w_aload_n, w_baload, w_bipush, w_getfield, w_goto, w_iadd, w_iaload, w_iconst, w_idiv, w_if_ge, w_iload, w_iload_n, w_imul, w_irem, w_ireturn, w_istore, w_istore_n, w_swap, sa_69, sa_70, sa_71, sa_93, sg_60_18, sg_60_19, sg_60_20, sg_60_49, cB_9, cI_0, cI_3, am_lk0, am_lk1, am_ld_some, am_isI_i, am_isJ_j, am_isR_r, am_st_eq, am_rmv_nil, am_rmv_t, am_rmv_i, am_rmv_r, sf_SH, sj_SH, sf_eq, sf_nk, sf_na, sf_sf, am_args_i, am_args_r, am_args_n, Nat.reduceAdd, List.cons_append, List.nil_append, Option.toList, List.drop_succ_cons, List.drop_zero, am_RP, am_CP, am_PH, Fin.isValue, Fin.val_zero, Fin.val_one, am_f2, am_f3, true_and, and_true, true_implies, false_implies, not_false_eq_true, ne_eq, nI_clampD, nI_leT, nI_leF, nI_ltT, nI_ltF, nI_eqT, nI_eqF, nI_lt0F, nI_0leT, nI_eq0T, nI_eq0F, nI_0ltT, nI_0ltF, nI_le0T, nI_le0F, nI_m1, nI_m1', m1_m1, m1_lt, m1_le, nI_mul, nI_add, nI_sub, nI_add1, nI_dec, nI_div, nI_mod, vp_inD, sf_nkD, sf_eqD, hl.2.2.1, eb, hfk, bI_01]
end MT2
