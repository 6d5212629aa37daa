/-! the class' formulas -/
def OUTc (xs : List Nat) (I : Nat → Nat → Int32) : Prop := I 58 3 = nI xs.length ∧ ∀ k, k < xs.length → I 59 k = nI (xs.getD k 0)
def FrZ (I I' : Nat → Nat → Int32) : Prop := ∀ c, c ≠ 58 → c ≠ 59 → I' c = I c
theorem FrZ.tr {I I' I'' : Nat → Nat → Int32} (h : FrZ I I') (h2 : FrZ I' I'') : FrZ I I'' := fun c d1 d2 => (h2 c d1 d2).trans (h c d1 d2)
/-- the formula of a fragment -/
def fmT (L : Nat → Nat) (fs : List Fg) (pl : Nat → Nat) : Nat → Nat → List Nat
  | 0, _ => []
  | m + 1, f => if kF (nF fs f) = 0 then (List.range' (aF (nF fs f)) (cF (nF fs f) - aF (nF fs f))).map L else if kF (nF fs f) = 5 then wd0.getD 5 [] ++ 40 :: (fmT L fs pl m (pl (2 * f)) ++ [41]) else wd0.getD (kF (nF fs f)) [] ++ 32 :: (117 + vF (nF fs f)) :: 40 :: (fmT L fs pl m (pl (2 * f)) ++ 44 :: (fmT L fs pl m (pl (2 * f + 1)) ++ [41]))
section CF1
variable (g : am_G) {L : Nat → Nat} {t : Nat} {fs : List Fg} {o : List Nat} {l : List (Nat × List Nat)}
set_option maxRecDepth 100000 in
set_option maxHeartbeats 400000 in
theorem c_X1_writeSign (h : Nat) (I : Nat → Nat → Int32) (J : Nat → Nat → Int64) (xs : List Nat) (c : Nat) (hX : OUTc xs I) (hl : xs.length < 106) :
    am_Ctr g am_mt 1 (h + 1) 15 [.ref 58, .int (nI c)] (am_SH, I, J) 0 0 (fun r M => r = none ∧ ∃ I', M = (am_SH, I', J) ∧ FrZ I I' ∧ OUTc (xs ++ [c]) I') := by
  have h3 := hX.1
  refine am_rule0 (q := qX1_writeSign) (B := am_blk bX1_writeSign) 60 rfl rfl kX1_writeSign nX1_writeSign (Nat.le_of_ble_eq_true rfl) ?_
  simp (decide := true) (disch := (first | exact eq_false (by decide) | exact eq_true (by decide) | decide | omega)) only [lX1_writeSign_0, lX1_writeSign_29, bX1_writeSign_0, bX1_writeSign_29, (show qX1_writeSign.2.2.2.1 = none from rfl), am_rok_none, w_aload_n, w_bipush, w_dup, w_getfield, w_iadd, w_iastore, w_icmp_ge, w_iconst, w_iload_n, w_puti, w_return, w_swap, sa_59, sg_58_2, sg_58_3, sp_58_3, cB_106, cI_1, am_lk0, am_lk1, am_ld_some, am_isI_i, am_isJ_j, am_isR_r, am_st_eq, am_rmv_nil, am_rmv_t, am_rmv_i, am_rmv_r, sf_SH, sj_SH, sf_eq, sf_nk, sf_na, sf_sf, am_args_i, am_args_r, am_args_n, Nat.reduceAdd, List.cons_append, List.nil_append, Option.toList, List.drop_succ_cons, List.drop_zero, am_RP, am_CP, am_PH, Fin.isValue, Fin.val_zero, Fin.val_one, am_f2, am_f3, true_and, and_true, true_implies, false_implies, not_false_eq_true, ne_eq, nI_clampD, nI_leT, nI_leF, nI_ltT, nI_ltF, nI_eqT, nI_eqF, nI_lt0F, nI_0leT, nI_eq0T, nI_eq0F, nI_0ltT, nI_0ltF, nI_le0T, nI_le0F, nI_m1, nI_m1', m1_m1, m1_lt, m1_le, nI_mul, nI_add, nI_sub, nI_add1, nI_dec, nI_div, nI_mod, vp_inD, sf_nkD, sf_eqD, h3]
  refine ⟨_, rfl, fun c d1 d2 => by rw [sf_naD d1, sf_naD d2], by rw [sf_eq, List.length_append]; rfl, fun k hk => ?_⟩
  rw [List.length_append, List.length_singleton] at hk
  rw [sf_naD (by decide)]
  by_cases hkx : k = xs.length
  · rw [sf_eqD hkx, hkx, gD_new]
  · rw [sf_nkD hkx, gD_app (by omega)]; exact hX.2 k (by omega)
set_option maxRecDepth 100000 in
set_option maxHeartbeats 400000 in
theorem c_X1_writeWord (h : Nat) (I : Nat → Nat → Int32) (J : Nat → Nat → Int64) (xs : List Nat) (w : Nat) (hX : OUTc xs I) (hw : w < 7) (hl : xs.length + (wd0.getD w []).length ≤ 106) :
    am_Ctr g am_mt 1 (h + 4) 14 [.ref 58, .ref (1000 + w)] (am_SH, I, J) 0 0 (fun r M => r = none ∧ ∃ I', M = (am_SH, I', J) ∧ FrZ I I' ∧ OUTc (xs ++ wd0.getD w []) I') := by
  have hlen := wd0_len hw
  have h5 := am_len_le hw
  obtain ⟨JJ, hJJ⟩ : ∃ JJ : Nat → am_Cut, JJ = (fun zu zpc zl zst zM zk zn => (∃ (k : Nat) (I1 : Nat → Nat → Int32), zu = am_len.getD w 0 - k ∧ (k ≤ am_len.getD w 0) ∧ (FrZ I I1) ∧ (OUTc (xs ++ (wd0.getD w []).take k) I1) ∧ zpc = 2 ∧ zl = [(0, .ref 58), (1, .ref (1000 + w)), (2, .int (nI k))] ∧ zst = [] ∧ zM = (am_SH, I1, J) ∧ zk = 0 ∧ zn = 0)) := ⟨_, rfl⟩
  have mk : ∀ (k : Nat) (I1 : Nat → Nat → Int32), (k ≤ am_len.getD w 0) → (FrZ I I1) → (OUTc (xs ++ (wd0.getD w []).take k) I1) → JJ (am_len.getD w 0 - k) 2 [(0, .ref 58), (1, .ref (1000 + w)), (2, .int (nI k))] [] (am_SH, I1, J) 0 0 := by
    intro k I1 a0 a1 a2
    rw [hJJ]
    exact ⟨k, I1, rfl, a0, a1, a2, rfl, rfl, rfl, rfl, rfl, rfl⟩
  refine am_rule2 (q := qX1_writeWord) (B := am_blk bX1_writeWord) rfl rfl kX1_writeWord nX1_writeWord (Nat.le_of_ble_eq_true rfl) JJ (fun zu zpc zl zst zM zk zn hj => ?_) ?_
  rotate_left
  · refine ⟨60, ?_⟩
    simp (decide := true) (disch := (first | exact eq_false (by decide) | exact eq_true (by decide) | decide | omega)) only [lX1_writeWord_0, lX1_writeWord_2, lX1_writeWord_25, bX1_writeWord_0, bX1_writeWord_2, bX1_writeWord_25, (show qX1_writeWord.2.2.2.1 = none from rfl), am_rok_none, w_aload_n, w_goto, w_icmp_ge, w_iconst, w_iinc, w_iload_n, w_istore_n, w_nop, w_return, w_swap, cI_0, am_lk0, am_lk1, am_ld_some, am_isI_i, am_isJ_j, am_isR_r, am_st_eq, am_rmv_nil, am_rmv_t, am_rmv_i, am_rmv_r, sf_SH, sj_SH, sf_eq, sf_nk, sf_na, sf_sf, am_args_i, am_args_r, am_args_n, Nat.reduceAdd, List.cons_append, List.nil_append, Option.toList, List.drop_succ_cons, List.drop_zero, am_RP, am_CP, am_PH, Fin.isValue, Fin.val_zero, Fin.val_one, am_f2, am_f3, true_and, and_true, true_implies, false_implies, not_false_eq_true, ne_eq, nI_clampD, nI_leT, nI_leF, nI_ltT, nI_ltF, nI_eqT, nI_eqF, nI_lt0F, nI_0leT, nI_eq0T, nI_eq0F, nI_0ltT, nI_0ltF, nI_le0T, nI_le0F, nI_m1, nI_m1', m1_m1, m1_lt, m1_le, nI_mul, nI_add, nI_sub, nI_add1, nI_dec, nI_div, nI_mod, vp_inD, sf_nkD, sf_eqD]
    refine ⟨_, _, ?_, mk 0 I (Nat.zero_le _) (fun _ _ _ => rfl) (by rw [List.take_zero, List.append_nil]; exact hX)⟩
    · (simp (decide := true) only [am_has, am_lk0, am_lk1, and_self, true_and, and_true] <;> first | rfl | (refine ⟨?_, ?_⟩ <;> rfl) | (refine ⟨?_, ?_, ?_⟩ <;> rfl) | (refine ⟨?_, ?_, ?_, ?_⟩ <;> rfl))
  rw [hJJ] at hj
  clear hJJ
  obtain ⟨k, I1, rfl, e1, e2, e3, rfl, rfl, rfl, rfl, rfl, rfl⟩ := hj
  refine ⟨_, 60, rfl, rfl, ?_⟩
  simp (decide := true) (disch := (first | exact eq_false (by decide) | exact eq_true (by decide) | decide | omega)) only [lX1_writeWord_0, lX1_writeWord_2, lX1_writeWord_25, bX1_writeWord_0, bX1_writeWord_2, bX1_writeWord_25, (show qX1_writeWord.2.2.2.1 = none from rfl), am_rok_none, w_aload_n, w_goto, w_icmp_ge, w_iconst, w_iinc, w_iload_n, w_istore_n, w_nop, w_return, w_swap, cI_0, am_lk0, am_lk1, am_ld_some, am_isI_i, am_isJ_j, am_isR_r, am_st_eq, am_rmv_nil, am_rmv_t, am_rmv_i, am_rmv_r, sf_SH, sj_SH, sf_eq, sf_nk, sf_na, sf_sf, am_args_i, am_args_r, am_args_n, Nat.reduceAdd, List.cons_append, List.nil_append, Option.toList, List.drop_succ_cons, List.drop_zero, am_RP, am_CP, am_PH, Fin.isValue, Fin.val_zero, Fin.val_one, am_f2, am_f3, true_and, and_true, true_implies, false_implies, not_false_eq_true, ne_eq, nI_clampD, nI_leT, nI_leF, nI_ltT, nI_ltF, nI_eqT, nI_eqF, nI_lt0F, nI_0leT, nI_eq0T, nI_eq0F, nI_0ltT, nI_0ltF, nI_le0T, nI_le0F, nI_m1, nI_m1', m1_m1, m1_lt, m1_le, nI_mul, nI_add, nI_sub, nI_add1, nI_dec, nI_div, nI_mod, vp_inD, sf_nkD, sf_eqD]
  refine w_virtE (c_length g (h + 2) _ hw) rfl rfl rfl (so_str hw) rfl (Nat.le_refl _) (Nat.le_refl _) ?_
  by_cases hk : k = am_len.getD w 0
  · have e9 : (wd0.getD w []).take k = wd0.getD w [] := List.take_of_length_le (by omega)
    rw [e9] at e3
    simp (decide := true) (disch := (first | exact eq_false (by decide) | exact eq_true (by decide) | decide | omega)) only [lX1_writeWord_0, lX1_writeWord_2, lX1_writeWord_25, bX1_writeWord_0, bX1_writeWord_2, bX1_writeWord_25, (show qX1_writeWord.2.2.2.1 = none from rfl), am_rok_none, w_aload_n, w_goto, w_icmp_ge, w_iconst, w_iinc, w_iload_n, w_istore_n, w_nop, w_return, w_swap, cI_0, am_lk0, am_lk1, am_ld_some, am_isI_i, am_isJ_j, am_isR_r, am_st_eq, am_rmv_nil, am_rmv_t, am_rmv_i, am_rmv_r, sf_SH, sj_SH, sf_eq, sf_nk, sf_na, sf_sf, am_args_i, am_args_r, am_args_n, Nat.reduceAdd, List.cons_append, List.nil_append, Option.toList, List.drop_succ_cons, List.drop_zero, am_RP, am_CP, am_PH, Fin.isValue, Fin.val_zero, Fin.val_one, am_f2, am_f3, true_and, and_true, true_implies, false_implies, not_false_eq_true, ne_eq, nI_clampD, nI_leT, nI_leF, nI_ltT, nI_ltF, nI_eqT, nI_eqF, nI_lt0F, nI_0leT, nI_eq0T, nI_eq0F, nI_0ltT, nI_0ltF, nI_le0T, nI_le0F, nI_m1, nI_m1', m1_m1, m1_lt, m1_le, nI_mul, nI_add, nI_sub, nI_add1, nI_dec, nI_div, nI_mod, vp_inD, sf_nkD, sf_eqD, hk]
    exact ⟨I1, rfl, e2, e3⟩
  · have hb := am_bytW hw (j := k) (by omega)
    have hlt : (xs ++ (wd0.getD w []).take k).length = xs.length + k := by rw [List.length_append, List.length_take]; omega
    simp (decide := true) (disch := (first | exact eq_false (by decide) | exact eq_true (by decide) | decide | omega)) only [lX1_writeWord_0, lX1_writeWord_2, lX1_writeWord_25, bX1_writeWord_0, bX1_writeWord_2, bX1_writeWord_25, (show qX1_writeWord.2.2.2.1 = none from rfl), am_rok_none, w_aload_n, w_goto, w_icmp_ge, w_iconst, w_iinc, w_iload_n, w_istore_n, w_nop, w_return, w_swap, cI_0, am_lk0, am_lk1, am_ld_some, am_isI_i, am_isJ_j, am_isR_r, am_st_eq, am_rmv_nil, am_rmv_t, am_rmv_i, am_rmv_r, sf_SH, sj_SH, sf_eq, sf_nk, sf_na, sf_sf, am_args_i, am_args_r, am_args_n, Nat.reduceAdd, List.cons_append, List.nil_append, Option.toList, List.drop_succ_cons, List.drop_zero, am_RP, am_CP, am_PH, Fin.isValue, Fin.val_zero, Fin.val_one, am_f2, am_f3, true_and, and_true, true_implies, false_implies, not_false_eq_true, ne_eq, nI_clampD, nI_leT, nI_leF, nI_ltT, nI_ltF, nI_eqT, nI_eqF, nI_lt0F, nI_0leT, nI_eq0T, nI_eq0F, nI_0ltT, nI_0ltF, nI_le0T, nI_le0F, nI_m1, nI_m1', m1_m1, m1_lt, m1_le, nI_mul, nI_add, nI_sub, nI_add1, nI_dec, nI_div, nI_mod, vp_inD, sf_nkD, sf_eqD]
    refine w_virtE (c_charAt g h _ hw (j := k) (by omega)) rfl rfl rfl (so_str hw) rfl (Nat.le_refl _) (Nat.le_refl _) ?_
    rw [hb]
    simp (decide := true) (disch := (first | exact eq_false (by decide) | exact eq_true (by decide) | decide | omega)) only [lX1_writeWord_0, lX1_writeWord_2, lX1_writeWord_25, bX1_writeWord_0, bX1_writeWord_2, bX1_writeWord_25, (show qX1_writeWord.2.2.2.1 = none from rfl), am_rok_none, w_aload_n, w_goto, w_icmp_ge, w_iconst, w_iinc, w_iload_n, w_istore_n, w_nop, w_return, w_swap, cI_0, am_lk0, am_lk1, am_ld_some, am_isI_i, am_isJ_j, am_isR_r, am_st_eq, am_rmv_nil, am_rmv_t, am_rmv_i, am_rmv_r, sf_SH, sj_SH, sf_eq, sf_nk, sf_na, sf_sf, am_args_i, am_args_r, am_args_n, Nat.reduceAdd, List.cons_append, List.nil_append, Option.toList, List.drop_succ_cons, List.drop_zero, am_RP, am_CP, am_PH, Fin.isValue, Fin.val_zero, Fin.val_one, am_f2, am_f3, true_and, and_true, true_implies, false_implies, not_false_eq_true, ne_eq, nI_clampD, nI_leT, nI_leF, nI_ltT, nI_ltF, nI_eqT, nI_eqF, nI_lt0F, nI_0leT, nI_eq0T, nI_eq0F, nI_0ltT, nI_0ltF, nI_le0T, nI_le0F, nI_m1, nI_m1', m1_m1, m1_lt, m1_le, nI_mul, nI_add, nI_sub, nI_add1, nI_dec, nI_div, nI_mod, vp_inD, sf_nkD, sf_eqD]
    refine w_virtP (c_X1_writeSign g (h + 2) I1 J (xs ++ (wd0.getD w []).take k) ((wd0.getD w []).getD k 0) e3 (by omega)) rfl rfl rfl (of_eq_true so_58) rfl (Nat.le_refl _) (Nat.le_refl _) ?_
    rintro R1 M1 ⟨rfl, I2, rfl, f1, f2⟩
    simp (decide := true) (disch := (first | exact eq_false (by decide) | exact eq_true (by decide) | decide | omega)) only [lX1_writeWord_0, lX1_writeWord_2, lX1_writeWord_25, bX1_writeWord_0, bX1_writeWord_2, bX1_writeWord_25, (show qX1_writeWord.2.2.2.1 = none from rfl), am_rok_none, w_aload_n, w_goto, w_icmp_ge, w_iconst, w_iinc, w_iload_n, w_istore_n, w_nop, w_return, w_swap, cI_0, am_lk0, am_lk1, am_ld_some, am_isI_i, am_isJ_j, am_isR_r, am_st_eq, am_rmv_nil, am_rmv_t, am_rmv_i, am_rmv_r, sf_SH, sj_SH, sf_eq, sf_nk, sf_na, sf_sf, am_args_i, am_args_r, am_args_n, Nat.reduceAdd, List.cons_append, List.nil_append, Option.toList, List.drop_succ_cons, List.drop_zero, am_RP, am_CP, am_PH, Fin.isValue, Fin.val_zero, Fin.val_one, am_f2, am_f3, true_and, and_true, true_implies, false_implies, not_false_eq_true, ne_eq, nI_clampD, nI_leT, nI_leF, nI_ltT, nI_ltF, nI_eqT, nI_eqF, nI_lt0F, nI_0leT, nI_eq0T, nI_eq0F, nI_0ltT, nI_0ltF, nI_le0T, nI_le0F, nI_m1, nI_m1', m1_m1, m1_lt, m1_le, nI_mul, nI_add, nI_sub, nI_add1, nI_dec, nI_div, nI_mod, vp_inD, sf_nkD, sf_eqD]
    refine ⟨_, _, ?_, ?_, mk (k + 1) I2 (by omega) (e2.tr f1) ?_⟩
    · omega
    · (simp (decide := true) only [am_has, am_lk0, am_lk1, and_self, true_and, and_true] <;> first | rfl | (refine ⟨?_, ?_⟩ <;> rfl) | (refine ⟨?_, ?_, ?_⟩ <;> rfl) | (refine ⟨?_, ?_, ?_, ?_⟩ <;> rfl))
    rw [take_s (by omega), ← List.append_assoc]
    exact f2
set_option maxRecDepth 100000 in
set_option maxHeartbeats 400000 in
theorem c_X1_writeAtom (h : Nat) (I : Nat → Nat → Int32) (J : Nat → Nat → Int64) (xs : List Nat) (f : Nat) (hS : SN L t fs I) (hT : TX 3 L t I) (hX : OUTc xs I) (hf : f < fs.length) (hk : kF (nF fs f) = 0) (hl : xs.length + (cF (nF fs f) - aF (nF fs f)) ≤ 106) :
    am_Ctr g am_mt 1 (h + 2) 13 [.ref 58, .int (nI f)] (am_SH, I, J) 0 0 (fun r M => r = none ∧ ∃ I', M = (am_SH, I', J) ∧ FrZ I I' ∧ OUTc (xs ++ (List.range' (aF (nF fs f)) (cF (nF fs f) - aF (nF fs f))).map L) I') := by
  have hn := hS.2.le
  have hlf := hS.1.2.2.2.2.1 f hf hk
  have hL := hS.2.leaf hf hk
  unfold LFt at hL
  have ht := hT.1
  have l7 : I 7 f = nI (aF (nF fs f)) := hlf.1
  have l9 : I 9 f = nI (cF (nF fs f)) := hlf.2.2.1
  generalize aF (nF fs f) = a at *
  generalize cF (nF fs f) = c at *
  obtain ⟨JJ, hJJ⟩ : ∃ JJ : Nat → am_Cut, JJ = (fun zu zpc zl zst zM zk zn => (∃ (k : Nat) (I1 : Nat → Nat → Int32), zu = c - k ∧ (a ≤ k ∧ k ≤ c) ∧ (FrZ I I1) ∧ (OUTc (xs ++ (List.range' a (k - a)).map L) I1) ∧ zpc = 10 ∧ zl = [(0, .ref 58), (1, .int (nI f)), (2, .int (nI k))] ∧ zst = [] ∧ zM = (am_SH, I1, J) ∧ zk = 0 ∧ zn = 0)) := ⟨_, rfl⟩
  have mk : ∀ (k : Nat) (I1 : Nat → Nat → Int32), (a ≤ k ∧ k ≤ c) → (FrZ I I1) → (OUTc (xs ++ (List.range' a (k - a)).map L) I1) → JJ (c - k) 10 [(0, .ref 58), (1, .int (nI f)), (2, .int (nI k))] [] (am_SH, I1, J) 0 0 := by
    intro k I1 a0 a1 a2
    rw [hJJ]
    exact ⟨k, I1, rfl, a0, a1, a2, rfl, rfl, rfl, rfl, rfl, rfl⟩
  refine am_rule2 (q := qX1_writeAtom) (B := am_blk bX1_writeAtom) rfl rfl kX1_writeAtom nX1_writeAtom (Nat.le_of_ble_eq_true rfl) JJ (fun zu zpc zl zst zM zk zn hj => ?_) ?_
  rotate_left
  · refine ⟨60, ?_⟩
    simp (decide := true) (disch := (first | exact eq_false (by decide) | exact eq_true (by decide) | decide | omega)) only [lX1_writeAtom_0, lX1_writeAtom_10, lX1_writeAtom_42, bX1_writeAtom_0, bX1_writeAtom_10, bX1_writeAtom_42, (show qX1_writeAtom.2.2.2.1 = none from rfl), am_rok_none, w_aload_n, w_getfield, w_goto, w_iaload, w_icmp_ge, w_iinc, w_iload_n, w_istore_n, w_nop, w_return, w_swap, sa_16, sa_20, sa_22, sa_3, sa_7, sa_9, sg_15_0, sg_15_5, sg_15_7, sg_2_0, sg_2_5, sg_2_7, sg_58_0, am_lk0, am_lk1, am_ld_some, am_isI_i, am_isJ_j, am_isR_r, am_st_eq, am_rmv_nil, am_rmv_t, am_rmv_i, am_rmv_r, sf_SH, sj_SH, sf_eq, sf_nk, sf_na, sf_sf, am_args_i, am_args_r, am_args_n, Nat.reduceAdd, List.cons_append, List.nil_append, Option.toList, List.drop_succ_cons, List.drop_zero, am_RP, am_CP, am_PH, Fin.isValue, Fin.val_zero, Fin.val_one, am_f2, am_f3, true_and, and_true, true_implies, false_implies, not_false_eq_true, ne_eq, nI_clampD, nI_leT, nI_leF, nI_ltT, nI_ltF, nI_eqT, nI_eqF, nI_lt0F, nI_0leT, nI_eq0T, nI_eq0F, nI_0ltT, nI_0ltF, nI_le0T, nI_le0F, nI_m1, nI_m1', m1_m1, m1_lt, m1_le, nI_mul, nI_add, nI_sub, nI_add1, nI_dec, nI_div, nI_mod, vp_inD, sf_nkD, sf_eqD, l7]
    refine ⟨_, _, ?_, mk a I ⟨Nat.le_refl _, by omega⟩ (fun _ _ _ => rfl) (by rw [Nat.sub_self]; simp only [List.range'_zero, List.map_nil, List.append_nil]; exact hX)⟩
    · (simp (decide := true) only [am_has, am_lk0, am_lk1, and_self, true_and, and_true] <;> first | rfl | (refine ⟨?_, ?_⟩ <;> rfl) | (refine ⟨?_, ?_, ?_⟩ <;> rfl) | (refine ⟨?_, ?_, ?_, ?_⟩ <;> rfl))
  rw [hJJ] at hj
  clear hJJ
  obtain ⟨k, I1, rfl, e1, e2, e3, rfl, rfl, rfl, rfl, rfl, rfl⟩ := hj
  refine ⟨_, 60, rfl, rfl, ?_⟩
  obtain ⟨e1, e4⟩ := e1
  have k9 : I1 9 f = nI c := by rw [e2 9 (by decide) (by decide)]; exact l9
  by_cases hkc : k = c
  · subst hkc
    simp (decide := true) (disch := (first | exact eq_false (by decide) | exact eq_true (by decide) | decide | omega)) only [lX1_writeAtom_0, lX1_writeAtom_10, lX1_writeAtom_42, bX1_writeAtom_0, bX1_writeAtom_10, bX1_writeAtom_42, (show qX1_writeAtom.2.2.2.1 = none from rfl), am_rok_none, w_aload_n, w_getfield, w_goto, w_iaload, w_icmp_ge, w_iinc, w_iload_n, w_istore_n, w_nop, w_return, w_swap, sa_16, sa_20, sa_22, sa_3, sa_7, sa_9, sg_15_0, sg_15_5, sg_15_7, sg_2_0, sg_2_5, sg_2_7, sg_58_0, am_lk0, am_lk1, am_ld_some, am_isI_i, am_isJ_j, am_isR_r, am_st_eq, am_rmv_nil, am_rmv_t, am_rmv_i, am_rmv_r, sf_SH, sj_SH, sf_eq, sf_nk, sf_na, sf_sf, am_args_i, am_args_r, am_args_n, Nat.reduceAdd, List.cons_append, List.nil_append, Option.toList, List.drop_succ_cons, List.drop_zero, am_RP, am_CP, am_PH, Fin.isValue, Fin.val_zero, Fin.val_one, am_f2, am_f3, true_and, and_true, true_implies, false_implies, not_false_eq_true, ne_eq, nI_clampD, nI_leT, nI_leF, nI_ltT, nI_ltF, nI_eqT, nI_eqF, nI_lt0F, nI_0leT, nI_eq0T, nI_eq0F, nI_0ltT, nI_0ltF, nI_le0T, nI_le0F, nI_m1, nI_m1', m1_m1, m1_lt, m1_le, nI_mul, nI_add, nI_sub, nI_add1, nI_dec, nI_div, nI_mod, vp_inD, sf_nkD, sf_eqD, k9]
    exact ⟨I1, rfl, e2, e3⟩
  · have k3 : I1 3 k = nI (L k) := by rw [e2 3 (by decide) (by decide)]; exact (hT.2.1 k (by omega)).1
    simp (decide := true) (disch := (first | exact eq_false (by decide) | exact eq_true (by decide) | decide | omega)) only [lX1_writeAtom_0, lX1_writeAtom_10, lX1_writeAtom_42, bX1_writeAtom_0, bX1_writeAtom_10, bX1_writeAtom_42, (show qX1_writeAtom.2.2.2.1 = none from rfl), am_rok_none, w_aload_n, w_getfield, w_goto, w_iaload, w_icmp_ge, w_iinc, w_iload_n, w_istore_n, w_nop, w_return, w_swap, sa_16, sa_20, sa_22, sa_3, sa_7, sa_9, sg_15_0, sg_15_5, sg_15_7, sg_2_0, sg_2_5, sg_2_7, sg_58_0, am_lk0, am_lk1, am_ld_some, am_isI_i, am_isJ_j, am_isR_r, am_st_eq, am_rmv_nil, am_rmv_t, am_rmv_i, am_rmv_r, sf_SH, sj_SH, sf_eq, sf_nk, sf_na, sf_sf, am_args_i, am_args_r, am_args_n, Nat.reduceAdd, List.cons_append, List.nil_append, Option.toList, List.drop_succ_cons, List.drop_zero, am_RP, am_CP, am_PH, Fin.isValue, Fin.val_zero, Fin.val_one, am_f2, am_f3, true_and, and_true, true_implies, false_implies, not_false_eq_true, ne_eq, nI_clampD, nI_leT, nI_leF, nI_ltT, nI_ltF, nI_eqT, nI_eqF, nI_lt0F, nI_0leT, nI_eq0T, nI_eq0F, nI_0ltT, nI_0ltF, nI_le0T, nI_le0F, nI_m1, nI_m1', m1_m1, m1_lt, m1_le, nI_mul, nI_add, nI_sub, nI_add1, nI_dec, nI_div, nI_mod, vp_inD, sf_nkD, sf_eqD, k9, k3]
    refine w_virtP (c_X1_writeSign g h I1 J (xs ++ (List.range' a (k - a)).map L) (L k) e3 (by rw [List.length_append, List.length_map, List.length_range']; omega)) rfl rfl rfl (of_eq_true so_58) rfl (Nat.le_refl _) (Nat.le_refl _) ?_
    rintro R1 M1 ⟨rfl, I2, rfl, f1, f2⟩
    simp (decide := true) (disch := (first | exact eq_false (by decide) | exact eq_true (by decide) | decide | omega)) only [lX1_writeAtom_0, lX1_writeAtom_10, lX1_writeAtom_42, bX1_writeAtom_0, bX1_writeAtom_10, bX1_writeAtom_42, (show qX1_writeAtom.2.2.2.1 = none from rfl), am_rok_none, w_aload_n, w_getfield, w_goto, w_iaload, w_icmp_ge, w_iinc, w_iload_n, w_istore_n, w_nop, w_return, w_swap, sa_16, sa_20, sa_22, sa_3, sa_7, sa_9, sg_15_0, sg_15_5, sg_15_7, sg_2_0, sg_2_5, sg_2_7, sg_58_0, am_lk0, am_lk1, am_ld_some, am_isI_i, am_isJ_j, am_isR_r, am_st_eq, am_rmv_nil, am_rmv_t, am_rmv_i, am_rmv_r, sf_SH, sj_SH, sf_eq, sf_nk, sf_na, sf_sf, am_args_i, am_args_r, am_args_n, Nat.reduceAdd, List.cons_append, List.nil_append, Option.toList, List.drop_succ_cons, List.drop_zero, am_RP, am_CP, am_PH, Fin.isValue, Fin.val_zero, Fin.val_one, am_f2, am_f3, true_and, and_true, true_implies, false_implies, not_false_eq_true, ne_eq, nI_clampD, nI_leT, nI_leF, nI_ltT, nI_ltF, nI_eqT, nI_eqF, nI_lt0F, nI_0leT, nI_eq0T, nI_eq0F, nI_0ltT, nI_0ltF, nI_le0T, nI_le0F, nI_m1, nI_m1', m1_m1, m1_lt, m1_le, nI_mul, nI_add, nI_sub, nI_add1, nI_dec, nI_div, nI_mod, vp_inD, sf_nkD, sf_eqD]
    refine ⟨_, _, ?_, ?_, mk (k + 1) I2 ⟨by omega, by omega⟩ (e2.tr f1) ?_⟩
    · omega
    · (simp (decide := true) only [am_has, am_lk0, am_lk1, and_self, true_and, and_true] <;> first | rfl | (refine ⟨?_, ?_⟩ <;> rfl) | (refine ⟨?_, ?_, ?_⟩ <;> rfl) | (refine ⟨?_, ?_, ?_, ?_⟩ <;> rfl))
    rw [show k + 1 - a = (k - a) + 1 by omega, List.range'_1_concat, List.map_append, List.map_cons, List.map_nil, show a + (k - a) = k by omega, ← List.append_assoc]
    exact f2
end CF1
