/-! the reference tells formulas: signs and heads -/
def OUTm (xs : List Nat) (I : Nat → Nat → Int32) : Prop := I 60 39 = nI xs.length ∧ ∀ k, k < xs.length → I 84 k = nI (xs.getD k 0)
def FrV (I I' : Nat → Nat → Int32) : Prop := (∀ c, c ≠ 60 → c ≠ 84 → I' c = I c) ∧ ∀ k, k ≠ 39 → I' 60 k = I 60 k
theorem FrV.rf (I : Nat → Nat → Int32) : FrV I I := ⟨fun _ _ _ => rfl, fun _ _ => rfl⟩
theorem FrV.tr {I I' I'' : Nat → Nat → Int32} (h : FrV I I') (h2 : FrV I' I'') : FrV I I'' := ⟨fun c d1 d2 => (h2.1 c d1 d2).trans (h.1 c d1 d2), fun k d => (h2.2 k d).trans (h.2 k d)⟩
/-- what a fragment's formula begins with -/
def hdT (L : Nat → Nat) (fs : List Fg) (f : Nat) : List Nat := if kF (nF fs f) = 0 then (List.range' (aF (nF fs f)) (cF (nF fs f) - aF (nF fs f))).map L else if kF (nF fs f) = 5 then wd0.getD 5 [] ++ [40] else wd0.getD (kF (nF fs f)) [] ++ [32, 117 + vF (nF fs f), 40]
def wprt (w : Nat) : Nat → List Nat
  | 0 => []
  | k + 1 => wprt w k ++ (if wdl.getD k 0 ≠ 59 ∧ ntl.getD k 0 = w then [wdl.getD k 0] else [])
theorem wprt_f : ∀ w, w < 5 → wprt w 23 = wd0.getD (w + 1) [] := by decide +kernel
theorem wprt_l : ∀ w, w < 5 → ∀ k, k < 24 → (wprt w k).length ≤ 5 := by decide +kernel
section MF1
variable (g : am_G) (h : Nat) (I : Nat → Nat → Int32) (J : Nat → Nat → Int64) {L : Nat → Nat} {t : Nat} {fs : List Fg}
set_option maxRecDepth 100000 in
set_option maxHeartbeats 400000 in
theorem c_X10_tells (xs : List Nat) (c : Nat) (hX : OUTm xs I) (hl : xs.length < 400) :
    am_Ctr g am_mt 1 (h + 1) 183 [.ref 60, .int (nI c)] (am_SH, I, J) 0 0 (fun r M => r = none ∧ ∃ I', M = (am_SH, I', J) ∧ FrV I I' ∧ OUTm (xs ++ [c]) I') := by
  have h3 := hX.1
  refine am_rule0 (q := qX10_tells) (B := am_blk bX10_tells) 60 rfl rfl kX10_tells nX10_tells (Nat.le_of_ble_eq_true rfl) ?_
  simp (decide := true) (disch := (first | exact eq_false (by decide) | exact eq_true (by decide) | decide | omega)) only [lX10_tells_0, bX10_tells_0, (show qX10_tells.2.2.2.1 = none from rfl), am_rok_none, w_aload_n, w_dup, w_getfield, w_iadd, w_iastore, w_iconst, w_iload_n, w_puti, w_return, sa_84, sg_60_38, sg_60_39, sp_60_39, cI_1, am_lk0, am_lk1, am_ld_some, am_isI_i, am_isJ_j, am_isR_r, am_st_eq, am_rmv_nil, am_rmv_t, am_rmv_i, am_rmv_r, sf_SH, sj_SH, sf_eq, sf_nk, sf_na, sf_sf, am_args_i, am_args_r, am_args_n, Nat.reduceAdd, List.cons_append, List.nil_append, Option.toList, List.drop_succ_cons, List.drop_zero, am_RP, am_CP, am_PH, Fin.isValue, Fin.val_zero, Fin.val_one, am_f2, am_f3, true_and, and_true, true_implies, false_implies, not_false_eq_true, ne_eq, nI_clampD, nI_leT, nI_leF, nI_ltT, nI_ltF, nI_eqT, nI_eqF, nI_lt0F, nI_0leT, nI_eq0T, nI_eq0F, nI_0ltT, nI_0ltF, nI_le0T, nI_le0F, nI_m1, nI_m1', m1_m1, m1_lt, m1_le, nI_mul, nI_add, nI_sub, nI_add1, nI_dec, nI_div, nI_mod, vp_inD, sf_nkD, sf_eqD, h3]
  refine ⟨_, rfl, ⟨fun c d1 d2 => by rw [sf_naD d1, sf_naD d2], fun k d => by rw [sf_nkD d, sf_naD (by decide)]⟩, by rw [sf_eq, List.length_append]; rfl, fun k hk => ?_⟩
  rw [List.length_append, List.length_singleton] at hk
  rw [sf_naD (by decide)]
  by_cases hkx : k = xs.length
  · rw [sf_eqD hkx, hkx, gD_new]
  · rw [sf_nkD hkx, gD_app (by omega)]; exact hX.2 k (by omega)
set_option maxRecDepth 100000 in
set_option maxHeartbeats 8000000 in
theorem c_X10_tellsHead (xs : List Nat) (f : Nat) (hS : SMd L t fs I) (hG : Good L t fs) (hW : WD I) (hX : OUTm xs I) (hf : f < fs.length) (hl : xs.length + (hdT L fs f).length ≤ 390) :
    am_Ctr g am_mt 1 (h + 2) 184 [.ref 60, .int (nI f)] (am_SH, I, J) 0 0 (fun r M => r = none ∧ ∃ I', M = (am_SH, I', J) ∧ FrV I I' ∧ OUTm (xs ++ hdT L fs f) I') := by
  have hn := hG.le
  have hk := (hS.2.1 f hf).1
  have hk6 := hG.k6 hf
  have ht : t ≤ 100 := hG.2.2.2.2.2.2.2
  by_cases h0 : kF (nF fs f) = 0
  · have hL := hG.leaf hf h0
    unfold LFt at hL
    obtain ⟨l1, l2, l3, l4, l5, l6, l7, l8⟩ := hL
    have l72 := ((hS.2.1 f hf).2.2 h0).2.2.2
    have e9 : hdT L fs f = (List.range' (aF (nF fs f)) (cF (nF fs f) - aF (nF fs f))).map L := by unfold hdT; rw [if_pos h0]
    rw [e9] at hl ⊢
    rw [List.length_map, List.length_range'] at hl
    have hend : L (cF (nF fs f) - 1) = 41 := by
      rcases l7 with ⟨-, q2, q3⟩ | ⟨-, -, q2, -, -, q3⟩
      · rw [q2]; exact q3
      · rw [q2]; exact q3
    have hmid : ∀ k, aF (nF fs f) ≤ k → k < cF (nF fs f) - 1 → L k ≠ 41 ∧ L k < 128 := by
      intro k k1 k2
      by_cases hk1 : k < bF (nF fs f)
      · have := isl_pos (l3 k k1 hk1)
        omega
      · rcases l7 with ⟨-, q2, q3⟩ | ⟨q1, q1', q2, q3, q4, q5⟩
        · have hkk : k = bF (nF fs f) ∨ k = bF (nF fs f) + 1 := by omega
          rcases hkk with h9 | h9 <;> rw [h9]
          · omega
          · omega
        · have hkk : k = bF (nF fs f) ∨ k = bF (nF fs f) + 1 ∨ k = bF (nF fs f) + 2 ∨ k = bF (nF fs f) + 3 := by omega
          rcases hkk with h9 | h9 | h9 | h9 <;> rw [h9] <;> omega
    have hcl : aF (nF fs f) < cF (nF fs f) := by rcases l7 with ⟨-, q2, -⟩ | ⟨-, -, q2, -⟩ <;> omega
    rw [h0] at hk
    generalize aF (nF fs f) = a at *
    generalize cF (nF fs f) = c at *
    obtain ⟨JJ, hJJ⟩ : ∃ JJ : Nat → am_Cut, JJ = (fun zu zpc zl zst zM zk zn => (∃ (k : Nat) (I1 : Nat → Nat → Int32), zu = c - k ∧ (a ≤ k ∧ k < c) ∧ (FrV I I1) ∧ (OUTm (xs ++ (List.range' a (k - a)).map L) I1) ∧ zpc = 16 ∧ zl = [(0, .ref 60), (1, .int (nI f)), (2, .int (nI k))] ∧ zst = [] ∧ zM = (am_SH, I1, J) ∧ zk = 0 ∧ zn = 0)) := ⟨_, rfl⟩
    have mk : ∀ (k : Nat) (I1 : Nat → Nat → Int32), (a ≤ k ∧ k < c) → (FrV I I1) → (OUTm (xs ++ (List.range' a (k - a)).map L) I1) → JJ (c - k) 16 [(0, .ref 60), (1, .int (nI f)), (2, .int (nI k))] [] (am_SH, I1, J) 0 0 := by
      intro k I1 a0 a1 a2
      rw [hJJ]
      exact ⟨k, I1, rfl, a0, a1, a2, rfl, rfl, rfl, rfl, rfl, rfl⟩
    refine am_rule2 (q := qX10_tellsHead) (B := am_blk bX10_tellsHead) rfl rfl kX10_tellsHead nX10_tellsHead (Nat.le_of_ble_eq_true rfl) JJ (fun zu zpc zl zst zM zk zn hj => ?_) ?_
    rotate_left
    · refine ⟨60, ?_⟩
      simp (decide := true) (disch := (first | exact eq_false (by decide) | exact eq_true (by decide) | decide | omega)) only [lX10_tellsHead_0, lX10_tellsHead_16, lX10_tellsHead_43, bX10_tellsHead_0, bX10_tellsHead_16, bX10_tellsHead_43, (show qX10_tellsHead.2.2.2.1 = none from rfl), am_rok_none, w_alen_38, w_alen_45, w_alen_55, w_alen_67, w_aload_n, w_bipush, w_caload, w_getfield, w_goto, w_iadd, w_iaload, w_icmp_eq, w_icmp_ge, w_icmp_ne, w_iconst, w_if_ne, w_iinc, w_iload, w_iload_n, w_istore, w_istore_n, w_isub, w_nop, w_return, w_swap, sa_67, sa_68, sa_69, sa_72, sa_73, sg_60_14, sg_60_17, sg_60_18, sg_60_21, sg_60_22, cB_117, cB_32, cB_40, cB_41, cB_59, cI_0, cI_1, cI_5, am_lk0, am_lk1, am_ld_some, am_isI_i, am_isJ_j, am_isR_r, am_st_eq, am_rmv_nil, am_rmv_t, am_rmv_i, am_rmv_r, sf_SH, sj_SH, sf_eq, sf_nk, sf_na, sf_sf, am_args_i, am_args_r, am_args_n, Nat.reduceAdd, List.cons_append, List.nil_append, Option.toList, List.drop_succ_cons, List.drop_zero, am_RP, am_CP, am_PH, Fin.isValue, Fin.val_zero, Fin.val_one, am_f2, am_f3, true_and, and_true, true_implies, false_implies, not_false_eq_true, ne_eq, nI_clampD, nI_leT, nI_leF, nI_ltT, nI_ltF, nI_eqT, nI_eqF, nI_lt0F, nI_0leT, nI_eq0T, nI_eq0F, nI_0ltT, nI_0ltF, nI_le0T, nI_le0F, nI_m1, nI_m1', m1_m1, m1_lt, m1_le, nI_mul, nI_add, nI_sub, nI_add1, nI_dec, nI_div, nI_mod, vp_inD, sf_nkD, sf_eqD, hk, l72]
      refine ⟨_, _, ?_, mk a I ⟨Nat.le_refl _, hcl⟩ (FrV.rf I) (by rw [Nat.sub_self]; simp only [List.range'_zero, List.map_nil, List.append_nil]; exact hX)⟩
      · (simp (decide := true) only [am_has, am_lk0, am_lk1, and_self, true_and, and_true] <;> first | rfl | (refine ⟨?_, ?_⟩ <;> rfl) | (refine ⟨?_, ?_, ?_⟩ <;> rfl) | (refine ⟨?_, ?_, ?_, ?_⟩ <;> rfl))
    rw [hJJ] at hj
    clear hJJ
    obtain ⟨k, I1, rfl, e1, e2, e3, rfl, rfl, rfl, rfl, rfl, rfl⟩ := hj
    refine ⟨_, 60, rfl, rfl, ?_⟩
    obtain ⟨e1, e4⟩ := e1
    have k73 : I1 73 k = nI (L k) := by rw [e2.1 73 (by decide) (by decide)]; exact hS.2.2.2.2 k (by omega)
    have hlx : (xs ++ (List.range' a (k - a)).map L).length = xs.length + (k - a) := by rw [List.length_append, List.length_map, List.length_range']
    have hcc : (List.range' a (k + 1 - a)).map L = (List.range' a (k - a)).map L ++ [L k] := by
      rw [show k + 1 - a = (k - a) + 1 by omega, List.range'_1_concat, List.map_append, List.map_cons, List.map_nil, show a + (k - a) = k by omega]
    by_cases hkc : k = c - 1
    · have h41 : L k = 41 := by rw [hkc]; exact hend
      simp (decide := true) (disch := (first | exact eq_false (by decide) | exact eq_true (by decide) | decide | omega)) only [lX10_tellsHead_0, lX10_tellsHead_16, lX10_tellsHead_43, bX10_tellsHead_0, bX10_tellsHead_16, bX10_tellsHead_43, (show qX10_tellsHead.2.2.2.1 = none from rfl), am_rok_none, w_alen_38, w_alen_45, w_alen_55, w_alen_67, w_aload_n, w_bipush, w_caload, w_getfield, w_goto, w_iadd, w_iaload, w_icmp_eq, w_icmp_ge, w_icmp_ne, w_iconst, w_if_ne, w_iinc, w_iload, w_iload_n, w_istore, w_istore_n, w_isub, w_nop, w_return, w_swap, sa_67, sa_68, sa_69, sa_72, sa_73, sg_60_14, sg_60_17, sg_60_18, sg_60_21, sg_60_22, cB_117, cB_32, cB_40, cB_41, cB_59, cI_0, cI_1, cI_5, am_lk0, am_lk1, am_ld_some, am_isI_i, am_isJ_j, am_isR_r, am_st_eq, am_rmv_nil, am_rmv_t, am_rmv_i, am_rmv_r, sf_SH, sj_SH, sf_eq, sf_nk, sf_na, sf_sf, am_args_i, am_args_r, am_args_n, Nat.reduceAdd, List.cons_append, List.nil_append, Option.toList, List.drop_succ_cons, List.drop_zero, am_RP, am_CP, am_PH, Fin.isValue, Fin.val_zero, Fin.val_one, am_f2, am_f3, true_and, and_true, true_implies, false_implies, not_false_eq_true, ne_eq, nI_clampD, nI_leT, nI_leF, nI_ltT, nI_ltF, nI_eqT, nI_eqF, nI_lt0F, nI_0leT, nI_eq0T, nI_eq0F, nI_0ltT, nI_0ltF, nI_le0T, nI_le0F, nI_m1, nI_m1', m1_m1, m1_lt, m1_le, nI_mul, nI_add, nI_sub, nI_add1, nI_dec, nI_div, nI_mod, vp_inD, sf_nkD, sf_eqD, k73, h41]
      refine w_virtP (c_X10_tells g h I1 J _ 41 e3 (by omega)) rfl rfl rfl (of_eq_true so_60) rfl (Nat.le_refl _) (Nat.le_refl _) ?_
      rintro R1 M1 ⟨rfl, I2, rfl, f1, f2⟩
      simp (decide := true) (disch := (first | exact eq_false (by decide) | exact eq_true (by decide) | decide | omega)) only [lX10_tellsHead_0, lX10_tellsHead_16, lX10_tellsHead_43, bX10_tellsHead_0, bX10_tellsHead_16, bX10_tellsHead_43, (show qX10_tellsHead.2.2.2.1 = none from rfl), am_rok_none, w_alen_38, w_alen_45, w_alen_55, w_alen_67, w_aload_n, w_bipush, w_caload, w_getfield, w_goto, w_iadd, w_iaload, w_icmp_eq, w_icmp_ge, w_icmp_ne, w_iconst, w_if_ne, w_iinc, w_iload, w_iload_n, w_istore, w_istore_n, w_isub, w_nop, w_return, w_swap, sa_67, sa_68, sa_69, sa_72, sa_73, sg_60_14, sg_60_17, sg_60_18, sg_60_21, sg_60_22, cB_117, cB_32, cB_40, cB_41, cB_59, cI_0, cI_1, cI_5, am_lk0, am_lk1, am_ld_some, am_isI_i, am_isJ_j, am_isR_r, am_st_eq, am_rmv_nil, am_rmv_t, am_rmv_i, am_rmv_r, sf_SH, sj_SH, sf_eq, sf_nk, sf_na, sf_sf, am_args_i, am_args_r, am_args_n, Nat.reduceAdd, List.cons_append, List.nil_append, Option.toList, List.drop_succ_cons, List.drop_zero, am_RP, am_CP, am_PH, Fin.isValue, Fin.val_zero, Fin.val_one, am_f2, am_f3, true_and, and_true, true_implies, false_implies, not_false_eq_true, ne_eq, nI_clampD, nI_leT, nI_leF, nI_ltT, nI_ltF, nI_eqT, nI_eqF, nI_lt0F, nI_0leT, nI_eq0T, nI_eq0F, nI_0ltT, nI_0ltF, nI_le0T, nI_le0F, nI_m1, nI_m1', m1_m1, m1_lt, m1_le, nI_mul, nI_add, nI_sub, nI_add1, nI_dec, nI_div, nI_mod, vp_inD, sf_nkD, sf_eqD]
      refine ⟨I2, rfl, e2.tr f1, ?_⟩
      rw [show c - a = k + 1 - a by omega, hcc, h41, ← List.append_assoc]
      exact f2
    · have hm := hmid k e1 (by omega)
      simp (decide := true) (disch := (first | exact eq_false (by decide) | exact eq_true (by decide) | decide | omega)) only [lX10_tellsHead_0, lX10_tellsHead_16, lX10_tellsHead_43, bX10_tellsHead_0, bX10_tellsHead_16, bX10_tellsHead_43, (show qX10_tellsHead.2.2.2.1 = none from rfl), am_rok_none, w_alen_38, w_alen_45, w_alen_55, w_alen_67, w_aload_n, w_bipush, w_caload, w_getfield, w_goto, w_iadd, w_iaload, w_icmp_eq, w_icmp_ge, w_icmp_ne, w_iconst, w_if_ne, w_iinc, w_iload, w_iload_n, w_istore, w_istore_n, w_isub, w_nop, w_return, w_swap, sa_67, sa_68, sa_69, sa_72, sa_73, sg_60_14, sg_60_17, sg_60_18, sg_60_21, sg_60_22, cB_117, cB_32, cB_40, cB_41, cB_59, cI_0, cI_1, cI_5, am_lk0, am_lk1, am_ld_some, am_isI_i, am_isJ_j, am_isR_r, am_st_eq, am_rmv_nil, am_rmv_t, am_rmv_i, am_rmv_r, sf_SH, sj_SH, sf_eq, sf_nk, sf_na, sf_sf, am_args_i, am_args_r, am_args_n, Nat.reduceAdd, List.cons_append, List.nil_append, Option.toList, List.drop_succ_cons, List.drop_zero, am_RP, am_CP, am_PH, Fin.isValue, Fin.val_zero, Fin.val_one, am_f2, am_f3, true_and, and_true, true_implies, false_implies, not_false_eq_true, ne_eq, nI_clampD, nI_leT, nI_leF, nI_ltT, nI_ltF, nI_eqT, nI_eqF, nI_lt0F, nI_0leT, nI_eq0T, nI_eq0F, nI_0ltT, nI_0ltF, nI_le0T, nI_le0F, nI_m1, nI_m1', m1_m1, m1_lt, m1_le, nI_mul, nI_add, nI_sub, nI_add1, nI_dec, nI_div, nI_mod, vp_inD, sf_nkD, sf_eqD, k73]
      refine w_virtP (c_X10_tells g h I1 J _ (L k) e3 (by omega)) rfl rfl rfl (of_eq_true so_60) rfl (Nat.le_refl _) (Nat.le_refl _) ?_
      rintro R1 M1 ⟨rfl, I2, rfl, f1, f2⟩
      simp (decide := true) (disch := (first | exact eq_false (by decide) | exact eq_true (by decide) | decide | omega)) only [lX10_tellsHead_0, lX10_tellsHead_16, lX10_tellsHead_43, bX10_tellsHead_0, bX10_tellsHead_16, bX10_tellsHead_43, (show qX10_tellsHead.2.2.2.1 = none from rfl), am_rok_none, w_alen_38, w_alen_45, w_alen_55, w_alen_67, w_aload_n, w_bipush, w_caload, w_getfield, w_goto, w_iadd, w_iaload, w_icmp_eq, w_icmp_ge, w_icmp_ne, w_iconst, w_if_ne, w_iinc, w_iload, w_iload_n, w_istore, w_istore_n, w_isub, w_nop, w_return, w_swap, sa_67, sa_68, sa_69, sa_72, sa_73, sg_60_14, sg_60_17, sg_60_18, sg_60_21, sg_60_22, cB_117, cB_32, cB_40, cB_41, cB_59, cI_0, cI_1, cI_5, am_lk0, am_lk1, am_ld_some, am_isI_i, am_isJ_j, am_isR_r, am_st_eq, am_rmv_nil, am_rmv_t, am_rmv_i, am_rmv_r, sf_SH, sj_SH, sf_eq, sf_nk, sf_na, sf_sf, am_args_i, am_args_r, am_args_n, Nat.reduceAdd, List.cons_append, List.nil_append, Option.toList, List.drop_succ_cons, List.drop_zero, am_RP, am_CP, am_PH, Fin.isValue, Fin.val_zero, Fin.val_one, am_f2, am_f3, true_and, and_true, true_implies, false_implies, not_false_eq_true, ne_eq, nI_clampD, nI_leT, nI_leF, nI_ltT, nI_ltF, nI_eqT, nI_eqF, nI_lt0F, nI_0leT, nI_eq0T, nI_eq0F, nI_0ltT, nI_0ltF, nI_le0T, nI_le0F, nI_m1, nI_m1', m1_m1, m1_lt, m1_le, nI_mul, nI_add, nI_sub, nI_add1, nI_dec, nI_div, nI_mod, vp_inD, sf_nkD, sf_eqD]
      refine ⟨_, _, ?_, ?_, mk (k + 1) I2 ⟨by omega, by omega⟩ (e2.tr f1) ?_⟩
      · omega
      · (simp (decide := true) only [am_has, am_lk0, am_lk1, and_self, true_and, and_true] <;> first | rfl | (refine ⟨?_, ?_⟩ <;> rfl) | (refine ⟨?_, ?_, ?_⟩ <;> rfl) | (refine ⟨?_, ?_, ?_, ?_⟩ <;> rfl))
      rw [hcc, ← List.append_assoc]
      exact f2
  · obtain ⟨w, hw⟩ : ∃ w, w = kF (nF fs f) - 1 := ⟨_, rfl⟩
    have hw5 : w < 5 := by omega
    have hkw : kF (nF fs f) = w + 1 := by omega
    have hfin := wprt_f w hw5
    have hwl : ∀ k, k < 24 → (wprt w k).length ≤ 5 := wprt_l w hw5
    have hl5 := hwl 23 (by omega)
    rw [hfin] at hl5
    have hlx : xs.length ≤ 390 := by omega
    rw [hkw] at hk
    obtain ⟨JJ, hJJ⟩ : ∃ JJ : Nat → am_Cut, JJ = (fun zu zpc zl zst zM zk zn => (∃ (k : Nat) (I1 : Nat → Nat → Int32), zu = 23 - k ∧ (k ≤ 23) ∧ (FrV I I1) ∧ (OUTm (xs ++ wprt w k) I1) ∧ zpc = 64 ∧ zl = [(0, .ref 60), (1, .int (nI f)), (2, .int (nI (ntl.getD k 0))), (3, .int (nI w)), (4, .int (nI k))] ∧ zst = [] ∧ zM = (am_SH, I1, J) ∧ zk = 0 ∧ zn = 0)) := ⟨_, rfl⟩
    have mk : ∀ (k : Nat) (I1 : Nat → Nat → Int32), (k ≤ 23) → (FrV I I1) → (OUTm (xs ++ wprt w k) I1) → JJ (23 - k) 64 [(0, .ref 60), (1, .int (nI f)), (2, .int (nI (ntl.getD k 0))), (3, .int (nI w)), (4, .int (nI k))] [] (am_SH, I1, J) 0 0 := by
      intro k I1 a0 a1 a2
      rw [hJJ]
      exact ⟨k, I1, rfl, a0, a1, a2, rfl, rfl, rfl, rfl, rfl, rfl⟩
    refine am_rule2 (q := qX10_tellsHead) (B := am_blk bX10_tellsHead) rfl rfl kX10_tellsHead nX10_tellsHead (Nat.le_of_ble_eq_true rfl) JJ (fun zu zpc zl zst zM zk zn hj => ?_) ?_
    rotate_left
    · refine ⟨60, ?_⟩
      have hw1 : w + 1 - 1 = w := rfl
      simp (decide := true) (disch := (first | exact eq_false (by decide) | exact eq_true (by decide) | decide | omega)) only [lX10_tellsHead_0, lX10_tellsHead_50, lX10_tellsHead_64, bX10_tellsHead_0, bX10_tellsHead_50, bX10_tellsHead_64, (show qX10_tellsHead.2.2.2.1 = none from rfl), am_rok_none, w_alen_38, w_alen_45, w_alen_55, w_alen_67, w_aload_n, w_bipush, w_caload, w_getfield, w_goto, w_iadd, w_iaload, w_icmp_eq, w_icmp_ge, w_icmp_ne, w_iconst, w_if_ne, w_iinc, w_iload, w_iload_n, w_istore, w_istore_n, w_isub, w_nop, w_return, w_swap, sa_67, sa_68, sa_69, sa_72, sa_73, sg_60_14, sg_60_17, sg_60_18, sg_60_21, sg_60_22, cB_117, cB_32, cB_40, cB_41, cB_59, cI_0, cI_1, cI_5, am_lk0, am_lk1, am_ld_some, am_isI_i, am_isJ_j, am_isR_r, am_st_eq, am_rmv_nil, am_rmv_t, am_rmv_i, am_rmv_r, sf_SH, sj_SH, sf_eq, sf_nk, sf_na, sf_sf, am_args_i, am_args_r, am_args_n, Nat.reduceAdd, List.cons_append, List.nil_append, Option.toList, List.drop_succ_cons, List.drop_zero, am_RP, am_CP, am_PH, Fin.isValue, Fin.val_zero, Fin.val_one, am_f2, am_f3, true_and, and_true, true_implies, false_implies, not_false_eq_true, ne_eq, nI_clampD, nI_leT, nI_leF, nI_ltT, nI_ltF, nI_eqT, nI_eqF, nI_lt0F, nI_0leT, nI_eq0T, nI_eq0F, nI_0ltT, nI_0ltF, nI_le0T, nI_le0F, nI_m1, nI_m1', m1_m1, m1_lt, m1_le, nI_mul, nI_add, nI_sub, nI_add1, nI_dec, nI_div, nI_mod, vp_inD, sf_nkD, sf_eqD, hk, hw1]
      refine ⟨_, _, ?_, mk 0 I (Nat.zero_le _) (FrV.rf I) (by rw [show wprt w 0 = [] from rfl, List.append_nil]; exact hX)⟩
      · (simp (decide := true) only [am_has, am_lk0, am_lk1, and_self, true_and, and_true] <;> first | rfl | (refine ⟨?_, ?_⟩ <;> rfl) | (refine ⟨?_, ?_, ?_⟩ <;> rfl) | (refine ⟨?_, ?_, ?_, ?_⟩ <;> rfl))
    rw [hJJ] at hj
    clear hJJ
    obtain ⟨k, I1, rfl, e1, e2, e3, rfl, rfl, rfl, rfl, rfl, rfl⟩ := hj
    refine ⟨_, 90, rfl, rfl, ?_⟩
    have hlk : (xs ++ wprt w k).length ≤ 395 := by rw [List.length_append]; have := hwl k (by omega); omega
    by_cases hk23 : k = 23
    · subst hk23
      rw [hfin] at e3 hlk
      have k68 : I1 68 f = nI (w + 1) := by rw [e2.1 68 (by decide) (by decide)]; exact hk
      by_cases h5 : w = 4
      · have e9 : hdT L fs f = wd0.getD (w + 1) [] ++ [40] := by unfold hdT; rw [if_neg h0, if_pos (by omega), h5]
        rw [e9]
        simp (decide := true) (disch := (first | exact eq_false (by decide) | exact eq_true (by decide) | decide | omega)) only [lX10_tellsHead_0, lX10_tellsHead_50, lX10_tellsHead_64, lX10_tellsHead_92, lX10_tellsHead_108, lX10_tellsHead_114, lX10_tellsHead_143, bX10_tellsHead_0, bX10_tellsHead_50, bX10_tellsHead_64, bX10_tellsHead_92, bX10_tellsHead_108, bX10_tellsHead_114, bX10_tellsHead_143, (show qX10_tellsHead.2.2.2.1 = none from rfl), am_rok_none, w_alen_38, w_alen_45, w_alen_55, w_alen_67, w_aload_n, w_bipush, w_caload, w_getfield, w_goto, w_iadd, w_iaload, w_icmp_eq, w_icmp_ge, w_icmp_ne, w_iconst, w_if_ne, w_iinc, w_iload, w_iload_n, w_istore, w_istore_n, w_isub, w_nop, w_return, w_swap, sa_67, sa_68, sa_69, sa_72, sa_73, sg_60_14, sg_60_17, sg_60_18, sg_60_21, sg_60_22, cB_117, cB_32, cB_40, cB_41, cB_59, cI_0, cI_1, cI_5, am_lk0, am_lk1, am_ld_some, am_isI_i, am_isJ_j, am_isR_r, am_st_eq, am_rmv_nil, am_rmv_t, am_rmv_i, am_rmv_r, sf_SH, sj_SH, sf_eq, sf_nk, sf_na, sf_sf, am_args_i, am_args_r, am_args_n, Nat.reduceAdd, List.cons_append, List.nil_append, Option.toList, List.drop_succ_cons, List.drop_zero, am_RP, am_CP, am_PH, Fin.isValue, Fin.val_zero, Fin.val_one, am_f2, am_f3, true_and, and_true, true_implies, false_implies, not_false_eq_true, ne_eq, nI_clampD, nI_leT, nI_leF, nI_ltT, nI_ltF, nI_eqT, nI_eqF, nI_lt0F, nI_0leT, nI_eq0T, nI_eq0F, nI_0ltT, nI_0ltF, nI_le0T, nI_le0F, nI_m1, nI_m1', m1_m1, m1_lt, m1_le, nI_mul, nI_add, nI_sub, nI_add1, nI_dec, nI_div, nI_mod, vp_inD, sf_nkD, sf_eqD, k68]
        refine w_virtP (c_X10_tells g h I1 J _ 40 e3 (by omega)) rfl rfl rfl (of_eq_true so_60) rfl (Nat.le_refl _) (Nat.le_refl _) ?_
        rintro R1 M1 ⟨rfl, I2, rfl, f1, f2⟩
        simp (decide := true) (disch := (first | exact eq_false (by decide) | exact eq_true (by decide) | decide | omega)) only [lX10_tellsHead_0, lX10_tellsHead_50, lX10_tellsHead_64, lX10_tellsHead_92, lX10_tellsHead_108, lX10_tellsHead_114, lX10_tellsHead_143, bX10_tellsHead_0, bX10_tellsHead_50, bX10_tellsHead_64, bX10_tellsHead_92, bX10_tellsHead_108, bX10_tellsHead_114, bX10_tellsHead_143, (show qX10_tellsHead.2.2.2.1 = none from rfl), am_rok_none, w_alen_38, w_alen_45, w_alen_55, w_alen_67, w_aload_n, w_bipush, w_caload, w_getfield, w_goto, w_iadd, w_iaload, w_icmp_eq, w_icmp_ge, w_icmp_ne, w_iconst, w_if_ne, w_iinc, w_iload, w_iload_n, w_istore, w_istore_n, w_isub, w_nop, w_return, w_swap, sa_67, sa_68, sa_69, sa_72, sa_73, sg_60_14, sg_60_17, sg_60_18, sg_60_21, sg_60_22, cB_117, cB_32, cB_40, cB_41, cB_59, cI_0, cI_1, cI_5, am_lk0, am_lk1, am_ld_some, am_isI_i, am_isJ_j, am_isR_r, am_st_eq, am_rmv_nil, am_rmv_t, am_rmv_i, am_rmv_r, sf_SH, sj_SH, sf_eq, sf_nk, sf_na, sf_sf, am_args_i, am_args_r, am_args_n, Nat.reduceAdd, List.cons_append, List.nil_append, Option.toList, List.drop_succ_cons, List.drop_zero, am_RP, am_CP, am_PH, Fin.isValue, Fin.val_zero, Fin.val_one, am_f2, am_f3, true_and, and_true, true_implies, false_implies, not_false_eq_true, ne_eq, nI_clampD, nI_leT, nI_leF, nI_ltT, nI_ltF, nI_eqT, nI_eqF, nI_lt0F, nI_0leT, nI_eq0T, nI_eq0F, nI_0ltT, nI_0ltF, nI_le0T, nI_le0F, nI_m1, nI_m1', m1_m1, m1_lt, m1_le, nI_mul, nI_add, nI_sub, nI_add1, nI_dec, nI_div, nI_mod, vp_inD, sf_nkD, sf_eqD]
        exact ⟨I2, rfl, e2.tr f1, by rw [← List.append_assoc]; exact f2⟩
      · have hr : rk (kF (nF fs f)) = 2 := by unfold rk; rw [if_neg h0, if_neg (by omega)]
        have e9 : hdT L fs f = wd0.getD (w + 1) [] ++ [32, 117 + vF (nF fs f), 40] := by unfold hdT; rw [if_neg h0, if_neg (by omega), hkw]
        rw [e9]
        have k69 := (hS.2.1 f hf).2.1 hr
        simp (decide := true) (disch := (first | exact eq_false (by decide) | exact eq_true (by decide) | decide | omega)) only [lX10_tellsHead_0, lX10_tellsHead_50, lX10_tellsHead_64, lX10_tellsHead_92, lX10_tellsHead_108, lX10_tellsHead_114, bX10_tellsHead_0, bX10_tellsHead_50, bX10_tellsHead_64, bX10_tellsHead_92, bX10_tellsHead_108, bX10_tellsHead_114, (show qX10_tellsHead.2.2.2.1 = none from rfl), am_rok_none, w_alen_38, w_alen_45, w_alen_55, w_alen_67, w_aload_n, w_bipush, w_caload, w_getfield, w_goto, w_iadd, w_iaload, w_icmp_eq, w_icmp_ge, w_icmp_ne, w_iconst, w_if_ne, w_iinc, w_iload, w_iload_n, w_istore, w_istore_n, w_isub, w_nop, w_return, w_swap, sa_67, sa_68, sa_69, sa_72, sa_73, sg_60_14, sg_60_17, sg_60_18, sg_60_21, sg_60_22, cB_117, cB_32, cB_40, cB_41, cB_59, cI_0, cI_1, cI_5, am_lk0, am_lk1, am_ld_some, am_isI_i, am_isJ_j, am_isR_r, am_st_eq, am_rmv_nil, am_rmv_t, am_rmv_i, am_rmv_r, sf_SH, sj_SH, sf_eq, sf_nk, sf_na, sf_sf, am_args_i, am_args_r, am_args_n, Nat.reduceAdd, List.cons_append, List.nil_append, Option.toList, List.drop_succ_cons, List.drop_zero, am_RP, am_CP, am_PH, Fin.isValue, Fin.val_zero, Fin.val_one, am_f2, am_f3, true_and, and_true, true_implies, false_implies, not_false_eq_true, ne_eq, nI_clampD, nI_leT, nI_leF, nI_ltT, nI_ltF, nI_eqT, nI_eqF, nI_lt0F, nI_0leT, nI_eq0T, nI_eq0F, nI_0ltT, nI_0ltF, nI_le0T, nI_le0F, nI_m1, nI_m1', m1_m1, m1_lt, m1_le, nI_mul, nI_add, nI_sub, nI_add1, nI_dec, nI_div, nI_mod, vp_inD, sf_nkD, sf_eqD, k68]
        refine w_virtP (c_X10_tells g h I1 J _ 32 e3 (by omega)) rfl rfl rfl (of_eq_true so_60) rfl (Nat.le_refl _) (Nat.le_refl _) ?_
        rintro R1 M1 ⟨rfl, I2, rfl, f1, f2⟩
        have k69' : I2 69 f = nI (vF (nF fs f)) := by rw [f1.1 69 (by decide) (by decide), e2.1 69 (by decide) (by decide)]; exact k69
        simp (decide := true) (disch := (first | exact eq_false (by decide) | exact eq_true (by decide) | decide | omega)) only [lX10_tellsHead_0, lX10_tellsHead_50, lX10_tellsHead_64, lX10_tellsHead_92, lX10_tellsHead_108, lX10_tellsHead_114, bX10_tellsHead_0, bX10_tellsHead_50, bX10_tellsHead_64, bX10_tellsHead_92, bX10_tellsHead_108, bX10_tellsHead_114, (show qX10_tellsHead.2.2.2.1 = none from rfl), am_rok_none, w_alen_38, w_alen_45, w_alen_55, w_alen_67, w_aload_n, w_bipush, w_caload, w_getfield, w_goto, w_iadd, w_iaload, w_icmp_eq, w_icmp_ge, w_icmp_ne, w_iconst, w_if_ne, w_iinc, w_iload, w_iload_n, w_istore, w_istore_n, w_isub, w_nop, w_return, w_swap, sa_67, sa_68, sa_69, sa_72, sa_73, sg_60_14, sg_60_17, sg_60_18, sg_60_21, sg_60_22, cB_117, cB_32, cB_40, cB_41, cB_59, cI_0, cI_1, cI_5, am_lk0, am_lk1, am_ld_some, am_isI_i, am_isJ_j, am_isR_r, am_st_eq, am_rmv_nil, am_rmv_t, am_rmv_i, am_rmv_r, sf_SH, sj_SH, sf_eq, sf_nk, sf_na, sf_sf, am_args_i, am_args_r, am_args_n, Nat.reduceAdd, List.cons_append, List.nil_append, Option.toList, List.drop_succ_cons, List.drop_zero, am_RP, am_CP, am_PH, Fin.isValue, Fin.val_zero, Fin.val_one, am_f2, am_f3, true_and, and_true, true_implies, false_implies, not_false_eq_true, ne_eq, nI_clampD, nI_leT, nI_leF, nI_ltT, nI_ltF, nI_eqT, nI_eqF, nI_lt0F, nI_0leT, nI_eq0T, nI_eq0F, nI_0ltT, nI_0ltF, nI_le0T, nI_le0F, nI_m1, nI_m1', m1_m1, m1_lt, m1_le, nI_mul, nI_add, nI_sub, nI_add1, nI_dec, nI_div, nI_mod, vp_inD, sf_nkD, sf_eqD, k69']
        refine w_virtP (c_X10_tells g h I2 J _ (117 + vF (nF fs f)) f2 (by rw [List.length_append, List.length_singleton]; omega)) rfl rfl rfl (of_eq_true so_60) rfl (Nat.le_refl _) (Nat.le_refl _) ?_
        rintro R1 M1 ⟨rfl, I3, rfl, f3, f4⟩
        simp (decide := true) (disch := (first | exact eq_false (by decide) | exact eq_true (by decide) | decide | omega)) only [lX10_tellsHead_0, lX10_tellsHead_50, lX10_tellsHead_64, lX10_tellsHead_92, lX10_tellsHead_108, lX10_tellsHead_114, lX10_tellsHead_143, bX10_tellsHead_0, bX10_tellsHead_50, bX10_tellsHead_64, bX10_tellsHead_92, bX10_tellsHead_108, bX10_tellsHead_114, bX10_tellsHead_143, (show qX10_tellsHead.2.2.2.1 = none from rfl), am_rok_none, w_alen_38, w_alen_45, w_alen_55, w_alen_67, w_aload_n, w_bipush, w_caload, w_getfield, w_goto, w_iadd, w_iaload, w_icmp_eq, w_icmp_ge, w_icmp_ne, w_iconst, w_if_ne, w_iinc, w_iload, w_iload_n, w_istore, w_istore_n, w_isub, w_nop, w_return, w_swap, sa_67, sa_68, sa_69, sa_72, sa_73, sg_60_14, sg_60_17, sg_60_18, sg_60_21, sg_60_22, cB_117, cB_32, cB_40, cB_41, cB_59, cI_0, cI_1, cI_5, am_lk0, am_lk1, am_ld_some, am_isI_i, am_isJ_j, am_isR_r, am_st_eq, am_rmv_nil, am_rmv_t, am_rmv_i, am_rmv_r, sf_SH, sj_SH, sf_eq, sf_nk, sf_na, sf_sf, am_args_i, am_args_r, am_args_n, Nat.reduceAdd, List.cons_append, List.nil_append, Option.toList, List.drop_succ_cons, List.drop_zero, am_RP, am_CP, am_PH, Fin.isValue, Fin.val_zero, Fin.val_one, am_f2, am_f3, true_and, and_true, true_implies, false_implies, not_false_eq_true, ne_eq, nI_clampD, nI_leT, nI_leF, nI_ltT, nI_ltF, nI_eqT, nI_eqF, nI_lt0F, nI_0leT, nI_eq0T, nI_eq0F, nI_0ltT, nI_0ltF, nI_le0T, nI_le0F, nI_m1, nI_m1', m1_m1, m1_lt, m1_le, nI_mul, nI_add, nI_sub, nI_add1, nI_dec, nI_div, nI_mod, vp_inD, sf_nkD, sf_eqD]
        refine w_virtP (c_X10_tells g h I3 J _ 40 f4 (by rw [List.length_append, List.length_append, List.length_singleton, List.length_singleton]; omega)) rfl rfl rfl (of_eq_true so_60) rfl (Nat.le_refl _) (Nat.le_refl _) ?_
        rintro R1 M1 ⟨rfl, I4, rfl, f5, f6⟩
        simp (decide := true) (disch := (first | exact eq_false (by decide) | exact eq_true (by decide) | decide | omega)) only [lX10_tellsHead_0, lX10_tellsHead_50, lX10_tellsHead_64, lX10_tellsHead_92, lX10_tellsHead_108, lX10_tellsHead_114, lX10_tellsHead_143, bX10_tellsHead_0, bX10_tellsHead_50, bX10_tellsHead_64, bX10_tellsHead_92, bX10_tellsHead_108, bX10_tellsHead_114, bX10_tellsHead_143, (show qX10_tellsHead.2.2.2.1 = none from rfl), am_rok_none, w_alen_38, w_alen_45, w_alen_55, w_alen_67, w_aload_n, w_bipush, w_caload, w_getfield, w_goto, w_iadd, w_iaload, w_icmp_eq, w_icmp_ge, w_icmp_ne, w_iconst, w_if_ne, w_iinc, w_iload, w_iload_n, w_istore, w_istore_n, w_isub, w_nop, w_return, w_swap, sa_67, sa_68, sa_69, sa_72, sa_73, sg_60_14, sg_60_17, sg_60_18, sg_60_21, sg_60_22, cB_117, cB_32, cB_40, cB_41, cB_59, cI_0, cI_1, cI_5, am_lk0, am_lk1, am_ld_some, am_isI_i, am_isJ_j, am_isR_r, am_st_eq, am_rmv_nil, am_rmv_t, am_rmv_i, am_rmv_r, sf_SH, sj_SH, sf_eq, sf_nk, sf_na, sf_sf, am_args_i, am_args_r, am_args_n, Nat.reduceAdd, List.cons_append, List.nil_append, Option.toList, List.drop_succ_cons, List.drop_zero, am_RP, am_CP, am_PH, Fin.isValue, Fin.val_zero, Fin.val_one, am_f2, am_f3, true_and, and_true, true_implies, false_implies, not_false_eq_true, ne_eq, nI_clampD, nI_leT, nI_leF, nI_ltT, nI_ltF, nI_eqT, nI_eqF, nI_lt0F, nI_0leT, nI_eq0T, nI_eq0F, nI_0ltT, nI_0ltF, nI_le0T, nI_le0F, nI_m1, nI_m1', m1_m1, m1_lt, m1_le, nI_mul, nI_add, nI_sub, nI_add1, nI_dec, nI_div, nI_mod, vp_inD, sf_nkD, sf_eqD]
        refine ⟨I4, rfl, ((e2.tr f1).tr f3).tr f5, ?_⟩
        simp only [List.append_assoc, List.cons_append, List.nil_append] at f6 ⊢
        exact f6
    · obtain ⟨q1, q2, q3, q4, q5, q6⟩ := wdl_s (k := k) (by omega)
      have k67 : I1 67 k = nI (wdl.getD k 0) := by rw [e2.1 67 (by decide) (by decide)]; exact hW k (by omega)
      have hws : wprt w (k + 1) = wprt w k ++ (if wdl.getD k 0 ≠ 59 ∧ ntl.getD k 0 = w then [wdl.getD k 0] else []) := rfl
      by_cases h59 : wdl.getD k 0 = 59
      · have hn1 := (q5 h59).1
        rw [if_neg (fun h9 => h9.1 h59), List.append_nil] at hws
        have mk9 := mk (k + 1) I1 (by omega) e2 (by rw [hws]; exact e3)
        rw [hn1] at mk9
        rw [h59] at k67
        simp (decide := true) (disch := (first | exact eq_false (by decide) | exact eq_true (by decide) | decide | omega)) only [lX10_tellsHead_0, lX10_tellsHead_50, lX10_tellsHead_64, lX10_tellsHead_92, lX10_tellsHead_108, bX10_tellsHead_0, bX10_tellsHead_50, bX10_tellsHead_64, bX10_tellsHead_92, bX10_tellsHead_108, (show qX10_tellsHead.2.2.2.1 = none from rfl), am_rok_none, w_alen_38, w_alen_45, w_alen_55, w_alen_67, w_aload_n, w_bipush, w_caload, w_getfield, w_goto, w_iadd, w_iaload, w_icmp_eq, w_icmp_ge, w_icmp_ne, w_iconst, w_if_ne, w_iinc, w_iload, w_iload_n, w_istore, w_istore_n, w_isub, w_nop, w_return, w_swap, sa_67, sa_68, sa_69, sa_72, sa_73, sg_60_14, sg_60_17, sg_60_18, sg_60_21, sg_60_22, cB_117, cB_32, cB_40, cB_41, cB_59, cI_0, cI_1, cI_5, am_lk0, am_lk1, am_ld_some, am_isI_i, am_isJ_j, am_isR_r, am_st_eq, am_rmv_nil, am_rmv_t, am_rmv_i, am_rmv_r, sf_SH, sj_SH, sf_eq, sf_nk, sf_na, sf_sf, am_args_i, am_args_r, am_args_n, Nat.reduceAdd, List.cons_append, List.nil_append, Option.toList, List.drop_succ_cons, List.drop_zero, am_RP, am_CP, am_PH, Fin.isValue, Fin.val_zero, Fin.val_one, am_f2, am_f3, true_and, and_true, true_implies, false_implies, not_false_eq_true, ne_eq, nI_clampD, nI_leT, nI_leF, nI_ltT, nI_ltF, nI_eqT, nI_eqF, nI_lt0F, nI_0leT, nI_eq0T, nI_eq0F, nI_0ltT, nI_0ltF, nI_le0T, nI_le0F, nI_m1, nI_m1', m1_m1, m1_lt, m1_le, nI_mul, nI_add, nI_sub, nI_add1, nI_dec, nI_div, nI_mod, vp_inD, sf_nkD, sf_eqD, k67]
        refine ⟨_, _, ?_, ?_, mk9⟩
        · omega
        · (simp (decide := true) only [am_has, am_lk0, am_lk1, and_self, true_and, and_true] <;> first | rfl | (refine ⟨?_, ?_⟩ <;> rfl) | (refine ⟨?_, ?_, ?_⟩ <;> rfl) | (refine ⟨?_, ?_, ?_, ?_⟩ <;> rfl))
      · have hn1 := (q6 h59).1
        by_cases hnw : ntl.getD k 0 = w
        · rw [if_pos ⟨h59, hnw⟩] at hws
          simp (decide := true) (disch := (first | exact eq_false (by decide) | exact eq_true (by decide) | decide | omega)) only [lX10_tellsHead_0, lX10_tellsHead_50, lX10_tellsHead_64, lX10_tellsHead_92, lX10_tellsHead_108, bX10_tellsHead_0, bX10_tellsHead_50, bX10_tellsHead_64, bX10_tellsHead_92, bX10_tellsHead_108, (show qX10_tellsHead.2.2.2.1 = none from rfl), am_rok_none, w_alen_38, w_alen_45, w_alen_55, w_alen_67, w_aload_n, w_bipush, w_caload, w_getfield, w_goto, w_iadd, w_iaload, w_icmp_eq, w_icmp_ge, w_icmp_ne, w_iconst, w_if_ne, w_iinc, w_iload, w_iload_n, w_istore, w_istore_n, w_isub, w_nop, w_return, w_swap, sa_67, sa_68, sa_69, sa_72, sa_73, sg_60_14, sg_60_17, sg_60_18, sg_60_21, sg_60_22, cB_117, cB_32, cB_40, cB_41, cB_59, cI_0, cI_1, cI_5, am_lk0, am_lk1, am_ld_some, am_isI_i, am_isJ_j, am_isR_r, am_st_eq, am_rmv_nil, am_rmv_t, am_rmv_i, am_rmv_r, sf_SH, sj_SH, sf_eq, sf_nk, sf_na, sf_sf, am_args_i, am_args_r, am_args_n, Nat.reduceAdd, List.cons_append, List.nil_append, Option.toList, List.drop_succ_cons, List.drop_zero, am_RP, am_CP, am_PH, Fin.isValue, Fin.val_zero, Fin.val_one, am_f2, am_f3, true_and, and_true, true_implies, false_implies, not_false_eq_true, ne_eq, nI_clampD, nI_leT, nI_leF, nI_ltT, nI_ltF, nI_eqT, nI_eqF, nI_lt0F, nI_0leT, nI_eq0T, nI_eq0F, nI_0ltT, nI_0ltF, nI_le0T, nI_le0F, nI_m1, nI_m1', m1_m1, m1_lt, m1_le, nI_mul, nI_add, nI_sub, nI_add1, nI_dec, nI_div, nI_mod, vp_inD, sf_nkD, sf_eqD, k67]
          refine w_virtP (c_X10_tells g h I1 J _ (wdl.getD k 0) e3 (by omega)) rfl rfl rfl (of_eq_true so_60) rfl (Nat.le_refl _) (Nat.le_refl _) ?_
          rintro R1 M1 ⟨rfl, I2, rfl, f1, f2⟩
          have mk9 := mk (k + 1) I2 (by omega) (e2.tr f1) (by rw [hws, ← List.append_assoc]; exact f2)
          rw [hn1] at mk9
          simp (decide := true) (disch := (first | exact eq_false (by decide) | exact eq_true (by decide) | decide | omega)) only [lX10_tellsHead_0, lX10_tellsHead_50, lX10_tellsHead_64, lX10_tellsHead_92, lX10_tellsHead_108, bX10_tellsHead_0, bX10_tellsHead_50, bX10_tellsHead_64, bX10_tellsHead_92, bX10_tellsHead_108, (show qX10_tellsHead.2.2.2.1 = none from rfl), am_rok_none, w_alen_38, w_alen_45, w_alen_55, w_alen_67, w_aload_n, w_bipush, w_caload, w_getfield, w_goto, w_iadd, w_iaload, w_icmp_eq, w_icmp_ge, w_icmp_ne, w_iconst, w_if_ne, w_iinc, w_iload, w_iload_n, w_istore, w_istore_n, w_isub, w_nop, w_return, w_swap, sa_67, sa_68, sa_69, sa_72, sa_73, sg_60_14, sg_60_17, sg_60_18, sg_60_21, sg_60_22, cB_117, cB_32, cB_40, cB_41, cB_59, cI_0, cI_1, cI_5, am_lk0, am_lk1, am_ld_some, am_isI_i, am_isJ_j, am_isR_r, am_st_eq, am_rmv_nil, am_rmv_t, am_rmv_i, am_rmv_r, sf_SH, sj_SH, sf_eq, sf_nk, sf_na, sf_sf, am_args_i, am_args_r, am_args_n, Nat.reduceAdd, List.cons_append, List.nil_append, Option.toList, List.drop_succ_cons, List.drop_zero, am_RP, am_CP, am_PH, Fin.isValue, Fin.val_zero, Fin.val_one, am_f2, am_f3, true_and, and_true, true_implies, false_implies, not_false_eq_true, ne_eq, nI_clampD, nI_leT, nI_leF, nI_ltT, nI_ltF, nI_eqT, nI_eqF, nI_lt0F, nI_0leT, nI_eq0T, nI_eq0F, nI_0ltT, nI_0ltF, nI_le0T, nI_le0F, nI_m1, nI_m1', m1_m1, m1_lt, m1_le, nI_mul, nI_add, nI_sub, nI_add1, nI_dec, nI_div, nI_mod, vp_inD, sf_nkD, sf_eqD]
          refine ⟨_, _, ?_, ?_, mk9⟩
          · omega
          · (simp (decide := true) only [am_has, am_lk0, am_lk1, and_self, true_and, and_true] <;> first | rfl | (refine ⟨?_, ?_⟩ <;> rfl) | (refine ⟨?_, ?_, ?_⟩ <;> rfl) | (refine ⟨?_, ?_, ?_, ?_⟩ <;> rfl))
        · rw [if_neg (fun h9 => hnw h9.2), List.append_nil] at hws
          have mk9 := mk (k + 1) I1 (by omega) e2 (by rw [hws]; exact e3)
          rw [hn1] at mk9
          simp (decide := true) (disch := (first | exact eq_false (by decide) | exact eq_true (by decide) | decide | omega)) only [lX10_tellsHead_0, lX10_tellsHead_50, lX10_tellsHead_64, lX10_tellsHead_92, lX10_tellsHead_108, bX10_tellsHead_0, bX10_tellsHead_50, bX10_tellsHead_64, bX10_tellsHead_92, bX10_tellsHead_108, (show qX10_tellsHead.2.2.2.1 = none from rfl), am_rok_none, w_alen_38, w_alen_45, w_alen_55, w_alen_67, w_aload_n, w_bipush, w_caload, w_getfield, w_goto, w_iadd, w_iaload, w_icmp_eq, w_icmp_ge, w_icmp_ne, w_iconst, w_if_ne, w_iinc, w_iload, w_iload_n, w_istore, w_istore_n, w_isub, w_nop, w_return, w_swap, sa_67, sa_68, sa_69, sa_72, sa_73, sg_60_14, sg_60_17, sg_60_18, sg_60_21, sg_60_22, cB_117, cB_32, cB_40, cB_41, cB_59, cI_0, cI_1, cI_5, am_lk0, am_lk1, am_ld_some, am_isI_i, am_isJ_j, am_isR_r, am_st_eq, am_rmv_nil, am_rmv_t, am_rmv_i, am_rmv_r, sf_SH, sj_SH, sf_eq, sf_nk, sf_na, sf_sf, am_args_i, am_args_r, am_args_n, Nat.reduceAdd, List.cons_append, List.nil_append, Option.toList, List.drop_succ_cons, List.drop_zero, am_RP, am_CP, am_PH, Fin.isValue, Fin.val_zero, Fin.val_one, am_f2, am_f3, true_and, and_true, true_implies, false_implies, not_false_eq_true, ne_eq, nI_clampD, nI_leT, nI_leF, nI_ltT, nI_ltF, nI_eqT, nI_eqF, nI_lt0F, nI_0leT, nI_eq0T, nI_eq0F, nI_0ltT, nI_0ltF, nI_le0T, nI_le0F, nI_m1, nI_m1', m1_m1, m1_lt, m1_le, nI_mul, nI_add, nI_sub, nI_add1, nI_dec, nI_div, nI_mod, vp_inD, sf_nkD, sf_eqD, k67]
          refine ⟨_, _, ?_, ?_, mk9⟩
          · omega
          · (simp (decide := true) only [am_has, am_lk0, am_lk1, and_self, true_and, and_true] <;> first | rfl | (refine ⟨?_, ?_⟩ <;> rfl) | (refine ⟨?_, ?_, ?_⟩ <;> rfl) | (refine ⟨?_, ?_, ?_, ?_⟩ <;> rfl))
end MF1
