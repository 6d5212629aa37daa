/-! the reference's parser: small methods, words -/
section WAL
variable {E : am_Env} {df : Nat → List (Option (Option Nat))} {B : Nat → List am_I} {n pc e1 e2 e3 : Nat} {r : List am_I} {lv : am_L} {st : List Value} {c s : Nat} {I : Nat → Nat → Int32} {J : Nat → Nat → Int64}
theorem w_alen {a t z : Nat} (ha : (a = 999) = False) (hs : am_SH[a]? = some (.inl (t, z))) (ht : t < 4) : am_wp E df B (n + 1) ((pc, .arraylength, e1, e2, e3) :: r) lv (.ref a :: st) (am_SH, I, J) c s = am_wp E df B n r lv (.int (nI z) :: st) (am_SH, I, J) c s := by
  rw [w_arraylength ha]
  simp only [hs, ht, true_and]
  rfl
theorem w_alen_38 : am_wp E df B (n + 1) ((pc, .arraylength, e1, e2, e3) :: r) lv (.ref 38 :: st) (am_SH, I, J) c s = am_wp E df B n r lv (.int (nI 12) :: st) (am_SH, I, J) c s := w_alen (by decide) rfl (by decide : 0 < 4)
theorem w_alen_45 : am_wp E df B (n + 1) ((pc, .arraylength, e1, e2, e3) :: r) lv (.ref 45 :: st) (am_SH, I, J) c s = am_wp E df B n r lv (.int (nI 12) :: st) (am_SH, I, J) c s := w_alen (by decide) rfl (by decide : 0 < 4)
theorem w_alen_55 : am_wp E df B (n + 1) ((pc, .arraylength, e1, e2, e3) :: r) lv (.ref 55 :: st) (am_SH, I, J) c s = am_wp E df B n r lv (.int (nI 45) :: st) (am_SH, I, J) c s := w_alen (by decide) rfl (by decide : 2 < 4)
theorem w_alen_67 : am_wp E df B (n + 1) ((pc, .arraylength, e1, e2, e3) :: r) lv (.ref 67 :: st) (am_SH, I, J) c s = am_wp E df B n r lv (.int (nI 23) :: st) (am_SH, I, J) c s := w_alen (by decide) rfl (by decide : 3 < 4)
end WAL
theorem wk_hit {L : Nat → Nat} {a e i : Nat} (h0 : 0 < i) (h6 : i < 6) (hq : weq L a e (wd0.getD i []) = true) (hw : ∀ j, 0 < j → j < i → weq L a e (wd0.getD j []) = false) : wk L a e = i := by
  have hk : i = 1 ∨ i = 2 ∨ i = 3 ∨ i = 4 ∨ i = 5 := by omega
  rcases hk with rfl | rfl | rfl | rfl | rfl
  · simp only [wd0, List.getD_cons_succ, List.getD_cons_zero] at hq
    simp only [wk, hq, if_true]
  · have w1 := hw 1 (by decide) (by decide)
    simp only [wd0, List.getD_cons_succ, List.getD_cons_zero] at hq w1
    simp only [wk, hq, w1, if_true, Bool.false_eq_true, if_false]
  · have w1 := hw 1 (by decide) (by decide)
    have w2 := hw 2 (by decide) (by decide)
    simp only [wd0, List.getD_cons_succ, List.getD_cons_zero] at hq w1 w2
    simp only [wk, hq, w1, w2, if_true, Bool.false_eq_true, if_false]
  · have w1 := hw 1 (by decide) (by decide)
    have w2 := hw 2 (by decide) (by decide)
    have w3 := hw 3 (by decide) (by decide)
    simp only [wd0, List.getD_cons_succ, List.getD_cons_zero] at hq w1 w2 w3
    simp only [wk, hq, w1, w2, w3, if_true, Bool.false_eq_true, if_false]
  · have w1 := hw 1 (by decide) (by decide)
    have w2 := hw 2 (by decide) (by decide)
    have w3 := hw 3 (by decide) (by decide)
    have w4 := hw 4 (by decide) (by decide)
    simp only [wd0, List.getD_cons_succ, List.getD_cons_zero] at hq w1 w2 w3 w4
    simp only [wk, hq, w1, w2, w3, w4, if_true, Bool.false_eq_true, if_false]
theorem wk_none {L : Nat → Nat} {a e : Nat} (hw : ∀ j, 0 < j → j < 6 → weq L a e (wd0.getD j []) = false) : wk L a e = 0 := by
  have w1 := hw 1 (by decide) (by decide)
  have w2 := hw 2 (by decide) (by decide)
  have w3 := hw 3 (by decide) (by decide)
  have w4 := hw 4 (by decide) (by decide)
  have w5 := hw 5 (by decide) (by decide)
  simp only [wd0, List.getD_cons_succ, List.getD_cons_zero] at w1 w2 w3 w4 w5
  simp only [wk, w1, w2, w3, w4, w5, Bool.false_eq_true, if_false]
def wdl : List Nat := [101, 118, 101, 114, 121, 59, 115, 111, 109, 101, 59, 110, 111, 59, 109, 111, 115, 116, 59, 110, 111, 116, 59]
def ntl : List Nat := [0, 0, 0, 0, 0, 0, 1, 1, 1, 1, 1, 2, 2, 2, 3, 3, 3, 3, 3, 4, 4, 4, 4, 5]
def bgl : List Nat := [0, 0, 0, 0, 0, 0, 6, 6, 6, 6, 6, 11, 11, 11, 14, 14, 14, 14, 14, 19, 19, 19, 19, 23]
theorem wdl_s {k : Nat} (hk : k < 23) : bgl.getD k 0 ≤ k ∧ ntl.getD k 0 < 5 ∧ 0 < wdl.getD k 0 ∧ wdl.getD k 0 < 127 ∧ (wdl.getD k 0 = 59 → ntl.getD (k + 1) 0 = ntl.getD k 0 + 1 ∧ bgl.getD (k + 1) 0 = k + 1 ∧ am_len.getD (ntl.getD k 0 + 1) 0 = k - bgl.getD k 0 ∧ ∀ j, j < k - bgl.getD k 0 → wdl.getD (bgl.getD k 0 + j) 0 = (wd0.getD (ntl.getD k 0 + 1) []).getD j 0) ∧ (wdl.getD k 0 ≠ 59 → ntl.getD (k + 1) 0 = ntl.getD k 0 ∧ bgl.getD (k + 1) 0 = bgl.getD k 0) := by
  have : ∀ k, k < 23 → bgl.getD k 0 ≤ k ∧ ntl.getD k 0 < 5 ∧ 0 < wdl.getD k 0 ∧ wdl.getD k 0 < 127 ∧ (wdl.getD k 0 = 59 → ntl.getD (k + 1) 0 = ntl.getD k 0 + 1 ∧ bgl.getD (k + 1) 0 = k + 1 ∧ am_len.getD (ntl.getD k 0 + 1) 0 = k - bgl.getD k 0 ∧ ∀ j, j < k - bgl.getD k 0 → wdl.getD (bgl.getD k 0 + j) 0 = (wd0.getD (ntl.getD k 0 + 1) []).getD j 0) ∧ (wdl.getD k 0 ≠ 59 → ntl.getD (k + 1) 0 = ntl.getD k 0 ∧ bgl.getD (k + 1) 0 = bgl.getD k 0) := by decide +kernel
  exact this k hk
/-- the reference's words -/
def WD (I : Nat → Nat → Int32) : Prop := ∀ k, k < 23 → I 67 k = nI (wdl.getD k 0)
theorem lI_sub {x : Nat} (h : 117 ≤ x) : lI x - nI 117 = nI (x - 117) := by
  unfold lI
  rw [if_neg (by omega), nI_sub h]
theorem lI_sub' {x : Nat} (h : 117 ≤ x) : lI x - nI 117 = wI (x - 116) := by
  rw [lI_sub h]
  unfold wI
  rw [if_neg (by omega)]
  congr 1
section MP1
variable (g : am_G) (h : Nat) (I : Nat → Nat → Int32) (J : Nat → Nat → Int64) {L : Nat → Nat} {t a : Nat}
theorem k_letter (hT : TX 61 L t I) (h2 : I 60 2 = nI t) {k : Nat} (hk : k ≤ t) :
    am_Ctr g am_mt 1 (h + 1) 136 [.ref 60, .int (nI k)] (am_SH, I, J) 0 0 (fun r M => r = some (.int (lI (L k))) ∧ M = (am_SH, I, J)) := by
  have ht := hT.1
  have h9 := c_X10_letter g h I J k t (by omega) hT.1 h2
  have e : (if k < t then I 61 k else -1) = lI (L k) := by
    by_cases hc : k < t
    · rw [if_pos hc, hT.get hc]
    · rw [if_neg hc, hT.2.2 k (by omega)]; rfl
  rw [e] at h9
  exact h9
theorem k_isLetter (hT : TX 61 L t I) (h2 : I 60 2 = nI t) {k : Nat} (hk : k ≤ t) :
    am_Ctr g am_mt 1 (h + 2) 137 [.ref 60, .int (nI k)] (am_SH, I, J) 0 0 (fun r M => r = some (.int (bI (isl (L k)))) ∧ M = (am_SH, I, J)) := by
  have ht := hT.1
  have h9 := c_X10_isLetter g h I J k t (by omega) hT.1 h2
  have e : (if k < t then I 61 k else -1) = lI (L k) := by
    by_cases hc : k < t
    · rw [if_pos hc, hT.get hc]
    · rw [if_neg hc, hT.2.2 k (by omega)]; rfl
  rw [e] at h9
  have e2 : decide (nI 97 ≤ lI (L k) ∧ lI (L k) ≤ nI 122) = isl (L k) := by
    unfold isl
    apply decide_eq_decide.mpr
    rw [lI_ge (hT.lt k) (by decide) (by decide), lI_le (hT.lt k) (by decide) (by decide)]
  rw [e2] at h9
  exact h9
theorem k_isVariable (hT : TX 61 L t I) (h2 : I 60 2 = nI t) {k : Nat} (hk : k ≤ t) :
    am_Ctr g am_mt 1 (h + 2) 138 [.ref 60, .int (nI k)] (am_SH, I, J) 0 0 (fun r M => r = some (.int (bI (isv (L k)))) ∧ M = (am_SH, I, J)) := by
  have ht := hT.1
  have h9 := c_X10_isVariable g h I J k t (by omega) hT.1 h2
  have e : (if k < t then I 61 k else -1) = lI (L k) := by
    by_cases hc : k < t
    · rw [if_pos hc, hT.get hc]
    · rw [if_neg hc, hT.2.2 k (by omega)]; rfl
  rw [e] at h9
  have e2 : decide (nI 117 ≤ lI (L k) ∧ lI (L k) ≤ nI 122) = isv (L k) := by
    unfold isv
    apply decide_eq_decide.mpr
    rw [lI_ge (hT.lt k) (by decide) (by decide), lI_le (hT.lt k) (by decide) (by decide)]
  rw [e2] at h9
  exact h9
set_option maxRecDepth 100000 in
set_option maxHeartbeats 400000 in
theorem c_X10_passesLetters (hT : TX 61 L t I) (h2 : I 60 2 = nI t) (h5 : I 60 5 = nI a) (ha : a ≤ t) :
    am_Ctr g am_mt 1 (h + 3) 140 [.ref 60] (am_SH, I, J) 0 0 (fun r M => r = none ∧ M = (am_SH, sf I 60 5 (nI (nm L a 5)), J)) := by
  have ht := hT.1
  refine am_rule2 (q := qX10_passesLetters) (B := am_blk bX10_passesLetters) rfl rfl kX10_passesLetters nX10_passesLetters (Nat.le_of_ble_eq_true rfl) (fun u pc l st M k n' => ∃ i, u = 5 - i ∧ i ≤ 5 ∧ a + i ≤ t ∧ nm L (a + i) (5 - i) = nm L a 5 ∧ pc = 5 ∧ l = [(0, .ref 60), (1, .int (nI a))] ∧ st = [] ∧ M = (am_SH, sf I 60 5 (nI (a + i)), J) ∧ k = 0 ∧ n' = 0) ?_ ?_
  · rintro u pc l st M k n' ⟨i, rfl, hi, hai, hn, rfl, rfl, rfl, rfl, rfl, rfl⟩
    refine ⟨_, 40, rfl, rfl, ?_⟩
    by_cases h5 : i = 5
    · subst h5
      have hn : nm L a 5 = a + 5 := hn.symm
      rw [hn]
      simp (decide := true) (disch := (first | exact eq_false (by decide) | exact eq_true (by decide) | decide | omega)) only [lX10_passesLetters_0, lX10_passesLetters_5, lX10_passesLetters_39, bX10_passesLetters_0, bX10_passesLetters_5, bX10_passesLetters_39, (show qX10_passesLetters.2.2.2.1 = none from rfl), am_rok_none, w_aload_n, w_dup, w_getfield, w_goto, w_iadd, w_icmp_ge, w_iconst, w_if_eq, w_iload_n, w_istore_n, w_isub, w_nop, w_puti, w_return, w_swap, sg_60_5, sp_60_5, cI_1, cI_5, am_lk0, am_lk1, am_ld_some, am_isI_i, am_isJ_j, am_isR_r, am_st_eq, am_rmv_nil, am_rmv_t, am_rmv_i, am_rmv_r, sf_SH, sj_SH, sf_eq, sf_nk, sf_na, sf_sf, am_args_i, am_args_r, am_args_n, Nat.reduceAdd, List.cons_append, List.nil_append, Option.toList, List.drop_succ_cons, List.drop_zero, am_RP, am_CP, am_PH, Fin.isValue, Fin.val_zero, Fin.val_one, am_f2, am_f3, true_and, and_true, true_implies, false_implies, not_false_eq_true, ne_eq, nI_clampD, nI_leT, nI_leF, nI_ltT, nI_ltF, nI_eqT, nI_eqF, nI_lt0F, nI_0leT, nI_eq0T, nI_eq0F, nI_0ltT, nI_0ltF, nI_le0T, nI_le0F, nI_m1, nI_m1', m1_m1, m1_lt, m1_le, nI_mul, nI_add, nI_sub, nI_add1, nI_dec, nI_div, nI_mod, vp_inD, sf_nkD, sf_eqD]
    · simp (decide := true) (disch := (first | exact eq_false (by decide) | exact eq_true (by decide) | decide | omega)) only [lX10_passesLetters_0, lX10_passesLetters_5, lX10_passesLetters_39, bX10_passesLetters_0, bX10_passesLetters_5, bX10_passesLetters_39, (show qX10_passesLetters.2.2.2.1 = none from rfl), am_rok_none, w_aload_n, w_dup, w_getfield, w_goto, w_iadd, w_icmp_ge, w_iconst, w_if_eq, w_iload_n, w_istore_n, w_isub, w_nop, w_puti, w_return, w_swap, sg_60_5, sp_60_5, cI_1, cI_5, am_lk0, am_lk1, am_ld_some, am_isI_i, am_isJ_j, am_isR_r, am_st_eq, am_rmv_nil, am_rmv_t, am_rmv_i, am_rmv_r, sf_SH, sj_SH, sf_eq, sf_nk, sf_na, sf_sf, am_args_i, am_args_r, am_args_n, Nat.reduceAdd, List.cons_append, List.nil_append, Option.toList, List.drop_succ_cons, List.drop_zero, am_RP, am_CP, am_PH, Fin.isValue, Fin.val_zero, Fin.val_one, am_f2, am_f3, true_and, and_true, true_implies, false_implies, not_false_eq_true, ne_eq, nI_clampD, nI_leT, nI_leF, nI_ltT, nI_ltF, nI_eqT, nI_eqF, nI_lt0F, nI_0leT, nI_eq0T, nI_eq0F, nI_0ltT, nI_0ltF, nI_le0T, nI_le0F, nI_m1, nI_m1', m1_m1, m1_lt, m1_le, nI_mul, nI_add, nI_sub, nI_add1, nI_dec, nI_div, nI_mod, vp_inD, sf_nkD, sf_eqD]
      refine w_virtE (k_isLetter g h (sf I 60 5 (nI (a + i))) J (hT.fr (sf_naD (by decide))) ((sf_nk (by decide)).trans h2) hai) rfl rfl rfl (of_eq_true so_60) rfl (Nat.le_refl _) (Nat.le_refl _) ?_
      have hs : nm L (a + i) (5 - i) = if isl (L (a + i)) = true then nm L (a + i + 1) (5 - (i + 1)) else a + i := by
        rw [show 5 - i = (5 - (i + 1)) + 1 by omega]
        rfl
      rw [hs] at hn
      cases hl : isl (L (a + i)) with
      | true =>
        rw [hl, if_pos rfl] at hn
        have hp := hT.pos (k := a + i) (by have := isl_pos hl; omega)
        simp (decide := true) (disch := (first | exact eq_false (by decide) | exact eq_true (by decide) | decide | omega)) only [lX10_passesLetters_0, lX10_passesLetters_5, lX10_passesLetters_39, bX10_passesLetters_0, bX10_passesLetters_5, bX10_passesLetters_39, (show qX10_passesLetters.2.2.2.1 = none from rfl), am_rok_none, w_aload_n, w_dup, w_getfield, w_goto, w_iadd, w_icmp_ge, w_iconst, w_if_eq, w_iload_n, w_istore_n, w_isub, w_nop, w_puti, w_return, w_swap, sg_60_5, sp_60_5, cI_1, cI_5, am_lk0, am_lk1, am_ld_some, am_isI_i, am_isJ_j, am_isR_r, am_st_eq, am_rmv_nil, am_rmv_t, am_rmv_i, am_rmv_r, sf_SH, sj_SH, sf_eq, sf_nk, sf_na, sf_sf, am_args_i, am_args_r, am_args_n, Nat.reduceAdd, List.cons_append, List.nil_append, Option.toList, List.drop_succ_cons, List.drop_zero, am_RP, am_CP, am_PH, Fin.isValue, Fin.val_zero, Fin.val_one, am_f2, am_f3, true_and, and_true, true_implies, false_implies, not_false_eq_true, ne_eq, nI_clampD, nI_leT, nI_leF, nI_ltT, nI_ltF, nI_eqT, nI_eqF, nI_lt0F, nI_0leT, nI_eq0T, nI_eq0F, nI_0ltT, nI_0ltF, nI_le0T, nI_le0F, nI_m1, nI_m1', m1_m1, m1_lt, m1_le, nI_mul, nI_add, nI_sub, nI_add1, nI_dec, nI_div, nI_mod, vp_inD, sf_nkD, sf_eqD, bI_t]
        refine ⟨5 - (i + 1), _, by omega, ?_, i + 1, rfl, by omega, by omega, hn, rfl, rfl⟩
        simp (decide := true) only [am_has, am_lk0, am_lk1, and_self, true_and, and_true]
      | false =>
        rw [hl, if_neg (by decide)] at hn
        rw [← hn]
        simp (decide := true) (disch := (first | exact eq_false (by decide) | exact eq_true (by decide) | decide | omega)) only [lX10_passesLetters_0, lX10_passesLetters_5, lX10_passesLetters_39, bX10_passesLetters_0, bX10_passesLetters_5, bX10_passesLetters_39, (show qX10_passesLetters.2.2.2.1 = none from rfl), am_rok_none, w_aload_n, w_dup, w_getfield, w_goto, w_iadd, w_icmp_ge, w_iconst, w_if_eq, w_iload_n, w_istore_n, w_isub, w_nop, w_puti, w_return, w_swap, sg_60_5, sp_60_5, cI_1, cI_5, am_lk0, am_lk1, am_ld_some, am_isI_i, am_isJ_j, am_isR_r, am_st_eq, am_rmv_nil, am_rmv_t, am_rmv_i, am_rmv_r, sf_SH, sj_SH, sf_eq, sf_nk, sf_na, sf_sf, am_args_i, am_args_r, am_args_n, Nat.reduceAdd, List.cons_append, List.nil_append, Option.toList, List.drop_succ_cons, List.drop_zero, am_RP, am_CP, am_PH, Fin.isValue, Fin.val_zero, Fin.val_one, am_f2, am_f3, true_and, and_true, true_implies, false_implies, not_false_eq_true, ne_eq, nI_clampD, nI_leT, nI_leF, nI_ltT, nI_ltF, nI_eqT, nI_eqF, nI_lt0F, nI_0leT, nI_eq0T, nI_eq0F, nI_0ltT, nI_0ltF, nI_le0T, nI_le0F, nI_m1, nI_m1', m1_m1, m1_lt, m1_le, nI_mul, nI_add, nI_sub, nI_add1, nI_dec, nI_div, nI_mod, vp_inD, sf_nkD, sf_eqD, bI_f]
  · refine ⟨30, ?_⟩
    simp (decide := true) (disch := (first | exact eq_false (by decide) | exact eq_true (by decide) | decide | omega)) only [lX10_passesLetters_0, lX10_passesLetters_5, lX10_passesLetters_39, bX10_passesLetters_0, bX10_passesLetters_5, bX10_passesLetters_39, (show qX10_passesLetters.2.2.2.1 = none from rfl), am_rok_none, w_aload_n, w_dup, w_getfield, w_goto, w_iadd, w_icmp_ge, w_iconst, w_if_eq, w_iload_n, w_istore_n, w_isub, w_nop, w_puti, w_return, w_swap, sg_60_5, sp_60_5, cI_1, cI_5, am_lk0, am_lk1, am_ld_some, am_isI_i, am_isJ_j, am_isR_r, am_st_eq, am_rmv_nil, am_rmv_t, am_rmv_i, am_rmv_r, sf_SH, sj_SH, sf_eq, sf_nk, sf_na, sf_sf, am_args_i, am_args_r, am_args_n, Nat.reduceAdd, List.cons_append, List.nil_append, Option.toList, List.drop_succ_cons, List.drop_zero, am_RP, am_CP, am_PH, Fin.isValue, Fin.val_zero, Fin.val_one, am_f2, am_f3, true_and, and_true, true_implies, false_implies, not_false_eq_true, ne_eq, nI_clampD, nI_leT, nI_leF, nI_ltT, nI_ltF, nI_eqT, nI_eqF, nI_lt0F, nI_0leT, nI_eq0T, nI_eq0F, nI_0ltT, nI_0ltF, nI_le0T, nI_le0F, nI_m1, nI_m1', m1_m1, m1_lt, m1_le, nI_mul, nI_add, nI_sub, nI_add1, nI_dec, nI_div, nI_mod, vp_inD, sf_nkD, sf_eqD, h5]
    refine ⟨5 - 0, _, ?_, 0, rfl, by omega, by omega, rfl, rfl, by rw [Nat.add_zero, ← h5, sf_self]⟩
    simp (decide := true) only [am_has, am_lk0, am_lk1, and_self, true_and, and_true]
set_option maxRecDepth 100000 in
set_option maxHeartbeats 400000 in
theorem c_X10_wordAt (hT : TX 61 L t I) (hW : WD I) {e : Nat} (hae : a ≤ e) (he : e ≤ t) :
    am_Ctr g am_mt 1 (h + 1) 139 [.ref 60, .int (nI a), .int (nI e)] (am_SH, I, J) 0 0 (fun r M => r = some (.int (wI (wk L a e))) ∧ M = (am_SH, I, J)) := by
  have ht := hT.1
  obtain ⟨JJ, hJJ⟩ : ∃ JJ : Nat → am_Cut, JJ = (fun u pc l st M k' n' => ∃ k, k ≤ 23 ∧ (∀ j, j < ntl.getD k 0 → weq L a e (wd0.getD (j + 1) []) = false) ∧ (
      (u = 200 * (24 - k) ∧ pc = 8 ∧ l = [(0, .ref 60), (1, .int (nI a)), (2, .int (nI e)), (3, .int (nI (ntl.getD k 0))), (4, .int (nI (bgl.getD k 0))), (5, .int (nI k))]) ∨
      (k < 23 ∧ ∃ i b, u = 200 * (24 - k) - 1 - i ∧ a + i ≤ e ∧ wdl.getD k 0 = 59 ∧ (b = true → e - a = k - bgl.getD k 0 ∧ ∀ j, j < i → L (a + j) = (wd0.getD (ntl.getD k 0 + 1) []).getD j 0) ∧ (b = false → weq L a e (wd0.getD (ntl.getD k 0 + 1) []) = false) ∧ pc = 51 ∧ l = [(0, .ref 60), (1, .int (nI a)), (2, .int (nI e)), (3, .int (nI (ntl.getD k 0))), (4, .int (nI (bgl.getD k 0))), (5, .int (nI k)), (6, .int (bI b)), (7, .int (nI (a + i)))])) ∧ st = [] ∧ M = (am_SH, I, J) ∧ k' = 0 ∧ n' = 0) := ⟨_, rfl⟩
  have mk1 : ∀ k, k ≤ 23 → (∀ j, j < ntl.getD k 0 → weq L a e (wd0.getD (j + 1) []) = false) → JJ (200 * (24 - k)) 8 [(0, .ref 60), (1, .int (nI a)), (2, .int (nI e)), (3, .int (nI (ntl.getD k 0))), (4, .int (nI (bgl.getD k 0))), (5, .int (nI k))] [] (am_SH, I, J) 0 0 := by
    intro k h1 h2
    rw [hJJ]
    exact ⟨k, h1, h2, Or.inl ⟨rfl, rfl, rfl⟩, rfl, rfl, rfl, rfl⟩
  have mk2 : ∀ k i b, k < 23 → (∀ j, j < ntl.getD k 0 → weq L a e (wd0.getD (j + 1) []) = false) → a + i ≤ e → wdl.getD k 0 = 59 → (b = true → e - a = k - bgl.getD k 0 ∧ ∀ j, j < i → L (a + j) = (wd0.getD (ntl.getD k 0 + 1) []).getD j 0) → (b = false → weq L a e (wd0.getD (ntl.getD k 0 + 1) []) = false) → JJ (200 * (24 - k) - 1 - i) 51 [(0, .ref 60), (1, .int (nI a)), (2, .int (nI e)), (3, .int (nI (ntl.getD k 0))), (4, .int (nI (bgl.getD k 0))), (5, .int (nI k)), (6, .int (bI b)), (7, .int (nI (a + i)))] [] (am_SH, I, J) 0 0 := by
    intro k i b h1 h2 h3 h4 h5 h6
    rw [hJJ]
    exact ⟨k, by omega, h2, Or.inr ⟨h1, i, b, rfl, h3, h4, h5, h6, rfl, rfl⟩, rfl, rfl, rfl, rfl⟩
  refine am_rule2 (q := qX10_wordAt) (B := am_blk bX10_wordAt) rfl rfl kX10_wordAt nX10_wordAt (Nat.le_of_ble_eq_true rfl) JJ ?_ ?_
  · intro u pc l st M k' n' hj
    rw [hJJ] at hj
    obtain ⟨k, hk, hw, hcase, rfl, rfl, rfl, rfl⟩ := hj
    clear hJJ
    rcases hcase with ⟨rfl, rfl, rfl⟩ | ⟨hk3, i, b, rfl, hi, h59, hbt, hbf, rfl, rfl⟩
    · refine ⟨_, 60, rfl, rfl, ?_⟩
      by_cases h23 : k = 23
      · subst h23
        simp (decide := true) (disch := (first | exact eq_false (by decide) | exact eq_true (by decide) | decide | omega)) only [lX10_wordAt_0, lX10_wordAt_8, lX10_wordAt_45, lX10_wordAt_46, lX10_wordAt_51, lX10_wordAt_88, lX10_wordAt_89, lX10_wordAt_97, lX10_wordAt_104, lX10_wordAt_113, lX10_wordAt_119, bX10_wordAt_0, bX10_wordAt_8, bX10_wordAt_45, bX10_wordAt_46, bX10_wordAt_51, bX10_wordAt_88, bX10_wordAt_89, bX10_wordAt_97, bX10_wordAt_104, bX10_wordAt_113, bX10_wordAt_119, (show qX10_wordAt.2.2.2.1 = (some .int) from rfl), am_rok_int, w_alen_38, w_alen_45, w_alen_55, w_alen_67, w_aload_n, w_bipush, w_caload, w_getfield, w_goto, w_iadd, w_iaload, w_icmp_ge, w_icmp_ne, w_iconst, w_if_eq, w_iinc, w_iload, w_iload_n, w_ireturn, w_istore, w_istore_n, w_isub, w_nop, w_swap, sa_61, sa_67, sg_60_1, sg_60_14, cB_59, cI_0, cI_1, cI_m1, am_lk0, am_lk1, am_ld_some, am_isI_i, am_isJ_j, am_isR_r, am_st_eq, am_rmv_nil, am_rmv_t, am_rmv_i, am_rmv_r, sf_SH, sj_SH, sf_eq, sf_nk, sf_na, sf_sf, am_args_i, am_args_r, am_args_n, Nat.reduceAdd, List.cons_append, List.nil_append, Option.toList, List.drop_succ_cons, List.drop_zero, am_RP, am_CP, am_PH, Fin.isValue, Fin.val_zero, Fin.val_one, am_f2, am_f3, true_and, and_true, true_implies, false_implies, not_false_eq_true, ne_eq, nI_clampD, nI_leT, nI_leF, nI_ltT, nI_ltF, nI_eqT, nI_eqF, nI_lt0F, nI_0leT, nI_eq0T, nI_eq0F, nI_0ltT, nI_0ltF, nI_le0T, nI_le0F, nI_m1, nI_m1', m1_m1, m1_lt, m1_le, nI_mul, nI_add, nI_sub, nI_add1, nI_dec, nI_div, nI_mod, vp_inD, sf_nkD, sf_eqD]
        rw [wk_none (fun j h0 h6 => by have := hw (j - 1) (by show j - 1 < 5; omega); rw [Nat.sub_add_cancel h0] at this; exact this)]
        rfl
      · have hs := wdl_s (k := k) (by omega)
        have hwk := hW k (by omega)
        by_cases h59 : wdl.getD k 0 = 59
        · have hs5 := hs.2.2.2.2.1 h59
          by_cases hl : k - bgl.getD k 0 = e - a
          · simp (decide := true) (disch := (first | exact eq_false (by decide) | exact eq_true (by decide) | decide | omega)) only [lX10_wordAt_0, lX10_wordAt_8, lX10_wordAt_45, lX10_wordAt_46, lX10_wordAt_51, lX10_wordAt_88, lX10_wordAt_89, lX10_wordAt_97, lX10_wordAt_104, lX10_wordAt_113, lX10_wordAt_119, bX10_wordAt_0, bX10_wordAt_8, bX10_wordAt_45, bX10_wordAt_46, bX10_wordAt_51, bX10_wordAt_88, bX10_wordAt_89, bX10_wordAt_97, bX10_wordAt_104, bX10_wordAt_113, bX10_wordAt_119, (show qX10_wordAt.2.2.2.1 = (some .int) from rfl), am_rok_int, w_alen_38, w_alen_45, w_alen_55, w_alen_67, w_aload_n, w_bipush, w_caload, w_getfield, w_goto, w_iadd, w_iaload, w_icmp_ge, w_icmp_ne, w_iconst, w_if_eq, w_iinc, w_iload, w_iload_n, w_ireturn, w_istore, w_istore_n, w_isub, w_nop, w_swap, sa_61, sa_67, sg_60_1, sg_60_14, cB_59, cI_0, cI_1, cI_m1, am_lk0, am_lk1, am_ld_some, am_isI_i, am_isJ_j, am_isR_r, am_st_eq, am_rmv_nil, am_rmv_t, am_rmv_i, am_rmv_r, sf_SH, sj_SH, sf_eq, sf_nk, sf_na, sf_sf, am_args_i, am_args_r, am_args_n, Nat.reduceAdd, List.cons_append, List.nil_append, Option.toList, List.drop_succ_cons, List.drop_zero, am_RP, am_CP, am_PH, Fin.isValue, Fin.val_zero, Fin.val_one, am_f2, am_f3, true_and, and_true, true_implies, false_implies, not_false_eq_true, ne_eq, nI_clampD, nI_leT, nI_leF, nI_ltT, nI_ltF, nI_eqT, nI_eqF, nI_lt0F, nI_0leT, nI_eq0T, nI_eq0F, nI_0ltT, nI_0ltF, nI_le0T, nI_le0F, nI_m1, nI_m1', m1_m1, m1_lt, m1_le, nI_mul, nI_add, nI_sub, nI_add1, nI_dec, nI_div, nI_mod, vp_inD, sf_nkD, sf_eqD, hwk]
            refine ⟨_, _, ?_, ?_, mk2 k 0 true (by omega) hw (by omega) h59 (fun _ => ⟨hl.symm, fun j hj => absurd hj (Nat.not_lt_zero _)⟩) (fun h0 => (by cases h0))⟩
            · omega
            · (simp (decide := true) only [am_has, am_lk0, am_lk1, and_self, true_and, and_true] <;> first | rfl | (refine ⟨?_, ?_⟩ <;> rfl) | (refine ⟨?_, ?_, ?_⟩ <;> rfl) | (refine ⟨?_, ?_, ?_, ?_⟩ <;> rfl))
          · simp (decide := true) (disch := (first | exact eq_false (by decide) | exact eq_true (by decide) | decide | omega)) only [lX10_wordAt_0, lX10_wordAt_8, lX10_wordAt_45, lX10_wordAt_46, lX10_wordAt_51, lX10_wordAt_88, lX10_wordAt_89, lX10_wordAt_97, lX10_wordAt_104, lX10_wordAt_113, lX10_wordAt_119, bX10_wordAt_0, bX10_wordAt_8, bX10_wordAt_45, bX10_wordAt_46, bX10_wordAt_51, bX10_wordAt_88, bX10_wordAt_89, bX10_wordAt_97, bX10_wordAt_104, bX10_wordAt_113, bX10_wordAt_119, (show qX10_wordAt.2.2.2.1 = (some .int) from rfl), am_rok_int, w_alen_38, w_alen_45, w_alen_55, w_alen_67, w_aload_n, w_bipush, w_caload, w_getfield, w_goto, w_iadd, w_iaload, w_icmp_ge, w_icmp_ne, w_iconst, w_if_eq, w_iinc, w_iload, w_iload_n, w_ireturn, w_istore, w_istore_n, w_isub, w_nop, w_swap, sa_61, sa_67, sg_60_1, sg_60_14, cB_59, cI_0, cI_1, cI_m1, am_lk0, am_lk1, am_ld_some, am_isI_i, am_isJ_j, am_isR_r, am_st_eq, am_rmv_nil, am_rmv_t, am_rmv_i, am_rmv_r, sf_SH, sj_SH, sf_eq, sf_nk, sf_na, sf_sf, am_args_i, am_args_r, am_args_n, Nat.reduceAdd, List.cons_append, List.nil_append, Option.toList, List.drop_succ_cons, List.drop_zero, am_RP, am_CP, am_PH, Fin.isValue, Fin.val_zero, Fin.val_one, am_f2, am_f3, true_and, and_true, true_implies, false_implies, not_false_eq_true, ne_eq, nI_clampD, nI_leT, nI_leF, nI_ltT, nI_ltF, nI_eqT, nI_eqF, nI_lt0F, nI_0leT, nI_eq0T, nI_eq0F, nI_0ltT, nI_0ltF, nI_le0T, nI_le0F, nI_m1, nI_m1', m1_m1, m1_lt, m1_le, nI_mul, nI_add, nI_sub, nI_add1, nI_dec, nI_div, nI_mod, vp_inD, sf_nkD, sf_eqD, hwk]
            refine ⟨_, _, ?_, ?_, mk2 k 0 false (by omega) hw (by omega) h59 (fun h0 => (by cases h0)) (fun _ => weq_f1 (by omega) (by rw [hs5.2.2.1]; omega))⟩
            · omega
            · (simp (decide := true) only [am_has, am_lk0, am_lk1, and_self, true_and, and_true] <;> first | rfl | (refine ⟨?_, ?_⟩ <;> rfl) | (refine ⟨?_, ?_, ?_⟩ <;> rfl) | (refine ⟨?_, ?_, ?_, ?_⟩ <;> rfl))
        · have hs6 := hs.2.2.2.2.2 h59
          simp (decide := true) (disch := (first | exact eq_false (by decide) | exact eq_true (by decide) | decide | omega)) only [lX10_wordAt_0, lX10_wordAt_8, lX10_wordAt_45, lX10_wordAt_46, lX10_wordAt_51, lX10_wordAt_88, lX10_wordAt_89, lX10_wordAt_97, lX10_wordAt_104, lX10_wordAt_113, lX10_wordAt_119, bX10_wordAt_0, bX10_wordAt_8, bX10_wordAt_45, bX10_wordAt_46, bX10_wordAt_51, bX10_wordAt_88, bX10_wordAt_89, bX10_wordAt_97, bX10_wordAt_104, bX10_wordAt_113, bX10_wordAt_119, (show qX10_wordAt.2.2.2.1 = (some .int) from rfl), am_rok_int, w_alen_38, w_alen_45, w_alen_55, w_alen_67, w_aload_n, w_bipush, w_caload, w_getfield, w_goto, w_iadd, w_iaload, w_icmp_ge, w_icmp_ne, w_iconst, w_if_eq, w_iinc, w_iload, w_iload_n, w_ireturn, w_istore, w_istore_n, w_isub, w_nop, w_swap, sa_61, sa_67, sg_60_1, sg_60_14, cB_59, cI_0, cI_1, cI_m1, am_lk0, am_lk1, am_ld_some, am_isI_i, am_isJ_j, am_isR_r, am_st_eq, am_rmv_nil, am_rmv_t, am_rmv_i, am_rmv_r, sf_SH, sj_SH, sf_eq, sf_nk, sf_na, sf_sf, am_args_i, am_args_r, am_args_n, Nat.reduceAdd, List.cons_append, List.nil_append, Option.toList, List.drop_succ_cons, List.drop_zero, am_RP, am_CP, am_PH, Fin.isValue, Fin.val_zero, Fin.val_one, am_f2, am_f3, true_and, and_true, true_implies, false_implies, not_false_eq_true, ne_eq, nI_clampD, nI_leT, nI_leF, nI_ltT, nI_ltF, nI_eqT, nI_eqF, nI_lt0F, nI_0leT, nI_eq0T, nI_eq0F, nI_0ltT, nI_0ltF, nI_le0T, nI_le0F, nI_m1, nI_m1', m1_m1, m1_lt, m1_le, nI_mul, nI_add, nI_sub, nI_add1, nI_dec, nI_div, nI_mod, vp_inD, sf_nkD, sf_eqD, hwk]
          refine ⟨_, _, ?_, ?_, mk1 (k + 1) (by omega) (by rw [hs6.1]; exact hw)⟩
          · omega
          · simp (decide := true) only [am_has, am_lk0, am_lk1, and_self, true_and, and_true]
            rw [hs6.1, hs6.2]
            exact ⟨rfl, rfl⟩
    · refine ⟨_, 60, rfl, rfl, ?_⟩
      have hs := wdl_s (k := k) hk3
      have hs5 := hs.2.2.2.2.1 h59
      cases b with
      | false =>
        have hf := hbf rfl
        have hw' : ∀ j, j < ntl.getD (k + 1) 0 → weq L a e (wd0.getD (j + 1) []) = false := by
          intro j hj
          rw [hs5.1] at hj
          by_cases hjn : j = ntl.getD k 0
          · rw [hjn]; exact hf
          · exact hw j (by omega)
        by_cases hc : a + i = e
        · simp (decide := true) (disch := (first | exact eq_false (by decide) | exact eq_true (by decide) | decide | omega)) only [lX10_wordAt_0, lX10_wordAt_8, lX10_wordAt_45, lX10_wordAt_46, lX10_wordAt_51, lX10_wordAt_88, lX10_wordAt_89, lX10_wordAt_97, lX10_wordAt_104, lX10_wordAt_113, lX10_wordAt_119, bX10_wordAt_0, bX10_wordAt_8, bX10_wordAt_45, bX10_wordAt_46, bX10_wordAt_51, bX10_wordAt_88, bX10_wordAt_89, bX10_wordAt_97, bX10_wordAt_104, bX10_wordAt_113, bX10_wordAt_119, (show qX10_wordAt.2.2.2.1 = (some .int) from rfl), am_rok_int, w_alen_38, w_alen_45, w_alen_55, w_alen_67, w_aload_n, w_bipush, w_caload, w_getfield, w_goto, w_iadd, w_iaload, w_icmp_ge, w_icmp_ne, w_iconst, w_if_eq, w_iinc, w_iload, w_iload_n, w_ireturn, w_istore, w_istore_n, w_isub, w_nop, w_swap, sa_61, sa_67, sg_60_1, sg_60_14, cB_59, cI_0, cI_1, cI_m1, am_lk0, am_lk1, am_ld_some, am_isI_i, am_isJ_j, am_isR_r, am_st_eq, am_rmv_nil, am_rmv_t, am_rmv_i, am_rmv_r, sf_SH, sj_SH, sf_eq, sf_nk, sf_na, sf_sf, am_args_i, am_args_r, am_args_n, Nat.reduceAdd, List.cons_append, List.nil_append, Option.toList, List.drop_succ_cons, List.drop_zero, am_RP, am_CP, am_PH, Fin.isValue, Fin.val_zero, Fin.val_one, am_f2, am_f3, true_and, and_true, true_implies, false_implies, not_false_eq_true, ne_eq, nI_clampD, nI_leT, nI_leF, nI_ltT, nI_ltF, nI_eqT, nI_eqF, nI_lt0F, nI_0leT, nI_eq0T, nI_eq0F, nI_0ltT, nI_0ltF, nI_le0T, nI_le0F, nI_m1, nI_m1', m1_m1, m1_lt, m1_le, nI_mul, nI_add, nI_sub, nI_add1, nI_dec, nI_div, nI_mod, vp_inD, sf_nkD, sf_eqD, bI_f]
          refine ⟨_, _, ?_, ?_, mk1 (k + 1) (by omega) hw'⟩
          · omega
          · simp (decide := true) only [am_has, am_lk0, am_lk1, and_self, true_and, and_true]
            rw [hs5.1, hs5.2.1]
            exact ⟨rfl, rfl⟩
        · simp (decide := true) (disch := (first | exact eq_false (by decide) | exact eq_true (by decide) | decide | omega)) only [lX10_wordAt_0, lX10_wordAt_8, lX10_wordAt_45, lX10_wordAt_46, lX10_wordAt_51, lX10_wordAt_88, lX10_wordAt_89, lX10_wordAt_97, lX10_wordAt_104, lX10_wordAt_113, lX10_wordAt_119, bX10_wordAt_0, bX10_wordAt_8, bX10_wordAt_45, bX10_wordAt_46, bX10_wordAt_51, bX10_wordAt_88, bX10_wordAt_89, bX10_wordAt_97, bX10_wordAt_104, bX10_wordAt_113, bX10_wordAt_119, (show qX10_wordAt.2.2.2.1 = (some .int) from rfl), am_rok_int, w_alen_38, w_alen_45, w_alen_55, w_alen_67, w_aload_n, w_bipush, w_caload, w_getfield, w_goto, w_iadd, w_iaload, w_icmp_ge, w_icmp_ne, w_iconst, w_if_eq, w_iinc, w_iload, w_iload_n, w_ireturn, w_istore, w_istore_n, w_isub, w_nop, w_swap, sa_61, sa_67, sg_60_1, sg_60_14, cB_59, cI_0, cI_1, cI_m1, am_lk0, am_lk1, am_ld_some, am_isI_i, am_isJ_j, am_isR_r, am_st_eq, am_rmv_nil, am_rmv_t, am_rmv_i, am_rmv_r, sf_SH, sj_SH, sf_eq, sf_nk, sf_na, sf_sf, am_args_i, am_args_r, am_args_n, Nat.reduceAdd, List.cons_append, List.nil_append, Option.toList, List.drop_succ_cons, List.drop_zero, am_RP, am_CP, am_PH, Fin.isValue, Fin.val_zero, Fin.val_one, am_f2, am_f3, true_and, and_true, true_implies, false_implies, not_false_eq_true, ne_eq, nI_clampD, nI_leT, nI_leF, nI_ltT, nI_ltF, nI_eqT, nI_eqF, nI_lt0F, nI_0leT, nI_eq0T, nI_eq0F, nI_0ltT, nI_0ltF, nI_le0T, nI_le0F, nI_m1, nI_m1', m1_m1, m1_lt, m1_le, nI_mul, nI_add, nI_sub, nI_add1, nI_dec, nI_div, nI_mod, vp_inD, sf_nkD, sf_eqD, bI_f]
          refine ⟨_, _, ?_, ?_, mk1 (k + 1) (by omega) hw'⟩
          · omega
          · simp (decide := true) only [am_has, am_lk0, am_lk1, and_self, true_and, and_true]
            rw [hs5.1, hs5.2.1]
            exact ⟨rfl, rfl⟩
      | true =>
        obtain ⟨b1, b2⟩ := hbt rfl
        by_cases hc : a + i = e
        · simp (decide := true) (disch := (first | exact eq_false (by decide) | exact eq_true (by decide) | decide | omega)) only [lX10_wordAt_0, lX10_wordAt_8, lX10_wordAt_45, lX10_wordAt_46, lX10_wordAt_51, lX10_wordAt_88, lX10_wordAt_89, lX10_wordAt_97, lX10_wordAt_104, lX10_wordAt_113, lX10_wordAt_119, bX10_wordAt_0, bX10_wordAt_8, bX10_wordAt_45, bX10_wordAt_46, bX10_wordAt_51, bX10_wordAt_88, bX10_wordAt_89, bX10_wordAt_97, bX10_wordAt_104, bX10_wordAt_113, bX10_wordAt_119, (show qX10_wordAt.2.2.2.1 = (some .int) from rfl), am_rok_int, w_alen_38, w_alen_45, w_alen_55, w_alen_67, w_aload_n, w_bipush, w_caload, w_getfield, w_goto, w_iadd, w_iaload, w_icmp_ge, w_icmp_ne, w_iconst, w_if_eq, w_iinc, w_iload, w_iload_n, w_ireturn, w_istore, w_istore_n, w_isub, w_nop, w_swap, sa_61, sa_67, sg_60_1, sg_60_14, cB_59, cI_0, cI_1, cI_m1, am_lk0, am_lk1, am_ld_some, am_isI_i, am_isJ_j, am_isR_r, am_st_eq, am_rmv_nil, am_rmv_t, am_rmv_i, am_rmv_r, sf_SH, sj_SH, sf_eq, sf_nk, sf_na, sf_sf, am_args_i, am_args_r, am_args_n, Nat.reduceAdd, List.cons_append, List.nil_append, Option.toList, List.drop_succ_cons, List.drop_zero, am_RP, am_CP, am_PH, Fin.isValue, Fin.val_zero, Fin.val_one, am_f2, am_f3, true_and, and_true, true_implies, false_implies, not_false_eq_true, ne_eq, nI_clampD, nI_leT, nI_leF, nI_ltT, nI_ltF, nI_eqT, nI_eqF, nI_lt0F, nI_0leT, nI_eq0T, nI_eq0F, nI_0ltT, nI_0ltF, nI_le0T, nI_le0F, nI_m1, nI_m1', m1_m1, m1_lt, m1_le, nI_mul, nI_add, nI_sub, nI_add1, nI_dec, nI_div, nI_mod, vp_inD, sf_nkD, sf_eqD, bI_t]
          rw [wk_hit (i := ntl.getD k 0 + 1) (by omega) (by omega) (weq_t (by omega) (by rw [hs5.2.2.1]; exact b1) (fun j hj => b2 j (by rw [hs5.2.2.1] at hj; omega))) (fun j h0 hj => by have := hw (j - 1) (by omega); rw [Nat.sub_add_cancel h0] at this; exact this)]
          unfold wI
          rw [if_neg (by omega)]
          rfl
        · have e1 := hT.2.1 (a + i) (by omega)
          have e2 := hW (bgl.getD k 0 + i) (by omega)
          have e3 := hs5.2.2.2 i (by omega)
          rw [e3] at e2
          have hb := wd0_le (k := ntl.getD k 0 + 1) (j := i) (by omega) (by rw [hs5.2.2.1]; omega)
          have hix : bgl.getD k 0 + (a + i) - a = bgl.getD k 0 + i := by omega
          by_cases hq : L (a + i) = (wd0.getD (ntl.getD k 0 + 1) []).getD i 0
          · simp (decide := true) (disch := (first | exact eq_false (by decide) | exact eq_true (by decide) | decide | omega)) only [lX10_wordAt_0, lX10_wordAt_8, lX10_wordAt_45, lX10_wordAt_46, lX10_wordAt_51, lX10_wordAt_88, lX10_wordAt_89, lX10_wordAt_97, lX10_wordAt_104, lX10_wordAt_113, lX10_wordAt_119, bX10_wordAt_0, bX10_wordAt_8, bX10_wordAt_45, bX10_wordAt_46, bX10_wordAt_51, bX10_wordAt_88, bX10_wordAt_89, bX10_wordAt_97, bX10_wordAt_104, bX10_wordAt_113, bX10_wordAt_119, (show qX10_wordAt.2.2.2.1 = (some .int) from rfl), am_rok_int, w_alen_38, w_alen_45, w_alen_55, w_alen_67, w_aload_n, w_bipush, w_caload, w_getfield, w_goto, w_iadd, w_iaload, w_icmp_ge, w_icmp_ne, w_iconst, w_if_eq, w_iinc, w_iload, w_iload_n, w_ireturn, w_istore, w_istore_n, w_isub, w_nop, w_swap, sa_61, sa_67, sg_60_1, sg_60_14, cB_59, cI_0, cI_1, cI_m1, am_lk0, am_lk1, am_ld_some, am_isI_i, am_isJ_j, am_isR_r, am_st_eq, am_rmv_nil, am_rmv_t, am_rmv_i, am_rmv_r, sf_SH, sj_SH, sf_eq, sf_nk, sf_na, sf_sf, am_args_i, am_args_r, am_args_n, Nat.reduceAdd, List.cons_append, List.nil_append, Option.toList, List.drop_succ_cons, List.drop_zero, am_RP, am_CP, am_PH, Fin.isValue, Fin.val_zero, Fin.val_one, am_f2, am_f3, true_and, and_true, true_implies, false_implies, not_false_eq_true, ne_eq, nI_clampD, nI_leT, nI_leF, nI_ltT, nI_ltF, nI_eqT, nI_eqF, nI_lt0F, nI_0leT, nI_eq0T, nI_eq0F, nI_0ltT, nI_0ltF, nI_le0T, nI_le0F, nI_m1, nI_m1', m1_m1, m1_lt, m1_le, nI_mul, nI_add, nI_sub, nI_add1, nI_dec, nI_div, nI_mod, vp_inD, sf_nkD, sf_eqD, bI_t, e1.1, hix, e2]
            refine ⟨_, _, ?_, ?_, mk2 k (i + 1) true hk3 hw (by omega) h59 (fun _ => ⟨b1, fun j hj => ?_⟩) (fun h0 => (by cases h0))⟩
            · omega
            · (simp (decide := true) only [am_has, am_lk0, am_lk1, and_self, true_and, and_true] <;> first | rfl | (refine ⟨?_, ?_⟩ <;> rfl) | (refine ⟨?_, ?_, ?_⟩ <;> rfl) | (refine ⟨?_, ?_, ?_, ?_⟩ <;> rfl))
            · by_cases hji : j = i
              · rw [hji]; exact hq
              · exact b2 j (by omega)
          · simp (decide := true) (disch := (first | exact eq_false (by decide) | exact eq_true (by decide) | decide | omega)) only [lX10_wordAt_0, lX10_wordAt_8, lX10_wordAt_45, lX10_wordAt_46, lX10_wordAt_51, lX10_wordAt_88, lX10_wordAt_89, lX10_wordAt_97, lX10_wordAt_104, lX10_wordAt_113, lX10_wordAt_119, bX10_wordAt_0, bX10_wordAt_8, bX10_wordAt_45, bX10_wordAt_46, bX10_wordAt_51, bX10_wordAt_88, bX10_wordAt_89, bX10_wordAt_97, bX10_wordAt_104, bX10_wordAt_113, bX10_wordAt_119, (show qX10_wordAt.2.2.2.1 = (some .int) from rfl), am_rok_int, w_alen_38, w_alen_45, w_alen_55, w_alen_67, w_aload_n, w_bipush, w_caload, w_getfield, w_goto, w_iadd, w_iaload, w_icmp_ge, w_icmp_ne, w_iconst, w_if_eq, w_iinc, w_iload, w_iload_n, w_ireturn, w_istore, w_istore_n, w_isub, w_nop, w_swap, sa_61, sa_67, sg_60_1, sg_60_14, cB_59, cI_0, cI_1, cI_m1, am_lk0, am_lk1, am_ld_some, am_isI_i, am_isJ_j, am_isR_r, am_st_eq, am_rmv_nil, am_rmv_t, am_rmv_i, am_rmv_r, sf_SH, sj_SH, sf_eq, sf_nk, sf_na, sf_sf, am_args_i, am_args_r, am_args_n, Nat.reduceAdd, List.cons_append, List.nil_append, Option.toList, List.drop_succ_cons, List.drop_zero, am_RP, am_CP, am_PH, Fin.isValue, Fin.val_zero, Fin.val_one, am_f2, am_f3, true_and, and_true, true_implies, false_implies, not_false_eq_true, ne_eq, nI_clampD, nI_leT, nI_leF, nI_ltT, nI_ltF, nI_eqT, nI_eqF, nI_lt0F, nI_0leT, nI_eq0T, nI_eq0F, nI_0ltT, nI_0ltF, nI_le0T, nI_le0F, nI_m1, nI_m1', m1_m1, m1_lt, m1_le, nI_mul, nI_add, nI_sub, nI_add1, nI_dec, nI_div, nI_mod, vp_inD, sf_nkD, sf_eqD, bI_t, e1.1, hix, e2]
            refine ⟨_, _, ?_, ?_, mk2 k (i + 1) false hk3 hw (by omega) h59 (fun h0 => (by cases h0)) (fun _ => weq_f2 (by omega) (by rw [hs5.2.2.1]; omega) hq)⟩
            · omega
            · (simp (decide := true) only [am_has, am_lk0, am_lk1, and_self, true_and, and_true] <;> first | rfl | (refine ⟨?_, ?_⟩ <;> rfl) | (refine ⟨?_, ?_, ?_⟩ <;> rfl) | (refine ⟨?_, ?_, ?_, ?_⟩ <;> rfl))
  · refine ⟨60, ?_⟩
    simp (decide := true) (disch := (first | exact eq_false (by decide) | exact eq_true (by decide) | decide | omega)) only [lX10_wordAt_0, lX10_wordAt_8, lX10_wordAt_45, lX10_wordAt_46, lX10_wordAt_51, lX10_wordAt_88, lX10_wordAt_89, lX10_wordAt_97, lX10_wordAt_104, lX10_wordAt_113, lX10_wordAt_119, bX10_wordAt_0, bX10_wordAt_8, bX10_wordAt_45, bX10_wordAt_46, bX10_wordAt_51, bX10_wordAt_88, bX10_wordAt_89, bX10_wordAt_97, bX10_wordAt_104, bX10_wordAt_113, bX10_wordAt_119, (show qX10_wordAt.2.2.2.1 = (some .int) from rfl), am_rok_int, w_alen_38, w_alen_45, w_alen_55, w_alen_67, w_aload_n, w_bipush, w_caload, w_getfield, w_goto, w_iadd, w_iaload, w_icmp_ge, w_icmp_ne, w_iconst, w_if_eq, w_iinc, w_iload, w_iload_n, w_ireturn, w_istore, w_istore_n, w_isub, w_nop, w_swap, sa_61, sa_67, sg_60_1, sg_60_14, cB_59, cI_0, cI_1, cI_m1, am_lk0, am_lk1, am_ld_some, am_isI_i, am_isJ_j, am_isR_r, am_st_eq, am_rmv_nil, am_rmv_t, am_rmv_i, am_rmv_r, sf_SH, sj_SH, sf_eq, sf_nk, sf_na, sf_sf, am_args_i, am_args_r, am_args_n, Nat.reduceAdd, List.cons_append, List.nil_append, Option.toList, List.drop_succ_cons, List.drop_zero, am_RP, am_CP, am_PH, Fin.isValue, Fin.val_zero, Fin.val_one, am_f2, am_f3, true_and, and_true, true_implies, false_implies, not_false_eq_true, ne_eq, nI_clampD, nI_leT, nI_leF, nI_ltT, nI_ltF, nI_eqT, nI_eqF, nI_lt0F, nI_0leT, nI_eq0T, nI_eq0F, nI_0ltT, nI_0ltF, nI_le0T, nI_le0F, nI_m1, nI_m1', m1_m1, m1_lt, m1_le, nI_mul, nI_add, nI_sub, nI_add1, nI_dec, nI_div, nI_mod, vp_inD, sf_nkD, sf_eqD]
    refine ⟨_, _, ?_, mk1 0 (by omega) (fun j hj => absurd hj (Nat.not_lt_zero _))⟩
    (simp (decide := true) only [am_has, am_lk0, am_lk1, and_self, true_and, and_true] <;> first | rfl | (refine ⟨?_, ?_⟩ <;> rfl) | (refine ⟨?_, ?_, ?_⟩ <;> rfl) | (refine ⟨?_, ?_, ?_, ?_⟩ <;> rfl))
end MP1
