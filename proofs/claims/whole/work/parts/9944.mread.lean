/-! reading a sentence -/
theorem arg_up (L : Nat → Nat) (e : Nat) : (arg L e).2.1 ≤ e + 5 := by
  unfold arg
  repeat' split
  all_goals (dsimp only; omega)
theorem itq_up (L : Nat → Nat) (pa : Nat) (fs : List Fg) (q ng k e : Nat) : (itq L pa fs q ng k e).2.1 ≤ e + 20 := by
  have h1 := (nm_le L 5 (e + 3)).2
  have h2 := arg_up L (nm L (e + 3) 5)
  unfold itq
  repeat' split
  all_goals (dsimp only [rbad]; omega)
theorem itm_up (L : Nat → Nat) (t pa : Nat) (fs : List Fg) (q ng : Nat) : (itm L t pa fs q ng).2.1 ≤ pa + 30 := by
  have h1 := (nm_le L 5 pa).2
  have h2 := arg_up L (nm L pa 5)
  have h3 := itq_up L pa fs q ng (wk L pa (nm L pa 5)) (nm L pa 5)
  unfold itm
  repeat' split
  all_goals first | (dsimp only [rbad]; omega) | omega
theorem frm_up (L : Nat → Nat) (t : Nat) : ∀ (k : Nat) (s : Ps), (frm L t k s).2.1 ≤ s.1 + 30 * k
  | 0, s => Nat.le_add_right _ _
  | k + 1, s => by
    have h1 := itm_up L t s.1 s.2.1 s.2.2.1 s.2.2.2
    unfold frm
    split
    · have h2 := frm_up L t k (itm L t s.1 s.2.1 s.2.2.1 s.2.2.2).2
      omega
    · omega
theorem frm_lt (L : Nat → Nat) (t : Nat) : (frm L t 7 Ps0).2.1 < 1000 := by
  have := frm_up L t 7 Ps0
  have h : Ps0.1 = 0 := rfl
  omega
/-- negations have nothing but their kind -/
def N5 (fs : List Fg) : Prop := ∀ x ∈ fs, kF x = 5 → x = (5, 0, 0, 0, 0, 0)
theorem N5.add {fs : List Fg} (h : N5 fs) {x : Fg} (hx : kF x = 5 → x = (5, 0, 0, 0, 0, 0)) : N5 (fs ++ [x]) := fun y hy hk => (List.mem_append.mp hy).elim (fun h1 => h y h1 hk) (fun h1 => by
  rw [List.mem_singleton] at h1
  subst h1
  exact hx hk)
theorem itm_N5 {L : Nat → Nat} {t pa : Nat} {fs : List Fg} {q ng : Nat} (h : N5 fs) : N5 (itm L t pa fs q ng).2.2.1 := by
  have h0 : N5 ([] : List Fg) := fun _ hx => absurd hx List.not_mem_nil
  have hq : wk L pa (nm L pa 5) ≠ 5 → N5 (itq L pa fs q ng (wk L pa (nm L pa 5)) (nm L pa 5)).2.2.1 := by
    intro h5
    unfold itq
    repeat' split
    all_goals first | exact h0 | exact (h.add (fun h9 => absurd h9 h5)).add (fun h9 => (by cases h9))
  unfold itm
  split
  · exact h0
  · split
    · split
      · exact h.add (fun h9 => (by cases h9))
      · exact h0
    · split
      · exact h0
      · split
        · split
          · exact h0
          · exact h.add (fun _ => rfl)
        · rename_i h5
          exact hq h5
theorem frm_N5 {L : Nat → Nat} {t : Nat} : ∀ (k : Nat) (s : Ps), N5 s.2.1 → N5 (frm L t k s).2.2.1
  | 0, s, _ => fun _ hx => absurd hx List.not_mem_nil
  | k + 1, s, h => by
    unfold frm
    split
    · exact frm_N5 k _ (itm_N5 h)
    · exact itm_N5 h
theorem NV_of {L : Nat → Nat} {t : Nat} {fs : List Fg} (hG : Good L t fs) (h5 : N5 fs) : NV fs := by
  intro f hf
  have ht := hG.2.2.2.2.2.2.2
  have lf : ∀ g, g < fs.length → kF (nF fs g) = 0 → aF (nF fs g) ≤ 100 := fun g hg hk => by
    have := hG.leaf hg hk
    have h1 := this.1
    have h2 := this.2.2.2.2.2.2.1
    have h3 := this.2.2.2.2.2.2.2
    rcases h2 with h2 | h2 <;> omega
  rcases hG.2.2.2.2.2.1 f hf with ⟨h1, h2, -⟩ | ⟨h1, h2, h3, h4, h6⟩ | ⟨h1, -⟩
  · exact ⟨h2.2.2.2.2.2.1, lf f hf h1⟩
  · refine ⟨h3, ?_⟩
    have h7 := hG.2.2.2.2.2.2.1 f (f + 1) (by omega) (by omega) (by omega) (by omega)
    have h8 := lf (f + 1) (by omega) h6
    have h9 : enF (nF fs f) = aF (nF fs f) + 1 := by unfold enF; rw [if_neg (by omega)]
    omega
  · have hm : nF fs f ∈ fs := by
      show fs.getD f Fz ∈ fs
      rw [List.getD_eq_getElem?_getD, List.getElem?_eq_getElem hf]
      exact List.getElem_mem hf
    rw [h5 _ hm h1]
    exact ⟨by decide, by decide⟩
def L0 : Nat → Nat := fun _ => 0
theorem TX_0 (c : Nat) (I : Nat → Nat → Int32) : TX c L0 0 I := ⟨by omega, fun k hk => absurd hk (Nat.not_lt_zero _), fun _ _ => rfl⟩
section MRD
variable (g : am_G) (h : Nat) {L : Nat → Nat} {t e dm : Nat} {fc : Nat → Bool} {L' : Nat → Nat} {t' : Nat} {fs : List Fg} {cs : List (Nat × Nat)} {os : List (List Nat)} {I : Nat → Nat → Int32} (J : Nat → Nat → Int64)
theorem Mw.ek (hw : Mw L t e dm fc L' t' fs cs os I) {e' : Nat} {I' : Nat → Nat → Int32} (h3 : I' 60 3 = nI e') (h1 : ∀ k, k = 2 ∨ k = 16 ∨ k = 23 ∨ k = 26 ∨ k = 29 ∨ k = 48 ∨ k = 32 → I' 60 k = I 60 k) (h2 : ∀ c, c = 61 ∨ (67 ≤ c ∧ c ≤ 79) ∨ c = 93 ∨ c = 88 ∨ c = 91 ∨ c = 92 → I' c = I c) : Mw L t e' dm fc L' t' fs cs os I' := by
  have hw2 : Mw L t e dm fc L' t' fs cs os (sf I' 60 3 (nI e)) := hw.fr (fun k hk => by
    by_cases hk3 : k = 3
    · subst hk3; rw [sf_eq]; exact hw.1.2.2.1.symm
    · rw [sf_nkD hk3]; exact h1 k (by omega)) (fun c hc => by rw [sf_naD (by omega)]; exact h2 c hc)
  obtain ⟨⟨a1, a2, a3, a4⟩, ⟨b1, b2, b3, b4⟩, ⟨d1, d2, d3, d4⟩, w⟩ := hw2
  have n6 : ∀ c, c ≠ 60 → I' c = sf I' 60 3 (nI e) c := fun c hc => (sf_naD hc).symm
  have n3 : ∀ k, k ≠ 3 → I' 60 k = sf I' 60 3 (nI e) 60 k := fun k hk => (sf_nkD hk).symm
  refine ⟨⟨a1.fr (n6 61 (by decide)), by rw [n3 2 (by decide)]; exact a2, h3, fun k hk => by rw [n6 67 (by decide)]; exact a4 k hk⟩, ⟨by rw [n3 48 (by decide)]; exact b1, b2, b3, fun k hk => by rw [n6 93 (by decide)]; exact b4 k hk⟩, ⟨d1.fr (n3 16 (by decide)) (n3 23 (by decide)) (fun c x1 x2 => n6 c (by omega)), ⟨by rw [n3 26 (by decide)]; exact d2.1, fun k hk => by rw [n6 76 (by decide), n6 77 (by decide)]; exact d2.2 k hk⟩, d3.fr (n6 75 (by decide)), d4.fr (n3 29 (by decide)) (n6 78 (by decide)) (n6 79 (by decide))⟩, ?_⟩
  rw [← n3 32 (by decide)] at w
  rcases w with w | ⟨w1, w2, w3, w4, w5, w6⟩
  · exact Or.inl w
  · exact Or.inr ⟨w1, w2, w3, w4, w5, w6.elim Or.inl (fun h9 => Or.inr ⟨h9.1, h9.2.fr (fun c hc => n6 c (by omega))⟩)⟩
set_option maxRecDepth 100000 in
set_option maxHeartbeats 8000000 in
theorem m1_readSentence (hw : Mw L t e dm fc L' t' fs cs os I) (hx : ¬ (frm L t 7 Ps0).1 = 2) :
    am_Ctr g am_mt 1 (h + 6) 149 [.ref 60] (am_SH, I, J) 0 0 (fun r M => r = some (.int (-1 - nI (frm L t 7 Ps0).2.1)) ∧ ∃ I', M = (am_SH, I', J) ∧ (∀ c, c < 60 → I' c = I c) ∧ Mw L t 1 dm fc L' t' fs cs os I') := by
  have hw0 := hw.s0 (nI 0)
  have ht := hw.1.1
  have h87 := frm_87 ht.2.2 ht.1
  have hf := c_X10_hasForm g h (sf I 60 0 (nI 0)) J hw0.1.1 hw0.1.2.1 hw0.1.2.2.2
  rw [h87, decide_eq_false hx] at hf
  refine am_rule0 (q := qX10_readSentence) (B := am_blk bX10_readSentence) 90 rfl rfl kX10_readSentence nX10_readSentence (Nat.le_of_ble_eq_true rfl) ?_
  simp (decide := true) (disch := (first | exact eq_false (by decide) | exact eq_true (by decide) | decide | omega)) only [lX10_readSentence_0, lX10_readSentence_19, lX10_readSentence_20, lX10_readSentence_58, bX10_readSentence_0, bX10_readSentence_19, bX10_readSentence_20, bX10_readSentence_58, (show qX10_readSentence.2.2.2.1 = (some .int) from rfl), am_rok_int, w_aload_n, w_getfield, w_goto, w_iconst, w_if_eq, w_if_le, w_if_lt, w_iload_n, w_ireturn, w_istore_n, w_isub, w_puti, w_swap, sg_60_16, sg_60_3, sg_60_4, sg_60_5, sp_60_0, sp_60_2, sp_60_3, sp_60_4, cI_0, cI_1, cI_2, cI_m1, am_lk0, am_lk1, am_ld_some, am_isI_i, am_isJ_j, am_isR_r, am_st_eq, am_rmv_nil, am_rmv_t, am_rmv_i, am_rmv_r, sf_SH, sj_SH, sf_eq, sf_nk, sf_na, sf_sf, am_args_i, am_args_r, am_args_n, Nat.reduceAdd, List.cons_append, List.nil_append, Option.toList, List.drop_succ_cons, List.drop_zero, am_RP, am_CP, am_PH, Fin.isValue, Fin.val_zero, Fin.val_one, am_f2, am_f3, true_and, and_true, true_implies, false_implies, not_false_eq_true, ne_eq, am_RPX, am_XPX, am_CPX, am_PHX, am_MCX, am_MSX, am_RPH, am_PHH, am_MCH, am_MSH, w_throw, sa_95, am_LE0, nI_clampD, nI_leT, nI_leF, nI_ltT, nI_ltF, nI_eqT, nI_eqF, nI_lt0F, nI_0leT, nI_eq0T, nI_eq0F, nI_0ltT, nI_0ltF, nI_le0T, nI_le0F, nI_m1, nI_m1', m1_m1, m1_lt, m1_le, nI_mul, nI_add, nI_sub, nI_add1, nI_dec, nI_div, nI_mod, vp_inD, sf_nkD, sf_eqD]
  refine w_virtP hf rfl rfl rfl (of_eq_true so_60) rfl (Nat.zero_le _) (Nat.zero_le _) ?_
  rintro R1 M1 ⟨rfl, I1, rfl, f1, f2, f3⟩
  simp (decide := true) (disch := (first | exact eq_false (by decide) | exact eq_true (by decide) | decide | omega)) only [lX10_readSentence_0, lX10_readSentence_19, lX10_readSentence_20, lX10_readSentence_58, bX10_readSentence_0, bX10_readSentence_19, bX10_readSentence_20, bX10_readSentence_58, (show qX10_readSentence.2.2.2.1 = (some .int) from rfl), am_rok_int, w_aload_n, w_getfield, w_goto, w_iconst, w_if_eq, w_if_le, w_if_lt, w_iload_n, w_ireturn, w_istore_n, w_isub, w_puti, w_swap, sg_60_16, sg_60_3, sg_60_4, sg_60_5, sp_60_0, sp_60_2, sp_60_3, sp_60_4, cI_0, cI_1, cI_2, cI_m1, am_lk0, am_lk1, am_ld_some, am_isI_i, am_isJ_j, am_isR_r, am_st_eq, am_rmv_nil, am_rmv_t, am_rmv_i, am_rmv_r, sf_SH, sj_SH, sf_eq, sf_nk, sf_na, sf_sf, am_args_i, am_args_r, am_args_n, Nat.reduceAdd, List.cons_append, List.nil_append, Option.toList, List.drop_succ_cons, List.drop_zero, am_RP, am_CP, am_PH, Fin.isValue, Fin.val_zero, Fin.val_one, am_f2, am_f3, true_and, and_true, true_implies, false_implies, not_false_eq_true, ne_eq, am_RPX, am_XPX, am_CPX, am_PHX, am_MCX, am_MSX, am_RPH, am_PHH, am_MCH, am_MSH, w_throw, sa_95, am_LE0, nI_clampD, nI_leT, nI_leF, nI_ltT, nI_ltF, nI_eqT, nI_eqF, nI_lt0F, nI_0leT, nI_eq0T, nI_eq0F, nI_0ltT, nI_0ltF, nI_le0T, nI_le0F, nI_m1, nI_m1', m1_m1, m1_lt, m1_le, nI_mul, nI_add, nI_sub, nI_add1, nI_dec, nI_div, nI_mod, vp_inD, sf_nkD, sf_eqD, bI_f, f2]
  refine ⟨_, rfl, fun c hc => by rw [sf_naD (by omega), sf_naD (by omega), f1.1 c (by omega), sf_naD (by omega)], hw.ek (by rw [sf_nkD (by decide), sf_eq]) (fun k hk => ?_) (fun c hc => ?_)⟩
  · rw [sf_nkD (by omega), sf_nkD (by omega), f1.2 k (by omega), sf_nkD (by omega)]
  · rw [sf_naD (by omega), sf_naD (by omega), f1.1 c (by omega), sf_naD (by omega)]
set_option maxRecDepth 100000 in
set_option maxHeartbeats 8000000 in
theorem m2_readSentence (hw : Mw L t e dm fc L' t' fs cs os I) (hx : (frm L t 7 Ps0).1 = 2) (hu : 0 < uer L (frm L t 7 Ps0).2.2.1 (frm L t 7 Ps0).2.2.1.length) (hub : uer L (frm L t 7 Ps0).2.2.1 (frm L t 7 Ps0).2.2.1.length < 1000) :
    am_Ctr g am_mt 1 (h + 6) 149 [.ref 60] (am_SH, I, J) 0 0 (fun r M => r = some (.int (-1 - nI (uer L (frm L t 7 Ps0).2.2.1 (frm L t 7 Ps0).2.2.1.length - 1))) ∧ ∃ I', M = (am_SH, I', J) ∧ (∀ c, c < 60 → I' c = I c) ∧ Mw L t 2 dm fc L' t' fs cs os I') := by
  have hw0 := hw.s0 (nI 0)
  have ht := hw.1.1
  have h87 := frm_87 ht.2.2 ht.1
  have hG := frm_7good ht.2.2 ht.1 hx
  have hNV := NV_of hG (frm_N5 7 Ps0 (fun _ h9 => absurd h9 List.not_mem_nil))
  have hru := rer_uer hG
  have hf := c_X10_hasForm g h (sf I 60 0 (nI 0)) J hw0.1.1 hw0.1.2.1 hw0.1.2.2.2
  rw [h87, decide_eq_true hx] at hf
  generalize (frm L t 7 Ps0).2.2.1 = fs1 at *
  generalize huu : uer L fs1 fs1.length = u at *
  have hwu : (wI u < 0) = False := wI_lt0f hu (by omega)
  have hwp : wI u = nI (u - 1) := wI_p hu
  refine am_rule0 (q := qX10_readSentence) (B := am_blk bX10_readSentence) 90 rfl rfl kX10_readSentence nX10_readSentence (Nat.le_of_ble_eq_true rfl) ?_
  simp (decide := true) (disch := (first | exact eq_false (by decide) | exact eq_true (by decide) | decide | omega)) only [lX10_readSentence_0, lX10_readSentence_19, lX10_readSentence_20, lX10_readSentence_49, lX10_readSentence_50, lX10_readSentence_58, bX10_readSentence_0, bX10_readSentence_19, bX10_readSentence_20, bX10_readSentence_49, bX10_readSentence_50, bX10_readSentence_58, (show qX10_readSentence.2.2.2.1 = (some .int) from rfl), am_rok_int, w_aload_n, w_getfield, w_goto, w_iconst, w_if_eq, w_if_le, w_if_lt, w_iload_n, w_ireturn, w_istore_n, w_isub, w_puti, w_swap, sg_60_16, sg_60_3, sg_60_4, sg_60_5, sp_60_0, sp_60_2, sp_60_3, sp_60_4, cI_0, cI_1, cI_2, cI_m1, am_lk0, am_lk1, am_ld_some, am_isI_i, am_isJ_j, am_isR_r, am_st_eq, am_rmv_nil, am_rmv_t, am_rmv_i, am_rmv_r, sf_SH, sj_SH, sf_eq, sf_nk, sf_na, sf_sf, am_args_i, am_args_r, am_args_n, Nat.reduceAdd, List.cons_append, List.nil_append, Option.toList, List.drop_succ_cons, List.drop_zero, am_RP, am_CP, am_PH, Fin.isValue, Fin.val_zero, Fin.val_one, am_f2, am_f3, true_and, and_true, true_implies, false_implies, not_false_eq_true, ne_eq, am_RPX, am_XPX, am_CPX, am_PHX, am_MCX, am_MSX, am_RPH, am_PHH, am_MCH, am_MSH, w_throw, sa_95, am_LE0, nI_clampD, nI_leT, nI_leF, nI_ltT, nI_ltF, nI_eqT, nI_eqF, nI_lt0F, nI_0leT, nI_eq0T, nI_eq0F, nI_0ltT, nI_0ltF, nI_le0T, nI_le0F, nI_m1, nI_m1', m1_m1, m1_lt, m1_le, nI_mul, nI_add, nI_sub, nI_add1, nI_dec, nI_div, nI_mod, vp_inD, sf_nkD, sf_eqD]
  refine w_virtP hf rfl rfl rfl (of_eq_true so_60) rfl (Nat.zero_le _) (Nat.zero_le _) ?_
  rintro R1 M1 ⟨rfl, I1, rfl, f1, f2, f3⟩
  have hRM := f3 hx
  simp (decide := true) (disch := (first | exact eq_false (by decide) | exact eq_true (by decide) | decide | omega)) only [lX10_readSentence_0, lX10_readSentence_19, lX10_readSentence_20, lX10_readSentence_49, lX10_readSentence_50, lX10_readSentence_58, bX10_readSentence_0, bX10_readSentence_19, bX10_readSentence_20, bX10_readSentence_49, bX10_readSentence_50, bX10_readSentence_58, (show qX10_readSentence.2.2.2.1 = (some .int) from rfl), am_rok_int, w_aload_n, w_getfield, w_goto, w_iconst, w_if_eq, w_if_le, w_if_lt, w_iload_n, w_ireturn, w_istore_n, w_isub, w_puti, w_swap, sg_60_16, sg_60_3, sg_60_4, sg_60_5, sp_60_0, sp_60_2, sp_60_3, sp_60_4, cI_0, cI_1, cI_2, cI_m1, am_lk0, am_lk1, am_ld_some, am_isI_i, am_isJ_j, am_isR_r, am_st_eq, am_rmv_nil, am_rmv_t, am_rmv_i, am_rmv_r, sf_SH, sj_SH, sf_eq, sf_nk, sf_na, sf_sf, am_args_i, am_args_r, am_args_n, Nat.reduceAdd, List.cons_append, List.nil_append, Option.toList, List.drop_succ_cons, List.drop_zero, am_RP, am_CP, am_PH, Fin.isValue, Fin.val_zero, Fin.val_one, am_f2, am_f3, true_and, and_true, true_implies, false_implies, not_false_eq_true, ne_eq, am_RPX, am_XPX, am_CPX, am_PHX, am_MCX, am_MSX, am_RPH, am_PHH, am_MCH, am_MSH, w_throw, sa_95, am_LE0, nI_clampD, nI_leT, nI_leF, nI_ltT, nI_ltF, nI_eqT, nI_eqF, nI_lt0F, nI_0leT, nI_eq0T, nI_eq0F, nI_0ltT, nI_0ltF, nI_le0T, nI_le0F, nI_m1, nI_m1', m1_m1, m1_lt, m1_le, nI_mul, nI_add, nI_sub, nI_add1, nI_dec, nI_div, nI_mod, vp_inD, sf_nkD, sf_eqD, bI_t]
  refine w_virtE (c_X10_secondError g (h + 2) _ J (fs := fs1) ((ht.fr (f1.1 61 (by decide) |>.trans (sf_naD (by decide)))).fr (by rw [sf_naD (by decide), sf_naD (by decide)])) (hRM.fr (by rw [sf_nkD (by decide), sf_nkD (by decide)]) (fun c x1 x2 => by rw [sf_naD (by omega), sf_naD (by omega)])) hG hNV) rfl rfl rfl (of_eq_true so_60) rfl (Nat.zero_le _) (Nat.zero_le _) ?_
  rw [hru]
  simp (decide := true) (disch := (first | exact eq_false (by decide) | exact eq_true (by decide) | decide | omega)) only [lX10_readSentence_0, lX10_readSentence_19, lX10_readSentence_20, lX10_readSentence_49, lX10_readSentence_50, lX10_readSentence_58, bX10_readSentence_0, bX10_readSentence_19, bX10_readSentence_20, bX10_readSentence_49, bX10_readSentence_50, bX10_readSentence_58, (show qX10_readSentence.2.2.2.1 = (some .int) from rfl), am_rok_int, w_aload_n, w_getfield, w_goto, w_iconst, w_if_eq, w_if_le, w_if_lt, w_iload_n, w_ireturn, w_istore_n, w_isub, w_puti, w_swap, sg_60_16, sg_60_3, sg_60_4, sg_60_5, sp_60_0, sp_60_2, sp_60_3, sp_60_4, cI_0, cI_1, cI_2, cI_m1, am_lk0, am_lk1, am_ld_some, am_isI_i, am_isJ_j, am_isR_r, am_st_eq, am_rmv_nil, am_rmv_t, am_rmv_i, am_rmv_r, sf_SH, sj_SH, sf_eq, sf_nk, sf_na, sf_sf, am_args_i, am_args_r, am_args_n, Nat.reduceAdd, List.cons_append, List.nil_append, Option.toList, List.drop_succ_cons, List.drop_zero, am_RP, am_CP, am_PH, Fin.isValue, Fin.val_zero, Fin.val_one, am_f2, am_f3, true_and, and_true, true_implies, false_implies, not_false_eq_true, ne_eq, am_RPX, am_XPX, am_CPX, am_PHX, am_MCX, am_MSX, am_RPH, am_PHH, am_MCH, am_MSH, w_throw, sa_95, am_LE0, nI_clampD, nI_leT, nI_leF, nI_ltT, nI_ltF, nI_eqT, nI_eqF, nI_lt0F, nI_0leT, nI_eq0T, nI_eq0F, nI_0ltT, nI_0ltF, nI_le0T, nI_le0F, nI_m1, nI_m1', m1_m1, m1_lt, m1_le, nI_mul, nI_add, nI_sub, nI_add1, nI_dec, nI_div, nI_mod, vp_inD, sf_nkD, sf_eqD, hwu, hwp]
  refine ⟨_, rfl, fun c hc => ?_, hw.ek ?_ (fun k hk => ?_) (fun c hc => ?_)⟩
  · simp (disch := omega) only [sf_naD]
    rw [f1.1 c (by omega), sf_naD (by omega)]
  · rw [sf_nkD (by decide), sf_eq]
  · simp (disch := omega) only [sf_nkD]
    rw [f1.2 k (by omega), sf_nkD (by omega)]
  · simp (disch := omega) only [sf_naD]
    rw [f1.1 c (by omega), sf_naD (by omega)]
set_option maxRecDepth 100000 in
set_option maxHeartbeats 8000000 in
theorem m0_readSentence (hw : Mw L t e dm fc L' t' fs cs os I) (hx : (frm L t 7 Ps0).1 = 2) (hu : uer L (frm L t 7 Ps0).2.2.1 (frm L t 7 Ps0).2.2.1.length = 0) :
    am_Ctr g am_mt 1 (h + 6) 149 [.ref 60] (am_SH, I, J) 0 0 (fun r M => r = some (.int (nI (frm L t 7 Ps0).2.2.1.length)) ∧ ∃ I', M = (am_SH, I', J) ∧ (∀ c, c < 60 → I' c = I c) ∧ Mw L0 0 0 dm (fun _ => false) L t (frm L t 7 Ps0).2.2.1 [] (RLs (frm L t 7 Ps0).2.2.1 []) I') := by
  have hw0 := hw.s0 (nI 0)
  have ht := hw.1.1
  have h87 := frm_87 ht.2.2 ht.1
  have hG := frm_7good ht.2.2 ht.1 hx
  have hNV := NV_of hG (frm_N5 7 Ps0 (fun _ h9 => absurd h9 List.not_mem_nil))
  have hru := rer_uer hG
  have hUs := Usd_of hG hu
  have hsm := frm_ln (L := L) (t := t) 7 0 [] 0 0 (Nat.le_refl _) hx
  have hsm : smL (frm L t 7 Ps0).2.2.1 ≤ t := hsm
  have hf := c_X10_hasForm g h (sf I 60 0 (nI 0)) J hw0.1.1 hw0.1.2.1 hw0.1.2.2.2
  rw [h87, decide_eq_true hx] at hf
  generalize (frm L t 7 Ps0).2.2.1 = fs1 at *
  rw [hu] at hru
  refine am_rule0 (q := qX10_readSentence) (B := am_blk bX10_readSentence) 90 rfl rfl kX10_readSentence nX10_readSentence (Nat.le_of_ble_eq_true rfl) ?_
  simp (decide := true) (disch := (first | exact eq_false (by decide) | exact eq_true (by decide) | decide | omega)) only [lX10_readSentence_0, lX10_readSentence_19, lX10_readSentence_20, lX10_readSentence_49, lX10_readSentence_50, lX10_readSentence_58, lX10_readSentence_72, bX10_readSentence_0, bX10_readSentence_19, bX10_readSentence_20, bX10_readSentence_49, bX10_readSentence_50, bX10_readSentence_58, bX10_readSentence_72, (show qX10_readSentence.2.2.2.1 = (some .int) from rfl), am_rok_int, w_aload_n, w_getfield, w_goto, w_iconst, w_if_eq, w_if_le, w_if_lt, w_iload_n, w_ireturn, w_istore_n, w_isub, w_puti, w_swap, sg_60_16, sg_60_3, sg_60_4, sg_60_5, sp_60_0, sp_60_2, sp_60_3, sp_60_4, cI_0, cI_1, cI_2, cI_m1, am_lk0, am_lk1, am_ld_some, am_isI_i, am_isJ_j, am_isR_r, am_st_eq, am_rmv_nil, am_rmv_t, am_rmv_i, am_rmv_r, sf_SH, sj_SH, sf_eq, sf_nk, sf_na, sf_sf, am_args_i, am_args_r, am_args_n, Nat.reduceAdd, List.cons_append, List.nil_append, Option.toList, List.drop_succ_cons, List.drop_zero, am_RP, am_CP, am_PH, Fin.isValue, Fin.val_zero, Fin.val_one, am_f2, am_f3, true_and, and_true, true_implies, false_implies, not_false_eq_true, ne_eq, am_RPX, am_XPX, am_CPX, am_PHX, am_MCX, am_MSX, am_RPH, am_PHH, am_MCH, am_MSH, w_throw, sa_95, am_LE0, nI_clampD, nI_leT, nI_leF, nI_ltT, nI_ltF, nI_eqT, nI_eqF, nI_lt0F, nI_0leT, nI_eq0T, nI_eq0F, nI_0ltT, nI_0ltF, nI_le0T, nI_le0F, nI_m1, nI_m1', m1_m1, m1_lt, m1_le, nI_mul, nI_add, nI_sub, nI_add1, nI_dec, nI_div, nI_mod, vp_inD, sf_nkD, sf_eqD]
  refine w_virtP hf rfl rfl rfl (of_eq_true so_60) rfl (Nat.zero_le _) (Nat.zero_le _) ?_
  rintro R1 M1 ⟨rfl, I1, rfl, f1, f2, f3⟩
  have hRM := f3 hx
  simp (decide := true) (disch := (first | exact eq_false (by decide) | exact eq_true (by decide) | decide | omega)) only [lX10_readSentence_0, lX10_readSentence_19, lX10_readSentence_20, lX10_readSentence_49, lX10_readSentence_50, lX10_readSentence_58, lX10_readSentence_72, bX10_readSentence_0, bX10_readSentence_19, bX10_readSentence_20, bX10_readSentence_49, bX10_readSentence_50, bX10_readSentence_58, bX10_readSentence_72, (show qX10_readSentence.2.2.2.1 = (some .int) from rfl), am_rok_int, w_aload_n, w_getfield, w_goto, w_iconst, w_if_eq, w_if_le, w_if_lt, w_iload_n, w_ireturn, w_istore_n, w_isub, w_puti, w_swap, sg_60_16, sg_60_3, sg_60_4, sg_60_5, sp_60_0, sp_60_2, sp_60_3, sp_60_4, cI_0, cI_1, cI_2, cI_m1, am_lk0, am_lk1, am_ld_some, am_isI_i, am_isJ_j, am_isR_r, am_st_eq, am_rmv_nil, am_rmv_t, am_rmv_i, am_rmv_r, sf_SH, sj_SH, sf_eq, sf_nk, sf_na, sf_sf, am_args_i, am_args_r, am_args_n, Nat.reduceAdd, List.cons_append, List.nil_append, Option.toList, List.drop_succ_cons, List.drop_zero, am_RP, am_CP, am_PH, Fin.isValue, Fin.val_zero, Fin.val_one, am_f2, am_f3, true_and, and_true, true_implies, false_implies, not_false_eq_true, ne_eq, am_RPX, am_XPX, am_CPX, am_PHX, am_MCX, am_MSX, am_RPH, am_PHH, am_MCH, am_MSH, w_throw, sa_95, am_LE0, nI_clampD, nI_leT, nI_leF, nI_ltT, nI_ltF, nI_eqT, nI_eqF, nI_lt0F, nI_0leT, nI_eq0T, nI_eq0F, nI_0ltT, nI_0ltF, nI_le0T, nI_le0F, nI_m1, nI_m1', m1_m1, m1_lt, m1_le, nI_mul, nI_add, nI_sub, nI_add1, nI_dec, nI_div, nI_mod, vp_inD, sf_nkD, sf_eqD, bI_t]
  refine w_virtE (c_X10_secondError g (h + 2) _ J (fs := fs1) ((ht.fr (f1.1 61 (by decide) |>.trans (sf_naD (by decide)))).fr (by rw [sf_naD (by decide), sf_naD (by decide)])) (hRM.fr (by rw [sf_nkD (by decide), sf_nkD (by decide)]) (fun c x1 x2 => by rw [sf_naD (by omega), sf_naD (by omega)])) hG hNV) rfl rfl rfl (of_eq_true so_60) rfl (Nat.zero_le _) (Nat.zero_le _) ?_
  rw [hru]
  simp (decide := true) (disch := (first | exact eq_false (by decide) | exact eq_true (by decide) | decide | omega)) only [lX10_readSentence_0, lX10_readSentence_19, lX10_readSentence_20, lX10_readSentence_49, lX10_readSentence_50, lX10_readSentence_58, lX10_readSentence_72, bX10_readSentence_0, bX10_readSentence_19, bX10_readSentence_20, bX10_readSentence_49, bX10_readSentence_50, bX10_readSentence_58, bX10_readSentence_72, (show qX10_readSentence.2.2.2.1 = (some .int) from rfl), am_rok_int, w_aload_n, w_getfield, w_goto, w_iconst, w_if_eq, w_if_le, w_if_lt, w_iload_n, w_ireturn, w_istore_n, w_isub, w_puti, w_swap, sg_60_16, sg_60_3, sg_60_4, sg_60_5, sp_60_0, sp_60_2, sp_60_3, sp_60_4, cI_0, cI_1, cI_2, cI_m1, am_lk0, am_lk1, am_ld_some, am_isI_i, am_isJ_j, am_isR_r, am_st_eq, am_rmv_nil, am_rmv_t, am_rmv_i, am_rmv_r, sf_SH, sj_SH, sf_eq, sf_nk, sf_na, sf_sf, am_args_i, am_args_r, am_args_n, Nat.reduceAdd, List.cons_append, List.nil_append, Option.toList, List.drop_succ_cons, List.drop_zero, am_RP, am_CP, am_PH, Fin.isValue, Fin.val_zero, Fin.val_one, am_f2, am_f3, true_and, and_true, true_implies, false_implies, not_false_eq_true, ne_eq, am_RPX, am_XPX, am_CPX, am_PHX, am_MCX, am_MSX, am_RPH, am_PHH, am_MCH, am_MSH, w_throw, sa_95, am_LE0, nI_clampD, nI_leT, nI_leF, nI_ltT, nI_ltF, nI_eqT, nI_eqF, nI_lt0F, nI_0leT, nI_eq0T, nI_eq0F, nI_0ltT, nI_0ltF, nI_le0T, nI_le0F, nI_m1, nI_m1', m1_m1, m1_lt, m1_le, nI_mul, nI_add, nI_sub, nI_add1, nI_dec, nI_div, nI_mod, vp_inD, sf_nkD, sf_eqD, wI_lt0t]
  generalize hI2 : sf _ 60 4 (wI 0) = I2
  have i2k : ∀ k, k ≠ 3 → k ≠ 4 → k ≠ 15 → I2 60 k = I1 60 k := fun k x1 x2 x3 => by rw [← hI2]; simp (disch := omega) only [sf_nkD]
  have i2c : ∀ c, c ≠ 60 → I2 c = I1 c := fun c x1 => by rw [← hI2]; simp (disch := omega) only [sf_naD]
  have i23 : I2 60 3 = nI 0 := by rw [← hI2, sf_nkD (by decide), sf_eq]
  have i1k : ∀ k, k ≠ 0 → k < 5 ∨ 8 < k → I1 60 k = I 60 k := fun k x1 x2 => by rw [f1.2 k x2, sf_nkD x1]
  have i1c : ∀ c, c < 60 ∨ c = 61 ∨ 66 < c → I1 c = I c := fun c x1 => by rw [f1.1 c x1, sf_naD (by omega)]
  refine w_virtP (c_X10_takes g h I2 J (L := L) (t := t) (fs := fs1) (ht.fr ((i2c 61 (by decide)).trans (i1c 61 (by decide)))) ((i2k 2 (by decide) (by decide) (by decide)).trans ((i1k 2 (by decide) (by decide)).trans hw.1.2.1)) (hRM.fr (i2k 6 (by decide) (by decide) (by decide)) (fun c x1 x2 => i2c c (by omega))) hG) rfl rfl rfl (of_eq_true so_60) rfl (Nat.zero_le _) (Nat.zero_le _) ?_
  rintro R1 M1 ⟨rfl, I3, rfl, k1, k2, k3, k4, k5, k6, k7⟩
  have h16 := k2.1
  simp (decide := true) (disch := (first | exact eq_false (by decide) | exact eq_true (by decide) | decide | omega)) only [lX10_readSentence_0, lX10_readSentence_19, lX10_readSentence_20, lX10_readSentence_49, lX10_readSentence_50, lX10_readSentence_58, lX10_readSentence_72, bX10_readSentence_0, bX10_readSentence_19, bX10_readSentence_20, bX10_readSentence_49, bX10_readSentence_50, bX10_readSentence_58, bX10_readSentence_72, (show qX10_readSentence.2.2.2.1 = (some .int) from rfl), am_rok_int, w_aload_n, w_getfield, w_goto, w_iconst, w_if_eq, w_if_le, w_if_lt, w_iload_n, w_ireturn, w_istore_n, w_isub, w_puti, w_swap, sg_60_16, sg_60_3, sg_60_4, sg_60_5, sp_60_0, sp_60_2, sp_60_3, sp_60_4, cI_0, cI_1, cI_2, cI_m1, am_lk0, am_lk1, am_ld_some, am_isI_i, am_isJ_j, am_isR_r, am_st_eq, am_rmv_nil, am_rmv_t, am_rmv_i, am_rmv_r, sf_SH, sj_SH, sf_eq, sf_nk, sf_na, sf_sf, am_args_i, am_args_r, am_args_n, Nat.reduceAdd, List.cons_append, List.nil_append, Option.toList, List.drop_succ_cons, List.drop_zero, am_RP, am_CP, am_PH, Fin.isValue, Fin.val_zero, Fin.val_one, am_f2, am_f3, true_and, and_true, true_implies, false_implies, not_false_eq_true, ne_eq, am_RPX, am_XPX, am_CPX, am_PHX, am_MCX, am_MSX, am_RPH, am_PHH, am_MCH, am_MSH, w_throw, sa_95, am_LE0, nI_clampD, nI_leT, nI_leF, nI_ltT, nI_ltF, nI_eqT, nI_eqF, nI_lt0F, nI_0leT, nI_eq0T, nI_eq0F, nI_0ltT, nI_0ltF, nI_le0T, nI_le0F, nI_m1, nI_m1', m1_m1, m1_lt, m1_le, nI_mul, nI_add, nI_sub, nI_add1, nI_dec, nI_div, nI_mod, vp_inD, sf_nkD, sf_eqD, h16]
  have q60 : ∀ k, k = 48 → sf I3 60 2 (nI 0) 60 k = I 60 k := fun k hk => by rw [sf_nkD (by omega), k1.2 k (by omega) (by omega) (by omega) (by omega) (by omega) (by omega), i2k k (by omega) (by omega) (by omega), i1k k (by omega) (by omega)]
  have qc : ∀ c, c < 60 ∨ c = 67 → sf I3 60 2 (nI 0) c = I c := fun c hc => by rw [sf_naD (by omega), k1.1 c (by omega) (by omega), i2c c (by omega), i1c c (by omega)]
  have q3 : ∀ c, c ≠ 60 → sf I3 60 2 (nI 0) c = I3 c := fun c hc => sf_naD hc
  have q3k : ∀ k, k ≠ 2 → sf I3 60 2 (nI 0) 60 k = I3 60 k := fun k hk => sf_nkD hk
  refine ⟨_, rfl, fun c hc => qc c (by omega), ⟨TX_0 _ _, sf_eq _ _ _ _, ?_, fun k hk => by rw [qc 67 (by omega)]; exact hw.1.2.2.2 k hk⟩, ⟨by rw [q60 48 rfl]; exact hw.2.1.1, hw.2.1.2.1, hw.2.1.2.2.1, fun k hk => by rw [q3 93 (by decide)]; exact k7 k (by omega)⟩, ⟨k2.fr (q3k 16 (by decide)) (q3k 23 (by decide)) (fun c x1 x2 => q3 c (by omega)), ⟨by rw [q3k 26 (by decide)]; exact k3.1, fun k hk => absurd hk (Nat.not_lt_zero _)⟩, k4.fr (q3 75 (by decide)), k5.fr (q3k 29 (by decide)) (q3 78 (by decide)) (q3 79 (by decide))⟩, Or.inr ⟨hG, rfl, ⟨Nat.zero_le _, fun c hc => absurd hc List.not_mem_nil⟩, hUs, hsm, Or.inl (by rw [q3k 32 (by decide)]; exact k6)⟩⟩
  rw [q3k 3 (by decide), k1.2 3 (by decide) (by decide) (by decide) (by decide) (by decide) (by decide)]
  exact i23
end MRD
