/-! the class' parser: one item, all items -/
def PF (L : Nat → Nat) (t : Nat) (fs : List Fg) (I : Nat → Nat → Int32) : Prop := TX 16 L t I ∧ RD 15 L fs I ∧ WF t fs ∧ (pls L fs fs.length).length ≤ 5
def itP2 (L : Nat → Nat) (t : Nat) (x : Rs) (I : Nat → Nat → Int32) (J : Nat → Nat → Int64) (M : am_M) : Prop := ∃ I', M = (am_SH, I', J) ∧ Fr15 I I' ∧ I' 28 2 = nI x.2.1 ∧ (x.1 = 1 → PS L t x.2.1 x.2.2.1 x.2.2.2.1 x.2.2.2.2 I') ∧ (x.1 = 2 → PF L t x.2.2.1 I')
theorem wk_le (L : Nat → Nat) (a b : Nat) : wk L a b ≤ 5 := by
  unfold wk
  repeat' split
  all_goals omega
theorem itq_01 (L : Nat → Nat) (pa : Nat) (fs : List Fg) (q ng k e : Nat) : (itq L pa fs q ng k e).1 = 0 ∨ (itq L pa fs q ng k e).1 = 1 := by
  unfold itq rbad
  repeat' split
  all_goals simp
theorem itn_01 (L : Nat → Nat) (fs : List Fg) (q ng e : Nat) : (itn L fs q ng e).1 = 0 ∨ (itn L fs q ng e).1 = 1 := by
  unfold itn rbad
  repeat' split
  all_goals simp
theorem itm_012 (L : Nat → Nat) (t a : Nat) (fs : List Fg) (q ng : Nat) : ((itm L t a fs q ng).1 = 0 ∨ (itm L t a fs q ng).1 = 1 ∨ (itm L t a fs q ng).1 = 2) ∧ ((itm L t a fs q ng).1 = 1 → (itm L t a fs q ng).2.2.2.1 + (itm L t a fs q ng).2.2.2.2 = q + ng + 1) := by
  have hq : ∀ k e, (itq L a fs q ng k e).1 = 1 → (itq L a fs q ng k e).2.2.2.1 + (itq L a fs q ng k e).2.2.2.2 = q + ng + 1 := by
    intro k e
    unfold itq rbad
    split
    · exact fun h0 => (by cases h0)
    · split
      · exact fun h0 => (by cases h0)
      · split
        · exact fun h0 => (by cases h0)
        · split
          · exact fun h0 => (by cases h0)
          · split
            · exact fun h0 => (by cases h0)
            · split
              · exact fun h0 => (by cases h0)
              · intro _
                show q + 1 + ng = q + ng + 1
                omega
  unfold itm
  split
  · exact ⟨Or.inl rfl, fun h0 => (by cases h0)⟩
  · split
    · split
      · exact ⟨Or.inr (Or.inr rfl), fun h0 => (by cases h0)⟩
      · exact ⟨Or.inl rfl, fun h0 => (by cases h0)⟩
    · split
      · exact ⟨Or.inl rfl, fun h0 => (by cases h0)⟩
      · split
        · split
          · exact ⟨Or.inl rfl, fun h0 => (by cases h0)⟩
          · exact ⟨Or.inr (Or.inl rfl), fun _ => rfl⟩
        · exact ⟨(itq_01 L a fs q ng _ _).elim Or.inl (fun h0 => Or.inr (Or.inl h0)), hq _ _⟩
section RE1
variable (g : am_G) (h : Nat) (I : Nat → Nat → Int32) (J : Nat → Nat → Int64) {L : Nat → Nat} {t a q ng : Nat} {fs : List Fg}
set_option maxRecDepth 100000 in
set_option maxHeartbeats 400000 in
theorem c_X8_takeItem (hP : PS L t a fs q ng I) :
    am_Ctr g am_mt 1 (h + 6) 78 [.ref 28] (am_SH, I, J) 0 0 (fun r M => r = some (.int (nI (itm L t a fs q ng).1)) ∧ itP2 L t (itm L t a fs q ng) I J M) := by
  have hP0 := hP
  obtain ⟨hT, h1, h2, ha, hD, h3, h4, hW⟩ := hP
  have ht := hT.1
  obtain ⟨w1, w2, w3, w4, w5⟩ := hW
  have hnm := nm_le L 5 a
  have hnt := hT.nmle (a := a) ha 5
  generalize hx : itm L t a fs q ng = x
  generalize hPd : (fun (r : Option Value) (M : am_M) => r = some (.int (nI x.1)) ∧ itP2 L t x I J M) = P
  have P_f : ∀ {p I'}, x = rbad p → Fr15 I I' → I' 28 2 = nI p → P (some (.int (nI 0))) (am_SH, I', J) := fun hx hf h2 => by
    rw [← hPd]
    exact ⟨by rw [hx]; rfl, _, rfl, hf, by rw [hx]; exact h2, by rw [hx]; exact fun h0 => (by cases h0), by rw [hx]; exact fun h0 => (by cases h0)⟩
  have P_i : ∀ {y : Rs} {M1}, x = y → itP L t y I J M1 → (y.1 = 0 ∨ y.1 = 1) → P (some (.int (nI y.1))) M1 := by
    rintro y M1 hxy ⟨I', hm, hf, h2, hps⟩ hy
    rw [← hPd, hxy]
    exact ⟨rfl, I', hm, hf, h2, hps, fun h0 => by omega⟩
  unfold itm at hx
  refine am_rule0 (q := qX8_takeItem) (B := am_blk bX8_takeItem) 70 rfl rfl kX8_takeItem nX8_takeItem (Nat.le_of_ble_eq_true rfl) ?_
  simp (decide := true) (disch := (first | exact eq_false (by decide) | exact eq_true (by decide) | decide | omega)) only [lX8_takeItem_0, lX8_takeItem_14, lX8_takeItem_46, lX8_takeItem_47, lX8_takeItem_48, lX8_takeItem_60, lX8_takeItem_72, lX8_takeItem_77, lX8_takeItem_86, lX8_takeItem_87, bX8_takeItem_0, bX8_takeItem_14, bX8_takeItem_46, bX8_takeItem_47, bX8_takeItem_48, bX8_takeItem_60, bX8_takeItem_72, bX8_takeItem_77, bX8_takeItem_86, bX8_takeItem_87, (show qX8_takeItem.2.2.2.1 = (some .int) from rfl), am_rok_int, w_aload_n, w_bipush, w_getfield, w_goto, w_icmp_ne, w_iconst, w_if_eq, w_if_ne, w_iload_n, w_ireturn, w_istore_n, w_swap, sg_28_1, sg_28_2, cB_40, cI_0, cI_1, cI_2, cI_5, am_lk0, am_lk1, am_ld_some, am_isI_i, am_isJ_j, am_isR_r, am_st_eq, am_rmv_nil, am_rmv_t, am_rmv_i, am_rmv_r, sf_SH, sj_SH, sf_eq, sf_nk, sf_na, sf_sf, am_args_i, am_args_r, am_args_n, Nat.reduceAdd, List.cons_append, List.nil_append, Option.toList, List.drop_succ_cons, List.drop_zero, am_RP, am_CP, am_PH, Fin.isValue, Fin.val_zero, Fin.val_one, am_f2, am_f3, true_and, and_true, true_implies, false_implies, not_false_eq_true, ne_eq, nI_clampD, nI_leT, nI_leF, nI_ltT, nI_ltF, nI_eqT, nI_eqF, nI_lt0F, nI_0leT, nI_eq0T, nI_eq0F, nI_0ltT, nI_0ltF, nI_le0T, nI_le0F, nI_m1, nI_m1', m1_m1, m1_lt, m1_le, nI_mul, nI_add, nI_sub, nI_add1, nI_dec, nI_div, nI_mod, vp_inD, sf_nkD, sf_eqD, h2]
  refine w_virtE (c_X8_takeName g (h + 3) I J hT h1 h2 ha) rfl rfl rfl (of_eq_true so_28) rfl (Nat.le_refl _) (Nat.le_refl _) ?_
  generalize he' : nm L a 5 = e at *
  have hf1 : Fr15 I (sf I 28 2 (nI e)) := (Fr15.rf I).st (by decide)
  have a1 : sf I 28 2 (nI e) 28 1 = nI t := (sf_nk (by decide)).trans h1
  have a2 : sf I 28 2 (nI e) 28 2 = nI e := sf_eq _ _ _ _
  have hT1 : TX 16 L t (sf I 28 2 (nI e)) := hT.fr (sf_naD (by decide))
  have hD1 : RD 15 L fs (sf I 28 2 (nI e)) := hD.fr (fun c _ _ => sf_naD (by omega))
  have hP1 : PS L t e fs q ng (sf I 28 2 (nI e)) := ⟨hT1, a1, a2, hnt, hD1, (sf_nk (by decide)).trans h3, (sf_nk (by decide)).trans h4, ⟨w1, w2, w3, w4, w5⟩⟩
  generalize hI1 : sf I 28 2 (nI e) = I1 at *
  by_cases l0 : a < e
  · rw [if_neg (by omega)] at hx
    rw [decide_eq_true l0]
    simp (decide := true) (disch := (first | exact eq_false (by decide) | exact eq_true (by decide) | decide | omega)) only [lX8_takeItem_0, lX8_takeItem_14, lX8_takeItem_46, lX8_takeItem_47, lX8_takeItem_48, lX8_takeItem_60, lX8_takeItem_72, lX8_takeItem_77, lX8_takeItem_86, lX8_takeItem_87, bX8_takeItem_0, bX8_takeItem_14, bX8_takeItem_46, bX8_takeItem_47, bX8_takeItem_48, bX8_takeItem_60, bX8_takeItem_72, bX8_takeItem_77, bX8_takeItem_86, bX8_takeItem_87, (show qX8_takeItem.2.2.2.1 = (some .int) from rfl), am_rok_int, w_aload_n, w_bipush, w_getfield, w_goto, w_icmp_ne, w_iconst, w_if_eq, w_if_ne, w_iload_n, w_ireturn, w_istore_n, w_swap, sg_28_1, sg_28_2, cB_40, cI_0, cI_1, cI_2, cI_5, am_lk0, am_lk1, am_ld_some, am_isI_i, am_isJ_j, am_isR_r, am_st_eq, am_rmv_nil, am_rmv_t, am_rmv_i, am_rmv_r, sf_SH, sj_SH, sf_eq, sf_nk, sf_na, sf_sf, am_args_i, am_args_r, am_args_n, Nat.reduceAdd, List.cons_append, List.nil_append, Option.toList, List.drop_succ_cons, List.drop_zero, am_RP, am_CP, am_PH, Fin.isValue, Fin.val_zero, Fin.val_one, am_f2, am_f3, true_and, and_true, true_implies, false_implies, not_false_eq_true, ne_eq, nI_clampD, nI_leT, nI_leF, nI_ltT, nI_ltF, nI_eqT, nI_eqF, nI_lt0F, nI_0leT, nI_eq0T, nI_eq0F, nI_0ltT, nI_0ltF, nI_le0T, nI_le0F, nI_m1, nI_m1', m1_m1, m1_lt, m1_le, nI_mul, nI_add, nI_sub, nI_add1, nI_dec, nI_div, nI_mod, vp_inD, sf_nkD, sf_eqD, bI_t]
    refine w_virtE (c_X8_sign g (h + 4) I1 J hT1 a1 a2 hnt) rfl rfl rfl (of_eq_true so_28) rfl (Nat.le_refl _) (Nat.le_refl _) ?_
    have e1 := lI_eq (c := 40) (hT.lt e) (by decide) (by decide)
    by_cases l1 : L e = 40
    · rw [if_pos l1] at hx
      have e1 := e1.trans (eq_true l1)
      simp (decide := true) (disch := (first | exact eq_false (by decide) | exact eq_true (by decide) | decide | omega)) only [lX8_takeItem_0, lX8_takeItem_14, lX8_takeItem_46, lX8_takeItem_47, lX8_takeItem_48, lX8_takeItem_60, lX8_takeItem_72, lX8_takeItem_77, lX8_takeItem_86, lX8_takeItem_87, bX8_takeItem_0, bX8_takeItem_14, bX8_takeItem_46, bX8_takeItem_47, bX8_takeItem_48, bX8_takeItem_60, bX8_takeItem_72, bX8_takeItem_77, bX8_takeItem_86, bX8_takeItem_87, (show qX8_takeItem.2.2.2.1 = (some .int) from rfl), am_rok_int, w_aload_n, w_bipush, w_getfield, w_goto, w_icmp_ne, w_iconst, w_if_eq, w_if_ne, w_iload_n, w_ireturn, w_istore_n, w_swap, sg_28_1, sg_28_2, cB_40, cI_0, cI_1, cI_2, cI_5, am_lk0, am_lk1, am_ld_some, am_isI_i, am_isJ_j, am_isR_r, am_st_eq, am_rmv_nil, am_rmv_t, am_rmv_i, am_rmv_r, sf_SH, sj_SH, sf_eq, sf_nk, sf_na, sf_sf, am_args_i, am_args_r, am_args_n, Nat.reduceAdd, List.cons_append, List.nil_append, Option.toList, List.drop_succ_cons, List.drop_zero, am_RP, am_CP, am_PH, Fin.isValue, Fin.val_zero, Fin.val_one, am_f2, am_f3, true_and, and_true, true_implies, false_implies, not_false_eq_true, ne_eq, nI_clampD, nI_leT, nI_leF, nI_ltT, nI_ltF, nI_eqT, nI_eqF, nI_lt0F, nI_0leT, nI_eq0T, nI_eq0F, nI_0ltT, nI_0ltF, nI_le0T, nI_le0F, nI_m1, nI_m1', m1_m1, m1_lt, m1_le, nI_mul, nI_add, nI_sub, nI_add1, nI_dec, nI_div, nI_mod, vp_inD, sf_nkD, sf_eqD, e1]
      refine w_virtP (c_X8_takeArguments g (h + 1) I1 J hT1 a1 a2 hnt hD1 w1 a l0 (by omega) (by omega)) rfl rfl rfl (of_eq_true so_28) rfl (Nat.le_refl _) (Nat.le_refl _) ?_
      rintro R M1 ⟨rfl, I2, rfl, f2, b2, b1, b3, b4, b16, hD2⟩
      have hao := arg_ok (e := e) hT hnt
      have f2' := hf1.tr f2
      cases l2 : (arg L e).1 with
      | false =>
        simp (decide := true) (disch := (first | exact eq_false (by decide) | exact eq_true (by decide) | decide | omega)) only [lX8_takeItem_0, lX8_takeItem_14, lX8_takeItem_46, lX8_takeItem_47, lX8_takeItem_48, lX8_takeItem_60, lX8_takeItem_72, lX8_takeItem_77, lX8_takeItem_86, lX8_takeItem_87, bX8_takeItem_0, bX8_takeItem_14, bX8_takeItem_46, bX8_takeItem_47, bX8_takeItem_48, bX8_takeItem_60, bX8_takeItem_72, bX8_takeItem_77, bX8_takeItem_86, bX8_takeItem_87, (show qX8_takeItem.2.2.2.1 = (some .int) from rfl), am_rok_int, w_aload_n, w_bipush, w_getfield, w_goto, w_icmp_ne, w_iconst, w_if_eq, w_if_ne, w_iload_n, w_ireturn, w_istore_n, w_swap, sg_28_1, sg_28_2, cB_40, cI_0, cI_1, cI_2, cI_5, am_lk0, am_lk1, am_ld_some, am_isI_i, am_isJ_j, am_isR_r, am_st_eq, am_rmv_nil, am_rmv_t, am_rmv_i, am_rmv_r, sf_SH, sj_SH, sf_eq, sf_nk, sf_na, sf_sf, am_args_i, am_args_r, am_args_n, Nat.reduceAdd, List.cons_append, List.nil_append, Option.toList, List.drop_succ_cons, List.drop_zero, am_RP, am_CP, am_PH, Fin.isValue, Fin.val_zero, Fin.val_one, am_f2, am_f3, true_and, and_true, true_implies, false_implies, not_false_eq_true, ne_eq, nI_clampD, nI_leT, nI_leF, nI_ltT, nI_ltF, nI_eqT, nI_eqF, nI_lt0F, nI_0leT, nI_eq0T, nI_eq0F, nI_0ltT, nI_0ltF, nI_le0T, nI_le0F, nI_m1, nI_m1', m1_m1, m1_lt, m1_le, nI_mul, nI_add, nI_sub, nI_add1, nI_dec, nI_div, nI_mod, vp_inD, sf_nkD, sf_eqD, bI_f]
        exact P_f (by rw [← hx]; exact if_neg (fun h0 => by rw [l2] at h0; cases h0.1)) f2' b2
      | true =>
        by_cases l3 : (arg L e).2.1 = t
        · simp (decide := true) (disch := (first | exact eq_false (by decide) | exact eq_true (by decide) | decide | omega)) only [lX8_takeItem_0, lX8_takeItem_14, lX8_takeItem_46, lX8_takeItem_47, lX8_takeItem_48, lX8_takeItem_60, lX8_takeItem_72, lX8_takeItem_77, lX8_takeItem_86, lX8_takeItem_87, bX8_takeItem_0, bX8_takeItem_14, bX8_takeItem_46, bX8_takeItem_47, bX8_takeItem_48, bX8_takeItem_60, bX8_takeItem_72, bX8_takeItem_77, bX8_takeItem_86, bX8_takeItem_87, (show qX8_takeItem.2.2.2.1 = (some .int) from rfl), am_rok_int, w_aload_n, w_bipush, w_getfield, w_goto, w_icmp_ne, w_iconst, w_if_eq, w_if_ne, w_iload_n, w_ireturn, w_istore_n, w_swap, sg_28_1, sg_28_2, cB_40, cI_0, cI_1, cI_2, cI_5, am_lk0, am_lk1, am_ld_some, am_isI_i, am_isJ_j, am_isR_r, am_st_eq, am_rmv_nil, am_rmv_t, am_rmv_i, am_rmv_r, sf_SH, sj_SH, sf_eq, sf_nk, sf_na, sf_sf, am_args_i, am_args_r, am_args_n, Nat.reduceAdd, List.cons_append, List.nil_append, Option.toList, List.drop_succ_cons, List.drop_zero, am_RP, am_CP, am_PH, Fin.isValue, Fin.val_zero, Fin.val_one, am_f2, am_f3, true_and, and_true, true_implies, false_implies, not_false_eq_true, ne_eq, nI_clampD, nI_leT, nI_leF, nI_ltT, nI_ltF, nI_eqT, nI_eqF, nI_lt0F, nI_0leT, nI_eq0T, nI_eq0F, nI_0ltT, nI_0ltF, nI_le0T, nI_le0F, nI_m1, nI_m1', m1_m1, m1_lt, m1_le, nI_mul, nI_add, nI_sub, nI_add1, nI_dec, nI_div, nI_mod, vp_inD, sf_nkD, sf_eqD, bI_t, b2, b1, a1]
          have hx' := hx.symm.trans (if_pos ⟨l2, l3⟩)
          rw [← hPd, hx']
          refine ⟨rfl, I2, rfl, f2', b2, fun h0 => (by cases h0), fun _ => ⟨hT1.fr b16, hD2 l2, ?_, ?_⟩⟩
          · have ha9 := hao.2.2 l2
            refine WF_add w1 (by omega) ⟨by show (0 : Nat) < 6; decide, ha9.2.1, ?_, ?_, ha, fun _ => ⟨l0, ?_, hao.1⟩⟩
            · show (arg L e).2.2.2 < 7; omega
            · show a ≤ e + 100; omega
            · show e + 3 ≤ (arg L e).2.1; omega
          · have := pls_len L fs (lfF L a e)
            rw [if_pos (show kF (lfF L a e) = 0 from rfl)] at this
            exact Nat.le_trans this (by omega)
        · simp (decide := true) (disch := (first | exact eq_false (by decide) | exact eq_true (by decide) | decide | omega)) only [lX8_takeItem_0, lX8_takeItem_14, lX8_takeItem_46, lX8_takeItem_47, lX8_takeItem_48, lX8_takeItem_60, lX8_takeItem_72, lX8_takeItem_77, lX8_takeItem_86, lX8_takeItem_87, bX8_takeItem_0, bX8_takeItem_14, bX8_takeItem_46, bX8_takeItem_47, bX8_takeItem_48, bX8_takeItem_60, bX8_takeItem_72, bX8_takeItem_77, bX8_takeItem_86, bX8_takeItem_87, (show qX8_takeItem.2.2.2.1 = (some .int) from rfl), am_rok_int, w_aload_n, w_bipush, w_getfield, w_goto, w_icmp_ne, w_iconst, w_if_eq, w_if_ne, w_iload_n, w_ireturn, w_istore_n, w_swap, sg_28_1, sg_28_2, cB_40, cI_0, cI_1, cI_2, cI_5, am_lk0, am_lk1, am_ld_some, am_isI_i, am_isJ_j, am_isR_r, am_st_eq, am_rmv_nil, am_rmv_t, am_rmv_i, am_rmv_r, sf_SH, sj_SH, sf_eq, sf_nk, sf_na, sf_sf, am_args_i, am_args_r, am_args_n, Nat.reduceAdd, List.cons_append, List.nil_append, Option.toList, List.drop_succ_cons, List.drop_zero, am_RP, am_CP, am_PH, Fin.isValue, Fin.val_zero, Fin.val_one, am_f2, am_f3, true_and, and_true, true_implies, false_implies, not_false_eq_true, ne_eq, nI_clampD, nI_leT, nI_leF, nI_ltT, nI_ltF, nI_eqT, nI_eqF, nI_lt0F, nI_0leT, nI_eq0T, nI_eq0F, nI_0ltT, nI_0ltF, nI_le0T, nI_le0F, nI_m1, nI_m1', m1_m1, m1_lt, m1_le, nI_mul, nI_add, nI_sub, nI_add1, nI_dec, nI_div, nI_mod, vp_inD, sf_nkD, sf_eqD, bI_t, b2, b1, a1]
          exact P_f (by rw [← hx]; exact if_neg (fun h0 => l3 h0.2)) f2' b2
    · rw [if_neg l1] at hx
      have e1 := e1.trans (eq_false l1)
      simp (decide := true) (disch := (first | exact eq_false (by decide) | exact eq_true (by decide) | decide | omega)) only [lX8_takeItem_0, lX8_takeItem_14, lX8_takeItem_46, lX8_takeItem_47, lX8_takeItem_48, lX8_takeItem_60, lX8_takeItem_72, lX8_takeItem_77, lX8_takeItem_86, lX8_takeItem_87, bX8_takeItem_0, bX8_takeItem_14, bX8_takeItem_46, bX8_takeItem_47, bX8_takeItem_48, bX8_takeItem_60, bX8_takeItem_72, bX8_takeItem_77, bX8_takeItem_86, bX8_takeItem_87, (show qX8_takeItem.2.2.2.1 = (some .int) from rfl), am_rok_int, w_aload_n, w_bipush, w_getfield, w_goto, w_icmp_ne, w_iconst, w_if_eq, w_if_ne, w_iload_n, w_ireturn, w_istore_n, w_swap, sg_28_1, sg_28_2, cB_40, cI_0, cI_1, cI_2, cI_5, am_lk0, am_lk1, am_ld_some, am_isI_i, am_isJ_j, am_isR_r, am_st_eq, am_rmv_nil, am_rmv_t, am_rmv_i, am_rmv_r, sf_SH, sj_SH, sf_eq, sf_nk, sf_na, sf_sf, am_args_i, am_args_r, am_args_n, Nat.reduceAdd, List.cons_append, List.nil_append, Option.toList, List.drop_succ_cons, List.drop_zero, am_RP, am_CP, am_PH, Fin.isValue, Fin.val_zero, Fin.val_one, am_f2, am_f3, true_and, and_true, true_implies, false_implies, not_false_eq_true, ne_eq, nI_clampD, nI_leT, nI_leF, nI_ltT, nI_ltF, nI_eqT, nI_eqF, nI_lt0F, nI_0leT, nI_eq0T, nI_eq0F, nI_0ltT, nI_0ltF, nI_le0T, nI_le0F, nI_m1, nI_m1', m1_m1, m1_lt, m1_le, nI_mul, nI_add, nI_sub, nI_add1, nI_dec, nI_div, nI_mod, vp_inD, sf_nkD, sf_eqD, e1]
      refine w_virtE (c_X8_kindOfWord g h I1 J (a := a) hT1 a2 hnt (by omega)) rfl rfl rfl (of_eq_true so_28) rfl (Nat.le_refl _) (Nat.le_refl _) ?_
      have hwk := wk_le L a e
      generalize hwk' : wk L a e = w at *
      by_cases l2 : w = 0
      · simp (decide := true) (disch := (first | exact eq_false (by decide) | exact eq_true (by decide) | decide | omega)) only [lX8_takeItem_0, lX8_takeItem_14, lX8_takeItem_46, lX8_takeItem_47, lX8_takeItem_48, lX8_takeItem_60, lX8_takeItem_72, lX8_takeItem_77, lX8_takeItem_86, lX8_takeItem_87, bX8_takeItem_0, bX8_takeItem_14, bX8_takeItem_46, bX8_takeItem_47, bX8_takeItem_48, bX8_takeItem_60, bX8_takeItem_72, bX8_takeItem_77, bX8_takeItem_86, bX8_takeItem_87, (show qX8_takeItem.2.2.2.1 = (some .int) from rfl), am_rok_int, w_aload_n, w_bipush, w_getfield, w_goto, w_icmp_ne, w_iconst, w_if_eq, w_if_ne, w_iload_n, w_ireturn, w_istore_n, w_swap, sg_28_1, sg_28_2, cB_40, cI_0, cI_1, cI_2, cI_5, am_lk0, am_lk1, am_ld_some, am_isI_i, am_isJ_j, am_isR_r, am_st_eq, am_rmv_nil, am_rmv_t, am_rmv_i, am_rmv_r, sf_SH, sj_SH, sf_eq, sf_nk, sf_na, sf_sf, am_args_i, am_args_r, am_args_n, Nat.reduceAdd, List.cons_append, List.nil_append, Option.toList, List.drop_succ_cons, List.drop_zero, am_RP, am_CP, am_PH, Fin.isValue, Fin.val_zero, Fin.val_one, am_f2, am_f3, true_and, and_true, true_implies, false_implies, not_false_eq_true, ne_eq, nI_clampD, nI_leT, nI_leF, nI_ltT, nI_ltF, nI_eqT, nI_eqF, nI_lt0F, nI_0leT, nI_eq0T, nI_eq0F, nI_0ltT, nI_0ltF, nI_le0T, nI_le0F, nI_m1, nI_m1', m1_m1, m1_lt, m1_le, nI_mul, nI_add, nI_sub, nI_add1, nI_dec, nI_div, nI_mod, vp_inD, sf_nkD, sf_eqD]
        exact P_f (by rw [← hx]; exact if_pos l2) hf1 a2
      · rw [if_neg l2] at hx
        by_cases l3 : w = 5
        · rw [if_pos l3] at hx
          have hx : itn L fs q ng e = x := hx
          simp (decide := true) (disch := (first | exact eq_false (by decide) | exact eq_true (by decide) | decide | omega)) only [lX8_takeItem_0, lX8_takeItem_14, lX8_takeItem_46, lX8_takeItem_47, lX8_takeItem_48, lX8_takeItem_60, lX8_takeItem_72, lX8_takeItem_77, lX8_takeItem_86, lX8_takeItem_87, bX8_takeItem_0, bX8_takeItem_14, bX8_takeItem_46, bX8_takeItem_47, bX8_takeItem_48, bX8_takeItem_60, bX8_takeItem_72, bX8_takeItem_77, bX8_takeItem_86, bX8_takeItem_87, (show qX8_takeItem.2.2.2.1 = (some .int) from rfl), am_rok_int, w_aload_n, w_bipush, w_getfield, w_goto, w_icmp_ne, w_iconst, w_if_eq, w_if_ne, w_iload_n, w_ireturn, w_istore_n, w_swap, sg_28_1, sg_28_2, cB_40, cI_0, cI_1, cI_2, cI_5, am_lk0, am_lk1, am_ld_some, am_isI_i, am_isJ_j, am_isR_r, am_st_eq, am_rmv_nil, am_rmv_t, am_rmv_i, am_rmv_r, sf_SH, sj_SH, sf_eq, sf_nk, sf_na, sf_sf, am_args_i, am_args_r, am_args_n, Nat.reduceAdd, List.cons_append, List.nil_append, Option.toList, List.drop_succ_cons, List.drop_zero, am_RP, am_CP, am_PH, Fin.isValue, Fin.val_zero, Fin.val_one, am_f2, am_f3, true_and, and_true, true_implies, false_implies, not_false_eq_true, ne_eq, nI_clampD, nI_leT, nI_leF, nI_ltT, nI_ltF, nI_eqT, nI_eqF, nI_lt0F, nI_0leT, nI_eq0T, nI_eq0F, nI_0ltT, nI_0ltF, nI_le0T, nI_le0F, nI_m1, nI_m1', m1_m1, m1_lt, m1_le, nI_mul, nI_add, nI_sub, nI_add1, nI_dec, nI_div, nI_mod, vp_inD, sf_nkD, sf_eqD]
          refine w_virtP (c_X8_takeNegation g (h + 1) I1 J hP1) rfl rfl rfl (of_eq_true so_28) rfl (Nat.le_refl _) (Nat.le_refl _) ?_
          rintro R M1 ⟨rfl, hi⟩
          have hi : itP L t (itn L fs q ng e) I J M1 := by
            obtain ⟨I', hm, hf, h2, hps⟩ := hi
            exact ⟨I', hm, hf1.tr hf, h2, hps⟩
          have hfin := P_i hx.symm hi (itn_01 L fs q ng e)
          rcases itn_01 L fs q ng e with l4 | l4
          · rw [l4] at hfin ⊢
            simp (decide := true) (disch := (first | exact eq_false (by decide) | exact eq_true (by decide) | decide | omega)) only [lX8_takeItem_0, lX8_takeItem_14, lX8_takeItem_46, lX8_takeItem_47, lX8_takeItem_48, lX8_takeItem_60, lX8_takeItem_72, lX8_takeItem_77, lX8_takeItem_86, lX8_takeItem_87, bX8_takeItem_0, bX8_takeItem_14, bX8_takeItem_46, bX8_takeItem_47, bX8_takeItem_48, bX8_takeItem_60, bX8_takeItem_72, bX8_takeItem_77, bX8_takeItem_86, bX8_takeItem_87, (show qX8_takeItem.2.2.2.1 = (some .int) from rfl), am_rok_int, w_aload_n, w_bipush, w_getfield, w_goto, w_icmp_ne, w_iconst, w_if_eq, w_if_ne, w_iload_n, w_ireturn, w_istore_n, w_swap, sg_28_1, sg_28_2, cB_40, cI_0, cI_1, cI_2, cI_5, am_lk0, am_lk1, am_ld_some, am_isI_i, am_isJ_j, am_isR_r, am_st_eq, am_rmv_nil, am_rmv_t, am_rmv_i, am_rmv_r, sf_SH, sj_SH, sf_eq, sf_nk, sf_na, sf_sf, am_args_i, am_args_r, am_args_n, Nat.reduceAdd, List.cons_append, List.nil_append, Option.toList, List.drop_succ_cons, List.drop_zero, am_RP, am_CP, am_PH, Fin.isValue, Fin.val_zero, Fin.val_one, am_f2, am_f3, true_and, and_true, true_implies, false_implies, not_false_eq_true, ne_eq, nI_clampD, nI_leT, nI_leF, nI_ltT, nI_ltF, nI_eqT, nI_eqF, nI_lt0F, nI_0leT, nI_eq0T, nI_eq0F, nI_0ltT, nI_0ltF, nI_le0T, nI_le0F, nI_m1, nI_m1', m1_m1, m1_lt, m1_le, nI_mul, nI_add, nI_sub, nI_add1, nI_dec, nI_div, nI_mod, vp_inD, sf_nkD, sf_eqD, bI_f, decide_false]
            exact hfin
          · rw [l4] at hfin ⊢
            simp (decide := true) (disch := (first | exact eq_false (by decide) | exact eq_true (by decide) | decide | omega)) only [lX8_takeItem_0, lX8_takeItem_14, lX8_takeItem_46, lX8_takeItem_47, lX8_takeItem_48, lX8_takeItem_60, lX8_takeItem_72, lX8_takeItem_77, lX8_takeItem_86, lX8_takeItem_87, bX8_takeItem_0, bX8_takeItem_14, bX8_takeItem_46, bX8_takeItem_47, bX8_takeItem_48, bX8_takeItem_60, bX8_takeItem_72, bX8_takeItem_77, bX8_takeItem_86, bX8_takeItem_87, (show qX8_takeItem.2.2.2.1 = (some .int) from rfl), am_rok_int, w_aload_n, w_bipush, w_getfield, w_goto, w_icmp_ne, w_iconst, w_if_eq, w_if_ne, w_iload_n, w_ireturn, w_istore_n, w_swap, sg_28_1, sg_28_2, cB_40, cI_0, cI_1, cI_2, cI_5, am_lk0, am_lk1, am_ld_some, am_isI_i, am_isJ_j, am_isR_r, am_st_eq, am_rmv_nil, am_rmv_t, am_rmv_i, am_rmv_r, sf_SH, sj_SH, sf_eq, sf_nk, sf_na, sf_sf, am_args_i, am_args_r, am_args_n, Nat.reduceAdd, List.cons_append, List.nil_append, Option.toList, List.drop_succ_cons, List.drop_zero, am_RP, am_CP, am_PH, Fin.isValue, Fin.val_zero, Fin.val_one, am_f2, am_f3, true_and, and_true, true_implies, false_implies, not_false_eq_true, ne_eq, nI_clampD, nI_leT, nI_leF, nI_ltT, nI_ltF, nI_eqT, nI_eqF, nI_lt0F, nI_0leT, nI_eq0T, nI_eq0F, nI_0ltT, nI_0ltF, nI_le0T, nI_le0F, nI_m1, nI_m1', m1_m1, m1_lt, m1_le, nI_mul, nI_add, nI_sub, nI_add1, nI_dec, nI_div, nI_mod, vp_inD, sf_nkD, sf_eqD, bI_t, decide_true]
            exact hfin
        · rw [if_neg l3] at hx
          simp (decide := true) (disch := (first | exact eq_false (by decide) | exact eq_true (by decide) | decide | omega)) only [lX8_takeItem_0, lX8_takeItem_14, lX8_takeItem_46, lX8_takeItem_47, lX8_takeItem_48, lX8_takeItem_60, lX8_takeItem_72, lX8_takeItem_77, lX8_takeItem_86, lX8_takeItem_87, bX8_takeItem_0, bX8_takeItem_14, bX8_takeItem_46, bX8_takeItem_47, bX8_takeItem_48, bX8_takeItem_60, bX8_takeItem_72, bX8_takeItem_77, bX8_takeItem_86, bX8_takeItem_87, (show qX8_takeItem.2.2.2.1 = (some .int) from rfl), am_rok_int, w_aload_n, w_bipush, w_getfield, w_goto, w_icmp_ne, w_iconst, w_if_eq, w_if_ne, w_iload_n, w_ireturn, w_istore_n, w_swap, sg_28_1, sg_28_2, cB_40, cI_0, cI_1, cI_2, cI_5, am_lk0, am_lk1, am_ld_some, am_isI_i, am_isJ_j, am_isR_r, am_st_eq, am_rmv_nil, am_rmv_t, am_rmv_i, am_rmv_r, sf_SH, sj_SH, sf_eq, sf_nk, sf_na, sf_sf, am_args_i, am_args_r, am_args_n, Nat.reduceAdd, List.cons_append, List.nil_append, Option.toList, List.drop_succ_cons, List.drop_zero, am_RP, am_CP, am_PH, Fin.isValue, Fin.val_zero, Fin.val_one, am_f2, am_f3, true_and, and_true, true_implies, false_implies, not_false_eq_true, ne_eq, nI_clampD, nI_leT, nI_leF, nI_ltT, nI_ltF, nI_eqT, nI_eqF, nI_lt0F, nI_0leT, nI_eq0T, nI_eq0F, nI_0ltT, nI_0ltF, nI_le0T, nI_le0F, nI_m1, nI_m1', m1_m1, m1_lt, m1_le, nI_mul, nI_add, nI_sub, nI_add1, nI_dec, nI_div, nI_mod, vp_inD, sf_nkD, sf_eqD]
          refine w_virtP (c_X8_takeQuantifier g h I1 J hP1 a w (by omega) (by omega)) rfl rfl rfl (of_eq_true so_28) rfl (Nat.le_refl _) (Nat.le_refl _) ?_
          rintro R M1 ⟨rfl, hi⟩
          have hi : itP L t (itq L a fs q ng w e) I J M1 := by
            obtain ⟨I', hm, hf, h2, hps⟩ := hi
            exact ⟨I', hm, hf1.tr hf, h2, hps⟩
          have hfin := P_i hx.symm hi (itq_01 L a fs q ng w e)
          rcases itq_01 L a fs q ng w e with l4 | l4
          · rw [l4] at hfin ⊢
            simp (decide := true) (disch := (first | exact eq_false (by decide) | exact eq_true (by decide) | decide | omega)) only [lX8_takeItem_0, lX8_takeItem_14, lX8_takeItem_46, lX8_takeItem_47, lX8_takeItem_48, lX8_takeItem_60, lX8_takeItem_72, lX8_takeItem_77, lX8_takeItem_86, lX8_takeItem_87, bX8_takeItem_0, bX8_takeItem_14, bX8_takeItem_46, bX8_takeItem_47, bX8_takeItem_48, bX8_takeItem_60, bX8_takeItem_72, bX8_takeItem_77, bX8_takeItem_86, bX8_takeItem_87, (show qX8_takeItem.2.2.2.1 = (some .int) from rfl), am_rok_int, w_aload_n, w_bipush, w_getfield, w_goto, w_icmp_ne, w_iconst, w_if_eq, w_if_ne, w_iload_n, w_ireturn, w_istore_n, w_swap, sg_28_1, sg_28_2, cB_40, cI_0, cI_1, cI_2, cI_5, am_lk0, am_lk1, am_ld_some, am_isI_i, am_isJ_j, am_isR_r, am_st_eq, am_rmv_nil, am_rmv_t, am_rmv_i, am_rmv_r, sf_SH, sj_SH, sf_eq, sf_nk, sf_na, sf_sf, am_args_i, am_args_r, am_args_n, Nat.reduceAdd, List.cons_append, List.nil_append, Option.toList, List.drop_succ_cons, List.drop_zero, am_RP, am_CP, am_PH, Fin.isValue, Fin.val_zero, Fin.val_one, am_f2, am_f3, true_and, and_true, true_implies, false_implies, not_false_eq_true, ne_eq, nI_clampD, nI_leT, nI_leF, nI_ltT, nI_ltF, nI_eqT, nI_eqF, nI_lt0F, nI_0leT, nI_eq0T, nI_eq0F, nI_0ltT, nI_0ltF, nI_le0T, nI_le0F, nI_m1, nI_m1', m1_m1, m1_lt, m1_le, nI_mul, nI_add, nI_sub, nI_add1, nI_dec, nI_div, nI_mod, vp_inD, sf_nkD, sf_eqD, bI_f, decide_false]
            exact hfin
          · rw [l4] at hfin ⊢
            simp (decide := true) (disch := (first | exact eq_false (by decide) | exact eq_true (by decide) | decide | omega)) only [lX8_takeItem_0, lX8_takeItem_14, lX8_takeItem_46, lX8_takeItem_47, lX8_takeItem_48, lX8_takeItem_60, lX8_takeItem_72, lX8_takeItem_77, lX8_takeItem_86, lX8_takeItem_87, bX8_takeItem_0, bX8_takeItem_14, bX8_takeItem_46, bX8_takeItem_47, bX8_takeItem_48, bX8_takeItem_60, bX8_takeItem_72, bX8_takeItem_77, bX8_takeItem_86, bX8_takeItem_87, (show qX8_takeItem.2.2.2.1 = (some .int) from rfl), am_rok_int, w_aload_n, w_bipush, w_getfield, w_goto, w_icmp_ne, w_iconst, w_if_eq, w_if_ne, w_iload_n, w_ireturn, w_istore_n, w_swap, sg_28_1, sg_28_2, cB_40, cI_0, cI_1, cI_2, cI_5, am_lk0, am_lk1, am_ld_some, am_isI_i, am_isJ_j, am_isR_r, am_st_eq, am_rmv_nil, am_rmv_t, am_rmv_i, am_rmv_r, sf_SH, sj_SH, sf_eq, sf_nk, sf_na, sf_sf, am_args_i, am_args_r, am_args_n, Nat.reduceAdd, List.cons_append, List.nil_append, Option.toList, List.drop_succ_cons, List.drop_zero, am_RP, am_CP, am_PH, Fin.isValue, Fin.val_zero, Fin.val_one, am_f2, am_f3, true_and, and_true, true_implies, false_implies, not_false_eq_true, ne_eq, nI_clampD, nI_leT, nI_leF, nI_ltT, nI_ltF, nI_eqT, nI_eqF, nI_lt0F, nI_0leT, nI_eq0T, nI_eq0F, nI_0ltT, nI_0ltF, nI_le0T, nI_le0F, nI_m1, nI_m1', m1_m1, m1_lt, m1_le, nI_mul, nI_add, nI_sub, nI_add1, nI_dec, nI_div, nI_mod, vp_inD, sf_nkD, sf_eqD, bI_t, decide_true]
            exact hfin
  · rw [decide_eq_false l0]
    simp (decide := true) (disch := (first | exact eq_false (by decide) | exact eq_true (by decide) | decide | omega)) only [lX8_takeItem_0, lX8_takeItem_14, lX8_takeItem_46, lX8_takeItem_47, lX8_takeItem_48, lX8_takeItem_60, lX8_takeItem_72, lX8_takeItem_77, lX8_takeItem_86, lX8_takeItem_87, bX8_takeItem_0, bX8_takeItem_14, bX8_takeItem_46, bX8_takeItem_47, bX8_takeItem_48, bX8_takeItem_60, bX8_takeItem_72, bX8_takeItem_77, bX8_takeItem_86, bX8_takeItem_87, (show qX8_takeItem.2.2.2.1 = (some .int) from rfl), am_rok_int, w_aload_n, w_bipush, w_getfield, w_goto, w_icmp_ne, w_iconst, w_if_eq, w_if_ne, w_iload_n, w_ireturn, w_istore_n, w_swap, sg_28_1, sg_28_2, cB_40, cI_0, cI_1, cI_2, cI_5, am_lk0, am_lk1, am_ld_some, am_isI_i, am_isJ_j, am_isR_r, am_st_eq, am_rmv_nil, am_rmv_t, am_rmv_i, am_rmv_r, sf_SH, sj_SH, sf_eq, sf_nk, sf_na, sf_sf, am_args_i, am_args_r, am_args_n, Nat.reduceAdd, List.cons_append, List.nil_append, Option.toList, List.drop_succ_cons, List.drop_zero, am_RP, am_CP, am_PH, Fin.isValue, Fin.val_zero, Fin.val_one, am_f2, am_f3, true_and, and_true, true_implies, false_implies, not_false_eq_true, ne_eq, nI_clampD, nI_leT, nI_leF, nI_ltT, nI_ltF, nI_eqT, nI_eqF, nI_lt0F, nI_0leT, nI_eq0T, nI_eq0F, nI_0ltT, nI_0ltF, nI_le0T, nI_le0F, nI_m1, nI_m1', m1_m1, m1_lt, m1_le, nI_mul, nI_add, nI_sub, nI_add1, nI_dec, nI_div, nI_mod, vp_inD, sf_nkD, sf_eqD, bI_f]
    have : e = a := by omega
    exact P_f (by rw [← hx]; exact if_pos this) hf1 (by rw [a2, this])
def foR (x : Rs) : Int32 := if x.1 = 2 then -1 else nI x.2.1
set_option maxRecDepth 100000 in
set_option maxHeartbeats 400000 in
theorem c_X8_findErrorOfForm (hT : TX 1 L t I) :
    am_Ctr g am_mt 1 (h + 7) 77 [.ref 28, .ref 1, .int (nI t)] (am_SH, I, J) 0 0 (fun r M => r = some (.int (foR (frm L t 7 Ps0))) ∧ ∃ I', M = (am_SH, I', J) ∧ Fr15 I I' ∧ ((frm L t 7 Ps0).1 = 2 → PF L t (frm L t 7 Ps0).2.2.1 I')) := by
  have ht := hT.1
  generalize hx : frm L t 7 Ps0 = x
  refine am_rule2 (q := qX8_findErrorOfForm) (B := am_blk bX8_findErrorOfForm) rfl rfl kX8_findErrorOfForm nX8_findErrorOfForm (Nat.le_of_ble_eq_true rfl) (fun u pc l st M k' n' => ∃ i a fs q ng I', u = 7 - i ∧ i ≤ 7 ∧ i = q + ng ∧ PS L t a fs q ng I' ∧ Fr15 I I' ∧ frm L t (7 - i) (a, fs, q, ng) = x ∧ pc = 31 ∧ l = [(0, .ref 28), (3, .int (nI i))] ∧ st = [] ∧ M = (am_SH, I', J) ∧ k' = 0 ∧ n' = 0) ?_ ?_
  · rintro u pc l st M k' n' ⟨i, a, fs, q, ng, I1, rfl, hi, hqn, hP, hf, hfr, rfl, rfl, rfl, rfl, rfl, rfl⟩
    refine ⟨_, 60, rfl, rfl, ?_⟩
    by_cases h7 : i = 7
    · have hW := hP.2.2.2.2.2.2.2
      have := hW.2.2.1
      have := hW.2.2.2.1
      omega
    · simp (decide := true) (disch := (first | exact eq_false (by decide) | exact eq_true (by decide) | decide | omega)) only [lX8_findErrorOfForm_0, lX8_findErrorOfForm_31, lX8_findErrorOfForm_53, lX8_findErrorOfForm_61, lX8_findErrorOfForm_67, bX8_findErrorOfForm_0, bX8_findErrorOfForm_31, bX8_findErrorOfForm_53, bX8_findErrorOfForm_61, bX8_findErrorOfForm_67, (show qX8_findErrorOfForm.2.2.2.1 = (some .int) from rfl), am_rok_int, w_aload_n, w_bipush, w_getfield, w_goto, w_icmp_ge, w_icmp_ne, w_iconst, w_if_ne, w_iinc, w_iload, w_iload_n, w_ireturn, w_istore, w_istore_n, w_nop, w_puti, w_swap, sg_28_0, sg_28_2, sp_28_1, sp_28_2, sp_28_3, sp_28_4, cB_7, cI_0, cI_2, cI_m1, am_lk0, am_lk1, am_ld_some, am_isI_i, am_isJ_j, am_isR_r, am_st_eq, am_rmv_nil, am_rmv_t, am_rmv_i, am_rmv_r, sf_SH, sj_SH, sf_eq, sf_nk, sf_na, sf_sf, am_args_i, am_args_r, am_args_n, Nat.reduceAdd, List.cons_append, List.nil_append, Option.toList, List.drop_succ_cons, List.drop_zero, am_RP, am_CP, am_PH, Fin.isValue, Fin.val_zero, Fin.val_one, am_f2, am_f3, true_and, and_true, true_implies, false_implies, not_false_eq_true, ne_eq, nI_clampD, nI_leT, nI_leF, nI_ltT, nI_ltF, nI_eqT, nI_eqF, nI_lt0F, nI_0leT, nI_eq0T, nI_eq0F, nI_0ltT, nI_0ltF, nI_le0T, nI_le0F, nI_m1, nI_m1', m1_m1, m1_lt, m1_le, nI_mul, nI_add, nI_sub, nI_add1, nI_dec, nI_div, nI_mod, vp_inD, sf_nkD, sf_eqD]
      refine w_virtP (c_X8_takeItem g h I1 J hP) rfl rfl rfl (of_eq_true so_28) rfl (Nat.le_refl _) (Nat.le_refl _) ?_
      rintro R M1 ⟨rfl, I2, rfl, f2, b2, p1, p2⟩
      rw [show 7 - i = (7 - (i + 1)) + 1 by omega] at hfr
      unfold frm at hfr
      simp only at hfr
      obtain ⟨hle, hcnt⟩ := itm_012 L t a fs q ng
      generalize itm L t a fs q ng = y at *
      rcases hle with l0 | l0 | l0
      · rw [if_neg (by omega)] at hfr
        subst hfr
        rw [l0]
        simp (decide := true) (disch := (first | exact eq_false (by decide) | exact eq_true (by decide) | decide | omega)) only [lX8_findErrorOfForm_0, lX8_findErrorOfForm_31, lX8_findErrorOfForm_53, lX8_findErrorOfForm_61, lX8_findErrorOfForm_67, bX8_findErrorOfForm_0, bX8_findErrorOfForm_31, bX8_findErrorOfForm_53, bX8_findErrorOfForm_61, bX8_findErrorOfForm_67, (show qX8_findErrorOfForm.2.2.2.1 = (some .int) from rfl), am_rok_int, w_aload_n, w_bipush, w_getfield, w_goto, w_icmp_ge, w_icmp_ne, w_iconst, w_if_ne, w_iinc, w_iload, w_iload_n, w_ireturn, w_istore, w_istore_n, w_nop, w_puti, w_swap, sg_28_0, sg_28_2, sp_28_1, sp_28_2, sp_28_3, sp_28_4, cB_7, cI_0, cI_2, cI_m1, am_lk0, am_lk1, am_ld_some, am_isI_i, am_isJ_j, am_isR_r, am_st_eq, am_rmv_nil, am_rmv_t, am_rmv_i, am_rmv_r, sf_SH, sj_SH, sf_eq, sf_nk, sf_na, sf_sf, am_args_i, am_args_r, am_args_n, Nat.reduceAdd, List.cons_append, List.nil_append, Option.toList, List.drop_succ_cons, List.drop_zero, am_RP, am_CP, am_PH, Fin.isValue, Fin.val_zero, Fin.val_one, am_f2, am_f3, true_and, and_true, true_implies, false_implies, not_false_eq_true, ne_eq, nI_clampD, nI_leT, nI_leF, nI_ltT, nI_ltF, nI_eqT, nI_eqF, nI_lt0F, nI_0leT, nI_eq0T, nI_eq0F, nI_0ltT, nI_0ltF, nI_le0T, nI_le0F, nI_m1, nI_m1', m1_m1, m1_lt, m1_le, nI_mul, nI_add, nI_sub, nI_add1, nI_dec, nI_div, nI_mod, vp_inD, sf_nkD, sf_eqD, b2]
        exact ⟨by unfold foR; rw [if_neg (by omega)], I2, rfl, hf.tr f2⟩
      · rw [if_pos l0] at hfr
        rw [l0]
        simp (decide := true) (disch := (first | exact eq_false (by decide) | exact eq_true (by decide) | decide | omega)) only [lX8_findErrorOfForm_0, lX8_findErrorOfForm_31, lX8_findErrorOfForm_53, lX8_findErrorOfForm_61, lX8_findErrorOfForm_67, bX8_findErrorOfForm_0, bX8_findErrorOfForm_31, bX8_findErrorOfForm_53, bX8_findErrorOfForm_61, bX8_findErrorOfForm_67, (show qX8_findErrorOfForm.2.2.2.1 = (some .int) from rfl), am_rok_int, w_aload_n, w_bipush, w_getfield, w_goto, w_icmp_ge, w_icmp_ne, w_iconst, w_if_ne, w_iinc, w_iload, w_iload_n, w_ireturn, w_istore, w_istore_n, w_nop, w_puti, w_swap, sg_28_0, sg_28_2, sp_28_1, sp_28_2, sp_28_3, sp_28_4, cB_7, cI_0, cI_2, cI_m1, am_lk0, am_lk1, am_ld_some, am_isI_i, am_isJ_j, am_isR_r, am_st_eq, am_rmv_nil, am_rmv_t, am_rmv_i, am_rmv_r, sf_SH, sj_SH, sf_eq, sf_nk, sf_na, sf_sf, am_args_i, am_args_r, am_args_n, Nat.reduceAdd, List.cons_append, List.nil_append, Option.toList, List.drop_succ_cons, List.drop_zero, am_RP, am_CP, am_PH, Fin.isValue, Fin.val_zero, Fin.val_one, am_f2, am_f3, true_and, and_true, true_implies, false_implies, not_false_eq_true, ne_eq, nI_clampD, nI_leT, nI_leF, nI_ltT, nI_ltF, nI_eqT, nI_eqF, nI_lt0F, nI_0leT, nI_eq0T, nI_eq0F, nI_0ltT, nI_0ltF, nI_le0T, nI_le0F, nI_m1, nI_m1', m1_m1, m1_lt, m1_le, nI_mul, nI_add, nI_sub, nI_add1, nI_dec, nI_div, nI_mod, vp_inD, sf_nkD, sf_eqD]
        refine ⟨7 - (i + 1), _, by omega, ?_, i + 1, y.2.1, y.2.2.1, y.2.2.2.1, y.2.2.2.2, I2, rfl, by omega, ?_, p1 l0, hf.tr f2, hfr, rfl, rfl⟩
        · simp (decide := true) only [am_has, am_lk0, am_lk1, and_self, true_and, and_true]
        · rw [hcnt l0, hqn]
      · rw [if_neg (by omega)] at hfr
        subst hfr
        rw [l0]
        simp (decide := true) (disch := (first | exact eq_false (by decide) | exact eq_true (by decide) | decide | omega)) only [lX8_findErrorOfForm_0, lX8_findErrorOfForm_31, lX8_findErrorOfForm_53, lX8_findErrorOfForm_61, lX8_findErrorOfForm_67, bX8_findErrorOfForm_0, bX8_findErrorOfForm_31, bX8_findErrorOfForm_53, bX8_findErrorOfForm_61, bX8_findErrorOfForm_67, (show qX8_findErrorOfForm.2.2.2.1 = (some .int) from rfl), am_rok_int, w_aload_n, w_bipush, w_getfield, w_goto, w_icmp_ge, w_icmp_ne, w_iconst, w_if_ne, w_iinc, w_iload, w_iload_n, w_ireturn, w_istore, w_istore_n, w_nop, w_puti, w_swap, sg_28_0, sg_28_2, sp_28_1, sp_28_2, sp_28_3, sp_28_4, cB_7, cI_0, cI_2, cI_m1, am_lk0, am_lk1, am_ld_some, am_isI_i, am_isJ_j, am_isR_r, am_st_eq, am_rmv_nil, am_rmv_t, am_rmv_i, am_rmv_r, sf_SH, sj_SH, sf_eq, sf_nk, sf_na, sf_sf, am_args_i, am_args_r, am_args_n, Nat.reduceAdd, List.cons_append, List.nil_append, Option.toList, List.drop_succ_cons, List.drop_zero, am_RP, am_CP, am_PH, Fin.isValue, Fin.val_zero, Fin.val_one, am_f2, am_f3, true_and, and_true, true_implies, false_implies, not_false_eq_true, ne_eq, nI_clampD, nI_leT, nI_leF, nI_ltT, nI_ltF, nI_eqT, nI_eqF, nI_lt0F, nI_0leT, nI_eq0T, nI_eq0F, nI_0ltT, nI_0ltF, nI_le0T, nI_le0F, nI_m1, nI_m1', m1_m1, m1_lt, m1_le, nI_mul, nI_add, nI_sub, nI_add1, nI_dec, nI_div, nI_mod, vp_inD, sf_nkD, sf_eqD]
        exact ⟨by unfold foR; rw [if_pos l0], I2, rfl, hf.tr f2, p2 l0⟩
  · refine ⟨60, ?_⟩
    simp (decide := true) (disch := (first | exact eq_false (by decide) | exact eq_true (by decide) | decide | omega)) only [lX8_findErrorOfForm_0, lX8_findErrorOfForm_31, lX8_findErrorOfForm_53, lX8_findErrorOfForm_61, lX8_findErrorOfForm_67, bX8_findErrorOfForm_0, bX8_findErrorOfForm_31, bX8_findErrorOfForm_53, bX8_findErrorOfForm_61, bX8_findErrorOfForm_67, (show qX8_findErrorOfForm.2.2.2.1 = (some .int) from rfl), am_rok_int, w_aload_n, w_bipush, w_getfield, w_goto, w_icmp_ge, w_icmp_ne, w_iconst, w_if_ne, w_iinc, w_iload, w_iload_n, w_ireturn, w_istore, w_istore_n, w_nop, w_puti, w_swap, sg_28_0, sg_28_2, sp_28_1, sp_28_2, sp_28_3, sp_28_4, cB_7, cI_0, cI_2, cI_m1, am_lk0, am_lk1, am_ld_some, am_isI_i, am_isJ_j, am_isR_r, am_st_eq, am_rmv_nil, am_rmv_t, am_rmv_i, am_rmv_r, sf_SH, sj_SH, sf_eq, sf_nk, sf_na, sf_sf, am_args_i, am_args_r, am_args_n, Nat.reduceAdd, List.cons_append, List.nil_append, Option.toList, List.drop_succ_cons, List.drop_zero, am_RP, am_CP, am_PH, Fin.isValue, Fin.val_zero, Fin.val_one, am_f2, am_f3, true_and, and_true, true_implies, false_implies, not_false_eq_true, ne_eq, nI_clampD, nI_leT, nI_leF, nI_ltT, nI_ltF, nI_eqT, nI_eqF, nI_lt0F, nI_0leT, nI_eq0T, nI_eq0F, nI_0ltT, nI_0ltF, nI_le0T, nI_le0F, nI_m1, nI_m1', m1_m1, m1_lt, m1_le, nI_mul, nI_add, nI_sub, nI_add1, nI_dec, nI_div, nI_mod, vp_inD, sf_nkD, sf_eqD]
    refine w_virtE (c_X7_startOver g (h + 5) I J hT) rfl rfl rfl (of_eq_true so_15) rfl (Nat.le_refl _) (Nat.le_refl _) ?_
    simp (decide := true) (disch := (first | exact eq_false (by decide) | exact eq_true (by decide) | decide | omega)) only [lX8_findErrorOfForm_0, lX8_findErrorOfForm_31, lX8_findErrorOfForm_53, lX8_findErrorOfForm_61, lX8_findErrorOfForm_67, bX8_findErrorOfForm_0, bX8_findErrorOfForm_31, bX8_findErrorOfForm_53, bX8_findErrorOfForm_61, bX8_findErrorOfForm_67, (show qX8_findErrorOfForm.2.2.2.1 = (some .int) from rfl), am_rok_int, w_aload_n, w_bipush, w_getfield, w_goto, w_icmp_ge, w_icmp_ne, w_iconst, w_if_ne, w_iinc, w_iload, w_iload_n, w_ireturn, w_istore, w_istore_n, w_nop, w_puti, w_swap, sg_28_0, sg_28_2, sp_28_1, sp_28_2, sp_28_3, sp_28_4, cB_7, cI_0, cI_2, cI_m1, am_lk0, am_lk1, am_ld_some, am_isI_i, am_isJ_j, am_isR_r, am_st_eq, am_rmv_nil, am_rmv_t, am_rmv_i, am_rmv_r, sf_SH, sj_SH, sf_eq, sf_nk, sf_na, sf_sf, am_args_i, am_args_r, am_args_n, Nat.reduceAdd, List.cons_append, List.nil_append, Option.toList, List.drop_succ_cons, List.drop_zero, am_RP, am_CP, am_PH, Fin.isValue, Fin.val_zero, Fin.val_one, am_f2, am_f3, true_and, and_true, true_implies, false_implies, not_false_eq_true, ne_eq, nI_clampD, nI_leT, nI_leF, nI_ltT, nI_ltF, nI_eqT, nI_eqF, nI_lt0F, nI_0leT, nI_eq0T, nI_eq0F, nI_0ltT, nI_0ltF, nI_le0T, nI_le0F, nI_m1, nI_m1', m1_m1, m1_lt, m1_le, nI_mul, nI_add, nI_sub, nI_add1, nI_dec, nI_div, nI_mod, vp_inD, sf_nkD, sf_eqD]
    refine ⟨7 - 0, _, ?_, 0, 0, [], 0, 0, _, rfl, by omega, rfl, ?_, ?_, hx, rfl, rfl⟩
    · simp (decide := true) only [am_has, am_lk0, am_lk1, and_self, true_and, and_true]
    · refine ⟨⟨ht, fun k hk => ?_, hT.2.2⟩, ?_, ?_, Nat.zero_le _, ⟨?_, ?_, fun f hf => ?_, fun f hf => ?_, fun f hf => ?_, fun f hf => ?_⟩, ?_, ?_, ⟨⟨by decide, fun f hf => ?_⟩, rfl, by decide, by decide, Nat.le_refl _⟩⟩
      · have e1 : ∀ K : Nat → Nat → Int32, sf (sf (sf (sf (sf (sf K 15 1 (nI 0)) 15 11 (nI 0)) 28 1 (nI t)) 28 2 (nI 0)) 28 3 (nI 0)) 28 4 (nI 0) 16 k = K 16 k := fun K => by
          rw [sf_naD (by decide), sf_naD (by decide), sf_naD (by decide), sf_naD (by decide), sf_naD (by decide), sf_naD (by decide)]
        rw [e1, show cpI I 16 1 t 16 k = I 1 k from if_pos ⟨rfl, hk⟩]
        exact hT.2.1 k hk
      · rw [sf_nk (by decide), sf_nk (by decide), sf_nk (by decide), sf_eq]
      · rw [sf_nk (by decide), sf_nk (by decide), sf_eq]
      · rw [sf_naD (by decide), sf_naD (by decide), sf_naD (by decide), sf_naD (by decide), sf_nk (by decide), sf_eq]; rfl
      · rw [sf_naD (by decide), sf_naD (by decide), sf_naD (by decide), sf_naD (by decide), sf_eq]; rfl
      · exact absurd hf (Nat.not_lt_zero _)
      · exact absurd hf (Nat.not_lt_zero _)
      · exact absurd hf (Nat.not_lt_zero _)
      · exact absurd hf (Nat.not_lt_zero _)
      · rw [sf_nk (by decide), sf_eq]
      · rw [sf_eq]
      · exact absurd hf (Nat.not_lt_zero _)
    · have e2 : Fr15 I (cpI I 16 1 t) := fun c hc => by
        funext j
        exact if_neg (fun h0 => by omega)
      exact ((((((e2.st (by decide)).st (by decide)).st (by decide)).st (by decide)).st (by decide)).st (by decide))
end RE1
