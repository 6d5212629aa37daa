/-! the class reads a sentence -/
theorem erF_le {L : Nat → Nat} {t : Nat} {fs : List Fg} (hG : Good L t fs) (hV : NV fs) {f : Nat} (hf : f < fs.length) : erF L fs f ≤ 200 := by
  have h1 := (hV f hf).2
  have ht := hG.2.2.2.2.2.2.2
  have h2 : kF (nF fs f) = 0 → bF (nF fs f) ≤ 100 := fun hk => by
    have := hG.leaf hf hk
    have q2 := this.2.2.2.2.2.2.1
    have q3 := this.2.2.2.2.2.2.2
    rcases q2 with q2 | q2 <;> omega
  unfold erF
  split
  · split <;> omega
  · split
    · rename_i hk
      have h3 := h2 hk
      split
      · omega
      · split
        · omega
        · split
          · omega
          · split <;> omega
    · omega
theorem uer_le {L : Nat → Nat} {t : Nat} {fs : List Fg} (hG : Good L t fs) (hV : NV fs) : uer L fs fs.length ≤ 200 := by
  rcases uer_spec L fs fs.length with ⟨h1, -⟩ | ⟨-, f, hf, h1, -⟩
  · omega
  · rw [← h1]; exact erF_le hG hV hf
section CRD
variable (g : am_G) (h : Nat) {L : Nat → Nat} {t e dm : Nat} {fc : Nat → Bool} {L' : Nat → Nat} {t' : Nat} {fs : List Fg} {cs : List (Nat × Nat)} {os : List (List Nat)} {s : Nat} {I : Nat → Nat → Int32} {J : Nat → Nat → Int64}
theorem Cw.ek (hw : Cw L t e dm fc L' t' fs cs os s I J) {e' : Nat} {I' : Nat → Nat → Int32} (h3 : I' 0 2 = nI e') (h1 : I' 0 1 = I 0 1) (h2 : ∀ c, 0 < c → c < 15 ∨ (28 < c ∧ c < 33) ∨ c = 35 ∨ (45 < c ∧ c < 58 ∧ c ≠ 48 ∧ c ≠ 53) → I' c = I c) : Cw L t e' dm fc L' t' fs cs os s I' J := by
  obtain ⟨⟨a1, a2, a3⟩, ⟨b1, b2, b3, b4, b5⟩, bm, ⟨d1, d2, d3, d4⟩, w⟩ := hw
  refine ⟨⟨a1.fr (h2 1 (by omega) (by omega)), by rw [h1]; exact a2, h3⟩, ⟨by rw [h2 54 (by omega) (by omega)]; exact b1, b2, b3, fun k hk => by rw [h2 55 (by omega) (by omega)]; exact b4 k hk, fun v hv => by rw [h2 56 (by omega) (by omega)]; exact b5 v hv⟩, bm.fr (by rw [h2 46 (by omega) (by omega)]) (h2 51 (by omega) (by omega)) (h2 52 (by omega) (by omega)), ⟨d1.fr (fun c x1 x2 => h2 c (by omega) (by omega)), d2.fr (h2 3 (by omega) (by omega)), d3.fr (fun c x1 x2 => h2 c (by omega) (by omega)), by rw [h2 35 (by omega) (by omega)]; exact d4⟩, ?_⟩
  rw [h2 46 (by omega) (by omega)]
  rcases w with w | ⟨w1, w2, w3, w4, w5, w6, w7, w8⟩
  · exact Or.inl w
  · exact Or.inr ⟨w1, w2, w3, w4, w5, w6.fr (by rw [h2 35 (by omega) (by omega)]) rfl, w7.elim Or.inl (fun h9 => Or.inr (h9.fr (by rw [h2 46 (by omega) (by omega)]) (fun c hc => h2 c (by omega) (by omega)))), fun r hr => by rw [h2 57 (by omega) (by omega)]; exact w8 r hr⟩
set_option maxRecDepth 100000 in
set_option maxHeartbeats 8000000 in
theorem c1_readSentence (hw : Cw L t e dm fc L' t' fs cs os s I J) (hx : ¬ (frm L t 7 Ps0).1 = 2) :
    am_Ctr g am_mt 1 (h + 17) 92 [.ref 0] (am_SH, I, J) 0 0 (fun r M => r = some (.int (-1 - nI (frm L t 7 Ps0).2.1)) ∧ ∃ I' J', M = (am_SH, I', J') ∧ (∀ c, 60 ≤ c → I' c = I c) ∧ (∀ a, a ≠ 36 → J' a = J a) ∧ Cw L t 1 dm fc L' t' fs cs os s I' J') := by
  have h01 := hw.1.2.1
  have hlt := frm_lt L t
  have hff : foR (frm L t 7 Ps0) = nI (frm L t 7 Ps0).2.1 := if_neg hx
  have hf := c_X8_findErrorOfForm g (h + 9) I J hw.1.1
  rw [hff] at hf
  refine am_rule0 (q := qX9_readSentence) (B := am_blk bX9_readSentence) 90 rfl rfl kX9_readSentence nX9_readSentence (Nat.le_of_ble_eq_true rfl) ?_
  simp (decide := true) (disch := (first | exact eq_false (by decide) | exact eq_true (by decide) | decide | omega)) only [lX9_readSentence_0, bX9_readSentence_0, (show qX9_readSentence.2.2.2.1 = (some .int) from rfl), am_rok_int, w_aload_n, w_getfield, w_icmp_eq, w_iconst, w_iload_n, w_ireturn, w_istore_n, w_isub, w_puti, sa_1, sg_0_0, sg_0_1, sg_0_11, sg_0_3, sg_0_4, sg_0_5, sg_0_6, sg_15_1, sg_2_1, sp_0_1, sp_0_2, cI_0, cI_1, cI_2, cI_m1, am_lk0, am_lk1, am_ld_some, am_isI_i, am_isJ_j, am_isR_r, am_st_eq, am_rmv_nil, am_rmv_t, am_rmv_i, am_rmv_r, sf_SH, sj_SH, sf_eq, sf_nk, sf_na, sf_sf, am_args_i, am_args_r, am_args_n, Nat.reduceAdd, List.cons_append, List.nil_append, Option.toList, List.drop_succ_cons, List.drop_zero, am_RP, am_CP, am_PH, Fin.isValue, Fin.val_zero, Fin.val_one, am_f2, am_f3, true_and, and_true, true_implies, false_implies, not_false_eq_true, ne_eq, am_RPX, am_XPX, am_CPX, am_PHX, am_MCX, am_MSX, am_RPH, am_PHH, am_MCH, am_MSH, w_throw, sa_95, am_LE0, nI_clampD, nI_leT, nI_leF, nI_ltT, nI_ltF, nI_eqT, nI_eqF, nI_lt0F, nI_0leT, nI_eq0T, nI_eq0F, nI_0ltT, nI_0ltF, nI_le0T, nI_le0F, nI_m1, nI_m1', m1_m1, m1_lt, m1_le, nI_mul, nI_add, nI_sub, nI_add1, nI_dec, nI_div, nI_mod, vp_inD, sf_nkD, sf_eqD, h01]
  refine w_virtP hf rfl rfl rfl (of_eq_true so_28) rfl (Nat.zero_le _) (Nat.zero_le _) ?_
  rintro R1 M1 ⟨rfl, I1, rfl, f1, f2⟩
  simp (decide := true) (disch := (first | exact eq_false (by decide) | exact eq_true (by decide) | decide | omega)) only [lX9_readSentence_0, bX9_readSentence_0, (show qX9_readSentence.2.2.2.1 = (some .int) from rfl), am_rok_int, w_aload_n, w_getfield, w_icmp_eq, w_iconst, w_iload_n, w_ireturn, w_istore_n, w_isub, w_puti, sa_1, sg_0_0, sg_0_1, sg_0_11, sg_0_3, sg_0_4, sg_0_5, sg_0_6, sg_15_1, sg_2_1, sp_0_1, sp_0_2, cI_0, cI_1, cI_2, cI_m1, am_lk0, am_lk1, am_ld_some, am_isI_i, am_isJ_j, am_isR_r, am_st_eq, am_rmv_nil, am_rmv_t, am_rmv_i, am_rmv_r, sf_SH, sj_SH, sf_eq, sf_nk, sf_na, sf_sf, am_args_i, am_args_r, am_args_n, Nat.reduceAdd, List.cons_append, List.nil_append, Option.toList, List.drop_succ_cons, List.drop_zero, am_RP, am_CP, am_PH, Fin.isValue, Fin.val_zero, Fin.val_one, am_f2, am_f3, true_and, and_true, true_implies, false_implies, not_false_eq_true, ne_eq, am_RPX, am_XPX, am_CPX, am_PHX, am_MCX, am_MSX, am_RPH, am_PHH, am_MCH, am_MSH, w_throw, sa_95, am_LE0, nI_clampD, nI_leT, nI_leF, nI_ltT, nI_ltF, nI_eqT, nI_eqF, nI_lt0F, nI_0leT, nI_eq0T, nI_eq0F, nI_0ltT, nI_0ltF, nI_le0T, nI_le0F, nI_m1, nI_m1', m1_m1, m1_lt, m1_le, nI_mul, nI_add, nI_sub, nI_add1, nI_dec, nI_div, nI_mod, vp_inD, sf_nkD, sf_eqD]
  exact ⟨_, _, rfl, fun c hc => by rw [sf_naD (by omega), f1 c (by omega)], fun _ _ => rfl, hw.ek (sf_eq _ _ _ _) (by rw [sf_nkD (by decide), f1 0 (by omega)]) (fun c x1 x2 => by rw [sf_naD (by omega), f1 c (by omega)])⟩
set_option maxRecDepth 100000 in
set_option maxHeartbeats 8000000 in
theorem c2_readSentence (hw : Cw L t e dm fc L' t' fs cs os s I J) (hx : (frm L t 7 Ps0).1 = 2) (hu : 0 < uer L (frm L t 7 Ps0).2.2.1 (frm L t 7 Ps0).2.2.1.length) (hub : uer L (frm L t 7 Ps0).2.2.1 (frm L t 7 Ps0).2.2.1.length < 1000) :
    am_Ctr g am_mt 1 (h + 17) 92 [.ref 0] (am_SH, I, J) 0 0 (fun r M => r = some (.int (-1 - nI (uer L (frm L t 7 Ps0).2.2.1 (frm L t 7 Ps0).2.2.1.length - 1))) ∧ ∃ I' J', M = (am_SH, I', J') ∧ (∀ c, 60 ≤ c → I' c = I c) ∧ (∀ a, a ≠ 36 → J' a = J a) ∧ Cw L t 2 dm fc L' t' fs cs os s I' J') := by
  have h01 := hw.1.2.1
  have ht := hw.1.1
  have hff : foR (frm L t 7 Ps0) = -1 := if_pos hx
  have hf := c_X8_findErrorOfForm g (h + 9) I J hw.1.1
  rw [hff] at hf
  generalize (frm L t 7 Ps0).2.2.1 = fs1 at *
  generalize huu : uer L fs1 fs1.length = u at *
  have hwp : wI u = nI (u - 1) := wI_p hu
  refine am_rule0 (q := qX9_readSentence) (B := am_blk bX9_readSentence) 90 rfl rfl kX9_readSentence nX9_readSentence (Nat.le_of_ble_eq_true rfl) ?_
  simp (decide := true) (disch := (first | exact eq_false (by decide) | exact eq_true (by decide) | decide | omega)) only [lX9_readSentence_0, lX9_readSentence_30, bX9_readSentence_0, bX9_readSentence_30, (show qX9_readSentence.2.2.2.1 = (some .int) from rfl), am_rok_int, w_aload_n, w_getfield, w_icmp_eq, w_iconst, w_iload_n, w_ireturn, w_istore_n, w_isub, w_puti, sa_1, sg_0_0, sg_0_1, sg_0_11, sg_0_3, sg_0_4, sg_0_5, sg_0_6, sg_15_1, sg_2_1, sp_0_1, sp_0_2, cI_0, cI_1, cI_2, cI_m1, am_lk0, am_lk1, am_ld_some, am_isI_i, am_isJ_j, am_isR_r, am_st_eq, am_rmv_nil, am_rmv_t, am_rmv_i, am_rmv_r, sf_SH, sj_SH, sf_eq, sf_nk, sf_na, sf_sf, am_args_i, am_args_r, am_args_n, Nat.reduceAdd, List.cons_append, List.nil_append, Option.toList, List.drop_succ_cons, List.drop_zero, am_RP, am_CP, am_PH, Fin.isValue, Fin.val_zero, Fin.val_one, am_f2, am_f3, true_and, and_true, true_implies, false_implies, not_false_eq_true, ne_eq, am_RPX, am_XPX, am_CPX, am_PHX, am_MCX, am_MSX, am_RPH, am_PHH, am_MCH, am_MSH, w_throw, sa_95, am_LE0, nI_clampD, nI_leT, nI_leF, nI_ltT, nI_ltF, nI_eqT, nI_eqF, nI_lt0F, nI_0leT, nI_eq0T, nI_eq0F, nI_0ltT, nI_0ltF, nI_le0T, nI_le0F, nI_m1, nI_m1', m1_m1, m1_lt, m1_le, nI_mul, nI_add, nI_sub, nI_add1, nI_dec, nI_div, nI_mod, vp_inD, sf_nkD, sf_eqD, h01]
  refine w_virtP hf rfl rfl rfl (of_eq_true so_28) rfl (Nat.zero_le _) (Nat.zero_le _) ?_
  rintro R1 M1 ⟨rfl, I1, rfl, f1, f2⟩
  obtain ⟨p1, p2, p3, p4⟩ := f2 hx
  simp (decide := true) (disch := (first | exact eq_false (by decide) | exact eq_true (by decide) | decide | omega)) only [lX9_readSentence_0, lX9_readSentence_30, bX9_readSentence_0, bX9_readSentence_30, (show qX9_readSentence.2.2.2.1 = (some .int) from rfl), am_rok_int, w_aload_n, w_getfield, w_icmp_eq, w_iconst, w_iload_n, w_ireturn, w_istore_n, w_isub, w_puti, sa_1, sg_0_0, sg_0_1, sg_0_11, sg_0_3, sg_0_4, sg_0_5, sg_0_6, sg_15_1, sg_2_1, sp_0_1, sp_0_2, cI_0, cI_1, cI_2, cI_m1, am_lk0, am_lk1, am_ld_some, am_isI_i, am_isJ_j, am_isR_r, am_st_eq, am_rmv_nil, am_rmv_t, am_rmv_i, am_rmv_r, sf_SH, sj_SH, sf_eq, sf_nk, sf_na, sf_sf, am_args_i, am_args_r, am_args_n, Nat.reduceAdd, List.cons_append, List.nil_append, Option.toList, List.drop_succ_cons, List.drop_zero, am_RP, am_CP, am_PH, Fin.isValue, Fin.val_zero, Fin.val_one, am_f2, am_f3, true_and, and_true, true_implies, false_implies, not_false_eq_true, ne_eq, am_RPX, am_XPX, am_CPX, am_PHX, am_MCX, am_MSX, am_RPH, am_PHH, am_MCH, am_MSH, w_throw, sa_95, am_LE0, nI_clampD, nI_leT, nI_leF, nI_ltT, nI_ltF, nI_eqT, nI_eqF, nI_lt0F, nI_0leT, nI_eq0T, nI_eq0F, nI_0ltT, nI_0ltF, nI_le0T, nI_le0F, nI_m1, nI_m1', m1_m1, m1_lt, m1_le, nI_mul, nI_add, nI_sub, nI_add1, nI_dec, nI_div, nI_mod, vp_inD, sf_nkD, sf_eqD]
  refine w_virtE (c_X7_findErrorOfUse g (h + 11) I1 J p2 p3 p4 (fun f hf hk => (prd_spec L fs1 hf hk).1) ht.1) rfl rfl rfl (of_eq_true so_15) rfl (Nat.zero_le _) (Nat.zero_le _) ?_
  rw [huu, hwp]
  simp (decide := true) (disch := (first | exact eq_false (by decide) | exact eq_true (by decide) | decide | omega)) only [lX9_readSentence_0, lX9_readSentence_30, bX9_readSentence_0, bX9_readSentence_30, (show qX9_readSentence.2.2.2.1 = (some .int) from rfl), am_rok_int, w_aload_n, w_getfield, w_icmp_eq, w_iconst, w_iload_n, w_ireturn, w_istore_n, w_isub, w_puti, sa_1, sg_0_0, sg_0_1, sg_0_11, sg_0_3, sg_0_4, sg_0_5, sg_0_6, sg_15_1, sg_2_1, sp_0_1, sp_0_2, cI_0, cI_1, cI_2, cI_m1, am_lk0, am_lk1, am_ld_some, am_isI_i, am_isJ_j, am_isR_r, am_st_eq, am_rmv_nil, am_rmv_t, am_rmv_i, am_rmv_r, sf_SH, sj_SH, sf_eq, sf_nk, sf_na, sf_sf, am_args_i, am_args_r, am_args_n, Nat.reduceAdd, List.cons_append, List.nil_append, Option.toList, List.drop_succ_cons, List.drop_zero, am_RP, am_CP, am_PH, Fin.isValue, Fin.val_zero, Fin.val_one, am_f2, am_f3, true_and, and_true, true_implies, false_implies, not_false_eq_true, ne_eq, am_RPX, am_XPX, am_CPX, am_PHX, am_MCX, am_MSX, am_RPH, am_PHH, am_MCH, am_MSH, w_throw, sa_95, am_LE0, nI_clampD, nI_leT, nI_leF, nI_ltT, nI_ltF, nI_eqT, nI_eqF, nI_lt0F, nI_0leT, nI_eq0T, nI_eq0F, nI_0ltT, nI_0ltF, nI_le0T, nI_le0F, nI_m1, nI_m1', m1_m1, m1_lt, m1_le, nI_mul, nI_add, nI_sub, nI_add1, nI_dec, nI_div, nI_mod, vp_inD, sf_nkD, sf_eqD]
  exact ⟨_, _, rfl, fun c hc => by rw [sf_naD (by omega), f1 c (by omega)], fun _ _ => rfl, hw.ek (sf_eq _ _ _ _) (by rw [sf_nkD (by decide), f1 0 (by omega)]) (fun c x1 x2 => by rw [sf_naD (by omega), f1 c (by omega)])⟩
set_option maxRecDepth 100000 in
set_option maxHeartbeats 8000000 in
theorem c0_readSentence (hw : Cw L t e dm fc L' t' fs cs os s I J) (hx : (frm L t 7 Ps0).1 = 2) (hu : uer L (frm L t 7 Ps0).2.2.1 (frm L t 7 Ps0).2.2.1.length = 0) :
    am_Ctr g am_mt 1 (h + 17) 92 [.ref 0] (am_SH, I, J) 0 0 (fun r M => r = some (.int (nI (frm L t 7 Ps0).2.2.1.length)) ∧ ∃ I' J', M = (am_SH, I', J') ∧ (∀ c, 60 ≤ c → I' c = I c) ∧ (∀ a, a ≠ 36 → J' a = J a) ∧ Cw L0 0 0 dm (fun _ => false) L t (frm L t 7 Ps0).2.2.1 [] (RLs (frm L t 7 Ps0).2.2.1 []) s I' J') := by
  have h01 := hw.1.2.1
  have ht := hw.1.1
  have hG := frm_7good ht.2.2 ht.1 hx
  have hUs := Usd_of hG hu
  have hsm := frm_ln (L := L) (t := t) 7 0 [] 0 0 (Nat.le_refl _) hx
  have hsm : smL (frm L t 7 Ps0).2.2.1 ≤ t := hsm
  have hff : foR (frm L t 7 Ps0) = -1 := if_pos hx
  have hf := c_X8_findErrorOfForm g (h + 9) I J hw.1.1
  rw [hff] at hf
  generalize (frm L t 7 Ps0).2.2.1 = fs1 at *
  have hC0 : CSo fs1 [] := ⟨Nat.zero_le _, fun c hc => absurd hc List.not_mem_nil⟩
  refine am_rule0 (q := qX9_readSentence) (B := am_blk bX9_readSentence) 90 rfl rfl kX9_readSentence nX9_readSentence (Nat.le_of_ble_eq_true rfl) ?_
  simp (decide := true) (disch := (first | exact eq_false (by decide) | exact eq_true (by decide) | decide | omega)) only [lX9_readSentence_0, lX9_readSentence_30, lX9_readSentence_52, bX9_readSentence_0, bX9_readSentence_30, bX9_readSentence_52, (show qX9_readSentence.2.2.2.1 = (some .int) from rfl), am_rok_int, w_aload_n, w_getfield, w_icmp_eq, w_iconst, w_iload_n, w_ireturn, w_istore_n, w_isub, w_puti, sa_1, sg_0_0, sg_0_1, sg_0_11, sg_0_3, sg_0_4, sg_0_5, sg_0_6, sg_15_1, sg_2_1, sp_0_1, sp_0_2, cI_0, cI_1, cI_2, cI_m1, am_lk0, am_lk1, am_ld_some, am_isI_i, am_isJ_j, am_isR_r, am_st_eq, am_rmv_nil, am_rmv_t, am_rmv_i, am_rmv_r, sf_SH, sj_SH, sf_eq, sf_nk, sf_na, sf_sf, am_args_i, am_args_r, am_args_n, Nat.reduceAdd, List.cons_append, List.nil_append, Option.toList, List.drop_succ_cons, List.drop_zero, am_RP, am_CP, am_PH, Fin.isValue, Fin.val_zero, Fin.val_one, am_f2, am_f3, true_and, and_true, true_implies, false_implies, not_false_eq_true, ne_eq, am_RPX, am_XPX, am_CPX, am_PHX, am_MCX, am_MSX, am_RPH, am_PHH, am_MCH, am_MSH, w_throw, sa_95, am_LE0, nI_clampD, nI_leT, nI_leF, nI_ltT, nI_ltF, nI_eqT, nI_eqF, nI_lt0F, nI_0leT, nI_eq0T, nI_eq0F, nI_0ltT, nI_0ltF, nI_le0T, nI_le0F, nI_m1, nI_m1', m1_m1, m1_lt, m1_le, nI_mul, nI_add, nI_sub, nI_add1, nI_dec, nI_div, nI_mod, vp_inD, sf_nkD, sf_eqD, h01]
  refine w_virtP hf rfl rfl rfl (of_eq_true so_28) rfl (Nat.zero_le _) (Nat.zero_le _) ?_
  rintro R1 M1 ⟨rfl, I1, rfl, f1, f2⟩
  obtain ⟨p1, p2, p3, p4⟩ := f2 hx
  simp (decide := true) (disch := (first | exact eq_false (by decide) | exact eq_true (by decide) | decide | omega)) only [lX9_readSentence_0, lX9_readSentence_30, lX9_readSentence_52, bX9_readSentence_0, bX9_readSentence_30, bX9_readSentence_52, (show qX9_readSentence.2.2.2.1 = (some .int) from rfl), am_rok_int, w_aload_n, w_getfield, w_icmp_eq, w_iconst, w_iload_n, w_ireturn, w_istore_n, w_isub, w_puti, sa_1, sg_0_0, sg_0_1, sg_0_11, sg_0_3, sg_0_4, sg_0_5, sg_0_6, sg_15_1, sg_2_1, sp_0_1, sp_0_2, cI_0, cI_1, cI_2, cI_m1, am_lk0, am_lk1, am_ld_some, am_isI_i, am_isJ_j, am_isR_r, am_st_eq, am_rmv_nil, am_rmv_t, am_rmv_i, am_rmv_r, sf_SH, sj_SH, sf_eq, sf_nk, sf_na, sf_sf, am_args_i, am_args_r, am_args_n, Nat.reduceAdd, List.cons_append, List.nil_append, Option.toList, List.drop_succ_cons, List.drop_zero, am_RP, am_CP, am_PH, Fin.isValue, Fin.val_zero, Fin.val_one, am_f2, am_f3, true_and, and_true, true_implies, false_implies, not_false_eq_true, ne_eq, am_RPX, am_XPX, am_CPX, am_PHX, am_MCX, am_MSX, am_RPH, am_PHH, am_MCH, am_MSH, w_throw, sa_95, am_LE0, nI_clampD, nI_leT, nI_leF, nI_ltT, nI_ltF, nI_eqT, nI_eqF, nI_lt0F, nI_0leT, nI_eq0T, nI_eq0F, nI_0ltT, nI_0ltF, nI_le0T, nI_le0F, nI_m1, nI_m1', m1_m1, m1_lt, m1_le, nI_mul, nI_add, nI_sub, nI_add1, nI_dec, nI_div, nI_mod, vp_inD, sf_nkD, sf_eqD]
  refine w_virtE (c_X7_findErrorOfUse g (h + 11) I1 J p2 p3 p4 (fun f hf hk => (prd_spec L fs1 hf hk).1) ht.1) rfl rfl rfl (of_eq_true so_15) rfl (Nat.zero_le _) (Nat.zero_le _) ?_
  rw [hu]
  simp (decide := true) (disch := (first | exact eq_false (by decide) | exact eq_true (by decide) | decide | omega)) only [lX9_readSentence_0, lX9_readSentence_30, lX9_readSentence_52, bX9_readSentence_0, bX9_readSentence_30, bX9_readSentence_52, (show qX9_readSentence.2.2.2.1 = (some .int) from rfl), am_rok_int, w_aload_n, w_getfield, w_icmp_eq, w_iconst, w_iload_n, w_ireturn, w_istore_n, w_isub, w_puti, sa_1, sg_0_0, sg_0_1, sg_0_11, sg_0_3, sg_0_4, sg_0_5, sg_0_6, sg_15_1, sg_2_1, sp_0_1, sp_0_2, cI_0, cI_1, cI_2, cI_m1, am_lk0, am_lk1, am_ld_some, am_isI_i, am_isJ_j, am_isR_r, am_st_eq, am_rmv_nil, am_rmv_t, am_rmv_i, am_rmv_r, sf_SH, sj_SH, sf_eq, sf_nk, sf_na, sf_sf, am_args_i, am_args_r, am_args_n, Nat.reduceAdd, List.cons_append, List.nil_append, Option.toList, List.drop_succ_cons, List.drop_zero, am_RP, am_CP, am_PH, Fin.isValue, Fin.val_zero, Fin.val_one, am_f2, am_f3, true_and, and_true, true_implies, false_implies, not_false_eq_true, ne_eq, am_RPX, am_XPX, am_CPX, am_PHX, am_MCX, am_MSX, am_RPH, am_PHH, am_MCH, am_MSH, w_throw, sa_95, am_LE0, nI_clampD, nI_leT, nI_leF, nI_ltT, nI_ltF, nI_eqT, nI_eqF, nI_lt0F, nI_0leT, nI_eq0T, nI_eq0F, nI_0ltT, nI_0ltF, nI_le0T, nI_le0F, nI_m1, nI_m1', m1_m1, m1_lt, m1_le, nI_mul, nI_add, nI_sub, nI_add1, nI_dec, nI_div, nI_mod, vp_inD, sf_nkD, sf_eqD, wI_m1t]
  generalize hI2 : sf (sf I1 0 2 (nI 0)) 0 1 (nI 0) = I2
  have i2c : ∀ c, c ≠ 0 → I2 c = I1 c := fun c hc => by rw [← hI2, sf_naD hc, sf_naD hc]
  have i201 : I2 0 1 = nI 0 := by rw [← hI2, sf_eq]
  have i202 : I2 0 2 = nI 0 := by rw [← hI2, sf_nkD (by decide), sf_eq]
  refine w_virtE (c_X7_takeOver g (h + 14) I2 J) rfl rfl rfl (of_eq_true so_2) rfl (Nat.zero_le _) (Nat.zero_le _) ?_
  simp (decide := true) (disch := (first | exact eq_false (by decide) | exact eq_true (by decide) | decide | omega)) only [lX9_readSentence_0, lX9_readSentence_30, lX9_readSentence_52, bX9_readSentence_0, bX9_readSentence_30, bX9_readSentence_52, (show qX9_readSentence.2.2.2.1 = (some .int) from rfl), am_rok_int, w_aload_n, w_getfield, w_icmp_eq, w_iconst, w_iload_n, w_ireturn, w_istore_n, w_isub, w_puti, sa_1, sg_0_0, sg_0_1, sg_0_11, sg_0_3, sg_0_4, sg_0_5, sg_0_6, sg_15_1, sg_2_1, sp_0_1, sp_0_2, cI_0, cI_1, cI_2, cI_m1, am_lk0, am_lk1, am_ld_some, am_isI_i, am_isJ_j, am_isR_r, am_st_eq, am_rmv_nil, am_rmv_t, am_rmv_i, am_rmv_r, sf_SH, sj_SH, sf_eq, sf_nk, sf_na, sf_sf, am_args_i, am_args_r, am_args_n, Nat.reduceAdd, List.cons_append, List.nil_append, Option.toList, List.drop_succ_cons, List.drop_zero, am_RP, am_CP, am_PH, Fin.isValue, Fin.val_zero, Fin.val_one, am_f2, am_f3, true_and, and_true, true_implies, false_implies, not_false_eq_true, ne_eq, am_RPX, am_XPX, am_CPX, am_PHX, am_MCX, am_MSX, am_RPH, am_PHH, am_MCH, am_MSH, w_throw, sa_95, am_LE0, nI_clampD, nI_leT, nI_leF, nI_ltT, nI_ltF, nI_eqT, nI_eqF, nI_lt0F, nI_0leT, nI_eq0T, nI_eq0F, nI_0ltT, nI_0ltF, nI_le0T, nI_le0F, nI_m1, nI_m1', m1_m1, m1_lt, m1_le, nI_mul, nI_add, nI_sub, nI_add1, nI_dec, nI_div, nI_mod, vp_inD, sf_nkD, sf_eqD]
  have hRD2 : RD 15 L fs1 I2 := p2.fr (fun c x1 x2 => i2c c (by omega))
  have hRD3 : RD 2 L fs1 (tkI I2) := tkI_RD (t := t) hRD2 p3.1 p4
  have hTX3 : TX 3 L t (tkI I2) := tkI_TX (p1.fr (i2c 16 (by decide)))
  have hfr3 := tkI_fr I2
  generalize tkI I2 = I3 at *
  refine w_virtP (c_X0_drawSentence g (h + 13) I3 J (L := L) (t := t) (fs := fs1) ⟨hRD3, hG⟩) rfl rfl rfl (of_eq_true so_29) rfl (Nat.zero_le _) (Nat.zero_le _) ?_
  rintro R1 M1 ⟨rfl, I4, rfl, k1, k2⟩
  simp (decide := true) (disch := (first | exact eq_false (by decide) | exact eq_true (by decide) | decide | omega)) only [lX9_readSentence_0, lX9_readSentence_30, lX9_readSentence_52, bX9_readSentence_0, bX9_readSentence_30, bX9_readSentence_52, (show qX9_readSentence.2.2.2.1 = (some .int) from rfl), am_rok_int, w_aload_n, w_getfield, w_icmp_eq, w_iconst, w_iload_n, w_ireturn, w_istore_n, w_isub, w_puti, sa_1, sg_0_0, sg_0_1, sg_0_11, sg_0_3, sg_0_4, sg_0_5, sg_0_6, sg_15_1, sg_2_1, sp_0_1, sp_0_2, cI_0, cI_1, cI_2, cI_m1, am_lk0, am_lk1, am_ld_some, am_isI_i, am_isJ_j, am_isR_r, am_st_eq, am_rmv_nil, am_rmv_t, am_rmv_i, am_rmv_r, sf_SH, sj_SH, sf_eq, sf_nk, sf_na, sf_sf, am_args_i, am_args_r, am_args_n, Nat.reduceAdd, List.cons_append, List.nil_append, Option.toList, List.drop_succ_cons, List.drop_zero, am_RP, am_CP, am_PH, Fin.isValue, Fin.val_zero, Fin.val_one, am_f2, am_f3, true_and, and_true, true_implies, false_implies, not_false_eq_true, ne_eq, am_RPX, am_XPX, am_CPX, am_PHX, am_MCX, am_MSX, am_RPH, am_PHH, am_MCH, am_MSH, w_throw, sa_95, am_LE0, nI_clampD, nI_leT, nI_leF, nI_ltT, nI_ltF, nI_eqT, nI_eqF, nI_lt0F, nI_0leT, nI_eq0T, nI_eq0F, nI_0ltT, nI_0ltF, nI_le0T, nI_le0F, nI_m1, nI_m1', m1_m1, m1_lt, m1_le, nI_mul, nI_add, nI_sub, nI_add1, nI_dec, nI_div, nI_mod, vp_inD, sf_nkD, sf_eqD]
  refine w_virtP (k_dropFacts g (h + 13) (J := J) I4) rfl rfl rfl (of_eq_true so_54) rfl (Nat.zero_le _) (Nat.zero_le _) ?_
  rintro R1 M1 ⟨rfl, I5, rfl, k3, k4, k5⟩
  have i5c : ∀ c, c ≠ 29 → c ≠ 30 → c ≠ 55 → c ≠ 57 → I5 c = I3 c := fun c x1 x2 x3 x4 => (k3 c x3 x4).trans (k1 c x1 x2)
  have hS5 : SN L t fs1 I5 := ⟨hRD3.fr (fun c x1 x2 => i5c c (by omega) (by omega) (by omega) (by omega)), hG⟩
  have hG5 : GS fs1 [] I5 := k2.fr (fun c x1 x2 => k3 c (by omega) (by omega))
  simp (decide := true) (disch := (first | exact eq_false (by decide) | exact eq_true (by decide) | decide | omega)) only [lX9_readSentence_0, lX9_readSentence_30, lX9_readSentence_52, bX9_readSentence_0, bX9_readSentence_30, bX9_readSentence_52, (show qX9_readSentence.2.2.2.1 = (some .int) from rfl), am_rok_int, w_aload_n, w_getfield, w_icmp_eq, w_iconst, w_iload_n, w_ireturn, w_istore_n, w_isub, w_puti, sa_1, sg_0_0, sg_0_1, sg_0_11, sg_0_3, sg_0_4, sg_0_5, sg_0_6, sg_15_1, sg_2_1, sp_0_1, sp_0_2, cI_0, cI_1, cI_2, cI_m1, am_lk0, am_lk1, am_ld_some, am_isI_i, am_isJ_j, am_isR_r, am_st_eq, am_rmv_nil, am_rmv_t, am_rmv_i, am_rmv_r, sf_SH, sj_SH, sf_eq, sf_nk, sf_na, sf_sf, am_args_i, am_args_r, am_args_n, Nat.reduceAdd, List.cons_append, List.nil_append, Option.toList, List.drop_succ_cons, List.drop_zero, am_RP, am_CP, am_PH, Fin.isValue, Fin.val_zero, Fin.val_one, am_f2, am_f3, true_and, and_true, true_implies, false_implies, not_false_eq_true, ne_eq, am_RPX, am_XPX, am_CPX, am_PHX, am_MCX, am_MSX, am_RPH, am_PHH, am_MCH, am_MSH, w_throw, sa_95, am_LE0, nI_clampD, nI_leT, nI_leF, nI_ltT, nI_ltF, nI_eqT, nI_eqF, nI_lt0F, nI_0leT, nI_eq0T, nI_eq0F, nI_0ltT, nI_0ltF, nI_le0T, nI_le0F, nI_m1, nI_m1', m1_m1, m1_lt, m1_le, nI_mul, nI_add, nI_sub, nI_add1, nI_dec, nI_div, nI_mod, vp_inD, sf_nkD, sf_eqD]
  refine w_virtP (c_X9_listReadings g h I5 J hS5 hG5 hC0) rfl rfl rfl (of_eq_true so_0) rfl (Nat.zero_le _) (Nat.zero_le _) ?_
  rintro R1 M1 ⟨rfl, I6, J6, rfl, q1, q2, q3, q4, q5, q6⟩
  have i6c : ∀ c, c ≠ 29 → c ≠ 30 → c ≠ 33 → c ≠ 34 → c ≠ 35 → c ≠ 38 → c ≠ 46 → c ≠ 55 → c ≠ 57 → I6 c = I3 c := fun c x1 x2 x3 x4 x5 x6 x7 x8 x9 => (q1 c x3 x4 x5 x6 x7 x9).trans (i5c c x1 x2 x8 x9)
  have i6o : ∀ c, c < 2 ∨ 14 < c → c < 15 ∨ 28 < c → c ≠ 29 → c ≠ 30 → c ≠ 33 → c ≠ 34 → c ≠ 35 → c ≠ 38 → c ≠ 46 → c ≠ 55 → c ≠ 57 → c ≠ 0 → I6 c = I c := fun c y1 y2 x1 x2 x3 x4 x5 x6 x7 x8 x9 x0 => (i6c c x1 x2 x3 x4 x5 x6 x7 x8 x9).trans ((hfr3 c y1).trans ((i2c c x0).trans (f1 c y2)))
  have hR6 : RD 2 L fs1 I6 := hRD3.fr (fun c x1 x2 => i6c c (by omega) (by omega) (by omega) (by omega) (by omega) (by omega) (by omega) (by omega) (by omega))
  have h21 := hR6.1
  simp (decide := true) (disch := (first | exact eq_false (by decide) | exact eq_true (by decide) | decide | omega)) only [lX9_readSentence_0, lX9_readSentence_30, lX9_readSentence_52, bX9_readSentence_0, bX9_readSentence_30, bX9_readSentence_52, (show qX9_readSentence.2.2.2.1 = (some .int) from rfl), am_rok_int, w_aload_n, w_getfield, w_icmp_eq, w_iconst, w_iload_n, w_ireturn, w_istore_n, w_isub, w_puti, sa_1, sg_0_0, sg_0_1, sg_0_11, sg_0_3, sg_0_4, sg_0_5, sg_0_6, sg_15_1, sg_2_1, sp_0_1, sp_0_2, cI_0, cI_1, cI_2, cI_m1, am_lk0, am_lk1, am_ld_some, am_isI_i, am_isJ_j, am_isR_r, am_st_eq, am_rmv_nil, am_rmv_t, am_rmv_i, am_rmv_r, sf_SH, sj_SH, sf_eq, sf_nk, sf_na, sf_sf, am_args_i, am_args_r, am_args_n, Nat.reduceAdd, List.cons_append, List.nil_append, Option.toList, List.drop_succ_cons, List.drop_zero, am_RP, am_CP, am_PH, Fin.isValue, Fin.val_zero, Fin.val_one, am_f2, am_f3, true_and, and_true, true_implies, false_implies, not_false_eq_true, ne_eq, am_RPX, am_XPX, am_CPX, am_PHX, am_MCX, am_MSX, am_RPH, am_PHH, am_MCH, am_MSH, w_throw, sa_95, am_LE0, nI_clampD, nI_leT, nI_leF, nI_ltT, nI_ltF, nI_eqT, nI_eqF, nI_lt0F, nI_0leT, nI_eq0T, nI_eq0F, nI_0ltT, nI_0ltF, nI_le0T, nI_le0F, nI_m1, nI_m1', m1_m1, m1_lt, m1_le, nI_mul, nI_add, nI_sub, nI_add1, nI_dec, nI_div, nI_mod, vp_inD, sf_nkD, sf_eqD, h21]
  refine ⟨I6, J6, rfl, fun c hc => i6o c (by omega) (by omega) (by omega) (by omega) (by omega) (by omega) (by omega) (by omega) (by omega) (by omega) (by omega) (by omega), q2, ⟨TX_0 _ _, ?_, ?_⟩, ⟨?_, hw.2.1.2.1, hw.2.1.2.2.1, fun k hk => ?_, fun v hv => ?_⟩, hw.2.2.1.fr ?_ (i6o 51 (by omega) (by omega) (by omega) (by omega) (by omega) (by omega) (by omega) (by omega) (by omega) (by omega) (by omega) (by omega)) (i6o 52 (by omega) (by omega) (by omega) (by omega) (by omega) (by omega) (by omega) (by omega) (by omega) (by omega) (by omega) (by omega)), ⟨hR6, hTX3.fr (i6c 3 (by omega) (by omega) (by omega) (by omega) (by omega) (by omega) (by omega) (by omega) (by omega)), hG5.fr (fun c x1 x2 => q1 c (by omega) (by omega) (by omega) (by omega) (by omega) (by omega)), q3.1⟩, Or.inr ⟨hG, rfl, hC0, hUs, hsm, q3, Or.inl q4, fun r hr => Or.inl (q6 r ?_)⟩⟩
  · rw [i6c 0 (by omega) (by omega) (by omega) (by omega) (by omega) (by omega) (by omega) (by omega) (by omega), hfr3 0 (by omega)]; exact i201
  · rw [i6c 0 (by omega) (by omega) (by omega) (by omega) (by omega) (by omega) (by omega) (by omega) (by omega), hfr3 0 (by omega)]; exact i202
  · rw [i6o 54 (by omega) (by omega) (by omega) (by omega) (by omega) (by omega) (by omega) (by omega) (by omega) (by omega) (by omega) (by omega)]; exact hw.2.1.1
  · rw [q1 55 (by omega) (by omega) (by omega) (by omega) (by omega) (by omega)]; exact k4 k hk
  · rw [i6o 56 (by omega) (by omega) (by omega) (by omega) (by omega) (by omega) (by omega) (by omega) (by omega) (by omega) (by omega) (by omega)]; exact hw.2.1.2.2.2.2 v hv
  · rw [q5, i5c 46 (by omega) (by omega) (by omega) (by omega), hfr3 46 (by omega), i2c 46 (by omega), f1 46 (by omega)]
  · exact Nat.lt_of_lt_of_le hr (RLs_le hG)
end CRD
