/-! the class works the meanings out -/
def SRo (fs : List Fg) (cs : List (Nat × Nat)) (i j : Nat) : Prop := Stpo fs ((RLs fs cs).getD i []) ((RLs fs cs).getD j [])
def MWK (fs : List Fg) (cs : List (Nat × Nat)) (I : Nat → Nat → Int32) : Prop := I 46 3 = nI 1 ∧ (∀ x, x < (RLs fs cs).length → RowT 47 (3 * x) 3 (RLs fs cs).length (SRo fs cs x) I) ∧ ∀ r, r < (RLs fs cs).length → (∃ m, I 49 r = nI m ∧ CLS (RLs fs cs).length (SRo fs cs) r m) ∧ ∃ b, I 50 r = bI b ∧ (b = true ↔ WKo (RLs fs cs).length (SRo fs cs) r)
theorem MWK.fr {fs : List Fg} {cs : List (Nat × Nat)} {I I' : Nat → Nat → Int32} (h : MWK fs cs I) (h1 : I' 46 3 = I 46 3) (h2 : ∀ c, c = 47 ∨ c = 49 ∨ c = 50 → I' c = I c) : MWK fs cs I' := by
  unfold MWK RowT
  rw [h1, h2 47 (by omega), h2 49 (by omega), h2 50 (by omega)]
  exact h
theorem MKs.fr {s : Nat} {I I' : Nat → Nat → Int32} (h : MKs s I) (h1 : I' 46 11 = I 46 11) (h2 : I' 51 = I 51) (h3 : I' 52 = I 52) : MKs s I' := by
  unfold MKs
  rw [h1, h2, h3]
  exact h
def FrWk (I I' : Nat → Nat → Int32) : Prop := ∀ c, c < 40 ∨ 53 < c → I' c = I c
theorem fl_na {I : Nat → Nat → Int32} {a n : Nat} {v : Int32} {c : Nat} (h : c ≠ a) : fl I a n v c = I c := funext fun j => by rw [fl_app, if_neg (fun h0 => h h0.1)]
theorem fl_in {I : Nat → Nat → Int32} {a n : Nat} {v : Int32} {j : Nat} (h : j < n) : fl I a n v a j = v := by rw [fl_app, if_pos ⟨rfl, h⟩]
section WK1
variable (g : am_G) (h : Nat) (I : Nat → Nat → Int32) (J : Nat → Nat → Int64) {L : Nat → Nat} {t : Nat} {fs : List Fg} {cs : List (Nat × Nat)} {o : List Nat} {l : List (Nat × List Nat)}
theorem Tto_S (hO : Ordr fs o l) (j : Nat) : Tto fs cs o fs.length j ↔ Stpo fs o ((RLs fs cs).getD j []) := by
  constructor
  · rintro ⟨q, r, pq, -, h2⟩
    exact ⟨q, r, pq, h2⟩
  · rintro ⟨q, r, pq, h2, h3, h4, h5⟩
    refine ⟨q, r, pq, ?_, h2, h3, h4, h5⟩
    obtain ⟨l0, A, B, C, D, c, a1, a2, -⟩ := h4
    rw [hO.1] at a1
    have a1 := Option.some.inj a1
    subst a1
    exact hO.mem a2
theorem Tfr_S (hO : Ordr fs o l) {j : Nat} (hj : j < (RLs fs cs).length) : Tfr fs cs o fs.length j ↔ Stpo fs ((RLs fs cs).getD j []) o := by
  obtain ⟨l', hO'⟩ := RLs_ord hj
  rw [Stpo_rev hO hO']
  constructor
  · rintro ⟨q, r, pq, -, h2⟩
    exact ⟨q, r, pq, h2⟩
  · rintro ⟨q, r, pq, h2, h3, h4, h5⟩
    refine ⟨q, r, pq, ?_, h2, h3, h4, h5⟩
    obtain ⟨l0, A, B, C, D, c, a1, a2, -⟩ := h4
    rw [hO.1] at a1
    have a1 := Option.some.inj a1
    subst a1
    exact hO.mem a2
set_option maxRecDepth 100000 in
set_option maxHeartbeats 8000000 in
theorem c_X3_workOut1 (hW : I 46 3 = nI 1) :
    am_Ctr g am_mt 1 (h + 1) 26 [.ref 46] (am_SH, I, J) 0 0 (fun r' M => r' = none ∧ M = (am_SH, I, J)) := by
  refine am_rule0 (q := qX3_workOut) (B := am_blk bX3_workOut) 60 rfl rfl kX3_workOut nX3_workOut (Nat.le_of_ble_eq_true rfl) ?_
  simp (decide := true) (disch := (first | exact eq_false (by decide) | exact eq_true (by decide) | decide | omega)) only [lX3_workOut_0, bX3_workOut_0, (show qX3_workOut.2.2.2.1 = none from rfl), am_rok_none, w_aload_n, w_getfield, w_goto, w_iaload, w_icmp_ge, w_icmp_ne, w_iconst, w_if_eq, w_iinc, w_iload_n, w_istore_n, w_nop, w_puti, w_return, w_swap, sa_47, sa_48, sa_49, sg_35_1, sg_46_1, sg_46_3, sg_46_4, sg_46_5, sg_46_6, sp_46_3, cI_0, cI_1, cI_m1, am_lk0, am_lk1, am_ld_some, am_isI_i, am_isJ_j, am_isR_r, am_st_eq, am_rmv_nil, am_rmv_t, am_rmv_i, am_rmv_r, sf_SH, sj_SH, sf_eq, sf_nk, sf_na, sf_sf, am_args_i, am_args_r, am_args_n, Nat.reduceAdd, List.cons_append, List.nil_append, Option.toList, List.drop_succ_cons, List.drop_zero, am_RP, am_CP, am_PH, Fin.isValue, Fin.val_zero, Fin.val_one, am_f2, am_f3, true_and, and_true, true_implies, false_implies, not_false_eq_true, ne_eq, nI_clampD, nI_leT, nI_leF, nI_ltT, nI_ltF, nI_eqT, nI_eqF, nI_lt0F, nI_0leT, nI_eq0T, nI_eq0F, nI_0ltT, nI_0ltF, nI_le0T, nI_le0F, nI_m1, nI_m1', m1_m1, m1_lt, m1_le, nI_mul, nI_add, nI_sub, nI_add1, nI_dec, nI_div, nI_mod, vp_inD, sf_nkD, sf_eqD, hW]
set_option maxRecDepth 100000 in
set_option maxHeartbeats 8000000 in
theorem c_X3_workOut0 (hS : SN L t fs I) (hLS : LSr fs cs I J) (s : Nat) (hs : MKs s I) (hs2 : s + 1000 < 2147483648) (hW : I 46 3 = nI 0) :
    am_Ctr g am_mt 1 (h + 6) 26 [.ref 46] (am_SH, I, J) 0 0 (fun r' M => r' = none ∧ ∃ I' s', M = (am_SH, I', J) ∧ FrWk I I' ∧ MWK fs cs I' ∧ MKs s' I' ∧ s' ≤ s + 720) := by
  have h720 := RLs_le (cs := cs) hS.2
  obtain ⟨JJ, hJJ⟩ : ∃ JJ : Nat → am_Cut, JJ = (fun zu zpc zl zst zM zk zn => (∃ (i : Nat) (I1 : Nat → Nat → Int32), zu = 10000 + ((RLs fs cs).length - i) ∧ (i ≤ (RLs fs cs).length) ∧ (FrWk I I1) ∧ (I1 46 3 = nI 1 ∧ MKs s I1) ∧ (∀ k, k < i → RowT 47 (3 * k) 3 (RLs fs cs).length (SRo fs cs k) I1 ∧ RowT 48 (3 * k) 3 (RLs fs cs).length (fun y => SRo fs cs y k) I1) ∧ (∀ j, 3 * i ≤ j → j < 2160 → I1 47 j = -1 ∧ I1 48 j = -1) ∧ (∀ x, x < 720 → I1 49 x = -1) ∧ zpc = 39 ∧ zl = [(0, .ref 46), (1, .int (nI i))] ∧ zst = [] ∧ zM = (am_SH, I1, J) ∧ zk = 0 ∧ zn = 0) ∨ (∃ (i s1 : Nat) (I1 : Nat → Nat → Int32), zu = (RLs fs cs).length - i ∧ (i ≤ (RLs fs cs).length ∧ s1 ≤ s + i) ∧ (FrWk I I1) ∧ (I1 46 3 = nI 1 ∧ MKs s1 I1) ∧ (∀ k, k < (RLs fs cs).length → RowT 47 (3 * k) 3 (RLs fs cs).length (SRo fs cs k) I1 ∧ RowT 48 (3 * k) 3 (RLs fs cs).length (fun y => SRo fs cs y k) I1) ∧ (∀ x, x < (RLs fs cs).length → ((∃ y, y < i ∧ EQo (RLs fs cs).length (SRo fs cs) x y) → (∃ m, I1 49 x = nI m ∧ CLS (RLs fs cs).length (SRo fs cs) x m) ∧ ∃ b, I1 50 x = bI b ∧ (b = true ↔ WKo (RLs fs cs).length (SRo fs cs) x)) ∧ (¬ (∃ y, y < i ∧ EQo (RLs fs cs).length (SRo fs cs) x y) → I1 49 x = -1)) ∧ zpc = 63 ∧ zl = [(0, .ref 46), (1, .int (nI i))] ∧ zst = [] ∧ zM = (am_SH, I1, J) ∧ zk = 0 ∧ zn = 0)) := ⟨_, rfl⟩
  have mk1 : ∀ (i : Nat) (I1 : Nat → Nat → Int32), (i ≤ (RLs fs cs).length) → (FrWk I I1) → (I1 46 3 = nI 1 ∧ MKs s I1) → (∀ k, k < i → RowT 47 (3 * k) 3 (RLs fs cs).length (SRo fs cs k) I1 ∧ RowT 48 (3 * k) 3 (RLs fs cs).length (fun y => SRo fs cs y k) I1) → (∀ j, 3 * i ≤ j → j < 2160 → I1 47 j = -1 ∧ I1 48 j = -1) → (∀ x, x < 720 → I1 49 x = -1) → JJ (10000 + ((RLs fs cs).length - i)) 39 [(0, .ref 46), (1, .int (nI i))] [] (am_SH, I1, J) 0 0 := by
    intro i I1 a0 a1 a2 a3 a4 a5
    rw [hJJ]
    exact Or.inl ⟨i, I1, rfl, a0, a1, a2, a3, a4, a5, rfl, rfl, rfl, rfl, rfl, rfl⟩
  have mk2 : ∀ (i s1 : Nat) (I1 : Nat → Nat → Int32), (i ≤ (RLs fs cs).length ∧ s1 ≤ s + i) → (FrWk I I1) → (I1 46 3 = nI 1 ∧ MKs s1 I1) → (∀ k, k < (RLs fs cs).length → RowT 47 (3 * k) 3 (RLs fs cs).length (SRo fs cs k) I1 ∧ RowT 48 (3 * k) 3 (RLs fs cs).length (fun y => SRo fs cs y k) I1) → (∀ x, x < (RLs fs cs).length → ((∃ y, y < i ∧ EQo (RLs fs cs).length (SRo fs cs) x y) → (∃ m, I1 49 x = nI m ∧ CLS (RLs fs cs).length (SRo fs cs) x m) ∧ ∃ b, I1 50 x = bI b ∧ (b = true ↔ WKo (RLs fs cs).length (SRo fs cs) x)) ∧ (¬ (∃ y, y < i ∧ EQo (RLs fs cs).length (SRo fs cs) x y) → I1 49 x = -1)) → JJ ((RLs fs cs).length - i) 63 [(0, .ref 46), (1, .int (nI i))] [] (am_SH, I1, J) 0 0 := by
    intro i s1 I1 a0 a1 a2 a3 a4
    rw [hJJ]
    exact Or.inr (⟨i, s1, I1, rfl, a0, a1, a2, a3, a4, rfl, rfl, rfl, rfl, rfl, rfl⟩)
  refine am_rule2 (q := qX3_workOut) (B := am_blk bX3_workOut) rfl rfl kX3_workOut nX3_workOut (Nat.le_of_ble_eq_true rfl) JJ (fun zu zpc zl zst zM zk zn hj => ?_) ?_
  rotate_left
  · refine ⟨60, ?_⟩
    simp (decide := true) (disch := (first | exact eq_false (by decide) | exact eq_true (by decide) | decide | omega)) only [lX3_workOut_0, lX3_workOut_8, bX3_workOut_0, bX3_workOut_8, (show qX3_workOut.2.2.2.1 = none from rfl), am_rok_none, w_aload_n, w_getfield, w_goto, w_iaload, w_icmp_ge, w_icmp_ne, w_iconst, w_if_eq, w_iinc, w_iload_n, w_istore_n, w_nop, w_puti, w_return, w_swap, sa_47, sa_48, sa_49, sg_35_1, sg_46_1, sg_46_3, sg_46_4, sg_46_5, sg_46_6, sp_46_3, cI_0, cI_1, cI_m1, am_lk0, am_lk1, am_ld_some, am_isI_i, am_isJ_j, am_isR_r, am_st_eq, am_rmv_nil, am_rmv_t, am_rmv_i, am_rmv_r, sf_SH, sj_SH, sf_eq, sf_nk, sf_na, sf_sf, am_args_i, am_args_r, am_args_n, Nat.reduceAdd, List.cons_append, List.nil_append, Option.toList, List.drop_succ_cons, List.drop_zero, am_RP, am_CP, am_PH, Fin.isValue, Fin.val_zero, Fin.val_one, am_f2, am_f3, true_and, and_true, true_implies, false_implies, not_false_eq_true, ne_eq, nI_clampD, nI_leT, nI_leF, nI_ltT, nI_ltF, nI_eqT, nI_eqF, nI_lt0F, nI_0leT, nI_eq0T, nI_eq0F, nI_0ltT, nI_0ltF, nI_le0T, nI_le0F, nI_m1, nI_m1', m1_m1, m1_lt, m1_le, nI_mul, nI_add, nI_sub, nI_add1, nI_dec, nI_div, nI_mod, vp_inD, sf_nkD, sf_eqD, hW]
    refine w_statE (c_fill g (h + 4) _ J 47 2160 (-1) (by decide) rfl (by decide)) (by decide) rfl rfl rfl (Nat.le_refl _) (Nat.le_refl _) ?_
    simp (decide := true) (disch := (first | exact eq_false (by decide) | exact eq_true (by decide) | decide | omega)) only [lX3_workOut_0, lX3_workOut_8, bX3_workOut_0, bX3_workOut_8, (show qX3_workOut.2.2.2.1 = none from rfl), am_rok_none, w_aload_n, w_getfield, w_goto, w_iaload, w_icmp_ge, w_icmp_ne, w_iconst, w_if_eq, w_iinc, w_iload_n, w_istore_n, w_nop, w_puti, w_return, w_swap, sa_47, sa_48, sa_49, sg_35_1, sg_46_1, sg_46_3, sg_46_4, sg_46_5, sg_46_6, sp_46_3, cI_0, cI_1, cI_m1, am_lk0, am_lk1, am_ld_some, am_isI_i, am_isJ_j, am_isR_r, am_st_eq, am_rmv_nil, am_rmv_t, am_rmv_i, am_rmv_r, sf_SH, sj_SH, sf_eq, sf_nk, sf_na, sf_sf, am_args_i, am_args_r, am_args_n, Nat.reduceAdd, List.cons_append, List.nil_append, Option.toList, List.drop_succ_cons, List.drop_zero, am_RP, am_CP, am_PH, Fin.isValue, Fin.val_zero, Fin.val_one, am_f2, am_f3, true_and, and_true, true_implies, false_implies, not_false_eq_true, ne_eq, nI_clampD, nI_leT, nI_leF, nI_ltT, nI_ltF, nI_eqT, nI_eqF, nI_lt0F, nI_0leT, nI_eq0T, nI_eq0F, nI_0ltT, nI_0ltF, nI_le0T, nI_le0F, nI_m1, nI_m1', m1_m1, m1_lt, m1_le, nI_mul, nI_add, nI_sub, nI_add1, nI_dec, nI_div, nI_mod, vp_inD, sf_nkD, sf_eqD]
    refine w_statE (c_fill g (h + 4) _ J 48 2160 (-1) (by decide) rfl (by decide)) (by decide) rfl rfl rfl (Nat.le_refl _) (Nat.le_refl _) ?_
    simp (decide := true) (disch := (first | exact eq_false (by decide) | exact eq_true (by decide) | decide | omega)) only [lX3_workOut_0, lX3_workOut_8, bX3_workOut_0, bX3_workOut_8, (show qX3_workOut.2.2.2.1 = none from rfl), am_rok_none, w_aload_n, w_getfield, w_goto, w_iaload, w_icmp_ge, w_icmp_ne, w_iconst, w_if_eq, w_iinc, w_iload_n, w_istore_n, w_nop, w_puti, w_return, w_swap, sa_47, sa_48, sa_49, sg_35_1, sg_46_1, sg_46_3, sg_46_4, sg_46_5, sg_46_6, sp_46_3, cI_0, cI_1, cI_m1, am_lk0, am_lk1, am_ld_some, am_isI_i, am_isJ_j, am_isR_r, am_st_eq, am_rmv_nil, am_rmv_t, am_rmv_i, am_rmv_r, sf_SH, sj_SH, sf_eq, sf_nk, sf_na, sf_sf, am_args_i, am_args_r, am_args_n, Nat.reduceAdd, List.cons_append, List.nil_append, Option.toList, List.drop_succ_cons, List.drop_zero, am_RP, am_CP, am_PH, Fin.isValue, Fin.val_zero, Fin.val_one, am_f2, am_f3, true_and, and_true, true_implies, false_implies, not_false_eq_true, ne_eq, nI_clampD, nI_leT, nI_leF, nI_ltT, nI_ltF, nI_eqT, nI_eqF, nI_lt0F, nI_0leT, nI_eq0T, nI_eq0F, nI_0ltT, nI_0ltF, nI_le0T, nI_le0F, nI_m1, nI_m1', m1_m1, m1_lt, m1_le, nI_mul, nI_add, nI_sub, nI_add1, nI_dec, nI_div, nI_mod, vp_inD, sf_nkD, sf_eqD]
    refine w_statE (c_fill g (h + 4) _ J 49 720 (-1) (by decide) rfl (by decide)) (by decide) rfl rfl rfl (Nat.le_refl _) (Nat.le_refl _) ?_
    simp (decide := true) (disch := (first | exact eq_false (by decide) | exact eq_true (by decide) | decide | omega)) only [lX3_workOut_0, lX3_workOut_8, lX3_workOut_39, lX3_workOut_61, lX3_workOut_63, lX3_workOut_89, lX3_workOut_95, bX3_workOut_0, bX3_workOut_8, bX3_workOut_39, bX3_workOut_61, bX3_workOut_63, bX3_workOut_89, bX3_workOut_95, (show qX3_workOut.2.2.2.1 = none from rfl), am_rok_none, w_aload_n, w_getfield, w_goto, w_iaload, w_icmp_ge, w_icmp_ne, w_iconst, w_if_eq, w_iinc, w_iload_n, w_istore_n, w_nop, w_puti, w_return, w_swap, sa_47, sa_48, sa_49, sg_35_1, sg_46_1, sg_46_3, sg_46_4, sg_46_5, sg_46_6, sp_46_3, cI_0, cI_1, cI_m1, am_lk0, am_lk1, am_ld_some, am_isI_i, am_isJ_j, am_isR_r, am_st_eq, am_rmv_nil, am_rmv_t, am_rmv_i, am_rmv_r, sf_SH, sj_SH, sf_eq, sf_nk, sf_na, sf_sf, am_args_i, am_args_r, am_args_n, Nat.reduceAdd, List.cons_append, List.nil_append, Option.toList, List.drop_succ_cons, List.drop_zero, am_RP, am_CP, am_PH, Fin.isValue, Fin.val_zero, Fin.val_one, am_f2, am_f3, true_and, and_true, true_implies, false_implies, not_false_eq_true, ne_eq, nI_clampD, nI_leT, nI_leF, nI_ltT, nI_ltF, nI_eqT, nI_eqF, nI_lt0F, nI_0leT, nI_eq0T, nI_eq0F, nI_0ltT, nI_0ltF, nI_le0T, nI_le0F, nI_m1, nI_m1', m1_m1, m1_lt, m1_le, nI_mul, nI_add, nI_sub, nI_add1, nI_dec, nI_div, nI_mod, vp_inD, sf_nkD, sf_eqD]
    have hna : ∀ c, c ≠ 46 → c ≠ 47 → c ≠ 48 → c ≠ 49 → fl (fl (fl (sf I 46 3 (nI 1)) 47 2160 (-1)) 48 2160 (-1)) 49 720 (-1) c = I c := fun c d1 d2 d3 d4 => by rw [fl_na d4, fl_na d3, fl_na d2, sf_naD d1]
    have h46 : ∀ k, fl (fl (fl (sf I 46 3 (nI 1)) 47 2160 (-1)) 48 2160 (-1)) 49 720 (-1) 46 k = sf I 46 3 (nI 1) 46 k := fun k => by rw [fl_na (by decide), fl_na (by decide), fl_na (by decide)]
    refine ⟨_, _, ?_, mk1 0 _ (Nat.zero_le _) (fun c d => hna c (by omega) (by omega) (by omega) (by omega)) ⟨by rw [h46, sf_eq], hs.fr (by rw [h46, sf_nkD (by decide)]) (hna 51 (by decide) (by decide) (by decide) (by decide)) (hna 52 (by decide) (by decide) (by decide) (by decide))⟩ (fun k hk => absurd hk (Nat.not_lt_zero _)) (fun j _ hj => ⟨by rw [fl_na (by decide), fl_na (by decide), fl_in hj], by rw [fl_na (by decide), fl_in hj]⟩) (fun x hx => fl_in hx)⟩
    · (simp (decide := true) only [am_has, am_lk0, am_lk1, and_self, true_and, and_true] <;> first | rfl | (refine ⟨?_, ?_⟩ <;> rfl) | (refine ⟨?_, ?_, ?_⟩ <;> rfl) | (refine ⟨?_, ?_, ?_, ?_⟩ <;> rfl))
  rw [hJJ] at hj
  clear hJJ
  rcases hj with ⟨i, I1, rfl, e1, e2, e3, e4, e5, e6, rfl, rfl, rfl, rfl, rfl, rfl⟩ | ⟨i, s1, I1, rfl, e1, e2, e3, e4, e5, rfl, rfl, rfl, rfl, rfl, rfl⟩
  · refine ⟨_, 60, rfl, rfl, ?_⟩
    obtain ⟨e3, e7⟩ := e3
    have hS1 : SN L t fs I1 := hS.fr (fun c _ _ => e2 c (by omega))
    have hLS1 : LSr fs cs I1 J := hLS.fr (by rw [e2 35 (by omega)]) rfl
    have k35 := hLS1.1
    by_cases hi : i = (RLs fs cs).length
    · simp (decide := true) (disch := (first | exact eq_false (by decide) | exact eq_true (by decide) | decide | omega)) only [lX3_workOut_0, lX3_workOut_8, lX3_workOut_39, lX3_workOut_61, lX3_workOut_63, lX3_workOut_89, lX3_workOut_95, bX3_workOut_0, bX3_workOut_8, bX3_workOut_39, bX3_workOut_61, bX3_workOut_63, bX3_workOut_89, bX3_workOut_95, (show qX3_workOut.2.2.2.1 = none from rfl), am_rok_none, w_aload_n, w_getfield, w_goto, w_iaload, w_icmp_ge, w_icmp_ne, w_iconst, w_if_eq, w_iinc, w_iload_n, w_istore_n, w_nop, w_puti, w_return, w_swap, sa_47, sa_48, sa_49, sg_35_1, sg_46_1, sg_46_3, sg_46_4, sg_46_5, sg_46_6, sp_46_3, cI_0, cI_1, cI_m1, am_lk0, am_lk1, am_ld_some, am_isI_i, am_isJ_j, am_isR_r, am_st_eq, am_rmv_nil, am_rmv_t, am_rmv_i, am_rmv_r, sf_SH, sj_SH, sf_eq, sf_nk, sf_na, sf_sf, am_args_i, am_args_r, am_args_n, Nat.reduceAdd, List.cons_append, List.nil_append, Option.toList, List.drop_succ_cons, List.drop_zero, am_RP, am_CP, am_PH, Fin.isValue, Fin.val_zero, Fin.val_one, am_f2, am_f3, true_and, and_true, true_implies, false_implies, not_false_eq_true, ne_eq, nI_clampD, nI_leT, nI_leF, nI_ltT, nI_ltF, nI_eqT, nI_eqF, nI_lt0F, nI_0leT, nI_eq0T, nI_eq0F, nI_0ltT, nI_0ltF, nI_le0T, nI_le0F, nI_m1, nI_m1', m1_m1, m1_lt, m1_le, nI_mul, nI_add, nI_sub, nI_add1, nI_dec, nI_div, nI_mod, vp_inD, sf_nkD, sf_eqD, k35]
      refine ⟨_, _, ?_, ?_, mk2 0 s I1 ⟨Nat.zero_le _, Nat.le_refl _⟩ e2 ⟨e3, e7⟩ (fun k hk => e4 k (by omega)) (fun x hx => ⟨fun ⟨y, hy, _⟩ => absurd hy (Nat.not_lt_zero _), fun _ => e6 x (by omega)⟩)⟩
      · omega
      · (simp (decide := true) only [am_has, am_lk0, am_lk1, and_self, true_and, and_true] <;> first | rfl | (refine ⟨?_, ?_⟩ <;> rfl) | (refine ⟨?_, ?_, ?_⟩ <;> rfl) | (refine ⟨?_, ?_, ?_, ?_⟩ <;> rfl))
    · obtain ⟨l, hO⟩ := RLs_ord (cs := cs) (show i < (RLs fs cs).length by omega)
      simp (decide := true) (disch := (first | exact eq_false (by decide) | exact eq_true (by decide) | decide | omega)) only [lX3_workOut_0, lX3_workOut_8, lX3_workOut_39, lX3_workOut_61, lX3_workOut_63, lX3_workOut_89, lX3_workOut_95, bX3_workOut_0, bX3_workOut_8, bX3_workOut_39, bX3_workOut_61, bX3_workOut_63, bX3_workOut_89, bX3_workOut_95, (show qX3_workOut.2.2.2.1 = none from rfl), am_rok_none, w_aload_n, w_getfield, w_goto, w_iaload, w_icmp_ge, w_icmp_ne, w_iconst, w_if_eq, w_iinc, w_iload_n, w_istore_n, w_nop, w_puti, w_return, w_swap, sa_47, sa_48, sa_49, sg_35_1, sg_46_1, sg_46_3, sg_46_4, sg_46_5, sg_46_6, sp_46_3, cI_0, cI_1, cI_m1, am_lk0, am_lk1, am_ld_some, am_isI_i, am_isJ_j, am_isR_r, am_st_eq, am_rmv_nil, am_rmv_t, am_rmv_i, am_rmv_r, sf_SH, sj_SH, sf_eq, sf_nk, sf_na, sf_sf, am_args_i, am_args_r, am_args_n, Nat.reduceAdd, List.cons_append, List.nil_append, Option.toList, List.drop_succ_cons, List.drop_zero, am_RP, am_CP, am_PH, Fin.isValue, Fin.val_zero, Fin.val_one, am_f2, am_f3, true_and, and_true, true_implies, false_implies, not_false_eq_true, ne_eq, nI_clampD, nI_leT, nI_leF, nI_ltT, nI_ltF, nI_eqT, nI_eqF, nI_lt0F, nI_0leT, nI_eq0T, nI_eq0F, nI_0ltT, nI_0ltF, nI_le0T, nI_le0F, nI_m1, nI_m1', m1_m1, m1_lt, m1_le, nI_mul, nI_add, nI_sub, nI_add1, nI_dec, nI_div, nI_mod, vp_inD, sf_nkD, sf_eqD, k35]
      refine w_virtP (c_X3_findSteps g h I1 J hS1 hLS1 i (by omega) hO (fun k hk => e5 (3 * i + k) (by omega) (by omega))) rfl rfl rfl (of_eq_true so_46) rfl (Nat.le_refl _) (Nat.le_refl _) ?_
      rintro R1 M1 ⟨rfl, I2, rfl, f1, f2, f3, f4⟩
      simp (decide := true) (disch := (first | exact eq_false (by decide) | exact eq_true (by decide) | decide | omega)) only [lX3_workOut_0, lX3_workOut_8, lX3_workOut_39, lX3_workOut_61, lX3_workOut_63, lX3_workOut_89, lX3_workOut_95, bX3_workOut_0, bX3_workOut_8, bX3_workOut_39, bX3_workOut_61, bX3_workOut_63, bX3_workOut_89, bX3_workOut_95, (show qX3_workOut.2.2.2.1 = none from rfl), am_rok_none, w_aload_n, w_getfield, w_goto, w_iaload, w_icmp_ge, w_icmp_ne, w_iconst, w_if_eq, w_iinc, w_iload_n, w_istore_n, w_nop, w_puti, w_return, w_swap, sa_47, sa_48, sa_49, sg_35_1, sg_46_1, sg_46_3, sg_46_4, sg_46_5, sg_46_6, sp_46_3, cI_0, cI_1, cI_m1, am_lk0, am_lk1, am_ld_some, am_isI_i, am_isJ_j, am_isR_r, am_st_eq, am_rmv_nil, am_rmv_t, am_rmv_i, am_rmv_r, sf_SH, sj_SH, sf_eq, sf_nk, sf_na, sf_sf, am_args_i, am_args_r, am_args_n, Nat.reduceAdd, List.cons_append, List.nil_append, Option.toList, List.drop_succ_cons, List.drop_zero, am_RP, am_CP, am_PH, Fin.isValue, Fin.val_zero, Fin.val_one, am_f2, am_f3, true_and, and_true, true_implies, false_implies, not_false_eq_true, ne_eq, nI_clampD, nI_leT, nI_leF, nI_ltT, nI_ltF, nI_eqT, nI_eqF, nI_lt0F, nI_0leT, nI_eq0T, nI_eq0F, nI_0ltT, nI_0ltF, nI_le0T, nI_le0F, nI_m1, nI_m1', m1_m1, m1_lt, m1_le, nI_mul, nI_add, nI_sub, nI_add1, nI_dec, nI_div, nI_mod, vp_inD, sf_nkD, sf_eqD]
      refine ⟨_, _, ?_, ?_, mk1 (i + 1) I2 (by omega) (fun c d => by rw [f1 c (by omega)]; exact e2 c d) ⟨by rw [f1 46 (by omega)]; exact e3, e7.fr (by rw [f1 46 (by omega)]) (f1 51 (by omega)) (f1 52 (by omega))⟩ (fun k hk => ?_) (fun j d1 d2 => ?_) (fun x hx => by rw [f1 49 (by omega)]; exact e6 x hx)⟩
      · omega
      · (simp (decide := true) only [am_has, am_lk0, am_lk1, and_self, true_and, and_true] <;> first | rfl | (refine ⟨?_, ?_⟩ <;> rfl) | (refine ⟨?_, ?_, ?_⟩ <;> rfl) | (refine ⟨?_, ?_, ?_, ?_⟩ <;> rfl))
      · by_cases hki : k = i
        · subst hki
          exact ⟨f3.cg (fun j _ => Tto_S hO j), f4.cg (fun j hj => Tfr_S hO hj)⟩
        · have := e4 k (by omega)
          exact ⟨this.1.fr (fun j hj => (f2 _ (by omega)).1), this.2.fr (fun j hj => (f2 _ (by omega)).2)⟩
      · rw [(f2 j (by omega)).1, (f2 j (by omega)).2]; exact e5 j (by omega) d2
  · refine ⟨_, 60, rfl, rfl, ?_⟩
    obtain ⟨e1, e6⟩ := e1
    obtain ⟨e3, e7⟩ := e3
    have k35 : I1 35 1 = nI (RLs fs cs).length := by rw [e2 35 (by omega)]; exact hLS.1
    by_cases hi : i = (RLs fs cs).length
    · simp (decide := true) (disch := (first | exact eq_false (by decide) | exact eq_true (by decide) | decide | omega)) only [lX3_workOut_0, lX3_workOut_8, lX3_workOut_39, lX3_workOut_61, lX3_workOut_63, lX3_workOut_89, lX3_workOut_95, bX3_workOut_0, bX3_workOut_8, bX3_workOut_39, bX3_workOut_61, bX3_workOut_63, bX3_workOut_89, bX3_workOut_95, (show qX3_workOut.2.2.2.1 = none from rfl), am_rok_none, w_aload_n, w_getfield, w_goto, w_iaload, w_icmp_ge, w_icmp_ne, w_iconst, w_if_eq, w_iinc, w_iload_n, w_istore_n, w_nop, w_puti, w_return, w_swap, sa_47, sa_48, sa_49, sg_35_1, sg_46_1, sg_46_3, sg_46_4, sg_46_5, sg_46_6, sp_46_3, cI_0, cI_1, cI_m1, am_lk0, am_lk1, am_ld_some, am_isI_i, am_isJ_j, am_isR_r, am_st_eq, am_rmv_nil, am_rmv_t, am_rmv_i, am_rmv_r, sf_SH, sj_SH, sf_eq, sf_nk, sf_na, sf_sf, am_args_i, am_args_r, am_args_n, Nat.reduceAdd, List.cons_append, List.nil_append, Option.toList, List.drop_succ_cons, List.drop_zero, am_RP, am_CP, am_PH, Fin.isValue, Fin.val_zero, Fin.val_one, am_f2, am_f3, true_and, and_true, true_implies, false_implies, not_false_eq_true, ne_eq, nI_clampD, nI_leT, nI_leF, nI_ltT, nI_ltF, nI_eqT, nI_eqF, nI_lt0F, nI_0leT, nI_eq0T, nI_eq0F, nI_0ltT, nI_0ltF, nI_le0T, nI_le0F, nI_m1, nI_m1', m1_m1, m1_lt, m1_le, nI_mul, nI_add, nI_sub, nI_add1, nI_dec, nI_div, nI_mod, vp_inD, sf_nkD, sf_eqD, k35]
      exact ⟨I1, s1, rfl, e2, ⟨e3, fun x hx => (e4 x hx).1, fun r hr => (e5 r hr).1 ⟨r, by omega, CLo.rf _ _ _, CLo.rf _ _ _⟩⟩, e7, by omega⟩
    · have hic : i < (RLs fs cs).length := by omega
      by_cases hex : ∃ y, y < i ∧ EQo (RLs fs cs).length (SRo fs cs) i y
      · obtain ⟨⟨m, hm1, hm2⟩, -⟩ := (e5 i hic).1 hex
        have hm3 := hm2.1
        simp (decide := true) (disch := (first | exact eq_false (by decide) | exact eq_true (by decide) | decide | omega)) only [lX3_workOut_0, lX3_workOut_8, lX3_workOut_39, lX3_workOut_61, lX3_workOut_63, lX3_workOut_89, lX3_workOut_95, bX3_workOut_0, bX3_workOut_8, bX3_workOut_39, bX3_workOut_61, bX3_workOut_63, bX3_workOut_89, bX3_workOut_95, (show qX3_workOut.2.2.2.1 = none from rfl), am_rok_none, w_aload_n, w_getfield, w_goto, w_iaload, w_icmp_ge, w_icmp_ne, w_iconst, w_if_eq, w_iinc, w_iload_n, w_istore_n, w_nop, w_puti, w_return, w_swap, sa_47, sa_48, sa_49, sg_35_1, sg_46_1, sg_46_3, sg_46_4, sg_46_5, sg_46_6, sp_46_3, cI_0, cI_1, cI_m1, am_lk0, am_lk1, am_ld_some, am_isI_i, am_isJ_j, am_isR_r, am_st_eq, am_rmv_nil, am_rmv_t, am_rmv_i, am_rmv_r, sf_SH, sj_SH, sf_eq, sf_nk, sf_na, sf_sf, am_args_i, am_args_r, am_args_n, Nat.reduceAdd, List.cons_append, List.nil_append, Option.toList, List.drop_succ_cons, List.drop_zero, am_RP, am_CP, am_PH, Fin.isValue, Fin.val_zero, Fin.val_one, am_f2, am_f3, true_and, and_true, true_implies, false_implies, not_false_eq_true, ne_eq, nI_clampD, nI_leT, nI_leF, nI_ltT, nI_ltF, nI_eqT, nI_eqF, nI_lt0F, nI_0leT, nI_eq0T, nI_eq0F, nI_0ltT, nI_0ltF, nI_le0T, nI_le0F, nI_m1, nI_m1', m1_m1, m1_lt, m1_le, nI_mul, nI_add, nI_sub, nI_add1, nI_dec, nI_div, nI_mod, vp_inD, sf_nkD, sf_eqD, k35, hm1]
        refine ⟨_, _, ?_, ?_, mk2 (i + 1) s1 I1 ⟨by omega, by omega⟩ e2 ⟨e3, e7⟩ e4 (fun x hx => ⟨fun ⟨y, hy, hE⟩ => (e5 x hx).1 ?_, fun h9 => (e5 x hx).2 (fun ⟨y, hy, hE⟩ => h9 ⟨y, Nat.lt_succ_of_lt hy, hE⟩)⟩)⟩
        · omega
        · (simp (decide := true) only [am_has, am_lk0, am_lk1, and_self, true_and, and_true] <;> first | rfl | (refine ⟨?_, ?_⟩ <;> rfl) | (refine ⟨?_, ?_, ?_⟩ <;> rfl) | (refine ⟨?_, ?_, ?_, ?_⟩ <;> rfl))
        by_cases hyi : y = i
        · obtain ⟨y', hy', hE'⟩ := hex
          exact ⟨y', hy', (hyi ▸ hE).tr hE'⟩
        · exact ⟨y, by omega, hE⟩
      · have hm1 := (e5 i hic).2 hex
        have e0 : (I1 49 i = -1) = True := eq_true hm1
        simp (decide := true) (disch := (first | exact eq_false (by decide) | exact eq_true (by decide) | decide | omega)) only [lX3_workOut_0, lX3_workOut_8, lX3_workOut_39, lX3_workOut_61, lX3_workOut_63, lX3_workOut_89, lX3_workOut_95, bX3_workOut_0, bX3_workOut_8, bX3_workOut_39, bX3_workOut_61, bX3_workOut_63, bX3_workOut_89, bX3_workOut_95, (show qX3_workOut.2.2.2.1 = none from rfl), am_rok_none, w_aload_n, w_getfield, w_goto, w_iaload, w_icmp_ge, w_icmp_ne, w_iconst, w_if_eq, w_iinc, w_iload_n, w_istore_n, w_nop, w_puti, w_return, w_swap, sa_47, sa_48, sa_49, sg_35_1, sg_46_1, sg_46_3, sg_46_4, sg_46_5, sg_46_6, sp_46_3, cI_0, cI_1, cI_m1, am_lk0, am_lk1, am_ld_some, am_isI_i, am_isJ_j, am_isR_r, am_st_eq, am_rmv_nil, am_rmv_t, am_rmv_i, am_rmv_r, sf_SH, sj_SH, sf_eq, sf_nk, sf_na, sf_sf, am_args_i, am_args_r, am_args_n, Nat.reduceAdd, List.cons_append, List.nil_append, Option.toList, List.drop_succ_cons, List.drop_zero, am_RP, am_CP, am_PH, Fin.isValue, Fin.val_zero, Fin.val_one, am_f2, am_f3, true_and, and_true, true_implies, false_implies, not_false_eq_true, ne_eq, nI_clampD, nI_leT, nI_leF, nI_ltT, nI_ltF, nI_eqT, nI_eqF, nI_lt0F, nI_0leT, nI_eq0T, nI_eq0F, nI_0ltT, nI_0ltF, nI_le0T, nI_le0F, nI_m1, nI_m1', m1_m1, m1_lt, m1_le, nI_mul, nI_add, nI_sub, nI_add1, nI_dec, nI_div, nI_mod, vp_inD, sf_nkD, sf_eqD, k35, e0]
        refine w_virtP (c_X3_formClass g (h + 3) I1 J (RLs fs cs).length s1 i (SRo fs cs) h720 hic (fun x hx => (e4 x hx).1) (fun x hx => (e4 x hx).2) e7 (by omega)) rfl rfl rfl (of_eq_true so_46) rfl (Nat.le_refl _) (Nat.le_refl _) ?_
        rintro R1 M1 ⟨rfl, I2, rfl, f1, f2, f3, f4, f5⟩
        simp (decide := true) (disch := (first | exact eq_false (by decide) | exact eq_true (by decide) | decide | omega)) only [lX3_workOut_0, lX3_workOut_8, lX3_workOut_39, lX3_workOut_61, lX3_workOut_63, lX3_workOut_89, lX3_workOut_95, bX3_workOut_0, bX3_workOut_8, bX3_workOut_39, bX3_workOut_61, bX3_workOut_63, bX3_workOut_89, bX3_workOut_95, (show qX3_workOut.2.2.2.1 = none from rfl), am_rok_none, w_aload_n, w_getfield, w_goto, w_iaload, w_icmp_ge, w_icmp_ne, w_iconst, w_if_eq, w_iinc, w_iload_n, w_istore_n, w_nop, w_puti, w_return, w_swap, sa_47, sa_48, sa_49, sg_35_1, sg_46_1, sg_46_3, sg_46_4, sg_46_5, sg_46_6, sp_46_3, cI_0, cI_1, cI_m1, am_lk0, am_lk1, am_ld_some, am_isI_i, am_isJ_j, am_isR_r, am_st_eq, am_rmv_nil, am_rmv_t, am_rmv_i, am_rmv_r, sf_SH, sj_SH, sf_eq, sf_nk, sf_na, sf_sf, am_args_i, am_args_r, am_args_n, Nat.reduceAdd, List.cons_append, List.nil_append, Option.toList, List.drop_succ_cons, List.drop_zero, am_RP, am_CP, am_PH, Fin.isValue, Fin.val_zero, Fin.val_one, am_f2, am_f3, true_and, and_true, true_implies, false_implies, not_false_eq_true, ne_eq, nI_clampD, nI_leT, nI_leF, nI_ltT, nI_ltF, nI_eqT, nI_eqF, nI_lt0F, nI_0leT, nI_eq0T, nI_eq0F, nI_0ltT, nI_0ltF, nI_le0T, nI_le0F, nI_m1, nI_m1', m1_m1, m1_lt, m1_le, nI_mul, nI_add, nI_sub, nI_add1, nI_dec, nI_div, nI_mod, vp_inD, sf_nkD, sf_eqD]
        refine ⟨_, _, ?_, ?_, mk2 (i + 1) (s1 + 1) I2 ⟨by omega, by omega⟩ (fun c d => by rw [f1 c (by omega)]; exact e2 c d) ⟨by rw [f2]; exact e3, f3⟩ (fun k hk => ⟨(e4 k hk).1.fr (fun j _ => by rw [f1 47 (by omega)]), (e4 k hk).2.fr (fun j _ => by rw [f1 48 (by omega)])⟩) (fun x hx => ?_)⟩
        · omega
        · (simp (decide := true) only [am_has, am_lk0, am_lk1, and_self, true_and, and_true] <;> first | rfl | (refine ⟨?_, ?_⟩ <;> rfl) | (refine ⟨?_, ?_, ?_⟩ <;> rfl) | (refine ⟨?_, ?_, ?_, ?_⟩ <;> rfl))
        by_cases hE : EQo (RLs fs cs).length (SRo fs cs) i x
        · obtain ⟨q1, b, q2, q3⟩ := f4 x hx hE
          refine ⟨fun _ => ⟨⟨i, q1, hic, hE.sy, fun o' ho' h9 => hex ⟨o', ho', hE.tr h9⟩⟩, b, q2, q3.trans ⟨fun h9 => h9.cg hE, fun h9 => h9.cg hE.sy⟩⟩, fun h9 => absurd ⟨i, Nat.lt_succ_self i, hE.sy⟩ h9⟩
        · obtain ⟨q1, q2⟩ := f5 x (Or.inr hE)
          rw [q1, q2]
          refine ⟨fun ⟨y, hy, hE'⟩ => (e5 x hx).1 ?_, fun h9 => (e5 x hx).2 (fun ⟨y, hy, hE'⟩ => h9 ⟨y, Nat.lt_succ_of_lt hy, hE'⟩)⟩
          by_cases hyi : y = i
          · exact absurd (hyi ▸ hE').sy hE
          · exact ⟨y, by omega, hE'⟩
end WK1
