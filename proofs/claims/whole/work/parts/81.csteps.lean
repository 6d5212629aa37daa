/-! the class' rows of steps -/
def FrN (I I' : Nat → Nat → Int32) : Prop := ∀ c, c < 40 ∨ 48 < c ∨ c = 46 → I' c = I c
/-- what a row of the class says: steps from a reading -/
def Tto (fs : List Fg) (cs : List (Nat × Nat)) (o : List Nat) (m j : Nat) : Prop := ∃ q r pq, q < m ∧ EVk fs q ∧ EVk fs r ∧ SwR fs o q r ((RLs fs cs).getD j []) pq ∧ cnd (kF (nF fs q)) (kF (nF fs r)) (po (kdF fs) pq)
def Tfr (fs : List Fg) (cs : List (Nat × Nat)) (o : List Nat) (m j : Nat) : Prop := ∃ q r pq, q < m ∧ EVk fs q ∧ EVk fs r ∧ SwR fs o q r ((RLs fs cs).getD j []) pq ∧ cnd (kF (nF fs r)) (kF (nF fs q)) (po (kdF fs) pq)
section CS1
variable (g : am_G) (h : Nat) (I : Nat → Nat → Int32) (J : Nat → Nat → Int64) {L : Nat → Nat} {t : Nat} {fs : List Fg} {cs : List (Nat × Nat)} {o o' : List Nat} {l : List (Nat × List Nat)}
set_option maxRecDepth 100000 in
set_option maxHeartbeats 400000 in
theorem c_X3_isEveryOrSome (f k : Nat) (hf : f < 11) (hk : I 4 f = nI k) (h5 : k < 6) :
    am_Ctr g am_mt 1 (h + 1) 28 [.ref 46, .int (nI f)] (am_SH, I, J) 0 0 (fun r M => r = some (.int (bI (decide (k = 1 ∨ k = 2)))) ∧ M = (am_SH, I, J)) := by
  refine am_rule0 (q := qX3_isEveryOrSome) (B := am_blk bX3_isEveryOrSome) 30 rfl rfl kX3_isEveryOrSome nX3_isEveryOrSome (Nat.le_of_ble_eq_true rfl) ?_
  have hk6 : k = 0 ∨ k = 1 ∨ k = 2 ∨ k = 3 ∨ k = 4 ∨ k = 5 := by omega
  rcases hk6 with rfl | rfl | rfl | rfl | rfl | rfl <;> (simp (decide := true) (disch := (first | exact eq_false (by decide) | exact eq_true (by decide) | decide | omega)) only [lX3_isEveryOrSome_0, lX3_isEveryOrSome_26, lX3_isEveryOrSome_30, lX3_isEveryOrSome_31, bX3_isEveryOrSome_0, bX3_isEveryOrSome_26, bX3_isEveryOrSome_30, bX3_isEveryOrSome_31, (show qX3_isEveryOrSome.2.2.2.1 = (some .boolean) from rfl), am_rok_bool, w_aload_n, w_getfield, w_goto, w_iaload, w_icmp_eq, w_icmp_ne, w_iconst, w_iload_n, w_ireturn, w_swap, sa_17, sa_4, sg_15_2, sg_2_2, sg_46_0, cI_0, cI_1, cI_2, am_lk0, am_lk1, am_ld_some, am_isI_i, am_isJ_j, am_isR_r, am_st_eq, am_rmv_nil, am_rmv_t, am_rmv_i, am_rmv_r, sf_SH, sj_SH, sf_eq, sf_nk, sf_na, sf_sf, am_args_i, am_args_r, am_args_n, Nat.reduceAdd, List.cons_append, List.nil_append, Option.toList, List.drop_succ_cons, List.drop_zero, am_RP, am_CP, am_PH, Fin.isValue, Fin.val_zero, Fin.val_one, am_f2, am_f3, true_and, and_true, true_implies, false_implies, not_false_eq_true, ne_eq, nI_clampD, nI_leT, nI_leF, nI_ltT, nI_ltF, nI_eqT, nI_eqF, nI_lt0F, nI_0leT, nI_eq0T, nI_eq0F, nI_0ltT, nI_0ltF, nI_le0T, nI_le0F, nI_m1, nI_m1', m1_m1, m1_lt, m1_le, nI_mul, nI_add, nI_sub, nI_add1, nI_dec, nI_div, nI_mod, vp_inD, sf_nkD, sf_eqD, hk, nI0_01, nI1_01] <;> rfl)
set_option maxRecDepth 100000 in
set_option maxHeartbeats 400000 in
theorem c_X3_isStrongOnTop (k : Nat) (s : Int32) (b : Bool) (h5 : k = 1 ∨ k = 2) (hb : b = true ↔ ((s = nI 1 ∧ k = 2) ∨ (s = -1 ∧ k = 1))) :
    am_Ctr g am_mt 1 (h + 1) 30 [.int (nI k), .int s] (am_SH, I, J) 0 0 (fun r M => r = some (.int (bI b)) ∧ M = (am_SH, I, J)) := by
  refine am_rule0 (q := qX3_isStrongOnTop) (B := am_blk bX3_isStrongOnTop) 30 rfl rfl kX3_isStrongOnTop nX3_isStrongOnTop (Nat.le_of_ble_eq_true rfl) ?_
  have hne : (nI 1 = -1) = False := nI_m1 (by omega)
  by_cases h1 : s = nI 1
  · subst h1
    rcases h5 with rfl | rfl
    · have hbf : b = false := by
        cases b with
        | false => rfl
        | true =>
          exfalso
          rcases hb.mp rfl with h9 | h9
          · exact absurd h9.2 (by decide)
          · exact of_eq_false hne h9.1
      simp (decide := true) (disch := (first | exact eq_false (by decide) | exact eq_true (by decide) | decide | omega)) only [lX3_isStrongOnTop_0, lX3_isStrongOnTop_10, lX3_isStrongOnTop_20, lX3_isStrongOnTop_24, lX3_isStrongOnTop_25, bX3_isStrongOnTop_0, bX3_isStrongOnTop_10, bX3_isStrongOnTop_20, bX3_isStrongOnTop_24, bX3_isStrongOnTop_25, (show qX3_isStrongOnTop.2.2.2.1 = (some .boolean) from rfl), am_rok_bool, w_goto, w_icmp_eq, w_icmp_ne, w_iconst, w_iload_n, w_ireturn, w_swap, cI_0, cI_1, cI_2, cI_m1, am_lk0, am_lk1, am_ld_some, am_isI_i, am_isJ_j, am_isR_r, am_st_eq, am_rmv_nil, am_rmv_t, am_rmv_i, am_rmv_r, sf_SH, sj_SH, sf_eq, sf_nk, sf_na, sf_sf, am_args_i, am_args_r, am_args_n, Nat.reduceAdd, List.cons_append, List.nil_append, Option.toList, List.drop_succ_cons, List.drop_zero, am_RP, am_CP, am_PH, Fin.isValue, Fin.val_zero, Fin.val_one, am_f2, am_f3, true_and, and_true, true_implies, false_implies, not_false_eq_true, ne_eq, nI_clampD, nI_leT, nI_leF, nI_ltT, nI_ltF, nI_eqT, nI_eqF, nI_lt0F, nI_0leT, nI_eq0T, nI_eq0F, nI_0ltT, nI_0ltF, nI_le0T, nI_le0F, nI_m1, nI_m1', m1_m1, m1_lt, m1_le, nI_mul, nI_add, nI_sub, nI_add1, nI_dec, nI_div, nI_mod, vp_inD, sf_nkD, sf_eqD, hbf, hne, bI_f, nI0_01]
    · have hbt : b = true := hb.mpr (Or.inl ⟨rfl, rfl⟩)
      simp (decide := true) (disch := (first | exact eq_false (by decide) | exact eq_true (by decide) | decide | omega)) only [lX3_isStrongOnTop_0, lX3_isStrongOnTop_10, lX3_isStrongOnTop_20, lX3_isStrongOnTop_24, lX3_isStrongOnTop_25, bX3_isStrongOnTop_0, bX3_isStrongOnTop_10, bX3_isStrongOnTop_20, bX3_isStrongOnTop_24, bX3_isStrongOnTop_25, (show qX3_isStrongOnTop.2.2.2.1 = (some .boolean) from rfl), am_rok_bool, w_goto, w_icmp_eq, w_icmp_ne, w_iconst, w_iload_n, w_ireturn, w_swap, cI_0, cI_1, cI_2, cI_m1, am_lk0, am_lk1, am_ld_some, am_isI_i, am_isJ_j, am_isR_r, am_st_eq, am_rmv_nil, am_rmv_t, am_rmv_i, am_rmv_r, sf_SH, sj_SH, sf_eq, sf_nk, sf_na, sf_sf, am_args_i, am_args_r, am_args_n, Nat.reduceAdd, List.cons_append, List.nil_append, Option.toList, List.drop_succ_cons, List.drop_zero, am_RP, am_CP, am_PH, Fin.isValue, Fin.val_zero, Fin.val_one, am_f2, am_f3, true_and, and_true, true_implies, false_implies, not_false_eq_true, ne_eq, nI_clampD, nI_leT, nI_leF, nI_ltT, nI_ltF, nI_eqT, nI_eqF, nI_lt0F, nI_0leT, nI_eq0T, nI_eq0F, nI_0ltT, nI_0ltF, nI_le0T, nI_le0F, nI_m1, nI_m1', m1_m1, m1_lt, m1_le, nI_mul, nI_add, nI_sub, nI_add1, nI_dec, nI_div, nI_mod, vp_inD, sf_nkD, sf_eqD, hbt, hne, bI_t, nI1_01]
  · by_cases h2 : s = -1
    · rcases h5 with rfl | rfl
      · have hbt : b = true := hb.mpr (Or.inr ⟨h2, rfl⟩)
        simp (decide := true) (disch := (first | exact eq_false (by decide) | exact eq_true (by decide) | decide | omega)) only [lX3_isStrongOnTop_0, lX3_isStrongOnTop_10, lX3_isStrongOnTop_20, lX3_isStrongOnTop_24, lX3_isStrongOnTop_25, bX3_isStrongOnTop_0, bX3_isStrongOnTop_10, bX3_isStrongOnTop_20, bX3_isStrongOnTop_24, bX3_isStrongOnTop_25, (show qX3_isStrongOnTop.2.2.2.1 = (some .boolean) from rfl), am_rok_bool, w_goto, w_icmp_eq, w_icmp_ne, w_iconst, w_iload_n, w_ireturn, w_swap, cI_0, cI_1, cI_2, cI_m1, am_lk0, am_lk1, am_ld_some, am_isI_i, am_isJ_j, am_isR_r, am_st_eq, am_rmv_nil, am_rmv_t, am_rmv_i, am_rmv_r, sf_SH, sj_SH, sf_eq, sf_nk, sf_na, sf_sf, am_args_i, am_args_r, am_args_n, Nat.reduceAdd, List.cons_append, List.nil_append, Option.toList, List.drop_succ_cons, List.drop_zero, am_RP, am_CP, am_PH, Fin.isValue, Fin.val_zero, Fin.val_one, am_f2, am_f3, true_and, and_true, true_implies, false_implies, not_false_eq_true, ne_eq, nI_clampD, nI_leT, nI_leF, nI_ltT, nI_ltF, nI_eqT, nI_eqF, nI_lt0F, nI_0leT, nI_eq0T, nI_eq0F, nI_0ltT, nI_0ltF, nI_le0T, nI_le0F, nI_m1, nI_m1', m1_m1, m1_lt, m1_le, nI_mul, nI_add, nI_sub, nI_add1, nI_dec, nI_div, nI_mod, vp_inD, sf_nkD, sf_eqD, hbt, h1, h2, bI_t, nI1_01]
      · have hbf : b = false := by
          cases b with
          | false => rfl
          | true =>
            exfalso
            rcases hb.mp rfl with h9 | h9
            · exact h1 h9.1
            · exact absurd h9.2 (by decide)
        simp (decide := true) (disch := (first | exact eq_false (by decide) | exact eq_true (by decide) | decide | omega)) only [lX3_isStrongOnTop_0, lX3_isStrongOnTop_10, lX3_isStrongOnTop_20, lX3_isStrongOnTop_24, lX3_isStrongOnTop_25, bX3_isStrongOnTop_0, bX3_isStrongOnTop_10, bX3_isStrongOnTop_20, bX3_isStrongOnTop_24, bX3_isStrongOnTop_25, (show qX3_isStrongOnTop.2.2.2.1 = (some .boolean) from rfl), am_rok_bool, w_goto, w_icmp_eq, w_icmp_ne, w_iconst, w_iload_n, w_ireturn, w_swap, cI_0, cI_1, cI_2, cI_m1, am_lk0, am_lk1, am_ld_some, am_isI_i, am_isJ_j, am_isR_r, am_st_eq, am_rmv_nil, am_rmv_t, am_rmv_i, am_rmv_r, sf_SH, sj_SH, sf_eq, sf_nk, sf_na, sf_sf, am_args_i, am_args_r, am_args_n, Nat.reduceAdd, List.cons_append, List.nil_append, Option.toList, List.drop_succ_cons, List.drop_zero, am_RP, am_CP, am_PH, Fin.isValue, Fin.val_zero, Fin.val_one, am_f2, am_f3, true_and, and_true, true_implies, false_implies, not_false_eq_true, ne_eq, nI_clampD, nI_leT, nI_leF, nI_ltT, nI_ltF, nI_eqT, nI_eqF, nI_lt0F, nI_0leT, nI_eq0T, nI_eq0F, nI_0ltT, nI_0ltF, nI_le0T, nI_le0F, nI_m1, nI_m1', m1_m1, m1_lt, m1_le, nI_mul, nI_add, nI_sub, nI_add1, nI_dec, nI_div, nI_mod, vp_inD, sf_nkD, sf_eqD, hbf, h1, h2, bI_f, nI0_01]
    · have hbf : b = false := by
        cases b with
        | false => rfl
        | true =>
          exfalso
          rcases hb.mp rfl with h9 | h9
          · exact h1 h9.1
          · exact h2 h9.1
      rcases h5 with rfl | rfl
      · simp (decide := true) (disch := (first | exact eq_false (by decide) | exact eq_true (by decide) | decide | omega)) only [lX3_isStrongOnTop_0, lX3_isStrongOnTop_10, lX3_isStrongOnTop_20, lX3_isStrongOnTop_24, lX3_isStrongOnTop_25, bX3_isStrongOnTop_0, bX3_isStrongOnTop_10, bX3_isStrongOnTop_20, bX3_isStrongOnTop_24, bX3_isStrongOnTop_25, (show qX3_isStrongOnTop.2.2.2.1 = (some .boolean) from rfl), am_rok_bool, w_goto, w_icmp_eq, w_icmp_ne, w_iconst, w_iload_n, w_ireturn, w_swap, cI_0, cI_1, cI_2, cI_m1, am_lk0, am_lk1, am_ld_some, am_isI_i, am_isJ_j, am_isR_r, am_st_eq, am_rmv_nil, am_rmv_t, am_rmv_i, am_rmv_r, sf_SH, sj_SH, sf_eq, sf_nk, sf_na, sf_sf, am_args_i, am_args_r, am_args_n, Nat.reduceAdd, List.cons_append, List.nil_append, Option.toList, List.drop_succ_cons, List.drop_zero, am_RP, am_CP, am_PH, Fin.isValue, Fin.val_zero, Fin.val_one, am_f2, am_f3, true_and, and_true, true_implies, false_implies, not_false_eq_true, ne_eq, nI_clampD, nI_leT, nI_leF, nI_ltT, nI_ltF, nI_eqT, nI_eqF, nI_lt0F, nI_0leT, nI_eq0T, nI_eq0F, nI_0ltT, nI_0ltF, nI_le0T, nI_le0F, nI_m1, nI_m1', m1_m1, m1_lt, m1_le, nI_mul, nI_add, nI_sub, nI_add1, nI_dec, nI_div, nI_mod, vp_inD, sf_nkD, sf_eqD, hbf, h1, h2, bI_f, nI0_01]
      · simp (decide := true) (disch := (first | exact eq_false (by decide) | exact eq_true (by decide) | decide | omega)) only [lX3_isStrongOnTop_0, lX3_isStrongOnTop_10, lX3_isStrongOnTop_20, lX3_isStrongOnTop_24, lX3_isStrongOnTop_25, bX3_isStrongOnTop_0, bX3_isStrongOnTop_10, bX3_isStrongOnTop_20, bX3_isStrongOnTop_24, bX3_isStrongOnTop_25, (show qX3_isStrongOnTop.2.2.2.1 = (some .boolean) from rfl), am_rok_bool, w_goto, w_icmp_eq, w_icmp_ne, w_iconst, w_iload_n, w_ireturn, w_swap, cI_0, cI_1, cI_2, cI_m1, am_lk0, am_lk1, am_ld_some, am_isI_i, am_isJ_j, am_isR_r, am_st_eq, am_rmv_nil, am_rmv_t, am_rmv_i, am_rmv_r, sf_SH, sj_SH, sf_eq, sf_nk, sf_na, sf_sf, am_args_i, am_args_r, am_args_n, Nat.reduceAdd, List.cons_append, List.nil_append, Option.toList, List.drop_succ_cons, List.drop_zero, am_RP, am_CP, am_PH, Fin.isValue, Fin.val_zero, Fin.val_one, am_f2, am_f3, true_and, and_true, true_implies, false_implies, not_false_eq_true, ne_eq, nI_clampD, nI_leT, nI_leF, nI_ltT, nI_ltF, nI_eqT, nI_eqF, nI_lt0F, nI_0leT, nI_eq0T, nI_eq0F, nI_0ltT, nI_0ltF, nI_le0T, nI_le0F, nI_m1, nI_m1', m1_m1, m1_lt, m1_le, nI_mul, nI_add, nI_sub, nI_add1, nI_dec, nI_div, nI_mod, vp_inD, sf_nkD, sf_eqD, hbf, h1, h2, bI_f, nI0_01]
set_option maxRecDepth 100000 in
set_option maxHeartbeats 8000000 in
theorem c_X3_noteSwap (hS : SN L t fs I) (hLS : LSr fs cs I J) (hO : Ordr fs o l) (hY : LYk (kdF fs) o l fs.length I) (q r a0 : Nat) (pq : List Nat) (hq : EVk fs q) (hr : EVk fs r) (hsw : SwR fs o q r o' pq) (ha0 : a0 < 2160) :
    am_Ctr g am_mt 1 (h + 4) 29 [.ref 46, .int (nI a0), .int (nI q), .int (nI r)] (am_SH, I, J) 0 0 (fun r' M => r' = none ∧ ∃ w I', M = (am_SH, I', J) ∧ (∀ c, c ≠ 47 → c ≠ 48 → I' c = I c) ∧ ((w = 0 ∧ ∀ j, j < (RLs fs cs).length → (RLs fs cs).getD j [] ≠ o') ∨ (0 < w ∧ w - 1 < (RLs fs cs).length ∧ (RLs fs cs).getD (w - 1) [] = o')) ∧ (∀ j, j ≠ a0 → I' 47 j = I 47 j ∧ I' 48 j = I 48 j) ∧ (cnd (kF (nF fs q)) (kF (nF fs r)) (po (kdF fs) pq) → I' 47 a0 = wI w) ∧ (¬ cnd (kF (nF fs q)) (kF (nF fs r)) (po (kdF fs) pq) → I' 47 a0 = I 47 a0) ∧ (cnd (kF (nF fs r)) (kF (nF fs q)) (po (kdF fs) pq) → I' 48 a0 = wI w) ∧ (¬ cnd (kF (nF fs r)) (kF (nF fs q)) (po (kdF fs) pq) → I' 48 a0 = I 48 a0)) := by
  have hn := hS.2.le
  have hol : o.length = fs.length := hO.2.2.1
  have h21 : I 2 1 = nI o.length := by rw [hol]; exact hS.1.1
  have h720 := RLs_le (cs := cs) hS.2
  have hO0 := hO
  obtain ⟨l', hO', -, -, -, -⟩ := SwR_ord hO hq hr hsw
  obtain ⟨a, b, c, c0, s1, s2, s3, s4, s5, s6, s7, s8⟩ := swO_eq hO hsw
  obtain ⟨l0, A, B, C, D, cc, t1, t2, t3, t4, t5, t6⟩ := hsw
  rw [hO.1] at t1
  have t1 := Option.some.inj t1
  subst t1
  have hqn := hO.mem t2
  have hrn := hO.mem t3
  have hc0n := hO.mem s7
  have hY1 := fun k (hk : k < fs.length) => hY.1 k hk
  have y1 : I 41 q = nI a := by have := (hY1 a (by omega)).2; rw [s1] at this; exact this
  have y2 : I 41 r = nI b := by have := (hY1 b (by omega)).2; rw [s2] at this; exact this
  have y3 : I 41 c0 = nI c := by have := (hY1 c (by omega)).2; rw [s3] at this; exact this
  have htk : l.take fs.length = l := List.take_of_length_le (by have := congrArg List.length (rrun_fst _ _ _ _ hO.1); rw [List.length_map] at this; omega)
  have y4 : I 44 (2 * r + 1) = nI c0 := hY.2.2 c0 _ _ (by rw [htk]; exact s7)
  have y5 : I 43 q = po (kdF fs) pq := (hY.2.1 (q, pq) (by rw [htk]; exact t2)).2
  have kq := hS.1.2.2.1 q hqn
  have kr := hS.1.2.2.1 r hrn
  have kq6 := hS.2.k6 hqn
  have kr6 := hS.2.k6 hrn
  have h16 : ∀ {k}, k < (RLs fs cs).length → (∀ f ∈ (RLs fs cs).getD k [], f < 16) ∧ ((RLs fs cs).getD k []).length = fs.length := fun {k} hk => by
    obtain ⟨lk, hk1⟩ := RLs_ord hk
    exact ⟨fun f hf => by have := hk1.2.2.2 f hf; omega, hk1.2.2.1⟩
  have h16' : ∀ f ∈ o', f < 16 := fun f hf => by have := hO'.2.2.2 f hf; omega
  have hcd : cd (Int64.ofNat 0) (swO o a b c) = Int64.ofNat (n16 0 o') := by rw [s8]; exact cd_0 h16' (by rw [hO'.2.2.1]; exact hn)
  have hv := n16_lt' h16' (by rw [hO'.2.2.1]; exact hn)
  have hosw := c_X2_orderAfterSwap g h I J o q r c0 a b c (fun k hk => (hY1 k (by omega)).1) h21 (by omega) (by omega) (by omega) (by omega) y1 y2 y4 y3 (by omega) (by omega) (by omega)
  rw [hcd] at hosw
  refine am_rule0 (q := qX3_noteSwap) (B := am_blk bX3_noteSwap) 90 rfl rfl kX3_noteSwap nX3_noteSwap (Nat.le_of_ble_eq_true rfl) ?_
  simp (decide := true) (disch := (first | exact eq_false (by decide) | exact eq_true (by decide) | decide | omega)) only [lX3_noteSwap_0, lX3_noteSwap_68, lX3_noteSwap_76, lX3_noteSwap_93, lX3_noteSwap_101, bX3_noteSwap_0, bX3_noteSwap_68, bX3_noteSwap_76, bX3_noteSwap_93, bX3_noteSwap_101, (show qX3_noteSwap.2.2.2.1 = none from rfl), am_rok_none, w_aload_n, w_getfield, w_iaload, w_iastore, w_icmp_eq, w_if_eq, w_iload, w_iload_n, w_istore, w_return, w_swap, sa_17, sa_4, sa_43, sa_47, sa_48, sg_15_2, sg_2_2, sg_39_4, sg_46_0, sg_46_1, sg_46_2, sg_46_4, sg_46_5, am_lk0, am_lk1, am_ld_some, am_isI_i, am_isJ_j, am_isR_r, am_st_eq, am_rmv_nil, am_rmv_t, am_rmv_i, am_rmv_r, sf_SH, sj_SH, sf_eq, sf_nk, sf_na, sf_sf, am_args_i, am_args_r, am_args_n, Nat.reduceAdd, List.cons_append, List.nil_append, Option.toList, List.drop_succ_cons, List.drop_zero, am_RP, am_CP, am_PH, Fin.isValue, Fin.val_zero, Fin.val_one, am_f2, am_f3, true_and, and_true, true_implies, false_implies, not_false_eq_true, ne_eq, nI_clampD, nI_leT, nI_leF, nI_ltT, nI_ltF, nI_eqT, nI_eqF, nI_lt0F, nI_0leT, nI_eq0T, nI_eq0F, nI_0ltT, nI_0ltF, nI_le0T, nI_le0F, nI_m1, nI_m1', m1_m1, m1_lt, m1_le, nI_mul, nI_add, nI_sub, nI_add1, nI_dec, nI_div, nI_mod, vp_inD, sf_nkD, sf_eqD]
  refine w_virtE (hosw) rfl rfl rfl (of_eq_true so_39) rfl (Nat.le_refl _) (Nat.le_refl _) ?_
  simp (decide := true) (disch := (first | exact eq_false (by decide) | exact eq_true (by decide) | decide | omega)) only [lX3_noteSwap_0, lX3_noteSwap_68, lX3_noteSwap_76, lX3_noteSwap_93, lX3_noteSwap_101, bX3_noteSwap_0, bX3_noteSwap_68, bX3_noteSwap_76, bX3_noteSwap_93, bX3_noteSwap_101, (show qX3_noteSwap.2.2.2.1 = none from rfl), am_rok_none, w_aload_n, w_getfield, w_iaload, w_iastore, w_icmp_eq, w_if_eq, w_iload, w_iload_n, w_istore, w_return, w_swap, sa_17, sa_4, sa_43, sa_47, sa_48, sg_15_2, sg_2_2, sg_39_4, sg_46_0, sg_46_1, sg_46_2, sg_46_4, sg_46_5, am_lk0, am_lk1, am_ld_some, am_isI_i, am_isJ_j, am_isR_r, am_st_eq, am_rmv_nil, am_rmv_t, am_rmv_i, am_rmv_r, sf_SH, sj_SH, sf_eq, sf_nk, sf_na, sf_sf, am_args_i, am_args_r, am_args_n, Nat.reduceAdd, List.cons_append, List.nil_append, Option.toList, List.drop_succ_cons, List.drop_zero, am_RP, am_CP, am_PH, Fin.isValue, Fin.val_zero, Fin.val_one, am_f2, am_f3, true_and, and_true, true_implies, false_implies, not_false_eq_true, ne_eq, nI_clampD, nI_leT, nI_leF, nI_ltT, nI_ltF, nI_eqT, nI_eqF, nI_lt0F, nI_0leT, nI_eq0T, nI_eq0F, nI_0ltT, nI_0ltF, nI_le0T, nI_le0F, nI_m1, nI_m1', m1_m1, m1_lt, m1_le, nI_mul, nI_add, nI_sub, nI_add1, nI_dec, nI_div, nI_mod, vp_inD, sf_nkD, sf_eqD]
  refine w_virtP (c_X6_find g (h + 2) I J (RLs fs cs).length (n16 0 o') (fun i => n16 0 ((RLs fs cs).getD i [])) h720 hLS.1 (fun i hi => by rw [hLS.2 i hi]; exact cd_0 (h16 hi).1 (by rw [(h16 hi).2]; exact hn)) (fun i hi => by have := n16_lt' (h16 hi).1 (by rw [(h16 hi).2]; exact hn); omega) (by omega) (fun i j hij hj => RLs_lt hn hij hj)) rfl rfl rfl (of_eq_true so_35) rfl (Nat.le_refl _) (Nat.le_refl _) ?_
  rintro R1 M1 ⟨w, rfl, hw, rfl⟩
  have hw' : (w = 0 ∧ ∀ j, j < (RLs fs cs).length → (RLs fs cs).getD j [] ≠ o') ∨ (0 < w ∧ w - 1 < (RLs fs cs).length ∧ (RLs fs cs).getD (w - 1) [] = o') := by
    rcases hw with ⟨hw, h9⟩ | ⟨hw, h8, h9⟩
    · exact Or.inl ⟨hw, fun j hj h7 => h9 j hj (by show n16 0 _ = _; rw [h7])⟩
    · exact Or.inr ⟨hw, h8, n16_inj 0 (by rw [(h16 h8).2, hO'.2.2.1]) (h16 h8).1 h16' h9⟩
  clear hw
  simp (decide := true) (disch := (first | exact eq_false (by decide) | exact eq_true (by decide) | decide | omega)) only [lX3_noteSwap_0, lX3_noteSwap_68, lX3_noteSwap_76, lX3_noteSwap_93, lX3_noteSwap_101, bX3_noteSwap_0, bX3_noteSwap_68, bX3_noteSwap_76, bX3_noteSwap_93, bX3_noteSwap_101, (show qX3_noteSwap.2.2.2.1 = none from rfl), am_rok_none, w_aload_n, w_getfield, w_iaload, w_iastore, w_icmp_eq, w_if_eq, w_iload, w_iload_n, w_istore, w_return, w_swap, sa_17, sa_4, sa_43, sa_47, sa_48, sg_15_2, sg_2_2, sg_39_4, sg_46_0, sg_46_1, sg_46_2, sg_46_4, sg_46_5, am_lk0, am_lk1, am_ld_some, am_isI_i, am_isJ_j, am_isR_r, am_st_eq, am_rmv_nil, am_rmv_t, am_rmv_i, am_rmv_r, sf_SH, sj_SH, sf_eq, sf_nk, sf_na, sf_sf, am_args_i, am_args_r, am_args_n, Nat.reduceAdd, List.cons_append, List.nil_append, Option.toList, List.drop_succ_cons, List.drop_zero, am_RP, am_CP, am_PH, Fin.isValue, Fin.val_zero, Fin.val_one, am_f2, am_f3, true_and, and_true, true_implies, false_implies, not_false_eq_true, ne_eq, nI_clampD, nI_leT, nI_leF, nI_ltT, nI_ltF, nI_eqT, nI_eqF, nI_lt0F, nI_0leT, nI_eq0T, nI_eq0F, nI_0ltT, nI_0ltF, nI_le0T, nI_le0F, nI_m1, nI_m1', m1_m1, m1_lt, m1_le, nI_mul, nI_add, nI_sub, nI_add1, nI_dec, nI_div, nI_mod, vp_inD, sf_nkD, sf_eqD, y5, kq, kr]
  by_cases hkk : kF (nF fs q) = kF (nF fs r)
  · have hc1 : cnd (kF (nF fs q)) (kF (nF fs r)) (po (kdF fs) pq) := Or.inl hkk
    have hc2 : cnd (kF (nF fs r)) (kF (nF fs q)) (po (kdF fs) pq) := Or.inl hkk.symm
    simp (decide := true) (disch := (first | exact eq_false (by decide) | exact eq_true (by decide) | decide | omega)) only [lX3_noteSwap_0, lX3_noteSwap_68, lX3_noteSwap_76, lX3_noteSwap_93, lX3_noteSwap_101, bX3_noteSwap_0, bX3_noteSwap_68, bX3_noteSwap_76, bX3_noteSwap_93, bX3_noteSwap_101, (show qX3_noteSwap.2.2.2.1 = none from rfl), am_rok_none, w_aload_n, w_getfield, w_iaload, w_iastore, w_icmp_eq, w_if_eq, w_iload, w_iload_n, w_istore, w_return, w_swap, sa_17, sa_4, sa_43, sa_47, sa_48, sg_15_2, sg_2_2, sg_39_4, sg_46_0, sg_46_1, sg_46_2, sg_46_4, sg_46_5, am_lk0, am_lk1, am_ld_some, am_isI_i, am_isJ_j, am_isR_r, am_st_eq, am_rmv_nil, am_rmv_t, am_rmv_i, am_rmv_r, sf_SH, sj_SH, sf_eq, sf_nk, sf_na, sf_sf, am_args_i, am_args_r, am_args_n, Nat.reduceAdd, List.cons_append, List.nil_append, Option.toList, List.drop_succ_cons, List.drop_zero, am_RP, am_CP, am_PH, Fin.isValue, Fin.val_zero, Fin.val_one, am_f2, am_f3, true_and, and_true, true_implies, false_implies, not_false_eq_true, ne_eq, nI_clampD, nI_leT, nI_leF, nI_ltT, nI_ltF, nI_eqT, nI_eqF, nI_lt0F, nI_0leT, nI_eq0T, nI_eq0F, nI_0ltT, nI_0ltF, nI_le0T, nI_le0F, nI_m1, nI_m1', m1_m1, m1_lt, m1_le, nI_mul, nI_add, nI_sub, nI_add1, nI_dec, nI_div, nI_mod, vp_inD, sf_nkD, sf_eqD, hkk]
    refine ⟨w, _, rfl, fun c d1 d2 => by rw [sf_naD d2, sf_naD d1], hw', fun j hj => ⟨by rw [sf_naD (by decide), sf_nkD hj], by rw [sf_nkD hj, sf_naD (by decide)]⟩, fun _ => by rw [sf_naD (by decide), sf_eq], fun h9 => absurd (Or.inl rfl) h9, fun _ => by rw [sf_eq], fun h9 => absurd (Or.inl rfl) h9⟩
  · have hm : ∀ k k' s, k ≠ k' → (cnd k k' s ↔ ((s = nI 1 ∧ k = 2) ∨ (s = -1 ∧ k = 1))) := fun k k' s h9 => ⟨fun h8 => h8.elim (fun h7 => absurd h7 h9) id, Or.inr⟩
    obtain ⟨b1, hb1⟩ : ∃ b1 : Bool, b1 = true ↔ cnd (kF (nF fs q)) (kF (nF fs r)) (po (kdF fs) pq) := ⟨@decide _ (Classical.propDecidable _), @decide_eq_true_iff _ (Classical.propDecidable _)⟩
    obtain ⟨b2, hb2⟩ : ∃ b2 : Bool, b2 = true ↔ cnd (kF (nF fs r)) (kF (nF fs q)) (po (kdF fs) pq) := ⟨@decide _ (Classical.propDecidable _), @decide_eq_true_iff _ (Classical.propDecidable _)⟩
    simp (decide := true) (disch := (first | exact eq_false (by decide) | exact eq_true (by decide) | decide | omega)) only [lX3_noteSwap_0, lX3_noteSwap_68, lX3_noteSwap_76, lX3_noteSwap_93, lX3_noteSwap_101, bX3_noteSwap_0, bX3_noteSwap_68, bX3_noteSwap_76, bX3_noteSwap_93, bX3_noteSwap_101, (show qX3_noteSwap.2.2.2.1 = none from rfl), am_rok_none, w_aload_n, w_getfield, w_iaload, w_iastore, w_icmp_eq, w_if_eq, w_iload, w_iload_n, w_istore, w_return, w_swap, sa_17, sa_4, sa_43, sa_47, sa_48, sg_15_2, sg_2_2, sg_39_4, sg_46_0, sg_46_1, sg_46_2, sg_46_4, sg_46_5, am_lk0, am_lk1, am_ld_some, am_isI_i, am_isJ_j, am_isR_r, am_st_eq, am_rmv_nil, am_rmv_t, am_rmv_i, am_rmv_r, sf_SH, sj_SH, sf_eq, sf_nk, sf_na, sf_sf, am_args_i, am_args_r, am_args_n, Nat.reduceAdd, List.cons_append, List.nil_append, Option.toList, List.drop_succ_cons, List.drop_zero, am_RP, am_CP, am_PH, Fin.isValue, Fin.val_zero, Fin.val_one, am_f2, am_f3, true_and, and_true, true_implies, false_implies, not_false_eq_true, ne_eq, nI_clampD, nI_leT, nI_leF, nI_ltT, nI_ltF, nI_eqT, nI_eqF, nI_lt0F, nI_0leT, nI_eq0T, nI_eq0F, nI_0ltT, nI_0ltF, nI_le0T, nI_le0F, nI_m1, nI_m1', m1_m1, m1_lt, m1_le, nI_mul, nI_add, nI_sub, nI_add1, nI_dec, nI_div, nI_mod, vp_inD, sf_nkD, sf_eqD]
    refine w_statE (c_X3_isStrongOnTop g (h + 2) I J (kF (nF fs q)) (po (kdF fs) pq) b1 hq (hb1.trans (hm _ _ _ hkk))) (by decide) rfl rfl rfl (Nat.le_refl _) (Nat.le_refl _) ?_
    cases b1 with
    | true =>
      simp (decide := true) (disch := (first | exact eq_false (by decide) | exact eq_true (by decide) | decide | omega)) only [lX3_noteSwap_0, lX3_noteSwap_68, lX3_noteSwap_76, lX3_noteSwap_93, lX3_noteSwap_101, bX3_noteSwap_0, bX3_noteSwap_68, bX3_noteSwap_76, bX3_noteSwap_93, bX3_noteSwap_101, (show qX3_noteSwap.2.2.2.1 = none from rfl), am_rok_none, w_aload_n, w_getfield, w_iaload, w_iastore, w_icmp_eq, w_if_eq, w_iload, w_iload_n, w_istore, w_return, w_swap, sa_17, sa_4, sa_43, sa_47, sa_48, sg_15_2, sg_2_2, sg_39_4, sg_46_0, sg_46_1, sg_46_2, sg_46_4, sg_46_5, am_lk0, am_lk1, am_ld_some, am_isI_i, am_isJ_j, am_isR_r, am_st_eq, am_rmv_nil, am_rmv_t, am_rmv_i, am_rmv_r, sf_SH, sj_SH, sf_eq, sf_nk, sf_na, sf_sf, am_args_i, am_args_r, am_args_n, Nat.reduceAdd, List.cons_append, List.nil_append, Option.toList, List.drop_succ_cons, List.drop_zero, am_RP, am_CP, am_PH, Fin.isValue, Fin.val_zero, Fin.val_one, am_f2, am_f3, true_and, and_true, true_implies, false_implies, not_false_eq_true, ne_eq, nI_clampD, nI_leT, nI_leF, nI_ltT, nI_ltF, nI_eqT, nI_eqF, nI_lt0F, nI_0leT, nI_eq0T, nI_eq0F, nI_0ltT, nI_0ltF, nI_le0T, nI_le0F, nI_m1, nI_m1', m1_m1, m1_lt, m1_le, nI_mul, nI_add, nI_sub, nI_add1, nI_dec, nI_div, nI_mod, vp_inD, sf_nkD, sf_eqD, bI_t]
      refine w_statE (c_X3_isStrongOnTop g (h + 2) _ J (kF (nF fs r)) (po (kdF fs) pq) b2 hr (hb2.trans (hm _ _ _ (fun h9 => hkk h9.symm)))) (by decide) rfl rfl rfl (Nat.le_refl _) (Nat.le_refl _) ?_
      cases b2 with
      | true =>
        simp (decide := true) (disch := (first | exact eq_false (by decide) | exact eq_true (by decide) | decide | omega)) only [lX3_noteSwap_0, lX3_noteSwap_68, lX3_noteSwap_76, lX3_noteSwap_93, lX3_noteSwap_101, bX3_noteSwap_0, bX3_noteSwap_68, bX3_noteSwap_76, bX3_noteSwap_93, bX3_noteSwap_101, (show qX3_noteSwap.2.2.2.1 = none from rfl), am_rok_none, w_aload_n, w_getfield, w_iaload, w_iastore, w_icmp_eq, w_if_eq, w_iload, w_iload_n, w_istore, w_return, w_swap, sa_17, sa_4, sa_43, sa_47, sa_48, sg_15_2, sg_2_2, sg_39_4, sg_46_0, sg_46_1, sg_46_2, sg_46_4, sg_46_5, am_lk0, am_lk1, am_ld_some, am_isI_i, am_isJ_j, am_isR_r, am_st_eq, am_rmv_nil, am_rmv_t, am_rmv_i, am_rmv_r, sf_SH, sj_SH, sf_eq, sf_nk, sf_na, sf_sf, am_args_i, am_args_r, am_args_n, Nat.reduceAdd, List.cons_append, List.nil_append, Option.toList, List.drop_succ_cons, List.drop_zero, am_RP, am_CP, am_PH, Fin.isValue, Fin.val_zero, Fin.val_one, am_f2, am_f3, true_and, and_true, true_implies, false_implies, not_false_eq_true, ne_eq, nI_clampD, nI_leT, nI_leF, nI_ltT, nI_ltF, nI_eqT, nI_eqF, nI_lt0F, nI_0leT, nI_eq0T, nI_eq0F, nI_0ltT, nI_0ltF, nI_le0T, nI_le0F, nI_m1, nI_m1', m1_m1, m1_lt, m1_le, nI_mul, nI_add, nI_sub, nI_add1, nI_dec, nI_div, nI_mod, vp_inD, sf_nkD, sf_eqD, bI_t]
        refine ⟨w, _, rfl, fun c d1 d2 => by rw [sf_naD d2, sf_naD d1], hw', fun j hj => ⟨by rw [sf_naD (by decide), sf_nkD hj], by rw [sf_nkD hj, sf_naD (by decide)]⟩, fun _ => by rw [sf_naD (by decide), sf_eq], fun h9 => absurd (hb1.mp rfl) h9, fun _ => by rw [sf_eq], fun h9 => absurd (hb2.mp rfl) h9⟩
      | false =>
        simp (decide := true) (disch := (first | exact eq_false (by decide) | exact eq_true (by decide) | decide | omega)) only [lX3_noteSwap_0, lX3_noteSwap_68, lX3_noteSwap_76, lX3_noteSwap_93, lX3_noteSwap_101, bX3_noteSwap_0, bX3_noteSwap_68, bX3_noteSwap_76, bX3_noteSwap_93, bX3_noteSwap_101, (show qX3_noteSwap.2.2.2.1 = none from rfl), am_rok_none, w_aload_n, w_getfield, w_iaload, w_iastore, w_icmp_eq, w_if_eq, w_iload, w_iload_n, w_istore, w_return, w_swap, sa_17, sa_4, sa_43, sa_47, sa_48, sg_15_2, sg_2_2, sg_39_4, sg_46_0, sg_46_1, sg_46_2, sg_46_4, sg_46_5, am_lk0, am_lk1, am_ld_some, am_isI_i, am_isJ_j, am_isR_r, am_st_eq, am_rmv_nil, am_rmv_t, am_rmv_i, am_rmv_r, sf_SH, sj_SH, sf_eq, sf_nk, sf_na, sf_sf, am_args_i, am_args_r, am_args_n, Nat.reduceAdd, List.cons_append, List.nil_append, Option.toList, List.drop_succ_cons, List.drop_zero, am_RP, am_CP, am_PH, Fin.isValue, Fin.val_zero, Fin.val_one, am_f2, am_f3, true_and, and_true, true_implies, false_implies, not_false_eq_true, ne_eq, nI_clampD, nI_leT, nI_leF, nI_ltT, nI_ltF, nI_eqT, nI_eqF, nI_lt0F, nI_0leT, nI_eq0T, nI_eq0F, nI_0ltT, nI_0ltF, nI_le0T, nI_le0F, nI_m1, nI_m1', m1_m1, m1_lt, m1_le, nI_mul, nI_add, nI_sub, nI_add1, nI_dec, nI_div, nI_mod, vp_inD, sf_nkD, sf_eqD, bI_f]
        refine ⟨w, _, rfl, fun c d1 d2 => by rw [sf_naD d1], hw', fun j hj => ⟨by rw [sf_nkD hj], by rw [sf_naD (by decide)]⟩, fun _ => by rw [sf_eq], fun h9 => absurd (hb1.mp rfl) h9, fun h9 => (by have := hb2.mpr h9; cases this), fun _ => by rw [sf_naD (by decide)]⟩
    | false =>
      simp (decide := true) (disch := (first | exact eq_false (by decide) | exact eq_true (by decide) | decide | omega)) only [lX3_noteSwap_0, lX3_noteSwap_68, lX3_noteSwap_76, lX3_noteSwap_93, lX3_noteSwap_101, bX3_noteSwap_0, bX3_noteSwap_68, bX3_noteSwap_76, bX3_noteSwap_93, bX3_noteSwap_101, (show qX3_noteSwap.2.2.2.1 = none from rfl), am_rok_none, w_aload_n, w_getfield, w_iaload, w_iastore, w_icmp_eq, w_if_eq, w_iload, w_iload_n, w_istore, w_return, w_swap, sa_17, sa_4, sa_43, sa_47, sa_48, sg_15_2, sg_2_2, sg_39_4, sg_46_0, sg_46_1, sg_46_2, sg_46_4, sg_46_5, am_lk0, am_lk1, am_ld_some, am_isI_i, am_isJ_j, am_isR_r, am_st_eq, am_rmv_nil, am_rmv_t, am_rmv_i, am_rmv_r, sf_SH, sj_SH, sf_eq, sf_nk, sf_na, sf_sf, am_args_i, am_args_r, am_args_n, Nat.reduceAdd, List.cons_append, List.nil_append, Option.toList, List.drop_succ_cons, List.drop_zero, am_RP, am_CP, am_PH, Fin.isValue, Fin.val_zero, Fin.val_one, am_f2, am_f3, true_and, and_true, true_implies, false_implies, not_false_eq_true, ne_eq, nI_clampD, nI_leT, nI_leF, nI_ltT, nI_ltF, nI_eqT, nI_eqF, nI_lt0F, nI_0leT, nI_eq0T, nI_eq0F, nI_0ltT, nI_0ltF, nI_le0T, nI_le0F, nI_m1, nI_m1', m1_m1, m1_lt, m1_le, nI_mul, nI_add, nI_sub, nI_add1, nI_dec, nI_div, nI_mod, vp_inD, sf_nkD, sf_eqD, bI_f]
      refine w_statE (c_X3_isStrongOnTop g (h + 2) _ J (kF (nF fs r)) (po (kdF fs) pq) b2 hr (hb2.trans (hm _ _ _ (fun h9 => hkk h9.symm)))) (by decide) rfl rfl rfl (Nat.le_refl _) (Nat.le_refl _) ?_
      cases b2 with
      | true =>
        simp (decide := true) (disch := (first | exact eq_false (by decide) | exact eq_true (by decide) | decide | omega)) only [lX3_noteSwap_0, lX3_noteSwap_68, lX3_noteSwap_76, lX3_noteSwap_93, lX3_noteSwap_101, bX3_noteSwap_0, bX3_noteSwap_68, bX3_noteSwap_76, bX3_noteSwap_93, bX3_noteSwap_101, (show qX3_noteSwap.2.2.2.1 = none from rfl), am_rok_none, w_aload_n, w_getfield, w_iaload, w_iastore, w_icmp_eq, w_if_eq, w_iload, w_iload_n, w_istore, w_return, w_swap, sa_17, sa_4, sa_43, sa_47, sa_48, sg_15_2, sg_2_2, sg_39_4, sg_46_0, sg_46_1, sg_46_2, sg_46_4, sg_46_5, am_lk0, am_lk1, am_ld_some, am_isI_i, am_isJ_j, am_isR_r, am_st_eq, am_rmv_nil, am_rmv_t, am_rmv_i, am_rmv_r, sf_SH, sj_SH, sf_eq, sf_nk, sf_na, sf_sf, am_args_i, am_args_r, am_args_n, Nat.reduceAdd, List.cons_append, List.nil_append, Option.toList, List.drop_succ_cons, List.drop_zero, am_RP, am_CP, am_PH, Fin.isValue, Fin.val_zero, Fin.val_one, am_f2, am_f3, true_and, and_true, true_implies, false_implies, not_false_eq_true, ne_eq, nI_clampD, nI_leT, nI_leF, nI_ltT, nI_ltF, nI_eqT, nI_eqF, nI_lt0F, nI_0leT, nI_eq0T, nI_eq0F, nI_0ltT, nI_0ltF, nI_le0T, nI_le0F, nI_m1, nI_m1', m1_m1, m1_lt, m1_le, nI_mul, nI_add, nI_sub, nI_add1, nI_dec, nI_div, nI_mod, vp_inD, sf_nkD, sf_eqD, bI_t]
        refine ⟨w, _, rfl, fun c d1 d2 => by rw [sf_naD d2], hw', fun j hj => ⟨by rw [sf_naD (by decide)], by rw [sf_nkD hj]⟩, fun h9 => (by have := hb1.mpr h9; cases this), fun _ => by rw [sf_naD (by decide)], fun _ => by rw [sf_eq], fun h9 => absurd (hb2.mp rfl) h9⟩
      | false =>
        simp (decide := true) (disch := (first | exact eq_false (by decide) | exact eq_true (by decide) | decide | omega)) only [lX3_noteSwap_0, lX3_noteSwap_68, lX3_noteSwap_76, lX3_noteSwap_93, lX3_noteSwap_101, bX3_noteSwap_0, bX3_noteSwap_68, bX3_noteSwap_76, bX3_noteSwap_93, bX3_noteSwap_101, (show qX3_noteSwap.2.2.2.1 = none from rfl), am_rok_none, w_aload_n, w_getfield, w_iaload, w_iastore, w_icmp_eq, w_if_eq, w_iload, w_iload_n, w_istore, w_return, w_swap, sa_17, sa_4, sa_43, sa_47, sa_48, sg_15_2, sg_2_2, sg_39_4, sg_46_0, sg_46_1, sg_46_2, sg_46_4, sg_46_5, am_lk0, am_lk1, am_ld_some, am_isI_i, am_isJ_j, am_isR_r, am_st_eq, am_rmv_nil, am_rmv_t, am_rmv_i, am_rmv_r, sf_SH, sj_SH, sf_eq, sf_nk, sf_na, sf_sf, am_args_i, am_args_r, am_args_n, Nat.reduceAdd, List.cons_append, List.nil_append, Option.toList, List.drop_succ_cons, List.drop_zero, am_RP, am_CP, am_PH, Fin.isValue, Fin.val_zero, Fin.val_one, am_f2, am_f3, true_and, and_true, true_implies, false_implies, not_false_eq_true, ne_eq, nI_clampD, nI_leT, nI_leF, nI_ltT, nI_ltF, nI_eqT, nI_eqF, nI_lt0F, nI_0leT, nI_eq0T, nI_eq0F, nI_0ltT, nI_0ltF, nI_le0T, nI_le0F, nI_m1, nI_m1', m1_m1, m1_lt, m1_le, nI_mul, nI_add, nI_sub, nI_add1, nI_dec, nI_div, nI_mod, vp_inD, sf_nkD, sf_eqD, bI_f]
        exact ⟨w, _, rfl, fun c d1 d2 => rfl, hw', fun j hj => ⟨rfl, rfl⟩, fun h9 => (by have := hb1.mpr h9; cases this), fun _ => rfl, fun h9 => (by have := hb2.mpr h9; cases this), fun _ => rfl⟩
theorem T_skip {q : Nat} (hO : Ordr fs o l) (hn : ¬ PRq fs l q) (j : Nat) : (Tto fs cs o (q + 1) j ↔ Tto fs cs o q j) ∧ (Tfr fs cs o (q + 1) j ↔ Tfr fs cs o q j) := by
  have key : ∀ q' r pq o', EVk fs q' → EVk fs r → SwR fs o q' r o' pq → q' < q + 1 → q' < q := by
    intro q' r pq o' h1 h2 h3 h4
    by_cases hqq : q' = q
    · exfalso
      subst hqq
      obtain ⟨l0, A, B, C, D, c, a1, a2, a3, -⟩ := h3
      rw [hO.1] at a1
      have a1 := Option.some.inj a1
      subst a1
      exact hn ⟨h1, r, pq, a2, a3, h2⟩
    · omega
  exact ⟨⟨fun ⟨q', r, pq, h1, h2, h3, h4, h5⟩ => ⟨q', r, pq, key q' r pq _ h2 h3 h4 h1, h2, h3, h4, h5⟩, fun ⟨q', r, pq, h1, h2⟩ => ⟨q', r, pq, by omega, h2⟩⟩,
    ⟨fun ⟨q', r, pq, h1, h2, h3, h4, h5⟩ => ⟨q', r, pq, key q' r pq _ h2 h3 h4 h1, h2, h3, h4, h5⟩, fun ⟨q', r, pq, h1, h2⟩ => ⟨q', r, pq, by omega, h2⟩⟩⟩
theorem T_add {q r : Nat} {pq : List Nat} (hO : Ordr fs o l) (hq : EVk fs q) (hr : EVk fs r) (hsw : SwR fs o q r o' pq) (j : Nat) : (Tto fs cs o (q + 1) j ↔ Tto fs cs o q j ∨ (cnd (kF (nF fs q)) (kF (nF fs r)) (po (kdF fs) pq) ∧ (RLs fs cs).getD j [] = o')) ∧ (Tfr fs cs o (q + 1) j ↔ Tfr fs cs o q j ∨ (cnd (kF (nF fs r)) (kF (nF fs q)) (po (kdF fs) pq) ∧ (RLs fs cs).getD j [] = o')) := by
  have key : ∀ r' p' o'', SwR fs o q r' o'' p' → r' = r ∧ p' = pq ∧ o'' = o' := by
    intro r' p' o'' h3
    have h3' := h3
    have hsw' := hsw
    obtain ⟨l0, A, B, C, D, c, a1, a2, a3, -⟩ := h3
    rw [hO.1] at a1
    have a1 := Option.some.inj a1
    subst a1
    obtain ⟨l0, A, B, C, D, c, b1, b2, b3, -⟩ := hsw'
    rw [hO.1] at b1
    have b1 := Option.some.inj b1
    subst b1
    have hp := hO.uniq a2 b2
    subst hp
    have hrr := rval_inj hO.1 hO.2.1 a3 b3
    subst hrr
    exact ⟨rfl, rfl, SwR_uniq hO.2.1 h3' hsw⟩
  constructor
  · constructor
    · rintro ⟨q', r', p', h1, h2, h3, h4, h5⟩
      by_cases hqq : q' = q
      · subst hqq
        obtain ⟨rfl, rfl, e3⟩ := key r' p' _ h4
        exact Or.inr ⟨h5, e3⟩
      · exact Or.inl ⟨q', r', p', by omega, h2, h3, h4, h5⟩
    · rintro (⟨q', r', p', h1, h2⟩ | ⟨h1, h2⟩)
      · exact ⟨q', r', p', by omega, h2⟩
      · exact ⟨q, r, pq, by omega, hq, hr, by rw [h2]; exact hsw, h1⟩
  · constructor
    · rintro ⟨q', r', p', h1, h2, h3, h4, h5⟩
      by_cases hqq : q' = q
      · subst hqq
        obtain ⟨rfl, rfl, e3⟩ := key r' p' _ h4
        exact Or.inr ⟨h5, e3⟩
      · exact Or.inl ⟨q', r', p', by omega, h2, h3, h4, h5⟩
    · rintro (⟨q', r', p', h1, h2⟩ | ⟨h1, h2⟩)
      · exact ⟨q', r', p', by omega, h2⟩
      · exact ⟨q, r, pq, by omega, hq, hr, by rw [h2]; exact hsw, h1⟩
theorem w_num (hn : fs.length ≤ 11) {w : Nat} (hw : (w = 0 ∧ ∀ j, j < (RLs fs cs).length → (RLs fs cs).getD j [] ≠ o') ∨ (0 < w ∧ w - 1 < (RLs fs cs).length ∧ (RLs fs cs).getD (w - 1) [] = o')) : w ≤ (RLs fs cs).length ∧ ∀ j, j < (RLs fs cs).length → ((RLs fs cs).getD j [] = o' ↔ j + 1 = w) := by
  rcases hw with ⟨h1, h2⟩ | ⟨h1, h2, h3⟩
  · exact ⟨by omega, fun j hj => ⟨fun h9 => absurd h9 (h2 j hj), fun h9 => by omega⟩⟩
  · refine ⟨by omega, fun j hj => ⟨fun h9 => ?_, fun h9 => ?_⟩⟩
    · have := RLs_inj hn hj h2 (h9.trans h3.symm)
      omega
    · rw [show j = w - 1 by omega]; exact h3
set_option maxRecDepth 100000 in
set_option maxHeartbeats 8000000 in
theorem c_X3_findSteps (hS : SN L t fs I) (hLS : LSr fs cs I J) (i : Nat) (hi : i < (RLs fs cs).length) (hO : Ordr fs ((RLs fs cs).getD i []) l) (hr0 : ∀ k, k < 3 → I 47 (3 * i + k) = -1 ∧ I 48 (3 * i + k) = -1) :
    am_Ctr g am_mt 1 (h + 5) 27 [.ref 46, .int (nI i)] (am_SH, I, J) 0 0 (fun r' M => r' = none ∧ ∃ I', M = (am_SH, I', J) ∧ FrN I I' ∧ (∀ j, j < 3 * i ∨ 3 * i + 3 ≤ j → I' 47 j = I 47 j ∧ I' 48 j = I 48 j) ∧ RowT 47 (3 * i) 3 (RLs fs cs).length (Tto fs cs ((RLs fs cs).getD i []) fs.length) I' ∧ RowT 48 (3 * i) 3 (RLs fs cs).length (Tfr fs cs ((RLs fs cs).getD i []) fs.length) I') := by
  have hn := hS.2.le
  have h1 : I 2 1 = nI fs.length := hS.1.1
  have h720 := RLs_le (cs := cs) hS.2
  have h3 := nPR_3 hS.2 hO
  have hcnt := hS.2.cnt
  have hJi := hLS.2 i hi
  generalize hod : (RLs fs cs).getD i [] = o at *
  obtain ⟨JJ, hJJ⟩ : ∃ JJ : Nat → am_Cut, JJ = (fun zu zpc zl zst zM zk zn => (∃ (q sw : Nat) (I1 : Nat → Nat → Int32), zu = fs.length - q ∧ (q ≤ fs.length ∧ sw = nPR fs l q) ∧ (FrN I I1) ∧ (LYk (kdF fs) o l fs.length I1) ∧ (RowT 47 (3 * i) 3 (RLs fs cs).length (Tto fs cs o q) I1) ∧ (RowT 48 (3 * i) 3 (RLs fs cs).length (Tfr fs cs o q) I1) ∧ (∀ k, sw ≤ k → k < 3 → I1 47 (3 * i + k) = -1 ∧ I1 48 (3 * i + k) = -1) ∧ (∀ j, j < 3 * i ∨ 3 * i + 3 ≤ j → I1 47 j = I 47 j ∧ I1 48 j = I 48 j) ∧ zpc = 20 ∧ zl = [(0, .ref 46), (1, .int (nI i)), (2, .int (nI sw)), (3, .int (nI q))] ∧ zst = [] ∧ zM = (am_SH, I1, J) ∧ zk = 0 ∧ zn = 0)) := ⟨_, rfl⟩
  have mk : ∀ (q sw : Nat) (I1 : Nat → Nat → Int32), (q ≤ fs.length ∧ sw = nPR fs l q) → (FrN I I1) → (LYk (kdF fs) o l fs.length I1) → (RowT 47 (3 * i) 3 (RLs fs cs).length (Tto fs cs o q) I1) → (RowT 48 (3 * i) 3 (RLs fs cs).length (Tfr fs cs o q) I1) → (∀ k, sw ≤ k → k < 3 → I1 47 (3 * i + k) = -1 ∧ I1 48 (3 * i + k) = -1) → (∀ j, j < 3 * i ∨ 3 * i + 3 ≤ j → I1 47 j = I 47 j ∧ I1 48 j = I 48 j) → JJ (fs.length - q) 20 [(0, .ref 46), (1, .int (nI i)), (2, .int (nI sw)), (3, .int (nI q))] [] (am_SH, I1, J) 0 0 := by
    intro q sw I1 a0 a1 a2 a3 a4 a5 a6
    rw [hJJ]
    exact ⟨q, sw, I1, rfl, a0, a1, a2, a3, a4, a5, a6, rfl, rfl, rfl, rfl, rfl, rfl⟩
  refine am_rule2 (q := qX3_findSteps) (B := am_blk bX3_findSteps) rfl rfl kX3_findSteps nX3_findSteps (Nat.le_of_ble_eq_true rfl) JJ (fun zu zpc zl zst zM zk zn hj => ?_) ?_
  rotate_left
  · refine ⟨60, ?_⟩
    simp (decide := true) (disch := (first | exact eq_false (by decide) | exact eq_true (by decide) | decide | omega)) only [lX3_findSteps_0, lX3_findSteps_20, lX3_findSteps_83, lX3_findSteps_89, bX3_findSteps_0, bX3_findSteps_20, bX3_findSteps_83, bX3_findSteps_89, (show qX3_findSteps.2.2.2.1 = none from rfl), am_rok_none, w_aload_n, w_getfield, w_goto, w_iadd, w_iaload, w_icmp_ge, w_iconst, w_if_eq, w_iinc, w_iload, w_iload_n, w_imul, w_istore, w_istore_n, w_laload, w_nop, w_return, w_swap, sa_36, sa_44, sg_15_1, sg_2_1, sg_35_0, sg_39_5, sg_46_0, sg_46_1, sg_46_2, cI_0, cI_1, cI_2, cI_3, am_lk0, am_lk1, am_ld_some, am_isI_i, am_isJ_j, am_isR_r, am_st_eq, am_rmv_nil, am_rmv_t, am_rmv_i, am_rmv_r, sf_SH, sj_SH, sf_eq, sf_nk, sf_na, sf_sf, am_args_i, am_args_r, am_args_n, Nat.reduceAdd, List.cons_append, List.nil_append, Option.toList, List.drop_succ_cons, List.drop_zero, am_RP, am_CP, am_PH, Fin.isValue, Fin.val_zero, Fin.val_one, am_f2, am_f3, true_and, and_true, true_implies, false_implies, not_false_eq_true, ne_eq, nI_clampD, nI_leT, nI_leF, nI_ltT, nI_ltF, nI_eqT, nI_eqF, nI_lt0F, nI_0leT, nI_eq0T, nI_eq0F, nI_0ltT, nI_0ltF, nI_le0T, nI_le0F, nI_m1, nI_m1', m1_m1, m1_lt, m1_le, nI_mul, nI_add, nI_sub, nI_add1, nI_dec, nI_div, nI_mod, vp_inD, sf_nkD, sf_eqD, hJi]
    refine w_virtP (c_X2_lay g (h + 1) I J hS o l hO.1 hO.2.1 hO.2.2.2 hO.2.2.1) rfl rfl rfl (of_eq_true so_39) rfl (Nat.le_refl _) (Nat.le_refl _) ?_
    rintro R1 M1 ⟨rfl, I1, rfl, f1, f2⟩
    have r47 : ∀ k, k < 3 → I1 47 (3 * i + k) = -1 ∧ I1 48 (3 * i + k) = -1 := fun k hk => by rw [f1 47 (by omega), f1 48 (by omega)]; exact hr0 k hk
    simp (decide := true) (disch := (first | exact eq_false (by decide) | exact eq_true (by decide) | decide | omega)) only [lX3_findSteps_0, lX3_findSteps_20, lX3_findSteps_83, lX3_findSteps_89, bX3_findSteps_0, bX3_findSteps_20, bX3_findSteps_83, bX3_findSteps_89, (show qX3_findSteps.2.2.2.1 = none from rfl), am_rok_none, w_aload_n, w_getfield, w_goto, w_iadd, w_iaload, w_icmp_ge, w_iconst, w_if_eq, w_iinc, w_iload, w_iload_n, w_imul, w_istore, w_istore_n, w_laload, w_nop, w_return, w_swap, sa_36, sa_44, sg_15_1, sg_2_1, sg_35_0, sg_39_5, sg_46_0, sg_46_1, sg_46_2, cI_0, cI_1, cI_2, cI_3, am_lk0, am_lk1, am_ld_some, am_isI_i, am_isJ_j, am_isR_r, am_st_eq, am_rmv_nil, am_rmv_t, am_rmv_i, am_rmv_r, sf_SH, sj_SH, sf_eq, sf_nk, sf_na, sf_sf, am_args_i, am_args_r, am_args_n, Nat.reduceAdd, List.cons_append, List.nil_append, Option.toList, List.drop_succ_cons, List.drop_zero, am_RP, am_CP, am_PH, Fin.isValue, Fin.val_zero, Fin.val_one, am_f2, am_f3, true_and, and_true, true_implies, false_implies, not_false_eq_true, ne_eq, nI_clampD, nI_leT, nI_leF, nI_ltT, nI_ltF, nI_eqT, nI_eqF, nI_lt0F, nI_0leT, nI_eq0T, nI_eq0F, nI_0ltT, nI_0ltF, nI_le0T, nI_le0F, nI_m1, nI_m1', m1_m1, m1_lt, m1_le, nI_mul, nI_add, nI_sub, nI_add1, nI_dec, nI_div, nI_mod, vp_inD, sf_nkD, sf_eqD]
    refine ⟨_, _, ?_, mk 0 0 I1 ⟨by omega, rfl⟩ (fun c hc => f1 c (by omega)) f2 ((RowT.e (by omega) (fun k hk => (r47 k hk).1)).cg (fun j _ => ⟨False.elim, fun ⟨q, r, pq, h9, _⟩ => absurd h9 (Nat.not_lt_zero _)⟩)) ((RowT.e (by omega) (fun k hk => (r47 k hk).2)).cg (fun j _ => ⟨False.elim, fun ⟨q, r, pq, h9, _⟩ => absurd h9 (Nat.not_lt_zero _)⟩)) (fun k _ hk => r47 k hk) (fun j _ => by rw [f1 47 (by omega), f1 48 (by omega)]; exact ⟨rfl, rfl⟩)⟩
    · (simp (decide := true) only [am_has, am_lk0, am_lk1, and_self, true_and, and_true] <;> first | rfl | (refine ⟨?_, ?_⟩ <;> rfl) | (refine ⟨?_, ?_, ?_⟩ <;> rfl) | (refine ⟨?_, ?_, ?_, ?_⟩ <;> rfl))
  rw [hJJ] at hj
  clear hJJ
  obtain ⟨q, sw, I1, rfl, e1, e2, e3, e4, e5, e6, e7, rfl, rfl, rfl, rfl, rfl, rfl⟩ := hj
  refine ⟨_, 90, rfl, rfl, ?_⟩
  obtain ⟨e1, esw⟩ := e1
  have hS1 : SN L t fs I1 := hS.fr (fun c _ _ => e2 c (by omega))
  have hLS1 : LSr fs cs I1 J := hLS.fr (by rw [e2 35 (by omega)]) rfl
  have k1 : I1 2 1 = nI fs.length := hS1.1.1
  by_cases hq : q = fs.length
  · subst hq
    simp (decide := true) (disch := (first | exact eq_false (by decide) | exact eq_true (by decide) | decide | omega)) only [lX3_findSteps_0, lX3_findSteps_20, lX3_findSteps_83, lX3_findSteps_89, bX3_findSteps_0, bX3_findSteps_20, bX3_findSteps_83, bX3_findSteps_89, (show qX3_findSteps.2.2.2.1 = none from rfl), am_rok_none, w_aload_n, w_getfield, w_goto, w_iadd, w_iaload, w_icmp_ge, w_iconst, w_if_eq, w_iinc, w_iload, w_iload_n, w_imul, w_istore, w_istore_n, w_laload, w_nop, w_return, w_swap, sa_36, sa_44, sg_15_1, sg_2_1, sg_35_0, sg_39_5, sg_46_0, sg_46_1, sg_46_2, cI_0, cI_1, cI_2, cI_3, am_lk0, am_lk1, am_ld_some, am_isI_i, am_isJ_j, am_isR_r, am_st_eq, am_rmv_nil, am_rmv_t, am_rmv_i, am_rmv_r, sf_SH, sj_SH, sf_eq, sf_nk, sf_na, sf_sf, am_args_i, am_args_r, am_args_n, Nat.reduceAdd, List.cons_append, List.nil_append, Option.toList, List.drop_succ_cons, List.drop_zero, am_RP, am_CP, am_PH, Fin.isValue, Fin.val_zero, Fin.val_one, am_f2, am_f3, true_and, and_true, true_implies, false_implies, not_false_eq_true, ne_eq, nI_clampD, nI_leT, nI_leF, nI_ltT, nI_ltF, nI_eqT, nI_eqF, nI_lt0F, nI_0leT, nI_eq0T, nI_eq0F, nI_0ltT, nI_0ltF, nI_le0T, nI_le0F, nI_m1, nI_m1', m1_m1, m1_lt, m1_le, nI_mul, nI_add, nI_sub, nI_add1, nI_dec, nI_div, nI_mod, vp_inD, sf_nkD, sf_eqD, k1]
    exact ⟨I1, rfl, e2, e7, e4, e5⟩
  · have hqn : q < fs.length := by omega
    have hk := hS1.1.2.2.1 q hqn
    have hk6 := hS.2.k6 hqn
    have hmono := nPR_mono (fs := fs) (l := l) (show q + 1 ≤ fs.length by omega)
    have hskip : ¬ PRq fs l q → JJ (fs.length - (q + 1)) 20 [(0, .ref 46), (1, .int (nI i)), (2, .int (nI sw)), (3, .int (nI (q + 1)))] [] (am_SH, I1, J) 0 0 := fun h9 => mk (q + 1) sw I1 ⟨by omega, by rw [nPR_f h9]; exact esw⟩ e2 e3 (e4.cg (fun j _ => (T_skip hO h9 j).1.symm)) (e5.cg (fun j _ => (T_skip hO h9 j).2.symm)) e6 e7
    simp (decide := true) (disch := (first | exact eq_false (by decide) | exact eq_true (by decide) | decide | omega)) only [lX3_findSteps_0, lX3_findSteps_20, lX3_findSteps_83, lX3_findSteps_89, bX3_findSteps_0, bX3_findSteps_20, bX3_findSteps_83, bX3_findSteps_89, (show qX3_findSteps.2.2.2.1 = none from rfl), am_rok_none, w_aload_n, w_getfield, w_goto, w_iadd, w_iaload, w_icmp_ge, w_iconst, w_if_eq, w_iinc, w_iload, w_iload_n, w_imul, w_istore, w_istore_n, w_laload, w_nop, w_return, w_swap, sa_36, sa_44, sg_15_1, sg_2_1, sg_35_0, sg_39_5, sg_46_0, sg_46_1, sg_46_2, cI_0, cI_1, cI_2, cI_3, am_lk0, am_lk1, am_ld_some, am_isI_i, am_isJ_j, am_isR_r, am_st_eq, am_rmv_nil, am_rmv_t, am_rmv_i, am_rmv_r, sf_SH, sj_SH, sf_eq, sf_nk, sf_na, sf_sf, am_args_i, am_args_r, am_args_n, Nat.reduceAdd, List.cons_append, List.nil_append, Option.toList, List.drop_succ_cons, List.drop_zero, am_RP, am_CP, am_PH, Fin.isValue, Fin.val_zero, Fin.val_one, am_f2, am_f3, true_and, and_true, true_implies, false_implies, not_false_eq_true, ne_eq, nI_clampD, nI_leT, nI_leF, nI_ltT, nI_ltF, nI_eqT, nI_eqF, nI_lt0F, nI_0leT, nI_eq0T, nI_eq0F, nI_0ltT, nI_0ltF, nI_le0T, nI_le0F, nI_m1, nI_m1', m1_m1, m1_lt, m1_le, nI_mul, nI_add, nI_sub, nI_add1, nI_dec, nI_div, nI_mod, vp_inD, sf_nkD, sf_eqD, k1]
    refine w_virtE (c_X3_isEveryOrSome g (h + 3) I1 J q (kF (nF fs q)) (by omega) hk hk6) rfl rfl rfl (of_eq_true so_46) rfl (Nat.le_refl _) (Nat.le_refl _) ?_
    by_cases hev : EVk fs q
    · have hdq : decide (kF (nF fs q) = 1 ∨ kF (nF fs q) = 2) = true := decide_eq_true hev
      by_cases hs3 : sw < 3
      · obtain ⟨pq, hpq⟩ := hO.get hqn
        obtain ⟨r, hr⟩ := hO.fill hcnt hpq (i := 1) (by rw [hev.rh]; decide)
        have hrn := hO.mem hr
        have htk : l.take fs.length = l := List.take_of_length_le (by have := congrArg List.length (rrun_fst _ _ _ _ hO.1); rw [List.length_map] at this; have := hO.2.2.1; omega)
        have y4 : I1 44 (2 * q + 1) = nI r := e3.2.2 r _ _ (by rw [htk]; exact hr)
        have hkr := hS1.1.2.2.1 r hrn
        have hkr6 := hS.2.k6 hrn
        simp (decide := true) (disch := (first | exact eq_false (by decide) | exact eq_true (by decide) | decide | omega)) only [lX3_findSteps_0, lX3_findSteps_20, lX3_findSteps_83, lX3_findSteps_89, bX3_findSteps_0, bX3_findSteps_20, bX3_findSteps_83, bX3_findSteps_89, (show qX3_findSteps.2.2.2.1 = none from rfl), am_rok_none, w_aload_n, w_getfield, w_goto, w_iadd, w_iaload, w_icmp_ge, w_iconst, w_if_eq, w_iinc, w_iload, w_iload_n, w_imul, w_istore, w_istore_n, w_laload, w_nop, w_return, w_swap, sa_36, sa_44, sg_15_1, sg_2_1, sg_35_0, sg_39_5, sg_46_0, sg_46_1, sg_46_2, cI_0, cI_1, cI_2, cI_3, am_lk0, am_lk1, am_ld_some, am_isI_i, am_isJ_j, am_isR_r, am_st_eq, am_rmv_nil, am_rmv_t, am_rmv_i, am_rmv_r, sf_SH, sj_SH, sf_eq, sf_nk, sf_na, sf_sf, am_args_i, am_args_r, am_args_n, Nat.reduceAdd, List.cons_append, List.nil_append, Option.toList, List.drop_succ_cons, List.drop_zero, am_RP, am_CP, am_PH, Fin.isValue, Fin.val_zero, Fin.val_one, am_f2, am_f3, true_and, and_true, true_implies, false_implies, not_false_eq_true, ne_eq, nI_clampD, nI_leT, nI_leF, nI_ltT, nI_ltF, nI_eqT, nI_eqF, nI_lt0F, nI_0leT, nI_eq0T, nI_eq0F, nI_0ltT, nI_0ltF, nI_le0T, nI_le0F, nI_m1, nI_m1', m1_m1, m1_lt, m1_le, nI_mul, nI_add, nI_sub, nI_add1, nI_dec, nI_div, nI_mod, vp_inD, sf_nkD, sf_eqD, hdq, bI_t, y4]
        refine w_virtE (c_X3_isEveryOrSome g (h + 3) I1 J r (kF (nF fs r)) (by omega) hkr hkr6) rfl rfl rfl (of_eq_true so_46) rfl (Nat.le_refl _) (Nat.le_refl _) ?_
        by_cases hevr : EVk fs r
        · have hdr : decide (kF (nF fs r) = 1 ∨ kF (nF fs r) = 2) = true := decide_eq_true hevr
          have hPR : PRq fs l q := ⟨hev, r, pq, hpq, hr, hevr⟩
          obtain ⟨o', hsw⟩ := SwR_ex hO hcnt hev hevr hpq hr
          simp (decide := true) (disch := (first | exact eq_false (by decide) | exact eq_true (by decide) | decide | omega)) only [lX3_findSteps_0, lX3_findSteps_20, lX3_findSteps_83, lX3_findSteps_89, bX3_findSteps_0, bX3_findSteps_20, bX3_findSteps_83, bX3_findSteps_89, (show qX3_findSteps.2.2.2.1 = none from rfl), am_rok_none, w_aload_n, w_getfield, w_goto, w_iadd, w_iaload, w_icmp_ge, w_iconst, w_if_eq, w_iinc, w_iload, w_iload_n, w_imul, w_istore, w_istore_n, w_laload, w_nop, w_return, w_swap, sa_36, sa_44, sg_15_1, sg_2_1, sg_35_0, sg_39_5, sg_46_0, sg_46_1, sg_46_2, cI_0, cI_1, cI_2, cI_3, am_lk0, am_lk1, am_ld_some, am_isI_i, am_isJ_j, am_isR_r, am_st_eq, am_rmv_nil, am_rmv_t, am_rmv_i, am_rmv_r, sf_SH, sj_SH, sf_eq, sf_nk, sf_na, sf_sf, am_args_i, am_args_r, am_args_n, Nat.reduceAdd, List.cons_append, List.nil_append, Option.toList, List.drop_succ_cons, List.drop_zero, am_RP, am_CP, am_PH, Fin.isValue, Fin.val_zero, Fin.val_one, am_f2, am_f3, true_and, and_true, true_implies, false_implies, not_false_eq_true, ne_eq, nI_clampD, nI_leT, nI_leF, nI_ltT, nI_ltF, nI_eqT, nI_eqF, nI_lt0F, nI_0leT, nI_eq0T, nI_eq0F, nI_0ltT, nI_0ltF, nI_le0T, nI_le0F, nI_m1, nI_m1', m1_m1, m1_lt, m1_le, nI_mul, nI_add, nI_sub, nI_add1, nI_dec, nI_div, nI_mod, vp_inD, sf_nkD, sf_eqD, hdr, bI_t]
          refine w_virtP (c_X3_noteSwap g h I1 J hS1 hLS1 hO e3 q r (3 * i + sw) pq hev hevr hsw (by omega)) rfl rfl rfl (of_eq_true so_46) rfl (Nat.le_refl _) (Nat.le_refl _) ?_
          rintro R1 M1 ⟨rfl, w, I2, rfl, f1, f2, f3, f4, f5, f6, f7⟩
          simp (decide := true) (disch := (first | exact eq_false (by decide) | exact eq_true (by decide) | decide | omega)) only [lX3_findSteps_0, lX3_findSteps_20, lX3_findSteps_83, lX3_findSteps_89, bX3_findSteps_0, bX3_findSteps_20, bX3_findSteps_83, bX3_findSteps_89, (show qX3_findSteps.2.2.2.1 = none from rfl), am_rok_none, w_aload_n, w_getfield, w_goto, w_iadd, w_iaload, w_icmp_ge, w_iconst, w_if_eq, w_iinc, w_iload, w_iload_n, w_imul, w_istore, w_istore_n, w_laload, w_nop, w_return, w_swap, sa_36, sa_44, sg_15_1, sg_2_1, sg_35_0, sg_39_5, sg_46_0, sg_46_1, sg_46_2, cI_0, cI_1, cI_2, cI_3, am_lk0, am_lk1, am_ld_some, am_isI_i, am_isJ_j, am_isR_r, am_st_eq, am_rmv_nil, am_rmv_t, am_rmv_i, am_rmv_r, sf_SH, sj_SH, sf_eq, sf_nk, sf_na, sf_sf, am_args_i, am_args_r, am_args_n, Nat.reduceAdd, List.cons_append, List.nil_append, Option.toList, List.drop_succ_cons, List.drop_zero, am_RP, am_CP, am_PH, Fin.isValue, Fin.val_zero, Fin.val_one, am_f2, am_f3, true_and, and_true, true_implies, false_implies, not_false_eq_true, ne_eq, nI_clampD, nI_leT, nI_leF, nI_ltT, nI_ltF, nI_eqT, nI_eqF, nI_lt0F, nI_0leT, nI_eq0T, nI_eq0F, nI_0ltT, nI_0ltF, nI_le0T, nI_le0F, nI_m1, nI_m1', m1_m1, m1_lt, m1_le, nI_mul, nI_add, nI_sub, nI_add1, nI_dec, nI_div, nI_mod, vp_inD, sf_nkD, sf_eqD]
          obtain ⟨hw1, hw2⟩ := w_num hn f2
          refine ⟨_, _, ?_, ?_, mk (q + 1) (sw + 1) I2 ⟨by omega, by rw [nPR_t hPR, esw]⟩ (fun c hc => by rw [f1 c (by omega) (by omega)]; exact e2 c hc) (e3.fr (fun c d1 d2 => f1 c (by omega) (by omega))) ?_ ?_ (fun k d1 d2 => ?_) (fun j hj => ?_)⟩
          · omega
          · (simp (decide := true) only [am_has, am_lk0, am_lk1, and_self, true_and, and_true] <;> first | rfl | (refine ⟨?_, ?_⟩ <;> rfl) | (refine ⟨?_, ?_, ?_⟩ <;> rfl) | (refine ⟨?_, ?_, ?_, ?_⟩ <;> rfl))
          · by_cases hc : cnd (kF (nF fs q)) (kF (nF fs r)) (po (kdF fs) pq)
            · exact e4.put (by omega) hs3 (e6 sw (Nat.le_refl _) hs3).1 (f4 hc) (fun k hk hks => (f3 _ (by omega)).1) hw1 (fun j hj => (T_add hO hev hevr hsw j).1.trans ⟨fun h9 => h9.elim Or.inl (fun h8 => Or.inr ((hw2 j hj).mp h8.2)), fun h9 => h9.elim Or.inl (fun h8 => Or.inr ⟨hc, (hw2 j hj).mpr h8⟩)⟩)
            · exact (e4.fr (fun k hk => by
                by_cases hks : k = sw
                · rw [hks]; exact f5 hc
                · exact (f3 _ (by omega)).1)).cg (fun j _ => ⟨fun h9 => (T_add hO hev hevr hsw j).1.mpr (Or.inl h9), fun h9 => ((T_add hO hev hevr hsw j).1.mp h9).elim id (fun h8 => absurd h8.1 hc)⟩)
          · by_cases hc : cnd (kF (nF fs r)) (kF (nF fs q)) (po (kdF fs) pq)
            · exact e5.put (by omega) hs3 (e6 sw (Nat.le_refl _) hs3).2 (f6 hc) (fun k hk hks => (f3 _ (by omega)).2) hw1 (fun j hj => (T_add hO hev hevr hsw j).2.trans ⟨fun h9 => h9.elim Or.inl (fun h8 => Or.inr ((hw2 j hj).mp h8.2)), fun h9 => h9.elim Or.inl (fun h8 => Or.inr ⟨hc, (hw2 j hj).mpr h8⟩)⟩)
            · exact (e5.fr (fun k hk => by
                by_cases hks : k = sw
                · rw [hks]; exact f7 hc
                · exact (f3 _ (by omega)).2)).cg (fun j _ => ⟨fun h9 => (T_add hO hev hevr hsw j).2.mpr (Or.inl h9), fun h9 => ((T_add hO hev hevr hsw j).2.mp h9).elim id (fun h8 => absurd h8.1 hc)⟩)
          · rw [(f3 _ (by omega)).1, (f3 _ (by omega)).2]; exact e6 k (by omega) d2
          · rw [(f3 j (by omega)).1, (f3 j (by omega)).2]; exact e7 j hj
        · have hdr : decide (kF (nF fs r) = 1 ∨ kF (nF fs r) = 2) = false := decide_eq_false hevr
          simp (decide := true) (disch := (first | exact eq_false (by decide) | exact eq_true (by decide) | decide | omega)) only [lX3_findSteps_0, lX3_findSteps_20, lX3_findSteps_83, lX3_findSteps_89, bX3_findSteps_0, bX3_findSteps_20, bX3_findSteps_83, bX3_findSteps_89, (show qX3_findSteps.2.2.2.1 = none from rfl), am_rok_none, w_aload_n, w_getfield, w_goto, w_iadd, w_iaload, w_icmp_ge, w_iconst, w_if_eq, w_iinc, w_iload, w_iload_n, w_imul, w_istore, w_istore_n, w_laload, w_nop, w_return, w_swap, sa_36, sa_44, sg_15_1, sg_2_1, sg_35_0, sg_39_5, sg_46_0, sg_46_1, sg_46_2, cI_0, cI_1, cI_2, cI_3, am_lk0, am_lk1, am_ld_some, am_isI_i, am_isJ_j, am_isR_r, am_st_eq, am_rmv_nil, am_rmv_t, am_rmv_i, am_rmv_r, sf_SH, sj_SH, sf_eq, sf_nk, sf_na, sf_sf, am_args_i, am_args_r, am_args_n, Nat.reduceAdd, List.cons_append, List.nil_append, Option.toList, List.drop_succ_cons, List.drop_zero, am_RP, am_CP, am_PH, Fin.isValue, Fin.val_zero, Fin.val_one, am_f2, am_f3, true_and, and_true, true_implies, false_implies, not_false_eq_true, ne_eq, nI_clampD, nI_leT, nI_leF, nI_ltT, nI_ltF, nI_eqT, nI_eqF, nI_lt0F, nI_0leT, nI_eq0T, nI_eq0F, nI_0ltT, nI_0ltF, nI_le0T, nI_le0F, nI_m1, nI_m1', m1_m1, m1_lt, m1_le, nI_mul, nI_add, nI_sub, nI_add1, nI_dec, nI_div, nI_mod, vp_inD, sf_nkD, sf_eqD, hdr, bI_f]
          refine ⟨_, _, ?_, ?_, hskip (fun ⟨_, r', p', h7, h8, h9⟩ => hevr (by rw [← rval_inj hO.1 hO.2.1 (hO.uniq h7 hpq ▸ h8) hr]; exact h9))⟩
          · omega
          · (simp (decide := true) only [am_has, am_lk0, am_lk1, and_self, true_and, and_true] <;> first | rfl | (refine ⟨?_, ?_⟩ <;> rfl) | (refine ⟨?_, ?_, ?_⟩ <;> rfl) | (refine ⟨?_, ?_, ?_, ?_⟩ <;> rfl))
      · have hsw3 : sw ≤ 3 := by have := nPR_mono (fs := fs) (l := l) (show q ≤ fs.length by omega); omega
        simp (decide := true) (disch := (first | exact eq_false (by decide) | exact eq_true (by decide) | decide | omega)) only [lX3_findSteps_0, lX3_findSteps_20, lX3_findSteps_83, lX3_findSteps_89, bX3_findSteps_0, bX3_findSteps_20, bX3_findSteps_83, bX3_findSteps_89, (show qX3_findSteps.2.2.2.1 = none from rfl), am_rok_none, w_aload_n, w_getfield, w_goto, w_iadd, w_iaload, w_icmp_ge, w_iconst, w_if_eq, w_iinc, w_iload, w_iload_n, w_imul, w_istore, w_istore_n, w_laload, w_nop, w_return, w_swap, sa_36, sa_44, sg_15_1, sg_2_1, sg_35_0, sg_39_5, sg_46_0, sg_46_1, sg_46_2, cI_0, cI_1, cI_2, cI_3, am_lk0, am_lk1, am_ld_some, am_isI_i, am_isJ_j, am_isR_r, am_st_eq, am_rmv_nil, am_rmv_t, am_rmv_i, am_rmv_r, sf_SH, sj_SH, sf_eq, sf_nk, sf_na, sf_sf, am_args_i, am_args_r, am_args_n, Nat.reduceAdd, List.cons_append, List.nil_append, Option.toList, List.drop_succ_cons, List.drop_zero, am_RP, am_CP, am_PH, Fin.isValue, Fin.val_zero, Fin.val_one, am_f2, am_f3, true_and, and_true, true_implies, false_implies, not_false_eq_true, ne_eq, nI_clampD, nI_leT, nI_leF, nI_ltT, nI_ltF, nI_eqT, nI_eqF, nI_lt0F, nI_0leT, nI_eq0T, nI_eq0F, nI_0ltT, nI_0ltF, nI_le0T, nI_le0F, nI_m1, nI_m1', m1_m1, m1_lt, m1_le, nI_mul, nI_add, nI_sub, nI_add1, nI_dec, nI_div, nI_mod, vp_inD, sf_nkD, sf_eqD, hdq, bI_t]
        refine ⟨_, _, ?_, ?_, hskip (fun h9 => by rw [nPR_t h9] at hmono; omega)⟩
        · omega
        · (simp (decide := true) only [am_has, am_lk0, am_lk1, and_self, true_and, and_true] <;> first | rfl | (refine ⟨?_, ?_⟩ <;> rfl) | (refine ⟨?_, ?_, ?_⟩ <;> rfl) | (refine ⟨?_, ?_, ?_, ?_⟩ <;> rfl))
    · have hdq : decide (kF (nF fs q) = 1 ∨ kF (nF fs q) = 2) = false := decide_eq_false hev
      simp (decide := true) (disch := (first | exact eq_false (by decide) | exact eq_true (by decide) | decide | omega)) only [lX3_findSteps_0, lX3_findSteps_20, lX3_findSteps_83, lX3_findSteps_89, bX3_findSteps_0, bX3_findSteps_20, bX3_findSteps_83, bX3_findSteps_89, (show qX3_findSteps.2.2.2.1 = none from rfl), am_rok_none, w_aload_n, w_getfield, w_goto, w_iadd, w_iaload, w_icmp_ge, w_iconst, w_if_eq, w_iinc, w_iload, w_iload_n, w_imul, w_istore, w_istore_n, w_laload, w_nop, w_return, w_swap, sa_36, sa_44, sg_15_1, sg_2_1, sg_35_0, sg_39_5, sg_46_0, sg_46_1, sg_46_2, cI_0, cI_1, cI_2, cI_3, am_lk0, am_lk1, am_ld_some, am_isI_i, am_isJ_j, am_isR_r, am_st_eq, am_rmv_nil, am_rmv_t, am_rmv_i, am_rmv_r, sf_SH, sj_SH, sf_eq, sf_nk, sf_na, sf_sf, am_args_i, am_args_r, am_args_n, Nat.reduceAdd, List.cons_append, List.nil_append, Option.toList, List.drop_succ_cons, List.drop_zero, am_RP, am_CP, am_PH, Fin.isValue, Fin.val_zero, Fin.val_one, am_f2, am_f3, true_and, and_true, true_implies, false_implies, not_false_eq_true, ne_eq, nI_clampD, nI_leT, nI_leF, nI_ltT, nI_ltF, nI_eqT, nI_eqF, nI_lt0F, nI_0leT, nI_eq0T, nI_eq0F, nI_0ltT, nI_0ltF, nI_le0T, nI_le0F, nI_m1, nI_m1', m1_m1, m1_lt, m1_le, nI_mul, nI_add, nI_sub, nI_add1, nI_dec, nI_div, nI_mod, vp_inD, sf_nkD, sf_eqD, hdq, bI_f]
      refine ⟨_, _, ?_, ?_, hskip (fun h9 => hev h9.1)⟩
      · omega
      · (simp (decide := true) only [am_has, am_lk0, am_lk1, and_self, true_and, and_true] <;> first | rfl | (refine ⟨?_, ?_⟩ <;> rfl) | (refine ⟨?_, ?_, ?_⟩ <;> rfl) | (refine ⟨?_, ?_, ?_, ?_⟩ <;> rfl))
end CS1
