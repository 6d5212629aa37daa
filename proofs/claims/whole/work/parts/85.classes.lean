/-! the class' classes of readings -/
def EQo (cnt : Nat) (R : Nat → Nat → Prop) (i j : Nat) : Prop := CLo cnt R i j ∧ CLo cnt R j i
theorem EQo.sy {cnt : Nat} {R : Nat → Nat → Prop} {i j : Nat} (h : EQo cnt R i j) : EQo cnt R j i := ⟨h.2, h.1⟩
theorem EQo.tr {cnt : Nat} {R : Nat → Nat → Prop} {i j k : Nat} (h : EQo cnt R i j) (h2 : EQo cnt R j k) : EQo cnt R i k := ⟨h.1.tr h2.1, h2.2.tr h.2⟩
/-- the least reading of a class -/
def CLS (cnt : Nat) (R : Nat → Nat → Prop) (r m : Nat) : Prop := m < cnt ∧ EQo cnt R r m ∧ ∀ o, o < m → ¬ EQo cnt R r o
theorem CLS.uniq {cnt : Nat} {R : Nat → Nat → Prop} {r m m' : Nat} (h : CLS cnt R r m) (h' : CLS cnt R r m') : m = m' := by
  rcases Nat.lt_trichotomy m m' with h9 | h9 | h9
  · exact absurd h.2.1 (h'.2.2 m h9)
  · exact h9
  · exact absurd h'.2.1 (h.2.2 m' h9)
def WKo (cnt : Nat) (R : Nat → Nat → Prop) (r : Nat) : Prop := ∃ o, o < cnt ∧ CLo cnt R o r ∧ ¬ CLo cnt R r o
theorem WKo.cg {cnt : Nat} {R : Nat → Nat → Prop} {r x : Nat} (h : EQo cnt R r x) (hw : WKo cnt R r) : WKo cnt R x := by
  obtain ⟨o, h1, h2, h3⟩ := hw
  exact ⟨o, h1, h2.tr h.1, fun h9 => h3 (h.1.tr h9)⟩
def MKs (s : Nat) (I : Nat → Nat → Int32) : Prop := I 46 11 = nI s ∧ ∀ x, x < 720 → (∃ m, m ≤ s ∧ I 51 x = nI m) ∧ ∃ m, m ≤ s ∧ I 52 x = nI m
def FrC (I I' : Nat → Nat → Int32) : Prop := ∀ c, c < 46 ∨ 53 < c ∨ c = 47 ∨ c = 48 → I' c = I c
/-- a class is written -/
def WrC (cnt : Nat) (R : Nat → Nat → Prop) (k : Nat) (I I' : Nat → Nat → Int32) : Prop := (∀ x, x < cnt → EQo cnt R k x → I' 49 x = nI k ∧ ∃ b, I' 50 x = bI b ∧ (b = true ↔ WKo cnt R k)) ∧ ∀ x, cnt ≤ x ∨ ¬ EQo cnt R k x → I' 49 x = I 49 x ∧ I' 50 x = I 50 x
section KL1
variable (g : am_G) (h : Nat) (I : Nat → Nat → Int32) (J : Nat → Nat → Int64)
set_option maxRecDepth 100000 in
set_option maxHeartbeats 8000000 in
theorem c_X3_formClass (cnt s k : Nat) (R : Nat → Nat → Prop) (hc : cnt ≤ 720) (hk : k < cnt) (hrow1 : ∀ x, x < cnt → RowT 47 (3 * x) 3 cnt (R x) I) (hrow2 : ∀ x, x < cnt → RowT 48 (3 * x) 3 cnt (fun y => R y x) I) (hs : MKs s I) (hs2 : s + 1 < 2147483648) :
    am_Ctr g am_mt 1 (h + 2) 31 [.ref 46, .int (nI k)] (am_SH, I, J) 0 0 (fun r' M => r' = none ∧ ∃ I', M = (am_SH, I', J) ∧ FrC I I' ∧ I' 46 3 = I 46 3 ∧ MKs (s + 1) I' ∧ WrC cnt R k I I') := by
  have hrv1 : ∀ y, CLo cnt (fun x y => R y x) k y ↔ CLo cnt R y k := fun y => ⟨fun h9 => h9.rv (fun a b _ _ h8 => h8), fun h9 => h9.rv (fun a b _ _ h8 => h8)⟩
  obtain ⟨JJ, hJJ⟩ : ∃ JJ : Nat → am_Cut, JJ = (fun zu zpc zl zst zM zk zn => (∃ (kk : Nat) (b : Bool) (Q1 Q2 : List Nat) (I1 : Nat → Nat → Int32), zu = 1000 + (Q2.length - kk) ∧ (kk ≤ Q2.length ∧ Q2.Nodup ∧ ∀ x ∈ Q2, x < cnt) ∧ (∀ y, y < cnt → (y ∈ Q1 ↔ CLo cnt R k y) ∧ (y ∈ Q2 ↔ CLo cnt R y k)) ∧ (FrC I I1 ∧ I1 46 3 = I 46 3 ∧ I1 46 11 = nI (s + 1) ∧ I1 50 = I 50) ∧ (∀ x, x < 720 → (x ∈ Q1 → I1 51 x = nI (s + 1)) ∧ (x ∉ Q1 → I1 51 x = I 51 x)) ∧ (∀ x, x < 720 → (x ∈ Q2 → I1 52 x = nI (s + 1)) ∧ (x ∉ Q2 → I1 52 x = I 52 x)) ∧ (∀ j, j < Q2.length → I1 53 j = nI (Q2.getD j 0)) ∧ (b = true ↔ seen (fun j => if Q2.getD j 0 ∈ Q1 then 1 else 0) kk 0) ∧ (∀ x, ((∃ j, j < kk ∧ Q2.getD j 0 = x) ∧ x ∈ Q1 → I1 49 x = nI k) ∧ (¬ ((∃ j, j < kk ∧ Q2.getD j 0 = x) ∧ x ∈ Q1) → I1 49 x = I 49 x)) ∧ zpc = 43 ∧ zl = [(0, .ref 46), (1, .int (nI k)), (2, .int (nI Q2.length)), (3, .int (bI b)), (4, .int (nI kk))] ∧ zst = [] ∧ zM = (am_SH, I1, J) ∧ zk = 0 ∧ zn = 0) ∨ (∃ (kk : Nat) (b : Bool) (Q1 Q2 : List Nat) (I1 : Nat → Nat → Int32), zu = Q2.length - kk ∧ (kk ≤ Q2.length ∧ Q2.Nodup ∧ ∀ x ∈ Q2, x < cnt) ∧ (∀ y, y < cnt → (y ∈ Q1 ↔ CLo cnt R k y) ∧ (y ∈ Q2 ↔ CLo cnt R y k)) ∧ (FrC I I1 ∧ I1 46 3 = I 46 3 ∧ I1 46 11 = nI (s + 1)) ∧ (∀ x, x < 720 → (x ∈ Q1 → I1 51 x = nI (s + 1)) ∧ (x ∉ Q1 → I1 51 x = I 51 x)) ∧ (∀ x, x < 720 → (x ∈ Q2 → I1 52 x = nI (s + 1)) ∧ (x ∉ Q2 → I1 52 x = I 52 x)) ∧ (∀ j, j < Q2.length → I1 53 j = nI (Q2.getD j 0)) ∧ (b = true ↔ seen (fun j => if Q2.getD j 0 ∈ Q1 then 1 else 0) Q2.length 0) ∧ (∀ x, ((x ∈ Q2 ∧ x ∈ Q1) → I1 49 x = nI k) ∧ (¬ (x ∈ Q2 ∧ x ∈ Q1) → I1 49 x = I 49 x)) ∧ (∀ x, ((∃ j, j < kk ∧ Q2.getD j 0 = x) ∧ x ∈ Q1 → I1 50 x = bI b) ∧ (¬ ((∃ j, j < kk ∧ Q2.getD j 0 = x) ∧ x ∈ Q1) → I1 50 x = I 50 x)) ∧ zpc = 95 ∧ zl = [(0, .ref 46), (1, .int (nI k)), (2, .int (nI Q2.length)), (3, .int (bI b)), (4, .int (nI kk))] ∧ zst = [] ∧ zM = (am_SH, I1, J) ∧ zk = 0 ∧ zn = 0)) := ⟨_, rfl⟩
  have mk1 : ∀ (kk : Nat) (b : Bool) (Q1 Q2 : List Nat) (I1 : Nat → Nat → Int32), (kk ≤ Q2.length ∧ Q2.Nodup ∧ ∀ x ∈ Q2, x < cnt) → (∀ y, y < cnt → (y ∈ Q1 ↔ CLo cnt R k y) ∧ (y ∈ Q2 ↔ CLo cnt R y k)) → (FrC I I1 ∧ I1 46 3 = I 46 3 ∧ I1 46 11 = nI (s + 1) ∧ I1 50 = I 50) → (∀ x, x < 720 → (x ∈ Q1 → I1 51 x = nI (s + 1)) ∧ (x ∉ Q1 → I1 51 x = I 51 x)) → (∀ x, x < 720 → (x ∈ Q2 → I1 52 x = nI (s + 1)) ∧ (x ∉ Q2 → I1 52 x = I 52 x)) → (∀ j, j < Q2.length → I1 53 j = nI (Q2.getD j 0)) → (b = true ↔ seen (fun j => if Q2.getD j 0 ∈ Q1 then 1 else 0) kk 0) → (∀ x, ((∃ j, j < kk ∧ Q2.getD j 0 = x) ∧ x ∈ Q1 → I1 49 x = nI k) ∧ (¬ ((∃ j, j < kk ∧ Q2.getD j 0 = x) ∧ x ∈ Q1) → I1 49 x = I 49 x)) → JJ (1000 + (Q2.length - kk)) 43 [(0, .ref 46), (1, .int (nI k)), (2, .int (nI Q2.length)), (3, .int (bI b)), (4, .int (nI kk))] [] (am_SH, I1, J) 0 0 := by
    intro kk b Q1 Q2 I1 a0 a1 a2 a3 a4 a5 a6 a7
    rw [hJJ]
    exact Or.inl ⟨kk, b, Q1, Q2, I1, rfl, a0, a1, a2, a3, a4, a5, a6, a7, rfl, rfl, rfl, rfl, rfl, rfl⟩
  have mk2 : ∀ (kk : Nat) (b : Bool) (Q1 Q2 : List Nat) (I1 : Nat → Nat → Int32), (kk ≤ Q2.length ∧ Q2.Nodup ∧ ∀ x ∈ Q2, x < cnt) → (∀ y, y < cnt → (y ∈ Q1 ↔ CLo cnt R k y) ∧ (y ∈ Q2 ↔ CLo cnt R y k)) → (FrC I I1 ∧ I1 46 3 = I 46 3 ∧ I1 46 11 = nI (s + 1)) → (∀ x, x < 720 → (x ∈ Q1 → I1 51 x = nI (s + 1)) ∧ (x ∉ Q1 → I1 51 x = I 51 x)) → (∀ x, x < 720 → (x ∈ Q2 → I1 52 x = nI (s + 1)) ∧ (x ∉ Q2 → I1 52 x = I 52 x)) → (∀ j, j < Q2.length → I1 53 j = nI (Q2.getD j 0)) → (b = true ↔ seen (fun j => if Q2.getD j 0 ∈ Q1 then 1 else 0) Q2.length 0) → (∀ x, ((x ∈ Q2 ∧ x ∈ Q1) → I1 49 x = nI k) ∧ (¬ (x ∈ Q2 ∧ x ∈ Q1) → I1 49 x = I 49 x)) → (∀ x, ((∃ j, j < kk ∧ Q2.getD j 0 = x) ∧ x ∈ Q1 → I1 50 x = bI b) ∧ (¬ ((∃ j, j < kk ∧ Q2.getD j 0 = x) ∧ x ∈ Q1) → I1 50 x = I 50 x)) → JJ (Q2.length - kk) 95 [(0, .ref 46), (1, .int (nI k)), (2, .int (nI Q2.length)), (3, .int (bI b)), (4, .int (nI kk))] [] (am_SH, I1, J) 0 0 := by
    intro kk b Q1 Q2 I1 a0 a1 a2 a3 a4 a5 a6 a7 a8
    rw [hJJ]
    exact Or.inr (⟨kk, b, Q1, Q2, I1, rfl, a0, a1, a2, a3, a4, a5, a6, a7, a8, rfl, rfl, rfl, rfl, rfl, rfl⟩)
  refine am_rule2 (q := qX3_formClass) (B := am_blk bX3_formClass) rfl rfl kX3_formClass nX3_formClass (Nat.le_of_ble_eq_true rfl) JJ (fun zu zpc zl zst zM zk zn hj => ?_) ?_
  rotate_left
  · refine ⟨60, ?_⟩
    have h11 := hs.1
    have hI0 : ∀ c, c ≠ 46 → ∀ v, sf I 46 11 v c = I c := fun c hc v => sf_naD hc
    simp (decide := true) (disch := (first | exact eq_false (by decide) | exact eq_true (by decide) | decide | omega)) only [lX3_formClass_0, lX3_formClass_43, lX3_formClass_84, lX3_formClass_86, lX3_formClass_92, lX3_formClass_95, lX3_formClass_133, lX3_formClass_139, bX3_formClass_0, bX3_formClass_43, bX3_formClass_84, bX3_formClass_86, bX3_formClass_92, bX3_formClass_95, bX3_formClass_133, bX3_formClass_139, (show qX3_formClass.2.2.2.1 = none from rfl), am_rok_none, w_aload_n, w_bastore, w_dup, w_getfield, w_goto, w_iadd, w_iaload, w_iastore, w_icmp_ge, w_icmp_ne, w_iconst, w_iinc, w_iload, w_iload_n, w_istore, w_istore_n, w_nop, w_pop, w_puti, w_return, w_swap, sa_47, sa_48, sa_49, sa_50, sa_51, sa_52, sa_53, sg_46_10, sg_46_11, sg_46_4, sg_46_5, sg_46_6, sg_46_7, sg_46_8, sg_46_9, sp_46_11, cI_0, cI_1, am_lk0, am_lk1, am_ld_some, am_isI_i, am_isJ_j, am_isR_r, am_st_eq, am_rmv_nil, am_rmv_t, am_rmv_i, am_rmv_r, sf_SH, sj_SH, sf_eq, sf_nk, sf_na, sf_sf, am_args_i, am_args_r, am_args_n, Nat.reduceAdd, List.cons_append, List.nil_append, Option.toList, List.drop_succ_cons, List.drop_zero, am_RP, am_CP, am_PH, Fin.isValue, Fin.val_zero, Fin.val_one, am_f2, am_f3, true_and, and_true, true_implies, false_implies, not_false_eq_true, ne_eq, nI_clampD, nI_leT, nI_leF, nI_ltT, nI_ltF, nI_eqT, nI_eqF, nI_lt0F, nI_0leT, nI_eq0T, nI_eq0F, nI_0ltT, nI_0ltF, nI_le0T, nI_le0F, nI_m1, nI_m1', m1_m1, m1_lt, m1_le, nI_mul, nI_add, nI_sub, nI_add1, nI_dec, nI_div, nI_mod, vp_inD, sf_nkD, sf_eqD, h11]
    have hp1 := c_X3_spread_47 g h (sf I 46 11 (nI (s + 1))) J cnt (s + 1) k R hc hk (fun x hx => (hrow1 x hx).fr (fun j _ => by rw [hI0 47 (by decide)])) (sf_eq _ _ _ _) hs2 (fun x hx => by
      obtain ⟨m, hm1, hm2⟩ := (hs.2 x hx).1
      exact ⟨m, by omega, by rw [hI0 51 (by decide)]; exact hm2⟩)
    refine w_virtP hp1 rfl rfl rfl (of_eq_true so_46) rfl (Nat.le_refl _) (Nat.le_refl _) ?_
    rintro R1 M1 ⟨Q1, I1, rfl, rfl, f1, f2, f3, f4, f5, f6⟩
    simp (decide := true) (disch := (first | exact eq_false (by decide) | exact eq_true (by decide) | decide | omega)) only [lX3_formClass_0, lX3_formClass_43, lX3_formClass_84, lX3_formClass_86, lX3_formClass_92, lX3_formClass_95, lX3_formClass_133, lX3_formClass_139, bX3_formClass_0, bX3_formClass_43, bX3_formClass_84, bX3_formClass_86, bX3_formClass_92, bX3_formClass_95, bX3_formClass_133, bX3_formClass_139, (show qX3_formClass.2.2.2.1 = none from rfl), am_rok_none, w_aload_n, w_bastore, w_dup, w_getfield, w_goto, w_iadd, w_iaload, w_iastore, w_icmp_ge, w_icmp_ne, w_iconst, w_iinc, w_iload, w_iload_n, w_istore, w_istore_n, w_nop, w_pop, w_puti, w_return, w_swap, sa_47, sa_48, sa_49, sa_50, sa_51, sa_52, sa_53, sg_46_10, sg_46_11, sg_46_4, sg_46_5, sg_46_6, sg_46_7, sg_46_8, sg_46_9, sp_46_11, cI_0, cI_1, am_lk0, am_lk1, am_ld_some, am_isI_i, am_isJ_j, am_isR_r, am_st_eq, am_rmv_nil, am_rmv_t, am_rmv_i, am_rmv_r, sf_SH, sj_SH, sf_eq, sf_nk, sf_na, sf_sf, am_args_i, am_args_r, am_args_n, Nat.reduceAdd, List.cons_append, List.nil_append, Option.toList, List.drop_succ_cons, List.drop_zero, am_RP, am_CP, am_PH, Fin.isValue, Fin.val_zero, Fin.val_one, am_f2, am_f3, true_and, and_true, true_implies, false_implies, not_false_eq_true, ne_eq, nI_clampD, nI_leT, nI_leF, nI_ltT, nI_ltF, nI_eqT, nI_eqF, nI_lt0F, nI_0leT, nI_eq0T, nI_eq0F, nI_0ltT, nI_0ltF, nI_le0T, nI_le0F, nI_m1, nI_m1', m1_m1, m1_lt, m1_le, nI_mul, nI_add, nI_sub, nI_add1, nI_dec, nI_div, nI_mod, vp_inD, sf_nkD, sf_eqD, am_cat_i]
    have hp2 := c_X3_spread_48 g h I1 J cnt (s + 1) k (fun x y => R y x) hc hk (fun x hx => (hrow2 x hx).fr (fun j _ => by rw [f1 48 (by decide) (by decide), hI0 48 (by decide)])) (by rw [f1 46 (by decide) (by decide), sf_eq]) hs2 (fun x hx => by
      obtain ⟨m, hm1, hm2⟩ := (hs.2 x hx).2
      exact ⟨m, by omega, by rw [f1 52 (by decide) (by decide), hI0 52 (by decide)]; exact hm2⟩)
    refine w_virtP hp2 rfl rfl rfl (of_eq_true so_46) rfl (Nat.le_refl _) (Nat.le_refl _) ?_
    rintro R1 M1 ⟨Q2, I2, rfl, rfl, g1, g2, g3, g4, g5, g6⟩
    simp (decide := true) (disch := (first | exact eq_false (by decide) | exact eq_true (by decide) | decide | omega)) only [lX3_formClass_0, lX3_formClass_43, lX3_formClass_84, lX3_formClass_86, lX3_formClass_92, lX3_formClass_95, lX3_formClass_133, lX3_formClass_139, bX3_formClass_0, bX3_formClass_43, bX3_formClass_84, bX3_formClass_86, bX3_formClass_92, bX3_formClass_95, bX3_formClass_133, bX3_formClass_139, (show qX3_formClass.2.2.2.1 = none from rfl), am_rok_none, w_aload_n, w_bastore, w_dup, w_getfield, w_goto, w_iadd, w_iaload, w_iastore, w_icmp_ge, w_icmp_ne, w_iconst, w_iinc, w_iload, w_iload_n, w_istore, w_istore_n, w_nop, w_pop, w_puti, w_return, w_swap, sa_47, sa_48, sa_49, sa_50, sa_51, sa_52, sa_53, sg_46_10, sg_46_11, sg_46_4, sg_46_5, sg_46_6, sg_46_7, sg_46_8, sg_46_9, sp_46_11, cI_0, cI_1, am_lk0, am_lk1, am_ld_some, am_isI_i, am_isJ_j, am_isR_r, am_st_eq, am_rmv_nil, am_rmv_t, am_rmv_i, am_rmv_r, sf_SH, sj_SH, sf_eq, sf_nk, sf_na, sf_sf, am_args_i, am_args_r, am_args_n, Nat.reduceAdd, List.cons_append, List.nil_append, Option.toList, List.drop_succ_cons, List.drop_zero, am_RP, am_CP, am_PH, Fin.isValue, Fin.val_zero, Fin.val_one, am_f2, am_f3, true_and, and_true, true_implies, false_implies, not_false_eq_true, ne_eq, nI_clampD, nI_leT, nI_leF, nI_ltT, nI_ltF, nI_eqT, nI_eqF, nI_lt0F, nI_0leT, nI_eq0T, nI_eq0F, nI_0ltT, nI_0ltF, nI_le0T, nI_le0F, nI_m1, nI_m1', m1_m1, m1_lt, m1_le, nI_mul, nI_add, nI_sub, nI_add1, nI_dec, nI_div, nI_mod, vp_inD, sf_nkD, sf_eqD]
    refine ⟨_, _, ?_, mk1 0 false Q1 Q2 I2 ⟨Nat.zero_le _, g2, g3⟩ (fun y hy => ⟨f6 y hy, (g6 y hy).trans (hrv1 y)⟩) ⟨fun c d => ?_, ?_, ?_, ?_⟩ (fun x hx => ?_) (fun x hx => ?_) g4 (seen_0 _ _) (fun x => ⟨fun h9 => absurd h9.1.choose_spec.1 (Nat.not_lt_zero _), fun _ => ?_⟩)⟩
    · (simp (decide := true) only [am_has, am_lk0, am_lk1, and_self, true_and, and_true] <;> first | rfl | (refine ⟨?_, ?_⟩ <;> rfl) | (refine ⟨?_, ?_, ?_⟩ <;> rfl) | (refine ⟨?_, ?_, ?_, ?_⟩ <;> rfl))
    · rw [g1 c (by omega) (by omega), f1 c (by omega) (by omega), hI0 c (by omega)]
    · rw [g1 46 (by decide) (by decide), f1 46 (by decide) (by decide), sf_nkD (by decide)]
    · rw [g1 46 (by decide) (by decide), f1 46 (by decide) (by decide), sf_eq]
    · rw [g1 50 (by decide) (by decide), f1 50 (by decide) (by decide), hI0 50 (by decide)]
    · rw [g1 51 (by decide) (by decide)]
      have := f5 x hx
      rw [hI0 51 (by decide)] at this
      exact this
    · have := g5 x hx
      rw [f1 52 (by decide) (by decide), hI0 52 (by decide)] at this
      exact this
    · rw [g1 49 (by decide) (by decide), f1 49 (by decide) (by decide), hI0 49 (by decide)]
  rw [hJJ] at hj
  clear hJJ
  rcases hj with ⟨kk, b, Q1, Q2, I1, rfl, e1, e2, e3, e4, e5, e6, e7, e8, rfl, rfl, rfl, rfl, rfl, rfl⟩ | ⟨kk, b, Q1, Q2, I1, rfl, e1, e2, e3, e4, e5, e6, e7, e8, e9, rfl, rfl, rfl, rfl, rfl, rfl⟩
  · refine ⟨_, 90, rfl, rfl, ?_⟩
    obtain ⟨a1, a2, a3⟩ := e1
    obtain ⟨c1, c2, c3, c4⟩ := e3
    have hql := nodup_len cnt Q2 a2 a3
    by_cases hkk : kk = Q2.length
    · subst hkk
      simp (decide := true) (disch := (first | exact eq_false (by decide) | exact eq_true (by decide) | decide | omega)) only [lX3_formClass_0, lX3_formClass_43, lX3_formClass_84, lX3_formClass_86, lX3_formClass_92, lX3_formClass_95, lX3_formClass_133, lX3_formClass_139, bX3_formClass_0, bX3_formClass_43, bX3_formClass_84, bX3_formClass_86, bX3_formClass_92, bX3_formClass_95, bX3_formClass_133, bX3_formClass_139, (show qX3_formClass.2.2.2.1 = none from rfl), am_rok_none, w_aload_n, w_bastore, w_dup, w_getfield, w_goto, w_iadd, w_iaload, w_iastore, w_icmp_ge, w_icmp_ne, w_iconst, w_iinc, w_iload, w_iload_n, w_istore, w_istore_n, w_nop, w_pop, w_puti, w_return, w_swap, sa_47, sa_48, sa_49, sa_50, sa_51, sa_52, sa_53, sg_46_10, sg_46_11, sg_46_4, sg_46_5, sg_46_6, sg_46_7, sg_46_8, sg_46_9, sp_46_11, cI_0, cI_1, am_lk0, am_lk1, am_ld_some, am_isI_i, am_isJ_j, am_isR_r, am_st_eq, am_rmv_nil, am_rmv_t, am_rmv_i, am_rmv_r, sf_SH, sj_SH, sf_eq, sf_nk, sf_na, sf_sf, am_args_i, am_args_r, am_args_n, Nat.reduceAdd, List.cons_append, List.nil_append, Option.toList, List.drop_succ_cons, List.drop_zero, am_RP, am_CP, am_PH, Fin.isValue, Fin.val_zero, Fin.val_one, am_f2, am_f3, true_and, and_true, true_implies, false_implies, not_false_eq_true, ne_eq, nI_clampD, nI_leT, nI_leF, nI_ltT, nI_ltF, nI_eqT, nI_eqF, nI_lt0F, nI_0leT, nI_eq0T, nI_eq0F, nI_0ltT, nI_0ltF, nI_le0T, nI_le0F, nI_m1, nI_m1', m1_m1, m1_lt, m1_le, nI_mul, nI_add, nI_sub, nI_add1, nI_dec, nI_div, nI_mod, vp_inD, sf_nkD, sf_eqD]
      refine ⟨_, _, ?_, ?_, mk2 0 b Q1 Q2 I1 ⟨Nat.zero_le _, a2, a3⟩ e2 ⟨c1, c2, c3⟩ e4 e5 e6 e7 (fun x => ⟨fun h9 => (e8 x).1 ⟨gD_of h9.1, h9.2⟩, fun h9 => (e8 x).2 (fun h8 => h9 ⟨?_, h8.2⟩)⟩) (fun x => ⟨fun h9 => absurd h9.1.choose_spec.1 (Nat.not_lt_zero _), fun _ => by rw [c4]⟩)⟩
      · omega
      · (simp (decide := true) only [am_has, am_lk0, am_lk1, and_self, true_and, and_true] <;> first | rfl | (refine ⟨?_, ?_⟩ <;> rfl) | (refine ⟨?_, ?_, ?_⟩ <;> rfl) | (refine ⟨?_, ?_, ?_, ?_⟩ <;> rfl))
      obtain ⟨⟨j, hj, hjx⟩, -⟩ := h8
      rw [← hjx]; exact gD_mem hj
    · have hq := gD_lt a3 (k := kk) (by omega)
      have k53 := e6 kk (by omega)
      have hnx : ∀ x, x ≠ Q2.getD kk 0 → ((∃ j, j < kk + 1 ∧ Q2.getD j 0 = x) ↔ (∃ j, j < kk ∧ Q2.getD j 0 = x)) := fun x hx => ⟨fun ⟨j, hj, h9⟩ => ⟨j, by
        by_cases hjk : j = kk
        · rw [hjk] at h9; exact absurd h9.symm hx
        · omega, h9⟩, fun ⟨j, hj, h9⟩ => ⟨j, by omega, h9⟩⟩
      by_cases hin : Q2.getD kk 0 ∈ Q1
      · have k51 := (e4 _ (by omega)).1 hin
        simp (decide := true) (disch := (first | exact eq_false (by decide) | exact eq_true (by decide) | decide | omega)) only [lX3_formClass_0, lX3_formClass_43, lX3_formClass_84, lX3_formClass_86, lX3_formClass_92, lX3_formClass_95, lX3_formClass_133, lX3_formClass_139, bX3_formClass_0, bX3_formClass_43, bX3_formClass_84, bX3_formClass_86, bX3_formClass_92, bX3_formClass_95, bX3_formClass_133, bX3_formClass_139, (show qX3_formClass.2.2.2.1 = none from rfl), am_rok_none, w_aload_n, w_bastore, w_dup, w_getfield, w_goto, w_iadd, w_iaload, w_iastore, w_icmp_ge, w_icmp_ne, w_iconst, w_iinc, w_iload, w_iload_n, w_istore, w_istore_n, w_nop, w_pop, w_puti, w_return, w_swap, sa_47, sa_48, sa_49, sa_50, sa_51, sa_52, sa_53, sg_46_10, sg_46_11, sg_46_4, sg_46_5, sg_46_6, sg_46_7, sg_46_8, sg_46_9, sp_46_11, cI_0, cI_1, am_lk0, am_lk1, am_ld_some, am_isI_i, am_isJ_j, am_isR_r, am_st_eq, am_rmv_nil, am_rmv_t, am_rmv_i, am_rmv_r, sf_SH, sj_SH, sf_eq, sf_nk, sf_na, sf_sf, am_args_i, am_args_r, am_args_n, Nat.reduceAdd, List.cons_append, List.nil_append, Option.toList, List.drop_succ_cons, List.drop_zero, am_RP, am_CP, am_PH, Fin.isValue, Fin.val_zero, Fin.val_one, am_f2, am_f3, true_and, and_true, true_implies, false_implies, not_false_eq_true, ne_eq, nI_clampD, nI_leT, nI_leF, nI_ltT, nI_ltF, nI_eqT, nI_eqF, nI_lt0F, nI_0leT, nI_eq0T, nI_eq0F, nI_0ltT, nI_0ltF, nI_le0T, nI_le0F, nI_m1, nI_m1', m1_m1, m1_lt, m1_le, nI_mul, nI_add, nI_sub, nI_add1, nI_dec, nI_div, nI_mod, vp_inD, sf_nkD, sf_eqD, k53, k51, c3]
        refine ⟨_, _, ?_, ?_, mk1 (kk + 1) b Q1 Q2 _ ⟨by omega, a2, a3⟩ e2 ⟨fun c d => by rw [sf_naD (by omega)]; exact c1 c d, by rw [sf_naD (by decide)]; exact c2, by rw [sf_naD (by decide)]; exact c3, by rw [sf_naD (by decide)]; exact c4⟩ (fun x hx => by rw [sf_naD (by decide)]; exact e4 x hx) (fun x hx => by rw [sf_naD (by decide)]; exact e5 x hx) (fun j hj => by rw [sf_naD (by decide)]; exact e6 j hj) ?_ (fun x => ?_)⟩
        · omega
        · (simp (decide := true) only [am_has, am_lk0, am_lk1, and_self, true_and, and_true] <;> first | rfl | (refine ⟨?_, ?_⟩ <;> rfl) | (refine ⟨?_, ?_, ?_⟩ <;> rfl) | (refine ⟨?_, ?_, ?_, ?_⟩ <;> rfl))
        · cases b with
          | true => exact seen_t e7 (Or.inr rfl)
          | false => exact seen_f e7 (by simp only [hin, if_true]; decide)
        · by_cases hx : x = Q2.getD kk 0
          · rw [sf_eqD hx]
            exact ⟨fun _ => rfl, fun h9 => absurd ⟨⟨kk, by omega, hx.symm⟩, by rw [hx]; exact hin⟩ h9⟩
          · rw [sf_nkD hx, hnx x hx]; exact e8 x
      · have k51 := (e4 _ (by omega)).2 hin
        obtain ⟨m, hm1, hm2⟩ := (hs.2 _ (show Q2.getD kk 0 < 720 by omega)).1
        rw [hm2] at k51
        simp (decide := true) (disch := (first | exact eq_false (by decide) | exact eq_true (by decide) | decide | omega)) only [lX3_formClass_0, lX3_formClass_43, lX3_formClass_84, lX3_formClass_86, lX3_formClass_92, lX3_formClass_95, lX3_formClass_133, lX3_formClass_139, bX3_formClass_0, bX3_formClass_43, bX3_formClass_84, bX3_formClass_86, bX3_formClass_92, bX3_formClass_95, bX3_formClass_133, bX3_formClass_139, (show qX3_formClass.2.2.2.1 = none from rfl), am_rok_none, w_aload_n, w_bastore, w_dup, w_getfield, w_goto, w_iadd, w_iaload, w_iastore, w_icmp_ge, w_icmp_ne, w_iconst, w_iinc, w_iload, w_iload_n, w_istore, w_istore_n, w_nop, w_pop, w_puti, w_return, w_swap, sa_47, sa_48, sa_49, sa_50, sa_51, sa_52, sa_53, sg_46_10, sg_46_11, sg_46_4, sg_46_5, sg_46_6, sg_46_7, sg_46_8, sg_46_9, sp_46_11, cI_0, cI_1, am_lk0, am_lk1, am_ld_some, am_isI_i, am_isJ_j, am_isR_r, am_st_eq, am_rmv_nil, am_rmv_t, am_rmv_i, am_rmv_r, sf_SH, sj_SH, sf_eq, sf_nk, sf_na, sf_sf, am_args_i, am_args_r, am_args_n, Nat.reduceAdd, List.cons_append, List.nil_append, Option.toList, List.drop_succ_cons, List.drop_zero, am_RP, am_CP, am_PH, Fin.isValue, Fin.val_zero, Fin.val_one, am_f2, am_f3, true_and, and_true, true_implies, false_implies, not_false_eq_true, ne_eq, nI_clampD, nI_leT, nI_leF, nI_ltT, nI_ltF, nI_eqT, nI_eqF, nI_lt0F, nI_0leT, nI_eq0T, nI_eq0F, nI_0ltT, nI_0ltF, nI_le0T, nI_le0F, nI_m1, nI_m1', m1_m1, m1_lt, m1_le, nI_mul, nI_add, nI_sub, nI_add1, nI_dec, nI_div, nI_mod, vp_inD, sf_nkD, sf_eqD, k53, k51, c3]
        refine ⟨_, _, ?_, ?_, mk1 (kk + 1) true Q1 Q2 I1 ⟨by omega, a2, a3⟩ e2 ⟨c1, c2, c3, c4⟩ e4 e5 e6 (seen_t e7 (Or.inl (if_neg hin))) (fun x => ?_)⟩
        · omega
        · (simp (decide := true) only [am_has, am_lk0, am_lk1, and_self, true_and, and_true] <;> first | rfl | (refine ⟨?_, ?_⟩ <;> rfl) | (refine ⟨?_, ?_, ?_⟩ <;> rfl) | (refine ⟨?_, ?_, ?_, ?_⟩ <;> rfl))
        by_cases hx : x = Q2.getD kk 0
        · refine ⟨fun h9 => absurd (hx ▸ h9.2) hin, fun _ => (e8 x).2 (fun h9 => hin (hx ▸ h9.2))⟩
        · rw [hnx x hx]; exact e8 x
  · refine ⟨_, 90, rfl, rfl, ?_⟩
    obtain ⟨a1, a2, a3⟩ := e1
    obtain ⟨c1, c2, c3⟩ := e3
    have hql := nodup_len cnt Q2 a2 a3
    by_cases hkk : kk = Q2.length
    · subst hkk
      have hEQ : ∀ x, x < cnt → (EQo cnt R k x ↔ x ∈ Q2 ∧ x ∈ Q1) := fun x hx => ⟨fun h9 => ⟨(e2 x hx).2.mpr h9.2, (e2 x hx).1.mpr h9.1⟩, fun h9 => ⟨(e2 x hx).1.mp h9.2, (e2 x hx).2.mp h9.1⟩⟩
      have hQ2 : ∀ x, (∃ j, j < Q2.length ∧ Q2.getD j 0 = x) ↔ x ∈ Q2 := fun x => ⟨fun ⟨j, hj, h9⟩ => by rw [← h9]; exact gD_mem hj, gD_of⟩
      have hwk : b = true ↔ WKo cnt R k := by
        rw [e7]
        constructor
        · rintro ⟨j, hj, h9⟩
          have h9 : (if Q2.getD j 0 ∈ Q1 then 1 else 0) = 0 := h9
          have hq := gD_lt a3 hj
          by_cases hin : Q2.getD j 0 ∈ Q1
          · rw [if_pos hin] at h9; cases h9
          · exact ⟨_, hq, (e2 _ hq).2.mp (gD_mem hj), fun h8 => hin ((e2 _ hq).1.mpr h8)⟩
        · rintro ⟨x, h1, h2, h3⟩
          obtain ⟨j, hj, hjx⟩ := gD_of ((e2 x h1).2.mpr h2)
          exact ⟨j, hj, if_neg (fun h8 => h3 ((e2 x h1).1.mp (hjx ▸ h8)))⟩
      simp (decide := true) (disch := (first | exact eq_false (by decide) | exact eq_true (by decide) | decide | omega)) only [lX3_formClass_0, lX3_formClass_43, lX3_formClass_84, lX3_formClass_86, lX3_formClass_92, lX3_formClass_95, lX3_formClass_133, lX3_formClass_139, bX3_formClass_0, bX3_formClass_43, bX3_formClass_84, bX3_formClass_86, bX3_formClass_92, bX3_formClass_95, bX3_formClass_133, bX3_formClass_139, (show qX3_formClass.2.2.2.1 = none from rfl), am_rok_none, w_aload_n, w_bastore, w_dup, w_getfield, w_goto, w_iadd, w_iaload, w_iastore, w_icmp_ge, w_icmp_ne, w_iconst, w_iinc, w_iload, w_iload_n, w_istore, w_istore_n, w_nop, w_pop, w_puti, w_return, w_swap, sa_47, sa_48, sa_49, sa_50, sa_51, sa_52, sa_53, sg_46_10, sg_46_11, sg_46_4, sg_46_5, sg_46_6, sg_46_7, sg_46_8, sg_46_9, sp_46_11, cI_0, cI_1, am_lk0, am_lk1, am_ld_some, am_isI_i, am_isJ_j, am_isR_r, am_st_eq, am_rmv_nil, am_rmv_t, am_rmv_i, am_rmv_r, sf_SH, sj_SH, sf_eq, sf_nk, sf_na, sf_sf, am_args_i, am_args_r, am_args_n, Nat.reduceAdd, List.cons_append, List.nil_append, Option.toList, List.drop_succ_cons, List.drop_zero, am_RP, am_CP, am_PH, Fin.isValue, Fin.val_zero, Fin.val_one, am_f2, am_f3, true_and, and_true, true_implies, false_implies, not_false_eq_true, ne_eq, nI_clampD, nI_leT, nI_leF, nI_ltT, nI_ltF, nI_eqT, nI_eqF, nI_lt0F, nI_0leT, nI_eq0T, nI_eq0F, nI_0ltT, nI_0ltF, nI_le0T, nI_le0F, nI_m1, nI_m1', m1_m1, m1_lt, m1_le, nI_mul, nI_add, nI_sub, nI_add1, nI_dec, nI_div, nI_mod, vp_inD, sf_nkD, sf_eqD]
      refine ⟨I1, rfl, c1, c2, ⟨c3, fun x hx => ⟨?_, ?_⟩⟩, fun x hx hE => ⟨(e8 x).1 ((hEQ x hx).mp hE), b, (e9 x).1 ⟨(hQ2 x).mpr ((hEQ x hx).mp hE).1, ((hEQ x hx).mp hE).2⟩, hwk⟩, fun x hx => ?_⟩
      · by_cases hin : x ∈ Q1
        · exact ⟨s + 1, Nat.le_refl _, (e4 x hx).1 hin⟩
        · obtain ⟨m, hm1, hm2⟩ := (hs.2 x hx).1
          exact ⟨m, by omega, by rw [(e4 x hx).2 hin]; exact hm2⟩
      · by_cases hin : x ∈ Q2
        · exact ⟨s + 1, Nat.le_refl _, (e5 x hx).1 hin⟩
        · obtain ⟨m, hm1, hm2⟩ := (hs.2 x hx).2
          exact ⟨m, by omega, by rw [(e5 x hx).2 hin]; exact hm2⟩
      · have hno : ¬ (x ∈ Q2 ∧ x ∈ Q1) := fun h9 => by
          have hxc := a3 x h9.1
          rcases hx with hx | hx
          · omega
          · exact hx ((hEQ x hxc).mpr h9)
        exact ⟨(e8 x).2 hno, (e9 x).2 (fun h9 => hno ⟨(hQ2 x).mp h9.1, h9.2⟩)⟩
    · have hq := gD_lt a3 (k := kk) (by omega)
      have k53 := e6 kk (by omega)
      have hnx : ∀ x, x ≠ Q2.getD kk 0 → ((∃ j, j < kk + 1 ∧ Q2.getD j 0 = x) ↔ (∃ j, j < kk ∧ Q2.getD j 0 = x)) := fun x hx => ⟨fun ⟨j, hj, h9⟩ => ⟨j, by
        by_cases hjk : j = kk
        · rw [hjk] at h9; exact absurd h9.symm hx
        · omega, h9⟩, fun ⟨j, hj, h9⟩ => ⟨j, by omega, h9⟩⟩
      by_cases hin : Q2.getD kk 0 ∈ Q1
      · have k51 := (e4 _ (by omega)).1 hin
        simp (decide := true) (disch := (first | exact eq_false (by decide) | exact eq_true (by decide) | decide | omega)) only [lX3_formClass_0, lX3_formClass_43, lX3_formClass_84, lX3_formClass_86, lX3_formClass_92, lX3_formClass_95, lX3_formClass_133, lX3_formClass_139, bX3_formClass_0, bX3_formClass_43, bX3_formClass_84, bX3_formClass_86, bX3_formClass_92, bX3_formClass_95, bX3_formClass_133, bX3_formClass_139, (show qX3_formClass.2.2.2.1 = none from rfl), am_rok_none, w_aload_n, w_bastore, w_dup, w_getfield, w_goto, w_iadd, w_iaload, w_iastore, w_icmp_ge, w_icmp_ne, w_iconst, w_iinc, w_iload, w_iload_n, w_istore, w_istore_n, w_nop, w_pop, w_puti, w_return, w_swap, sa_47, sa_48, sa_49, sa_50, sa_51, sa_52, sa_53, sg_46_10, sg_46_11, sg_46_4, sg_46_5, sg_46_6, sg_46_7, sg_46_8, sg_46_9, sp_46_11, cI_0, cI_1, am_lk0, am_lk1, am_ld_some, am_isI_i, am_isJ_j, am_isR_r, am_st_eq, am_rmv_nil, am_rmv_t, am_rmv_i, am_rmv_r, sf_SH, sj_SH, sf_eq, sf_nk, sf_na, sf_sf, am_args_i, am_args_r, am_args_n, Nat.reduceAdd, List.cons_append, List.nil_append, Option.toList, List.drop_succ_cons, List.drop_zero, am_RP, am_CP, am_PH, Fin.isValue, Fin.val_zero, Fin.val_one, am_f2, am_f3, true_and, and_true, true_implies, false_implies, not_false_eq_true, ne_eq, nI_clampD, nI_leT, nI_leF, nI_ltT, nI_ltF, nI_eqT, nI_eqF, nI_lt0F, nI_0leT, nI_eq0T, nI_eq0F, nI_0ltT, nI_0ltF, nI_le0T, nI_le0F, nI_m1, nI_m1', m1_m1, m1_lt, m1_le, nI_mul, nI_add, nI_sub, nI_add1, nI_dec, nI_div, nI_mod, vp_inD, sf_nkD, sf_eqD, k53, k51, c3, bI_01]
        refine ⟨_, _, ?_, ?_, mk2 (kk + 1) b Q1 Q2 _ ⟨by omega, a2, a3⟩ e2 ⟨fun c d => by rw [sf_naD (by omega)]; exact c1 c d, by rw [sf_naD (by decide)]; exact c2, by rw [sf_naD (by decide)]; exact c3⟩ (fun x hx => by rw [sf_naD (by decide)]; exact e4 x hx) (fun x hx => by rw [sf_naD (by decide)]; exact e5 x hx) (fun j hj => by rw [sf_naD (by decide)]; exact e6 j hj) e7 (fun x => by rw [sf_naD (by decide)]; exact e8 x) (fun x => ?_)⟩
        · omega
        · (simp (decide := true) only [am_has, am_lk0, am_lk1, and_self, true_and, and_true] <;> first | rfl | (refine ⟨?_, ?_⟩ <;> rfl) | (refine ⟨?_, ?_, ?_⟩ <;> rfl) | (refine ⟨?_, ?_, ?_, ?_⟩ <;> rfl))
        by_cases hx : x = Q2.getD kk 0
        · rw [sf_eqD hx]
          exact ⟨fun _ => rfl, fun h9 => absurd ⟨⟨kk, by omega, hx.symm⟩, by rw [hx]; exact hin⟩ h9⟩
        · rw [sf_nkD hx, hnx x hx]; exact e9 x
      · have k51 := (e4 _ (by omega)).2 hin
        obtain ⟨m, hm1, hm2⟩ := (hs.2 _ (show Q2.getD kk 0 < 720 by omega)).1
        rw [hm2] at k51
        simp (decide := true) (disch := (first | exact eq_false (by decide) | exact eq_true (by decide) | decide | omega)) only [lX3_formClass_0, lX3_formClass_43, lX3_formClass_84, lX3_formClass_86, lX3_formClass_92, lX3_formClass_95, lX3_formClass_133, lX3_formClass_139, bX3_formClass_0, bX3_formClass_43, bX3_formClass_84, bX3_formClass_86, bX3_formClass_92, bX3_formClass_95, bX3_formClass_133, bX3_formClass_139, (show qX3_formClass.2.2.2.1 = none from rfl), am_rok_none, w_aload_n, w_bastore, w_dup, w_getfield, w_goto, w_iadd, w_iaload, w_iastore, w_icmp_ge, w_icmp_ne, w_iconst, w_iinc, w_iload, w_iload_n, w_istore, w_istore_n, w_nop, w_pop, w_puti, w_return, w_swap, sa_47, sa_48, sa_49, sa_50, sa_51, sa_52, sa_53, sg_46_10, sg_46_11, sg_46_4, sg_46_5, sg_46_6, sg_46_7, sg_46_8, sg_46_9, sp_46_11, cI_0, cI_1, am_lk0, am_lk1, am_ld_some, am_isI_i, am_isJ_j, am_isR_r, am_st_eq, am_rmv_nil, am_rmv_t, am_rmv_i, am_rmv_r, sf_SH, sj_SH, sf_eq, sf_nk, sf_na, sf_sf, am_args_i, am_args_r, am_args_n, Nat.reduceAdd, List.cons_append, List.nil_append, Option.toList, List.drop_succ_cons, List.drop_zero, am_RP, am_CP, am_PH, Fin.isValue, Fin.val_zero, Fin.val_one, am_f2, am_f3, true_and, and_true, true_implies, false_implies, not_false_eq_true, ne_eq, nI_clampD, nI_leT, nI_leF, nI_ltT, nI_ltF, nI_eqT, nI_eqF, nI_lt0F, nI_0leT, nI_eq0T, nI_eq0F, nI_0ltT, nI_0ltF, nI_le0T, nI_le0F, nI_m1, nI_m1', m1_m1, m1_lt, m1_le, nI_mul, nI_add, nI_sub, nI_add1, nI_dec, nI_div, nI_mod, vp_inD, sf_nkD, sf_eqD, k53, k51, c3]
        refine ⟨_, _, ?_, ?_, mk2 (kk + 1) b Q1 Q2 I1 ⟨by omega, a2, a3⟩ e2 ⟨c1, c2, c3⟩ e4 e5 e6 e7 e8 (fun x => ?_)⟩
        · omega
        · (simp (decide := true) only [am_has, am_lk0, am_lk1, and_self, true_and, and_true] <;> first | rfl | (refine ⟨?_, ?_⟩ <;> rfl) | (refine ⟨?_, ?_, ?_⟩ <;> rfl) | (refine ⟨?_, ?_, ?_, ?_⟩ <;> rfl))
        by_cases hx : x = Q2.getD kk 0
        · refine ⟨fun h9 => absurd (hx ▸ h9.2) hin, fun _ => (e9 x).2 (fun h9 => hin (hx ▸ h9.2))⟩
        · rw [hnx x hx]; exact e9 x
end KL1
