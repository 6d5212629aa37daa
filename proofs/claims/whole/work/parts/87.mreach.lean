/-! the reference's reaching -/
def GOb (a cnt : Nat) (X : Nat → Bool) (I : Nat → Nat → Int32) : Prop := ∀ r, r < cnt → I a r = bI (X r)
def nX (cnt : Nat) (X : Nat → Bool) : Nat := (List.range cnt).countP X
theorem nX_le (cnt : Nat) (X : Nat → Bool) : nX cnt X ≤ cnt := by
  have := List.countP_le_length (p := X) (l := List.range cnt)
  rw [List.length_range] at this
  exact this
def subX (cnt : Nat) (X Y : Nat → Bool) : Prop := ∀ x, x < cnt → X x = true → Y x = true
def newX (cnt : Nat) (X Y : Nat → Bool) : Prop := ∃ y, y < cnt ∧ Y y = true ∧ X y = false
theorem nX_lt : ∀ {cnt : Nat} {X Y : Nat → Bool}, subX cnt X Y → newX cnt X Y → nX cnt X + 1 ≤ nX cnt Y
  | 0, X, Y, _, ⟨y, hy, _⟩ => absurd hy (Nat.not_lt_zero _)
  | n + 1, X, Y, hs, hnw => by
    have hs' : subX n X Y := fun x hx => hs x (by omega)
    have e : ∀ Z : Nat → Bool, nX (n + 1) Z = nX n Z + (if Z n = true then 1 else 0) := fun Z => by
      unfold nX
      rw [List.range_succ, List.countP_append, List.countP_singleton]
    have hmono : nX n X ≤ nX n Y := List.countP_mono_left (fun x hx h9 => hs' x (List.mem_range.mp hx) h9)
    rw [e, e]
    obtain ⟨y, hy, h1, h2⟩ := hnw
    by_cases hyn : y = n
    · subst hyn
      rw [if_pos h1, if_neg (by rw [h2]; decide)]
      omega
    · have := nX_lt hs' ⟨y, by omega, h1, h2⟩
      by_cases hxn : X n = true
      · rw [if_pos hxn, if_pos (hs n (by omega) hxn)]; omega
      · rw [if_neg hxn]; omega
def clsd (cnt : Nat) (R : Nat → Nat → Prop) (m : Nat) (X : Nat → Bool) : Prop := ∀ a b, a < m → b < cnt → X a = true → R a b → X b = true
def snd1 (cnt : Nat) (R : Nat → Nat → Prop) (i : Nat) (X : Nat → Bool) : Prop := ∀ x, x < cnt → X x = true → CLo cnt R i x
/-- of a round: nothing new so far, or something new -/
def rndG (cnt : Nat) (R : Nat → Nat → Prop) (m : Nat) (X0 X : Nat → Bool) (b : Bool) : Prop := subX cnt X0 X ∧ (b = true → newX cnt X0 X) ∧ (b = false → (∀ x, x < cnt → X x = X0 x) ∧ clsd cnt R m X)
def rwG (I : Nat → Nat → Int32) (cnt r k : Nat) (X : Nat → Bool) (b : Bool) : Prop := b = false → ∀ k', k' < k → ∀ y, y < cnt → X r = true → I 88 (4 * r + k') = nI y → X y = true
def addX (X : Nat → Bool) (y : Nat) : Nat → Bool := fun x => X x || decide (x = y)
section MC1
variable (g : am_G) (h : Nat) (I : Nat → Nat → Int32) (J : Nat → Nat → Int64)
set_option maxRecDepth 100000 in
set_option maxHeartbeats 8000000 in
theorem c_X10_goesFrom (cnt i : Nat) (R : Nat → Nat → Prop) (hc : cnt ≤ 720) (hi : i < cnt) (h29 : I 60 29 = nI cnt) (hrow : ∀ x, x < cnt → RowT 88 (4 * x) 4 cnt (R x) I) :
    am_Ctr g am_mt 1 (h + 1) 191 [.ref 60, .int (nI i)] (am_SH, I, J) 0 0 (fun r' M => r' = none ∧ ∃ I' X, M = (am_SH, I', J) ∧ (∀ c, c ≠ 89 → I' c = I c) ∧ GOb 89 cnt X I' ∧ ∀ x, x < cnt → (X x = true ↔ CLo cnt R i x)) := by
  obtain ⟨JJ, hJJ⟩ : ∃ JJ : Nat → am_Cut, JJ = (fun zu zpc zl zst zM zk zn => (∃ (r : Nat) (I1 : Nat → Nat → Int32), zu = 10000000 + (cnt - r) ∧ (r ≤ cnt) ∧ (∀ c, c ≠ 89 → I1 c = I c) ∧ (∀ x, x < r → I1 89 x = bI (decide (x = i))) ∧ zpc = 2 ∧ zl = [(0, .ref 60), (1, .int (nI i)), (2, .int (nI r))] ∧ zst = [] ∧ zM = (am_SH, I1, J) ∧ zk = 0 ∧ zn = 0) ∨ (∃ (rd : Nat) (b : Bool) (X : Nat → Bool) (I1 : Nat → Nat → Int32), zu = 10000 * (cnt - rd) ∧ (rd ≤ cnt ∧ (b = true → rd + 1 ≤ nX cnt X) ∧ X i = true) ∧ (∀ c, c ≠ 89 → I1 c = I c) ∧ (GOb 89 cnt X I1 ∧ snd1 cnt R i X) ∧ (b = false → clsd cnt R cnt X) ∧ zpc = 36 ∧ zl = [(0, .ref 60), (1, .int (nI i)), (2, .int (bI b)), (3, .int (nI rd))] ∧ zst = [] ∧ zM = (am_SH, I1, J) ∧ zk = 0 ∧ zn = 0) ∨ (∃ (rd r : Nat) (b : Bool) (X0 X : Nat → Bool) (I1 : Nat → Nat → Int32), zu = 10000 * (cnt - rd - 1) + 1 + 10 * (cnt - r) ∧ (rd < cnt ∧ r ≤ cnt ∧ rd + 1 ≤ nX cnt X0 ∧ X i = true) ∧ (∀ c, c ≠ 89 → I1 c = I c) ∧ (GOb 89 cnt X I1 ∧ snd1 cnt R i X) ∧ (rndG cnt R r X0 X b) ∧ zpc = 53 ∧ zl = [(0, .ref 60), (1, .int (nI i)), (2, .int (bI b)), (3, .int (nI rd)), (4, .int (nI r))] ∧ zst = [] ∧ zM = (am_SH, I1, J) ∧ zk = 0 ∧ zn = 0) ∨ (∃ (rd r k : Nat) (b : Bool) (X0 X : Nat → Bool) (I1 : Nat → Nat → Int32), zu = 10000 * (cnt - rd - 1) + 1 + 10 * (cnt - r - 1) + 1 + (4 - k) ∧ (rd < cnt ∧ r < cnt ∧ rd + 1 ≤ nX cnt X0 ∧ X i = true ∧ k ≤ 4) ∧ (∀ c, c ≠ 89 → I1 c = I c) ∧ (GOb 89 cnt X I1 ∧ snd1 cnt R i X) ∧ (rndG cnt R r X0 X b) ∧ (rwG I cnt r k X b) ∧ zpc = 65 ∧ zl = [(0, .ref 60), (1, .int (nI i)), (2, .int (bI b)), (3, .int (nI rd)), (4, .int (nI r)), (5, .int (nI k))] ∧ zst = [] ∧ zM = (am_SH, I1, J) ∧ zk = 0 ∧ zn = 0)) := ⟨_, rfl⟩
  have mk1 : ∀ (r : Nat) (I1 : Nat → Nat → Int32), (r ≤ cnt) → (∀ c, c ≠ 89 → I1 c = I c) → (∀ x, x < r → I1 89 x = bI (decide (x = i))) → JJ (10000000 + (cnt - r)) 2 [(0, .ref 60), (1, .int (nI i)), (2, .int (nI r))] [] (am_SH, I1, J) 0 0 := by
    intro r I1 a0 a1 a2
    rw [hJJ]
    exact Or.inl ⟨r, I1, rfl, a0, a1, a2, rfl, rfl, rfl, rfl, rfl, rfl⟩
  have mk2 : ∀ (rd : Nat) (b : Bool) (X : Nat → Bool) (I1 : Nat → Nat → Int32), (rd ≤ cnt ∧ (b = true → rd + 1 ≤ nX cnt X) ∧ X i = true) → (∀ c, c ≠ 89 → I1 c = I c) → (GOb 89 cnt X I1 ∧ snd1 cnt R i X) → (b = false → clsd cnt R cnt X) → JJ (10000 * (cnt - rd)) 36 [(0, .ref 60), (1, .int (nI i)), (2, .int (bI b)), (3, .int (nI rd))] [] (am_SH, I1, J) 0 0 := by
    intro rd b X I1 a0 a1 a2 a3
    rw [hJJ]
    exact Or.inr (Or.inl ⟨rd, b, X, I1, rfl, a0, a1, a2, a3, rfl, rfl, rfl, rfl, rfl, rfl⟩)
  have mk3 : ∀ (rd r : Nat) (b : Bool) (X0 X : Nat → Bool) (I1 : Nat → Nat → Int32), (rd < cnt ∧ r ≤ cnt ∧ rd + 1 ≤ nX cnt X0 ∧ X i = true) → (∀ c, c ≠ 89 → I1 c = I c) → (GOb 89 cnt X I1 ∧ snd1 cnt R i X) → (rndG cnt R r X0 X b) → JJ (10000 * (cnt - rd - 1) + 1 + 10 * (cnt - r)) 53 [(0, .ref 60), (1, .int (nI i)), (2, .int (bI b)), (3, .int (nI rd)), (4, .int (nI r))] [] (am_SH, I1, J) 0 0 := by
    intro rd r b X0 X I1 a0 a1 a2 a3
    rw [hJJ]
    exact Or.inr (Or.inr (Or.inl ⟨rd, r, b, X0, X, I1, rfl, a0, a1, a2, a3, rfl, rfl, rfl, rfl, rfl, rfl⟩))
  have mk4 : ∀ (rd r k : Nat) (b : Bool) (X0 X : Nat → Bool) (I1 : Nat → Nat → Int32), (rd < cnt ∧ r < cnt ∧ rd + 1 ≤ nX cnt X0 ∧ X i = true ∧ k ≤ 4) → (∀ c, c ≠ 89 → I1 c = I c) → (GOb 89 cnt X I1 ∧ snd1 cnt R i X) → (rndG cnt R r X0 X b) → (rwG I cnt r k X b) → JJ (10000 * (cnt - rd - 1) + 1 + 10 * (cnt - r - 1) + 1 + (4 - k)) 65 [(0, .ref 60), (1, .int (nI i)), (2, .int (bI b)), (3, .int (nI rd)), (4, .int (nI r)), (5, .int (nI k))] [] (am_SH, I1, J) 0 0 := by
    intro rd r k b X0 X I1 a0 a1 a2 a3 a4
    rw [hJJ]
    exact Or.inr (Or.inr (Or.inr (⟨rd, r, k, b, X0, X, I1, rfl, a0, a1, a2, a3, a4, rfl, rfl, rfl, rfl, rfl, rfl⟩)))
  refine am_rule2 (q := qX10_goesFrom) (B := am_blk bX10_goesFrom) rfl rfl kX10_goesFrom nX10_goesFrom (Nat.le_of_ble_eq_true rfl) JJ (fun zu zpc zl zst zM zk zn hj => ?_) ?_
  rotate_left
  · refine ⟨60, ?_⟩
    simp (decide := true) (disch := (first | exact eq_false (by decide) | exact eq_true (by decide) | decide | omega)) only [lX10_goesFrom_0, lX10_goesFrom_2, lX10_goesFrom_24, lX10_goesFrom_25, lX10_goesFrom_32, lX10_goesFrom_36, lX10_goesFrom_53, lX10_goesFrom_65, lX10_goesFrom_114, lX10_goesFrom_118, lX10_goesFrom_119, lX10_goesFrom_133, lX10_goesFrom_139, lX10_goesFrom_145, lX10_goesFrom_151, bX10_goesFrom_0, bX10_goesFrom_2, bX10_goesFrom_24, bX10_goesFrom_25, bX10_goesFrom_32, bX10_goesFrom_36, bX10_goesFrom_53, bX10_goesFrom_65, bX10_goesFrom_114, bX10_goesFrom_118, bX10_goesFrom_119, bX10_goesFrom_133, bX10_goesFrom_139, bX10_goesFrom_145, bX10_goesFrom_151, (show qX10_goesFrom.2.2.2.1 = none from rfl), am_rok_none, w_aload_n, w_baload, w_bastore, w_getfield, w_goto, w_iadd, w_iaload, w_icmp_ge, w_icmp_ne, w_iconst, w_if_eq, w_if_lt, w_if_ne, w_iinc, w_iload, w_iload_n, w_imul, w_istore, w_istore_n, w_nop, w_return, w_swap, sa_88, sa_89, sg_60_29, sg_60_43, sg_60_44, cI_0, cI_1, cI_4, am_lk0, am_lk1, am_ld_some, am_isI_i, am_isJ_j, am_isR_r, am_st_eq, am_rmv_nil, am_rmv_t, am_rmv_i, am_rmv_r, sf_SH, sj_SH, sf_eq, sf_nk, sf_na, sf_sf, am_args_i, am_args_r, am_args_n, Nat.reduceAdd, List.cons_append, List.nil_append, Option.toList, List.drop_succ_cons, List.drop_zero, am_RP, am_CP, am_PH, Fin.isValue, Fin.val_zero, Fin.val_one, am_f2, am_f3, true_and, and_true, true_implies, false_implies, not_false_eq_true, ne_eq, nI_clampD, nI_leT, nI_leF, nI_ltT, nI_ltF, nI_eqT, nI_eqF, nI_lt0F, nI_0leT, nI_eq0T, nI_eq0F, nI_0ltT, nI_0ltF, nI_le0T, nI_le0F, nI_m1, nI_m1', m1_m1, m1_lt, m1_le, nI_mul, nI_add, nI_sub, nI_add1, nI_dec, nI_div, nI_mod, vp_inD, sf_nkD, sf_eqD]
    refine ⟨_, _, ?_, mk1 0 I (by omega) (fun _ _ => rfl) (fun x hx => absurd hx (Nat.not_lt_zero _))⟩
    · (simp (decide := true) only [am_has, am_lk0, am_lk1, and_self, true_and, and_true] <;> first | rfl | (refine ⟨?_, ?_⟩ <;> rfl) | (refine ⟨?_, ?_, ?_⟩ <;> rfl) | (refine ⟨?_, ?_, ?_, ?_⟩ <;> rfl))
  rw [hJJ] at hj
  clear hJJ
  rcases hj with ⟨r, I1, rfl, e1, e2, e3, rfl, rfl, rfl, rfl, rfl, rfl⟩ | ⟨rd, b, X, I1, rfl, e1, e2, e3, e4, rfl, rfl, rfl, rfl, rfl, rfl⟩ | ⟨rd, r, b, X0, X, I1, rfl, e1, e2, e3, e4, rfl, rfl, rfl, rfl, rfl, rfl⟩ | ⟨rd, r, k, b, X0, X, I1, rfl, e1, e2, e3, e4, e5, rfl, rfl, rfl, rfl, rfl, rfl⟩
  · refine ⟨_, 60, rfl, rfl, ?_⟩
    have k29 : I1 60 29 = nI cnt := by rw [e2 60 (by decide)]; exact h29
    by_cases hr : r = cnt
    · subst hr
      simp (decide := true) (disch := (first | exact eq_false (by decide) | exact eq_true (by decide) | decide | omega)) only [lX10_goesFrom_0, lX10_goesFrom_2, lX10_goesFrom_24, lX10_goesFrom_25, lX10_goesFrom_32, lX10_goesFrom_36, lX10_goesFrom_53, lX10_goesFrom_65, lX10_goesFrom_114, lX10_goesFrom_118, lX10_goesFrom_119, lX10_goesFrom_133, lX10_goesFrom_139, lX10_goesFrom_145, lX10_goesFrom_151, bX10_goesFrom_0, bX10_goesFrom_2, bX10_goesFrom_24, bX10_goesFrom_25, bX10_goesFrom_32, bX10_goesFrom_36, bX10_goesFrom_53, bX10_goesFrom_65, bX10_goesFrom_114, bX10_goesFrom_118, bX10_goesFrom_119, bX10_goesFrom_133, bX10_goesFrom_139, bX10_goesFrom_145, bX10_goesFrom_151, (show qX10_goesFrom.2.2.2.1 = none from rfl), am_rok_none, w_aload_n, w_baload, w_bastore, w_getfield, w_goto, w_iadd, w_iaload, w_icmp_ge, w_icmp_ne, w_iconst, w_if_eq, w_if_lt, w_if_ne, w_iinc, w_iload, w_iload_n, w_imul, w_istore, w_istore_n, w_nop, w_return, w_swap, sa_88, sa_89, sg_60_29, sg_60_43, sg_60_44, cI_0, cI_1, cI_4, am_lk0, am_lk1, am_ld_some, am_isI_i, am_isJ_j, am_isR_r, am_st_eq, am_rmv_nil, am_rmv_t, am_rmv_i, am_rmv_r, sf_SH, sj_SH, sf_eq, sf_nk, sf_na, sf_sf, am_args_i, am_args_r, am_args_n, Nat.reduceAdd, List.cons_append, List.nil_append, Option.toList, List.drop_succ_cons, List.drop_zero, am_RP, am_CP, am_PH, Fin.isValue, Fin.val_zero, Fin.val_one, am_f2, am_f3, true_and, and_true, true_implies, false_implies, not_false_eq_true, ne_eq, nI_clampD, nI_leT, nI_leF, nI_ltT, nI_ltF, nI_eqT, nI_eqF, nI_lt0F, nI_0leT, nI_eq0T, nI_eq0F, nI_0ltT, nI_0ltF, nI_le0T, nI_le0F, nI_m1, nI_m1', m1_m1, m1_lt, m1_le, nI_mul, nI_add, nI_sub, nI_add1, nI_dec, nI_div, nI_mod, vp_inD, sf_nkD, sf_eqD, k29]
      refine ⟨_, _, ?_, ?_, mk2 0 true (fun x => decide (x = i)) I1 ⟨Nat.zero_le _, fun _ => ?_, decide_eq_true rfl⟩ e2 ⟨e3, fun x _ h9 => by rw [of_decide_eq_true h9]; exact CLo.rf _ _ _⟩ (fun h9 => by cases h9)⟩
      · omega
      · (simp (decide := true) only [am_has, am_lk0, am_lk1, and_self, true_and, and_true] <;> first | rfl | (refine ⟨?_, ?_⟩ <;> rfl) | (refine ⟨?_, ?_, ?_⟩ <;> rfl) | (refine ⟨?_, ?_, ?_, ?_⟩ <;> rfl))
      have := nX_lt (cnt := r) (X := fun _ => false) (Y := fun x => decide (x = i)) (fun x _ h9 => by cases h9) ⟨i, hi, decide_eq_true rfl, rfl⟩
      omega
    · by_cases hri : r = i
      · simp (decide := true) (disch := (first | exact eq_false (by decide) | exact eq_true (by decide) | decide | omega)) only [lX10_goesFrom_0, lX10_goesFrom_2, lX10_goesFrom_24, lX10_goesFrom_25, lX10_goesFrom_32, lX10_goesFrom_36, lX10_goesFrom_53, lX10_goesFrom_65, lX10_goesFrom_114, lX10_goesFrom_118, lX10_goesFrom_119, lX10_goesFrom_133, lX10_goesFrom_139, lX10_goesFrom_145, lX10_goesFrom_151, bX10_goesFrom_0, bX10_goesFrom_2, bX10_goesFrom_24, bX10_goesFrom_25, bX10_goesFrom_32, bX10_goesFrom_36, bX10_goesFrom_53, bX10_goesFrom_65, bX10_goesFrom_114, bX10_goesFrom_118, bX10_goesFrom_119, bX10_goesFrom_133, bX10_goesFrom_139, bX10_goesFrom_145, bX10_goesFrom_151, (show qX10_goesFrom.2.2.2.1 = none from rfl), am_rok_none, w_aload_n, w_baload, w_bastore, w_getfield, w_goto, w_iadd, w_iaload, w_icmp_ge, w_icmp_ne, w_iconst, w_if_eq, w_if_lt, w_if_ne, w_iinc, w_iload, w_iload_n, w_imul, w_istore, w_istore_n, w_nop, w_return, w_swap, sa_88, sa_89, sg_60_29, sg_60_43, sg_60_44, cI_0, cI_1, cI_4, am_lk0, am_lk1, am_ld_some, am_isI_i, am_isJ_j, am_isR_r, am_st_eq, am_rmv_nil, am_rmv_t, am_rmv_i, am_rmv_r, sf_SH, sj_SH, sf_eq, sf_nk, sf_na, sf_sf, am_args_i, am_args_r, am_args_n, Nat.reduceAdd, List.cons_append, List.nil_append, Option.toList, List.drop_succ_cons, List.drop_zero, am_RP, am_CP, am_PH, Fin.isValue, Fin.val_zero, Fin.val_one, am_f2, am_f3, true_and, and_true, true_implies, false_implies, not_false_eq_true, ne_eq, nI_clampD, nI_leT, nI_leF, nI_ltT, nI_ltF, nI_eqT, nI_eqF, nI_lt0F, nI_0leT, nI_eq0T, nI_eq0F, nI_0ltT, nI_0ltF, nI_le0T, nI_le0F, nI_m1, nI_m1', m1_m1, m1_lt, m1_le, nI_mul, nI_add, nI_sub, nI_add1, nI_dec, nI_div, nI_mod, vp_inD, sf_nkD, sf_eqD, k29, hri, nI1_01]
        refine ⟨_, _, ?_, ?_, mk1 (i + 1) _ (by omega) (fun c hc => by rw [sf_naD hc]; exact e2 c hc) (fun x hx => ?_)⟩
        · omega
        · (simp (decide := true) only [am_has, am_lk0, am_lk1, and_self, true_and, and_true] <;> first | rfl | (refine ⟨?_, ?_⟩ <;> rfl) | (refine ⟨?_, ?_, ?_⟩ <;> rfl) | (refine ⟨?_, ?_, ?_, ?_⟩ <;> rfl))
        by_cases hxi : x = i
        · rw [sf_eqD hxi, decide_eq_true hxi]; rfl
        · rw [sf_nkD hxi]; exact e3 x (by omega)
      · simp (decide := true) (disch := (first | exact eq_false (by decide) | exact eq_true (by decide) | decide | omega)) only [lX10_goesFrom_0, lX10_goesFrom_2, lX10_goesFrom_24, lX10_goesFrom_25, lX10_goesFrom_32, lX10_goesFrom_36, lX10_goesFrom_53, lX10_goesFrom_65, lX10_goesFrom_114, lX10_goesFrom_118, lX10_goesFrom_119, lX10_goesFrom_133, lX10_goesFrom_139, lX10_goesFrom_145, lX10_goesFrom_151, bX10_goesFrom_0, bX10_goesFrom_2, bX10_goesFrom_24, bX10_goesFrom_25, bX10_goesFrom_32, bX10_goesFrom_36, bX10_goesFrom_53, bX10_goesFrom_65, bX10_goesFrom_114, bX10_goesFrom_118, bX10_goesFrom_119, bX10_goesFrom_133, bX10_goesFrom_139, bX10_goesFrom_145, bX10_goesFrom_151, (show qX10_goesFrom.2.2.2.1 = none from rfl), am_rok_none, w_aload_n, w_baload, w_bastore, w_getfield, w_goto, w_iadd, w_iaload, w_icmp_ge, w_icmp_ne, w_iconst, w_if_eq, w_if_lt, w_if_ne, w_iinc, w_iload, w_iload_n, w_imul, w_istore, w_istore_n, w_nop, w_return, w_swap, sa_88, sa_89, sg_60_29, sg_60_43, sg_60_44, cI_0, cI_1, cI_4, am_lk0, am_lk1, am_ld_some, am_isI_i, am_isJ_j, am_isR_r, am_st_eq, am_rmv_nil, am_rmv_t, am_rmv_i, am_rmv_r, sf_SH, sj_SH, sf_eq, sf_nk, sf_na, sf_sf, am_args_i, am_args_r, am_args_n, Nat.reduceAdd, List.cons_append, List.nil_append, Option.toList, List.drop_succ_cons, List.drop_zero, am_RP, am_CP, am_PH, Fin.isValue, Fin.val_zero, Fin.val_one, am_f2, am_f3, true_and, and_true, true_implies, false_implies, not_false_eq_true, ne_eq, nI_clampD, nI_leT, nI_leF, nI_ltT, nI_ltF, nI_eqT, nI_eqF, nI_lt0F, nI_0leT, nI_eq0T, nI_eq0F, nI_0ltT, nI_0ltF, nI_le0T, nI_le0F, nI_m1, nI_m1', m1_m1, m1_lt, m1_le, nI_mul, nI_add, nI_sub, nI_add1, nI_dec, nI_div, nI_mod, vp_inD, sf_nkD, sf_eqD, k29, nI0_01]
        refine ⟨_, _, ?_, ?_, mk1 (r + 1) _ (by omega) (fun c hc => by rw [sf_naD hc]; exact e2 c hc) (fun x hx => ?_)⟩
        · omega
        · (simp (decide := true) only [am_has, am_lk0, am_lk1, and_self, true_and, and_true] <;> first | rfl | (refine ⟨?_, ?_⟩ <;> rfl) | (refine ⟨?_, ?_, ?_⟩ <;> rfl) | (refine ⟨?_, ?_, ?_, ?_⟩ <;> rfl))
        by_cases hxr : x = r
        · rw [sf_eqD hxr, decide_eq_false (by rw [hxr]; exact hri)]; rfl
        · rw [sf_nkD hxr]; exact e3 x (by omega)
  · refine ⟨_, 60, rfl, rfl, ?_⟩
    obtain ⟨a1, a2, a3⟩ := e1
    have k29 : I1 60 29 = nI cnt := by rw [e2 60 (by decide)]; exact h29
    have hle := nX_le cnt X
    cases b with
    | false =>
      have hcl := e4 rfl
      have fin : ∃ I' X, (am_SH, I1, J) = (am_SH, I', J) ∧ (∀ c, c ≠ 89 → I' c = I c) ∧ GOb 89 cnt X I' ∧ ∀ x, x < cnt → (X x = true ↔ CLo cnt R i x) := ⟨I1, X, rfl, e2, e3.1, fun x hx => ⟨e3.2 x hx, fun h9 => h9 (fun y => X y = true) a3 (fun a b ha hb hX hR => hcl a b ha hb hX hR)⟩⟩
      by_cases hrd : rd = cnt
      · simp (decide := true) (disch := (first | exact eq_false (by decide) | exact eq_true (by decide) | decide | omega)) only [lX10_goesFrom_0, lX10_goesFrom_2, lX10_goesFrom_24, lX10_goesFrom_25, lX10_goesFrom_32, lX10_goesFrom_36, lX10_goesFrom_53, lX10_goesFrom_65, lX10_goesFrom_114, lX10_goesFrom_118, lX10_goesFrom_119, lX10_goesFrom_133, lX10_goesFrom_139, lX10_goesFrom_145, lX10_goesFrom_151, bX10_goesFrom_0, bX10_goesFrom_2, bX10_goesFrom_24, bX10_goesFrom_25, bX10_goesFrom_32, bX10_goesFrom_36, bX10_goesFrom_53, bX10_goesFrom_65, bX10_goesFrom_114, bX10_goesFrom_118, bX10_goesFrom_119, bX10_goesFrom_133, bX10_goesFrom_139, bX10_goesFrom_145, bX10_goesFrom_151, (show qX10_goesFrom.2.2.2.1 = none from rfl), am_rok_none, w_aload_n, w_baload, w_bastore, w_getfield, w_goto, w_iadd, w_iaload, w_icmp_ge, w_icmp_ne, w_iconst, w_if_eq, w_if_lt, w_if_ne, w_iinc, w_iload, w_iload_n, w_imul, w_istore, w_istore_n, w_nop, w_return, w_swap, sa_88, sa_89, sg_60_29, sg_60_43, sg_60_44, cI_0, cI_1, cI_4, am_lk0, am_lk1, am_ld_some, am_isI_i, am_isJ_j, am_isR_r, am_st_eq, am_rmv_nil, am_rmv_t, am_rmv_i, am_rmv_r, sf_SH, sj_SH, sf_eq, sf_nk, sf_na, sf_sf, am_args_i, am_args_r, am_args_n, Nat.reduceAdd, List.cons_append, List.nil_append, Option.toList, List.drop_succ_cons, List.drop_zero, am_RP, am_CP, am_PH, Fin.isValue, Fin.val_zero, Fin.val_one, am_f2, am_f3, true_and, and_true, true_implies, false_implies, not_false_eq_true, ne_eq, nI_clampD, nI_leT, nI_leF, nI_ltT, nI_ltF, nI_eqT, nI_eqF, nI_lt0F, nI_0leT, nI_eq0T, nI_eq0F, nI_0ltT, nI_0ltF, nI_le0T, nI_le0F, nI_m1, nI_m1', m1_m1, m1_lt, m1_le, nI_mul, nI_add, nI_sub, nI_add1, nI_dec, nI_div, nI_mod, vp_inD, sf_nkD, sf_eqD, k29, bI_f]
        exact fin
      · simp (decide := true) (disch := (first | exact eq_false (by decide) | exact eq_true (by decide) | decide | omega)) only [lX10_goesFrom_0, lX10_goesFrom_2, lX10_goesFrom_24, lX10_goesFrom_25, lX10_goesFrom_32, lX10_goesFrom_36, lX10_goesFrom_53, lX10_goesFrom_65, lX10_goesFrom_114, lX10_goesFrom_118, lX10_goesFrom_119, lX10_goesFrom_133, lX10_goesFrom_139, lX10_goesFrom_145, lX10_goesFrom_151, bX10_goesFrom_0, bX10_goesFrom_2, bX10_goesFrom_24, bX10_goesFrom_25, bX10_goesFrom_32, bX10_goesFrom_36, bX10_goesFrom_53, bX10_goesFrom_65, bX10_goesFrom_114, bX10_goesFrom_118, bX10_goesFrom_119, bX10_goesFrom_133, bX10_goesFrom_139, bX10_goesFrom_145, bX10_goesFrom_151, (show qX10_goesFrom.2.2.2.1 = none from rfl), am_rok_none, w_aload_n, w_baload, w_bastore, w_getfield, w_goto, w_iadd, w_iaload, w_icmp_ge, w_icmp_ne, w_iconst, w_if_eq, w_if_lt, w_if_ne, w_iinc, w_iload, w_iload_n, w_imul, w_istore, w_istore_n, w_nop, w_return, w_swap, sa_88, sa_89, sg_60_29, sg_60_43, sg_60_44, cI_0, cI_1, cI_4, am_lk0, am_lk1, am_ld_some, am_isI_i, am_isJ_j, am_isR_r, am_st_eq, am_rmv_nil, am_rmv_t, am_rmv_i, am_rmv_r, sf_SH, sj_SH, sf_eq, sf_nk, sf_na, sf_sf, am_args_i, am_args_r, am_args_n, Nat.reduceAdd, List.cons_append, List.nil_append, Option.toList, List.drop_succ_cons, List.drop_zero, am_RP, am_CP, am_PH, Fin.isValue, Fin.val_zero, Fin.val_one, am_f2, am_f3, true_and, and_true, true_implies, false_implies, not_false_eq_true, ne_eq, nI_clampD, nI_leT, nI_leF, nI_ltT, nI_ltF, nI_eqT, nI_eqF, nI_lt0F, nI_0leT, nI_eq0T, nI_eq0F, nI_0ltT, nI_0ltF, nI_le0T, nI_le0F, nI_m1, nI_m1', m1_m1, m1_lt, m1_le, nI_mul, nI_add, nI_sub, nI_add1, nI_dec, nI_div, nI_mod, vp_inD, sf_nkD, sf_eqD, k29, bI_f]
        exact fin
    | true =>
      have a2 := a2 rfl
      have hrd : rd < cnt := by omega
      simp (decide := true) (disch := (first | exact eq_false (by decide) | exact eq_true (by decide) | decide | omega)) only [lX10_goesFrom_0, lX10_goesFrom_2, lX10_goesFrom_24, lX10_goesFrom_25, lX10_goesFrom_32, lX10_goesFrom_36, lX10_goesFrom_53, lX10_goesFrom_65, lX10_goesFrom_114, lX10_goesFrom_118, lX10_goesFrom_119, lX10_goesFrom_133, lX10_goesFrom_139, lX10_goesFrom_145, lX10_goesFrom_151, bX10_goesFrom_0, bX10_goesFrom_2, bX10_goesFrom_24, bX10_goesFrom_25, bX10_goesFrom_32, bX10_goesFrom_36, bX10_goesFrom_53, bX10_goesFrom_65, bX10_goesFrom_114, bX10_goesFrom_118, bX10_goesFrom_119, bX10_goesFrom_133, bX10_goesFrom_139, bX10_goesFrom_145, bX10_goesFrom_151, (show qX10_goesFrom.2.2.2.1 = none from rfl), am_rok_none, w_aload_n, w_baload, w_bastore, w_getfield, w_goto, w_iadd, w_iaload, w_icmp_ge, w_icmp_ne, w_iconst, w_if_eq, w_if_lt, w_if_ne, w_iinc, w_iload, w_iload_n, w_imul, w_istore, w_istore_n, w_nop, w_return, w_swap, sa_88, sa_89, sg_60_29, sg_60_43, sg_60_44, cI_0, cI_1, cI_4, am_lk0, am_lk1, am_ld_some, am_isI_i, am_isJ_j, am_isR_r, am_st_eq, am_rmv_nil, am_rmv_t, am_rmv_i, am_rmv_r, sf_SH, sj_SH, sf_eq, sf_nk, sf_na, sf_sf, am_args_i, am_args_r, am_args_n, Nat.reduceAdd, List.cons_append, List.nil_append, Option.toList, List.drop_succ_cons, List.drop_zero, am_RP, am_CP, am_PH, Fin.isValue, Fin.val_zero, Fin.val_one, am_f2, am_f3, true_and, and_true, true_implies, false_implies, not_false_eq_true, ne_eq, nI_clampD, nI_leT, nI_leF, nI_ltT, nI_ltF, nI_eqT, nI_eqF, nI_lt0F, nI_0leT, nI_eq0T, nI_eq0F, nI_0ltT, nI_0ltF, nI_le0T, nI_le0F, nI_m1, nI_m1', m1_m1, m1_lt, m1_le, nI_mul, nI_add, nI_sub, nI_add1, nI_dec, nI_div, nI_mod, vp_inD, sf_nkD, sf_eqD, k29, bI_t]
      refine ⟨_, _, ?_, ?_, mk3 rd 0 false X X I1 ⟨hrd, by omega, a2, a3⟩ e2 e3 ⟨fun x _ h9 => h9, fun h9 => (by cases h9), fun _ => ⟨fun _ _ => rfl, fun a b ha => absurd ha (Nat.not_lt_zero _)⟩⟩⟩
      · omega
      · (simp (decide := true) only [am_has, am_lk0, am_lk1, and_self, true_and, and_true] <;> first | rfl | (refine ⟨?_, ?_⟩ <;> rfl) | (refine ⟨?_, ?_, ?_⟩ <;> rfl) | (refine ⟨?_, ?_, ?_, ?_⟩ <;> rfl))
  · refine ⟨_, 60, rfl, rfl, ?_⟩
    obtain ⟨a1, a2, a3, a4⟩ := e1
    have k29 : I1 60 29 = nI cnt := by rw [e2 60 (by decide)]; exact h29
    by_cases hr : r = cnt
    · subst hr
      simp (decide := true) (disch := (first | exact eq_false (by decide) | exact eq_true (by decide) | decide | omega)) only [lX10_goesFrom_0, lX10_goesFrom_2, lX10_goesFrom_24, lX10_goesFrom_25, lX10_goesFrom_32, lX10_goesFrom_36, lX10_goesFrom_53, lX10_goesFrom_65, lX10_goesFrom_114, lX10_goesFrom_118, lX10_goesFrom_119, lX10_goesFrom_133, lX10_goesFrom_139, lX10_goesFrom_145, lX10_goesFrom_151, bX10_goesFrom_0, bX10_goesFrom_2, bX10_goesFrom_24, bX10_goesFrom_25, bX10_goesFrom_32, bX10_goesFrom_36, bX10_goesFrom_53, bX10_goesFrom_65, bX10_goesFrom_114, bX10_goesFrom_118, bX10_goesFrom_119, bX10_goesFrom_133, bX10_goesFrom_139, bX10_goesFrom_145, bX10_goesFrom_151, (show qX10_goesFrom.2.2.2.1 = none from rfl), am_rok_none, w_aload_n, w_baload, w_bastore, w_getfield, w_goto, w_iadd, w_iaload, w_icmp_ge, w_icmp_ne, w_iconst, w_if_eq, w_if_lt, w_if_ne, w_iinc, w_iload, w_iload_n, w_imul, w_istore, w_istore_n, w_nop, w_return, w_swap, sa_88, sa_89, sg_60_29, sg_60_43, sg_60_44, cI_0, cI_1, cI_4, am_lk0, am_lk1, am_ld_some, am_isI_i, am_isJ_j, am_isR_r, am_st_eq, am_rmv_nil, am_rmv_t, am_rmv_i, am_rmv_r, sf_SH, sj_SH, sf_eq, sf_nk, sf_na, sf_sf, am_args_i, am_args_r, am_args_n, Nat.reduceAdd, List.cons_append, List.nil_append, Option.toList, List.drop_succ_cons, List.drop_zero, am_RP, am_CP, am_PH, Fin.isValue, Fin.val_zero, Fin.val_one, am_f2, am_f3, true_and, and_true, true_implies, false_implies, not_false_eq_true, ne_eq, nI_clampD, nI_leT, nI_leF, nI_ltT, nI_ltF, nI_eqT, nI_eqF, nI_lt0F, nI_0leT, nI_eq0T, nI_eq0F, nI_0ltT, nI_0ltF, nI_le0T, nI_le0F, nI_m1, nI_m1', m1_m1, m1_lt, m1_le, nI_mul, nI_add, nI_sub, nI_add1, nI_dec, nI_div, nI_mod, vp_inD, sf_nkD, sf_eqD, k29]
      refine ⟨_, _, ?_, ?_, mk2 (rd + 1) b X I1 ⟨by omega, fun hb => ?_, a4⟩ e2 e3 (fun hb => (e4.2.2 hb).2)⟩
      · omega
      · (simp (decide := true) only [am_has, am_lk0, am_lk1, and_self, true_and, and_true] <;> first | rfl | (refine ⟨?_, ?_⟩ <;> rfl) | (refine ⟨?_, ?_, ?_⟩ <;> rfl) | (refine ⟨?_, ?_, ?_, ?_⟩ <;> rfl))
      have := nX_lt e4.1 (e4.2.1 hb)
      omega
    · simp (decide := true) (disch := (first | exact eq_false (by decide) | exact eq_true (by decide) | decide | omega)) only [lX10_goesFrom_0, lX10_goesFrom_2, lX10_goesFrom_24, lX10_goesFrom_25, lX10_goesFrom_32, lX10_goesFrom_36, lX10_goesFrom_53, lX10_goesFrom_65, lX10_goesFrom_114, lX10_goesFrom_118, lX10_goesFrom_119, lX10_goesFrom_133, lX10_goesFrom_139, lX10_goesFrom_145, lX10_goesFrom_151, bX10_goesFrom_0, bX10_goesFrom_2, bX10_goesFrom_24, bX10_goesFrom_25, bX10_goesFrom_32, bX10_goesFrom_36, bX10_goesFrom_53, bX10_goesFrom_65, bX10_goesFrom_114, bX10_goesFrom_118, bX10_goesFrom_119, bX10_goesFrom_133, bX10_goesFrom_139, bX10_goesFrom_145, bX10_goesFrom_151, (show qX10_goesFrom.2.2.2.1 = none from rfl), am_rok_none, w_aload_n, w_baload, w_bastore, w_getfield, w_goto, w_iadd, w_iaload, w_icmp_ge, w_icmp_ne, w_iconst, w_if_eq, w_if_lt, w_if_ne, w_iinc, w_iload, w_iload_n, w_imul, w_istore, w_istore_n, w_nop, w_return, w_swap, sa_88, sa_89, sg_60_29, sg_60_43, sg_60_44, cI_0, cI_1, cI_4, am_lk0, am_lk1, am_ld_some, am_isI_i, am_isJ_j, am_isR_r, am_st_eq, am_rmv_nil, am_rmv_t, am_rmv_i, am_rmv_r, sf_SH, sj_SH, sf_eq, sf_nk, sf_na, sf_sf, am_args_i, am_args_r, am_args_n, Nat.reduceAdd, List.cons_append, List.nil_append, Option.toList, List.drop_succ_cons, List.drop_zero, am_RP, am_CP, am_PH, Fin.isValue, Fin.val_zero, Fin.val_one, am_f2, am_f3, true_and, and_true, true_implies, false_implies, not_false_eq_true, ne_eq, nI_clampD, nI_leT, nI_leF, nI_ltT, nI_ltF, nI_eqT, nI_eqF, nI_lt0F, nI_0leT, nI_eq0T, nI_eq0F, nI_0ltT, nI_0ltF, nI_le0T, nI_le0F, nI_m1, nI_m1', m1_m1, m1_lt, m1_le, nI_mul, nI_add, nI_sub, nI_add1, nI_dec, nI_div, nI_mod, vp_inD, sf_nkD, sf_eqD, k29]
      refine ⟨_, _, ?_, ?_, mk4 rd r 0 b X0 X I1 ⟨a1, by omega, a3, a4, by omega⟩ e2 e3 e4 (fun _ k' hk' => absurd hk' (Nat.not_lt_zero _))⟩
      · omega
      · (simp (decide := true) only [am_has, am_lk0, am_lk1, and_self, true_and, and_true] <;> first | rfl | (refine ⟨?_, ?_⟩ <;> rfl) | (refine ⟨?_, ?_, ?_⟩ <;> rfl) | (refine ⟨?_, ?_, ?_, ?_⟩ <;> rfl))
  · refine ⟨_, 90, rfl, rfl, ?_⟩
    obtain ⟨a1, a2, a3, a4, a5⟩ := e1
    have hr := hrow r a2
    have k89 := e3.1 r a2
    have k88 : I1 88 = I 88 := e2 88 (by decide)
    have nxt : (b = false → X r = true → k = 4) → JJ (10000 * (cnt - rd - 1) + 1 + 10 * (cnt - (r + 1))) 53 [(0, .ref 60), (1, .int (nI i)), (2, .int (bI b)), (3, .int (nI rd)), (4, .int (nI (r + 1)))] [] (am_SH, I1, J) 0 0 := fun h9 => mk3 rd (r + 1) b X0 X I1 ⟨a1, by omega, a3, a4⟩ e2 e3 ⟨e4.1, e4.2.1, fun hb => ⟨(e4.2.2 hb).1, fun a y ha hy hX hR => by
      by_cases har : a = r
      · subst har
        obtain ⟨k', hk', h8⟩ := (hr.2 y hy).mpr hR
        exact e5 hb k' (by rw [h9 hb hX]; exact hk') y hy hX h8
      · exact (e4.2.2 hb).2 a y (by omega) hy hX hR⟩⟩
    by_cases hk4 : k = 4
    · simp (decide := true) (disch := (first | exact eq_false (by decide) | exact eq_true (by decide) | decide | omega)) only [lX10_goesFrom_0, lX10_goesFrom_2, lX10_goesFrom_24, lX10_goesFrom_25, lX10_goesFrom_32, lX10_goesFrom_36, lX10_goesFrom_53, lX10_goesFrom_65, lX10_goesFrom_114, lX10_goesFrom_118, lX10_goesFrom_119, lX10_goesFrom_133, lX10_goesFrom_139, lX10_goesFrom_145, lX10_goesFrom_151, bX10_goesFrom_0, bX10_goesFrom_2, bX10_goesFrom_24, bX10_goesFrom_25, bX10_goesFrom_32, bX10_goesFrom_36, bX10_goesFrom_53, bX10_goesFrom_65, bX10_goesFrom_114, bX10_goesFrom_118, bX10_goesFrom_119, bX10_goesFrom_133, bX10_goesFrom_139, bX10_goesFrom_145, bX10_goesFrom_151, (show qX10_goesFrom.2.2.2.1 = none from rfl), am_rok_none, w_aload_n, w_baload, w_bastore, w_getfield, w_goto, w_iadd, w_iaload, w_icmp_ge, w_icmp_ne, w_iconst, w_if_eq, w_if_lt, w_if_ne, w_iinc, w_iload, w_iload_n, w_imul, w_istore, w_istore_n, w_nop, w_return, w_swap, sa_88, sa_89, sg_60_29, sg_60_43, sg_60_44, cI_0, cI_1, cI_4, am_lk0, am_lk1, am_ld_some, am_isI_i, am_isJ_j, am_isR_r, am_st_eq, am_rmv_nil, am_rmv_t, am_rmv_i, am_rmv_r, sf_SH, sj_SH, sf_eq, sf_nk, sf_na, sf_sf, am_args_i, am_args_r, am_args_n, Nat.reduceAdd, List.cons_append, List.nil_append, Option.toList, List.drop_succ_cons, List.drop_zero, am_RP, am_CP, am_PH, Fin.isValue, Fin.val_zero, Fin.val_one, am_f2, am_f3, true_and, and_true, true_implies, false_implies, not_false_eq_true, ne_eq, nI_clampD, nI_leT, nI_leF, nI_ltT, nI_ltF, nI_eqT, nI_eqF, nI_lt0F, nI_0leT, nI_eq0T, nI_eq0F, nI_0ltT, nI_0ltF, nI_le0T, nI_le0F, nI_m1, nI_m1', m1_m1, m1_lt, m1_le, nI_mul, nI_add, nI_sub, nI_add1, nI_dec, nI_div, nI_mod, vp_inD, sf_nkD, sf_eqD, hk4]
      refine ⟨_, _, ?_, ?_, nxt (fun _ _ => hk4)⟩
      · omega
      · (simp (decide := true) only [am_has, am_lk0, am_lk1, and_self, true_and, and_true] <;> first | rfl | (refine ⟨?_, ?_⟩ <;> rfl) | (refine ⟨?_, ?_, ?_⟩ <;> rfl) | (refine ⟨?_, ?_, ?_, ?_⟩ <;> rfl))
    · cases hXr : X r with
      | false =>
        rw [hXr] at k89
        simp (decide := true) (disch := (first | exact eq_false (by decide) | exact eq_true (by decide) | decide | omega)) only [lX10_goesFrom_0, lX10_goesFrom_2, lX10_goesFrom_24, lX10_goesFrom_25, lX10_goesFrom_32, lX10_goesFrom_36, lX10_goesFrom_53, lX10_goesFrom_65, lX10_goesFrom_114, lX10_goesFrom_118, lX10_goesFrom_119, lX10_goesFrom_133, lX10_goesFrom_139, lX10_goesFrom_145, lX10_goesFrom_151, bX10_goesFrom_0, bX10_goesFrom_2, bX10_goesFrom_24, bX10_goesFrom_25, bX10_goesFrom_32, bX10_goesFrom_36, bX10_goesFrom_53, bX10_goesFrom_65, bX10_goesFrom_114, bX10_goesFrom_118, bX10_goesFrom_119, bX10_goesFrom_133, bX10_goesFrom_139, bX10_goesFrom_145, bX10_goesFrom_151, (show qX10_goesFrom.2.2.2.1 = none from rfl), am_rok_none, w_aload_n, w_baload, w_bastore, w_getfield, w_goto, w_iadd, w_iaload, w_icmp_ge, w_icmp_ne, w_iconst, w_if_eq, w_if_lt, w_if_ne, w_iinc, w_iload, w_iload_n, w_imul, w_istore, w_istore_n, w_nop, w_return, w_swap, sa_88, sa_89, sg_60_29, sg_60_43, sg_60_44, cI_0, cI_1, cI_4, am_lk0, am_lk1, am_ld_some, am_isI_i, am_isJ_j, am_isR_r, am_st_eq, am_rmv_nil, am_rmv_t, am_rmv_i, am_rmv_r, sf_SH, sj_SH, sf_eq, sf_nk, sf_na, sf_sf, am_args_i, am_args_r, am_args_n, Nat.reduceAdd, List.cons_append, List.nil_append, Option.toList, List.drop_succ_cons, List.drop_zero, am_RP, am_CP, am_PH, Fin.isValue, Fin.val_zero, Fin.val_one, am_f2, am_f3, true_and, and_true, true_implies, false_implies, not_false_eq_true, ne_eq, nI_clampD, nI_leT, nI_leF, nI_ltT, nI_ltF, nI_eqT, nI_eqF, nI_lt0F, nI_0leT, nI_eq0T, nI_eq0F, nI_0ltT, nI_0ltF, nI_le0T, nI_le0F, nI_m1, nI_m1', m1_m1, m1_lt, m1_le, nI_mul, nI_add, nI_sub, nI_add1, nI_dec, nI_div, nI_mod, vp_inD, sf_nkD, sf_eqD, k89, bI_f]
        refine ⟨_, _, ?_, ?_, nxt (fun _ h9 => by rw [hXr] at h9; cases h9)⟩
        · omega
        · (simp (decide := true) only [am_has, am_lk0, am_lk1, and_self, true_and, and_true] <;> first | rfl | (refine ⟨?_, ?_⟩ <;> rfl) | (refine ⟨?_, ?_, ?_⟩ <;> rfl) | (refine ⟨?_, ?_, ?_, ?_⟩ <;> rfl))
      | true =>
        rw [hXr] at k89
        rcases hr.1 k (by omega) with hneg | ⟨y, hy, hyv⟩
        · have e0 : (I 88 (4 * r + k) < 0) = True := by rw [hneg]; exact m1_lt
          have stay : JJ (10000 * (cnt - rd - 1) + 1 + 10 * (cnt - r - 1) + 1 + (4 - (k + 1))) 65 [(0, .ref 60), (1, .int (nI i)), (2, .int (bI b)), (3, .int (nI rd)), (4, .int (nI r)), (5, .int (nI (k + 1)))] [] (am_SH, I1, J) 0 0 := mk4 rd r (k + 1) b X0 X I1 ⟨a1, a2, a3, a4, by omega⟩ e2 e3 e4 (fun hb k' hk' z hz hX h9 => by
            by_cases hkk : k' = k
            · subst hkk
              rw [hneg] at h9
              exact absurd h9 (of_eq_false (nI_m1' (by omega)))
            · exact e5 hb k' (by omega) z hz hX h9)
          cases b with
          | true =>
            simp (decide := true) (disch := (first | exact eq_false (by decide) | exact eq_true (by decide) | decide | omega)) only [lX10_goesFrom_0, lX10_goesFrom_2, lX10_goesFrom_24, lX10_goesFrom_25, lX10_goesFrom_32, lX10_goesFrom_36, lX10_goesFrom_53, lX10_goesFrom_65, lX10_goesFrom_114, lX10_goesFrom_118, lX10_goesFrom_119, lX10_goesFrom_133, lX10_goesFrom_139, lX10_goesFrom_145, lX10_goesFrom_151, bX10_goesFrom_0, bX10_goesFrom_2, bX10_goesFrom_24, bX10_goesFrom_25, bX10_goesFrom_32, bX10_goesFrom_36, bX10_goesFrom_53, bX10_goesFrom_65, bX10_goesFrom_114, bX10_goesFrom_118, bX10_goesFrom_119, bX10_goesFrom_133, bX10_goesFrom_139, bX10_goesFrom_145, bX10_goesFrom_151, (show qX10_goesFrom.2.2.2.1 = none from rfl), am_rok_none, w_aload_n, w_baload, w_bastore, w_getfield, w_goto, w_iadd, w_iaload, w_icmp_ge, w_icmp_ne, w_iconst, w_if_eq, w_if_lt, w_if_ne, w_iinc, w_iload, w_iload_n, w_imul, w_istore, w_istore_n, w_nop, w_return, w_swap, sa_88, sa_89, sg_60_29, sg_60_43, sg_60_44, cI_0, cI_1, cI_4, am_lk0, am_lk1, am_ld_some, am_isI_i, am_isJ_j, am_isR_r, am_st_eq, am_rmv_nil, am_rmv_t, am_rmv_i, am_rmv_r, sf_SH, sj_SH, sf_eq, sf_nk, sf_na, sf_sf, am_args_i, am_args_r, am_args_n, Nat.reduceAdd, List.cons_append, List.nil_append, Option.toList, List.drop_succ_cons, List.drop_zero, am_RP, am_CP, am_PH, Fin.isValue, Fin.val_zero, Fin.val_one, am_f2, am_f3, true_and, and_true, true_implies, false_implies, not_false_eq_true, ne_eq, nI_clampD, nI_leT, nI_leF, nI_ltT, nI_ltF, nI_eqT, nI_eqF, nI_lt0F, nI_0leT, nI_eq0T, nI_eq0F, nI_0ltT, nI_0ltF, nI_le0T, nI_le0F, nI_m1, nI_m1', m1_m1, m1_lt, m1_le, nI_mul, nI_add, nI_sub, nI_add1, nI_dec, nI_div, nI_mod, vp_inD, sf_nkD, sf_eqD, k89, bI_t, k88, e0]
            refine ⟨_, _, ?_, ?_, stay⟩
            · omega
            · (simp (decide := true) only [am_has, am_lk0, am_lk1, and_self, true_and, and_true] <;> first | rfl | (refine ⟨?_, ?_⟩ <;> rfl) | (refine ⟨?_, ?_, ?_⟩ <;> rfl) | (refine ⟨?_, ?_, ?_, ?_⟩ <;> rfl))
          | false =>
            simp (decide := true) (disch := (first | exact eq_false (by decide) | exact eq_true (by decide) | decide | omega)) only [lX10_goesFrom_0, lX10_goesFrom_2, lX10_goesFrom_24, lX10_goesFrom_25, lX10_goesFrom_32, lX10_goesFrom_36, lX10_goesFrom_53, lX10_goesFrom_65, lX10_goesFrom_114, lX10_goesFrom_118, lX10_goesFrom_119, lX10_goesFrom_133, lX10_goesFrom_139, lX10_goesFrom_145, lX10_goesFrom_151, bX10_goesFrom_0, bX10_goesFrom_2, bX10_goesFrom_24, bX10_goesFrom_25, bX10_goesFrom_32, bX10_goesFrom_36, bX10_goesFrom_53, bX10_goesFrom_65, bX10_goesFrom_114, bX10_goesFrom_118, bX10_goesFrom_119, bX10_goesFrom_133, bX10_goesFrom_139, bX10_goesFrom_145, bX10_goesFrom_151, (show qX10_goesFrom.2.2.2.1 = none from rfl), am_rok_none, w_aload_n, w_baload, w_bastore, w_getfield, w_goto, w_iadd, w_iaload, w_icmp_ge, w_icmp_ne, w_iconst, w_if_eq, w_if_lt, w_if_ne, w_iinc, w_iload, w_iload_n, w_imul, w_istore, w_istore_n, w_nop, w_return, w_swap, sa_88, sa_89, sg_60_29, sg_60_43, sg_60_44, cI_0, cI_1, cI_4, am_lk0, am_lk1, am_ld_some, am_isI_i, am_isJ_j, am_isR_r, am_st_eq, am_rmv_nil, am_rmv_t, am_rmv_i, am_rmv_r, sf_SH, sj_SH, sf_eq, sf_nk, sf_na, sf_sf, am_args_i, am_args_r, am_args_n, Nat.reduceAdd, List.cons_append, List.nil_append, Option.toList, List.drop_succ_cons, List.drop_zero, am_RP, am_CP, am_PH, Fin.isValue, Fin.val_zero, Fin.val_one, am_f2, am_f3, true_and, and_true, true_implies, false_implies, not_false_eq_true, ne_eq, nI_clampD, nI_leT, nI_leF, nI_ltT, nI_ltF, nI_eqT, nI_eqF, nI_lt0F, nI_0leT, nI_eq0T, nI_eq0F, nI_0ltT, nI_0ltF, nI_le0T, nI_le0F, nI_m1, nI_m1', m1_m1, m1_lt, m1_le, nI_mul, nI_add, nI_sub, nI_add1, nI_dec, nI_div, nI_mod, vp_inD, sf_nkD, sf_eqD, k89, bI_t, bI_f, k88, e0]
            refine ⟨_, _, ?_, ?_, stay⟩
            · omega
            · (simp (decide := true) only [am_has, am_lk0, am_lk1, and_self, true_and, and_true] <;> first | rfl | (refine ⟨?_, ?_⟩ <;> rfl) | (refine ⟨?_, ?_, ?_⟩ <;> rfl) | (refine ⟨?_, ?_, ?_, ?_⟩ <;> rfl))
        · have hR : R r y := (hr.2 y hy).mp ⟨k, by omega, hyv⟩
          have ky := e3.1 y hy
          have go : ∀ b', (b' = (b || !X y)) → JJ (10000 * (cnt - rd - 1) + 1 + 10 * (cnt - r - 1) + 1 + (4 - (k + 1))) 65 [(0, .ref 60), (1, .int (nI i)), (2, .int (bI b')), (3, .int (nI rd)), (4, .int (nI r)), (5, .int (nI (k + 1)))] [] (am_SH, sf I1 89 y (nI 1), J) 0 0 := by
            intro b' hb'
            have hadd : ∀ x, X x = true → addX X y x = true := fun x hx => by unfold addX; rw [hx]; rfl
            have hsame : X y = true → addX X y = X := fun h9 => by
              funext x
              unfold addX
              by_cases hxy : x = y
              · rw [hxy, h9]; rfl
              · rw [decide_eq_false hxy, Bool.or_false]
            have hbf : b' = false → b = false ∧ X y = true := fun h9 => by
              rw [hb'] at h9
              cases b with
              | true => cases h9
              | false => exact ⟨rfl, by simpa using h9⟩
            refine mk4 rd r (k + 1) b' X0 (addX X y) _ ⟨a1, a2, a3, hadd i a4, by omega⟩ (fun c hc => by rw [sf_naD hc]; exact e2 c hc) ⟨fun x hx => ?_, fun x hx h9 => ?_⟩ ⟨fun x hx h9 => hadd x (e4.1 x hx h9), fun h9 => ?_, fun h9 => ?_⟩ (fun h9 k' hk' z hz hX h8 => ?_)
            · by_cases hxy : x = y
              · rw [sf_eqD hxy]
                unfold addX
                rw [decide_eq_true hxy, Bool.or_true]
                rfl
              · rw [sf_nkD hxy, e3.1 x hx]
                unfold addX
                rw [decide_eq_false hxy, Bool.or_false]
            · by_cases hxy : x = y
              · rw [hxy]; exact (e3.2 r a2 hXr).st a2 hy hR
              · unfold addX at h9
                rw [decide_eq_false hxy, Bool.or_false] at h9
                exact e3.2 x hx h9
            · cases hbb : b with
              | true =>
                obtain ⟨z, hz, h7, h8⟩ := e4.2.1 hbb
                exact ⟨z, hz, hadd z h7, h8⟩
              | false =>
                rw [hb', hbb] at h9
                have hXy : X y = false := by simpa using h9
                exact ⟨y, hy, by unfold addX; rw [decide_eq_true rfl, Bool.or_true], by rw [← (e4.2.2 hbb).1 y hy]; exact hXy⟩
            · obtain ⟨h7, h8⟩ := hbf h9
              rw [hsame h8]
              exact e4.2.2 h7
            · obtain ⟨h6, h7⟩ := hbf h9
              rw [hsame h7] at hX ⊢
              by_cases hkk : k' = k
              · subst hkk
                rw [hyv] at h8
                have := (nI_eq (by omega) (by omega)).mp h8
                rw [← this]; exact h7
              · exact e5 h6 k' (by omega) z hz hX h8
          cases b with
          | true =>
            simp (decide := true) (disch := (first | exact eq_false (by decide) | exact eq_true (by decide) | decide | omega)) only [lX10_goesFrom_0, lX10_goesFrom_2, lX10_goesFrom_24, lX10_goesFrom_25, lX10_goesFrom_32, lX10_goesFrom_36, lX10_goesFrom_53, lX10_goesFrom_65, lX10_goesFrom_114, lX10_goesFrom_118, lX10_goesFrom_119, lX10_goesFrom_133, lX10_goesFrom_139, lX10_goesFrom_145, lX10_goesFrom_151, bX10_goesFrom_0, bX10_goesFrom_2, bX10_goesFrom_24, bX10_goesFrom_25, bX10_goesFrom_32, bX10_goesFrom_36, bX10_goesFrom_53, bX10_goesFrom_65, bX10_goesFrom_114, bX10_goesFrom_118, bX10_goesFrom_119, bX10_goesFrom_133, bX10_goesFrom_139, bX10_goesFrom_145, bX10_goesFrom_151, (show qX10_goesFrom.2.2.2.1 = none from rfl), am_rok_none, w_aload_n, w_baload, w_bastore, w_getfield, w_goto, w_iadd, w_iaload, w_icmp_ge, w_icmp_ne, w_iconst, w_if_eq, w_if_lt, w_if_ne, w_iinc, w_iload, w_iload_n, w_imul, w_istore, w_istore_n, w_nop, w_return, w_swap, sa_88, sa_89, sg_60_29, sg_60_43, sg_60_44, cI_0, cI_1, cI_4, am_lk0, am_lk1, am_ld_some, am_isI_i, am_isJ_j, am_isR_r, am_st_eq, am_rmv_nil, am_rmv_t, am_rmv_i, am_rmv_r, sf_SH, sj_SH, sf_eq, sf_nk, sf_na, sf_sf, am_args_i, am_args_r, am_args_n, Nat.reduceAdd, List.cons_append, List.nil_append, Option.toList, List.drop_succ_cons, List.drop_zero, am_RP, am_CP, am_PH, Fin.isValue, Fin.val_zero, Fin.val_one, am_f2, am_f3, true_and, and_true, true_implies, false_implies, not_false_eq_true, ne_eq, nI_clampD, nI_leT, nI_leF, nI_ltT, nI_ltF, nI_eqT, nI_eqF, nI_lt0F, nI_0leT, nI_eq0T, nI_eq0F, nI_0ltT, nI_0ltF, nI_le0T, nI_le0F, nI_m1, nI_m1', m1_m1, m1_lt, m1_le, nI_mul, nI_add, nI_sub, nI_add1, nI_dec, nI_div, nI_mod, vp_inD, sf_nkD, sf_eqD, k89, bI_t, k88, hyv, nI1_01]
            refine ⟨_, _, ?_, ?_, go true rfl⟩
            · omega
            · (simp (decide := true) only [am_has, am_lk0, am_lk1, and_self, true_and, and_true] <;> first | rfl | (refine ⟨?_, ?_⟩ <;> rfl) | (refine ⟨?_, ?_, ?_⟩ <;> rfl) | (refine ⟨?_, ?_, ?_, ?_⟩ <;> rfl))
          | false =>
            cases hXy : X y with
            | true =>
              rw [hXy] at ky
              simp (decide := true) (disch := (first | exact eq_false (by decide) | exact eq_true (by decide) | decide | omega)) only [lX10_goesFrom_0, lX10_goesFrom_2, lX10_goesFrom_24, lX10_goesFrom_25, lX10_goesFrom_32, lX10_goesFrom_36, lX10_goesFrom_53, lX10_goesFrom_65, lX10_goesFrom_114, lX10_goesFrom_118, lX10_goesFrom_119, lX10_goesFrom_133, lX10_goesFrom_139, lX10_goesFrom_145, lX10_goesFrom_151, bX10_goesFrom_0, bX10_goesFrom_2, bX10_goesFrom_24, bX10_goesFrom_25, bX10_goesFrom_32, bX10_goesFrom_36, bX10_goesFrom_53, bX10_goesFrom_65, bX10_goesFrom_114, bX10_goesFrom_118, bX10_goesFrom_119, bX10_goesFrom_133, bX10_goesFrom_139, bX10_goesFrom_145, bX10_goesFrom_151, (show qX10_goesFrom.2.2.2.1 = none from rfl), am_rok_none, w_aload_n, w_baload, w_bastore, w_getfield, w_goto, w_iadd, w_iaload, w_icmp_ge, w_icmp_ne, w_iconst, w_if_eq, w_if_lt, w_if_ne, w_iinc, w_iload, w_iload_n, w_imul, w_istore, w_istore_n, w_nop, w_return, w_swap, sa_88, sa_89, sg_60_29, sg_60_43, sg_60_44, cI_0, cI_1, cI_4, am_lk0, am_lk1, am_ld_some, am_isI_i, am_isJ_j, am_isR_r, am_st_eq, am_rmv_nil, am_rmv_t, am_rmv_i, am_rmv_r, sf_SH, sj_SH, sf_eq, sf_nk, sf_na, sf_sf, am_args_i, am_args_r, am_args_n, Nat.reduceAdd, List.cons_append, List.nil_append, Option.toList, List.drop_succ_cons, List.drop_zero, am_RP, am_CP, am_PH, Fin.isValue, Fin.val_zero, Fin.val_one, am_f2, am_f3, true_and, and_true, true_implies, false_implies, not_false_eq_true, ne_eq, nI_clampD, nI_leT, nI_leF, nI_ltT, nI_ltF, nI_eqT, nI_eqF, nI_lt0F, nI_0leT, nI_eq0T, nI_eq0F, nI_0ltT, nI_0ltF, nI_le0T, nI_le0F, nI_m1, nI_m1', m1_m1, m1_lt, m1_le, nI_mul, nI_add, nI_sub, nI_add1, nI_dec, nI_div, nI_mod, vp_inD, sf_nkD, sf_eqD, k89, bI_t, bI_f, k88, hyv, ky, nI1_01]
              refine ⟨_, _, ?_, ?_, go false (by rw [hXy]; rfl)⟩
              · omega
              · (simp (decide := true) only [am_has, am_lk0, am_lk1, and_self, true_and, and_true] <;> first | rfl | (refine ⟨?_, ?_⟩ <;> rfl) | (refine ⟨?_, ?_, ?_⟩ <;> rfl) | (refine ⟨?_, ?_, ?_, ?_⟩ <;> rfl))
            | false =>
              rw [hXy] at ky
              simp (decide := true) (disch := (first | exact eq_false (by decide) | exact eq_true (by decide) | decide | omega)) only [lX10_goesFrom_0, lX10_goesFrom_2, lX10_goesFrom_24, lX10_goesFrom_25, lX10_goesFrom_32, lX10_goesFrom_36, lX10_goesFrom_53, lX10_goesFrom_65, lX10_goesFrom_114, lX10_goesFrom_118, lX10_goesFrom_119, lX10_goesFrom_133, lX10_goesFrom_139, lX10_goesFrom_145, lX10_goesFrom_151, bX10_goesFrom_0, bX10_goesFrom_2, bX10_goesFrom_24, bX10_goesFrom_25, bX10_goesFrom_32, bX10_goesFrom_36, bX10_goesFrom_53, bX10_goesFrom_65, bX10_goesFrom_114, bX10_goesFrom_118, bX10_goesFrom_119, bX10_goesFrom_133, bX10_goesFrom_139, bX10_goesFrom_145, bX10_goesFrom_151, (show qX10_goesFrom.2.2.2.1 = none from rfl), am_rok_none, w_aload_n, w_baload, w_bastore, w_getfield, w_goto, w_iadd, w_iaload, w_icmp_ge, w_icmp_ne, w_iconst, w_if_eq, w_if_lt, w_if_ne, w_iinc, w_iload, w_iload_n, w_imul, w_istore, w_istore_n, w_nop, w_return, w_swap, sa_88, sa_89, sg_60_29, sg_60_43, sg_60_44, cI_0, cI_1, cI_4, am_lk0, am_lk1, am_ld_some, am_isI_i, am_isJ_j, am_isR_r, am_st_eq, am_rmv_nil, am_rmv_t, am_rmv_i, am_rmv_r, sf_SH, sj_SH, sf_eq, sf_nk, sf_na, sf_sf, am_args_i, am_args_r, am_args_n, Nat.reduceAdd, List.cons_append, List.nil_append, Option.toList, List.drop_succ_cons, List.drop_zero, am_RP, am_CP, am_PH, Fin.isValue, Fin.val_zero, Fin.val_one, am_f2, am_f3, true_and, and_true, true_implies, false_implies, not_false_eq_true, ne_eq, nI_clampD, nI_leT, nI_leF, nI_ltT, nI_ltF, nI_eqT, nI_eqF, nI_lt0F, nI_0leT, nI_eq0T, nI_eq0F, nI_0ltT, nI_0ltF, nI_le0T, nI_le0F, nI_m1, nI_m1', m1_m1, m1_lt, m1_le, nI_mul, nI_add, nI_sub, nI_add1, nI_dec, nI_div, nI_mod, vp_inD, sf_nkD, sf_eqD, k89, bI_t, bI_f, k88, hyv, ky, nI1_01]
              refine ⟨_, _, ?_, ?_, go true (by rw [hXy]; rfl)⟩
              · omega
              · (simp (decide := true) only [am_has, am_lk0, am_lk1, and_self, true_and, and_true] <;> first | rfl | (refine ⟨?_, ?_⟩ <;> rfl) | (refine ⟨?_, ?_, ?_⟩ <;> rfl) | (refine ⟨?_, ?_, ?_, ?_⟩ <;> rfl))
end MC1
