/-! conclusions of the class' graph -/
theorem am_cat_i (x : Int32) : ((Value.int x).category = 1) = True := eq_true rfl
theorem am_cat_r (x : Nat) : ((Value.ref x).category = 1) = True := eq_true rfl
/-- the edges that the class draws, read off its memory -/
def wB (I : Nat → Nat → Int32) (n x g : Nat) : Bool := decide (x < 2 * n) && (decide (g < n) && ib (I 33 x) g)
theorem wB_t {I : Nat → Nat → Int32} {n x g : Nat} : wB I n x g = true ↔ x < 2 * n ∧ g < n ∧ ib (I 33 x) g = true := by
  unfold wB
  rw [Bool.and_eq_true, Bool.and_eq_true, decide_eq_true_iff, decide_eq_true_iff]
def kdF (fs : List Fg) (f : Nat) : Nat := kF (nF fs f)
def FrW (I I' : Nat → Nat → Int32) : Prop := ∀ c, c ≠ 33 → c ≠ 34 → I' c = I c
/-- what is drawn holds in all readings, and holds all edges -/
def WG (fs : List Fg) (cs : List (Nat × Nat)) (I : Nat → Nat → Int32) : Prop := rsnd (kdF fs) (eE fs cs) fs.length (wB I fs.length) ∧ (∀ x g, EP fs cs x g → wB I fs.length x g = true) ∧ ∀ x, x < 2 * fs.length → ∀ g, g < 32 → ib (I 33 x) g = true → g < fs.length
theorem wB_cg {I I' : Nat → Nat → Int32} (h : I' 33 = I 33) (n : Nat) : wB I' n = wB I n := by
  funext x g
  unfold wB
  rw [h]
theorem WG.fr {fs : List Fg} {cs : List (Nat × Nat)} {I I' : Nat → Nat → Int32} (h : WG fs cs I) (h2 : I' 33 = I 33) : WG fs cs I' := by
  unfold WG at h ⊢
  rw [wB_cg h2, h2]
  exact h
/-- the class' conclusions stand -/
def GC (fs : List Fg) (cs : List (Nat × Nat)) (I : Nat → Nat → Int32) : Prop := WG fs cs I ∧ ∀ f, f < fs.length → Bp (I 34 f) (fun x => wB I fs.length x f = true)
theorem GC.fr {fs : List Fg} {cs : List (Nat × Nat)} {I I' : Nat → Nat → Int32} (h : GC fs cs I) (h2 : I' 33 = I 33) (h3 : I' 34 = I 34) : GC fs cs I' := by
  refine ⟨h.1.fr h2, fun f hf => ?_⟩
  rw [wB_cg h2, h3]
  exact h.2 f hf
theorem WG_0 {fs : List Fg} {cs : List (Nat × Nat)} {I : Nat → Nat → Int32} (hc : CSo fs cs) (hn : fs.length ≤ 11) (h : ∀ x, x < 2 * fs.length → Bp (I 33 x) (fun g => EP fs cs x g)) : WG fs cs I := by
  have e : ∀ x g, wB I fs.length x g = true ↔ EP fs cs x g := by
    intro x g
    rw [wB_t]
    constructor
    · intro h0
      exact (h x h0.1 g (by omega)).mp h0.2.2
    · intro h0
      have h1 := EP_lt hc h0
      have hx : x < 2 * fs.length := by omega
      exact ⟨hx, h1.2.1, (h x hx g (by omega)).mpr h0⟩
  refine ⟨?_, fun x g h0 => (e x g).mpr h0, fun x hx g hg h0 => ?_⟩
  · intro o l hv q hq x hx
    exact rsnd_E _ _ _ o l hv q hq x (eE_t.mpr ((e _ _).mp hx))
  · exact (EP_lt hc ((h x hx g hg).mp h0)).2.1
theorem WG_step {fs : List Fg} {cs : List (Nat × Nat)} {I : Nat → Nat → Int32} (h : WG fs cs I) (hn : fs.length ≤ 11) {m y : Nat} (hm : m < fs.length) (hy : y < 2 * fs.length) (hb : ib (I 33 y) m = true) : WG fs cs (sf I 33 y (I 33 y ||| (I 33 (2 * m) ||| I 33 (2 * m + 1)))) := by
  obtain ⟨h1, h2, h3⟩ := h
  refine ⟨rsnd_step h1 (fun x g hx => ?_), fun x g hx => ?_, fun x hx g hg h0 => ?_⟩
  · rw [wB_t] at hx
    by_cases hxy : x = y
    · rw [sf_eqD hxy, ib_or, ib_or, Bool.or_eq_true, Bool.or_eq_true] at hx
      obtain ⟨q1, q2, q3⟩ := hx
      subst hxy
      rcases q3 with q3 | q3 | q3
      · exact Or.inl (wB_t.mpr ⟨q1, q2, q3⟩)
      · exact Or.inr ⟨m, 0, by decide, wB_t.mpr ⟨q1, hm, hb⟩, wB_t.mpr ⟨by omega, q2, q3⟩⟩
      · exact Or.inr ⟨m, 1, by decide, wB_t.mpr ⟨q1, hm, hb⟩, wB_t.mpr ⟨by omega, q2, q3⟩⟩
    · rw [sf_nkD hxy] at hx
      exact Or.inl (wB_t.mpr hx)
  · have h0 := wB_t.mp (h2 x g hx)
    rw [wB_t]
    refine ⟨h0.1, h0.2.1, ?_⟩
    by_cases hxy : x = y
    · rw [sf_eqD hxy, ib_or, ← hxy, h0.2.2, Bool.true_or]
    · rw [sf_nkD hxy]; exact h0.2.2
  · by_cases hxy : x = y
    · rw [sf_eqD hxy, ib_or, ib_or, Bool.or_eq_true, Bool.or_eq_true] at h0
      rcases h0 with h0 | h0 | h0
      · exact h3 y hy g hg h0
      · exact h3 (2 * m) (by omega) g hg h0
      · exact h3 (2 * m + 1) (by omega) g hg h0
    · rw [sf_nkD hxy] at h0
      exact h3 x hx g hg h0
section GR2
variable (g : am_G) (h : Nat) (I : Nat → Nat → Int32) (J : Nat → Nat → Int64) {L : Nat → Nat} {t : Nat} {fs : List Fg} {cs : List (Nat × Nat)}
set_option maxRecDepth 100000 in
set_option maxHeartbeats 400000 in
theorem c_X0_targetsOf (hG : GS fs cs I) (hC : CSo fs cs) (hn : fs.length ≤ 11) (x : Nat) (hx : x < 22) :
    am_Ctr g am_mt 1 (h + 1) 5 [.ref 29, .int (nI x)] (am_SH, I, J) 0 0 (fun r' M => ∃ w, r' = some (.int w) ∧ Bp w (fun g => EP fs cs x g) ∧ M = (am_SH, I, J)) := by
  obtain ⟨hG1, hG2, hG3⟩ := hG
  have hl := hC.1
  obtain ⟨JJ, hJJ⟩ : ∃ JJ : Nat → am_Cut, JJ = (fun zu zpc zl zst zM zk zn => (∃ (i : Nat) (w : Int32), zu = cs.length - i ∧ (i ≤ cs.length) ∧ (Bp w (fun g => SE fs x g ∨ ∃ k, k < i ∧ cs.getD k (0, 0) = (x, g))) ∧ zpc = 9 ∧ zl = [(0, .ref 29), (1, .int (nI x)), (2, .int w), (3, .int (nI i))] ∧ zst = [] ∧ zM = (am_SH, I, J) ∧ zk = 0 ∧ zn = 0)) := ⟨_, rfl⟩
  have mk : ∀ (i : Nat) (w : Int32), (i ≤ cs.length) → (Bp w (fun g => SE fs x g ∨ ∃ k, k < i ∧ cs.getD k (0, 0) = (x, g))) → JJ (cs.length - i) 9 [(0, .ref 29), (1, .int (nI x)), (2, .int w), (3, .int (nI i))] [] (am_SH, I, J) 0 0 := by
    intro i w a0 a1
    rw [hJJ]
    exact ⟨i, w, rfl, a0, a1, rfl, rfl, rfl, rfl, rfl, rfl⟩
  refine am_rule2 (q := qX0_targetsOf) (B := am_blk bX0_targetsOf) rfl rfl kX0_targetsOf nX0_targetsOf (Nat.le_of_ble_eq_true rfl) JJ (fun zu zpc zl zst zM zk zn hj => ?_) ?_
  rotate_left
  · refine ⟨60, ?_⟩
    simp (decide := true) (disch := (first | exact eq_false (by decide) | exact eq_true (by decide) | decide | omega)) only [lX0_targetsOf_0, lX0_targetsOf_9, lX0_targetsOf_38, lX0_targetsOf_44, bX0_targetsOf_0, bX0_targetsOf_9, bX0_targetsOf_38, bX0_targetsOf_44, (show qX0_targetsOf.2.2.2.1 = (some .int) from rfl), am_rok_int, w_aload_n, w_getfield, w_goto, w_iaload, w_icmp_ge, w_icmp_ne, w_iconst, w_iinc, w_iload_n, w_ior, w_ireturn, w_ishl, w_istore_n, w_nop, w_swap, sa_30, sa_31, sa_32, sg_29_1, sg_29_2, sg_29_3, sg_29_4, cI_0, cI_1, am_lk0, am_lk1, am_ld_some, am_isI_i, am_isJ_j, am_isR_r, am_st_eq, am_rmv_nil, am_rmv_t, am_rmv_i, am_rmv_r, sf_SH, sj_SH, sf_eq, sf_nk, sf_na, sf_sf, am_args_i, am_args_r, am_args_n, Nat.reduceAdd, List.cons_append, List.nil_append, Option.toList, List.drop_succ_cons, List.drop_zero, am_RP, am_CP, am_PH, Fin.isValue, Fin.val_zero, Fin.val_one, am_f2, am_f3, true_and, and_true, true_implies, false_implies, not_false_eq_true, ne_eq, nI_clampD, nI_leT, nI_leF, nI_ltT, nI_ltF, nI_eqT, nI_eqF, nI_lt0F, nI_0leT, nI_eq0T, nI_eq0F, nI_0ltT, nI_0ltF, nI_le0T, nI_le0F, nI_m1, nI_m1', m1_m1, m1_lt, m1_le, nI_mul, nI_add, nI_sub, nI_add1, nI_dec, nI_div, nI_mod, vp_inD, sf_nkD, sf_eqD]
    refine ⟨_, _, ?_, mk 0 _ (by omega) ((hG1 x hx).cg (fun g _ => ⟨Or.inl, fun h0 => h0.elim id (fun ⟨k, hk, _⟩ => absurd hk (Nat.not_lt_zero _))⟩))⟩
    · (simp (decide := true) only [am_has, am_lk0, am_lk1, and_self, true_and, and_true] <;> first | rfl | (refine ⟨?_, ?_⟩ <;> rfl) | (refine ⟨?_, ?_, ?_⟩ <;> rfl) | (refine ⟨?_, ?_, ?_, ?_⟩ <;> rfl))
  rw [hJJ] at hj
  clear hJJ
  obtain ⟨i, w, rfl, e1, e2, rfl, rfl, rfl, rfl, rfl, rfl⟩ := hj
  refine ⟨_, 60, rfl, rfl, ?_⟩
  by_cases hib : i = cs.length
  · simp (decide := true) (disch := (first | exact eq_false (by decide) | exact eq_true (by decide) | decide | omega)) only [lX0_targetsOf_0, lX0_targetsOf_9, lX0_targetsOf_38, lX0_targetsOf_44, bX0_targetsOf_0, bX0_targetsOf_9, bX0_targetsOf_38, bX0_targetsOf_44, (show qX0_targetsOf.2.2.2.1 = (some .int) from rfl), am_rok_int, w_aload_n, w_getfield, w_goto, w_iaload, w_icmp_ge, w_icmp_ne, w_iconst, w_iinc, w_iload_n, w_ior, w_ireturn, w_ishl, w_istore_n, w_nop, w_swap, sa_30, sa_31, sa_32, sg_29_1, sg_29_2, sg_29_3, sg_29_4, cI_0, cI_1, am_lk0, am_lk1, am_ld_some, am_isI_i, am_isJ_j, am_isR_r, am_st_eq, am_rmv_nil, am_rmv_t, am_rmv_i, am_rmv_r, sf_SH, sj_SH, sf_eq, sf_nk, sf_na, sf_sf, am_args_i, am_args_r, am_args_n, Nat.reduceAdd, List.cons_append, List.nil_append, Option.toList, List.drop_succ_cons, List.drop_zero, am_RP, am_CP, am_PH, Fin.isValue, Fin.val_zero, Fin.val_one, am_f2, am_f3, true_and, and_true, true_implies, false_implies, not_false_eq_true, ne_eq, nI_clampD, nI_leT, nI_leF, nI_ltT, nI_ltF, nI_eqT, nI_eqF, nI_lt0F, nI_0leT, nI_eq0T, nI_eq0F, nI_0ltT, nI_0ltF, nI_le0T, nI_le0F, nI_m1, nI_m1', m1_m1, m1_lt, m1_le, nI_mul, nI_add, nI_sub, nI_add1, nI_dec, nI_div, nI_mod, vp_inD, sf_nkD, sf_eqD, hG2]
    refine ⟨w, rfl, e2.cg (fun g _ => ?_)⟩
    unfold EP
    constructor
    · intro h0
      rcases h0 with h0 | ⟨k, hk, h0⟩
      · exact Or.inl h0
      · refine Or.inr ?_
        rw [← h0, List.getD_eq_getElem?_getD, List.getElem?_eq_getElem (by omega)]
        exact List.getElem_mem _
    · intro h0
      rcases h0 with h0 | h0
      · exact Or.inl h0
      · obtain ⟨k, hk, h1⟩ := List.getElem_of_mem h0
        refine Or.inr ⟨k, by omega, ?_⟩
        rw [List.getD_eq_getElem?_getD, List.getElem?_eq_getElem hk, h1]
        rfl
  · have hk := hG3 i (by omega)
    have hmem : cs.getD i (0, 0) ∈ cs := by
      rw [List.getD_eq_getElem?_getD, List.getElem?_eq_getElem (by omega)]
      exact List.getElem_mem _
    have hc9 := hC.2 _ hmem
    by_cases hc : (cs.getD i (0, 0)).1 = x
    · simp (decide := true) (disch := (first | exact eq_false (by decide) | exact eq_true (by decide) | decide | omega)) only [lX0_targetsOf_0, lX0_targetsOf_9, lX0_targetsOf_38, lX0_targetsOf_44, bX0_targetsOf_0, bX0_targetsOf_9, bX0_targetsOf_38, bX0_targetsOf_44, (show qX0_targetsOf.2.2.2.1 = (some .int) from rfl), am_rok_int, w_aload_n, w_getfield, w_goto, w_iaload, w_icmp_ge, w_icmp_ne, w_iconst, w_iinc, w_iload_n, w_ior, w_ireturn, w_ishl, w_istore_n, w_nop, w_swap, sa_30, sa_31, sa_32, sg_29_1, sg_29_2, sg_29_3, sg_29_4, cI_0, cI_1, am_lk0, am_lk1, am_ld_some, am_isI_i, am_isJ_j, am_isR_r, am_st_eq, am_rmv_nil, am_rmv_t, am_rmv_i, am_rmv_r, sf_SH, sj_SH, sf_eq, sf_nk, sf_na, sf_sf, am_args_i, am_args_r, am_args_n, Nat.reduceAdd, List.cons_append, List.nil_append, Option.toList, List.drop_succ_cons, List.drop_zero, am_RP, am_CP, am_PH, Fin.isValue, Fin.val_zero, Fin.val_one, am_f2, am_f3, true_and, and_true, true_implies, false_implies, not_false_eq_true, ne_eq, nI_clampD, nI_leT, nI_leF, nI_ltT, nI_ltF, nI_eqT, nI_eqF, nI_lt0F, nI_0leT, nI_eq0T, nI_eq0F, nI_0ltT, nI_0ltF, nI_le0T, nI_le0F, nI_m1, nI_m1', m1_m1, m1_lt, m1_le, nI_mul, nI_add, nI_sub, nI_add1, nI_dec, nI_div, nI_mod, vp_inD, sf_nkD, sf_eqD, hG2, hk.1, hk.2, hc]
      refine ⟨_, _, ?_, ?_, mk (i + 1) _ (by omega) ((e2.add (k := (cs.getD i (0, 0)).2) (by omega)).cg (fun g _ => ?_))⟩
      · omega
      · (simp (decide := true) only [am_has, am_lk0, am_lk1, and_self, true_and, and_true] <;> first | rfl | (refine ⟨?_, ?_⟩ <;> rfl) | (refine ⟨?_, ?_, ?_⟩ <;> rfl) | (refine ⟨?_, ?_, ?_, ?_⟩ <;> rfl))
      constructor
      · intro h0
        rcases h0 with (h0 | ⟨k, hk, h0⟩) | h0
        · exact Or.inl h0
        · exact Or.inr ⟨k, by omega, h0⟩
        · exact Or.inr ⟨i, by omega, by rw [h0, ← hc]⟩
      · intro h0
        rcases h0 with h0 | ⟨k, hk, h0⟩
        · exact Or.inl (Or.inl h0)
        · by_cases hki : k = i
          · rw [hki] at h0
            exact Or.inr (by rw [h0])
          · exact Or.inl (Or.inr ⟨k, by omega, h0⟩)
    · have h99 : (cs.getD i (0, 0)).1 < 2147483648 := by omega
      simp (decide := true) (disch := (first | exact eq_false (by decide) | exact eq_true (by decide) | decide | omega)) only [lX0_targetsOf_0, lX0_targetsOf_9, lX0_targetsOf_38, lX0_targetsOf_44, bX0_targetsOf_0, bX0_targetsOf_9, bX0_targetsOf_38, bX0_targetsOf_44, (show qX0_targetsOf.2.2.2.1 = (some .int) from rfl), am_rok_int, w_aload_n, w_getfield, w_goto, w_iaload, w_icmp_ge, w_icmp_ne, w_iconst, w_iinc, w_iload_n, w_ior, w_ireturn, w_ishl, w_istore_n, w_nop, w_swap, sa_30, sa_31, sa_32, sg_29_1, sg_29_2, sg_29_3, sg_29_4, cI_0, cI_1, am_lk0, am_lk1, am_ld_some, am_isI_i, am_isJ_j, am_isR_r, am_st_eq, am_rmv_nil, am_rmv_t, am_rmv_i, am_rmv_r, sf_SH, sj_SH, sf_eq, sf_nk, sf_na, sf_sf, am_args_i, am_args_r, am_args_n, Nat.reduceAdd, List.cons_append, List.nil_append, Option.toList, List.drop_succ_cons, List.drop_zero, am_RP, am_CP, am_PH, Fin.isValue, Fin.val_zero, Fin.val_one, am_f2, am_f3, true_and, and_true, true_implies, false_implies, not_false_eq_true, ne_eq, nI_clampD, nI_leT, nI_leF, nI_ltT, nI_ltF, nI_eqT, nI_eqF, nI_lt0F, nI_0leT, nI_eq0T, nI_eq0F, nI_0ltT, nI_0ltF, nI_le0T, nI_le0F, nI_m1, nI_m1', m1_m1, m1_lt, m1_le, nI_mul, nI_add, nI_sub, nI_add1, nI_dec, nI_div, nI_mod, vp_inD, sf_nkD, sf_eqD, hG2, hk.1, hk.2]
      refine ⟨_, _, ?_, ?_, mk (i + 1) _ (by omega) (e2.cg (fun g _ => ?_))⟩
      · omega
      · (simp (decide := true) only [am_has, am_lk0, am_lk1, and_self, true_and, and_true] <;> first | rfl | (refine ⟨?_, ?_⟩ <;> rfl) | (refine ⟨?_, ?_, ?_⟩ <;> rfl) | (refine ⟨?_, ?_, ?_, ?_⟩ <;> rfl))
      constructor
      · intro h0
        rcases h0 with h0 | ⟨k, hk, h0⟩
        · exact Or.inl h0
        · exact Or.inr ⟨k, by omega, h0⟩
      · intro h0
        rcases h0 with h0 | ⟨k, hk, h0⟩
        · exact Or.inl h0
        · by_cases hki : k = i
          · rw [hki] at h0
            exact absurd (by rw [h0]) hc
          · exact Or.inr ⟨k, by omega, h0⟩
set_option maxRecDepth 100000 in
set_option maxHeartbeats 400000 in
theorem c_X0_wantedUnder (f : Nat) (hf : f < 11) :
    am_Ctr g am_mt 1 (h + 1) 6 [.ref 29, .int (nI f)] (am_SH, I, J) 0 0 (fun r M => r = some (.int (I 33 (2 * f) ||| I 33 (2 * f + 1))) ∧ M = (am_SH, I, J)) := by
  refine am_rule0 (q := qX0_wantedUnder) (B := am_blk bX0_wantedUnder) 30 rfl rfl kX0_wantedUnder nX0_wantedUnder (Nat.le_of_ble_eq_true rfl) ?_
  simp (decide := true) (disch := (first | exact eq_false (by decide) | exact eq_true (by decide) | decide | omega)) only [lX0_wantedUnder_0, bX0_wantedUnder_0, (show qX0_wantedUnder.2.2.2.1 = (some .int) from rfl), am_rok_int, w_aload_n, w_getfield, w_iadd, w_iaload, w_iconst, w_iload_n, w_imul, w_ior, w_ireturn, sa_33, sg_29_5, cI_1, cI_2, am_lk0, am_lk1, am_ld_some, am_isI_i, am_isJ_j, am_isR_r, am_st_eq, am_rmv_nil, am_rmv_t, am_rmv_i, am_rmv_r, sf_SH, sj_SH, sf_eq, sf_nk, sf_na, sf_sf, am_args_i, am_args_r, am_args_n, Nat.reduceAdd, List.cons_append, List.nil_append, Option.toList, List.drop_succ_cons, List.drop_zero, am_RP, am_CP, am_PH, Fin.isValue, Fin.val_zero, Fin.val_one, am_f2, am_f3, true_and, and_true, true_implies, false_implies, not_false_eq_true, ne_eq, nI_clampD, nI_leT, nI_leF, nI_ltT, nI_ltF, nI_eqT, nI_eqF, nI_lt0F, nI_0leT, nI_eq0T, nI_eq0F, nI_0ltT, nI_0ltF, nI_le0T, nI_le0F, nI_m1, nI_m1', m1_m1, m1_lt, m1_le, nI_mul, nI_add, nI_sub, nI_add1, nI_dec, nI_div, nI_mod, vp_inD, sf_nkD, sf_eqD]
set_option maxRecDepth 100000 in
set_option maxHeartbeats 400000 in
theorem c_X0_addConstraint (k x f : Nat) (h1 : I 29 2 = nI k) (hk : k < 6) :
    am_Ctr g am_mt 1 (h + 1) 3 [.ref 29, .int (nI x), .int (nI f)] (am_SH, I, J) 0 0 (fun r M => r = none ∧ M = (am_SH, sf (sf (sf I 31 k (nI x)) 32 k (nI f)) 29 2 (nI (k + 1)), J)) := by
  refine am_rule0 (q := qX0_addConstraint) (B := am_blk bX0_addConstraint) 60 rfl rfl kX0_addConstraint nX0_addConstraint (Nat.le_of_ble_eq_true rfl) ?_
  simp (decide := true) (disch := (first | exact eq_false (by decide) | exact eq_true (by decide) | decide | omega)) only [lX0_addConstraint_0, lX0_addConstraint_39, bX0_addConstraint_0, bX0_addConstraint_39, (show qX0_addConstraint.2.2.2.1 = none from rfl), am_rok_none, w_aload_n, w_bipush, w_dup, w_getfield, w_iadd, w_iastore, w_icmp_ge, w_iconst, w_iload_n, w_puti, w_return, w_swap, sa_31, sa_32, sg_29_2, sg_29_3, sg_29_4, sp_29_2, cB_6, cI_1, am_lk0, am_lk1, am_ld_some, am_isI_i, am_isJ_j, am_isR_r, am_st_eq, am_rmv_nil, am_rmv_t, am_rmv_i, am_rmv_r, sf_SH, sj_SH, sf_eq, sf_nk, sf_na, sf_sf, am_args_i, am_args_r, am_args_n, Nat.reduceAdd, List.cons_append, List.nil_append, Option.toList, List.drop_succ_cons, List.drop_zero, am_RP, am_CP, am_PH, Fin.isValue, Fin.val_zero, Fin.val_one, am_f2, am_f3, true_and, and_true, true_implies, false_implies, not_false_eq_true, ne_eq, nI_clampD, nI_leT, nI_leF, nI_ltT, nI_ltF, nI_eqT, nI_eqF, nI_lt0F, nI_0leT, nI_eq0T, nI_eq0F, nI_0ltT, nI_0ltF, nI_le0T, nI_le0F, nI_m1, nI_m1', m1_m1, m1_lt, m1_le, nI_mul, nI_add, nI_sub, nI_add1, nI_dec, nI_div, nI_mod, vp_inD, sf_nkD, sf_eqD, h1]
set_option maxRecDepth 100000 in
set_option maxHeartbeats 400000 in
theorem c_X0_dropLastConstraint (k : Nat) (h1 : I 29 2 = nI k) (hk : 0 < k) (hk6 : k < 7) :
    am_Ctr g am_mt 1 (h + 1) 4 [.ref 29] (am_SH, I, J) 0 0 (fun r M => r = none ∧ M = (am_SH, sf I 29 2 (nI (k - 1)), J)) := by
  refine am_rule0 (q := qX0_dropLastConstraint) (B := am_blk bX0_dropLastConstraint) 60 rfl rfl kX0_dropLastConstraint nX0_dropLastConstraint (Nat.le_of_ble_eq_true rfl) ?_
  simp (decide := true) (disch := (first | exact eq_false (by decide) | exact eq_true (by decide) | decide | omega)) only [lX0_dropLastConstraint_0, lX0_dropLastConstraint_17, bX0_dropLastConstraint_0, bX0_dropLastConstraint_17, (show qX0_dropLastConstraint.2.2.2.1 = none from rfl), am_rok_none, w_aload_n, w_dup, w_getfield, w_iconst, w_if_le, w_isub, w_puti, w_return, w_swap, sg_29_2, sp_29_2, cI_1, am_lk0, am_lk1, am_ld_some, am_isI_i, am_isJ_j, am_isR_r, am_st_eq, am_rmv_nil, am_rmv_t, am_rmv_i, am_rmv_r, sf_SH, sj_SH, sf_eq, sf_nk, sf_na, sf_sf, am_args_i, am_args_r, am_args_n, Nat.reduceAdd, List.cons_append, List.nil_append, Option.toList, List.drop_succ_cons, List.drop_zero, am_RP, am_CP, am_PH, Fin.isValue, Fin.val_zero, Fin.val_one, am_f2, am_f3, true_and, and_true, true_implies, false_implies, not_false_eq_true, ne_eq, nI_clampD, nI_leT, nI_leF, nI_ltT, nI_ltF, nI_eqT, nI_eqF, nI_lt0F, nI_0leT, nI_eq0T, nI_eq0F, nI_0ltT, nI_0ltF, nI_le0T, nI_le0F, nI_m1, nI_m1', m1_m1, m1_lt, m1_le, nI_mul, nI_add, nI_sub, nI_add1, nI_dec, nI_div, nI_mod, vp_inD, sf_nkD, sf_eqD, h1]
set_option maxRecDepth 100000 in
set_option maxHeartbeats 400000 in
theorem c_X0_holesThatWant (n f : Nat) (hf : f < n) (hn : n ≤ 11) :
    am_Ctr g am_mt 1 (h + 2) 8 [.ref 29, .int (nI f), .int (nI (2 * n))] (am_SH, I, J) 0 0 (fun r' M => ∃ w, r' = some (.int w) ∧ Bp w (fun x => wB I n x f = true) ∧ M = (am_SH, I, J)) := by
  obtain ⟨JJ, hJJ⟩ : ∃ JJ : Nat → am_Cut, JJ = (fun zu zpc zl zst zM zk zn => (∃ (i : Nat) (w : Int32), zu = 2 * n - i ∧ (i ≤ 2 * n) ∧ (Bp w (fun x => x < i ∧ wB I n x f = true)) ∧ zpc = 5 ∧ zl = [(0, .ref 29), (1, .int (nI f)), (2, .int (nI (2 * n))), (3, .int w), (4, .int (nI i))] ∧ zst = [] ∧ zM = (am_SH, I, J) ∧ zk = 0 ∧ zn = 0)) := ⟨_, rfl⟩
  have mk : ∀ (i : Nat) (w : Int32), (i ≤ 2 * n) → (Bp w (fun x => x < i ∧ wB I n x f = true)) → JJ (2 * n - i) 5 [(0, .ref 29), (1, .int (nI f)), (2, .int (nI (2 * n))), (3, .int w), (4, .int (nI i))] [] (am_SH, I, J) 0 0 := by
    intro i w a0 a1
    rw [hJJ]
    exact ⟨i, w, rfl, a0, a1, rfl, rfl, rfl, rfl, rfl, rfl⟩
  refine am_rule2 (q := qX0_holesThatWant) (B := am_blk bX0_holesThatWant) rfl rfl kX0_holesThatWant nX0_holesThatWant (Nat.le_of_ble_eq_true rfl) JJ (fun zu zpc zl zst zM zk zn hj => ?_) ?_
  rotate_left
  · refine ⟨60, ?_⟩
    simp (decide := true) (disch := (first | exact eq_false (by decide) | exact eq_true (by decide) | decide | omega)) only [lX0_holesThatWant_0, lX0_holesThatWant_5, lX0_holesThatWant_32, lX0_holesThatWant_38, bX0_holesThatWant_0, bX0_holesThatWant_5, bX0_holesThatWant_32, bX0_holesThatWant_38, (show qX0_holesThatWant.2.2.2.1 = (some .int) from rfl), am_rok_int, w_aload_n, w_getfield, w_goto, w_iaload, w_icmp_ge, w_iconst, w_if_eq, w_iinc, w_iload, w_iload_n, w_ior, w_ireturn, w_ishl, w_istore, w_istore_n, w_nop, w_swap, sa_33, sg_29_5, cI_0, cI_1, am_lk0, am_lk1, am_ld_some, am_isI_i, am_isJ_j, am_isR_r, am_st_eq, am_rmv_nil, am_rmv_t, am_rmv_i, am_rmv_r, sf_SH, sj_SH, sf_eq, sf_nk, sf_na, sf_sf, am_args_i, am_args_r, am_args_n, Nat.reduceAdd, List.cons_append, List.nil_append, Option.toList, List.drop_succ_cons, List.drop_zero, am_RP, am_CP, am_PH, Fin.isValue, Fin.val_zero, Fin.val_one, am_f2, am_f3, true_and, and_true, true_implies, false_implies, not_false_eq_true, ne_eq, nI_clampD, nI_leT, nI_leF, nI_ltT, nI_ltF, nI_eqT, nI_eqF, nI_lt0F, nI_0leT, nI_eq0T, nI_eq0F, nI_0ltT, nI_0ltF, nI_le0T, nI_le0F, nI_m1, nI_m1', m1_m1, m1_lt, m1_le, nI_mul, nI_add, nI_sub, nI_add1, nI_dec, nI_div, nI_mod, vp_inD, sf_nkD, sf_eqD]
    refine ⟨_, _, ?_, mk 0 (nI 0) (by omega) (Bp_n0.cg (fun x _ => ⟨False.elim, fun h0 => absurd h0.1 (Nat.not_lt_zero _)⟩))⟩
    · (simp (decide := true) only [am_has, am_lk0, am_lk1, and_self, true_and, and_true] <;> first | rfl | (refine ⟨?_, ?_⟩ <;> rfl) | (refine ⟨?_, ?_, ?_⟩ <;> rfl) | (refine ⟨?_, ?_, ?_, ?_⟩ <;> rfl))
  rw [hJJ] at hj
  clear hJJ
  obtain ⟨i, w, rfl, e1, e2, rfl, rfl, rfl, rfl, rfl, rfl⟩ := hj
  refine ⟨_, 60, rfl, rfl, ?_⟩
  by_cases hib : i = 2 * n
  · simp (decide := true) (disch := (first | exact eq_false (by decide) | exact eq_true (by decide) | decide | omega)) only [lX0_holesThatWant_0, lX0_holesThatWant_5, lX0_holesThatWant_32, lX0_holesThatWant_38, bX0_holesThatWant_0, bX0_holesThatWant_5, bX0_holesThatWant_32, bX0_holesThatWant_38, (show qX0_holesThatWant.2.2.2.1 = (some .int) from rfl), am_rok_int, w_aload_n, w_getfield, w_goto, w_iaload, w_icmp_ge, w_iconst, w_if_eq, w_iinc, w_iload, w_iload_n, w_ior, w_ireturn, w_ishl, w_istore, w_istore_n, w_nop, w_swap, sa_33, sg_29_5, cI_0, cI_1, am_lk0, am_lk1, am_ld_some, am_isI_i, am_isJ_j, am_isR_r, am_st_eq, am_rmv_nil, am_rmv_t, am_rmv_i, am_rmv_r, sf_SH, sj_SH, sf_eq, sf_nk, sf_na, sf_sf, am_args_i, am_args_r, am_args_n, Nat.reduceAdd, List.cons_append, List.nil_append, Option.toList, List.drop_succ_cons, List.drop_zero, am_RP, am_CP, am_PH, Fin.isValue, Fin.val_zero, Fin.val_one, am_f2, am_f3, true_and, and_true, true_implies, false_implies, not_false_eq_true, ne_eq, nI_clampD, nI_leT, nI_leF, nI_ltT, nI_ltF, nI_eqT, nI_eqF, nI_lt0F, nI_0leT, nI_eq0T, nI_eq0F, nI_0ltT, nI_0ltF, nI_le0T, nI_le0F, nI_m1, nI_m1', m1_m1, m1_lt, m1_le, nI_mul, nI_add, nI_sub, nI_add1, nI_dec, nI_div, nI_mod, vp_inD, sf_nkD, sf_eqD]
    refine ⟨w, rfl, e2.cg (fun x _ => ⟨fun h0 => h0.2, fun h0 => ⟨?_, h0⟩⟩)⟩
    have := (wB_t.mp h0).1
    omega
  · simp (decide := true) (disch := (first | exact eq_false (by decide) | exact eq_true (by decide) | decide | omega)) only [lX0_holesThatWant_0, lX0_holesThatWant_5, lX0_holesThatWant_32, lX0_holesThatWant_38, bX0_holesThatWant_0, bX0_holesThatWant_5, bX0_holesThatWant_32, bX0_holesThatWant_38, (show qX0_holesThatWant.2.2.2.1 = (some .int) from rfl), am_rok_int, w_aload_n, w_getfield, w_goto, w_iaload, w_icmp_ge, w_iconst, w_if_eq, w_iinc, w_iload, w_iload_n, w_ior, w_ireturn, w_ishl, w_istore, w_istore_n, w_nop, w_swap, sa_33, sg_29_5, cI_0, cI_1, am_lk0, am_lk1, am_ld_some, am_isI_i, am_isJ_j, am_isR_r, am_st_eq, am_rmv_nil, am_rmv_t, am_rmv_i, am_rmv_r, sf_SH, sj_SH, sf_eq, sf_nk, sf_na, sf_sf, am_args_i, am_args_r, am_args_n, Nat.reduceAdd, List.cons_append, List.nil_append, Option.toList, List.drop_succ_cons, List.drop_zero, am_RP, am_CP, am_PH, Fin.isValue, Fin.val_zero, Fin.val_one, am_f2, am_f3, true_and, and_true, true_implies, false_implies, not_false_eq_true, ne_eq, nI_clampD, nI_leT, nI_leF, nI_ltT, nI_ltF, nI_eqT, nI_eqF, nI_lt0F, nI_0leT, nI_eq0T, nI_eq0F, nI_0ltT, nI_0ltF, nI_le0T, nI_le0F, nI_m1, nI_m1', m1_m1, m1_lt, m1_le, nI_mul, nI_add, nI_sub, nI_add1, nI_dec, nI_div, nI_mod, vp_inD, sf_nkD, sf_eqD]
    refine w_statE (c_X9_isIn g h I J (I 33 i) f (by omega)) (by decide) rfl rfl rfl (Nat.le_refl _) (Nat.le_refl _) ?_
    cases hb : ib (I 33 i) f with
    | true =>
      simp (decide := true) (disch := (first | exact eq_false (by decide) | exact eq_true (by decide) | decide | omega)) only [lX0_holesThatWant_0, lX0_holesThatWant_5, lX0_holesThatWant_32, lX0_holesThatWant_38, bX0_holesThatWant_0, bX0_holesThatWant_5, bX0_holesThatWant_32, bX0_holesThatWant_38, (show qX0_holesThatWant.2.2.2.1 = (some .int) from rfl), am_rok_int, w_aload_n, w_getfield, w_goto, w_iaload, w_icmp_ge, w_iconst, w_if_eq, w_iinc, w_iload, w_iload_n, w_ior, w_ireturn, w_ishl, w_istore, w_istore_n, w_nop, w_swap, sa_33, sg_29_5, cI_0, cI_1, am_lk0, am_lk1, am_ld_some, am_isI_i, am_isJ_j, am_isR_r, am_st_eq, am_rmv_nil, am_rmv_t, am_rmv_i, am_rmv_r, sf_SH, sj_SH, sf_eq, sf_nk, sf_na, sf_sf, am_args_i, am_args_r, am_args_n, Nat.reduceAdd, List.cons_append, List.nil_append, Option.toList, List.drop_succ_cons, List.drop_zero, am_RP, am_CP, am_PH, Fin.isValue, Fin.val_zero, Fin.val_one, am_f2, am_f3, true_and, and_true, true_implies, false_implies, not_false_eq_true, ne_eq, nI_clampD, nI_leT, nI_leF, nI_ltT, nI_ltF, nI_eqT, nI_eqF, nI_lt0F, nI_0leT, nI_eq0T, nI_eq0F, nI_0ltT, nI_0ltF, nI_le0T, nI_le0F, nI_m1, nI_m1', m1_m1, m1_lt, m1_le, nI_mul, nI_add, nI_sub, nI_add1, nI_dec, nI_div, nI_mod, vp_inD, sf_nkD, sf_eqD, bI_t]
      refine ⟨_, _, ?_, ?_, mk (i + 1) _ (by omega) ((e2.add (k := i) (by omega)).cg (fun x _ => ⟨fun h0 => ?_, fun h0 => ?_⟩))⟩
      · omega
      · (simp (decide := true) only [am_has, am_lk0, am_lk1, and_self, true_and, and_true] <;> first | rfl | (refine ⟨?_, ?_⟩ <;> rfl) | (refine ⟨?_, ?_, ?_⟩ <;> rfl) | (refine ⟨?_, ?_, ?_, ?_⟩ <;> rfl))
      · rcases h0 with h0 | h0
        · exact ⟨by omega, h0.2⟩
        · rw [h0]
          exact ⟨by omega, wB_t.mpr ⟨by omega, hf, hb⟩⟩
      · by_cases hxi : x = i
        · exact Or.inr hxi
        · exact Or.inl ⟨by omega, h0.2⟩
    | false =>
      simp (decide := true) (disch := (first | exact eq_false (by decide) | exact eq_true (by decide) | decide | omega)) only [lX0_holesThatWant_0, lX0_holesThatWant_5, lX0_holesThatWant_32, lX0_holesThatWant_38, bX0_holesThatWant_0, bX0_holesThatWant_5, bX0_holesThatWant_32, bX0_holesThatWant_38, (show qX0_holesThatWant.2.2.2.1 = (some .int) from rfl), am_rok_int, w_aload_n, w_getfield, w_goto, w_iaload, w_icmp_ge, w_iconst, w_if_eq, w_iinc, w_iload, w_iload_n, w_ior, w_ireturn, w_ishl, w_istore, w_istore_n, w_nop, w_swap, sa_33, sg_29_5, cI_0, cI_1, am_lk0, am_lk1, am_ld_some, am_isI_i, am_isJ_j, am_isR_r, am_st_eq, am_rmv_nil, am_rmv_t, am_rmv_i, am_rmv_r, sf_SH, sj_SH, sf_eq, sf_nk, sf_na, sf_sf, am_args_i, am_args_r, am_args_n, Nat.reduceAdd, List.cons_append, List.nil_append, Option.toList, List.drop_succ_cons, List.drop_zero, am_RP, am_CP, am_PH, Fin.isValue, Fin.val_zero, Fin.val_one, am_f2, am_f3, true_and, and_true, true_implies, false_implies, not_false_eq_true, ne_eq, nI_clampD, nI_leT, nI_leF, nI_ltT, nI_ltF, nI_eqT, nI_eqF, nI_lt0F, nI_0leT, nI_eq0T, nI_eq0F, nI_0ltT, nI_0ltF, nI_le0T, nI_le0F, nI_m1, nI_m1', m1_m1, m1_lt, m1_le, nI_mul, nI_add, nI_sub, nI_add1, nI_dec, nI_div, nI_mod, vp_inD, sf_nkD, sf_eqD, bI_f]
      refine ⟨_, _, ?_, ?_, mk (i + 1) _ (by omega) (e2.cg (fun x _ => ⟨fun h0 => ⟨by omega, h0.2⟩, fun h0 => ⟨?_, h0.2⟩⟩))⟩
      · omega
      · (simp (decide := true) only [am_has, am_lk0, am_lk1, and_self, true_and, and_true] <;> first | rfl | (refine ⟨?_, ?_⟩ <;> rfl) | (refine ⟨?_, ?_, ?_⟩ <;> rfl) | (refine ⟨?_, ?_, ?_, ?_⟩ <;> rfl))
      have h1 := (wB_t.mp h0.2).2.2
      by_cases hxi : x = i
      · rw [hxi, hb] at h1; cases h1
      · omega
set_option maxRecDepth 100000 in
set_option maxHeartbeats 400000 in
theorem c_X0_contradictsItself (n : Nat) (hn : n ≤ 11) (h1 : I 2 1 = nI n) :
    am_Ctr g am_mt 1 (h + 2) 9 [.ref 29] (am_SH, I, J) 0 0 (fun r M => ∃ b, r = some (.int (bI b)) ∧ (b = true → ∃ f g i, f < n ∧ i < 2 ∧ g < 32 ∧ (ib (I 33 (2 * f + i)) f = true ∨ (ib (I 33 (2 * f)) g = true ∧ ib (I 33 (2 * f + 1)) g = true))) ∧ M = (am_SH, I, J)) := by
  obtain ⟨JJ, hJJ⟩ : ∃ JJ : Nat → am_Cut, JJ = (fun zu zpc zl zst zM zk zn => (∃ (i : Nat), zu = n - i ∧ (i ≤ n) ∧ zpc = 2 ∧ zl = [(0, .ref 29), (1, .int (nI i))] ∧ zst = [] ∧ zM = (am_SH, I, J) ∧ zk = 0 ∧ zn = 0)) := ⟨_, rfl⟩
  have mk : ∀ (i : Nat), (i ≤ n) → JJ (n - i) 2 [(0, .ref 29), (1, .int (nI i))] [] (am_SH, I, J) 0 0 := by
    intro i a0
    rw [hJJ]
    exact ⟨i, rfl, a0, rfl, rfl, rfl, rfl, rfl, rfl⟩
  refine am_rule2 (q := qX0_contradictsItself) (B := am_blk bX0_contradictsItself) rfl rfl kX0_contradictsItself nX0_contradictsItself (Nat.le_of_ble_eq_true rfl) JJ (fun zu zpc zl zst zM zk zn hj => ?_) ?_
  rotate_left
  · refine ⟨60, ?_⟩
    simp (decide := true) (disch := (first | exact eq_false (by decide) | exact eq_true (by decide) | decide | omega)) only [lX0_contradictsItself_0, lX0_contradictsItself_2, lX0_contradictsItself_49, lX0_contradictsItself_51, lX0_contradictsItself_57, bX0_contradictsItself_0, bX0_contradictsItself_2, bX0_contradictsItself_49, bX0_contradictsItself_51, bX0_contradictsItself_57, (show qX0_contradictsItself.2.2.2.1 = (some .boolean) from rfl), am_rok_bool, w_aload_n, w_getfield, w_goto, w_iadd, w_iaload, w_iand, w_icmp_ge, w_iconst, w_if_eq, w_if_ne, w_iinc, w_iload_n, w_imul, w_ireturn, w_istore_n, w_nop, w_swap, sa_33, sg_15_1, sg_29_0, sg_29_5, sg_2_1, cI_0, cI_1, cI_2, am_lk0, am_lk1, am_ld_some, am_isI_i, am_isJ_j, am_isR_r, am_st_eq, am_rmv_nil, am_rmv_t, am_rmv_i, am_rmv_r, sf_SH, sj_SH, sf_eq, sf_nk, sf_na, sf_sf, am_args_i, am_args_r, am_args_n, Nat.reduceAdd, List.cons_append, List.nil_append, Option.toList, List.drop_succ_cons, List.drop_zero, am_RP, am_CP, am_PH, Fin.isValue, Fin.val_zero, Fin.val_one, am_f2, am_f3, true_and, and_true, true_implies, false_implies, not_false_eq_true, ne_eq, nI_clampD, nI_leT, nI_leF, nI_ltT, nI_ltF, nI_eqT, nI_eqF, nI_lt0F, nI_0leT, nI_eq0T, nI_eq0F, nI_0ltT, nI_0ltF, nI_le0T, nI_le0F, nI_m1, nI_m1', m1_m1, m1_lt, m1_le, nI_mul, nI_add, nI_sub, nI_add1, nI_dec, nI_div, nI_mod, vp_inD, sf_nkD, sf_eqD]
    refine ⟨_, _, ?_, mk 0 (by omega)⟩
    · (simp (decide := true) only [am_has, am_lk0, am_lk1, and_self, true_and, and_true] <;> first | rfl | (refine ⟨?_, ?_⟩ <;> rfl) | (refine ⟨?_, ?_, ?_⟩ <;> rfl) | (refine ⟨?_, ?_, ?_, ?_⟩ <;> rfl))
  rw [hJJ] at hj
  clear hJJ
  obtain ⟨i, rfl, e1, rfl, rfl, rfl, rfl, rfl, rfl⟩ := hj
  refine ⟨_, 60, rfl, rfl, ?_⟩
  by_cases hib : i = n
  · simp (decide := true) (disch := (first | exact eq_false (by decide) | exact eq_true (by decide) | decide | omega)) only [lX0_contradictsItself_0, lX0_contradictsItself_2, lX0_contradictsItself_49, lX0_contradictsItself_51, lX0_contradictsItself_57, bX0_contradictsItself_0, bX0_contradictsItself_2, bX0_contradictsItself_49, bX0_contradictsItself_51, bX0_contradictsItself_57, (show qX0_contradictsItself.2.2.2.1 = (some .boolean) from rfl), am_rok_bool, w_aload_n, w_getfield, w_goto, w_iadd, w_iaload, w_iand, w_icmp_ge, w_iconst, w_if_eq, w_if_ne, w_iinc, w_iload_n, w_imul, w_ireturn, w_istore_n, w_nop, w_swap, sa_33, sg_15_1, sg_29_0, sg_29_5, sg_2_1, cI_0, cI_1, cI_2, am_lk0, am_lk1, am_ld_some, am_isI_i, am_isJ_j, am_isR_r, am_st_eq, am_rmv_nil, am_rmv_t, am_rmv_i, am_rmv_r, sf_SH, sj_SH, sf_eq, sf_nk, sf_na, sf_sf, am_args_i, am_args_r, am_args_n, Nat.reduceAdd, List.cons_append, List.nil_append, Option.toList, List.drop_succ_cons, List.drop_zero, am_RP, am_CP, am_PH, Fin.isValue, Fin.val_zero, Fin.val_one, am_f2, am_f3, true_and, and_true, true_implies, false_implies, not_false_eq_true, ne_eq, nI_clampD, nI_leT, nI_leF, nI_ltT, nI_ltF, nI_eqT, nI_eqF, nI_lt0F, nI_0leT, nI_eq0T, nI_eq0F, nI_0ltT, nI_0ltF, nI_le0T, nI_le0F, nI_m1, nI_m1', m1_m1, m1_lt, m1_le, nI_mul, nI_add, nI_sub, nI_add1, nI_dec, nI_div, nI_mod, vp_inD, sf_nkD, sf_eqD, h1, nI0_01]
    exact ⟨false, rfl, fun h0 => (by cases h0)⟩
  · simp (decide := true) (disch := (first | exact eq_false (by decide) | exact eq_true (by decide) | decide | omega)) only [lX0_contradictsItself_0, lX0_contradictsItself_2, lX0_contradictsItself_49, lX0_contradictsItself_51, lX0_contradictsItself_57, bX0_contradictsItself_0, bX0_contradictsItself_2, bX0_contradictsItself_49, bX0_contradictsItself_51, bX0_contradictsItself_57, (show qX0_contradictsItself.2.2.2.1 = (some .boolean) from rfl), am_rok_bool, w_aload_n, w_getfield, w_goto, w_iadd, w_iaload, w_iand, w_icmp_ge, w_iconst, w_if_eq, w_if_ne, w_iinc, w_iload_n, w_imul, w_ireturn, w_istore_n, w_nop, w_swap, sa_33, sg_15_1, sg_29_0, sg_29_5, sg_2_1, cI_0, cI_1, cI_2, am_lk0, am_lk1, am_ld_some, am_isI_i, am_isJ_j, am_isR_r, am_st_eq, am_rmv_nil, am_rmv_t, am_rmv_i, am_rmv_r, sf_SH, sj_SH, sf_eq, sf_nk, sf_na, sf_sf, am_args_i, am_args_r, am_args_n, Nat.reduceAdd, List.cons_append, List.nil_append, Option.toList, List.drop_succ_cons, List.drop_zero, am_RP, am_CP, am_PH, Fin.isValue, Fin.val_zero, Fin.val_one, am_f2, am_f3, true_and, and_true, true_implies, false_implies, not_false_eq_true, ne_eq, nI_clampD, nI_leT, nI_leF, nI_ltT, nI_ltF, nI_eqT, nI_eqF, nI_lt0F, nI_0leT, nI_eq0T, nI_eq0F, nI_0ltT, nI_0ltF, nI_le0T, nI_le0F, nI_m1, nI_m1', m1_m1, m1_lt, m1_le, nI_mul, nI_add, nI_sub, nI_add1, nI_dec, nI_div, nI_mod, vp_inD, sf_nkD, sf_eqD, h1]
    refine w_virtE (c_X0_wantedUnder g h I J i (by omega)) rfl rfl rfl (of_eq_true so_29) rfl (Nat.le_refl _) (Nat.le_refl _) ?_
    simp (decide := true) (disch := (first | exact eq_false (by decide) | exact eq_true (by decide) | decide | omega)) only [lX0_contradictsItself_0, lX0_contradictsItself_2, lX0_contradictsItself_49, lX0_contradictsItself_51, lX0_contradictsItself_57, bX0_contradictsItself_0, bX0_contradictsItself_2, bX0_contradictsItself_49, bX0_contradictsItself_51, bX0_contradictsItself_57, (show qX0_contradictsItself.2.2.2.1 = (some .boolean) from rfl), am_rok_bool, w_aload_n, w_getfield, w_goto, w_iadd, w_iaload, w_iand, w_icmp_ge, w_iconst, w_if_eq, w_if_ne, w_iinc, w_iload_n, w_imul, w_ireturn, w_istore_n, w_nop, w_swap, sa_33, sg_15_1, sg_29_0, sg_29_5, sg_2_1, cI_0, cI_1, cI_2, am_lk0, am_lk1, am_ld_some, am_isI_i, am_isJ_j, am_isR_r, am_st_eq, am_rmv_nil, am_rmv_t, am_rmv_i, am_rmv_r, sf_SH, sj_SH, sf_eq, sf_nk, sf_na, sf_sf, am_args_i, am_args_r, am_args_n, Nat.reduceAdd, List.cons_append, List.nil_append, Option.toList, List.drop_succ_cons, List.drop_zero, am_RP, am_CP, am_PH, Fin.isValue, Fin.val_zero, Fin.val_one, am_f2, am_f3, true_and, and_true, true_implies, false_implies, not_false_eq_true, ne_eq, nI_clampD, nI_leT, nI_leF, nI_ltT, nI_ltF, nI_eqT, nI_eqF, nI_lt0F, nI_0leT, nI_eq0T, nI_eq0F, nI_0ltT, nI_0ltF, nI_le0T, nI_le0F, nI_m1, nI_m1', m1_m1, m1_lt, m1_le, nI_mul, nI_add, nI_sub, nI_add1, nI_dec, nI_div, nI_mod, vp_inD, sf_nkD, sf_eqD, h1]
    refine w_statE (c_X9_isIn g h I J _ i (by omega)) (by decide) rfl rfl rfl (Nat.le_refl _) (Nat.le_refl _) ?_
    cases hb : ib (I 33 (2 * i) ||| I 33 (2 * i + 1)) i with
    | true =>
      simp (decide := true) (disch := (first | exact eq_false (by decide) | exact eq_true (by decide) | decide | omega)) only [lX0_contradictsItself_0, lX0_contradictsItself_2, lX0_contradictsItself_49, lX0_contradictsItself_51, lX0_contradictsItself_57, bX0_contradictsItself_0, bX0_contradictsItself_2, bX0_contradictsItself_49, bX0_contradictsItself_51, bX0_contradictsItself_57, (show qX0_contradictsItself.2.2.2.1 = (some .boolean) from rfl), am_rok_bool, w_aload_n, w_getfield, w_goto, w_iadd, w_iaload, w_iand, w_icmp_ge, w_iconst, w_if_eq, w_if_ne, w_iinc, w_iload_n, w_imul, w_ireturn, w_istore_n, w_nop, w_swap, sa_33, sg_15_1, sg_29_0, sg_29_5, sg_2_1, cI_0, cI_1, cI_2, am_lk0, am_lk1, am_ld_some, am_isI_i, am_isJ_j, am_isR_r, am_st_eq, am_rmv_nil, am_rmv_t, am_rmv_i, am_rmv_r, sf_SH, sj_SH, sf_eq, sf_nk, sf_na, sf_sf, am_args_i, am_args_r, am_args_n, Nat.reduceAdd, List.cons_append, List.nil_append, Option.toList, List.drop_succ_cons, List.drop_zero, am_RP, am_CP, am_PH, Fin.isValue, Fin.val_zero, Fin.val_one, am_f2, am_f3, true_and, and_true, true_implies, false_implies, not_false_eq_true, ne_eq, nI_clampD, nI_leT, nI_leF, nI_ltT, nI_ltF, nI_eqT, nI_eqF, nI_lt0F, nI_0leT, nI_eq0T, nI_eq0F, nI_0ltT, nI_0ltF, nI_le0T, nI_le0F, nI_m1, nI_m1', m1_m1, m1_lt, m1_le, nI_mul, nI_add, nI_sub, nI_add1, nI_dec, nI_div, nI_mod, vp_inD, sf_nkD, sf_eqD, bI_t, nI1_01]
      refine ⟨true, rfl, fun _ => ?_⟩
      rw [ib_or, Bool.or_eq_true] at hb
      rcases hb with hb | hb
      · exact ⟨i, 0, 0, by omega, by decide, by decide, Or.inl hb⟩
      · exact ⟨i, 0, 1, by omega, by decide, by decide, Or.inl hb⟩
    | false =>
      by_cases hz : I 33 (2 * i) &&& I 33 (2 * i + 1) = 0
      · simp (decide := true) (disch := (first | exact eq_false (by decide) | exact eq_true (by decide) | decide | omega)) only [lX0_contradictsItself_0, lX0_contradictsItself_2, lX0_contradictsItself_49, lX0_contradictsItself_51, lX0_contradictsItself_57, bX0_contradictsItself_0, bX0_contradictsItself_2, bX0_contradictsItself_49, bX0_contradictsItself_51, bX0_contradictsItself_57, (show qX0_contradictsItself.2.2.2.1 = (some .boolean) from rfl), am_rok_bool, w_aload_n, w_getfield, w_goto, w_iadd, w_iaload, w_iand, w_icmp_ge, w_iconst, w_if_eq, w_if_ne, w_iinc, w_iload_n, w_imul, w_ireturn, w_istore_n, w_nop, w_swap, sa_33, sg_15_1, sg_29_0, sg_29_5, sg_2_1, cI_0, cI_1, cI_2, am_lk0, am_lk1, am_ld_some, am_isI_i, am_isJ_j, am_isR_r, am_st_eq, am_rmv_nil, am_rmv_t, am_rmv_i, am_rmv_r, sf_SH, sj_SH, sf_eq, sf_nk, sf_na, sf_sf, am_args_i, am_args_r, am_args_n, Nat.reduceAdd, List.cons_append, List.nil_append, Option.toList, List.drop_succ_cons, List.drop_zero, am_RP, am_CP, am_PH, Fin.isValue, Fin.val_zero, Fin.val_one, am_f2, am_f3, true_and, and_true, true_implies, false_implies, not_false_eq_true, ne_eq, nI_clampD, nI_leT, nI_leF, nI_ltT, nI_ltF, nI_eqT, nI_eqF, nI_lt0F, nI_0leT, nI_eq0T, nI_eq0F, nI_0ltT, nI_0ltF, nI_le0T, nI_le0F, nI_m1, nI_m1', m1_m1, m1_lt, m1_le, nI_mul, nI_add, nI_sub, nI_add1, nI_dec, nI_div, nI_mod, vp_inD, sf_nkD, sf_eqD, bI_f, hz]
        refine ⟨_, _, ?_, ?_, mk (i + 1) (by omega)⟩
        · omega
        · (simp (decide := true) only [am_has, am_lk0, am_lk1, and_self, true_and, and_true] <;> first | rfl | (refine ⟨?_, ?_⟩ <;> rfl) | (refine ⟨?_, ?_, ?_⟩ <;> rfl) | (refine ⟨?_, ?_, ?_, ?_⟩ <;> rfl))
      · simp (decide := true) (disch := (first | exact eq_false (by decide) | exact eq_true (by decide) | decide | omega)) only [lX0_contradictsItself_0, lX0_contradictsItself_2, lX0_contradictsItself_49, lX0_contradictsItself_51, lX0_contradictsItself_57, bX0_contradictsItself_0, bX0_contradictsItself_2, bX0_contradictsItself_49, bX0_contradictsItself_51, bX0_contradictsItself_57, (show qX0_contradictsItself.2.2.2.1 = (some .boolean) from rfl), am_rok_bool, w_aload_n, w_getfield, w_goto, w_iadd, w_iaload, w_iand, w_icmp_ge, w_iconst, w_if_eq, w_if_ne, w_iinc, w_iload_n, w_imul, w_ireturn, w_istore_n, w_nop, w_swap, sa_33, sg_15_1, sg_29_0, sg_29_5, sg_2_1, cI_0, cI_1, cI_2, am_lk0, am_lk1, am_ld_some, am_isI_i, am_isJ_j, am_isR_r, am_st_eq, am_rmv_nil, am_rmv_t, am_rmv_i, am_rmv_r, sf_SH, sj_SH, sf_eq, sf_nk, sf_na, sf_sf, am_args_i, am_args_r, am_args_n, Nat.reduceAdd, List.cons_append, List.nil_append, Option.toList, List.drop_succ_cons, List.drop_zero, am_RP, am_CP, am_PH, Fin.isValue, Fin.val_zero, Fin.val_one, am_f2, am_f3, true_and, and_true, true_implies, false_implies, not_false_eq_true, ne_eq, nI_clampD, nI_leT, nI_leF, nI_ltT, nI_ltF, nI_eqT, nI_eqF, nI_lt0F, nI_0leT, nI_eq0T, nI_eq0F, nI_0ltT, nI_0ltF, nI_le0T, nI_le0F, nI_m1, nI_m1', m1_m1, m1_lt, m1_le, nI_mul, nI_add, nI_sub, nI_add1, nI_dec, nI_div, nI_mod, vp_inD, sf_nkD, sf_eqD, bI_f, hz, nI1_01]
        refine ⟨true, rfl, fun _ => ?_⟩
        have hex : ∃ k, k < 32 ∧ ib (I 33 (2 * i) &&& I 33 (2 * i + 1)) k = true := Classical.byContradiction fun h9 => hz (ib_ext fun k hk => by
          rw [ib_0]
          cases h8 : ib (I 33 (2 * i) &&& I 33 (2 * i + 1)) k with
          | false => rfl
          | true => exact absurd ⟨k, hk, h8⟩ h9)
        obtain ⟨k, hk, h8⟩ := hex
        rw [ib_and, Bool.and_eq_true] at h8
        exact ⟨i, k, 0, by omega, by decide, hk, Or.inr h8⟩
set_option maxRecDepth 100000 in
set_option maxHeartbeats 400000 in
theorem c_X0_drawConclusions (hS : SN L t fs I) (hG : GS fs cs I) (hC : CSo fs cs) :
    am_Ctr g am_mt 1 (h + 3) 7 [.ref 29] (am_SH, I, J) 0 0 (fun r M => r = none ∧ ∃ I', M = (am_SH, I', J) ∧ FrW I I' ∧ GC fs cs I') := by
  have hn := hS.2.le
  have h1 : I 2 1 = nI fs.length := hS.1.1
  obtain ⟨JJ, hJJ⟩ : ∃ JJ : Nat → am_Cut, JJ = (fun zu zpc zl zst zM zk zn => (∃ (i : Nat) (I1 : Nat → Nat → Int32), zu = 10000 + (2 * fs.length - i) ∧ (i ≤ 2 * fs.length) ∧ (FrW I I1) ∧ (∀ x, x < i → Bp (I1 33 x) (fun g => EP fs cs x g)) ∧ zpc = 12 ∧ zl = [(0, .ref 29), (1, .int (nI (2 * fs.length))), (2, .int (nI i))] ∧ zst = [] ∧ zM = (am_SH, I1, J) ∧ zk = 0 ∧ zn = 0) ∨ (∃ (i : Nat) (I1 : Nat → Nat → Int32), zu = 1000 + 100 * (fs.length - i) ∧ (i ≤ fs.length) ∧ (FrW I I1) ∧ (WG fs cs I1) ∧ zpc = 36 ∧ zl = [(0, .ref 29), (1, .int (nI (2 * fs.length))), (2, .int (nI i))] ∧ zst = [] ∧ zM = (am_SH, I1, J) ∧ zk = 0 ∧ zn = 0) ∨ (∃ (i x : Nat) (I1 : Nat → Nat → Int32), zu = 1000 + 100 * (fs.length - i - 1) + 1 + (2 * fs.length - x) ∧ (i < fs.length) ∧ (x ≤ 2 * fs.length) ∧ (FrW I I1) ∧ (WG fs cs I1) ∧ zpc = 49 ∧ zl = [(0, .ref 29), (1, .int (nI (2 * fs.length))), (2, .int (nI i)), (3, .int (nI x))] ∧ zst = [] ∧ zM = (am_SH, I1, J) ∧ zk = 0 ∧ zn = 0) ∨ (∃ (i : Nat) (I1 : Nat → Nat → Int32), zu = fs.length - i ∧ (i ≤ fs.length) ∧ (FrW I I1) ∧ (WG fs cs I1) ∧ (∀ f, f < i → Bp (I1 34 f) (fun x => wB I1 fs.length x f = true)) ∧ zpc = 95 ∧ zl = [(0, .ref 29), (1, .int (nI (2 * fs.length))), (2, .int (nI i))] ∧ zst = [] ∧ zM = (am_SH, I1, J) ∧ zk = 0 ∧ zn = 0)) := ⟨_, rfl⟩
  have mk1 : ∀ (i : Nat) (I1 : Nat → Nat → Int32), (i ≤ 2 * fs.length) → (FrW I I1) → (∀ x, x < i → Bp (I1 33 x) (fun g => EP fs cs x g)) → JJ (10000 + (2 * fs.length - i)) 12 [(0, .ref 29), (1, .int (nI (2 * fs.length))), (2, .int (nI i))] [] (am_SH, I1, J) 0 0 := by
    intro i I1 a0 a1 a2
    rw [hJJ]
    exact Or.inl ⟨i, I1, rfl, a0, a1, a2, rfl, rfl, rfl, rfl, rfl, rfl⟩
  have mk2 : ∀ (i : Nat) (I1 : Nat → Nat → Int32), (i ≤ fs.length) → (FrW I I1) → (WG fs cs I1) → JJ (1000 + 100 * (fs.length - i)) 36 [(0, .ref 29), (1, .int (nI (2 * fs.length))), (2, .int (nI i))] [] (am_SH, I1, J) 0 0 := by
    intro i I1 a0 a1 a2
    rw [hJJ]
    exact Or.inr (Or.inl ⟨i, I1, rfl, a0, a1, a2, rfl, rfl, rfl, rfl, rfl, rfl⟩)
  have mk3 : ∀ (i x : Nat) (I1 : Nat → Nat → Int32), (i < fs.length) → (x ≤ 2 * fs.length) → (FrW I I1) → (WG fs cs I1) → JJ (1000 + 100 * (fs.length - i - 1) + 1 + (2 * fs.length - x)) 49 [(0, .ref 29), (1, .int (nI (2 * fs.length))), (2, .int (nI i)), (3, .int (nI x))] [] (am_SH, I1, J) 0 0 := by
    intro i x I1 a0 a1 a2 a3
    rw [hJJ]
    exact Or.inr (Or.inr (Or.inl ⟨i, x, I1, rfl, a0, a1, a2, a3, rfl, rfl, rfl, rfl, rfl, rfl⟩))
  have mk4 : ∀ (i : Nat) (I1 : Nat → Nat → Int32), (i ≤ fs.length) → (FrW I I1) → (WG fs cs I1) → (∀ f, f < i → Bp (I1 34 f) (fun x => wB I1 fs.length x f = true)) → JJ (fs.length - i) 95 [(0, .ref 29), (1, .int (nI (2 * fs.length))), (2, .int (nI i))] [] (am_SH, I1, J) 0 0 := by
    intro i I1 a0 a1 a2 a3
    rw [hJJ]
    exact Or.inr (Or.inr (Or.inr (⟨i, I1, rfl, a0, a1, a2, a3, rfl, rfl, rfl, rfl, rfl, rfl⟩)))
  refine am_rule2 (q := qX0_drawConclusions) (B := am_blk bX0_drawConclusions) rfl rfl kX0_drawConclusions nX0_drawConclusions (Nat.le_of_ble_eq_true rfl) JJ (fun zu zpc zl zst zM zk zn hj => ?_) ?_
  rotate_left
  · refine ⟨60, ?_⟩
    simp (decide := true) (disch := (first | exact eq_false (by decide) | exact eq_true (by decide) | decide | omega)) only [lX0_drawConclusions_0, lX0_drawConclusions_12, lX0_drawConclusions_34, lX0_drawConclusions_36, lX0_drawConclusions_49, lX0_drawConclusions_81, lX0_drawConclusions_87, lX0_drawConclusions_93, lX0_drawConclusions_95, lX0_drawConclusions_124, bX0_drawConclusions_0, bX0_drawConclusions_12, bX0_drawConclusions_34, bX0_drawConclusions_36, bX0_drawConclusions_49, bX0_drawConclusions_81, bX0_drawConclusions_87, bX0_drawConclusions_93, bX0_drawConclusions_95, bX0_drawConclusions_124, am_cat_i, am_cat_r, (show qX0_drawConclusions.2.2.2.1 = none from rfl), am_rok_none, w_aload_n, w_dup2, w_getfield, w_goto, w_iaload, w_iastore, w_icmp_ge, w_iconst, w_if_eq, w_iinc, w_iload_n, w_imul, w_ior, w_istore_n, w_nop, w_return, w_swap, sa_33, sa_34, sg_15_1, sg_29_0, sg_29_5, sg_29_6, sg_2_1, cI_0, cI_2, am_lk0, am_lk1, am_ld_some, am_isI_i, am_isJ_j, am_isR_r, am_st_eq, am_rmv_nil, am_rmv_t, am_rmv_i, am_rmv_r, sf_SH, sj_SH, sf_eq, sf_nk, sf_na, sf_sf, am_args_i, am_args_r, am_args_n, Nat.reduceAdd, List.cons_append, List.nil_append, Option.toList, List.drop_succ_cons, List.drop_zero, am_RP, am_CP, am_PH, Fin.isValue, Fin.val_zero, Fin.val_one, am_f2, am_f3, true_and, and_true, true_implies, false_implies, not_false_eq_true, ne_eq, nI_clampD, nI_leT, nI_leF, nI_ltT, nI_ltF, nI_eqT, nI_eqF, nI_lt0F, nI_0leT, nI_eq0T, nI_eq0F, nI_0ltT, nI_0ltF, nI_le0T, nI_le0F, nI_m1, nI_m1', m1_m1, m1_lt, m1_le, nI_mul, nI_add, nI_sub, nI_add1, nI_dec, nI_div, nI_mod, vp_inD, sf_nkD, sf_eqD, h1]
    refine ⟨_, _, ?_, mk1 0 I (by omega) (fun _ _ _ => rfl) (fun x hx => absurd hx (Nat.not_lt_zero _))⟩
    · (simp (decide := true) only [am_has, am_lk0, am_lk1, and_self, true_and, and_true] <;> first | rfl | (refine ⟨?_, ?_⟩ <;> rfl) | (refine ⟨?_, ?_, ?_⟩ <;> rfl) | (refine ⟨?_, ?_, ?_, ?_⟩ <;> rfl))
  rw [hJJ] at hj
  clear hJJ
  rcases hj with ⟨i, I1, rfl, e1, e2, e3, rfl, rfl, rfl, rfl, rfl, rfl⟩ | ⟨i, I1, rfl, e1, e2, e3, rfl, rfl, rfl, rfl, rfl, rfl⟩ | ⟨i, x, I1, rfl, e1, e2, e3, e4, rfl, rfl, rfl, rfl, rfl, rfl⟩ | ⟨i, I1, rfl, e1, e2, e3, e4, rfl, rfl, rfl, rfl, rfl, rfl⟩
  · refine ⟨_, 60, rfl, rfl, ?_⟩
    by_cases hib : i = 2 * fs.length
    · simp (decide := true) (disch := (first | exact eq_false (by decide) | exact eq_true (by decide) | decide | omega)) only [lX0_drawConclusions_0, lX0_drawConclusions_12, lX0_drawConclusions_34, lX0_drawConclusions_36, lX0_drawConclusions_49, lX0_drawConclusions_81, lX0_drawConclusions_87, lX0_drawConclusions_93, lX0_drawConclusions_95, lX0_drawConclusions_124, bX0_drawConclusions_0, bX0_drawConclusions_12, bX0_drawConclusions_34, bX0_drawConclusions_36, bX0_drawConclusions_49, bX0_drawConclusions_81, bX0_drawConclusions_87, bX0_drawConclusions_93, bX0_drawConclusions_95, bX0_drawConclusions_124, am_cat_i, am_cat_r, (show qX0_drawConclusions.2.2.2.1 = none from rfl), am_rok_none, w_aload_n, w_dup2, w_getfield, w_goto, w_iaload, w_iastore, w_icmp_ge, w_iconst, w_if_eq, w_iinc, w_iload_n, w_imul, w_ior, w_istore_n, w_nop, w_return, w_swap, sa_33, sa_34, sg_15_1, sg_29_0, sg_29_5, sg_29_6, sg_2_1, cI_0, cI_2, am_lk0, am_lk1, am_ld_some, am_isI_i, am_isJ_j, am_isR_r, am_st_eq, am_rmv_nil, am_rmv_t, am_rmv_i, am_rmv_r, sf_SH, sj_SH, sf_eq, sf_nk, sf_na, sf_sf, am_args_i, am_args_r, am_args_n, Nat.reduceAdd, List.cons_append, List.nil_append, Option.toList, List.drop_succ_cons, List.drop_zero, am_RP, am_CP, am_PH, Fin.isValue, Fin.val_zero, Fin.val_one, am_f2, am_f3, true_and, and_true, true_implies, false_implies, not_false_eq_true, ne_eq, nI_clampD, nI_leT, nI_leF, nI_ltT, nI_ltF, nI_eqT, nI_eqF, nI_lt0F, nI_0leT, nI_eq0T, nI_eq0F, nI_0ltT, nI_0ltF, nI_le0T, nI_le0F, nI_m1, nI_m1', m1_m1, m1_lt, m1_le, nI_mul, nI_add, nI_sub, nI_add1, nI_dec, nI_div, nI_mod, vp_inD, sf_nkD, sf_eqD]
      refine ⟨_, _, ?_, ?_, mk2 0 I1 (by omega) e2 (WG_0 hC hn (fun x hx => e3 x (by omega)))⟩
      · omega
      · (simp (decide := true) only [am_has, am_lk0, am_lk1, and_self, true_and, and_true] <;> first | rfl | (refine ⟨?_, ?_⟩ <;> rfl) | (refine ⟨?_, ?_, ?_⟩ <;> rfl) | (refine ⟨?_, ?_, ?_, ?_⟩ <;> rfl))
    · simp (decide := true) (disch := (first | exact eq_false (by decide) | exact eq_true (by decide) | decide | omega)) only [lX0_drawConclusions_0, lX0_drawConclusions_12, lX0_drawConclusions_34, lX0_drawConclusions_36, lX0_drawConclusions_49, lX0_drawConclusions_81, lX0_drawConclusions_87, lX0_drawConclusions_93, lX0_drawConclusions_95, lX0_drawConclusions_124, bX0_drawConclusions_0, bX0_drawConclusions_12, bX0_drawConclusions_34, bX0_drawConclusions_36, bX0_drawConclusions_49, bX0_drawConclusions_81, bX0_drawConclusions_87, bX0_drawConclusions_93, bX0_drawConclusions_95, bX0_drawConclusions_124, am_cat_i, am_cat_r, (show qX0_drawConclusions.2.2.2.1 = none from rfl), am_rok_none, w_aload_n, w_dup2, w_getfield, w_goto, w_iaload, w_iastore, w_icmp_ge, w_iconst, w_if_eq, w_iinc, w_iload_n, w_imul, w_ior, w_istore_n, w_nop, w_return, w_swap, sa_33, sa_34, sg_15_1, sg_29_0, sg_29_5, sg_29_6, sg_2_1, cI_0, cI_2, am_lk0, am_lk1, am_ld_some, am_isI_i, am_isJ_j, am_isR_r, am_st_eq, am_rmv_nil, am_rmv_t, am_rmv_i, am_rmv_r, sf_SH, sj_SH, sf_eq, sf_nk, sf_na, sf_sf, am_args_i, am_args_r, am_args_n, Nat.reduceAdd, List.cons_append, List.nil_append, Option.toList, List.drop_succ_cons, List.drop_zero, am_RP, am_CP, am_PH, Fin.isValue, Fin.val_zero, Fin.val_one, am_f2, am_f3, true_and, and_true, true_implies, false_implies, not_false_eq_true, ne_eq, nI_clampD, nI_leT, nI_leF, nI_ltT, nI_ltF, nI_eqT, nI_eqF, nI_lt0F, nI_0leT, nI_eq0T, nI_eq0F, nI_0ltT, nI_0ltF, nI_le0T, nI_le0F, nI_m1, nI_m1', m1_m1, m1_lt, m1_le, nI_mul, nI_add, nI_sub, nI_add1, nI_dec, nI_div, nI_mod, vp_inD, sf_nkD, sf_eqD]
      refine w_virtP (c_X0_targetsOf g (h + 1) I1 J (hG.fr (fun c _ _ => e2 c (by omega) (by omega))) hC hn i (by omega)) rfl rfl rfl (of_eq_true so_29) rfl (Nat.le_refl _) (Nat.le_refl _) ?_
      rintro R M1 ⟨w, rfl, hw, rfl⟩
      simp (decide := true) (disch := (first | exact eq_false (by decide) | exact eq_true (by decide) | decide | omega)) only [lX0_drawConclusions_0, lX0_drawConclusions_12, lX0_drawConclusions_34, lX0_drawConclusions_36, lX0_drawConclusions_49, lX0_drawConclusions_81, lX0_drawConclusions_87, lX0_drawConclusions_93, lX0_drawConclusions_95, lX0_drawConclusions_124, bX0_drawConclusions_0, bX0_drawConclusions_12, bX0_drawConclusions_34, bX0_drawConclusions_36, bX0_drawConclusions_49, bX0_drawConclusions_81, bX0_drawConclusions_87, bX0_drawConclusions_93, bX0_drawConclusions_95, bX0_drawConclusions_124, am_cat_i, am_cat_r, (show qX0_drawConclusions.2.2.2.1 = none from rfl), am_rok_none, w_aload_n, w_dup2, w_getfield, w_goto, w_iaload, w_iastore, w_icmp_ge, w_iconst, w_if_eq, w_iinc, w_iload_n, w_imul, w_ior, w_istore_n, w_nop, w_return, w_swap, sa_33, sa_34, sg_15_1, sg_29_0, sg_29_5, sg_29_6, sg_2_1, cI_0, cI_2, am_lk0, am_lk1, am_ld_some, am_isI_i, am_isJ_j, am_isR_r, am_st_eq, am_rmv_nil, am_rmv_t, am_rmv_i, am_rmv_r, sf_SH, sj_SH, sf_eq, sf_nk, sf_na, sf_sf, am_args_i, am_args_r, am_args_n, Nat.reduceAdd, List.cons_append, List.nil_append, Option.toList, List.drop_succ_cons, List.drop_zero, am_RP, am_CP, am_PH, Fin.isValue, Fin.val_zero, Fin.val_one, am_f2, am_f3, true_and, and_true, true_implies, false_implies, not_false_eq_true, ne_eq, nI_clampD, nI_leT, nI_leF, nI_ltT, nI_ltF, nI_eqT, nI_eqF, nI_lt0F, nI_0leT, nI_eq0T, nI_eq0F, nI_0ltT, nI_0ltF, nI_le0T, nI_le0F, nI_m1, nI_m1', m1_m1, m1_lt, m1_le, nI_mul, nI_add, nI_sub, nI_add1, nI_dec, nI_div, nI_mod, vp_inD, sf_nkD, sf_eqD]
      refine ⟨_, _, ?_, ?_, mk1 (i + 1) _ (by omega) (fun c d1 d2 => by rw [sf_naD d1]; exact e2 c d1 d2) (fun x hx => ?_)⟩
      · omega
      · (simp (decide := true) only [am_has, am_lk0, am_lk1, and_self, true_and, and_true] <;> first | rfl | (refine ⟨?_, ?_⟩ <;> rfl) | (refine ⟨?_, ?_, ?_⟩ <;> rfl) | (refine ⟨?_, ?_, ?_, ?_⟩ <;> rfl))
      by_cases hxi : x = i
      · rw [sf_eqD hxi, hxi]; exact hw
      · rw [sf_nkD hxi]; exact e3 x (by omega)
  · refine ⟨_, 60, rfl, rfl, ?_⟩
    have k1 : I1 2 1 = nI fs.length := by rw [e2 2 (by decide) (by decide)]; exact h1
    by_cases hib : i = fs.length
    · simp (decide := true) (disch := (first | exact eq_false (by decide) | exact eq_true (by decide) | decide | omega)) only [lX0_drawConclusions_0, lX0_drawConclusions_12, lX0_drawConclusions_34, lX0_drawConclusions_36, lX0_drawConclusions_49, lX0_drawConclusions_81, lX0_drawConclusions_87, lX0_drawConclusions_93, lX0_drawConclusions_95, lX0_drawConclusions_124, bX0_drawConclusions_0, bX0_drawConclusions_12, bX0_drawConclusions_34, bX0_drawConclusions_36, bX0_drawConclusions_49, bX0_drawConclusions_81, bX0_drawConclusions_87, bX0_drawConclusions_93, bX0_drawConclusions_95, bX0_drawConclusions_124, am_cat_i, am_cat_r, (show qX0_drawConclusions.2.2.2.1 = none from rfl), am_rok_none, w_aload_n, w_dup2, w_getfield, w_goto, w_iaload, w_iastore, w_icmp_ge, w_iconst, w_if_eq, w_iinc, w_iload_n, w_imul, w_ior, w_istore_n, w_nop, w_return, w_swap, sa_33, sa_34, sg_15_1, sg_29_0, sg_29_5, sg_29_6, sg_2_1, cI_0, cI_2, am_lk0, am_lk1, am_ld_some, am_isI_i, am_isJ_j, am_isR_r, am_st_eq, am_rmv_nil, am_rmv_t, am_rmv_i, am_rmv_r, sf_SH, sj_SH, sf_eq, sf_nk, sf_na, sf_sf, am_args_i, am_args_r, am_args_n, Nat.reduceAdd, List.cons_append, List.nil_append, Option.toList, List.drop_succ_cons, List.drop_zero, am_RP, am_CP, am_PH, Fin.isValue, Fin.val_zero, Fin.val_one, am_f2, am_f3, true_and, and_true, true_implies, false_implies, not_false_eq_true, ne_eq, nI_clampD, nI_leT, nI_leF, nI_ltT, nI_ltF, nI_eqT, nI_eqF, nI_lt0F, nI_0leT, nI_eq0T, nI_eq0F, nI_0ltT, nI_0ltF, nI_le0T, nI_le0F, nI_m1, nI_m1', m1_m1, m1_lt, m1_le, nI_mul, nI_add, nI_sub, nI_add1, nI_dec, nI_div, nI_mod, vp_inD, sf_nkD, sf_eqD, k1]
      refine ⟨_, _, ?_, ?_, mk4 0 I1 (by omega) e2 e3 (fun f hf => absurd hf (Nat.not_lt_zero _))⟩
      · omega
      · (simp (decide := true) only [am_has, am_lk0, am_lk1, and_self, true_and, and_true] <;> first | rfl | (refine ⟨?_, ?_⟩ <;> rfl) | (refine ⟨?_, ?_, ?_⟩ <;> rfl) | (refine ⟨?_, ?_, ?_, ?_⟩ <;> rfl))
    · simp (decide := true) (disch := (first | exact eq_false (by decide) | exact eq_true (by decide) | decide | omega)) only [lX0_drawConclusions_0, lX0_drawConclusions_12, lX0_drawConclusions_34, lX0_drawConclusions_36, lX0_drawConclusions_49, lX0_drawConclusions_81, lX0_drawConclusions_87, lX0_drawConclusions_93, lX0_drawConclusions_95, lX0_drawConclusions_124, bX0_drawConclusions_0, bX0_drawConclusions_12, bX0_drawConclusions_34, bX0_drawConclusions_36, bX0_drawConclusions_49, bX0_drawConclusions_81, bX0_drawConclusions_87, bX0_drawConclusions_93, bX0_drawConclusions_95, bX0_drawConclusions_124, am_cat_i, am_cat_r, (show qX0_drawConclusions.2.2.2.1 = none from rfl), am_rok_none, w_aload_n, w_dup2, w_getfield, w_goto, w_iaload, w_iastore, w_icmp_ge, w_iconst, w_if_eq, w_iinc, w_iload_n, w_imul, w_ior, w_istore_n, w_nop, w_return, w_swap, sa_33, sa_34, sg_15_1, sg_29_0, sg_29_5, sg_29_6, sg_2_1, cI_0, cI_2, am_lk0, am_lk1, am_ld_some, am_isI_i, am_isJ_j, am_isR_r, am_st_eq, am_rmv_nil, am_rmv_t, am_rmv_i, am_rmv_r, sf_SH, sj_SH, sf_eq, sf_nk, sf_na, sf_sf, am_args_i, am_args_r, am_args_n, Nat.reduceAdd, List.cons_append, List.nil_append, Option.toList, List.drop_succ_cons, List.drop_zero, am_RP, am_CP, am_PH, Fin.isValue, Fin.val_zero, Fin.val_one, am_f2, am_f3, true_and, and_true, true_implies, false_implies, not_false_eq_true, ne_eq, nI_clampD, nI_leT, nI_leF, nI_ltT, nI_ltF, nI_eqT, nI_eqF, nI_lt0F, nI_0leT, nI_eq0T, nI_eq0F, nI_0ltT, nI_0ltF, nI_le0T, nI_le0F, nI_m1, nI_m1', m1_m1, m1_lt, m1_le, nI_mul, nI_add, nI_sub, nI_add1, nI_dec, nI_div, nI_mod, vp_inD, sf_nkD, sf_eqD, k1]
      refine ⟨_, _, ?_, ?_, mk3 i 0 I1 (by omega) (by omega) e2 e3⟩
      · omega
      · (simp (decide := true) only [am_has, am_lk0, am_lk1, and_self, true_and, and_true] <;> first | rfl | (refine ⟨?_, ?_⟩ <;> rfl) | (refine ⟨?_, ?_, ?_⟩ <;> rfl) | (refine ⟨?_, ?_, ?_, ?_⟩ <;> rfl))
  · refine ⟨_, 60, rfl, rfl, ?_⟩
    by_cases hib : x = 2 * fs.length
    · simp (decide := true) (disch := (first | exact eq_false (by decide) | exact eq_true (by decide) | decide | omega)) only [lX0_drawConclusions_0, lX0_drawConclusions_12, lX0_drawConclusions_34, lX0_drawConclusions_36, lX0_drawConclusions_49, lX0_drawConclusions_81, lX0_drawConclusions_87, lX0_drawConclusions_93, lX0_drawConclusions_95, lX0_drawConclusions_124, bX0_drawConclusions_0, bX0_drawConclusions_12, bX0_drawConclusions_34, bX0_drawConclusions_36, bX0_drawConclusions_49, bX0_drawConclusions_81, bX0_drawConclusions_87, bX0_drawConclusions_93, bX0_drawConclusions_95, bX0_drawConclusions_124, am_cat_i, am_cat_r, (show qX0_drawConclusions.2.2.2.1 = none from rfl), am_rok_none, w_aload_n, w_dup2, w_getfield, w_goto, w_iaload, w_iastore, w_icmp_ge, w_iconst, w_if_eq, w_iinc, w_iload_n, w_imul, w_ior, w_istore_n, w_nop, w_return, w_swap, sa_33, sa_34, sg_15_1, sg_29_0, sg_29_5, sg_29_6, sg_2_1, cI_0, cI_2, am_lk0, am_lk1, am_ld_some, am_isI_i, am_isJ_j, am_isR_r, am_st_eq, am_rmv_nil, am_rmv_t, am_rmv_i, am_rmv_r, sf_SH, sj_SH, sf_eq, sf_nk, sf_na, sf_sf, am_args_i, am_args_r, am_args_n, Nat.reduceAdd, List.cons_append, List.nil_append, Option.toList, List.drop_succ_cons, List.drop_zero, am_RP, am_CP, am_PH, Fin.isValue, Fin.val_zero, Fin.val_one, am_f2, am_f3, true_and, and_true, true_implies, false_implies, not_false_eq_true, ne_eq, nI_clampD, nI_leT, nI_leF, nI_ltT, nI_ltF, nI_eqT, nI_eqF, nI_lt0F, nI_0leT, nI_eq0T, nI_eq0F, nI_0ltT, nI_0ltF, nI_le0T, nI_le0F, nI_m1, nI_m1', m1_m1, m1_lt, m1_le, nI_mul, nI_add, nI_sub, nI_add1, nI_dec, nI_div, nI_mod, vp_inD, sf_nkD, sf_eqD]
      refine ⟨_, _, ?_, ?_, mk2 (i + 1) I1 (by omega) e3 e4⟩
      · omega
      · (simp (decide := true) only [am_has, am_lk0, am_lk1, and_self, true_and, and_true] <;> first | rfl | (refine ⟨?_, ?_⟩ <;> rfl) | (refine ⟨?_, ?_, ?_⟩ <;> rfl) | (refine ⟨?_, ?_, ?_, ?_⟩ <;> rfl))
    · simp (decide := true) (disch := (first | exact eq_false (by decide) | exact eq_true (by decide) | decide | omega)) only [lX0_drawConclusions_0, lX0_drawConclusions_12, lX0_drawConclusions_34, lX0_drawConclusions_36, lX0_drawConclusions_49, lX0_drawConclusions_81, lX0_drawConclusions_87, lX0_drawConclusions_93, lX0_drawConclusions_95, lX0_drawConclusions_124, bX0_drawConclusions_0, bX0_drawConclusions_12, bX0_drawConclusions_34, bX0_drawConclusions_36, bX0_drawConclusions_49, bX0_drawConclusions_81, bX0_drawConclusions_87, bX0_drawConclusions_93, bX0_drawConclusions_95, bX0_drawConclusions_124, am_cat_i, am_cat_r, (show qX0_drawConclusions.2.2.2.1 = none from rfl), am_rok_none, w_aload_n, w_dup2, w_getfield, w_goto, w_iaload, w_iastore, w_icmp_ge, w_iconst, w_if_eq, w_iinc, w_iload_n, w_imul, w_ior, w_istore_n, w_nop, w_return, w_swap, sa_33, sa_34, sg_15_1, sg_29_0, sg_29_5, sg_29_6, sg_2_1, cI_0, cI_2, am_lk0, am_lk1, am_ld_some, am_isI_i, am_isJ_j, am_isR_r, am_st_eq, am_rmv_nil, am_rmv_t, am_rmv_i, am_rmv_r, sf_SH, sj_SH, sf_eq, sf_nk, sf_na, sf_sf, am_args_i, am_args_r, am_args_n, Nat.reduceAdd, List.cons_append, List.nil_append, Option.toList, List.drop_succ_cons, List.drop_zero, am_RP, am_CP, am_PH, Fin.isValue, Fin.val_zero, Fin.val_one, am_f2, am_f3, true_and, and_true, true_implies, false_implies, not_false_eq_true, ne_eq, nI_clampD, nI_leT, nI_leF, nI_ltT, nI_ltF, nI_eqT, nI_eqF, nI_lt0F, nI_0leT, nI_eq0T, nI_eq0F, nI_0ltT, nI_0ltF, nI_le0T, nI_le0F, nI_m1, nI_m1', m1_m1, m1_lt, m1_le, nI_mul, nI_add, nI_sub, nI_add1, nI_dec, nI_div, nI_mod, vp_inD, sf_nkD, sf_eqD]
      refine w_statE (c_X9_isIn g (h + 1) I1 J (I1 33 x) i (by omega)) (by decide) rfl rfl rfl (Nat.le_refl _) (Nat.le_refl _) ?_
      cases hb : ib (I1 33 x) i with
      | true =>
        simp (decide := true) (disch := (first | exact eq_false (by decide) | exact eq_true (by decide) | decide | omega)) only [lX0_drawConclusions_0, lX0_drawConclusions_12, lX0_drawConclusions_34, lX0_drawConclusions_36, lX0_drawConclusions_49, lX0_drawConclusions_81, lX0_drawConclusions_87, lX0_drawConclusions_93, lX0_drawConclusions_95, lX0_drawConclusions_124, bX0_drawConclusions_0, bX0_drawConclusions_12, bX0_drawConclusions_34, bX0_drawConclusions_36, bX0_drawConclusions_49, bX0_drawConclusions_81, bX0_drawConclusions_87, bX0_drawConclusions_93, bX0_drawConclusions_95, bX0_drawConclusions_124, am_cat_i, am_cat_r, (show qX0_drawConclusions.2.2.2.1 = none from rfl), am_rok_none, w_aload_n, w_dup2, w_getfield, w_goto, w_iaload, w_iastore, w_icmp_ge, w_iconst, w_if_eq, w_iinc, w_iload_n, w_imul, w_ior, w_istore_n, w_nop, w_return, w_swap, sa_33, sa_34, sg_15_1, sg_29_0, sg_29_5, sg_29_6, sg_2_1, cI_0, cI_2, am_lk0, am_lk1, am_ld_some, am_isI_i, am_isJ_j, am_isR_r, am_st_eq, am_rmv_nil, am_rmv_t, am_rmv_i, am_rmv_r, sf_SH, sj_SH, sf_eq, sf_nk, sf_na, sf_sf, am_args_i, am_args_r, am_args_n, Nat.reduceAdd, List.cons_append, List.nil_append, Option.toList, List.drop_succ_cons, List.drop_zero, am_RP, am_CP, am_PH, Fin.isValue, Fin.val_zero, Fin.val_one, am_f2, am_f3, true_and, and_true, true_implies, false_implies, not_false_eq_true, ne_eq, nI_clampD, nI_leT, nI_leF, nI_ltT, nI_ltF, nI_eqT, nI_eqF, nI_lt0F, nI_0leT, nI_eq0T, nI_eq0F, nI_0ltT, nI_0ltF, nI_le0T, nI_le0F, nI_m1, nI_m1', m1_m1, m1_lt, m1_le, nI_mul, nI_add, nI_sub, nI_add1, nI_dec, nI_div, nI_mod, vp_inD, sf_nkD, sf_eqD, bI_t]
        refine w_virtE (c_X0_wantedUnder g (h + 1) I1 J i (by omega)) rfl rfl rfl (of_eq_true so_29) rfl (Nat.le_refl _) (Nat.le_refl _) ?_
        simp (decide := true) (disch := (first | exact eq_false (by decide) | exact eq_true (by decide) | decide | omega)) only [lX0_drawConclusions_0, lX0_drawConclusions_12, lX0_drawConclusions_34, lX0_drawConclusions_36, lX0_drawConclusions_49, lX0_drawConclusions_81, lX0_drawConclusions_87, lX0_drawConclusions_93, lX0_drawConclusions_95, lX0_drawConclusions_124, bX0_drawConclusions_0, bX0_drawConclusions_12, bX0_drawConclusions_34, bX0_drawConclusions_36, bX0_drawConclusions_49, bX0_drawConclusions_81, bX0_drawConclusions_87, bX0_drawConclusions_93, bX0_drawConclusions_95, bX0_drawConclusions_124, am_cat_i, am_cat_r, (show qX0_drawConclusions.2.2.2.1 = none from rfl), am_rok_none, w_aload_n, w_dup2, w_getfield, w_goto, w_iaload, w_iastore, w_icmp_ge, w_iconst, w_if_eq, w_iinc, w_iload_n, w_imul, w_ior, w_istore_n, w_nop, w_return, w_swap, sa_33, sa_34, sg_15_1, sg_29_0, sg_29_5, sg_29_6, sg_2_1, cI_0, cI_2, am_lk0, am_lk1, am_ld_some, am_isI_i, am_isJ_j, am_isR_r, am_st_eq, am_rmv_nil, am_rmv_t, am_rmv_i, am_rmv_r, sf_SH, sj_SH, sf_eq, sf_nk, sf_na, sf_sf, am_args_i, am_args_r, am_args_n, Nat.reduceAdd, List.cons_append, List.nil_append, Option.toList, List.drop_succ_cons, List.drop_zero, am_RP, am_CP, am_PH, Fin.isValue, Fin.val_zero, Fin.val_one, am_f2, am_f3, true_and, and_true, true_implies, false_implies, not_false_eq_true, ne_eq, nI_clampD, nI_leT, nI_leF, nI_ltT, nI_ltF, nI_eqT, nI_eqF, nI_lt0F, nI_0leT, nI_eq0T, nI_eq0F, nI_0ltT, nI_0ltF, nI_le0T, nI_le0F, nI_m1, nI_m1', m1_m1, m1_lt, m1_le, nI_mul, nI_add, nI_sub, nI_add1, nI_dec, nI_div, nI_mod, vp_inD, sf_nkD, sf_eqD]
        refine ⟨_, _, ?_, ?_, mk3 i (x + 1) _ (by omega) (by omega) (fun c d1 d2 => by rw [sf_naD d1]; exact e3 c d1 d2) (WG_step e4 hn e1 (by omega) hb)⟩
        · omega
        · (simp (decide := true) only [am_has, am_lk0, am_lk1, and_self, true_and, and_true] <;> first | rfl | (refine ⟨?_, ?_⟩ <;> rfl) | (refine ⟨?_, ?_, ?_⟩ <;> rfl) | (refine ⟨?_, ?_, ?_, ?_⟩ <;> rfl))
      | false =>
        simp (decide := true) (disch := (first | exact eq_false (by decide) | exact eq_true (by decide) | decide | omega)) only [lX0_drawConclusions_0, lX0_drawConclusions_12, lX0_drawConclusions_34, lX0_drawConclusions_36, lX0_drawConclusions_49, lX0_drawConclusions_81, lX0_drawConclusions_87, lX0_drawConclusions_93, lX0_drawConclusions_95, lX0_drawConclusions_124, bX0_drawConclusions_0, bX0_drawConclusions_12, bX0_drawConclusions_34, bX0_drawConclusions_36, bX0_drawConclusions_49, bX0_drawConclusions_81, bX0_drawConclusions_87, bX0_drawConclusions_93, bX0_drawConclusions_95, bX0_drawConclusions_124, am_cat_i, am_cat_r, (show qX0_drawConclusions.2.2.2.1 = none from rfl), am_rok_none, w_aload_n, w_dup2, w_getfield, w_goto, w_iaload, w_iastore, w_icmp_ge, w_iconst, w_if_eq, w_iinc, w_iload_n, w_imul, w_ior, w_istore_n, w_nop, w_return, w_swap, sa_33, sa_34, sg_15_1, sg_29_0, sg_29_5, sg_29_6, sg_2_1, cI_0, cI_2, am_lk0, am_lk1, am_ld_some, am_isI_i, am_isJ_j, am_isR_r, am_st_eq, am_rmv_nil, am_rmv_t, am_rmv_i, am_rmv_r, sf_SH, sj_SH, sf_eq, sf_nk, sf_na, sf_sf, am_args_i, am_args_r, am_args_n, Nat.reduceAdd, List.cons_append, List.nil_append, Option.toList, List.drop_succ_cons, List.drop_zero, am_RP, am_CP, am_PH, Fin.isValue, Fin.val_zero, Fin.val_one, am_f2, am_f3, true_and, and_true, true_implies, false_implies, not_false_eq_true, ne_eq, nI_clampD, nI_leT, nI_leF, nI_ltT, nI_ltF, nI_eqT, nI_eqF, nI_lt0F, nI_0leT, nI_eq0T, nI_eq0F, nI_0ltT, nI_0ltF, nI_le0T, nI_le0F, nI_m1, nI_m1', m1_m1, m1_lt, m1_le, nI_mul, nI_add, nI_sub, nI_add1, nI_dec, nI_div, nI_mod, vp_inD, sf_nkD, sf_eqD, bI_f]
        refine ⟨_, _, ?_, ?_, mk3 i (x + 1) _ (by omega) (by omega) e3 e4⟩
        · omega
        · (simp (decide := true) only [am_has, am_lk0, am_lk1, and_self, true_and, and_true] <;> first | rfl | (refine ⟨?_, ?_⟩ <;> rfl) | (refine ⟨?_, ?_, ?_⟩ <;> rfl) | (refine ⟨?_, ?_, ?_, ?_⟩ <;> rfl))
  · refine ⟨_, 60, rfl, rfl, ?_⟩
    have k1 : I1 2 1 = nI fs.length := by rw [e2 2 (by decide) (by decide)]; exact h1
    by_cases hib : i = fs.length
    · simp (decide := true) (disch := (first | exact eq_false (by decide) | exact eq_true (by decide) | decide | omega)) only [lX0_drawConclusions_0, lX0_drawConclusions_12, lX0_drawConclusions_34, lX0_drawConclusions_36, lX0_drawConclusions_49, lX0_drawConclusions_81, lX0_drawConclusions_87, lX0_drawConclusions_93, lX0_drawConclusions_95, lX0_drawConclusions_124, bX0_drawConclusions_0, bX0_drawConclusions_12, bX0_drawConclusions_34, bX0_drawConclusions_36, bX0_drawConclusions_49, bX0_drawConclusions_81, bX0_drawConclusions_87, bX0_drawConclusions_93, bX0_drawConclusions_95, bX0_drawConclusions_124, am_cat_i, am_cat_r, (show qX0_drawConclusions.2.2.2.1 = none from rfl), am_rok_none, w_aload_n, w_dup2, w_getfield, w_goto, w_iaload, w_iastore, w_icmp_ge, w_iconst, w_if_eq, w_iinc, w_iload_n, w_imul, w_ior, w_istore_n, w_nop, w_return, w_swap, sa_33, sa_34, sg_15_1, sg_29_0, sg_29_5, sg_29_6, sg_2_1, cI_0, cI_2, am_lk0, am_lk1, am_ld_some, am_isI_i, am_isJ_j, am_isR_r, am_st_eq, am_rmv_nil, am_rmv_t, am_rmv_i, am_rmv_r, sf_SH, sj_SH, sf_eq, sf_nk, sf_na, sf_sf, am_args_i, am_args_r, am_args_n, Nat.reduceAdd, List.cons_append, List.nil_append, Option.toList, List.drop_succ_cons, List.drop_zero, am_RP, am_CP, am_PH, Fin.isValue, Fin.val_zero, Fin.val_one, am_f2, am_f3, true_and, and_true, true_implies, false_implies, not_false_eq_true, ne_eq, nI_clampD, nI_leT, nI_leF, nI_ltT, nI_ltF, nI_eqT, nI_eqF, nI_lt0F, nI_0leT, nI_eq0T, nI_eq0F, nI_0ltT, nI_0ltF, nI_le0T, nI_le0F, nI_m1, nI_m1', m1_m1, m1_lt, m1_le, nI_mul, nI_add, nI_sub, nI_add1, nI_dec, nI_div, nI_mod, vp_inD, sf_nkD, sf_eqD, k1]
      exact ⟨I1, rfl, e2, e3, fun f hf => e4 f (by omega)⟩
    · simp (decide := true) (disch := (first | exact eq_false (by decide) | exact eq_true (by decide) | decide | omega)) only [lX0_drawConclusions_0, lX0_drawConclusions_12, lX0_drawConclusions_34, lX0_drawConclusions_36, lX0_drawConclusions_49, lX0_drawConclusions_81, lX0_drawConclusions_87, lX0_drawConclusions_93, lX0_drawConclusions_95, lX0_drawConclusions_124, bX0_drawConclusions_0, bX0_drawConclusions_12, bX0_drawConclusions_34, bX0_drawConclusions_36, bX0_drawConclusions_49, bX0_drawConclusions_81, bX0_drawConclusions_87, bX0_drawConclusions_93, bX0_drawConclusions_95, bX0_drawConclusions_124, am_cat_i, am_cat_r, (show qX0_drawConclusions.2.2.2.1 = none from rfl), am_rok_none, w_aload_n, w_dup2, w_getfield, w_goto, w_iaload, w_iastore, w_icmp_ge, w_iconst, w_if_eq, w_iinc, w_iload_n, w_imul, w_ior, w_istore_n, w_nop, w_return, w_swap, sa_33, sa_34, sg_15_1, sg_29_0, sg_29_5, sg_29_6, sg_2_1, cI_0, cI_2, am_lk0, am_lk1, am_ld_some, am_isI_i, am_isJ_j, am_isR_r, am_st_eq, am_rmv_nil, am_rmv_t, am_rmv_i, am_rmv_r, sf_SH, sj_SH, sf_eq, sf_nk, sf_na, sf_sf, am_args_i, am_args_r, am_args_n, Nat.reduceAdd, List.cons_append, List.nil_append, Option.toList, List.drop_succ_cons, List.drop_zero, am_RP, am_CP, am_PH, Fin.isValue, Fin.val_zero, Fin.val_one, am_f2, am_f3, true_and, and_true, true_implies, false_implies, not_false_eq_true, ne_eq, nI_clampD, nI_leT, nI_leF, nI_ltT, nI_ltF, nI_eqT, nI_eqF, nI_lt0F, nI_0leT, nI_eq0T, nI_eq0F, nI_0ltT, nI_0ltF, nI_le0T, nI_le0F, nI_m1, nI_m1', m1_m1, m1_lt, m1_le, nI_mul, nI_add, nI_sub, nI_add1, nI_dec, nI_div, nI_mod, vp_inD, sf_nkD, sf_eqD, k1]
      refine w_virtP (c_X0_holesThatWant g h I1 J fs.length i (by omega) hn) rfl rfl rfl (of_eq_true so_29) rfl (Nat.le_refl _) (Nat.le_refl _) ?_
      rintro R M1 ⟨w, rfl, hw, rfl⟩
      simp (decide := true) (disch := (first | exact eq_false (by decide) | exact eq_true (by decide) | decide | omega)) only [lX0_drawConclusions_0, lX0_drawConclusions_12, lX0_drawConclusions_34, lX0_drawConclusions_36, lX0_drawConclusions_49, lX0_drawConclusions_81, lX0_drawConclusions_87, lX0_drawConclusions_93, lX0_drawConclusions_95, lX0_drawConclusions_124, bX0_drawConclusions_0, bX0_drawConclusions_12, bX0_drawConclusions_34, bX0_drawConclusions_36, bX0_drawConclusions_49, bX0_drawConclusions_81, bX0_drawConclusions_87, bX0_drawConclusions_93, bX0_drawConclusions_95, bX0_drawConclusions_124, am_cat_i, am_cat_r, (show qX0_drawConclusions.2.2.2.1 = none from rfl), am_rok_none, w_aload_n, w_dup2, w_getfield, w_goto, w_iaload, w_iastore, w_icmp_ge, w_iconst, w_if_eq, w_iinc, w_iload_n, w_imul, w_ior, w_istore_n, w_nop, w_return, w_swap, sa_33, sa_34, sg_15_1, sg_29_0, sg_29_5, sg_29_6, sg_2_1, cI_0, cI_2, am_lk0, am_lk1, am_ld_some, am_isI_i, am_isJ_j, am_isR_r, am_st_eq, am_rmv_nil, am_rmv_t, am_rmv_i, am_rmv_r, sf_SH, sj_SH, sf_eq, sf_nk, sf_na, sf_sf, am_args_i, am_args_r, am_args_n, Nat.reduceAdd, List.cons_append, List.nil_append, Option.toList, List.drop_succ_cons, List.drop_zero, am_RP, am_CP, am_PH, Fin.isValue, Fin.val_zero, Fin.val_one, am_f2, am_f3, true_and, and_true, true_implies, false_implies, not_false_eq_true, ne_eq, nI_clampD, nI_leT, nI_leF, nI_ltT, nI_ltF, nI_eqT, nI_eqF, nI_lt0F, nI_0leT, nI_eq0T, nI_eq0F, nI_0ltT, nI_0ltF, nI_le0T, nI_le0F, nI_m1, nI_m1', m1_m1, m1_lt, m1_le, nI_mul, nI_add, nI_sub, nI_add1, nI_dec, nI_div, nI_mod, vp_inD, sf_nkD, sf_eqD]
      have k33 : ∀ v, sf I1 34 i v 33 = I1 33 := fun v => sf_naD (by decide)
      refine ⟨_, _, ?_, ?_, mk4 (i + 1) _ (by omega) (fun c d1 d2 => by rw [sf_naD d2]; exact e2 c d1 d2) (e3.fr (k33 _)) (fun f hf => ?_)⟩
      · omega
      · (simp (decide := true) only [am_has, am_lk0, am_lk1, and_self, true_and, and_true] <;> first | rfl | (refine ⟨?_, ?_⟩ <;> rfl) | (refine ⟨?_, ?_, ?_⟩ <;> rfl) | (refine ⟨?_, ?_, ?_, ?_⟩ <;> rfl))
      rw [wB_cg (k33 _)]
      by_cases hxi : f = i
      · rw [sf_eqD hxi, hxi]; exact hw
      · rw [sf_nkD hxi]; exact e4 f (by omega)
end GR2
