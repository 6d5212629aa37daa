/-! the reference takes a sentence over -/
theorem pls_mem {L : Nat → Nat} {fs : List Fg} {g i : Nat} (hgi : g < i) (hk : kF (nF fs g) = 0) : ∃ r, r ∈ pls L fs i ∧ smN L (nF fs r) (nF fs g) = true := by
  obtain ⟨rest, hr⟩ := pls_pre L fs (g + 1) i hgi
  rw [hr]
  have h1 := pls_s L fs g
  by_cases hc : (pls L fs g).all (fun g' => !smN L (nF fs g') (nF fs g)) = true
  · rw [if_pos ⟨hk, hc⟩] at h1
    exact ⟨g, List.mem_append_left _ (by rw [h1]; simp), smN_refl L _⟩
  · rw [if_neg (fun h0 => hc h0.2)] at h1
    have : ∃ r ∈ pls L fs g, smN L (nF fs r) (nF fs g) = true := Classical.byContradiction fun h0 => hc (List.all_eq_true.mpr (fun r hr => by
      cases h9 : smN L (nF fs r) (nF fs g) with
      | false => rfl
      | true => exact absurd ⟨r, hr, h9⟩ h0))
    obtain ⟨r, hr1, hr2⟩ := this
    exact ⟨r, List.mem_append_left _ (by rw [h1]; exact hr1), hr2⟩
/-- a leaf ahead has the same name -/
def sNm (L : Nat → Nat) (fs : List Fg) (i j : Nat) : Prop := ∃ g, g < j ∧ kF (nF fs g) = 0 ∧ smN L (nF fs i) (nF fs g) = true
theorem pls_old {L : Nat → Nat} {fs : List Fg} {i : Nat} (h : sNm L fs i i) : pls L fs (i + 1) = pls L fs i := by
  obtain ⟨g, h1, h2, h3⟩ := h
  obtain ⟨r, hr1, hr2⟩ := pls_mem (L := L) h1 h2
  rw [pls_s, if_neg]
  intro h0
  have := List.all_eq_true.mp h0.2 r hr1
  rw [smN_trans hr2 (smN_symm h3)] at this
  cases this
theorem pls_newL {L : Nat → Nat} {fs : List Fg} {i : Nat} (hk : kF (nF fs i) = 0) (h : ¬ sNm L fs i i) : pls L fs (i + 1) = pls L fs i ++ [i] ∧ prd L fs i = (pls L fs i).length := by
  have hall : ∀ g ∈ pls L fs i, smN L (nF fs g) (nF fs i) = false := fun g hg => by
    cases h9 : smN L (nF fs g) (nF fs i) with
    | false => rfl
    | true =>
      have := pls_lt L fs i g hg
      exact absurd ⟨g, this.1, this.2, smN_symm h9⟩ h
  constructor
  · rw [pls_s, if_pos ⟨hk, List.all_eq_true.mpr (fun g hg => by rw [hall g hg]; rfl)⟩]
  · unfold prd
    exact List.findIdx_eq_length.mpr hall
theorem Good.pls5 {L : Nat → Nat} {t : Nat} {fs : List Fg} (hG : Good L t fs) : (pls L fs fs.length).length ≤ 5 := by
  have h1 : ∀ i, (pls L fs i).length ≤ ((List.range i).filter (fun f => decide (kF (nF fs f) = 0))).length := by
    intro i
    induction i with
    | zero => exact Nat.le_refl _
    | succ i ih =>
      rw [List.range_succ, List.filter_append, List.length_append, pls_s]
      by_cases hk : kF (nF fs i) = 0
      · have e1 : [i].filter (fun f => decide (kF (nF fs f) = 0)) = [i] := by rw [List.filter_cons, if_pos (decide_eq_true hk), List.filter_nil]
        rw [e1, List.length_singleton]
        split
        · rw [List.length_append, List.length_singleton]; omega
        · omega
      · rw [if_neg (fun h0 => hk h0.1)]
        omega
  have h2 := h1 fs.length
  have e : ((List.range fs.length).filter (fun f => decide (kF (nF fs f) = 0))).length = fs.countP (fun x => decide (kF x = 0)) := by
    conv => rhs; rw [← nF_map fs, List.countP_map]
    rw [List.countP_eq_length_filter]
    rfl
  have h3 : ∀ l : List Fg, l.countP (fun x => decide (kF x = 0)) + l.countP (fun x => decide (rk (kF x) = 2)) + l.countP (fun x => decide (kF x = 5)) ≤ l.length := by
    intro l
    induction l with
    | nil => simp
    | cons a r ih =>
      rw [List.countP_cons, List.countP_cons, List.countP_cons, List.length_cons]
      have : (if decide (kF a = 0) = true then 1 else 0) + (if decide (rk (kF a) = 2) = true then 1 else 0) + (if decide (kF a = 5) = true then 1 else 0) ≤ 1 := by
        unfold rk
        by_cases h0 : kF a = 0
        · simp [h0]
        · by_cases h5 : kF a = 5
          · simp [h5]
          · simp [h0, h5]
      omega
  have h4 := h3 fs
  have h5 := hG.2.1
  have h6 := hG.2.2.1
  unfold cQ at h5 h6
  unfold cN at h5
  omega
def SMg (L : Nat → Nat) (fs : List Fg) (f : Nat) (I : Nat → Nat → Int32) : Prop := I 68 f = nI (kF (nF fs f)) ∧ (rk (kF (nF fs f)) = 2 → I 69 f = nI (vF (nF fs f))) ∧ (kF (nF fs f) = 0 → I 69 f = nI (vF (nF fs f)) ∧ I 70 f = wI (wF (nF fs f)) ∧ I 71 f = nI (prd L fs f) ∧ I 72 f = nI (aF (nF fs f)))
theorem SMg.fr {L : Nat → Nat} {fs : List Fg} {f : Nat} {I I' : Nat → Nat → Int32} (h : SMg L fs f I) (h2 : ∀ c, 68 ≤ c → c ≤ 72 → I' c f = I c f) : SMg L fs f I' := by
  unfold SMg
  rw [h2 68 (by omega) (by omega), h2 69 (by omega) (by omega), h2 70 (by omega) (by omega), h2 71 (by omega) (by omega), h2 72 (by omega) (by omega)]
  exact h
def FrT (I I' : Nat → Nat → Int32) : Prop := (∀ c, c ≠ 60 → c < 68 ∨ 74 < c → I' c = I c) ∧ ∀ k, k ≠ 16 → k ≠ 23 → I' 60 k = I 60 k
theorem FrT.st {I I' : Nat → Nat → Int32} (h : FrT I I') {a k : Nat} {v : Int32} (ha : 68 ≤ a ∧ a ≤ 74) : FrT I (sf I' a k v) := ⟨fun c d1 d2 => by rw [sf_naD (by omega)]; exact h.1 c d1 d2, fun j d1 d2 => by rw [sf_naD (by omega)]; exact h.2 j d1 d2⟩
theorem FrT.s6 {I I' : Nat → Nat → Int32} (h : FrT I I') {k : Nat} {v : Int32} (ha : k = 16 ∨ k = 23) : FrT I (sf I' 60 k v) := ⟨fun c d1 d2 => by rw [sf_naD d1]; exact h.1 c d1 d2, fun j d1 d2 => by rw [sf_nkD (by omega)]; exact h.2 j d1 d2⟩
/-- what the reference has taken so far -/
def TKd (L : Nat → Nat) (fs : List Fg) (i : Nat) (I : Nat → Nat → Int32) : Prop := I 60 16 = nI fs.length ∧ (∀ f, f < i → SMg L fs f I) ∧ I 60 23 = nI (pls L fs i).length ∧ ∀ p, p < (pls L fs i).length → I 74 p = nI (arF (nF fs ((pls L fs i).getD p 0)))
def FrTa (I I' : Nat → Nat → Int32) : Prop := (∀ c, c ≠ 60 → c < 68 ∨ (83 < c ∧ c ≠ 93) ∨ c = 76 ∨ c = 77 → I' c = I c) ∧ ∀ k, k ≠ 16 → k ≠ 23 → k ≠ 26 → k ≠ 29 → k ≠ 32 → k ≠ 37 → I' 60 k = I 60 k
section MT1
variable (g : am_G) (h : Nat) (I : Nat → Nat → Int32) (J : Nat → Nat → Int64) {L : Nat → Nat} {t : Nat} {fs : List Fg}
set_option maxRecDepth 100000 in
set_option maxHeartbeats 400000 in
theorem c_X10_forgets :
    am_Ctr g am_mt 1 (h + 1) 199 [.ref 60] (am_SH, I, J) 0 0 (fun r M => r = none ∧ ∃ I', M = (am_SH, I', J) ∧ (∀ c, c ≠ 93 → I' c = I c) ∧ ∀ k, k < 54 → I' 93 k = nI 0) := by
  obtain ⟨JJ, hJJ⟩ : ∃ JJ : Nat → am_Cut, JJ = (fun zu zpc zl zst zM zk zn => (∃ (i : Nat) (I1 : Nat → Nat → Int32), zu = 54 - i ∧ (i ≤ 54) ∧ (∀ c, c ≠ 93 → I1 c = I c) ∧ (∀ k, k < i → I1 93 k = nI 0) ∧ zpc = 2 ∧ zl = [(0, .ref 60), (1, .int (nI i))] ∧ zst = [] ∧ zM = (am_SH, I1, J) ∧ zk = 0 ∧ zn = 0)) := ⟨_, rfl⟩
  have mk : ∀ (i : Nat) (I1 : Nat → Nat → Int32), (i ≤ 54) → (∀ c, c ≠ 93 → I1 c = I c) → (∀ k, k < i → I1 93 k = nI 0) → JJ (54 - i) 2 [(0, .ref 60), (1, .int (nI i))] [] (am_SH, I1, J) 0 0 := by
    intro i I1 a0 a1 a2
    rw [hJJ]
    exact ⟨i, I1, rfl, a0, a1, a2, rfl, rfl, rfl, rfl, rfl, rfl⟩
  refine am_rule2 (q := qX10_forgets) (B := am_blk bX10_forgets) rfl rfl kX10_forgets nX10_forgets (Nat.le_of_ble_eq_true rfl) JJ (fun zu zpc zl zst zM zk zn hj => ?_) ?_
  rotate_left
  · refine ⟨60, ?_⟩
    simp (decide := true) (disch := (first | exact eq_false (by decide) | exact eq_true (by decide) | decide | omega)) only [lX10_forgets_0, lX10_forgets_2, lX10_forgets_21, bX10_forgets_0, bX10_forgets_2, bX10_forgets_21, (show qX10_forgets.2.2.2.1 = none from rfl), am_rok_none, w_aload_n, w_bastore, w_bipush, w_getfield, w_goto, w_icmp_ge, w_iconst, w_iinc, w_iload_n, w_istore_n, w_nop, w_return, w_swap, sa_93, sg_60_49, cB_54, cI_0, am_lk0, am_lk1, am_ld_some, am_isI_i, am_isJ_j, am_isR_r, am_st_eq, am_rmv_nil, am_rmv_t, am_rmv_i, am_rmv_r, sf_SH, sj_SH, sf_eq, sf_nk, sf_na, sf_sf, am_args_i, am_args_r, am_args_n, Nat.reduceAdd, List.cons_append, List.nil_append, Option.toList, List.drop_succ_cons, List.drop_zero, am_RP, am_CP, am_PH, Fin.isValue, Fin.val_zero, Fin.val_one, am_f2, am_f3, true_and, and_true, true_implies, false_implies, not_false_eq_true, ne_eq, nI_clampD, nI_leT, nI_leF, nI_ltT, nI_ltF, nI_eqT, nI_eqF, nI_lt0F, nI_0leT, nI_eq0T, nI_eq0F, nI_0ltT, nI_0ltF, nI_le0T, nI_le0F, nI_m1, nI_m1', m1_m1, m1_lt, m1_le, nI_mul, nI_add, nI_sub, nI_add1, nI_dec, nI_div, nI_mod, vp_inD, sf_nkD, sf_eqD]
    refine ⟨_, _, ?_, mk 0 I (by omega) (fun _ _ => rfl) (fun k hk => absurd hk (Nat.not_lt_zero _))⟩
    · (simp (decide := true) only [am_has, am_lk0, am_lk1, and_self, true_and, and_true] <;> first | rfl | (refine ⟨?_, ?_⟩ <;> rfl) | (refine ⟨?_, ?_, ?_⟩ <;> rfl) | (refine ⟨?_, ?_, ?_, ?_⟩ <;> rfl))
  rw [hJJ] at hj
  clear hJJ
  obtain ⟨i, I1, rfl, e1, e2, e3, rfl, rfl, rfl, rfl, rfl, rfl⟩ := hj
  refine ⟨_, 60, rfl, rfl, ?_⟩
  by_cases hi : i = 54
  · subst hi
    simp (decide := true) (disch := (first | exact eq_false (by decide) | exact eq_true (by decide) | decide | omega)) only [lX10_forgets_0, lX10_forgets_2, lX10_forgets_21, bX10_forgets_0, bX10_forgets_2, bX10_forgets_21, (show qX10_forgets.2.2.2.1 = none from rfl), am_rok_none, w_aload_n, w_bastore, w_bipush, w_getfield, w_goto, w_icmp_ge, w_iconst, w_iinc, w_iload_n, w_istore_n, w_nop, w_return, w_swap, sa_93, sg_60_49, cB_54, cI_0, am_lk0, am_lk1, am_ld_some, am_isI_i, am_isJ_j, am_isR_r, am_st_eq, am_rmv_nil, am_rmv_t, am_rmv_i, am_rmv_r, sf_SH, sj_SH, sf_eq, sf_nk, sf_na, sf_sf, am_args_i, am_args_r, am_args_n, Nat.reduceAdd, List.cons_append, List.nil_append, Option.toList, List.drop_succ_cons, List.drop_zero, am_RP, am_CP, am_PH, Fin.isValue, Fin.val_zero, Fin.val_one, am_f2, am_f3, true_and, and_true, true_implies, false_implies, not_false_eq_true, ne_eq, nI_clampD, nI_leT, nI_leF, nI_ltT, nI_ltF, nI_eqT, nI_eqF, nI_lt0F, nI_0leT, nI_eq0T, nI_eq0F, nI_0ltT, nI_0ltF, nI_le0T, nI_le0F, nI_m1, nI_m1', m1_m1, m1_lt, m1_le, nI_mul, nI_add, nI_sub, nI_add1, nI_dec, nI_div, nI_mod, vp_inD, sf_nkD, sf_eqD]
    exact ⟨I1, rfl, e2, e3⟩
  · simp (decide := true) (disch := (first | exact eq_false (by decide) | exact eq_true (by decide) | decide | omega)) only [lX10_forgets_0, lX10_forgets_2, lX10_forgets_21, bX10_forgets_0, bX10_forgets_2, bX10_forgets_21, (show qX10_forgets.2.2.2.1 = none from rfl), am_rok_none, w_aload_n, w_bastore, w_bipush, w_getfield, w_goto, w_icmp_ge, w_iconst, w_iinc, w_iload_n, w_istore_n, w_nop, w_return, w_swap, sa_93, sg_60_49, cB_54, cI_0, am_lk0, am_lk1, am_ld_some, am_isI_i, am_isJ_j, am_isR_r, am_st_eq, am_rmv_nil, am_rmv_t, am_rmv_i, am_rmv_r, sf_SH, sj_SH, sf_eq, sf_nk, sf_na, sf_sf, am_args_i, am_args_r, am_args_n, Nat.reduceAdd, List.cons_append, List.nil_append, Option.toList, List.drop_succ_cons, List.drop_zero, am_RP, am_CP, am_PH, Fin.isValue, Fin.val_zero, Fin.val_one, am_f2, am_f3, true_and, and_true, true_implies, false_implies, not_false_eq_true, ne_eq, nI_clampD, nI_leT, nI_leF, nI_ltT, nI_ltF, nI_eqT, nI_eqF, nI_lt0F, nI_0leT, nI_eq0T, nI_eq0F, nI_0ltT, nI_0ltF, nI_le0T, nI_le0F, nI_m1, nI_m1', m1_m1, m1_lt, m1_le, nI_mul, nI_add, nI_sub, nI_add1, nI_dec, nI_div, nI_mod, vp_inD, sf_nkD, sf_eqD, nI0_01]
    refine ⟨_, _, ?_, ?_, mk (i + 1) _ (by omega) (fun c hc => by rw [sf_naD hc]; exact e2 c hc) (fun k hk => ?_)⟩
    · omega
    · (simp (decide := true) only [am_has, am_lk0, am_lk1, and_self, true_and, and_true] <;> first | rfl | (refine ⟨?_, ?_⟩ <;> rfl) | (refine ⟨?_, ?_, ?_⟩ <;> rfl) | (refine ⟨?_, ?_, ?_, ?_⟩ <;> rfl))
    by_cases hki : k = i
    · rw [sf_eqD hki]
    · rw [sf_nkD hki]; exact e3 k (by omega)
set_option maxRecDepth 100000 in
set_option maxHeartbeats 8000000 in
theorem c_X10_takes (hT : TX 61 L t I) (h2 : I 60 2 = nI t) (hD : RM fs I) (hG : Good L t fs) :
    am_Ctr g am_mt 1 (h + 5) 150 [.ref 60] (am_SH, I, J) 0 0 (fun r M => r = none ∧ ∃ I', M = (am_SH, I', J) ∧ FrTa I I' ∧ SMd L t fs I' ∧ CMd [] I' ∧ Edg (EP fs []) I' ∧ RSo fs (RLs fs []) I' ∧ I' 60 32 = nI 0 ∧ ∀ k, k < 54 → I' 93 k = nI 0) := by
  have hn := hG.le
  have h6 : I 60 6 = nI fs.length := hD.1
  have ht := hT.1
  have h5 := hG.pls5
  have hp5 : ∀ i, i ≤ fs.length → (pls L fs i).length ≤ 5 := fun i hi => by
    obtain ⟨r, hr⟩ := pls_pre L fs i fs.length hi
    rw [hr, List.length_append] at h5
    omega
  obtain ⟨JJ, hJJ⟩ : ∃ JJ : Nat → am_Cut, JJ = (fun zu zpc zl zst zM zk zn => (∃ (i : Nat) (I1 : Nat → Nat → Int32), zu = 100000 + 100 * (fs.length - i) ∧ (i ≤ fs.length) ∧ (FrT I I1) ∧ (TKd L fs i I1) ∧ zpc = 15 ∧ zl = [(0, .ref 60), (1, .int (nI i))] ∧ zst = [] ∧ zM = (am_SH, I1, J) ∧ zk = 0 ∧ zn = 0) ∨ (∃ (i j : Nat) (I1 : Nat → Nat → Int32), zu = 100000 + 100 * (fs.length - i - 1) + 1 + (i - j) ∧ (i < fs.length ∧ j ≤ i ∧ kF (nF fs i) = 0) ∧ (FrT I I1) ∧ (TKd L fs i I1) ∧ (I1 68 i = nI 0 ∧ I1 69 i = nI (vF (nF fs i)) ∧ I1 70 i = wI (wF (nF fs i)) ∧ I1 72 i = nI (aF (nF fs i))) ∧ ((sNm L fs i j → I1 71 i = nI (prd L fs i)) ∧ (¬ sNm L fs i j → I1 71 i = -1)) ∧ zpc = 89 ∧ zl = [(0, .ref 60), (1, .int (nI i)), (2, .int (nI j))] ∧ zst = [] ∧ zM = (am_SH, I1, J) ∧ zk = 0 ∧ zn = 0) ∨ (∃ (k : Nat) (I1 : Nat → Nat → Int32), zu = t - k ∧ (k ≤ t) ∧ (FrT I I1) ∧ (TKd L fs fs.length I1) ∧ (∀ j, j < k → I1 73 j = nI (L j)) ∧ zpc = 199 ∧ zl = [(0, .ref 60), (1, .int (nI k))] ∧ zst = [] ∧ zM = (am_SH, I1, J) ∧ zk = 0 ∧ zn = 0)) := ⟨_, rfl⟩
  have mk1 : ∀ (i : Nat) (I1 : Nat → Nat → Int32), (i ≤ fs.length) → (FrT I I1) → (TKd L fs i I1) → JJ (100000 + 100 * (fs.length - i)) 15 [(0, .ref 60), (1, .int (nI i))] [] (am_SH, I1, J) 0 0 := by
    intro i I1 a0 a1 a2
    rw [hJJ]
    exact Or.inl ⟨i, I1, rfl, a0, a1, a2, rfl, rfl, rfl, rfl, rfl, rfl⟩
  have mk2 : ∀ (i j : Nat) (I1 : Nat → Nat → Int32), (i < fs.length ∧ j ≤ i ∧ kF (nF fs i) = 0) → (FrT I I1) → (TKd L fs i I1) → (I1 68 i = nI 0 ∧ I1 69 i = nI (vF (nF fs i)) ∧ I1 70 i = wI (wF (nF fs i)) ∧ I1 72 i = nI (aF (nF fs i))) → ((sNm L fs i j → I1 71 i = nI (prd L fs i)) ∧ (¬ sNm L fs i j → I1 71 i = -1)) → JJ (100000 + 100 * (fs.length - i - 1) + 1 + (i - j)) 89 [(0, .ref 60), (1, .int (nI i)), (2, .int (nI j))] [] (am_SH, I1, J) 0 0 := by
    intro i j I1 a0 a1 a2 a3 a4
    rw [hJJ]
    exact Or.inr (Or.inl ⟨i, j, I1, rfl, a0, a1, a2, a3, a4, rfl, rfl, rfl, rfl, rfl, rfl⟩)
  have mk3 : ∀ (k : Nat) (I1 : Nat → Nat → Int32), (k ≤ t) → (FrT I I1) → (TKd L fs fs.length I1) → (∀ j, j < k → I1 73 j = nI (L j)) → JJ (t - k) 199 [(0, .ref 60), (1, .int (nI k))] [] (am_SH, I1, J) 0 0 := by
    intro k I1 a0 a1 a2 a3
    rw [hJJ]
    exact Or.inr (Or.inr (⟨k, I1, rfl, a0, a1, a2, a3, rfl, rfl, rfl, rfl, rfl, rfl⟩))
  refine am_rule2 (q := qX10_takes) (B := am_blk bX10_takes) rfl rfl kX10_takes nX10_takes (Nat.le_of_ble_eq_true rfl) JJ (fun zu zpc zl zst zM zk zn hj => ?_) ?_
  rotate_left
  · refine ⟨60, ?_⟩
    simp (decide := true) (disch := (first | exact eq_false (by decide) | exact eq_true (by decide) | decide | omega)) only [lX10_takes_0, lX10_takes_15, lX10_takes_89, lX10_takes_126, lX10_takes_132, lX10_takes_139, lX10_takes_179, lX10_takes_180, lX10_takes_191, lX10_takes_197, lX10_takes_199, lX10_takes_225, bX10_takes_0, bX10_takes_15, bX10_takes_89, bX10_takes_126, bX10_takes_132, bX10_takes_139, bX10_takes_179, bX10_takes_180, bX10_takes_191, bX10_takes_197, bX10_takes_199, bX10_takes_225, (show qX10_takes.2.2.2.1 = none from rfl), am_rok_none, w_aload_n, w_dup, w_getfield, w_goto, w_iadd, w_iaload, w_iastore, w_icmp_ge, w_iconst, w_if_eq, w_if_ge, w_if_ne, w_iinc, w_iload_n, w_istore_n, w_nop, w_puti, w_return, w_swap, sa_61, sa_62, sa_63, sa_64, sa_65, sa_68, sa_69, sa_70, sa_71, sa_72, sa_73, sa_74, sg_60_1, sg_60_10, sg_60_11, sg_60_12, sg_60_16, sg_60_17, sg_60_18, sg_60_19, sg_60_2, sg_60_20, sg_60_21, sg_60_22, sg_60_23, sg_60_24, sg_60_6, sg_60_9, sp_60_16, sp_60_23, sp_60_26, cI_0, cI_1, cI_2, cI_m1, am_lk0, am_lk1, am_ld_some, am_isI_i, am_isJ_j, am_isR_r, am_st_eq, am_rmv_nil, am_rmv_t, am_rmv_i, am_rmv_r, sf_SH, sj_SH, sf_eq, sf_nk, sf_na, sf_sf, am_args_i, am_args_r, am_args_n, Nat.reduceAdd, List.cons_append, List.nil_append, Option.toList, List.drop_succ_cons, List.drop_zero, am_RP, am_CP, am_PH, Fin.isValue, Fin.val_zero, Fin.val_one, am_f2, am_f3, true_and, and_true, true_implies, false_implies, not_false_eq_true, ne_eq, nI_clampD, nI_leT, nI_leF, nI_ltT, nI_ltF, nI_eqT, nI_eqF, nI_lt0F, nI_0leT, nI_eq0T, nI_eq0F, nI_0ltT, nI_0ltF, nI_le0T, nI_le0F, nI_m1, nI_m1', m1_m1, m1_lt, m1_le, nI_mul, nI_add, nI_sub, nI_add1, nI_dec, nI_div, nI_mod, vp_inD, sf_nkD, sf_eqD, h6]
    refine ⟨_, _, ?_, mk1 0 _ (by omega) ⟨fun c d1 d2 => by rw [sf_naD d1, sf_naD d1], fun k d1 d2 => by rw [sf_nkD d2, sf_nkD d1]⟩ ⟨by rw [sf_nkD (by decide), sf_eq], fun f hf => absurd hf (Nat.not_lt_zero _), by rw [sf_eq]; rfl, fun p hp => absurd hp (Nat.not_lt_zero _)⟩⟩
    · (simp (decide := true) only [am_has, am_lk0, am_lk1, and_self, true_and, and_true] <;> first | rfl | (refine ⟨?_, ?_⟩ <;> rfl) | (refine ⟨?_, ?_, ?_⟩ <;> rfl) | (refine ⟨?_, ?_, ?_, ?_⟩ <;> rfl))
  rw [hJJ] at hj
  clear hJJ
  rcases hj with ⟨i, I1, rfl, e1, e2, e3, rfl, rfl, rfl, rfl, rfl, rfl⟩ | ⟨i, j, I1, rfl, e1, e2, e3, e4, e5, rfl, rfl, rfl, rfl, rfl, rfl⟩ | ⟨k, I1, rfl, e1, e2, e3, e4, rfl, rfl, rfl, rfl, rfl, rfl⟩
  · refine ⟨_, 120, rfl, rfl, ?_⟩
    have k16 := e3.1
    by_cases hi : i = fs.length
    · subst hi
      simp (decide := true) (disch := (first | exact eq_false (by decide) | exact eq_true (by decide) | decide | omega)) only [lX10_takes_0, lX10_takes_15, lX10_takes_89, lX10_takes_126, lX10_takes_132, lX10_takes_139, lX10_takes_179, lX10_takes_180, lX10_takes_191, lX10_takes_197, lX10_takes_199, lX10_takes_225, bX10_takes_0, bX10_takes_15, bX10_takes_89, bX10_takes_126, bX10_takes_132, bX10_takes_139, bX10_takes_179, bX10_takes_180, bX10_takes_191, bX10_takes_197, bX10_takes_199, bX10_takes_225, (show qX10_takes.2.2.2.1 = none from rfl), am_rok_none, w_aload_n, w_dup, w_getfield, w_goto, w_iadd, w_iaload, w_iastore, w_icmp_ge, w_iconst, w_if_eq, w_if_ge, w_if_ne, w_iinc, w_iload_n, w_istore_n, w_nop, w_puti, w_return, w_swap, sa_61, sa_62, sa_63, sa_64, sa_65, sa_68, sa_69, sa_70, sa_71, sa_72, sa_73, sa_74, sg_60_1, sg_60_10, sg_60_11, sg_60_12, sg_60_16, sg_60_17, sg_60_18, sg_60_19, sg_60_2, sg_60_20, sg_60_21, sg_60_22, sg_60_23, sg_60_24, sg_60_6, sg_60_9, sp_60_16, sp_60_23, sp_60_26, cI_0, cI_1, cI_2, cI_m1, am_lk0, am_lk1, am_ld_some, am_isI_i, am_isJ_j, am_isR_r, am_st_eq, am_rmv_nil, am_rmv_t, am_rmv_i, am_rmv_r, sf_SH, sj_SH, sf_eq, sf_nk, sf_na, sf_sf, am_args_i, am_args_r, am_args_n, Nat.reduceAdd, List.cons_append, List.nil_append, Option.toList, List.drop_succ_cons, List.drop_zero, am_RP, am_CP, am_PH, Fin.isValue, Fin.val_zero, Fin.val_one, am_f2, am_f3, true_and, and_true, true_implies, false_implies, not_false_eq_true, ne_eq, nI_clampD, nI_leT, nI_leF, nI_ltT, nI_ltF, nI_eqT, nI_eqF, nI_lt0F, nI_0leT, nI_eq0T, nI_eq0F, nI_0ltT, nI_0ltF, nI_le0T, nI_le0F, nI_m1, nI_m1', m1_m1, m1_lt, m1_le, nI_mul, nI_add, nI_sub, nI_add1, nI_dec, nI_div, nI_mod, vp_inD, sf_nkD, sf_eqD, k16]
      refine ⟨_, _, ?_, ?_, mk3 0 I1 (by omega) e2 e3 (fun j hj => absurd hj (Nat.not_lt_zero _))⟩
      · omega
      · (simp (decide := true) only [am_has, am_lk0, am_lk1, and_self, true_and, and_true] <;> first | rfl | (refine ⟨?_, ?_⟩ <;> rfl) | (refine ⟨?_, ?_, ?_⟩ <;> rfl) | (refine ⟨?_, ?_, ?_, ?_⟩ <;> rfl))
    · have hk6 := hG.k6 (f := i) (by omega)
      have hDi := hD.2 i (by omega)
      have q62 : I1 62 i = nI (kF (nF fs i)) := by rw [e2.1 62 (by decide) (by decide)]; exact hDi.1
      by_cases hk : kF (nF fs i) = 0
      · have hv := hDi.2.2 hk
        have q63 : I1 63 i = nI (vF (nF fs i)) := by rw [e2.1 63 (by decide) (by decide)]; exact hv.1
        have q64 : I1 64 i = wI (wF (nF fs i)) := by rw [e2.1 64 (by decide) (by decide)]; exact hv.2.1
        have q65 : I1 65 i = nI (aF (nF fs i)) := by rw [e2.1 65 (by decide) (by decide)]; exact hv.2.2
        rw [hk] at q62
        simp (decide := true) (disch := (first | exact eq_false (by decide) | exact eq_true (by decide) | decide | omega)) only [lX10_takes_0, lX10_takes_15, lX10_takes_89, lX10_takes_126, lX10_takes_132, lX10_takes_139, lX10_takes_179, lX10_takes_180, lX10_takes_191, lX10_takes_197, lX10_takes_199, lX10_takes_225, bX10_takes_0, bX10_takes_15, bX10_takes_89, bX10_takes_126, bX10_takes_132, bX10_takes_139, bX10_takes_179, bX10_takes_180, bX10_takes_191, bX10_takes_197, bX10_takes_199, bX10_takes_225, (show qX10_takes.2.2.2.1 = none from rfl), am_rok_none, w_aload_n, w_dup, w_getfield, w_goto, w_iadd, w_iaload, w_iastore, w_icmp_ge, w_iconst, w_if_eq, w_if_ge, w_if_ne, w_iinc, w_iload_n, w_istore_n, w_nop, w_puti, w_return, w_swap, sa_61, sa_62, sa_63, sa_64, sa_65, sa_68, sa_69, sa_70, sa_71, sa_72, sa_73, sa_74, sg_60_1, sg_60_10, sg_60_11, sg_60_12, sg_60_16, sg_60_17, sg_60_18, sg_60_19, sg_60_2, sg_60_20, sg_60_21, sg_60_22, sg_60_23, sg_60_24, sg_60_6, sg_60_9, sp_60_16, sp_60_23, sp_60_26, cI_0, cI_1, cI_2, cI_m1, am_lk0, am_lk1, am_ld_some, am_isI_i, am_isJ_j, am_isR_r, am_st_eq, am_rmv_nil, am_rmv_t, am_rmv_i, am_rmv_r, sf_SH, sj_SH, sf_eq, sf_nk, sf_na, sf_sf, am_args_i, am_args_r, am_args_n, Nat.reduceAdd, List.cons_append, List.nil_append, Option.toList, List.drop_succ_cons, List.drop_zero, am_RP, am_CP, am_PH, Fin.isValue, Fin.val_zero, Fin.val_one, am_f2, am_f3, true_and, and_true, true_implies, false_implies, not_false_eq_true, ne_eq, nI_clampD, nI_leT, nI_leF, nI_ltT, nI_ltF, nI_eqT, nI_eqF, nI_lt0F, nI_0leT, nI_eq0T, nI_eq0F, nI_0ltT, nI_0ltF, nI_le0T, nI_le0F, nI_m1, nI_m1', m1_m1, m1_lt, m1_le, nI_mul, nI_add, nI_sub, nI_add1, nI_dec, nI_div, nI_mod, vp_inD, sf_nkD, sf_eqD, k16, q62, q63, q64, q65]
        refine ⟨_, _, ?_, ?_, mk2 i 0 _ ⟨by omega, by omega, hk⟩ (((((e2.st (by decide)).st (by decide)).st (by decide)).st (by decide)).st (by decide)) ⟨?_, fun f hf => ?_, ?_, fun p hp => ?_⟩ ⟨?_, ?_, ?_, ?_⟩ ⟨fun ⟨g', hg', _⟩ => absurd hg' (Nat.not_lt_zero _), fun _ => by rw [sf_eq]⟩⟩
        · omega
        · (simp (decide := true) only [am_has, am_lk0, am_lk1, and_self, true_and, and_true] <;> first | rfl | (refine ⟨?_, ?_⟩ <;> rfl) | (refine ⟨?_, ?_, ?_⟩ <;> rfl) | (refine ⟨?_, ?_, ?_, ?_⟩ <;> rfl))
        · rw [sf_naD (by decide), sf_naD (by decide), sf_naD (by decide), sf_naD (by decide), sf_naD (by decide)]; exact e3.1
        · refine (e3.2.1 f hf).fr (fun c d1 d2 => ?_)
          simp only [sf_app]
          rw [if_neg (by omega), if_neg (by omega), if_neg (by omega), if_neg (by omega), if_neg (by omega)]
        · rw [sf_naD (by decide), sf_naD (by decide), sf_naD (by decide), sf_naD (by decide), sf_naD (by decide)]; exact e3.2.2.1
        · rw [sf_naD (by decide), sf_naD (by decide), sf_naD (by decide), sf_naD (by decide), sf_naD (by decide)]; exact e3.2.2.2 p hp
        · simp (decide := true) only [sf_naD, sf_eq, ne_eq, not_false_eq_true]
        · simp (decide := true) only [sf_naD, sf_eq, ne_eq, not_false_eq_true]
        · simp (decide := true) only [sf_naD, sf_eq, ne_eq, not_false_eq_true]
        · simp (decide := true) only [sf_naD, sf_eq, ne_eq, not_false_eq_true]
      · have hpl : pls L fs (i + 1) = pls L fs i := by rw [pls_s, if_neg (fun h0 => hk h0.1)]
        simp (decide := true) (disch := (first | exact eq_false (by decide) | exact eq_true (by decide) | decide | omega)) only [lX10_takes_0, lX10_takes_15, lX10_takes_89, lX10_takes_126, lX10_takes_132, lX10_takes_139, lX10_takes_179, lX10_takes_180, lX10_takes_191, lX10_takes_197, lX10_takes_199, lX10_takes_225, bX10_takes_0, bX10_takes_15, bX10_takes_89, bX10_takes_126, bX10_takes_132, bX10_takes_139, bX10_takes_179, bX10_takes_180, bX10_takes_191, bX10_takes_197, bX10_takes_199, bX10_takes_225, (show qX10_takes.2.2.2.1 = none from rfl), am_rok_none, w_aload_n, w_dup, w_getfield, w_goto, w_iadd, w_iaload, w_iastore, w_icmp_ge, w_iconst, w_if_eq, w_if_ge, w_if_ne, w_iinc, w_iload_n, w_istore_n, w_nop, w_puti, w_return, w_swap, sa_61, sa_62, sa_63, sa_64, sa_65, sa_68, sa_69, sa_70, sa_71, sa_72, sa_73, sa_74, sg_60_1, sg_60_10, sg_60_11, sg_60_12, sg_60_16, sg_60_17, sg_60_18, sg_60_19, sg_60_2, sg_60_20, sg_60_21, sg_60_22, sg_60_23, sg_60_24, sg_60_6, sg_60_9, sp_60_16, sp_60_23, sp_60_26, cI_0, cI_1, cI_2, cI_m1, am_lk0, am_lk1, am_ld_some, am_isI_i, am_isJ_j, am_isR_r, am_st_eq, am_rmv_nil, am_rmv_t, am_rmv_i, am_rmv_r, sf_SH, sj_SH, sf_eq, sf_nk, sf_na, sf_sf, am_args_i, am_args_r, am_args_n, Nat.reduceAdd, List.cons_append, List.nil_append, Option.toList, List.drop_succ_cons, List.drop_zero, am_RP, am_CP, am_PH, Fin.isValue, Fin.val_zero, Fin.val_one, am_f2, am_f3, true_and, and_true, true_implies, false_implies, not_false_eq_true, ne_eq, nI_clampD, nI_leT, nI_leF, nI_ltT, nI_ltF, nI_eqT, nI_eqF, nI_lt0F, nI_0leT, nI_eq0T, nI_eq0F, nI_0ltT, nI_0ltF, nI_le0T, nI_le0F, nI_m1, nI_m1', m1_m1, m1_lt, m1_le, nI_mul, nI_add, nI_sub, nI_add1, nI_dec, nI_div, nI_mod, vp_inD, sf_nkD, sf_eqD, k16, q62]
        refine ⟨_, _, ?_, ?_, mk1 (i + 1) _ (by omega) ((((e2.st (by decide)).st (by decide)).st (by decide)).st (by decide)) ⟨?_, fun f hf => ?_, ?_, ?_⟩⟩
        · omega
        · (simp (decide := true) only [am_has, am_lk0, am_lk1, and_self, true_and, and_true] <;> first | rfl | (refine ⟨?_, ?_⟩ <;> rfl) | (refine ⟨?_, ?_, ?_⟩ <;> rfl) | (refine ⟨?_, ?_, ?_, ?_⟩ <;> rfl))
        · rw [sf_naD (by decide), sf_naD (by decide), sf_naD (by decide), sf_naD (by decide)]; exact e3.1
        · by_cases hfi : f = i
          · subst hfi
            refine ⟨?_, fun hq => ?_, fun h0 => absurd h0 hk⟩
            · simp (decide := true) only [sf_naD, sf_eq, ne_eq, not_false_eq_true]
            · simp (decide := true) only [sf_naD, sf_eq, ne_eq, not_false_eq_true]
              rw [e2.1 63 (by decide) (by decide)]
              exact (hDi.2.1 hq).1
          · refine (e3.2.1 f (by omega)).fr (fun c d1 d2 => ?_)
            simp only [sf_app]
            rw [if_neg (by omega), if_neg (by omega), if_neg (by omega), if_neg (by omega)]
        · rw [sf_naD (by decide), sf_naD (by decide), sf_naD (by decide), sf_naD (by decide), hpl]; exact e3.2.2.1
        · rw [hpl]
          intro p hp
          rw [sf_naD (by decide), sf_naD (by decide), sf_naD (by decide), sf_naD (by decide)]; exact e3.2.2.2 p hp
  · refine ⟨_, 120, rfl, rfl, ?_⟩
    obtain ⟨b1, b2, b3⟩ := e1
    obtain ⟨c1, c2, c3, c4⟩ := e4
    have hpi := hp5 i (by omega)
    have hLi := hG.leaf b1 b3
    have hT1 : TX 61 L t I1 := hT.fr (e2.1 61 (by decide) (by decide))
    by_cases hj : j = i
    · subst hj
      by_cases hs : sNm L fs j j
      · have h71 := e5.1 hs
        have hpr := (prd_spec L fs b1 b3).1
        have hpl := pls_old hs
        simp (decide := true) (disch := (first | exact eq_false (by decide) | exact eq_true (by decide) | decide | omega)) only [lX10_takes_0, lX10_takes_15, lX10_takes_89, lX10_takes_126, lX10_takes_132, lX10_takes_139, lX10_takes_179, lX10_takes_180, lX10_takes_191, lX10_takes_197, lX10_takes_199, lX10_takes_225, bX10_takes_0, bX10_takes_15, bX10_takes_89, bX10_takes_126, bX10_takes_132, bX10_takes_139, bX10_takes_179, bX10_takes_180, bX10_takes_191, bX10_takes_197, bX10_takes_199, bX10_takes_225, (show qX10_takes.2.2.2.1 = none from rfl), am_rok_none, w_aload_n, w_dup, w_getfield, w_goto, w_iadd, w_iaload, w_iastore, w_icmp_ge, w_iconst, w_if_eq, w_if_ge, w_if_ne, w_iinc, w_iload_n, w_istore_n, w_nop, w_puti, w_return, w_swap, sa_61, sa_62, sa_63, sa_64, sa_65, sa_68, sa_69, sa_70, sa_71, sa_72, sa_73, sa_74, sg_60_1, sg_60_10, sg_60_11, sg_60_12, sg_60_16, sg_60_17, sg_60_18, sg_60_19, sg_60_2, sg_60_20, sg_60_21, sg_60_22, sg_60_23, sg_60_24, sg_60_6, sg_60_9, sp_60_16, sp_60_23, sp_60_26, cI_0, cI_1, cI_2, cI_m1, am_lk0, am_lk1, am_ld_some, am_isI_i, am_isJ_j, am_isR_r, am_st_eq, am_rmv_nil, am_rmv_t, am_rmv_i, am_rmv_r, sf_SH, sj_SH, sf_eq, sf_nk, sf_na, sf_sf, am_args_i, am_args_r, am_args_n, Nat.reduceAdd, List.cons_append, List.nil_append, Option.toList, List.drop_succ_cons, List.drop_zero, am_RP, am_CP, am_PH, Fin.isValue, Fin.val_zero, Fin.val_one, am_f2, am_f3, true_and, and_true, true_implies, false_implies, not_false_eq_true, ne_eq, nI_clampD, nI_leT, nI_leF, nI_ltT, nI_ltF, nI_eqT, nI_eqF, nI_lt0F, nI_0leT, nI_eq0T, nI_eq0F, nI_0ltT, nI_0ltF, nI_le0T, nI_le0F, nI_m1, nI_m1', m1_m1, m1_lt, m1_le, nI_mul, nI_add, nI_sub, nI_add1, nI_dec, nI_div, nI_mod, vp_inD, sf_nkD, sf_eqD, h71]
        refine ⟨_, _, ?_, ?_, mk1 (j + 1) I1 (by omega) e2 ⟨e3.1, fun f hf => ?_, by rw [hpl]; exact e3.2.2.1, by rw [hpl]; exact e3.2.2.2⟩⟩
        · omega
        · (simp (decide := true) only [am_has, am_lk0, am_lk1, and_self, true_and, and_true] <;> first | rfl | (refine ⟨?_, ?_⟩ <;> rfl) | (refine ⟨?_, ?_, ?_⟩ <;> rfl) | (refine ⟨?_, ?_, ?_, ?_⟩ <;> rfl))
        by_cases hfj : f = j
        · subst hfj
          exact ⟨by rw [c1, b3], fun hq => by rw [b3] at hq; exact absurd hq (by decide), fun _ => ⟨c2, c3, h71, c4⟩⟩
        · exact e3.2.1 f (by omega)
      · have h71 := e5.2 hs
        have k23 := e3.2.2.1
        obtain ⟨hpl, hprd⟩ := pls_newL b3 hs
        have fin : ∀ v, v = nI (arF (nF fs j)) → JJ (100000 + 100 * (fs.length - (j + 1))) 15 [(0, .ref 60), (1, .int (nI (j + 1)))] [] (am_SH, sf (sf (sf I1 71 j (nI (pls L fs j).length)) 74 (pls L fs j).length v) 60 23 (nI ((pls L fs j).length + 1)), J) 0 0 := by
          intro v hv
          refine mk1 (j + 1) _ (by omega) (((e2.st (by decide)).st (by decide)).s6 (Or.inr rfl)) ⟨?_, fun f hf => ?_, ?_, fun p hp => ?_⟩
          · rw [sf_nkD (by decide), sf_naD (by decide), sf_naD (by decide)]; exact e3.1
          · by_cases hfj : f = j
            · subst hfj
              refine ⟨?_, fun hq => by rw [b3] at hq; exact absurd hq (by decide), fun _ => ⟨?_, ?_, ?_, ?_⟩⟩
              · rw [sf_naD (by decide), sf_naD (by decide), sf_naD (by decide), c1, b3]
              · rw [sf_naD (by decide), sf_naD (by decide), sf_naD (by decide)]; exact c2
              · rw [sf_naD (by decide), sf_naD (by decide), sf_naD (by decide)]; exact c3
              · rw [sf_naD (by decide), sf_naD (by decide), sf_eq, hprd]
              · rw [sf_naD (by decide), sf_naD (by decide), sf_naD (by decide)]; exact c4
            · refine (e3.2.1 f (by omega)).fr (fun c d1 d2 => ?_)
              simp only [sf_app]
              rw [if_neg (by omega), if_neg (by omega), if_neg (by omega)]
          · rw [sf_eq, hpl, List.length_append]; rfl
          · rw [hpl] at hp ⊢
            rw [List.length_append, List.length_singleton] at hp
            rw [sf_naD (by decide)]
            by_cases hpj : p = (pls L fs j).length
            · rw [sf_eqD hpj, hv]
              congr 3
              rw [hpj]
              simp [List.getD_eq_getElem?_getD]
            · rw [sf_nkD hpj, sf_naD (by decide), e3.2.2.2 p (by omega)]
              congr 3
              simp only [List.getD_eq_getElem?_getD, List.getElem?_append_left (show p < (pls L fs j).length by omega)]
        unfold LFt at hLi
        by_cases hw : wF (nF fs j) = 0
        · have ew : (0 ≤ wI (wF (nF fs j))) = False := by rw [hw]; exact wI_0lef
          simp (decide := true) (disch := (first | exact eq_false (by decide) | exact eq_true (by decide) | decide | omega)) only [lX10_takes_0, lX10_takes_15, lX10_takes_89, lX10_takes_126, lX10_takes_132, lX10_takes_139, lX10_takes_179, lX10_takes_180, lX10_takes_191, lX10_takes_197, lX10_takes_199, lX10_takes_225, bX10_takes_0, bX10_takes_15, bX10_takes_89, bX10_takes_126, bX10_takes_132, bX10_takes_139, bX10_takes_179, bX10_takes_180, bX10_takes_191, bX10_takes_197, bX10_takes_199, bX10_takes_225, (show qX10_takes.2.2.2.1 = none from rfl), am_rok_none, w_aload_n, w_dup, w_getfield, w_goto, w_iadd, w_iaload, w_iastore, w_icmp_ge, w_iconst, w_if_eq, w_if_ge, w_if_ne, w_iinc, w_iload_n, w_istore_n, w_nop, w_puti, w_return, w_swap, sa_61, sa_62, sa_63, sa_64, sa_65, sa_68, sa_69, sa_70, sa_71, sa_72, sa_73, sa_74, sg_60_1, sg_60_10, sg_60_11, sg_60_12, sg_60_16, sg_60_17, sg_60_18, sg_60_19, sg_60_2, sg_60_20, sg_60_21, sg_60_22, sg_60_23, sg_60_24, sg_60_6, sg_60_9, sp_60_16, sp_60_23, sp_60_26, cI_0, cI_1, cI_2, cI_m1, am_lk0, am_lk1, am_ld_some, am_isI_i, am_isJ_j, am_isR_r, am_st_eq, am_rmv_nil, am_rmv_t, am_rmv_i, am_rmv_r, sf_SH, sj_SH, sf_eq, sf_nk, sf_na, sf_sf, am_args_i, am_args_r, am_args_n, Nat.reduceAdd, List.cons_append, List.nil_append, Option.toList, List.drop_succ_cons, List.drop_zero, am_RP, am_CP, am_PH, Fin.isValue, Fin.val_zero, Fin.val_one, am_f2, am_f3, true_and, and_true, true_implies, false_implies, not_false_eq_true, ne_eq, nI_clampD, nI_leT, nI_leF, nI_ltT, nI_ltF, nI_eqT, nI_eqF, nI_lt0F, nI_0leT, nI_eq0T, nI_eq0F, nI_0ltT, nI_0ltF, nI_le0T, nI_le0F, nI_m1, nI_m1', m1_m1, m1_lt, m1_le, nI_mul, nI_add, nI_sub, nI_add1, nI_dec, nI_div, nI_mod, vp_inD, sf_nkD, sf_eqD, h71, k23, c3, ew]
          refine ⟨_, _, ?_, ?_, fin (nI 1) (by unfold arF; rw [if_pos hw])⟩
          · omega
          · (simp (decide := true) only [am_has, am_lk0, am_lk1, and_self, true_and, and_true] <;> first | rfl | (refine ⟨?_, ?_⟩ <;> rfl) | (refine ⟨?_, ?_, ?_⟩ <;> rfl) | (refine ⟨?_, ?_, ?_, ?_⟩ <;> rfl))
        · have ew : (wI (wF (nF fs j)) < 0) = False := wI_lt0f (by omega) (by omega)
          simp (decide := true) (disch := (first | exact eq_false (by decide) | exact eq_true (by decide) | decide | omega)) only [lX10_takes_0, lX10_takes_15, lX10_takes_89, lX10_takes_126, lX10_takes_132, lX10_takes_139, lX10_takes_179, lX10_takes_180, lX10_takes_191, lX10_takes_197, lX10_takes_199, lX10_takes_225, bX10_takes_0, bX10_takes_15, bX10_takes_89, bX10_takes_126, bX10_takes_132, bX10_takes_139, bX10_takes_179, bX10_takes_180, bX10_takes_191, bX10_takes_197, bX10_takes_199, bX10_takes_225, (show qX10_takes.2.2.2.1 = none from rfl), am_rok_none, w_aload_n, w_dup, w_getfield, w_goto, w_iadd, w_iaload, w_iastore, w_icmp_ge, w_iconst, w_if_eq, w_if_ge, w_if_ne, w_iinc, w_iload_n, w_istore_n, w_nop, w_puti, w_return, w_swap, sa_61, sa_62, sa_63, sa_64, sa_65, sa_68, sa_69, sa_70, sa_71, sa_72, sa_73, sa_74, sg_60_1, sg_60_10, sg_60_11, sg_60_12, sg_60_16, sg_60_17, sg_60_18, sg_60_19, sg_60_2, sg_60_20, sg_60_21, sg_60_22, sg_60_23, sg_60_24, sg_60_6, sg_60_9, sp_60_16, sp_60_23, sp_60_26, cI_0, cI_1, cI_2, cI_m1, am_lk0, am_lk1, am_ld_some, am_isI_i, am_isJ_j, am_isR_r, am_st_eq, am_rmv_nil, am_rmv_t, am_rmv_i, am_rmv_r, sf_SH, sj_SH, sf_eq, sf_nk, sf_na, sf_sf, am_args_i, am_args_r, am_args_n, Nat.reduceAdd, List.cons_append, List.nil_append, Option.toList, List.drop_succ_cons, List.drop_zero, am_RP, am_CP, am_PH, Fin.isValue, Fin.val_zero, Fin.val_one, am_f2, am_f3, true_and, and_true, true_implies, false_implies, not_false_eq_true, ne_eq, nI_clampD, nI_leT, nI_leF, nI_ltT, nI_ltF, nI_eqT, nI_eqF, nI_lt0F, nI_0leT, nI_eq0T, nI_eq0F, nI_0ltT, nI_0ltF, nI_le0T, nI_le0F, nI_m1, nI_m1', m1_m1, m1_lt, m1_le, nI_mul, nI_add, nI_sub, nI_add1, nI_dec, nI_div, nI_mod, vp_inD, sf_nkD, sf_eqD, h71, k23, c3, ew, wI_0let]
          refine ⟨_, _, ?_, ?_, fin (nI 2) (by unfold arF; rw [if_neg hw])⟩
          · omega
          · (simp (decide := true) only [am_has, am_lk0, am_lk1, and_self, true_and, and_true] <;> first | rfl | (refine ⟨?_, ?_⟩ <;> rfl) | (refine ⟨?_, ?_, ?_⟩ <;> rfl) | (refine ⟨?_, ?_, ?_, ?_⟩ <;> rfl))
    · have hjk6 := hG.k6 (f := j) (by omega)
      have hj68 := (e3.2.1 j (by omega)).1
      have stay : ∀ I2, I2 = I1 → (sNm L fs i (j + 1) ↔ sNm L fs i j) → JJ (100000 + 100 * (fs.length - i - 1) + 1 + (i - (j + 1))) 89 [(0, .ref 60), (1, .int (nI i)), (2, .int (nI (j + 1)))] [] (am_SH, I2, J) 0 0 := by
        intro I2 hI2 hs
        rw [hI2]
        exact mk2 i (j + 1) I1 ⟨b1, by omega, b3⟩ e2 e3 ⟨c1, c2, c3, c4⟩ ⟨fun h0 => e5.1 (hs.mp h0), fun h0 => e5.2 (fun h9 => h0 (hs.mpr h9))⟩
      have stayI : ¬ (kF (nF fs j) = 0 ∧ smN L (nF fs i) (nF fs j) = true) → (sNm L fs i (j + 1) ↔ sNm L fs i j) := fun h0 => ⟨fun ⟨g', q1, q2, q3⟩ => ⟨g', by
        by_cases hgj : g' = j
        · rw [hgj] at q2 q3; exact absurd ⟨q2, q3⟩ h0
        · omega, q2, q3⟩, fun ⟨g', q1, q2, q3⟩ => ⟨g', by omega, q2, q3⟩⟩
      have sself : ∀ v, v = I1 71 i → sf I1 71 i v = I1 := fun v hv => by rw [hv]; exact sf_self I1 71 i
      by_cases hjk : kF (nF fs j) = 0
      · rw [hjk] at hj68
        have hj71 := ((e3.2.1 j (by omega)).2.2 hjk).2.2.1
        have q65 : ∀ f, f < fs.length → kF (nF fs f) = 0 → I1 65 f = nI (aF (nF fs f)) := fun f hf h0 => by rw [e2.1 65 (by decide) (by decide)]; exact ((hD.2 f hf).2.2 h0).2.2
        simp (decide := true) (disch := (first | exact eq_false (by decide) | exact eq_true (by decide) | decide | omega)) only [lX10_takes_0, lX10_takes_15, lX10_takes_89, lX10_takes_126, lX10_takes_132, lX10_takes_139, lX10_takes_179, lX10_takes_180, lX10_takes_191, lX10_takes_197, lX10_takes_199, lX10_takes_225, bX10_takes_0, bX10_takes_15, bX10_takes_89, bX10_takes_126, bX10_takes_132, bX10_takes_139, bX10_takes_179, bX10_takes_180, bX10_takes_191, bX10_takes_197, bX10_takes_199, bX10_takes_225, (show qX10_takes.2.2.2.1 = none from rfl), am_rok_none, w_aload_n, w_dup, w_getfield, w_goto, w_iadd, w_iaload, w_iastore, w_icmp_ge, w_iconst, w_if_eq, w_if_ge, w_if_ne, w_iinc, w_iload_n, w_istore_n, w_nop, w_puti, w_return, w_swap, sa_61, sa_62, sa_63, sa_64, sa_65, sa_68, sa_69, sa_70, sa_71, sa_72, sa_73, sa_74, sg_60_1, sg_60_10, sg_60_11, sg_60_12, sg_60_16, sg_60_17, sg_60_18, sg_60_19, sg_60_2, sg_60_20, sg_60_21, sg_60_22, sg_60_23, sg_60_24, sg_60_6, sg_60_9, sp_60_16, sp_60_23, sp_60_26, cI_0, cI_1, cI_2, cI_m1, am_lk0, am_lk1, am_ld_some, am_isI_i, am_isJ_j, am_isR_r, am_st_eq, am_rmv_nil, am_rmv_t, am_rmv_i, am_rmv_r, sf_SH, sj_SH, sf_eq, sf_nk, sf_na, sf_sf, am_args_i, am_args_r, am_args_n, Nat.reduceAdd, List.cons_append, List.nil_append, Option.toList, List.drop_succ_cons, List.drop_zero, am_RP, am_CP, am_PH, Fin.isValue, Fin.val_zero, Fin.val_one, am_f2, am_f3, true_and, and_true, true_implies, false_implies, not_false_eq_true, ne_eq, nI_clampD, nI_leT, nI_leF, nI_ltT, nI_ltF, nI_eqT, nI_eqF, nI_lt0F, nI_0leT, nI_eq0T, nI_eq0F, nI_0ltT, nI_0ltF, nI_le0T, nI_le0F, nI_m1, nI_m1', m1_m1, m1_lt, m1_le, nI_mul, nI_add, nI_sub, nI_add1, nI_dec, nI_div, nI_mod, vp_inD, sf_nkD, sf_eqD, hj68]
        refine w_virtE (c_X10_haveOneName g (h + 2) I1 J hT1 (nF fs i) (nF fs j) i j (by omega) (by omega) (q65 i b1 b3) (q65 j (by omega) hjk) hLi (hG.leaf (by omega) hjk)) rfl rfl rfl (of_eq_true so_60) rfl (Nat.le_refl _) (Nat.le_refl _) ?_
        cases hsm : smN L (nF fs i) (nF fs j) with
        | true =>
          simp (decide := true) (disch := (first | exact eq_false (by decide) | exact eq_true (by decide) | decide | omega)) only [lX10_takes_0, lX10_takes_15, lX10_takes_89, lX10_takes_126, lX10_takes_132, lX10_takes_139, lX10_takes_179, lX10_takes_180, lX10_takes_191, lX10_takes_197, lX10_takes_199, lX10_takes_225, bX10_takes_0, bX10_takes_15, bX10_takes_89, bX10_takes_126, bX10_takes_132, bX10_takes_139, bX10_takes_179, bX10_takes_180, bX10_takes_191, bX10_takes_197, bX10_takes_199, bX10_takes_225, (show qX10_takes.2.2.2.1 = none from rfl), am_rok_none, w_aload_n, w_dup, w_getfield, w_goto, w_iadd, w_iaload, w_iastore, w_icmp_ge, w_iconst, w_if_eq, w_if_ge, w_if_ne, w_iinc, w_iload_n, w_istore_n, w_nop, w_puti, w_return, w_swap, sa_61, sa_62, sa_63, sa_64, sa_65, sa_68, sa_69, sa_70, sa_71, sa_72, sa_73, sa_74, sg_60_1, sg_60_10, sg_60_11, sg_60_12, sg_60_16, sg_60_17, sg_60_18, sg_60_19, sg_60_2, sg_60_20, sg_60_21, sg_60_22, sg_60_23, sg_60_24, sg_60_6, sg_60_9, sp_60_16, sp_60_23, sp_60_26, cI_0, cI_1, cI_2, cI_m1, am_lk0, am_lk1, am_ld_some, am_isI_i, am_isJ_j, am_isR_r, am_st_eq, am_rmv_nil, am_rmv_t, am_rmv_i, am_rmv_r, sf_SH, sj_SH, sf_eq, sf_nk, sf_na, sf_sf, am_args_i, am_args_r, am_args_n, Nat.reduceAdd, List.cons_append, List.nil_append, Option.toList, List.drop_succ_cons, List.drop_zero, am_RP, am_CP, am_PH, Fin.isValue, Fin.val_zero, Fin.val_one, am_f2, am_f3, true_and, and_true, true_implies, false_implies, not_false_eq_true, ne_eq, nI_clampD, nI_leT, nI_leF, nI_ltT, nI_ltF, nI_eqT, nI_eqF, nI_lt0F, nI_0leT, nI_eq0T, nI_eq0F, nI_0ltT, nI_0ltF, nI_le0T, nI_le0F, nI_m1, nI_m1', m1_m1, m1_lt, m1_le, nI_mul, nI_add, nI_sub, nI_add1, nI_dec, nI_div, nI_mod, vp_inD, sf_nkD, sf_eqD, bI_t, hj71]
          refine ⟨_, _, ?_, ?_, mk2 i (j + 1) _ ⟨b1, by omega, b3⟩ (e2.st (by decide)) ⟨?_, fun f hf => ?_, ?_, fun p hp => ?_⟩ ⟨?_, ?_, ?_, ?_⟩ ⟨fun _ => ?_, fun h0 => absurd ⟨j, by omega, hjk, hsm⟩ h0⟩⟩
          · omega
          · (simp (decide := true) only [am_has, am_lk0, am_lk1, and_self, true_and, and_true] <;> first | rfl | (refine ⟨?_, ?_⟩ <;> rfl) | (refine ⟨?_, ?_, ?_⟩ <;> rfl) | (refine ⟨?_, ?_, ?_, ?_⟩ <;> rfl))
          · rw [sf_naD (by decide)]; exact e3.1
          · refine (e3.2.1 f hf).fr (fun c d1 d2 => ?_)
            rw [sf_app, if_neg (by omega)]
          · rw [sf_naD (by decide)]; exact e3.2.2.1
          · rw [sf_naD (by decide)]; exact e3.2.2.2 p hp
          · rw [sf_naD (by decide)]; exact c1
          · rw [sf_naD (by decide)]; exact c2
          · rw [sf_naD (by decide)]; exact c3
          · rw [sf_naD (by decide)]; exact c4
          · rw [sf_eq, prd_congr L fs b1 (by omega) b3 hjk hsm]
        | false =>
          simp (decide := true) (disch := (first | exact eq_false (by decide) | exact eq_true (by decide) | decide | omega)) only [lX10_takes_0, lX10_takes_15, lX10_takes_89, lX10_takes_126, lX10_takes_132, lX10_takes_139, lX10_takes_179, lX10_takes_180, lX10_takes_191, lX10_takes_197, lX10_takes_199, lX10_takes_225, bX10_takes_0, bX10_takes_15, bX10_takes_89, bX10_takes_126, bX10_takes_132, bX10_takes_139, bX10_takes_179, bX10_takes_180, bX10_takes_191, bX10_takes_197, bX10_takes_199, bX10_takes_225, (show qX10_takes.2.2.2.1 = none from rfl), am_rok_none, w_aload_n, w_dup, w_getfield, w_goto, w_iadd, w_iaload, w_iastore, w_icmp_ge, w_iconst, w_if_eq, w_if_ge, w_if_ne, w_iinc, w_iload_n, w_istore_n, w_nop, w_puti, w_return, w_swap, sa_61, sa_62, sa_63, sa_64, sa_65, sa_68, sa_69, sa_70, sa_71, sa_72, sa_73, sa_74, sg_60_1, sg_60_10, sg_60_11, sg_60_12, sg_60_16, sg_60_17, sg_60_18, sg_60_19, sg_60_2, sg_60_20, sg_60_21, sg_60_22, sg_60_23, sg_60_24, sg_60_6, sg_60_9, sp_60_16, sp_60_23, sp_60_26, cI_0, cI_1, cI_2, cI_m1, am_lk0, am_lk1, am_ld_some, am_isI_i, am_isJ_j, am_isR_r, am_st_eq, am_rmv_nil, am_rmv_t, am_rmv_i, am_rmv_r, sf_SH, sj_SH, sf_eq, sf_nk, sf_na, sf_sf, am_args_i, am_args_r, am_args_n, Nat.reduceAdd, List.cons_append, List.nil_append, Option.toList, List.drop_succ_cons, List.drop_zero, am_RP, am_CP, am_PH, Fin.isValue, Fin.val_zero, Fin.val_one, am_f2, am_f3, true_and, and_true, true_implies, false_implies, not_false_eq_true, ne_eq, nI_clampD, nI_leT, nI_leF, nI_ltT, nI_ltF, nI_eqT, nI_eqF, nI_lt0F, nI_0leT, nI_eq0T, nI_eq0F, nI_0ltT, nI_0ltF, nI_le0T, nI_le0F, nI_m1, nI_m1', m1_m1, m1_lt, m1_le, nI_mul, nI_add, nI_sub, nI_add1, nI_dec, nI_div, nI_mod, vp_inD, sf_nkD, sf_eqD, bI_f]
          refine ⟨_, _, ?_, ?_, stay _ (sself _ rfl) (stayI (fun h0 => by rw [hsm] at h0; cases h0.2))⟩
          · omega
          · (simp (decide := true) only [am_has, am_lk0, am_lk1, and_self, true_and, and_true] <;> first | rfl | (refine ⟨?_, ?_⟩ <;> rfl) | (refine ⟨?_, ?_, ?_⟩ <;> rfl) | (refine ⟨?_, ?_, ?_, ?_⟩ <;> rfl))
      · simp (decide := true) (disch := (first | exact eq_false (by decide) | exact eq_true (by decide) | decide | omega)) only [lX10_takes_0, lX10_takes_15, lX10_takes_89, lX10_takes_126, lX10_takes_132, lX10_takes_139, lX10_takes_179, lX10_takes_180, lX10_takes_191, lX10_takes_197, lX10_takes_199, lX10_takes_225, bX10_takes_0, bX10_takes_15, bX10_takes_89, bX10_takes_126, bX10_takes_132, bX10_takes_139, bX10_takes_179, bX10_takes_180, bX10_takes_191, bX10_takes_197, bX10_takes_199, bX10_takes_225, (show qX10_takes.2.2.2.1 = none from rfl), am_rok_none, w_aload_n, w_dup, w_getfield, w_goto, w_iadd, w_iaload, w_iastore, w_icmp_ge, w_iconst, w_if_eq, w_if_ge, w_if_ne, w_iinc, w_iload_n, w_istore_n, w_nop, w_puti, w_return, w_swap, sa_61, sa_62, sa_63, sa_64, sa_65, sa_68, sa_69, sa_70, sa_71, sa_72, sa_73, sa_74, sg_60_1, sg_60_10, sg_60_11, sg_60_12, sg_60_16, sg_60_17, sg_60_18, sg_60_19, sg_60_2, sg_60_20, sg_60_21, sg_60_22, sg_60_23, sg_60_24, sg_60_6, sg_60_9, sp_60_16, sp_60_23, sp_60_26, cI_0, cI_1, cI_2, cI_m1, am_lk0, am_lk1, am_ld_some, am_isI_i, am_isJ_j, am_isR_r, am_st_eq, am_rmv_nil, am_rmv_t, am_rmv_i, am_rmv_r, sf_SH, sj_SH, sf_eq, sf_nk, sf_na, sf_sf, am_args_i, am_args_r, am_args_n, Nat.reduceAdd, List.cons_append, List.nil_append, Option.toList, List.drop_succ_cons, List.drop_zero, am_RP, am_CP, am_PH, Fin.isValue, Fin.val_zero, Fin.val_one, am_f2, am_f3, true_and, and_true, true_implies, false_implies, not_false_eq_true, ne_eq, nI_clampD, nI_leT, nI_leF, nI_ltT, nI_ltF, nI_eqT, nI_eqF, nI_lt0F, nI_0leT, nI_eq0T, nI_eq0F, nI_0ltT, nI_0ltF, nI_le0T, nI_le0F, nI_m1, nI_m1', m1_m1, m1_lt, m1_le, nI_mul, nI_add, nI_sub, nI_add1, nI_dec, nI_div, nI_mod, vp_inD, sf_nkD, sf_eqD, hj68]
        refine ⟨_, _, ?_, ?_, stay _ (sself _ rfl) (stayI (fun h0 => hjk h0.1))⟩
        · omega
        · (simp (decide := true) only [am_has, am_lk0, am_lk1, and_self, true_and, and_true] <;> first | rfl | (refine ⟨?_, ?_⟩ <;> rfl) | (refine ⟨?_, ?_, ?_⟩ <;> rfl) | (refine ⟨?_, ?_, ?_, ?_⟩ <;> rfl))
  · refine ⟨_, 120, rfl, rfl, ?_⟩
    have k2 : I1 60 2 = nI t := by rw [e2.2 2 (by decide) (by decide)]; exact h2
    by_cases hk : k = t
    · subst hk
      simp (decide := true) (disch := (first | exact eq_false (by decide) | exact eq_true (by decide) | decide | omega)) only [lX10_takes_0, lX10_takes_15, lX10_takes_89, lX10_takes_126, lX10_takes_132, lX10_takes_139, lX10_takes_179, lX10_takes_180, lX10_takes_191, lX10_takes_197, lX10_takes_199, lX10_takes_225, bX10_takes_0, bX10_takes_15, bX10_takes_89, bX10_takes_126, bX10_takes_132, bX10_takes_139, bX10_takes_179, bX10_takes_180, bX10_takes_191, bX10_takes_197, bX10_takes_199, bX10_takes_225, (show qX10_takes.2.2.2.1 = none from rfl), am_rok_none, w_aload_n, w_dup, w_getfield, w_goto, w_iadd, w_iaload, w_iastore, w_icmp_ge, w_iconst, w_if_eq, w_if_ge, w_if_ne, w_iinc, w_iload_n, w_istore_n, w_nop, w_puti, w_return, w_swap, sa_61, sa_62, sa_63, sa_64, sa_65, sa_68, sa_69, sa_70, sa_71, sa_72, sa_73, sa_74, sg_60_1, sg_60_10, sg_60_11, sg_60_12, sg_60_16, sg_60_17, sg_60_18, sg_60_19, sg_60_2, sg_60_20, sg_60_21, sg_60_22, sg_60_23, sg_60_24, sg_60_6, sg_60_9, sp_60_16, sp_60_23, sp_60_26, cI_0, cI_1, cI_2, cI_m1, am_lk0, am_lk1, am_ld_some, am_isI_i, am_isJ_j, am_isR_r, am_st_eq, am_rmv_nil, am_rmv_t, am_rmv_i, am_rmv_r, sf_SH, sj_SH, sf_eq, sf_nk, sf_na, sf_sf, am_args_i, am_args_r, am_args_n, Nat.reduceAdd, List.cons_append, List.nil_append, Option.toList, List.drop_succ_cons, List.drop_zero, am_RP, am_CP, am_PH, Fin.isValue, Fin.val_zero, Fin.val_one, am_f2, am_f3, true_and, and_true, true_implies, false_implies, not_false_eq_true, ne_eq, nI_clampD, nI_leT, nI_leF, nI_ltT, nI_ltF, nI_eqT, nI_eqF, nI_lt0F, nI_0leT, nI_eq0T, nI_eq0F, nI_0ltT, nI_0ltF, nI_le0T, nI_le0F, nI_m1, nI_m1', m1_m1, m1_lt, m1_le, nI_mul, nI_add, nI_sub, nI_add1, nI_dec, nI_div, nI_mod, vp_inD, sf_nkD, sf_eqD, k2]
      refine w_virtP (c_X10_forgets g (h + 3) _ J) rfl rfl rfl (of_eq_true so_60) rfl (Nat.le_refl _) (Nat.le_refl _) ?_
      rintro R M1 ⟨rfl, I2, rfl, f1, f2⟩
      simp (decide := true) (disch := (first | exact eq_false (by decide) | exact eq_true (by decide) | decide | omega)) only [lX10_takes_0, lX10_takes_15, lX10_takes_89, lX10_takes_126, lX10_takes_132, lX10_takes_139, lX10_takes_179, lX10_takes_180, lX10_takes_191, lX10_takes_197, lX10_takes_199, lX10_takes_225, bX10_takes_0, bX10_takes_15, bX10_takes_89, bX10_takes_126, bX10_takes_132, bX10_takes_139, bX10_takes_179, bX10_takes_180, bX10_takes_191, bX10_takes_197, bX10_takes_199, bX10_takes_225, (show qX10_takes.2.2.2.1 = none from rfl), am_rok_none, w_aload_n, w_dup, w_getfield, w_goto, w_iadd, w_iaload, w_iastore, w_icmp_ge, w_iconst, w_if_eq, w_if_ge, w_if_ne, w_iinc, w_iload_n, w_istore_n, w_nop, w_puti, w_return, w_swap, sa_61, sa_62, sa_63, sa_64, sa_65, sa_68, sa_69, sa_70, sa_71, sa_72, sa_73, sa_74, sg_60_1, sg_60_10, sg_60_11, sg_60_12, sg_60_16, sg_60_17, sg_60_18, sg_60_19, sg_60_2, sg_60_20, sg_60_21, sg_60_22, sg_60_23, sg_60_24, sg_60_6, sg_60_9, sp_60_16, sp_60_23, sp_60_26, cI_0, cI_1, cI_2, cI_m1, am_lk0, am_lk1, am_ld_some, am_isI_i, am_isJ_j, am_isR_r, am_st_eq, am_rmv_nil, am_rmv_t, am_rmv_i, am_rmv_r, sf_SH, sj_SH, sf_eq, sf_nk, sf_na, sf_sf, am_args_i, am_args_r, am_args_n, Nat.reduceAdd, List.cons_append, List.nil_append, Option.toList, List.drop_succ_cons, List.drop_zero, am_RP, am_CP, am_PH, Fin.isValue, Fin.val_zero, Fin.val_one, am_f2, am_f3, true_and, and_true, true_implies, false_implies, not_false_eq_true, ne_eq, nI_clampD, nI_leT, nI_leF, nI_ltT, nI_ltF, nI_eqT, nI_eqF, nI_lt0F, nI_0leT, nI_eq0T, nI_eq0F, nI_0ltT, nI_0ltF, nI_le0T, nI_le0F, nI_m1, nI_m1', m1_m1, m1_lt, m1_le, nI_mul, nI_add, nI_sub, nI_add1, nI_dec, nI_div, nI_mod, vp_inD, sf_nkD, sf_eqD]
      have s1 : SMd L k fs I2 := by
        refine ⟨?_, fun f hf => ?_, ?_, fun p hp => ?_, fun j hj => ?_⟩
        · rw [f1 60 (by decide), sf_nkD (by decide)]; exact e3.1
        · exact (e3.2.1 f hf).fr (fun c d1 d2 => by rw [f1 c (by omega), sf_naD (by omega)])
        · rw [f1 60 (by decide), sf_nkD (by decide)]; exact e3.2.2.1
        · rw [f1 74 (by decide), sf_naD (by decide)]; exact e3.2.2.2 p hp
        · rw [f1 73 (by decide), sf_naD (by decide)]; exact e4 j hj
      have s2 : CMd [] I2 := ⟨by rw [f1 60 (by decide), sf_eq]; rfl, fun j hj => absurd hj (Nat.not_lt_zero _)⟩
      refine w_virtP (c_X10_lists (cs := []) g h I2 J s1 hG s2 ⟨by simp, fun c hc => (by cases hc)⟩) rfl rfl rfl (of_eq_true so_60) rfl (Nat.le_refl _) (Nat.le_refl _) ?_
      rintro R M1 ⟨rfl, I3, rfl, g1, g2, g3, g4⟩
      simp (decide := true) (disch := (first | exact eq_false (by decide) | exact eq_true (by decide) | decide | omega)) only [lX10_takes_0, lX10_takes_15, lX10_takes_89, lX10_takes_126, lX10_takes_132, lX10_takes_139, lX10_takes_179, lX10_takes_180, lX10_takes_191, lX10_takes_197, lX10_takes_199, lX10_takes_225, bX10_takes_0, bX10_takes_15, bX10_takes_89, bX10_takes_126, bX10_takes_132, bX10_takes_139, bX10_takes_179, bX10_takes_180, bX10_takes_191, bX10_takes_197, bX10_takes_199, bX10_takes_225, (show qX10_takes.2.2.2.1 = none from rfl), am_rok_none, w_aload_n, w_dup, w_getfield, w_goto, w_iadd, w_iaload, w_iastore, w_icmp_ge, w_iconst, w_if_eq, w_if_ge, w_if_ne, w_iinc, w_iload_n, w_istore_n, w_nop, w_puti, w_return, w_swap, sa_61, sa_62, sa_63, sa_64, sa_65, sa_68, sa_69, sa_70, sa_71, sa_72, sa_73, sa_74, sg_60_1, sg_60_10, sg_60_11, sg_60_12, sg_60_16, sg_60_17, sg_60_18, sg_60_19, sg_60_2, sg_60_20, sg_60_21, sg_60_22, sg_60_23, sg_60_24, sg_60_6, sg_60_9, sp_60_16, sp_60_23, sp_60_26, cI_0, cI_1, cI_2, cI_m1, am_lk0, am_lk1, am_ld_some, am_isI_i, am_isJ_j, am_isR_r, am_st_eq, am_rmv_nil, am_rmv_t, am_rmv_i, am_rmv_r, sf_SH, sj_SH, sf_eq, sf_nk, sf_na, sf_sf, am_args_i, am_args_r, am_args_n, Nat.reduceAdd, List.cons_append, List.nil_append, Option.toList, List.drop_succ_cons, List.drop_zero, am_RP, am_CP, am_PH, Fin.isValue, Fin.val_zero, Fin.val_one, am_f2, am_f3, true_and, and_true, true_implies, false_implies, not_false_eq_true, ne_eq, nI_clampD, nI_leT, nI_leF, nI_ltT, nI_ltF, nI_eqT, nI_eqF, nI_lt0F, nI_0leT, nI_eq0T, nI_eq0F, nI_0ltT, nI_0ltF, nI_le0T, nI_le0F, nI_m1, nI_m1', m1_m1, m1_lt, m1_le, nI_mul, nI_add, nI_sub, nI_add1, nI_dec, nI_div, nI_mod, vp_inD, sf_nkD, sf_eqD]
      refine ⟨I3, rfl, ⟨fun c d1 d2 => ?_, fun j d1 d2 d3 d4 d5 d6 => ?_⟩, s1.fr (g1.2 16 (by decide) (by decide) (by decide)) (g1.2 23 (by decide) (by decide) (by decide)) (fun c d1 d2 => g1.1 c (by omega) (by omega) (by omega)), ⟨by rw [g1.2 26 (by decide) (by decide) (by decide)]; exact s2.1, fun j hj => absurd hj (Nat.not_lt_zero _)⟩, g2, g3, g4, fun j hj => by rw [g1.1 93 (by decide) (by decide) (by decide)]; exact f2 j hj⟩
      · rw [g1.1 c d1 (by omega) (by omega), f1 c (by omega), sf_naD d1, e2.1 c d1 (by omega)]
      · rw [g1.2 j d4 d5 d6, f1 60 (by decide), sf_nkD d3, e2.2 j d1 d2]
    · have k61 : I1 61 k = nI (L k) := by rw [e2.1 61 (by decide) (by decide)]; exact (hT.2.1 k (by omega)).1
      simp (decide := true) (disch := (first | exact eq_false (by decide) | exact eq_true (by decide) | decide | omega)) only [lX10_takes_0, lX10_takes_15, lX10_takes_89, lX10_takes_126, lX10_takes_132, lX10_takes_139, lX10_takes_179, lX10_takes_180, lX10_takes_191, lX10_takes_197, lX10_takes_199, lX10_takes_225, bX10_takes_0, bX10_takes_15, bX10_takes_89, bX10_takes_126, bX10_takes_132, bX10_takes_139, bX10_takes_179, bX10_takes_180, bX10_takes_191, bX10_takes_197, bX10_takes_199, bX10_takes_225, (show qX10_takes.2.2.2.1 = none from rfl), am_rok_none, w_aload_n, w_dup, w_getfield, w_goto, w_iadd, w_iaload, w_iastore, w_icmp_ge, w_iconst, w_if_eq, w_if_ge, w_if_ne, w_iinc, w_iload_n, w_istore_n, w_nop, w_puti, w_return, w_swap, sa_61, sa_62, sa_63, sa_64, sa_65, sa_68, sa_69, sa_70, sa_71, sa_72, sa_73, sa_74, sg_60_1, sg_60_10, sg_60_11, sg_60_12, sg_60_16, sg_60_17, sg_60_18, sg_60_19, sg_60_2, sg_60_20, sg_60_21, sg_60_22, sg_60_23, sg_60_24, sg_60_6, sg_60_9, sp_60_16, sp_60_23, sp_60_26, cI_0, cI_1, cI_2, cI_m1, am_lk0, am_lk1, am_ld_some, am_isI_i, am_isJ_j, am_isR_r, am_st_eq, am_rmv_nil, am_rmv_t, am_rmv_i, am_rmv_r, sf_SH, sj_SH, sf_eq, sf_nk, sf_na, sf_sf, am_args_i, am_args_r, am_args_n, Nat.reduceAdd, List.cons_append, List.nil_append, Option.toList, List.drop_succ_cons, List.drop_zero, am_RP, am_CP, am_PH, Fin.isValue, Fin.val_zero, Fin.val_one, am_f2, am_f3, true_and, and_true, true_implies, false_implies, not_false_eq_true, ne_eq, nI_clampD, nI_leT, nI_leF, nI_ltT, nI_ltF, nI_eqT, nI_eqF, nI_lt0F, nI_0leT, nI_eq0T, nI_eq0F, nI_0ltT, nI_0ltF, nI_le0T, nI_le0F, nI_m1, nI_m1', m1_m1, m1_lt, m1_le, nI_mul, nI_add, nI_sub, nI_add1, nI_dec, nI_div, nI_mod, vp_inD, sf_nkD, sf_eqD, k2, k61]
      refine ⟨_, _, ?_, ?_, mk3 (k + 1) _ (by omega) (e2.st (by decide)) ⟨?_, fun f hf => ?_, ?_, fun p hp => ?_⟩ (fun j hj => ?_)⟩
      · omega
      · (simp (decide := true) only [am_has, am_lk0, am_lk1, and_self, true_and, and_true] <;> first | rfl | (refine ⟨?_, ?_⟩ <;> rfl) | (refine ⟨?_, ?_, ?_⟩ <;> rfl) | (refine ⟨?_, ?_, ?_, ?_⟩ <;> rfl))
      · rw [sf_naD (by decide)]; exact e3.1
      · exact (e3.2.1 f hf).fr (fun c d1 d2 => by rw [sf_naD (by omega)])
      · rw [sf_naD (by decide)]; exact e3.2.2.1
      · rw [sf_naD (by decide)]; exact e3.2.2.2 p hp
      · by_cases hjk : j = k
        · rw [sf_eqD hjk, hjk]
        · rw [sf_nkD hjk]; exact e4 j (by omega)
end MT1
