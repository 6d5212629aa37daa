/-! the reference's search: all orders -/
theorem gD_lt {o : List Nat} {n k : Nat} (h : ∀ f ∈ o, f < n) (hk : k < o.length) : o.getD k 0 < n := by
  rw [List.getD_eq_getElem?_getD, List.getElem?_eq_getElem hk]
  exact h _ (List.getElem_mem _)
theorem gD_mem {o : List Nat} {k : Nat} (hk : k < o.length) : o.getD k 0 ∈ o := by
  rw [List.getD_eq_getElem?_getD, List.getElem?_eq_getElem hk]
  exact List.getElem_mem _
theorem gD_of {o : List Nat} {f : Nat} (h : f ∈ o) : ∃ k, k < o.length ∧ o.getD k 0 = f := by
  obtain ⟨k, hk, h1⟩ := List.getElem_of_mem h
  refine ⟨k, hk, ?_⟩
  rw [List.getD_eq_getElem?_getD, List.getElem?_eq_getElem hk, h1]
  rfl
theorem gD_inj {o : List Nat} (hn : o.Nodup) {i j : Nat} (hi : i < o.length) (hj : j < o.length) (h : o.getD i 0 = o.getD j 0) : i = j := by
  rw [List.getD_eq_getElem?_getD, List.getElem?_eq_getElem hi, List.getD_eq_getElem?_getD, List.getElem?_eq_getElem hj] at h
  exact (List.getElem_inj hn).mp h
theorem gD_app {o : List Nat} {f k : Nat} (hk : k < o.length) : (o ++ [f]).getD k 0 = o.getD k 0 := by
  simp only [List.getD_eq_getElem?_getD, List.getElem?_append_left hk]
theorem gD_new (o : List Nat) (f : Nat) : (o ++ [f]).getD o.length 0 = f := by
  simp [List.getD_eq_getElem?_getD]
/-- a reading in the reference's rows -/
def Rd1 (fs : List Fg) (r : Nat) (o : List Nat) (I : Nat → Nat → Int32) : Prop := (∀ k, k < fs.length → I 78 (11 * r + k) = nI (o.getD k 0)) ∧ ∀ l, rrun (kdF fs) [[]] o = some l → ∀ f x p, (f, x :: p) ∈ l → I 79 (22 * r + x) = nI f
theorem Rd1.fr {fs : List Fg} {r : Nat} {o : List Nat} {I I' : Nat → Nat → Int32} (h : Rd1 fs r o I) (hn : fs.length ≤ 11) (h1 : ∀ j, j < 11 * (r + 1) → I' 78 j = I 78 j) (h2 : ∀ j, j < 22 * (r + 1) → I' 79 j = I 79 j) (hx : ∀ l, rrun (kdF fs) [[]] o = some l → ∀ f x p, (f, x :: p) ∈ l → x < 22) : Rd1 fs r o I' := by
  refine ⟨fun k hk => ?_, fun l hl f x p hm => ?_⟩
  · rw [h1 _ (by omega)]; exact h.1 k hk
  · have := hx l hl f x p hm
    rw [h2 _ (by omega)]; exact h.2 l hl f x p hm
def RSo (fs : List Fg) (os : List (List Nat)) (I : Nat → Nat → Int32) : Prop := I 60 29 = nI os.length ∧ ∀ r, r < os.length → Rd1 fs r (os.getD r []) I
theorem RSo.fr {fs : List Fg} {os : List (List Nat)} {I I' : Nat → Nat → Int32} (h : RSo fs os I) (h1 : I' 60 29 = I 60 29) (h2 : I' 78 = I 78) (h3 : I' 79 = I 79) : RSo fs os I' := by
  unfold RSo Rd1
  rw [h1, h2, h3]
  exact h
section ML1
variable (g : am_G) (h : Nat) (I : Nat → Nat → Int32) (J : Nat → Nat → Int64) {L : Nat → Nat} {t : Nat} {fs : List Fg} {cs : List (Nat × Nat)}
set_option maxRecDepth 100000 in
set_option maxHeartbeats 400000 in
theorem c_X10_isUsed (o : List Nat) (f : Nat) (hO : OCd o I) (hb : ∀ f ∈ o, f < 11) (hol : o.length ≤ 11) (hf : f < 11) :
    am_Ctr g am_mt 1 (h + 1) 167 [.ref 60, .int (nI f), .int (nI o.length)] (am_SH, I, J) 0 0 (fun r M => r = some (.int (bI (decide (f ∈ o)))) ∧ M = (am_SH, I, J)) := by
  obtain ⟨JJ, hJJ⟩ : ∃ JJ : Nat → am_Cut, JJ = (fun zu zpc zl zst zM zk zn => (∃ (k : Nat) (b : Bool), zu = o.length - k ∧ (k ≤ o.length) ∧ (b = true ↔ seen (fun j => o.getD j 0) k f) ∧ zpc = 5 ∧ zl = [(0, .ref 60), (1, .int (nI f)), (2, .int (nI o.length)), (3, .int (bI b)), (4, .int (nI k))] ∧ zst = [] ∧ zM = (am_SH, I, J) ∧ zk = 0 ∧ zn = 0)) := ⟨_, rfl⟩
  have mk : ∀ (k : Nat) (b : Bool), (k ≤ o.length) → (b = true ↔ seen (fun j => o.getD j 0) k f) → JJ (o.length - k) 5 [(0, .ref 60), (1, .int (nI f)), (2, .int (nI o.length)), (3, .int (bI b)), (4, .int (nI k))] [] (am_SH, I, J) 0 0 := by
    intro k b a0 a1
    rw [hJJ]
    exact ⟨k, b, rfl, a0, a1, rfl, rfl, rfl, rfl, rfl, rfl⟩
  refine am_rule2 (q := qX10_isUsed) (B := am_blk bX10_isUsed) rfl rfl kX10_isUsed nX10_isUsed (Nat.le_of_ble_eq_true rfl) JJ (fun zu zpc zl zst zM zk zn hj => ?_) ?_
  rotate_left
  · refine ⟨60, ?_⟩
    simp (decide := true) (disch := (first | exact eq_false (by decide) | exact eq_true (by decide) | decide | omega)) only [lX10_isUsed_0, lX10_isUsed_5, lX10_isUsed_26, lX10_isUsed_30, lX10_isUsed_31, lX10_isUsed_38, bX10_isUsed_0, bX10_isUsed_5, bX10_isUsed_26, bX10_isUsed_30, bX10_isUsed_31, bX10_isUsed_38, (show qX10_isUsed.2.2.2.1 = (some .boolean) from rfl), am_rok_bool, w_aload_n, w_getfield, w_goto, w_iaload, w_icmp_ge, w_icmp_ne, w_iconst, w_if_ne, w_iinc, w_iload, w_iload_n, w_ireturn, w_istore, w_istore_n, w_nop, w_swap, sa_80, sg_60_33, cI_0, cI_1, am_lk0, am_lk1, am_ld_some, am_isI_i, am_isJ_j, am_isR_r, am_st_eq, am_rmv_nil, am_rmv_t, am_rmv_i, am_rmv_r, sf_SH, sj_SH, sf_eq, sf_nk, sf_na, sf_sf, am_args_i, am_args_r, am_args_n, Nat.reduceAdd, List.cons_append, List.nil_append, Option.toList, List.drop_succ_cons, List.drop_zero, am_RP, am_CP, am_PH, Fin.isValue, Fin.val_zero, Fin.val_one, am_f2, am_f3, true_and, and_true, true_implies, false_implies, not_false_eq_true, ne_eq, nI_clampD, nI_leT, nI_leF, nI_ltT, nI_ltF, nI_eqT, nI_eqF, nI_lt0F, nI_0leT, nI_eq0T, nI_eq0F, nI_0ltT, nI_0ltF, nI_le0T, nI_le0F, nI_m1, nI_m1', m1_m1, m1_lt, m1_le, nI_mul, nI_add, nI_sub, nI_add1, nI_dec, nI_div, nI_mod, vp_inD, sf_nkD, sf_eqD]
    refine ⟨_, _, ?_, mk 0 false (by omega) (seen_0 _ _)⟩
    · (simp (decide := true) only [am_has, am_lk0, am_lk1, and_self, true_and, and_true] <;> first | rfl | (refine ⟨?_, ?_⟩ <;> rfl) | (refine ⟨?_, ?_, ?_⟩ <;> rfl) | (refine ⟨?_, ?_, ?_, ?_⟩ <;> rfl))
  rw [hJJ] at hj
  clear hJJ
  obtain ⟨k, b, rfl, e1, e2, rfl, rfl, rfl, rfl, rfl, rfl⟩ := hj
  refine ⟨_, 60, rfl, rfl, ?_⟩
  by_cases hk : k = o.length
  · subst hk
    have hbd : b = decide (f ∈ o) := by
      rw [Bool.eq_iff_iff, e2, decide_eq_true_iff]
      constructor
      · rintro ⟨j, hj, h0⟩
        have h0 : o.getD j 0 = f := h0
        rw [← h0]; exact gD_mem hj
      · exact fun h0 => gD_of h0
    rw [hbd]
    simp (decide := true) (disch := (first | exact eq_false (by decide) | exact eq_true (by decide) | decide | omega)) only [lX10_isUsed_0, lX10_isUsed_5, lX10_isUsed_26, lX10_isUsed_30, lX10_isUsed_31, lX10_isUsed_38, bX10_isUsed_0, bX10_isUsed_5, bX10_isUsed_26, bX10_isUsed_30, bX10_isUsed_31, bX10_isUsed_38, (show qX10_isUsed.2.2.2.1 = (some .boolean) from rfl), am_rok_bool, w_aload_n, w_getfield, w_goto, w_iaload, w_icmp_ge, w_icmp_ne, w_iconst, w_if_ne, w_iinc, w_iload, w_iload_n, w_ireturn, w_istore, w_istore_n, w_nop, w_swap, sa_80, sg_60_33, cI_0, cI_1, am_lk0, am_lk1, am_ld_some, am_isI_i, am_isJ_j, am_isR_r, am_st_eq, am_rmv_nil, am_rmv_t, am_rmv_i, am_rmv_r, sf_SH, sj_SH, sf_eq, sf_nk, sf_na, sf_sf, am_args_i, am_args_r, am_args_n, Nat.reduceAdd, List.cons_append, List.nil_append, Option.toList, List.drop_succ_cons, List.drop_zero, am_RP, am_CP, am_PH, Fin.isValue, Fin.val_zero, Fin.val_one, am_f2, am_f3, true_and, and_true, true_implies, false_implies, not_false_eq_true, ne_eq, nI_clampD, nI_leT, nI_leF, nI_ltT, nI_ltF, nI_eqT, nI_eqF, nI_lt0F, nI_0leT, nI_eq0T, nI_eq0F, nI_0ltT, nI_0ltF, nI_le0T, nI_le0F, nI_m1, nI_m1', m1_m1, m1_lt, m1_le, nI_mul, nI_add, nI_sub, nI_add1, nI_dec, nI_div, nI_mod, vp_inD, sf_nkD, sf_eqD, bI_01]
  · have hp := hO k (by omega)
    have hg2 := gD_lt hb (k := k) (by omega)
    cases b with
    | true =>
      simp (decide := true) (disch := (first | exact eq_false (by decide) | exact eq_true (by decide) | decide | omega)) only [lX10_isUsed_0, lX10_isUsed_5, lX10_isUsed_26, lX10_isUsed_30, lX10_isUsed_31, lX10_isUsed_38, bX10_isUsed_0, bX10_isUsed_5, bX10_isUsed_26, bX10_isUsed_30, bX10_isUsed_31, bX10_isUsed_38, (show qX10_isUsed.2.2.2.1 = (some .boolean) from rfl), am_rok_bool, w_aload_n, w_getfield, w_goto, w_iaload, w_icmp_ge, w_icmp_ne, w_iconst, w_if_ne, w_iinc, w_iload, w_iload_n, w_ireturn, w_istore, w_istore_n, w_nop, w_swap, sa_80, sg_60_33, cI_0, cI_1, am_lk0, am_lk1, am_ld_some, am_isI_i, am_isJ_j, am_isR_r, am_st_eq, am_rmv_nil, am_rmv_t, am_rmv_i, am_rmv_r, sf_SH, sj_SH, sf_eq, sf_nk, sf_na, sf_sf, am_args_i, am_args_r, am_args_n, Nat.reduceAdd, List.cons_append, List.nil_append, Option.toList, List.drop_succ_cons, List.drop_zero, am_RP, am_CP, am_PH, Fin.isValue, Fin.val_zero, Fin.val_one, am_f2, am_f3, true_and, and_true, true_implies, false_implies, not_false_eq_true, ne_eq, nI_clampD, nI_leT, nI_leF, nI_ltT, nI_ltF, nI_eqT, nI_eqF, nI_lt0F, nI_0leT, nI_eq0T, nI_eq0F, nI_0ltT, nI_0ltF, nI_le0T, nI_le0F, nI_m1, nI_m1', m1_m1, m1_lt, m1_le, nI_mul, nI_add, nI_sub, nI_add1, nI_dec, nI_div, nI_mod, vp_inD, sf_nkD, sf_eqD, bI_t]
      refine ⟨_, _, ?_, ?_, mk (k + 1) true (by omega) (seen_t e2 (Or.inr rfl))⟩
      · omega
      · (simp (decide := true) only [am_has, am_lk0, am_lk1, and_self, true_and, and_true] <;> first | rfl | (refine ⟨?_, ?_⟩ <;> rfl) | (refine ⟨?_, ?_, ?_⟩ <;> rfl) | (refine ⟨?_, ?_, ?_, ?_⟩ <;> rfl))
    | false =>
      by_cases hc : o.getD k 0 = f
      · simp (decide := true) (disch := (first | exact eq_false (by decide) | exact eq_true (by decide) | decide | omega)) only [lX10_isUsed_0, lX10_isUsed_5, lX10_isUsed_26, lX10_isUsed_30, lX10_isUsed_31, lX10_isUsed_38, bX10_isUsed_0, bX10_isUsed_5, bX10_isUsed_26, bX10_isUsed_30, bX10_isUsed_31, bX10_isUsed_38, (show qX10_isUsed.2.2.2.1 = (some .boolean) from rfl), am_rok_bool, w_aload_n, w_getfield, w_goto, w_iaload, w_icmp_ge, w_icmp_ne, w_iconst, w_if_ne, w_iinc, w_iload, w_iload_n, w_ireturn, w_istore, w_istore_n, w_nop, w_swap, sa_80, sg_60_33, cI_0, cI_1, am_lk0, am_lk1, am_ld_some, am_isI_i, am_isJ_j, am_isR_r, am_st_eq, am_rmv_nil, am_rmv_t, am_rmv_i, am_rmv_r, sf_SH, sj_SH, sf_eq, sf_nk, sf_na, sf_sf, am_args_i, am_args_r, am_args_n, Nat.reduceAdd, List.cons_append, List.nil_append, Option.toList, List.drop_succ_cons, List.drop_zero, am_RP, am_CP, am_PH, Fin.isValue, Fin.val_zero, Fin.val_one, am_f2, am_f3, true_and, and_true, true_implies, false_implies, not_false_eq_true, ne_eq, nI_clampD, nI_leT, nI_leF, nI_ltT, nI_ltF, nI_eqT, nI_eqF, nI_lt0F, nI_0leT, nI_eq0T, nI_eq0F, nI_0ltT, nI_0ltF, nI_le0T, nI_le0F, nI_m1, nI_m1', m1_m1, m1_lt, m1_le, nI_mul, nI_add, nI_sub, nI_add1, nI_dec, nI_div, nI_mod, vp_inD, sf_nkD, sf_eqD, bI_f, hp, hc]
        refine ⟨_, _, ?_, ?_, mk (k + 1) true (by omega) (seen_t e2 (Or.inl hc))⟩
        · omega
        · (simp (decide := true) only [am_has, am_lk0, am_lk1, and_self, true_and, and_true] <;> first | rfl | (refine ⟨?_, ?_⟩ <;> rfl) | (refine ⟨?_, ?_, ?_⟩ <;> rfl) | (refine ⟨?_, ?_, ?_, ?_⟩ <;> rfl))
      · have hk2 : (nI o.length ≤ nI k) = False := nI_leF (by omega) (by omega)
        have hk3 : vp_in (nI k) 11 = True := vp_inD (by omega) (by omega)
        have hk4 : (nI (o.getD k 0) = nI f) = False := nI_eqF hc (by omega) (by omega)
        simp (decide := true) (disch := (first | exact eq_false (by decide) | exact eq_true (by decide) | decide | omega)) only [lX10_isUsed_0, lX10_isUsed_5, lX10_isUsed_26, lX10_isUsed_30, lX10_isUsed_31, lX10_isUsed_38, bX10_isUsed_0, bX10_isUsed_5, bX10_isUsed_26, bX10_isUsed_30, bX10_isUsed_31, bX10_isUsed_38, (show qX10_isUsed.2.2.2.1 = (some .boolean) from rfl), am_rok_bool, w_aload_n, w_getfield, w_goto, w_iaload, w_icmp_ge, w_icmp_ne, w_iconst, w_if_ne, w_iinc, w_iload, w_iload_n, w_ireturn, w_istore, w_istore_n, w_nop, w_swap, sa_80, sg_60_33, cI_0, cI_1, am_lk0, am_lk1, am_ld_some, am_isI_i, am_isJ_j, am_isR_r, am_st_eq, am_rmv_nil, am_rmv_t, am_rmv_i, am_rmv_r, sf_SH, sj_SH, sf_eq, sf_nk, sf_na, sf_sf, am_args_i, am_args_r, am_args_n, Nat.reduceAdd, List.cons_append, List.nil_append, Option.toList, List.drop_succ_cons, List.drop_zero, am_RP, am_CP, am_PH, Fin.isValue, Fin.val_zero, Fin.val_one, am_f2, am_f3, true_and, and_true, true_implies, false_implies, not_false_eq_true, ne_eq, nI_clampD, nI_leT, nI_leF, nI_ltT, nI_ltF, nI_eqT, nI_eqF, nI_lt0F, nI_0leT, nI_eq0T, nI_eq0F, nI_0ltT, nI_0ltF, nI_le0T, nI_le0F, nI_m1, nI_m1', m1_m1, m1_lt, m1_le, nI_mul, nI_add, nI_sub, nI_add1, nI_dec, nI_div, nI_mod, vp_inD, sf_nkD, sf_eqD, bI_f, hp, hk2, hk3, hk4]
        refine ⟨_, _, ?_, ?_, mk (k + 1) false (by omega) (seen_f e2 hc)⟩
        · omega
        · (simp (decide := true) only [am_has, am_lk0, am_lk1, and_self, true_and, and_true] <;> first | rfl | (refine ⟨?_, ?_⟩ <;> rfl) | (refine ⟨?_, ?_, ?_⟩ <;> rfl) | (refine ⟨?_, ?_, ?_, ?_⟩ <;> rfl))
def FrK (I I' : Nat → Nat → Int32) : Prop := (∀ c, c ≠ 60 → c ≠ 78 → c ≠ 79 → I' c = I c) ∧ ∀ k, k ≠ 29 → I' 60 k = I 60 k
set_option maxRecDepth 100000 in
set_option maxHeartbeats 8000000 in
theorem c_X10_keepsReading (hS : SMd L t fs I) (hn : fs.length ≤ 11) (o : List Nat) (l : List (Nat × List Nat)) (r : Nat) (hr : r < 1000) (h29 : I 60 29 = nI r) (hO : OCd o I) (hH : HOd l I) (hl : rrun (kdF fs) [[]] o = some l) (hnd : o.Nodup) (hb : ∀ f ∈ o, f < fs.length) (hol : o.length = fs.length) :
    am_Ctr g am_mt 1 (h + 1) 168 [.ref 60] (am_SH, I, J) 0 0 (fun r' M => r' = none ∧ ∃ I', M = (am_SH, I', J) ∧ FrK I I' ∧ I' 60 29 = nI (r + 1) ∧ (∀ j, j < 11 * r → I' 78 j = I 78 j) ∧ (∀ j, j < 22 * r → I' 79 j = I 79 j) ∧ Rd1 fs r o I') := by
  have h16 : I 60 16 = nI fs.length := hS.1
  have hfst := rrun_fst _ _ _ _ hl
  have hlnd : (l.map (·.1)).Nodup := by rw [hfst]; exact hnd
  obtain ⟨JJ, hJJ⟩ : ∃ JJ : Nat → am_Cut, JJ = (fun zu zpc zl zst zM zk zn => (∃ (k : Nat) (I1 : Nat → Nat → Int32), zu = fs.length - k ∧ (k ≤ fs.length) ∧ (∀ c, c ≠ 78 → c ≠ 79 → I1 c = I c) ∧ (∀ j, j < k → I1 78 (11 * r + j) = nI (o.getD j 0)) ∧ (∀ j, j < k → ∀ x p, (o.getD j 0, x :: p) ∈ l → I1 79 (22 * r + x) = nI (o.getD j 0)) ∧ (∀ j, j < 11 * r → I1 78 j = I 78 j) ∧ (∀ j, j < 22 * r → I1 79 j = I 79 j) ∧ zpc = 2 ∧ zl = [(0, .ref 60), (1, .int (nI k))] ∧ zst = [] ∧ zM = (am_SH, I1, J) ∧ zk = 0 ∧ zn = 0)) := ⟨_, rfl⟩
  have mk : ∀ (k : Nat) (I1 : Nat → Nat → Int32), (k ≤ fs.length) → (∀ c, c ≠ 78 → c ≠ 79 → I1 c = I c) → (∀ j, j < k → I1 78 (11 * r + j) = nI (o.getD j 0)) → (∀ j, j < k → ∀ x p, (o.getD j 0, x :: p) ∈ l → I1 79 (22 * r + x) = nI (o.getD j 0)) → (∀ j, j < 11 * r → I1 78 j = I 78 j) → (∀ j, j < 22 * r → I1 79 j = I 79 j) → JJ (fs.length - k) 2 [(0, .ref 60), (1, .int (nI k))] [] (am_SH, I1, J) 0 0 := by
    intro k I1 a0 a1 a2 a3 a4 a5
    rw [hJJ]
    exact ⟨k, I1, rfl, a0, a1, a2, a3, a4, a5, rfl, rfl, rfl, rfl, rfl, rfl⟩
  refine am_rule2 (q := qX10_keepsReading) (B := am_blk bX10_keepsReading) rfl rfl kX10_keepsReading nX10_keepsReading (Nat.le_of_ble_eq_true rfl) JJ (fun zu zpc zl zst zM zk zn hj => ?_) ?_
  rotate_left
  · refine ⟨60, ?_⟩
    simp (decide := true) (disch := (first | exact eq_false (by decide) | exact eq_true (by decide) | decide | omega)) only [lX10_keepsReading_0, lX10_keepsReading_2, lX10_keepsReading_74, lX10_keepsReading_80, bX10_keepsReading_0, bX10_keepsReading_2, bX10_keepsReading_74, bX10_keepsReading_80, (show qX10_keepsReading.2.2.2.1 = none from rfl), am_rok_none, w_aload_n, w_bipush, w_dup, w_getfield, w_goto, w_iadd, w_iaload, w_iastore, w_icmp_ge, w_iconst, w_if_lt, w_iinc, w_iload_n, w_imul, w_istore_n, w_nop, w_puti, w_return, w_swap, sa_78, sa_79, sa_80, sa_81, sg_60_16, sg_60_29, sg_60_30, sg_60_31, sg_60_33, sg_60_34, sp_60_29, cB_11, cB_22, cI_0, cI_1, am_lk0, am_lk1, am_ld_some, am_isI_i, am_isJ_j, am_isR_r, am_st_eq, am_rmv_nil, am_rmv_t, am_rmv_i, am_rmv_r, sf_SH, sj_SH, sf_eq, sf_nk, sf_na, sf_sf, am_args_i, am_args_r, am_args_n, Nat.reduceAdd, List.cons_append, List.nil_append, Option.toList, List.drop_succ_cons, List.drop_zero, am_RP, am_CP, am_PH, Fin.isValue, Fin.val_zero, Fin.val_one, am_f2, am_f3, true_and, and_true, true_implies, false_implies, not_false_eq_true, ne_eq, nI_clampD, nI_leT, nI_leF, nI_ltT, nI_ltF, nI_eqT, nI_eqF, nI_lt0F, nI_0leT, nI_eq0T, nI_eq0F, nI_0ltT, nI_0ltF, nI_le0T, nI_le0F, nI_m1, nI_m1', m1_m1, m1_lt, m1_le, nI_mul, nI_add, nI_sub, nI_add1, nI_dec, nI_div, nI_mod, vp_inD, sf_nkD, sf_eqD]
    refine ⟨_, _, ?_, mk 0 I (by omega) (fun _ _ _ => rfl) (fun j hj => absurd hj (Nat.not_lt_zero _)) (fun j hj => absurd hj (Nat.not_lt_zero _)) (fun _ _ => rfl) (fun _ _ => rfl)⟩
    · (simp (decide := true) only [am_has, am_lk0, am_lk1, and_self, true_and, and_true] <;> first | rfl | (refine ⟨?_, ?_⟩ <;> rfl) | (refine ⟨?_, ?_, ?_⟩ <;> rfl) | (refine ⟨?_, ?_, ?_, ?_⟩ <;> rfl))
  rw [hJJ] at hj
  clear hJJ
  obtain ⟨k, I1, rfl, e1, e2, e3, e4, e5, e6, rfl, rfl, rfl, rfl, rfl, rfl⟩ := hj
  refine ⟨_, 60, rfl, rfl, ?_⟩
  have k16 : I1 60 16 = nI fs.length := by rw [e2 60 (by decide) (by decide)]; exact h16
  have k29 : I1 60 29 = nI r := by rw [e2 60 (by decide) (by decide)]; exact h29
  by_cases hk : k = fs.length
  · subst hk
    simp (decide := true) (disch := (first | exact eq_false (by decide) | exact eq_true (by decide) | decide | omega)) only [lX10_keepsReading_0, lX10_keepsReading_2, lX10_keepsReading_74, lX10_keepsReading_80, bX10_keepsReading_0, bX10_keepsReading_2, bX10_keepsReading_74, bX10_keepsReading_80, (show qX10_keepsReading.2.2.2.1 = none from rfl), am_rok_none, w_aload_n, w_bipush, w_dup, w_getfield, w_goto, w_iadd, w_iaload, w_iastore, w_icmp_ge, w_iconst, w_if_lt, w_iinc, w_iload_n, w_imul, w_istore_n, w_nop, w_puti, w_return, w_swap, sa_78, sa_79, sa_80, sa_81, sg_60_16, sg_60_29, sg_60_30, sg_60_31, sg_60_33, sg_60_34, sp_60_29, cB_11, cB_22, cI_0, cI_1, am_lk0, am_lk1, am_ld_some, am_isI_i, am_isJ_j, am_isR_r, am_st_eq, am_rmv_nil, am_rmv_t, am_rmv_i, am_rmv_r, sf_SH, sj_SH, sf_eq, sf_nk, sf_na, sf_sf, am_args_i, am_args_r, am_args_n, Nat.reduceAdd, List.cons_append, List.nil_append, Option.toList, List.drop_succ_cons, List.drop_zero, am_RP, am_CP, am_PH, Fin.isValue, Fin.val_zero, Fin.val_one, am_f2, am_f3, true_and, and_true, true_implies, false_implies, not_false_eq_true, ne_eq, nI_clampD, nI_leT, nI_leF, nI_ltT, nI_ltF, nI_eqT, nI_eqF, nI_lt0F, nI_0leT, nI_eq0T, nI_eq0F, nI_0ltT, nI_0ltF, nI_le0T, nI_le0F, nI_m1, nI_m1', m1_m1, m1_lt, m1_le, nI_mul, nI_add, nI_sub, nI_add1, nI_dec, nI_div, nI_mod, vp_inD, sf_nkD, sf_eqD, k16, k29]
    refine ⟨_, rfl, ⟨fun c d1 d2 d3 => by rw [sf_naD d1]; exact e2 c d2 d3, fun j hj => by rw [sf_nkD hj, e2 60 (by decide) (by decide)]⟩, by rw [sf_eq], fun j hj => by rw [sf_naD (by decide)]; exact e5 j hj, fun j hj => by rw [sf_naD (by decide)]; exact e6 j hj, fun j hj => by rw [sf_naD (by decide)]; exact e3 j hj, fun l' hl' f x p hm => ?_⟩
    rw [hl] at hl'
    have hl' := Option.some.inj hl'
    subst hl'
    have hfo : f ∈ o := by rw [← hfst]; exact List.mem_map.mpr ⟨_, hm, rfl⟩
    obtain ⟨j, hj, hjf⟩ := gD_of hfo
    rw [sf_naD (by decide), ← hjf]
    exact e4 j (by omega) x p (by rw [hjf]; exact hm)
  · have hko : k < o.length := by omega
    have hg2 := gD_lt hb hko
    have hmo : o.getD k 0 ∈ l.map (·.1) := by rw [hfst]; exact gD_mem hko
    obtain ⟨q, hq, hqk⟩ := List.mem_map.mp hmo
    have hq' : (o.getD k 0, q.2) ∈ l := by rw [← hqk]; exact hq
    have h81 := (hH.1 _ hq').1
    have h81 : I 81 (o.getD k 0) = wI (hdc q.2) := h81
    have k80 : I1 80 k = nI (o.getD k 0) := by rw [e2 80 (by decide) (by decide)]; exact hO k hko
    have k81 : I1 81 (o.getD k 0) = wI (hdc q.2) := by rw [e2 81 (by decide) (by decide)]; exact h81
    have nx : ∀ I2 : Nat → Nat → Int32, (∀ c, c ≠ 78 → c ≠ 79 → I2 c = I1 c) → (∀ j, I2 78 j = sf I1 78 (11 * r + k) (nI (o.getD k 0)) 78 j) → (∀ x p, q.2 = x :: p → ∀ j, I2 79 j = if j = 22 * r + x then nI (o.getD k 0) else I1 79 j) → (q.2 = [] → I2 79 = I1 79) → JJ (fs.length - (k + 1)) 2 [(0, .ref 60), (1, .int (nI (k + 1)))] [] (am_SH, I2, J) 0 0 := by
      intro I2 q1 q2 q3 q4
      refine mk (k + 1) I2 (by omega) (fun c d1 d2 => by rw [q1 c d1 d2]; exact e2 c d1 d2) (fun j hj => ?_) (fun j hj x p hm => ?_) (fun j hj => ?_) (fun j hj => ?_)
      · rw [q2]
        by_cases hjk : j = k
        · rw [sf_eqD (by omega), hjk]
        · rw [sf_nkD (by omega)]; exact e3 j (by omega)
      · by_cases hjk : j = k
        · rw [hjk] at hm ⊢
          have := nodup_uniq hlnd hq' hm
          rw [q3 x p this, if_pos rfl]
        · have hold := e4 j (by omega) x p hm
          cases hq2 : q.2 with
          | nil => rw [q4 hq2]; exact hold
          | cons y p' =>
            rw [q3 y p' hq2]
            rw [if_neg]
            · exact hold
            · intro h9
              have hxy : x = y := by omega
              rw [hq2, ← hxy] at hq'
              have := rval_inj hl hnd hm hq'
              exact hjk (gD_inj hnd (by omega) hko this)
      · rw [q2, sf_nkD (by omega)]; exact e5 j hj
      · cases hq2 : q.2 with
        | nil => rw [q4 hq2]; exact e6 j hj
        | cons y p' =>
          rw [q3 y p' hq2, if_neg (by omega)]
          exact e6 j hj
    cases hq2 : q.2 with
    | nil =>
      have e0 : (wI (hdc q.2) < 0) = True := by rw [hq2]; decide
      simp (decide := true) (disch := (first | exact eq_false (by decide) | exact eq_true (by decide) | decide | omega)) only [lX10_keepsReading_0, lX10_keepsReading_2, lX10_keepsReading_74, lX10_keepsReading_80, bX10_keepsReading_0, bX10_keepsReading_2, bX10_keepsReading_74, bX10_keepsReading_80, (show qX10_keepsReading.2.2.2.1 = none from rfl), am_rok_none, w_aload_n, w_bipush, w_dup, w_getfield, w_goto, w_iadd, w_iaload, w_iastore, w_icmp_ge, w_iconst, w_if_lt, w_iinc, w_iload_n, w_imul, w_istore_n, w_nop, w_puti, w_return, w_swap, sa_78, sa_79, sa_80, sa_81, sg_60_16, sg_60_29, sg_60_30, sg_60_31, sg_60_33, sg_60_34, sp_60_29, cB_11, cB_22, cI_0, cI_1, am_lk0, am_lk1, am_ld_some, am_isI_i, am_isJ_j, am_isR_r, am_st_eq, am_rmv_nil, am_rmv_t, am_rmv_i, am_rmv_r, sf_SH, sj_SH, sf_eq, sf_nk, sf_na, sf_sf, am_args_i, am_args_r, am_args_n, Nat.reduceAdd, List.cons_append, List.nil_append, Option.toList, List.drop_succ_cons, List.drop_zero, am_RP, am_CP, am_PH, Fin.isValue, Fin.val_zero, Fin.val_one, am_f2, am_f3, true_and, and_true, true_implies, false_implies, not_false_eq_true, ne_eq, nI_clampD, nI_leT, nI_leF, nI_ltT, nI_ltF, nI_eqT, nI_eqF, nI_lt0F, nI_0leT, nI_eq0T, nI_eq0F, nI_0ltT, nI_0ltF, nI_le0T, nI_le0F, nI_m1, nI_m1', m1_m1, m1_lt, m1_le, nI_mul, nI_add, nI_sub, nI_add1, nI_dec, nI_div, nI_mod, vp_inD, sf_nkD, sf_eqD, k16, k29, k80, k81, e0]
      refine ⟨_, _, ?_, ?_, nx _ (fun c d1 d2 => by rw [sf_naD d1]) (fun j => rfl) (fun x p h9 => by rw [hq2] at h9; cases h9) (fun _ => by rw [sf_naD (by decide)])⟩
      · omega
      · (simp (decide := true) only [am_has, am_lk0, am_lk1, and_self, true_and, and_true] <;> first | rfl | (refine ⟨?_, ?_⟩ <;> rfl) | (refine ⟨?_, ?_, ?_⟩ <;> rfl) | (refine ⟨?_, ?_, ?_, ?_⟩ <;> rfl))
    | cons y p' =>
      have hy := (rval_heads hl hnd).2 _ hq' y (by rw [hq2]; rfl)
      have hy1 := hb _ hy.1
      have e0 : wI (hdc q.2) = nI y := by rw [hq2]; rfl
      simp (decide := true) (disch := (first | exact eq_false (by decide) | exact eq_true (by decide) | decide | omega)) only [lX10_keepsReading_0, lX10_keepsReading_2, lX10_keepsReading_74, lX10_keepsReading_80, bX10_keepsReading_0, bX10_keepsReading_2, bX10_keepsReading_74, bX10_keepsReading_80, (show qX10_keepsReading.2.2.2.1 = none from rfl), am_rok_none, w_aload_n, w_bipush, w_dup, w_getfield, w_goto, w_iadd, w_iaload, w_iastore, w_icmp_ge, w_iconst, w_if_lt, w_iinc, w_iload_n, w_imul, w_istore_n, w_nop, w_puti, w_return, w_swap, sa_78, sa_79, sa_80, sa_81, sg_60_16, sg_60_29, sg_60_30, sg_60_31, sg_60_33, sg_60_34, sp_60_29, cB_11, cB_22, cI_0, cI_1, am_lk0, am_lk1, am_ld_some, am_isI_i, am_isJ_j, am_isR_r, am_st_eq, am_rmv_nil, am_rmv_t, am_rmv_i, am_rmv_r, sf_SH, sj_SH, sf_eq, sf_nk, sf_na, sf_sf, am_args_i, am_args_r, am_args_n, Nat.reduceAdd, List.cons_append, List.nil_append, Option.toList, List.drop_succ_cons, List.drop_zero, am_RP, am_CP, am_PH, Fin.isValue, Fin.val_zero, Fin.val_one, am_f2, am_f3, true_and, and_true, true_implies, false_implies, not_false_eq_true, ne_eq, nI_clampD, nI_leT, nI_leF, nI_ltT, nI_ltF, nI_eqT, nI_eqF, nI_lt0F, nI_0leT, nI_eq0T, nI_eq0F, nI_0ltT, nI_0ltF, nI_le0T, nI_le0F, nI_m1, nI_m1', m1_m1, m1_lt, m1_le, nI_mul, nI_add, nI_sub, nI_add1, nI_dec, nI_div, nI_mod, vp_inD, sf_nkD, sf_eqD, k16, k29, k80, k81, e0]
      refine ⟨_, _, ?_, ?_, nx _ (fun c d1 d2 => by rw [sf_naD d2, sf_naD d1]) (fun j => by rw [sf_naD (by decide)]) (fun x p h9 j => ?_) (fun h9 => by rw [hq2] at h9; cases h9)⟩
      · omega
      · (simp (decide := true) only [am_has, am_lk0, am_lk1, and_self, true_and, and_true] <;> first | rfl | (refine ⟨?_, ?_⟩ <;> rfl) | (refine ⟨?_, ?_, ?_⟩ <;> rfl) | (refine ⟨?_, ?_, ?_, ?_⟩ <;> rfl))
      rw [hq2] at h9
      have := (List.cons.inj h9).1
      subst this
      by_cases hj : j = 22 * r + y
      · rw [sf_eqD hj, if_pos hj]
      · rw [sf_nkD hj, sf_naD (by decide), if_neg hj]
end ML1
/-! what is left to be listed -/
noncomputable def tdA (kd : Nat → Nat) (n : Nat) (c : List (List Nat) → List Nat → Nat → Prop) (m : Nat) (p : List Nat) (s : List (List Nat)) (u : List Nat) (i : Nat) : List (List Nat) :=
  (List.range' i (n - i)).flatMap (fun f => haveI := Classical.propDecidable (c (p :: s) u f); if c (p :: s) u f then (rdf kd n c m (rp kd f p ++ s) (f :: u)).map (f :: ·) else [])
theorem tdA_0 (kd : Nat → Nat) (n : Nat) (c : List (List Nat) → List Nat → Nat → Prop) (m : Nat) (p : List Nat) (s : List (List Nat)) (u : List Nat) : tdA kd n c m p s u 0 = rdf kd n c (m + 1) (p :: s) u := by
  rw [rdf_s]
  unfold tdA rls
  rw [List.range_eq_range']
  rfl
theorem tdA_n (kd : Nat → Nat) (n : Nat) (c : List (List Nat) → List Nat → Nat → Prop) (m : Nat) (p : List Nat) (s : List (List Nat)) (u : List Nat) : tdA kd n c m p s u n = [] := by
  unfold tdA
  rw [Nat.sub_self]
  rfl
theorem tdA_t {kd : Nat → Nat} {n : Nat} {c : List (List Nat) → List Nat → Nat → Prop} {m : Nat} {p : List Nat} {s : List (List Nat)} {u : List Nat} {i : Nat} (hi : i < n) (h : c (p :: s) u i) : tdA kd n c m p s u i = (rdf kd n c m (rp kd i p ++ s) (i :: u)).map (i :: ·) ++ tdA kd n c m p s u (i + 1) := by
  unfold tdA
  rw [show n - i = (n - (i + 1)) + 1 by omega, List.range'_succ, List.flatMap_cons, if_pos h]
theorem tdA_f {kd : Nat → Nat} {n : Nat} {c : List (List Nat) → List Nat → Nat → Prop} {m : Nat} {p : List Nat} {s : List (List Nat)} {u : List Nat} {i : Nat} (hi : i < n) (h : ¬ c (p :: s) u i) : tdA kd n c m p s u i = tdA kd n c m p s u (i + 1) := by
  unfold tdA
  rw [show n - i = (n - (i + 1)) + 1 by omega, List.range'_succ, List.flatMap_cons, if_neg h, List.nil_append]
/-- what is left at the places above: of the places so far, the last one first -/
noncomputable def tdU (kd : Nat → Nat) (n : Nat) (c : List (List Nat) → List Nat → Nat → Prop) : List Nat → List (List Nat)
  | [] => []
  | f :: u => (match rstk kd [[]] u.reverse with
    | some (p :: s) => (tdA kd n c (n - u.length - 1) p s u (f + 1)).map (u.reverse ++ ·)
    | _ => []) ++ tdU kd n c u
theorem tdU_c {kd : Nat → Nat} {n : Nat} {c : List (List Nat) → List Nat → Nat → Prop} {f : Nat} {u : List Nat} {p : List Nat} {s : List (List Nat)} (h : rstk kd [[]] u.reverse = some (p :: s)) : tdU kd n c (f :: u) = (tdA kd n c (n - u.length - 1) p s u (f + 1)).map (u.reverse ++ ·) ++ tdU kd n c u := by
  show (match rstk kd [[]] u.reverse with
    | some (p :: s) => (tdA kd n c (n - u.length - 1) p s u (f + 1)).map (u.reverse ++ ·)
    | _ => []) ++ tdU kd n c u = _
  rw [h]
/-- a number that falls -/
def wtU (n : Nat) : List Nat → Nat
  | [] => 0
  | f :: u => (n - f) * 13 ^ (n - u.length) + wtU n u
