/-! the reference's readings as trees -/
def Rdg (fs : List Fg) (r : Nat) (o : List Nat) (l : List (Nat × List Nat)) (I : Nat → Nat → Int32) : Prop := rrun (kdF fs) [[]] o = some l ∧ o.Nodup ∧ o.length = fs.length ∧ (∀ f ∈ o, f < fs.length) ∧ Rd1 fs r o I ∧ r < 720
theorem Rdg.fr {fs : List Fg} {r : Nat} {o : List Nat} {l : List (Nat × List Nat)} {I I' : Nat → Nat → Int32} (h : Rdg fs r o l I) (h1 : I' 78 = I 78) (h2 : I' 79 = I 79) : Rdg fs r o l I' := by
  unfold Rdg Rd1
  rw [h1, h2]
  exact h
theorem Rdg.get {fs : List Fg} {r : Nat} {o : List Nat} {l : List (Nat × List Nat)} {I : Nat → Nat → Int32} (h : Rdg fs r o l I) {f : Nat} (hf : f < fs.length) : ∃ p, (f, p) ∈ l := by
  obtain ⟨h1, h2, h3, h4, -⟩ := h
  have h9 := rfull _ o h2 h3 h4 f hf
  rw [← rrun_fst _ _ _ _ h1] at h9
  obtain ⟨q, hq, rfl⟩ := List.mem_map.mp h9
  exact ⟨q.2, hq⟩
theorem Rdg.uniq {fs : List Fg} {r : Nat} {o : List Nat} {l : List (Nat × List Nat)} {I : Nat → Nat → Int32} (h : Rdg fs r o l I) {f : Nat} {p q : List Nat} (h1 : (f, p) ∈ l) (h2 : (f, q) ∈ l) : p = q := by
  have hnd : (l.map (·.1)).Nodup := by rw [rrun_fst _ _ _ _ h.1]; exact h.2.1
  exact nodup_uniq hnd h1 h2
theorem Rdg.hole {fs : List Fg} {r : Nat} {o : List Nat} {l : List (Nat × List Nat)} {I : Nat → Nat → Int32} (h : Rdg fs r o l I) (hc : rcnt (kdF fs) fs.length) {x : Nat} (hx : x / 2 < fs.length) (hr : x % 2 < rk (kF (nF fs (x / 2)))) : ∃ f p, (f, x :: p) ∈ l ∧ (x / 2, p) ∈ l ∧ I 79 (22 * r + x) = nI f ∧ f < fs.length := by
  obtain ⟨p, hp⟩ := h.get hx
  obtain ⟨h1, h2, h3, h4, h5, -⟩ := h
  obtain ⟨f, hf⟩ := rval_fill hc h1 h2 h3 h4 hp hr
  rw [show 2 * (x / 2) + x % 2 = x by omega] at hf
  refine ⟨f, p, hf, hp, h5.2 l h1 f x p hf, h4 f ?_⟩
  rw [← rrun_fst _ _ _ _ h1]
  exact List.mem_map.mpr ⟨_, hf, rfl⟩
theorem Rdg.lt {fs : List Fg} {r : Nat} {o : List Nat} {l : List (Nat × List Nat)} {I : Nat → Nat → Int32} (h : Rdg fs r o l I) (hn : fs.length ≤ 11) {f : Nat} {p : List Nat} (hp : (f, p) ∈ l) {y : Nat} (hy : y ∈ p) : y < 22 := by
  have := rgood_lt h.1 h.2.2.2.1 (rval_good' h.1 hp) hy
  omega
theorem Rdg.ln {fs : List Fg} {r : Nat} {o : List Nat} {l : List (Nat × List Nat)} {I : Nat → Nat → Int32} (h : Rdg fs r o l I) (hn : fs.length ≤ 11) {f : Nat} {p : List Nat} (hp : (f, p) ∈ l) : p.length ≤ 11 := by
  have h1 := (rlen (kdF fs) o [[]] l 0 h.1 (fun r hr => by rw [List.mem_singleton.mp hr]; exact Nat.le_refl _)).1 _ hp
  have h2 := h.2.2.1
  have h1 : p.length ≤ 0 + o.length := h1
  omega
section MH1
variable (g : am_G) (h : Nat) (I : Nat → Nat → Int32) (J : Nat → Nat → Int64) {L : Nat → Nat} {t : Nat} {fs : List Fg} {r : Nat} {o : List Nat} {l : List (Nat × List Nat)}
set_option maxRecDepth 100000 in
set_option maxHeartbeats 8000000 in
theorem c_X10_holeIn (hS : SMd L t fs I) (hG : Good L t fs) (hR : Rdg fs r o l I) (f : Nat) (p : List Nat) (hp : (f, p) ∈ l) (hf : f < fs.length) :
    am_Ctr g am_mt 1 (h + 2) 175 [.ref 60, .int (nI r), .int (nI f)] (am_SH, I, J) 0 0 (fun r' M => r' = some (.int (wI (hdc p))) ∧ M = (am_SH, I, J)) := by
  have hn := hG.le
  have h16 : I 60 16 = nI fs.length := hS.1
  have hr := hR.2.2.2.2.2
  have hval : ∀ x p', p = x :: p' → x / 2 < fs.length ∧ x % 2 < rk (kF (nF fs (x / 2))) := fun x p' h9 => by
    rw [h9] at hp
    have h8 := (rval_heads hR.1 hR.2.1).2 _ hp x rfl
    exact ⟨hR.2.2.2.1 _ h8.1, h8.2⟩
  obtain ⟨JJ, hJJ⟩ : ∃ JJ : Nat → am_Cut, JJ = (fun zu zpc zl zst zM zk zn => (∃ (i : Nat), zu = 10 * (fs.length - i) ∧ (i ≤ fs.length) ∧ (∀ x p', p = x :: p' → 2 * i ≤ x) ∧ zpc = 2 ∧ zl = [(0, .ref 60), (1, .int (nI r)), (2, .int (nI f)), (3, .int (nI i))] ∧ zst = [] ∧ zM = (am_SH, I, J) ∧ zk = 0 ∧ zn = 0) ∨ (∃ (i j : Nat), zu = 10 * (fs.length - i - 1) + 1 + (2 - j) ∧ (i < fs.length ∧ j ≤ rk (kF (nF fs i))) ∧ (∀ x p', p = x :: p' → 2 * i + j ≤ x) ∧ zpc = 13 ∧ zl = [(0, .ref 60), (1, .int (nI r)), (2, .int (nI f)), (3, .int (nI i)), (4, .int (nI j))] ∧ zst = [] ∧ zM = (am_SH, I, J) ∧ zk = 0 ∧ zn = 0)) := ⟨_, rfl⟩
  have mk1 : ∀ (i : Nat), (i ≤ fs.length) → (∀ x p', p = x :: p' → 2 * i ≤ x) → JJ (10 * (fs.length - i)) 2 [(0, .ref 60), (1, .int (nI r)), (2, .int (nI f)), (3, .int (nI i))] [] (am_SH, I, J) 0 0 := by
    intro i a0 a1
    rw [hJJ]
    exact Or.inl ⟨i, rfl, a0, a1, rfl, rfl, rfl, rfl, rfl, rfl⟩
  have mk2 : ∀ (i j : Nat), (i < fs.length ∧ j ≤ rk (kF (nF fs i))) → (∀ x p', p = x :: p' → 2 * i + j ≤ x) → JJ (10 * (fs.length - i - 1) + 1 + (2 - j)) 13 [(0, .ref 60), (1, .int (nI r)), (2, .int (nI f)), (3, .int (nI i)), (4, .int (nI j))] [] (am_SH, I, J) 0 0 := by
    intro i j a0 a1
    rw [hJJ]
    exact Or.inr (⟨i, j, rfl, a0, a1, rfl, rfl, rfl, rfl, rfl, rfl⟩)
  refine am_rule2 (q := qX10_holeIn) (B := am_blk bX10_holeIn) rfl rfl kX10_holeIn nX10_holeIn (Nat.le_of_ble_eq_true rfl) JJ (fun zu zpc zl zst zM zk zn hj => ?_) ?_
  rotate_left
  · refine ⟨60, ?_⟩
    simp (decide := true) (disch := (first | exact eq_false (by decide) | exact eq_true (by decide) | decide | omega)) only [lX10_holeIn_0, lX10_holeIn_2, lX10_holeIn_13, lX10_holeIn_50, lX10_holeIn_56, lX10_holeIn_62, bX10_holeIn_0, bX10_holeIn_2, bX10_holeIn_13, bX10_holeIn_50, bX10_holeIn_56, bX10_holeIn_62, (show qX10_holeIn.2.2.2.1 = (some .int) from rfl), am_rok_int, w_aload_n, w_bipush, w_getfield, w_goto, w_iadd, w_iaload, w_icmp_ge, w_icmp_ne, w_iconst, w_iinc, w_iload, w_iload_n, w_imul, w_ireturn, w_istore, w_istore_n, w_nop, w_swap, sa_79, sg_60_16, sg_60_31, cB_22, cI_0, cI_2, cI_m1, am_lk0, am_lk1, am_ld_some, am_isI_i, am_isJ_j, am_isR_r, am_st_eq, am_rmv_nil, am_rmv_t, am_rmv_i, am_rmv_r, sf_SH, sj_SH, sf_eq, sf_nk, sf_na, sf_sf, am_args_i, am_args_r, am_args_n, Nat.reduceAdd, List.cons_append, List.nil_append, Option.toList, List.drop_succ_cons, List.drop_zero, am_RP, am_CP, am_PH, Fin.isValue, Fin.val_zero, Fin.val_one, am_f2, am_f3, true_and, and_true, true_implies, false_implies, not_false_eq_true, ne_eq, nI_clampD, nI_leT, nI_leF, nI_ltT, nI_ltF, nI_eqT, nI_eqF, nI_lt0F, nI_0leT, nI_eq0T, nI_eq0F, nI_0ltT, nI_0ltF, nI_le0T, nI_le0F, nI_m1, nI_m1', m1_m1, m1_lt, m1_le, nI_mul, nI_add, nI_sub, nI_add1, nI_dec, nI_div, nI_mod, vp_inD, sf_nkD, sf_eqD]
    refine ⟨_, _, ?_, mk1 0 (by omega) (fun x p' _ => by omega)⟩
    · (simp (decide := true) only [am_has, am_lk0, am_lk1, and_self, true_and, and_true] <;> first | rfl | (refine ⟨?_, ?_⟩ <;> rfl) | (refine ⟨?_, ?_, ?_⟩ <;> rfl) | (refine ⟨?_, ?_, ?_, ?_⟩ <;> rfl))
  rw [hJJ] at hj
  clear hJJ
  rcases hj with ⟨i, rfl, e1, e2, rfl, rfl, rfl, rfl, rfl, rfl⟩ | ⟨i, j, rfl, e1, e2, rfl, rfl, rfl, rfl, rfl, rfl⟩
  · refine ⟨_, 60, rfl, rfl, ?_⟩
    by_cases hi : i = fs.length
    · have hpe : p = [] := by
        cases p with
        | nil => rfl
        | cons x p' =>
          have h1 := e2 x p' rfl
          have h2 := hval x p' rfl
          omega
      subst hi
      simp (decide := true) (disch := (first | exact eq_false (by decide) | exact eq_true (by decide) | decide | omega)) only [lX10_holeIn_0, lX10_holeIn_2, lX10_holeIn_13, lX10_holeIn_50, lX10_holeIn_56, lX10_holeIn_62, bX10_holeIn_0, bX10_holeIn_2, bX10_holeIn_13, bX10_holeIn_50, bX10_holeIn_56, bX10_holeIn_62, (show qX10_holeIn.2.2.2.1 = (some .int) from rfl), am_rok_int, w_aload_n, w_bipush, w_getfield, w_goto, w_iadd, w_iaload, w_icmp_ge, w_icmp_ne, w_iconst, w_iinc, w_iload, w_iload_n, w_imul, w_ireturn, w_istore, w_istore_n, w_nop, w_swap, sa_79, sg_60_16, sg_60_31, cB_22, cI_0, cI_2, cI_m1, am_lk0, am_lk1, am_ld_some, am_isI_i, am_isJ_j, am_isR_r, am_st_eq, am_rmv_nil, am_rmv_t, am_rmv_i, am_rmv_r, sf_SH, sj_SH, sf_eq, sf_nk, sf_na, sf_sf, am_args_i, am_args_r, am_args_n, Nat.reduceAdd, List.cons_append, List.nil_append, Option.toList, List.drop_succ_cons, List.drop_zero, am_RP, am_CP, am_PH, Fin.isValue, Fin.val_zero, Fin.val_one, am_f2, am_f3, true_and, and_true, true_implies, false_implies, not_false_eq_true, ne_eq, nI_clampD, nI_leT, nI_leF, nI_ltT, nI_ltF, nI_eqT, nI_eqF, nI_lt0F, nI_0leT, nI_eq0T, nI_eq0F, nI_0ltT, nI_0ltF, nI_le0T, nI_le0F, nI_m1, nI_m1', m1_m1, m1_lt, m1_le, nI_mul, nI_add, nI_sub, nI_add1, nI_dec, nI_div, nI_mod, vp_inD, sf_nkD, sf_eqD, h16]
      rw [hpe]; rfl
    · simp (decide := true) (disch := (first | exact eq_false (by decide) | exact eq_true (by decide) | decide | omega)) only [lX10_holeIn_0, lX10_holeIn_2, lX10_holeIn_13, lX10_holeIn_50, lX10_holeIn_56, lX10_holeIn_62, bX10_holeIn_0, bX10_holeIn_2, bX10_holeIn_13, bX10_holeIn_50, bX10_holeIn_56, bX10_holeIn_62, (show qX10_holeIn.2.2.2.1 = (some .int) from rfl), am_rok_int, w_aload_n, w_bipush, w_getfield, w_goto, w_iadd, w_iaload, w_icmp_ge, w_icmp_ne, w_iconst, w_iinc, w_iload, w_iload_n, w_imul, w_ireturn, w_istore, w_istore_n, w_nop, w_swap, sa_79, sg_60_16, sg_60_31, cB_22, cI_0, cI_2, cI_m1, am_lk0, am_lk1, am_ld_some, am_isI_i, am_isJ_j, am_isR_r, am_st_eq, am_rmv_nil, am_rmv_t, am_rmv_i, am_rmv_r, sf_SH, sj_SH, sf_eq, sf_nk, sf_na, sf_sf, am_args_i, am_args_r, am_args_n, Nat.reduceAdd, List.cons_append, List.nil_append, Option.toList, List.drop_succ_cons, List.drop_zero, am_RP, am_CP, am_PH, Fin.isValue, Fin.val_zero, Fin.val_one, am_f2, am_f3, true_and, and_true, true_implies, false_implies, not_false_eq_true, ne_eq, nI_clampD, nI_leT, nI_leF, nI_ltT, nI_ltF, nI_eqT, nI_eqF, nI_lt0F, nI_0leT, nI_eq0T, nI_eq0F, nI_0ltT, nI_0ltF, nI_le0T, nI_le0F, nI_m1, nI_m1', m1_m1, m1_lt, m1_le, nI_mul, nI_add, nI_sub, nI_add1, nI_dec, nI_div, nI_mod, vp_inD, sf_nkD, sf_eqD, h16]
      refine ⟨_, _, ?_, ?_, mk2 i 0 ⟨by omega, by omega⟩ (fun x p' h9 => by have := e2 x p' h9; omega)⟩
      · omega
      · (simp (decide := true) only [am_has, am_lk0, am_lk1, and_self, true_and, and_true] <;> first | rfl | (refine ⟨?_, ?_⟩ <;> rfl) | (refine ⟨?_, ?_, ?_⟩ <;> rfl) | (refine ⟨?_, ?_, ?_, ?_⟩ <;> rfl))
  · refine ⟨_, 60, rfl, rfl, ?_⟩
    obtain ⟨e1, e3⟩ := e1
    have hk := (hS.2.1 i e1).1
    have hk6 := hG.k6 e1
    have hr2 := rk_le (kF (nF fs i))
    simp (decide := true) (disch := (first | exact eq_false (by decide) | exact eq_true (by decide) | decide | omega)) only [lX10_holeIn_0, lX10_holeIn_2, lX10_holeIn_13, lX10_holeIn_50, lX10_holeIn_56, lX10_holeIn_62, bX10_holeIn_0, bX10_holeIn_2, bX10_holeIn_13, bX10_holeIn_50, bX10_holeIn_56, bX10_holeIn_62, (show qX10_holeIn.2.2.2.1 = (some .int) from rfl), am_rok_int, w_aload_n, w_bipush, w_getfield, w_goto, w_iadd, w_iaload, w_icmp_ge, w_icmp_ne, w_iconst, w_iinc, w_iload, w_iload_n, w_imul, w_ireturn, w_istore, w_istore_n, w_nop, w_swap, sa_79, sg_60_16, sg_60_31, cB_22, cI_0, cI_2, cI_m1, am_lk0, am_lk1, am_ld_some, am_isI_i, am_isJ_j, am_isR_r, am_st_eq, am_rmv_nil, am_rmv_t, am_rmv_i, am_rmv_r, sf_SH, sj_SH, sf_eq, sf_nk, sf_na, sf_sf, am_args_i, am_args_r, am_args_n, Nat.reduceAdd, List.cons_append, List.nil_append, Option.toList, List.drop_succ_cons, List.drop_zero, am_RP, am_CP, am_PH, Fin.isValue, Fin.val_zero, Fin.val_one, am_f2, am_f3, true_and, and_true, true_implies, false_implies, not_false_eq_true, ne_eq, nI_clampD, nI_leT, nI_leF, nI_ltT, nI_ltF, nI_eqT, nI_eqF, nI_lt0F, nI_0leT, nI_eq0T, nI_eq0F, nI_0ltT, nI_0ltF, nI_le0T, nI_le0F, nI_m1, nI_m1', m1_m1, m1_lt, m1_le, nI_mul, nI_add, nI_sub, nI_add1, nI_dec, nI_div, nI_mod, vp_inD, sf_nkD, sf_eqD]
    refine w_virtE (c_X10_holesOf g h I J i (kF (nF fs i)) (by omega) hk hk6) rfl rfl rfl (of_eq_true so_60) rfl (Nat.le_refl _) (Nat.le_refl _) ?_
    by_cases hj : j = rk (kF (nF fs i))
    · simp (decide := true) (disch := (first | exact eq_false (by decide) | exact eq_true (by decide) | decide | omega)) only [lX10_holeIn_0, lX10_holeIn_2, lX10_holeIn_13, lX10_holeIn_50, lX10_holeIn_56, lX10_holeIn_62, bX10_holeIn_0, bX10_holeIn_2, bX10_holeIn_13, bX10_holeIn_50, bX10_holeIn_56, bX10_holeIn_62, (show qX10_holeIn.2.2.2.1 = (some .int) from rfl), am_rok_int, w_aload_n, w_bipush, w_getfield, w_goto, w_iadd, w_iaload, w_icmp_ge, w_icmp_ne, w_iconst, w_iinc, w_iload, w_iload_n, w_imul, w_ireturn, w_istore, w_istore_n, w_nop, w_swap, sa_79, sg_60_16, sg_60_31, cB_22, cI_0, cI_2, cI_m1, am_lk0, am_lk1, am_ld_some, am_isI_i, am_isJ_j, am_isR_r, am_st_eq, am_rmv_nil, am_rmv_t, am_rmv_i, am_rmv_r, sf_SH, sj_SH, sf_eq, sf_nk, sf_na, sf_sf, am_args_i, am_args_r, am_args_n, Nat.reduceAdd, List.cons_append, List.nil_append, Option.toList, List.drop_succ_cons, List.drop_zero, am_RP, am_CP, am_PH, Fin.isValue, Fin.val_zero, Fin.val_one, am_f2, am_f3, true_and, and_true, true_implies, false_implies, not_false_eq_true, ne_eq, nI_clampD, nI_leT, nI_leF, nI_ltT, nI_ltF, nI_eqT, nI_eqF, nI_lt0F, nI_0leT, nI_eq0T, nI_eq0F, nI_0ltT, nI_0ltF, nI_le0T, nI_le0F, nI_m1, nI_m1', m1_m1, m1_lt, m1_le, nI_mul, nI_add, nI_sub, nI_add1, nI_dec, nI_div, nI_mod, vp_inD, sf_nkD, sf_eqD, hj]
      refine ⟨_, _, ?_, ?_, mk1 (i + 1) (by omega) (fun x p' h9 => ?_)⟩
      · omega
      · (simp (decide := true) only [am_has, am_lk0, am_lk1, and_self, true_and, and_true] <;> first | rfl | (refine ⟨?_, ?_⟩ <;> rfl) | (refine ⟨?_, ?_, ?_⟩ <;> rfl) | (refine ⟨?_, ?_, ?_, ?_⟩ <;> rfl))
      have h1 := e2 x p' h9
      have h2 := hval x p' h9
      by_cases hxi : x / 2 = i
      · rw [hxi] at h2; omega
      · omega
    · obtain ⟨f', p', q1, q2, q3, q4⟩ := hR.hole hG.cnt (x := 2 * i + j) (by omega) (by rw [show (2 * i + j) / 2 = i by omega]; omega)
      rw [← Nat.add_assoc] at q3
      by_cases hff : f' = f
      · have hpp := hR.uniq hp (hff ▸ q1)
        have ew : wI (hdc p) = nI (2 * i + j) := by rw [hpp]; rfl
        simp (decide := true) (disch := (first | exact eq_false (by decide) | exact eq_true (by decide) | decide | omega)) only [lX10_holeIn_0, lX10_holeIn_2, lX10_holeIn_13, lX10_holeIn_50, lX10_holeIn_56, lX10_holeIn_62, bX10_holeIn_0, bX10_holeIn_2, bX10_holeIn_13, bX10_holeIn_50, bX10_holeIn_56, bX10_holeIn_62, (show qX10_holeIn.2.2.2.1 = (some .int) from rfl), am_rok_int, w_aload_n, w_bipush, w_getfield, w_goto, w_iadd, w_iaload, w_icmp_ge, w_icmp_ne, w_iconst, w_iinc, w_iload, w_iload_n, w_imul, w_ireturn, w_istore, w_istore_n, w_nop, w_swap, sa_79, sg_60_16, sg_60_31, cB_22, cI_0, cI_2, cI_m1, am_lk0, am_lk1, am_ld_some, am_isI_i, am_isJ_j, am_isR_r, am_st_eq, am_rmv_nil, am_rmv_t, am_rmv_i, am_rmv_r, sf_SH, sj_SH, sf_eq, sf_nk, sf_na, sf_sf, am_args_i, am_args_r, am_args_n, Nat.reduceAdd, List.cons_append, List.nil_append, Option.toList, List.drop_succ_cons, List.drop_zero, am_RP, am_CP, am_PH, Fin.isValue, Fin.val_zero, Fin.val_one, am_f2, am_f3, true_and, and_true, true_implies, false_implies, not_false_eq_true, ne_eq, nI_clampD, nI_leT, nI_leF, nI_ltT, nI_ltF, nI_eqT, nI_eqF, nI_lt0F, nI_0leT, nI_eq0T, nI_eq0F, nI_0ltT, nI_0ltF, nI_le0T, nI_le0F, nI_m1, nI_m1', m1_m1, m1_lt, m1_le, nI_mul, nI_add, nI_sub, nI_add1, nI_dec, nI_div, nI_mod, vp_inD, sf_nkD, sf_eqD, q3, hff, ew]
      · simp (decide := true) (disch := (first | exact eq_false (by decide) | exact eq_true (by decide) | decide | omega)) only [lX10_holeIn_0, lX10_holeIn_2, lX10_holeIn_13, lX10_holeIn_50, lX10_holeIn_56, lX10_holeIn_62, bX10_holeIn_0, bX10_holeIn_2, bX10_holeIn_13, bX10_holeIn_50, bX10_holeIn_56, bX10_holeIn_62, (show qX10_holeIn.2.2.2.1 = (some .int) from rfl), am_rok_int, w_aload_n, w_bipush, w_getfield, w_goto, w_iadd, w_iaload, w_icmp_ge, w_icmp_ne, w_iconst, w_iinc, w_iload, w_iload_n, w_imul, w_ireturn, w_istore, w_istore_n, w_nop, w_swap, sa_79, sg_60_16, sg_60_31, cB_22, cI_0, cI_2, cI_m1, am_lk0, am_lk1, am_ld_some, am_isI_i, am_isJ_j, am_isR_r, am_st_eq, am_rmv_nil, am_rmv_t, am_rmv_i, am_rmv_r, sf_SH, sj_SH, sf_eq, sf_nk, sf_na, sf_sf, am_args_i, am_args_r, am_args_n, Nat.reduceAdd, List.cons_append, List.nil_append, Option.toList, List.drop_succ_cons, List.drop_zero, am_RP, am_CP, am_PH, Fin.isValue, Fin.val_zero, Fin.val_one, am_f2, am_f3, true_and, and_true, true_implies, false_implies, not_false_eq_true, ne_eq, nI_clampD, nI_leT, nI_leF, nI_ltT, nI_ltF, nI_eqT, nI_eqF, nI_lt0F, nI_0leT, nI_eq0T, nI_eq0F, nI_0ltT, nI_0ltF, nI_le0T, nI_le0F, nI_m1, nI_m1', m1_m1, m1_lt, m1_le, nI_mul, nI_add, nI_sub, nI_add1, nI_dec, nI_div, nI_mod, vp_inD, sf_nkD, sf_eqD, q3]
        refine ⟨_, _, ?_, ?_, mk2 i (j + 1) ⟨e1, by omega⟩ (fun x p9 h9 => ?_)⟩
        · omega
        · (simp (decide := true) only [am_has, am_lk0, am_lk1, and_self, true_and, and_true] <;> first | rfl | (refine ⟨?_, ?_⟩ <;> rfl) | (refine ⟨?_, ?_, ?_⟩ <;> rfl) | (refine ⟨?_, ?_, ?_, ?_⟩ <;> rfl))
        have h1 := e2 x p9 h9
        by_cases hx : x = 2 * i + j
        · exfalso
          rw [h9, hx] at hp
          exact hff (rval_inj hR.1 hR.2.1 q1 hp)
        · omega
set_option maxRecDepth 100000 in
set_option maxHeartbeats 400000 in
theorem c_X10_upperOf (hS : SMd L t fs I) (hG : Good L t fs) (hR : Rdg fs r o l I) (f : Nat) (p : List Nat) (hp : (f, p) ∈ l) (hf : f < fs.length) :
    am_Ctr g am_mt 1 (h + 3) 176 [.ref 60, .int (nI r), .int (nI f)] (am_SH, I, J) 0 0 (fun r' M => r' = some (.int (wI (hpc p))) ∧ M = (am_SH, I, J)) := by
  refine am_rule0 (q := qX10_upperOf) (B := am_blk bX10_upperOf) 60 rfl rfl kX10_upperOf nX10_upperOf (Nat.le_of_ble_eq_true rfl) ?_
  simp (decide := true) (disch := (first | exact eq_false (by decide) | exact eq_true (by decide) | decide | omega)) only [lX10_upperOf_0, lX10_upperOf_15, lX10_upperOf_18, bX10_upperOf_0, bX10_upperOf_15, bX10_upperOf_18, (show qX10_upperOf.2.2.2.1 = (some .int) from rfl), am_rok_int, w_aload_n, w_goto, w_iconst, w_idiv, w_if_ge, w_iload_n, w_ireturn, w_istore_n, w_swap, cI_2, cI_m1, am_lk0, am_lk1, am_ld_some, am_isI_i, am_isJ_j, am_isR_r, am_st_eq, am_rmv_nil, am_rmv_t, am_rmv_i, am_rmv_r, sf_SH, sj_SH, sf_eq, sf_nk, sf_na, sf_sf, am_args_i, am_args_r, am_args_n, Nat.reduceAdd, List.cons_append, List.nil_append, Option.toList, List.drop_succ_cons, List.drop_zero, am_RP, am_CP, am_PH, Fin.isValue, Fin.val_zero, Fin.val_one, am_f2, am_f3, true_and, and_true, true_implies, false_implies, not_false_eq_true, ne_eq, nI_clampD, nI_leT, nI_leF, nI_ltT, nI_ltF, nI_eqT, nI_eqF, nI_lt0F, nI_0leT, nI_eq0T, nI_eq0F, nI_0ltT, nI_0ltF, nI_le0T, nI_le0F, nI_m1, nI_m1', m1_m1, m1_lt, m1_le, nI_mul, nI_add, nI_sub, nI_add1, nI_dec, nI_div, nI_mod, vp_inD, sf_nkD, sf_eqD]
  refine w_virtE (c_X10_holeIn g h I J hS hG hR f p hp hf) rfl rfl rfl (of_eq_true so_60) rfl (Nat.le_refl _) (Nat.le_refl _) ?_
  by_cases hpe : p = []
  · have e0 : (0 ≤ wI (hdc p)) = False := by rw [hpe]; exact wI_0lef
    have e1 : wI (hpc p) = -1 := by rw [hpe]; rfl
    simp (decide := true) (disch := (first | exact eq_false (by decide) | exact eq_true (by decide) | decide | omega)) only [lX10_upperOf_0, lX10_upperOf_15, lX10_upperOf_18, bX10_upperOf_0, bX10_upperOf_15, bX10_upperOf_18, (show qX10_upperOf.2.2.2.1 = (some .int) from rfl), am_rok_int, w_aload_n, w_goto, w_iconst, w_idiv, w_if_ge, w_iload_n, w_ireturn, w_istore_n, w_swap, cI_2, cI_m1, am_lk0, am_lk1, am_ld_some, am_isI_i, am_isJ_j, am_isR_r, am_st_eq, am_rmv_nil, am_rmv_t, am_rmv_i, am_rmv_r, sf_SH, sj_SH, sf_eq, sf_nk, sf_na, sf_sf, am_args_i, am_args_r, am_args_n, Nat.reduceAdd, List.cons_append, List.nil_append, Option.toList, List.drop_succ_cons, List.drop_zero, am_RP, am_CP, am_PH, Fin.isValue, Fin.val_zero, Fin.val_one, am_f2, am_f3, true_and, and_true, true_implies, false_implies, not_false_eq_true, ne_eq, nI_clampD, nI_leT, nI_leF, nI_ltT, nI_ltF, nI_eqT, nI_eqF, nI_lt0F, nI_0leT, nI_eq0T, nI_eq0F, nI_0ltT, nI_0ltF, nI_le0T, nI_le0F, nI_m1, nI_m1', m1_m1, m1_lt, m1_le, nI_mul, nI_add, nI_sub, nI_add1, nI_dec, nI_div, nI_mod, vp_inD, sf_nkD, sf_eqD, e0]
    rw [e1]
  · obtain ⟨x, p', rfl⟩ := List.exists_cons_of_ne_nil hpe
    have hx := hR.lt hG.le hp List.mem_cons_self
    have e0 : wI (hdc (x :: p')) = nI x := rfl
    have e1 : wI (hpc (x :: p')) = nI (x / 2) := rfl
    simp (decide := true) (disch := (first | exact eq_false (by decide) | exact eq_true (by decide) | decide | omega)) only [lX10_upperOf_0, lX10_upperOf_15, lX10_upperOf_18, bX10_upperOf_0, bX10_upperOf_15, bX10_upperOf_18, (show qX10_upperOf.2.2.2.1 = (some .int) from rfl), am_rok_int, w_aload_n, w_goto, w_iconst, w_idiv, w_if_ge, w_iload_n, w_ireturn, w_istore_n, w_swap, cI_2, cI_m1, am_lk0, am_lk1, am_ld_some, am_isI_i, am_isJ_j, am_isR_r, am_st_eq, am_rmv_nil, am_rmv_t, am_rmv_i, am_rmv_r, sf_SH, sj_SH, sf_eq, sf_nk, sf_na, sf_sf, am_args_i, am_args_r, am_args_n, Nat.reduceAdd, List.cons_append, List.nil_append, Option.toList, List.drop_succ_cons, List.drop_zero, am_RP, am_CP, am_PH, Fin.isValue, Fin.val_zero, Fin.val_one, am_f2, am_f3, true_and, and_true, true_implies, false_implies, not_false_eq_true, ne_eq, nI_clampD, nI_leT, nI_leF, nI_ltT, nI_ltF, nI_eqT, nI_eqF, nI_lt0F, nI_0leT, nI_eq0T, nI_eq0F, nI_0ltT, nI_0ltF, nI_le0T, nI_le0F, nI_m1, nI_m1', m1_m1, m1_lt, m1_le, nI_mul, nI_add, nI_sub, nI_add1, nI_dec, nI_div, nI_mod, vp_inD, sf_nkD, sf_eqD, e0, e1]
set_option maxRecDepth 100000 in
set_option maxHeartbeats 8000000 in
theorem c_X10_polarityOf (hS : SMd L t fs I) (hG : Good L t fs) (hR : Rdg fs r o l I) (f : Nat) (p : List Nat) (hp : (f, p) ∈ l) (hf : f < fs.length) :
    am_Ctr g am_mt 1 (h + 3) 178 [.ref 60, .int (nI r), .int (nI f)] (am_SH, I, J) 0 0 (fun r' M => r' = some (.int (po (kdF fs) p)) ∧ M = (am_SH, I, J)) := by
  have hn := hG.le
  obtain ⟨JJ, hJJ⟩ : ∃ JJ : Nat → am_Cut, JJ = (fun zu zpc zl zst zM zk zn => (∃ (q1 : List Nat) (f1 : Nat) (s : Int32), zu = q1.length ∧ ((f1, q1) ∈ l) ∧ (s * po (kdF fs) q1 = po (kdF fs) p) ∧ zpc = 10 ∧ zl = [(0, .ref 60), (1, .int (nI r)), (3, .int s), (4, .int (wI (hdc q1)))] ∧ zst = [] ∧ zM = (am_SH, I, J) ∧ zk = 0 ∧ zn = 0)) := ⟨_, rfl⟩
  have mk : ∀ (q1 : List Nat) (f1 : Nat) (s : Int32), ((f1, q1) ∈ l) → (s * po (kdF fs) q1 = po (kdF fs) p) → JJ (q1.length) 10 [(0, .ref 60), (1, .int (nI r)), (3, .int s), (4, .int (wI (hdc q1)))] [] (am_SH, I, J) 0 0 := by
    intro q1 f1 s a0 a1
    rw [hJJ]
    exact ⟨q1, f1, s, rfl, a0, a1, rfl, rfl, rfl, rfl, rfl, rfl⟩
  refine am_rule2 (q := qX10_polarityOf) (B := am_blk bX10_polarityOf) rfl rfl kX10_polarityOf nX10_polarityOf (Nat.le_of_ble_eq_true rfl) JJ (fun zu zpc zl zst zM zk zn hj => ?_) ?_
  rotate_left
  · refine ⟨60, ?_⟩
    simp (decide := true) (disch := (first | exact eq_false (by decide) | exact eq_true (by decide) | decide | omega)) only [lX10_polarityOf_0, lX10_polarityOf_10, lX10_polarityOf_37, lX10_polarityOf_38, lX10_polarityOf_64, lX10_polarityOf_68, lX10_polarityOf_83, lX10_polarityOf_84, lX10_polarityOf_100, bX10_polarityOf_0, bX10_polarityOf_10, bX10_polarityOf_37, bX10_polarityOf_38, bX10_polarityOf_64, bX10_polarityOf_68, bX10_polarityOf_83, bX10_polarityOf_84, bX10_polarityOf_100, (show qX10_polarityOf.2.2.2.1 = (some .int) from rfl), am_rok_int, w_aload_n, w_getfield, w_goto, w_iaload, w_icmp_eq, w_icmp_ne, w_iconst, w_idiv, w_if_eq, w_if_lt, w_if_ne, w_iload, w_iload_n, w_imul, w_irem, w_ireturn, w_istore, w_istore_n, w_nop, w_swap, sa_68, sg_60_17, cI_0, cI_1, cI_2, cI_3, cI_4, cI_5, cI_m1, am_lk0, am_lk1, am_ld_some, am_isI_i, am_isJ_j, am_isR_r, am_st_eq, am_rmv_nil, am_rmv_t, am_rmv_i, am_rmv_r, sf_SH, sj_SH, sf_eq, sf_nk, sf_na, sf_sf, am_args_i, am_args_r, am_args_n, Nat.reduceAdd, List.cons_append, List.nil_append, Option.toList, List.drop_succ_cons, List.drop_zero, am_RP, am_CP, am_PH, Fin.isValue, Fin.val_zero, Fin.val_one, am_f2, am_f3, true_and, and_true, true_implies, false_implies, not_false_eq_true, ne_eq, nI_clampD, nI_leT, nI_leF, nI_ltT, nI_ltF, nI_eqT, nI_eqF, nI_lt0F, nI_0leT, nI_eq0T, nI_eq0F, nI_0ltT, nI_0ltF, nI_le0T, nI_le0F, nI_m1, nI_m1', m1_m1, m1_lt, m1_le, nI_mul, nI_add, nI_sub, nI_add1, nI_dec, nI_div, nI_mod, vp_inD, sf_nkD, sf_eqD]
    refine w_virtE (c_X10_holeIn g h I J hS hG hR f p hp hf) rfl rfl rfl (of_eq_true so_60) rfl (Nat.le_refl _) (Nat.le_refl _) ?_
    simp (decide := true) (disch := (first | exact eq_false (by decide) | exact eq_true (by decide) | decide | omega)) only [lX10_polarityOf_0, lX10_polarityOf_10, lX10_polarityOf_37, lX10_polarityOf_38, lX10_polarityOf_64, lX10_polarityOf_68, lX10_polarityOf_83, lX10_polarityOf_84, lX10_polarityOf_100, bX10_polarityOf_0, bX10_polarityOf_10, bX10_polarityOf_37, bX10_polarityOf_38, bX10_polarityOf_64, bX10_polarityOf_68, bX10_polarityOf_83, bX10_polarityOf_84, bX10_polarityOf_100, (show qX10_polarityOf.2.2.2.1 = (some .int) from rfl), am_rok_int, w_aload_n, w_getfield, w_goto, w_iaload, w_icmp_eq, w_icmp_ne, w_iconst, w_idiv, w_if_eq, w_if_lt, w_if_ne, w_iload, w_iload_n, w_imul, w_irem, w_ireturn, w_istore, w_istore_n, w_nop, w_swap, sa_68, sg_60_17, cI_0, cI_1, cI_2, cI_3, cI_4, cI_5, cI_m1, am_lk0, am_lk1, am_ld_some, am_isI_i, am_isJ_j, am_isR_r, am_st_eq, am_rmv_nil, am_rmv_t, am_rmv_i, am_rmv_r, sf_SH, sj_SH, sf_eq, sf_nk, sf_na, sf_sf, am_args_i, am_args_r, am_args_n, Nat.reduceAdd, List.cons_append, List.nil_append, Option.toList, List.drop_succ_cons, List.drop_zero, am_RP, am_CP, am_PH, Fin.isValue, Fin.val_zero, Fin.val_one, am_f2, am_f3, true_and, and_true, true_implies, false_implies, not_false_eq_true, ne_eq, nI_clampD, nI_leT, nI_leF, nI_ltT, nI_ltF, nI_eqT, nI_eqF, nI_lt0F, nI_0leT, nI_eq0T, nI_eq0F, nI_0ltT, nI_0ltF, nI_le0T, nI_le0F, nI_m1, nI_m1', m1_m1, m1_lt, m1_le, nI_mul, nI_add, nI_sub, nI_add1, nI_dec, nI_div, nI_mod, vp_inD, sf_nkD, sf_eqD]
    refine ⟨_, _, ?_, mk p f (nI 1) hp (Int32.one_mul _)⟩
    · (simp (decide := true) only [am_has, am_lk0, am_lk1, and_self, true_and, and_true] <;> first | rfl | (refine ⟨?_, ?_⟩ <;> rfl) | (refine ⟨?_, ?_, ?_⟩ <;> rfl) | (refine ⟨?_, ?_, ?_, ?_⟩ <;> rfl))
  rw [hJJ] at hj
  clear hJJ
  obtain ⟨q1, f1, s, rfl, e1, e2, rfl, rfl, rfl, rfl, rfl, rfl⟩ := hj
  refine ⟨_, 90, rfl, rfl, ?_⟩
  by_cases hq1 : q1 = []
  · have e0 : (wI (hdc q1) < 0) = True := by rw [hq1]; decide
    have e9 : s = po (kdF fs) p := by
      rw [← e2, hq1]
      exact (Int32.mul_one s).symm
    simp (decide := true) (disch := (first | exact eq_false (by decide) | exact eq_true (by decide) | decide | omega)) only [lX10_polarityOf_0, lX10_polarityOf_10, lX10_polarityOf_37, lX10_polarityOf_38, lX10_polarityOf_64, lX10_polarityOf_68, lX10_polarityOf_83, lX10_polarityOf_84, lX10_polarityOf_100, bX10_polarityOf_0, bX10_polarityOf_10, bX10_polarityOf_37, bX10_polarityOf_38, bX10_polarityOf_64, bX10_polarityOf_68, bX10_polarityOf_83, bX10_polarityOf_84, bX10_polarityOf_100, (show qX10_polarityOf.2.2.2.1 = (some .int) from rfl), am_rok_int, w_aload_n, w_getfield, w_goto, w_iaload, w_icmp_eq, w_icmp_ne, w_iconst, w_idiv, w_if_eq, w_if_lt, w_if_ne, w_iload, w_iload_n, w_imul, w_irem, w_ireturn, w_istore, w_istore_n, w_nop, w_swap, sa_68, sg_60_17, cI_0, cI_1, cI_2, cI_3, cI_4, cI_5, cI_m1, am_lk0, am_lk1, am_ld_some, am_isI_i, am_isJ_j, am_isR_r, am_st_eq, am_rmv_nil, am_rmv_t, am_rmv_i, am_rmv_r, sf_SH, sj_SH, sf_eq, sf_nk, sf_na, sf_sf, am_args_i, am_args_r, am_args_n, Nat.reduceAdd, List.cons_append, List.nil_append, Option.toList, List.drop_succ_cons, List.drop_zero, am_RP, am_CP, am_PH, Fin.isValue, Fin.val_zero, Fin.val_one, am_f2, am_f3, true_and, and_true, true_implies, false_implies, not_false_eq_true, ne_eq, nI_clampD, nI_leT, nI_leF, nI_ltT, nI_ltF, nI_eqT, nI_eqF, nI_lt0F, nI_0leT, nI_eq0T, nI_eq0F, nI_0ltT, nI_0ltF, nI_le0T, nI_le0F, nI_m1, nI_m1', m1_m1, m1_lt, m1_le, nI_mul, nI_add, nI_sub, nI_add1, nI_dec, nI_div, nI_mod, vp_inD, sf_nkD, sf_eqD, e0]
    rw [e9]
  · obtain ⟨x, q2, rfl⟩ := List.exists_cons_of_ne_nil hq1
    have hg := (rval_good' hR.1 e1).1
    have hx2 : x / 2 ∈ o := by rw [← rrun_fst _ _ _ _ hR.1]; exact List.mem_map.mpr ⟨_, hg, rfl⟩
    have hx2 := hR.2.2.2.1 _ hx2
    have hx := hR.lt hn e1 List.mem_cons_self
    have hk := (hS.2.1 _ hx2).1
    have hk6 := hG.k6 hx2
    have e0 : wI (hdc (x :: q2)) = nI x := rfl
    have hl9 : (x :: q2).length = q2.length + 1 := rfl
    have go : ∀ v, v = s * fa (kdF fs) x → JJ (q2.length) 10 [(0, .ref 60), (1, .int (nI r)), (3, .int v), (4, .int (wI (hdc q2)))] [] (am_SH, I, J) 0 0 := fun v hv => mk q2 (x / 2) v hg (by
      rw [hv, ← e2, Int32.mul_assoc]
      rfl)
    have hkd : kdF fs (x / 2) = kF (nF fs (x / 2)) := rfl
    have hfa := hkd
    obtain ⟨k, hkk⟩ : ∃ k, k = kF (nF fs (x / 2)) := ⟨_, rfl⟩
    rw [← hkk] at hk hk6 hkd
    have hk6' : k = 0 ∨ k = 1 ∨ k = 2 ∨ k = 3 ∨ k = 4 ∨ k = 5 := by omega
    clear hfa hkk
    by_cases hm : x % 2 = 0
    · rcases hk6' with rfl | rfl | rfl | rfl | rfl | rfl <;> (
        simp (decide := true) (disch := (first | exact eq_false (by decide) | exact eq_true (by decide) | decide | omega)) only [lX10_polarityOf_0, lX10_polarityOf_10, lX10_polarityOf_37, lX10_polarityOf_38, lX10_polarityOf_64, lX10_polarityOf_68, lX10_polarityOf_83, lX10_polarityOf_84, lX10_polarityOf_100, bX10_polarityOf_0, bX10_polarityOf_10, bX10_polarityOf_37, bX10_polarityOf_38, bX10_polarityOf_64, bX10_polarityOf_68, bX10_polarityOf_83, bX10_polarityOf_84, bX10_polarityOf_100, (show qX10_polarityOf.2.2.2.1 = (some .int) from rfl), am_rok_int, w_aload_n, w_getfield, w_goto, w_iaload, w_icmp_eq, w_icmp_ne, w_iconst, w_idiv, w_if_eq, w_if_lt, w_if_ne, w_iload, w_iload_n, w_imul, w_irem, w_ireturn, w_istore, w_istore_n, w_nop, w_swap, sa_68, sg_60_17, cI_0, cI_1, cI_2, cI_3, cI_4, cI_5, cI_m1, am_lk0, am_lk1, am_ld_some, am_isI_i, am_isJ_j, am_isR_r, am_st_eq, am_rmv_nil, am_rmv_t, am_rmv_i, am_rmv_r, sf_SH, sj_SH, sf_eq, sf_nk, sf_na, sf_sf, am_args_i, am_args_r, am_args_n, Nat.reduceAdd, List.cons_append, List.nil_append, Option.toList, List.drop_succ_cons, List.drop_zero, am_RP, am_CP, am_PH, Fin.isValue, Fin.val_zero, Fin.val_one, am_f2, am_f3, true_and, and_true, true_implies, false_implies, not_false_eq_true, ne_eq, nI_clampD, nI_leT, nI_leF, nI_ltT, nI_ltF, nI_eqT, nI_eqF, nI_lt0F, nI_0leT, nI_eq0T, nI_eq0F, nI_0ltT, nI_0ltF, nI_le0T, nI_le0F, nI_m1, nI_m1', m1_m1, m1_lt, m1_le, nI_mul, nI_add, nI_sub, nI_add1, nI_dec, nI_div, nI_mod, vp_inD, sf_nkD, sf_eqD, e0, hk, hm]
        refine w_virtE (c_X10_holeIn g h I J hS hG hR (x / 2) q2 hg hx2) rfl rfl rfl (of_eq_true so_60) rfl (Nat.le_refl _) (Nat.le_refl _) ?_
        simp (decide := true) (disch := (first | exact eq_false (by decide) | exact eq_true (by decide) | decide | omega)) only [lX10_polarityOf_0, lX10_polarityOf_10, lX10_polarityOf_37, lX10_polarityOf_38, lX10_polarityOf_64, lX10_polarityOf_68, lX10_polarityOf_83, lX10_polarityOf_84, lX10_polarityOf_100, bX10_polarityOf_0, bX10_polarityOf_10, bX10_polarityOf_37, bX10_polarityOf_38, bX10_polarityOf_64, bX10_polarityOf_68, bX10_polarityOf_83, bX10_polarityOf_84, bX10_polarityOf_100, (show qX10_polarityOf.2.2.2.1 = (some .int) from rfl), am_rok_int, w_aload_n, w_getfield, w_goto, w_iaload, w_icmp_eq, w_icmp_ne, w_iconst, w_idiv, w_if_eq, w_if_lt, w_if_ne, w_iload, w_iload_n, w_imul, w_irem, w_ireturn, w_istore, w_istore_n, w_nop, w_swap, sa_68, sg_60_17, cI_0, cI_1, cI_2, cI_3, cI_4, cI_5, cI_m1, am_lk0, am_lk1, am_ld_some, am_isI_i, am_isJ_j, am_isR_r, am_st_eq, am_rmv_nil, am_rmv_t, am_rmv_i, am_rmv_r, sf_SH, sj_SH, sf_eq, sf_nk, sf_na, sf_sf, am_args_i, am_args_r, am_args_n, Nat.reduceAdd, List.cons_append, List.nil_append, Option.toList, List.drop_succ_cons, List.drop_zero, am_RP, am_CP, am_PH, Fin.isValue, Fin.val_zero, Fin.val_one, am_f2, am_f3, true_and, and_true, true_implies, false_implies, not_false_eq_true, ne_eq, nI_clampD, nI_leT, nI_leF, nI_ltT, nI_ltF, nI_eqT, nI_eqF, nI_lt0F, nI_0leT, nI_eq0T, nI_eq0F, nI_0ltT, nI_0ltF, nI_le0T, nI_le0F, nI_m1, nI_m1', m1_m1, m1_lt, m1_le, nI_mul, nI_add, nI_sub, nI_add1, nI_dec, nI_div, nI_mod, vp_inD, sf_nkD, sf_eqD]
        have go2 := go
        unfold fa at go2
        rw [hkd] at go2
        simp (decide := true) only [hm, and_true, true_and, and_false, false_and, or_true, true_or, or_false, false_or, if_true, if_false, reduceIte] at go2
        refine ⟨_, _, ?_, ?_, go2 _ rfl⟩
        · omega
        · (simp (decide := true) only [am_has, am_lk0, am_lk1, and_self, true_and, and_true] <;> first | rfl | (refine ⟨?_, ?_⟩ <;> rfl) | (refine ⟨?_, ?_, ?_⟩ <;> rfl) | (refine ⟨?_, ?_, ?_, ?_⟩ <;> rfl)))
    · have hm : x % 2 = 1 := by omega
      rcases hk6' with rfl | rfl | rfl | rfl | rfl | rfl <;> (
        simp (decide := true) (disch := (first | exact eq_false (by decide) | exact eq_true (by decide) | decide | omega)) only [lX10_polarityOf_0, lX10_polarityOf_10, lX10_polarityOf_37, lX10_polarityOf_38, lX10_polarityOf_64, lX10_polarityOf_68, lX10_polarityOf_83, lX10_polarityOf_84, lX10_polarityOf_100, bX10_polarityOf_0, bX10_polarityOf_10, bX10_polarityOf_37, bX10_polarityOf_38, bX10_polarityOf_64, bX10_polarityOf_68, bX10_polarityOf_83, bX10_polarityOf_84, bX10_polarityOf_100, (show qX10_polarityOf.2.2.2.1 = (some .int) from rfl), am_rok_int, w_aload_n, w_getfield, w_goto, w_iaload, w_icmp_eq, w_icmp_ne, w_iconst, w_idiv, w_if_eq, w_if_lt, w_if_ne, w_iload, w_iload_n, w_imul, w_irem, w_ireturn, w_istore, w_istore_n, w_nop, w_swap, sa_68, sg_60_17, cI_0, cI_1, cI_2, cI_3, cI_4, cI_5, cI_m1, am_lk0, am_lk1, am_ld_some, am_isI_i, am_isJ_j, am_isR_r, am_st_eq, am_rmv_nil, am_rmv_t, am_rmv_i, am_rmv_r, sf_SH, sj_SH, sf_eq, sf_nk, sf_na, sf_sf, am_args_i, am_args_r, am_args_n, Nat.reduceAdd, List.cons_append, List.nil_append, Option.toList, List.drop_succ_cons, List.drop_zero, am_RP, am_CP, am_PH, Fin.isValue, Fin.val_zero, Fin.val_one, am_f2, am_f3, true_and, and_true, true_implies, false_implies, not_false_eq_true, ne_eq, nI_clampD, nI_leT, nI_leF, nI_ltT, nI_ltF, nI_eqT, nI_eqF, nI_lt0F, nI_0leT, nI_eq0T, nI_eq0F, nI_0ltT, nI_0ltF, nI_le0T, nI_le0F, nI_m1, nI_m1', m1_m1, m1_lt, m1_le, nI_mul, nI_add, nI_sub, nI_add1, nI_dec, nI_div, nI_mod, vp_inD, sf_nkD, sf_eqD, e0, hk, hm]
        refine w_virtE (c_X10_holeIn g h I J hS hG hR (x / 2) q2 hg hx2) rfl rfl rfl (of_eq_true so_60) rfl (Nat.le_refl _) (Nat.le_refl _) ?_
        simp (decide := true) (disch := (first | exact eq_false (by decide) | exact eq_true (by decide) | decide | omega)) only [lX10_polarityOf_0, lX10_polarityOf_10, lX10_polarityOf_37, lX10_polarityOf_38, lX10_polarityOf_64, lX10_polarityOf_68, lX10_polarityOf_83, lX10_polarityOf_84, lX10_polarityOf_100, bX10_polarityOf_0, bX10_polarityOf_10, bX10_polarityOf_37, bX10_polarityOf_38, bX10_polarityOf_64, bX10_polarityOf_68, bX10_polarityOf_83, bX10_polarityOf_84, bX10_polarityOf_100, (show qX10_polarityOf.2.2.2.1 = (some .int) from rfl), am_rok_int, w_aload_n, w_getfield, w_goto, w_iaload, w_icmp_eq, w_icmp_ne, w_iconst, w_idiv, w_if_eq, w_if_lt, w_if_ne, w_iload, w_iload_n, w_imul, w_irem, w_ireturn, w_istore, w_istore_n, w_nop, w_swap, sa_68, sg_60_17, cI_0, cI_1, cI_2, cI_3, cI_4, cI_5, cI_m1, am_lk0, am_lk1, am_ld_some, am_isI_i, am_isJ_j, am_isR_r, am_st_eq, am_rmv_nil, am_rmv_t, am_rmv_i, am_rmv_r, sf_SH, sj_SH, sf_eq, sf_nk, sf_na, sf_sf, am_args_i, am_args_r, am_args_n, Nat.reduceAdd, List.cons_append, List.nil_append, Option.toList, List.drop_succ_cons, List.drop_zero, am_RP, am_CP, am_PH, Fin.isValue, Fin.val_zero, Fin.val_one, am_f2, am_f3, true_and, and_true, true_implies, false_implies, not_false_eq_true, ne_eq, nI_clampD, nI_leT, nI_leF, nI_ltT, nI_ltF, nI_eqT, nI_eqF, nI_lt0F, nI_0leT, nI_eq0T, nI_eq0F, nI_0ltT, nI_0ltF, nI_le0T, nI_le0F, nI_m1, nI_m1', m1_m1, m1_lt, m1_le, nI_mul, nI_add, nI_sub, nI_add1, nI_dec, nI_div, nI_mod, vp_inD, sf_nkD, sf_eqD]
        have go2 := go
        unfold fa at go2
        rw [hkd] at go2
        simp (decide := true) only [hm, and_true, true_and, and_false, false_and, or_true, true_or, or_false, false_or, if_true, if_false, reduceIte] at go2
        refine ⟨_, _, ?_, ?_, go2 _ rfl⟩
        · omega
        · (simp (decide := true) only [am_has, am_lk0, am_lk1, and_self, true_and, and_true] <;> first | rfl | (refine ⟨?_, ?_⟩ <;> rfl) | (refine ⟨?_, ?_, ?_⟩ <;> rfl) | (refine ⟨?_, ?_, ?_, ?_⟩ <;> rfl)))
set_option maxRecDepth 100000 in
set_option maxHeartbeats 8000000 in
theorem c_X10_isBelow (hS : SMd L t fs I) (hG : Good L t fs) (hR : Rdg fs r o l I) (f u : Nat) (p : List Nat) (hp : (f, p) ∈ l) (hf : f < fs.length) (hu : u < fs.length) :
    am_Ctr g am_mt 1 (h + 4) 180 [.ref 60, .int (nI r), .int (nI u), .int (nI f)] (am_SH, I, J) 0 0 (fun r' M => r' = some (.int (bI (decide (u ∈ p.map (· / 2))))) ∧ M = (am_SH, I, J)) := by
  have hn := hG.le
  obtain ⟨JJ, hJJ⟩ : ∃ JJ : Nat → am_Cut, JJ = (fun zu zpc zl zst zM zk zn => (∃ (q1 : List Nat) (f1 : Nat), zu = q1.length ∧ ((f1, q1) ∈ l) ∧ (u ∈ p.map (· / 2) ↔ u ∈ q1.map (· / 2)) ∧ zpc = 8 ∧ zl = [(0, .ref 60), (1, .int (nI r)), (2, .int (nI u)), (4, .int (wI (hpc q1)))] ∧ zst = [] ∧ zM = (am_SH, I, J) ∧ zk = 0 ∧ zn = 0)) := ⟨_, rfl⟩
  have mk : ∀ (q1 : List Nat) (f1 : Nat), ((f1, q1) ∈ l) → (u ∈ p.map (· / 2) ↔ u ∈ q1.map (· / 2)) → JJ (q1.length) 8 [(0, .ref 60), (1, .int (nI r)), (2, .int (nI u)), (4, .int (wI (hpc q1)))] [] (am_SH, I, J) 0 0 := by
    intro q1 f1 a0 a1
    rw [hJJ]
    exact ⟨q1, f1, rfl, a0, a1, rfl, rfl, rfl, rfl, rfl, rfl⟩
  refine am_rule2 (q := qX10_isBelow) (B := am_blk bX10_isBelow) rfl rfl kX10_isBelow nX10_isBelow (Nat.le_of_ble_eq_true rfl) JJ (fun zu zpc zl zst zM zk zn hj => ?_) ?_
  rotate_left
  · refine ⟨60, ?_⟩
    simp (decide := true) (disch := (first | exact eq_false (by decide) | exact eq_true (by decide) | decide | omega)) only [lX10_isBelow_0, lX10_isBelow_8, lX10_isBelow_31, lX10_isBelow_41, lX10_isBelow_42, bX10_isBelow_0, bX10_isBelow_8, bX10_isBelow_31, bX10_isBelow_41, bX10_isBelow_42, (show qX10_isBelow.2.2.2.1 = (some .boolean) from rfl), am_rok_bool, w_aload_n, w_goto, w_icmp_eq, w_icmp_ne, w_iconst, w_if_lt, w_iload, w_iload_n, w_ireturn, w_istore, w_nop, w_swap, cI_0, cI_1, am_lk0, am_lk1, am_ld_some, am_isI_i, am_isJ_j, am_isR_r, am_st_eq, am_rmv_nil, am_rmv_t, am_rmv_i, am_rmv_r, sf_SH, sj_SH, sf_eq, sf_nk, sf_na, sf_sf, am_args_i, am_args_r, am_args_n, Nat.reduceAdd, List.cons_append, List.nil_append, Option.toList, List.drop_succ_cons, List.drop_zero, am_RP, am_CP, am_PH, Fin.isValue, Fin.val_zero, Fin.val_one, am_f2, am_f3, true_and, and_true, true_implies, false_implies, not_false_eq_true, ne_eq, nI_clampD, nI_leT, nI_leF, nI_ltT, nI_ltF, nI_eqT, nI_eqF, nI_lt0F, nI_0leT, nI_eq0T, nI_eq0F, nI_0ltT, nI_0ltF, nI_le0T, nI_le0F, nI_m1, nI_m1', m1_m1, m1_lt, m1_le, nI_mul, nI_add, nI_sub, nI_add1, nI_dec, nI_div, nI_mod, vp_inD, sf_nkD, sf_eqD]
    refine w_virtE (c_X10_upperOf g h I J hS hG hR f p hp hf) rfl rfl rfl (of_eq_true so_60) rfl (Nat.le_refl _) (Nat.le_refl _) ?_
    simp (decide := true) (disch := (first | exact eq_false (by decide) | exact eq_true (by decide) | decide | omega)) only [lX10_isBelow_0, lX10_isBelow_8, lX10_isBelow_31, lX10_isBelow_41, lX10_isBelow_42, bX10_isBelow_0, bX10_isBelow_8, bX10_isBelow_31, bX10_isBelow_41, bX10_isBelow_42, (show qX10_isBelow.2.2.2.1 = (some .boolean) from rfl), am_rok_bool, w_aload_n, w_goto, w_icmp_eq, w_icmp_ne, w_iconst, w_if_lt, w_iload, w_iload_n, w_ireturn, w_istore, w_nop, w_swap, cI_0, cI_1, am_lk0, am_lk1, am_ld_some, am_isI_i, am_isJ_j, am_isR_r, am_st_eq, am_rmv_nil, am_rmv_t, am_rmv_i, am_rmv_r, sf_SH, sj_SH, sf_eq, sf_nk, sf_na, sf_sf, am_args_i, am_args_r, am_args_n, Nat.reduceAdd, List.cons_append, List.nil_append, Option.toList, List.drop_succ_cons, List.drop_zero, am_RP, am_CP, am_PH, Fin.isValue, Fin.val_zero, Fin.val_one, am_f2, am_f3, true_and, and_true, true_implies, false_implies, not_false_eq_true, ne_eq, nI_clampD, nI_leT, nI_leF, nI_ltT, nI_ltF, nI_eqT, nI_eqF, nI_lt0F, nI_0leT, nI_eq0T, nI_eq0F, nI_0ltT, nI_0ltF, nI_le0T, nI_le0F, nI_m1, nI_m1', m1_m1, m1_lt, m1_le, nI_mul, nI_add, nI_sub, nI_add1, nI_dec, nI_div, nI_mod, vp_inD, sf_nkD, sf_eqD]
    refine ⟨_, _, ?_, mk p f hp Iff.rfl⟩
    · (simp (decide := true) only [am_has, am_lk0, am_lk1, and_self, true_and, and_true] <;> first | rfl | (refine ⟨?_, ?_⟩ <;> rfl) | (refine ⟨?_, ?_, ?_⟩ <;> rfl) | (refine ⟨?_, ?_, ?_, ?_⟩ <;> rfl))
  rw [hJJ] at hj
  clear hJJ
  obtain ⟨q1, f1, rfl, e1, e2, rfl, rfl, rfl, rfl, rfl, rfl⟩ := hj
  refine ⟨_, 90, rfl, rfl, ?_⟩
  by_cases hq1 : q1 = []
  · have e0 : (wI (hpc q1) < 0) = True := by rw [hq1]; decide
    have e9 : (wI (hpc q1) = nI u) = False := by rw [hq1]; exact nI_m1' (by omega)
    rw [decide_eq_false (fun h0 => by have := e2.mp h0; rw [hq1] at this; cases this)]
    simp (decide := true) (disch := (first | exact eq_false (by decide) | exact eq_true (by decide) | decide | omega)) only [lX10_isBelow_0, lX10_isBelow_8, lX10_isBelow_31, lX10_isBelow_41, lX10_isBelow_42, bX10_isBelow_0, bX10_isBelow_8, bX10_isBelow_31, bX10_isBelow_41, bX10_isBelow_42, (show qX10_isBelow.2.2.2.1 = (some .boolean) from rfl), am_rok_bool, w_aload_n, w_goto, w_icmp_eq, w_icmp_ne, w_iconst, w_if_lt, w_iload, w_iload_n, w_ireturn, w_istore, w_nop, w_swap, cI_0, cI_1, am_lk0, am_lk1, am_ld_some, am_isI_i, am_isJ_j, am_isR_r, am_st_eq, am_rmv_nil, am_rmv_t, am_rmv_i, am_rmv_r, sf_SH, sj_SH, sf_eq, sf_nk, sf_na, sf_sf, am_args_i, am_args_r, am_args_n, Nat.reduceAdd, List.cons_append, List.nil_append, Option.toList, List.drop_succ_cons, List.drop_zero, am_RP, am_CP, am_PH, Fin.isValue, Fin.val_zero, Fin.val_one, am_f2, am_f3, true_and, and_true, true_implies, false_implies, not_false_eq_true, ne_eq, nI_clampD, nI_leT, nI_leF, nI_ltT, nI_ltF, nI_eqT, nI_eqF, nI_lt0F, nI_0leT, nI_eq0T, nI_eq0F, nI_0ltT, nI_0ltF, nI_le0T, nI_le0F, nI_m1, nI_m1', m1_m1, m1_lt, m1_le, nI_mul, nI_add, nI_sub, nI_add1, nI_dec, nI_div, nI_mod, vp_inD, sf_nkD, sf_eqD, e0, e9, nI0_01, bI_f]
  · obtain ⟨x, q2, rfl⟩ := List.exists_cons_of_ne_nil hq1
    have hg := (rval_good' hR.1 e1).1
    have hx2 : x / 2 ∈ o := by rw [← rrun_fst _ _ _ _ hR.1]; exact List.mem_map.mpr ⟨_, hg, rfl⟩
    have hx2 := hR.2.2.2.1 _ hx2
    have e0 : wI (hpc (x :: q2)) = nI (x / 2) := rfl
    have hl9 : (x :: q2).length = q2.length + 1 := rfl
    by_cases hxu : x / 2 = u
    · rw [decide_eq_true (e2.mpr (by rw [← hxu]; exact List.mem_map.mpr ⟨x, List.mem_cons_self, rfl⟩))]
      simp (decide := true) (disch := (first | exact eq_false (by decide) | exact eq_true (by decide) | decide | omega)) only [lX10_isBelow_0, lX10_isBelow_8, lX10_isBelow_31, lX10_isBelow_41, lX10_isBelow_42, bX10_isBelow_0, bX10_isBelow_8, bX10_isBelow_31, bX10_isBelow_41, bX10_isBelow_42, (show qX10_isBelow.2.2.2.1 = (some .boolean) from rfl), am_rok_bool, w_aload_n, w_goto, w_icmp_eq, w_icmp_ne, w_iconst, w_if_lt, w_iload, w_iload_n, w_ireturn, w_istore, w_nop, w_swap, cI_0, cI_1, am_lk0, am_lk1, am_ld_some, am_isI_i, am_isJ_j, am_isR_r, am_st_eq, am_rmv_nil, am_rmv_t, am_rmv_i, am_rmv_r, sf_SH, sj_SH, sf_eq, sf_nk, sf_na, sf_sf, am_args_i, am_args_r, am_args_n, Nat.reduceAdd, List.cons_append, List.nil_append, Option.toList, List.drop_succ_cons, List.drop_zero, am_RP, am_CP, am_PH, Fin.isValue, Fin.val_zero, Fin.val_one, am_f2, am_f3, true_and, and_true, true_implies, false_implies, not_false_eq_true, ne_eq, nI_clampD, nI_leT, nI_leF, nI_ltT, nI_ltF, nI_eqT, nI_eqF, nI_lt0F, nI_0leT, nI_eq0T, nI_eq0F, nI_0ltT, nI_0ltF, nI_le0T, nI_le0F, nI_m1, nI_m1', m1_m1, m1_lt, m1_le, nI_mul, nI_add, nI_sub, nI_add1, nI_dec, nI_div, nI_mod, vp_inD, sf_nkD, sf_eqD, e0, nI1_01, bI_t]
    · simp (decide := true) (disch := (first | exact eq_false (by decide) | exact eq_true (by decide) | decide | omega)) only [lX10_isBelow_0, lX10_isBelow_8, lX10_isBelow_31, lX10_isBelow_41, lX10_isBelow_42, bX10_isBelow_0, bX10_isBelow_8, bX10_isBelow_31, bX10_isBelow_41, bX10_isBelow_42, (show qX10_isBelow.2.2.2.1 = (some .boolean) from rfl), am_rok_bool, w_aload_n, w_goto, w_icmp_eq, w_icmp_ne, w_iconst, w_if_lt, w_iload, w_iload_n, w_ireturn, w_istore, w_nop, w_swap, cI_0, cI_1, am_lk0, am_lk1, am_ld_some, am_isI_i, am_isJ_j, am_isR_r, am_st_eq, am_rmv_nil, am_rmv_t, am_rmv_i, am_rmv_r, sf_SH, sj_SH, sf_eq, sf_nk, sf_na, sf_sf, am_args_i, am_args_r, am_args_n, Nat.reduceAdd, List.cons_append, List.nil_append, Option.toList, List.drop_succ_cons, List.drop_zero, am_RP, am_CP, am_PH, Fin.isValue, Fin.val_zero, Fin.val_one, am_f2, am_f3, true_and, and_true, true_implies, false_implies, not_false_eq_true, ne_eq, nI_clampD, nI_leT, nI_leF, nI_ltT, nI_ltF, nI_eqT, nI_eqF, nI_lt0F, nI_0leT, nI_eq0T, nI_eq0F, nI_0ltT, nI_0ltF, nI_le0T, nI_le0F, nI_m1, nI_m1', m1_m1, m1_lt, m1_le, nI_mul, nI_add, nI_sub, nI_add1, nI_dec, nI_div, nI_mod, vp_inD, sf_nkD, sf_eqD, e0]
      refine w_virtE (c_X10_upperOf g h I J hS hG hR (x / 2) q2 hg hx2) rfl rfl rfl (of_eq_true so_60) rfl (Nat.le_refl _) (Nat.le_refl _) ?_
      simp (decide := true) (disch := (first | exact eq_false (by decide) | exact eq_true (by decide) | decide | omega)) only [lX10_isBelow_0, lX10_isBelow_8, lX10_isBelow_31, lX10_isBelow_41, lX10_isBelow_42, bX10_isBelow_0, bX10_isBelow_8, bX10_isBelow_31, bX10_isBelow_41, bX10_isBelow_42, (show qX10_isBelow.2.2.2.1 = (some .boolean) from rfl), am_rok_bool, w_aload_n, w_goto, w_icmp_eq, w_icmp_ne, w_iconst, w_if_lt, w_iload, w_iload_n, w_ireturn, w_istore, w_nop, w_swap, cI_0, cI_1, am_lk0, am_lk1, am_ld_some, am_isI_i, am_isJ_j, am_isR_r, am_st_eq, am_rmv_nil, am_rmv_t, am_rmv_i, am_rmv_r, sf_SH, sj_SH, sf_eq, sf_nk, sf_na, sf_sf, am_args_i, am_args_r, am_args_n, Nat.reduceAdd, List.cons_append, List.nil_append, Option.toList, List.drop_succ_cons, List.drop_zero, am_RP, am_CP, am_PH, Fin.isValue, Fin.val_zero, Fin.val_one, am_f2, am_f3, true_and, and_true, true_implies, false_implies, not_false_eq_true, ne_eq, nI_clampD, nI_leT, nI_leF, nI_ltT, nI_ltF, nI_eqT, nI_eqF, nI_lt0F, nI_0leT, nI_eq0T, nI_eq0F, nI_0ltT, nI_0ltF, nI_le0T, nI_le0F, nI_m1, nI_m1', m1_m1, m1_lt, m1_le, nI_mul, nI_add, nI_sub, nI_add1, nI_dec, nI_div, nI_mod, vp_inD, sf_nkD, sf_eqD]
      refine ⟨_, _, ?_, ?_, mk q2 (x / 2) hg (e2.trans ⟨fun h0 => ?_, fun h0 => List.mem_cons_of_mem _ h0⟩)⟩
      · omega
      · (simp (decide := true) only [am_has, am_lk0, am_lk1, and_self, true_and, and_true] <;> first | rfl | (refine ⟨?_, ?_⟩ <;> rfl) | (refine ⟨?_, ?_, ?_⟩ <;> rfl) | (refine ⟨?_, ?_, ?_, ?_⟩ <;> rfl))
      rw [List.map_cons] at h0
      exact (List.mem_cons.mp h0).elim (fun h9 => absurd h9.symm hxu) id
end MH1
