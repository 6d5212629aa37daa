/-! the reference's rows of steps -/
/-- the plugs behind a swap -/
def SwP (l' : List (Nat × List Nat)) (I : Nat → Nat → Int32) : Prop := ∀ f x p, (f, x :: p) ∈ l' → I 87 x = nI f
/-- a reading's plugs are those that were made, as far as looked at -/
def AGr (fs : List Fg) (r m : Nat) (I : Nat → Nat → Int32) : Prop := ∀ x, x < m → x / 2 < fs.length → x % 2 < rk (kF (nF fs (x / 2))) → I 79 (22 * r + x) = I 87 x
theorem AGr.mono {fs : List Fg} {r m m' : Nat} {I : Nat → Nat → Int32} (h : AGr fs r m' I) (hm : m ≤ m') : AGr fs r m I := fun x h1 => h x (by omega)
section MS1
variable (g : am_G) (h : Nat) (I : Nat → Nat → Int32) (J : Nat → Nat → Int64) {L : Nat → Nat} {t : Nat} {fs : List Fg} {cs : List (Nat × Nat)} {o o' : List Nat} {l l' : List (Nat × List Nat)} {i : Nat}
theorem Rdg.ord {r : Nat} (h : Rdg fs r o l I) : Ordr fs o l := ⟨h.1, h.2.1, h.2.2.1, h.2.2.2.1⟩
theorem Swp_of {q r c : Nat} {pq : List Nat} {I I' : Nat → Nat → Int32} (hR : Rdg fs i o l I) (hO' : Ordr fs o' l') (h1 : (q, pq) ∈ l) (h2 : (r, (2 * q + 1) :: pq) ∈ l) (h3 : (c, (2 * r + 1) :: (2 * q + 1) :: pq) ∈ l) (k1 : (r, pq) ∈ l') (k2 : (q, (2 * r + 1) :: pq) ∈ l') (k3 : (c, (2 * q + 1) :: (2 * r + 1) :: pq) ∈ l') (hoth : ∀ f p, (f, p) ∈ l → f ≠ q → f ≠ r → f ≠ c → ∃ p', (f, p') ∈ l' ∧ p'.head? = p.head?)
    (hI : ∀ x, x < 22 → I' 87 x = if x = 2 * r + 1 then nI q else if x = 2 * q + 1 then nI c else if pq.head? = some x then nI r else I 79 (22 * i + x)) (hn : fs.length ≤ 11) : SwP l' I' := by
  intro f x p hf
  have hO := hR.ord
  have hx := (rval_heads hO'.1 hO'.2.1).2 _ hf x rfl
  have hx22 : x < 22 := by have := hO'.2.2.2 _ hx.1; omega
  rw [hI x hx22]
  by_cases e1 : x = 2 * r + 1
  · rw [if_pos e1]
    subst e1
    rw [rval_inj hO'.1 hO'.2.1 hf k2]
  · rw [if_neg e1]
    by_cases e2 : x = 2 * q + 1
    · rw [if_pos e2]
      subst e2
      rw [rval_inj hO'.1 hO'.2.1 hf k3]
    · rw [if_neg e2]
      by_cases e3 : pq.head? = some x
      · rw [if_pos e3]
        cases pq with
        | nil => cases e3
        | cons y pq' =>
          have : y = x := Option.some.inj e3
          subst this
          rw [rval_inj hO'.1 hO'.2.1 hf k1]
      · rw [if_neg e3]
        have fq : f ≠ q := fun h9 => by
          subst h9
          have := hO'.uniq hf k2
          exact e1 (List.cons.inj this).1
        have fr : f ≠ r := fun h9 => by
          subst h9
          have := hO'.uniq hf k1
          exact e3 (by rw [← this]; rfl)
        have fc : f ≠ c := fun h9 => by
          subst h9
          have := hO'.uniq hf k3
          exact e2 (List.cons.inj this).1
        obtain ⟨p0, hp0⟩ := hO.get (hO'.mem hf)
        obtain ⟨p', q1, q2⟩ := hoth f p0 hp0 fq fr fc
        have := hO'.uniq q1 hf
        rw [this] at q2
        cases p0 with
        | nil => cases q2
        | cons y p0 =>
          have : x = y := Option.some.inj q2
          subst this
          exact hR.2.2.2.2.1.2 l hO.1 f x p0 hp0
set_option maxRecDepth 100000 in
set_option maxHeartbeats 8000000 in
theorem c_X10_swaps (hS : SMd L t fs I) (hG : Good L t fs) (hR : Rdg fs i o l I) (q r c : Nat) (pq : List Nat) (hq : EVk fs q) (hr : EVk fs r) (h1 : (q, pq) ∈ l) (h2 : (r, (2 * q + 1) :: pq) ∈ l) (h3 : (c, (2 * r + 1) :: (2 * q + 1) :: pq) ∈ l) :
    am_Ctr g am_mt 1 (h + 3) 188 [.ref 60, .int (nI i), .int (nI q), .int (nI r)] (am_SH, I, J) 0 0 (fun r' M => r' = none ∧ ∃ I', M = (am_SH, I', J) ∧ (∀ c, c ≠ 87 → I' c = I c) ∧ ∀ x, x < 22 → I' 87 x = if x = 2 * r + 1 then nI q else if x = 2 * q + 1 then nI c else if pq.head? = some x then nI r else I 79 (22 * i + x)) := by
  have hn := hG.le
  have hO := hR.ord
  have hqn := hO.mem h1
  have hrn := hO.mem h2
  have hi := hR.2.2.2.2.2
  have hpl : I 79 (22 * i + (2 * r + 1)) = nI c := hR.2.2.2.2.1.2 l hO.1 c _ _ h3
  rw [← Nat.add_assoc] at hpl
  obtain ⟨JJ, hJJ⟩ : ∃ JJ : Nat → am_Cut, JJ = (fun zu zpc zl zst zM zk zn => (∃ (k : Nat) (I1 : Nat → Nat → Int32), zu = 22 - k ∧ (k ≤ 22) ∧ (∀ c, c ≠ 87 → I1 c = I c) ∧ (∀ j, j < k → I1 87 j = I 79 (22 * i + j)) ∧ zpc = 3 ∧ zl = [(0, .ref 60), (1, .int (nI i)), (2, .int (nI q)), (3, .int (nI r)), (4, .int (nI k))] ∧ zst = [] ∧ zM = (am_SH, I1, J) ∧ zk = 0 ∧ zn = 0)) := ⟨_, rfl⟩
  have mk : ∀ (k : Nat) (I1 : Nat → Nat → Int32), (k ≤ 22) → (∀ c, c ≠ 87 → I1 c = I c) → (∀ j, j < k → I1 87 j = I 79 (22 * i + j)) → JJ (22 - k) 3 [(0, .ref 60), (1, .int (nI i)), (2, .int (nI q)), (3, .int (nI r)), (4, .int (nI k))] [] (am_SH, I1, J) 0 0 := by
    intro k I1 a0 a1 a2
    rw [hJJ]
    exact ⟨k, I1, rfl, a0, a1, a2, rfl, rfl, rfl, rfl, rfl, rfl⟩
  refine am_rule2 (q := qX10_swaps) (B := am_blk bX10_swaps) rfl rfl kX10_swaps nX10_swaps (Nat.le_of_ble_eq_true rfl) JJ (fun zu zpc zl zst zM zk zn hj => ?_) ?_
  rotate_left
  · refine ⟨60, ?_⟩
    simp (decide := true) (disch := (first | exact eq_false (by decide) | exact eq_true (by decide) | decide | omega)) only [lX10_swaps_0, lX10_swaps_3, lX10_swaps_35, lX10_swaps_56, bX10_swaps_0, bX10_swaps_3, bX10_swaps_35, bX10_swaps_56, (show qX10_swaps.2.2.2.1 = none from rfl), am_rok_none, w_aload_n, w_bipush, w_getfield, w_goto, w_iadd, w_iaload, w_iastore, w_icmp_ge, w_iconst, w_if_lt, w_iinc, w_iload, w_iload_n, w_imul, w_istore, w_nop, w_return, w_swap, sa_79, sa_87, sg_60_31, sg_60_42, cB_22, cI_0, cI_1, cI_2, am_lk0, am_lk1, am_ld_some, am_isI_i, am_isJ_j, am_isR_r, am_st_eq, am_rmv_nil, am_rmv_t, am_rmv_i, am_rmv_r, sf_SH, sj_SH, sf_eq, sf_nk, sf_na, sf_sf, am_args_i, am_args_r, am_args_n, Nat.reduceAdd, List.cons_append, List.nil_append, Option.toList, List.drop_succ_cons, List.drop_zero, am_RP, am_CP, am_PH, Fin.isValue, Fin.val_zero, Fin.val_one, am_f2, am_f3, true_and, and_true, true_implies, false_implies, not_false_eq_true, ne_eq, nI_clampD, nI_leT, nI_leF, nI_ltT, nI_ltF, nI_eqT, nI_eqF, nI_lt0F, nI_0leT, nI_eq0T, nI_eq0F, nI_0ltT, nI_0ltF, nI_le0T, nI_le0F, nI_m1, nI_m1', m1_m1, m1_lt, m1_le, nI_mul, nI_add, nI_sub, nI_add1, nI_dec, nI_div, nI_mod, vp_inD, sf_nkD, sf_eqD]
    refine ⟨_, _, ?_, mk 0 I (by omega) (fun _ _ => rfl) (fun j hj => absurd hj (Nat.not_lt_zero _))⟩
    · (simp (decide := true) only [am_has, am_lk0, am_lk1, and_self, true_and, and_true] <;> first | rfl | (refine ⟨?_, ?_⟩ <;> rfl) | (refine ⟨?_, ?_, ?_⟩ <;> rfl) | (refine ⟨?_, ?_, ?_, ?_⟩ <;> rfl))
  rw [hJJ] at hj
  clear hJJ
  obtain ⟨k, I1, rfl, e1, e2, e3, rfl, rfl, rfl, rfl, rfl, rfl⟩ := hj
  refine ⟨_, 90, rfl, rfl, ?_⟩
  have k79 : I1 79 = I 79 := e2 79 (by decide)
  by_cases hk : k = 22
  · subst hk
    have hS1 : SMd L t fs I1 := hS.fr (by rw [e2 60 (by decide)]) (by rw [e2 60 (by decide)]) (fun c _ _ => e2 c (by omega))
    have hR1 : Rdg fs i o l I1 := hR.fr (e2 78 (by decide)) k79
    simp (decide := true) (disch := (first | exact eq_false (by decide) | exact eq_true (by decide) | decide | omega)) only [lX10_swaps_0, lX10_swaps_3, lX10_swaps_35, lX10_swaps_56, bX10_swaps_0, bX10_swaps_3, bX10_swaps_35, bX10_swaps_56, (show qX10_swaps.2.2.2.1 = none from rfl), am_rok_none, w_aload_n, w_bipush, w_getfield, w_goto, w_iadd, w_iaload, w_iastore, w_icmp_ge, w_iconst, w_if_lt, w_iinc, w_iload, w_iload_n, w_imul, w_istore, w_nop, w_return, w_swap, sa_79, sa_87, sg_60_31, sg_60_42, cB_22, cI_0, cI_1, cI_2, am_lk0, am_lk1, am_ld_some, am_isI_i, am_isJ_j, am_isR_r, am_st_eq, am_rmv_nil, am_rmv_t, am_rmv_i, am_rmv_r, sf_SH, sj_SH, sf_eq, sf_nk, sf_na, sf_sf, am_args_i, am_args_r, am_args_n, Nat.reduceAdd, List.cons_append, List.nil_append, Option.toList, List.drop_succ_cons, List.drop_zero, am_RP, am_CP, am_PH, Fin.isValue, Fin.val_zero, Fin.val_one, am_f2, am_f3, true_and, and_true, true_implies, false_implies, not_false_eq_true, ne_eq, nI_clampD, nI_leT, nI_leF, nI_ltT, nI_ltF, nI_eqT, nI_eqF, nI_lt0F, nI_0leT, nI_eq0T, nI_eq0F, nI_0ltT, nI_0ltF, nI_le0T, nI_le0F, nI_m1, nI_m1', m1_m1, m1_lt, m1_le, nI_mul, nI_add, nI_sub, nI_add1, nI_dec, nI_div, nI_mod, vp_inD, sf_nkD, sf_eqD]
    refine w_virtE (c_X10_holeIn g h I1 J hS1 hG hR1 q pq h1 hqn) rfl rfl rfl (of_eq_true so_60) rfl (Nat.le_refl _) (Nat.le_refl _) ?_
    have p1 : I1 79 (22 * i + 2 * r + 1) = nI c := by rw [k79]; exact hpl
    cases hpq : pq with
    | nil =>
      have e0 : (wI (hdc ([] : List Nat)) < 0) = True := by decide
      simp (decide := true) (disch := (first | exact eq_false (by decide) | exact eq_true (by decide) | decide | omega)) only [lX10_swaps_0, lX10_swaps_3, lX10_swaps_35, lX10_swaps_56, bX10_swaps_0, bX10_swaps_3, bX10_swaps_35, bX10_swaps_56, (show qX10_swaps.2.2.2.1 = none from rfl), am_rok_none, w_aload_n, w_bipush, w_getfield, w_goto, w_iadd, w_iaload, w_iastore, w_icmp_ge, w_iconst, w_if_lt, w_iinc, w_iload, w_iload_n, w_imul, w_istore, w_nop, w_return, w_swap, sa_79, sa_87, sg_60_31, sg_60_42, cB_22, cI_0, cI_1, cI_2, am_lk0, am_lk1, am_ld_some, am_isI_i, am_isJ_j, am_isR_r, am_st_eq, am_rmv_nil, am_rmv_t, am_rmv_i, am_rmv_r, sf_SH, sj_SH, sf_eq, sf_nk, sf_na, sf_sf, am_args_i, am_args_r, am_args_n, Nat.reduceAdd, List.cons_append, List.nil_append, Option.toList, List.drop_succ_cons, List.drop_zero, am_RP, am_CP, am_PH, Fin.isValue, Fin.val_zero, Fin.val_one, am_f2, am_f3, true_and, and_true, true_implies, false_implies, not_false_eq_true, ne_eq, nI_clampD, nI_leT, nI_leF, nI_ltT, nI_ltF, nI_eqT, nI_eqF, nI_lt0F, nI_0leT, nI_eq0T, nI_eq0F, nI_0ltT, nI_0ltF, nI_le0T, nI_le0F, nI_m1, nI_m1', m1_m1, m1_lt, m1_le, nI_mul, nI_add, nI_sub, nI_add1, nI_dec, nI_div, nI_mod, vp_inD, sf_nkD, sf_eqD, e0, p1]
      refine ⟨_, rfl, fun c hc => by rw [sf_naD hc, sf_naD hc]; exact e2 c hc, fun x hx => ?_⟩
      rw [sf_if, sf_if, if_neg (show ¬ ([] : List Nat).head? = some x from fun h9 => by cases h9), e3 x hx]
    | cons y pq' =>
      have hy := hR.lt hn (hpq ▸ h1) List.mem_cons_self
      have e0 : wI (hdc (y :: pq')) = nI y := rfl
      simp (decide := true) (disch := (first | exact eq_false (by decide) | exact eq_true (by decide) | decide | omega)) only [lX10_swaps_0, lX10_swaps_3, lX10_swaps_35, lX10_swaps_56, bX10_swaps_0, bX10_swaps_3, bX10_swaps_35, bX10_swaps_56, (show qX10_swaps.2.2.2.1 = none from rfl), am_rok_none, w_aload_n, w_bipush, w_getfield, w_goto, w_iadd, w_iaload, w_iastore, w_icmp_ge, w_iconst, w_if_lt, w_iinc, w_iload, w_iload_n, w_imul, w_istore, w_nop, w_return, w_swap, sa_79, sa_87, sg_60_31, sg_60_42, cB_22, cI_0, cI_1, cI_2, am_lk0, am_lk1, am_ld_some, am_isI_i, am_isJ_j, am_isR_r, am_st_eq, am_rmv_nil, am_rmv_t, am_rmv_i, am_rmv_r, sf_SH, sj_SH, sf_eq, sf_nk, sf_na, sf_sf, am_args_i, am_args_r, am_args_n, Nat.reduceAdd, List.cons_append, List.nil_append, Option.toList, List.drop_succ_cons, List.drop_zero, am_RP, am_CP, am_PH, Fin.isValue, Fin.val_zero, Fin.val_one, am_f2, am_f3, true_and, and_true, true_implies, false_implies, not_false_eq_true, ne_eq, nI_clampD, nI_leT, nI_leF, nI_ltT, nI_ltF, nI_eqT, nI_eqF, nI_lt0F, nI_0leT, nI_eq0T, nI_eq0F, nI_0ltT, nI_0ltF, nI_le0T, nI_le0F, nI_m1, nI_m1', m1_m1, m1_lt, m1_le, nI_mul, nI_add, nI_sub, nI_add1, nI_dec, nI_div, nI_mod, vp_inD, sf_nkD, sf_eqD, e0]
      have p2 : ∀ v, sf I1 87 y v 79 (22 * i + 2 * r + 1) = nI c := fun v => by rw [sf_naD (by decide)]; exact p1
      simp (decide := true) (disch := (first | exact eq_false (by decide) | exact eq_true (by decide) | decide | omega)) only [lX10_swaps_0, lX10_swaps_3, lX10_swaps_35, lX10_swaps_56, bX10_swaps_0, bX10_swaps_3, bX10_swaps_35, bX10_swaps_56, (show qX10_swaps.2.2.2.1 = none from rfl), am_rok_none, w_aload_n, w_bipush, w_getfield, w_goto, w_iadd, w_iaload, w_iastore, w_icmp_ge, w_iconst, w_if_lt, w_iinc, w_iload, w_iload_n, w_imul, w_istore, w_nop, w_return, w_swap, sa_79, sa_87, sg_60_31, sg_60_42, cB_22, cI_0, cI_1, cI_2, am_lk0, am_lk1, am_ld_some, am_isI_i, am_isJ_j, am_isR_r, am_st_eq, am_rmv_nil, am_rmv_t, am_rmv_i, am_rmv_r, sf_SH, sj_SH, sf_eq, sf_nk, sf_na, sf_sf, am_args_i, am_args_r, am_args_n, Nat.reduceAdd, List.cons_append, List.nil_append, Option.toList, List.drop_succ_cons, List.drop_zero, am_RP, am_CP, am_PH, Fin.isValue, Fin.val_zero, Fin.val_one, am_f2, am_f3, true_and, and_true, true_implies, false_implies, not_false_eq_true, ne_eq, nI_clampD, nI_leT, nI_leF, nI_ltT, nI_ltF, nI_eqT, nI_eqF, nI_lt0F, nI_0leT, nI_eq0T, nI_eq0F, nI_0ltT, nI_0ltF, nI_le0T, nI_le0F, nI_m1, nI_m1', m1_m1, m1_lt, m1_le, nI_mul, nI_add, nI_sub, nI_add1, nI_dec, nI_div, nI_mod, vp_inD, sf_nkD, sf_eqD, p1, p2]
      refine ⟨_, rfl, fun c hc => by rw [sf_naD hc, sf_naD hc, sf_naD hc]; exact e2 c hc, fun x hx => ?_⟩
      rw [sf_if, sf_if, sf_if, e3 x hx]
      by_cases hxy : x = y
      · rw [if_pos hxy, if_pos (show (y :: pq').head? = some x by rw [hxy]; rfl)]
      · rw [if_neg hxy, if_neg (show ¬ (y :: pq').head? = some x from fun h9 => hxy (Option.some.inj h9).symm)]
  · simp (decide := true) (disch := (first | exact eq_false (by decide) | exact eq_true (by decide) | decide | omega)) only [lX10_swaps_0, lX10_swaps_3, lX10_swaps_35, lX10_swaps_56, bX10_swaps_0, bX10_swaps_3, bX10_swaps_35, bX10_swaps_56, (show qX10_swaps.2.2.2.1 = none from rfl), am_rok_none, w_aload_n, w_bipush, w_getfield, w_goto, w_iadd, w_iaload, w_iastore, w_icmp_ge, w_iconst, w_if_lt, w_iinc, w_iload, w_iload_n, w_imul, w_istore, w_nop, w_return, w_swap, sa_79, sa_87, sg_60_31, sg_60_42, cB_22, cI_0, cI_1, cI_2, am_lk0, am_lk1, am_ld_some, am_isI_i, am_isJ_j, am_isR_r, am_st_eq, am_rmv_nil, am_rmv_t, am_rmv_i, am_rmv_r, sf_SH, sj_SH, sf_eq, sf_nk, sf_na, sf_sf, am_args_i, am_args_r, am_args_n, Nat.reduceAdd, List.cons_append, List.nil_append, Option.toList, List.drop_succ_cons, List.drop_zero, am_RP, am_CP, am_PH, Fin.isValue, Fin.val_zero, Fin.val_one, am_f2, am_f3, true_and, and_true, true_implies, false_implies, not_false_eq_true, ne_eq, nI_clampD, nI_leT, nI_leF, nI_ltT, nI_ltF, nI_eqT, nI_eqF, nI_lt0F, nI_0leT, nI_eq0T, nI_eq0F, nI_0ltT, nI_0ltF, nI_le0T, nI_le0F, nI_m1, nI_m1', m1_m1, m1_lt, m1_le, nI_mul, nI_add, nI_sub, nI_add1, nI_dec, nI_div, nI_mod, vp_inD, sf_nkD, sf_eqD, k79]
    refine ⟨_, _, ?_, ?_, mk (k + 1) _ (by omega) (fun c hc => by rw [sf_naD hc]; exact e2 c hc) (fun j hj => ?_)⟩
    · omega
    · (simp (decide := true) only [am_has, am_lk0, am_lk1, and_self, true_and, and_true] <;> first | rfl | (refine ⟨?_, ?_⟩ <;> rfl) | (refine ⟨?_, ?_, ?_⟩ <;> rfl) | (refine ⟨?_, ?_, ?_, ?_⟩ <;> rfl))
    by_cases hjk : j = k
    · rw [sf_eqD hjk, hjk]
    · rw [sf_nkD hjk]; exact e3 j (by omega)
set_option maxRecDepth 100000 in
set_option maxHeartbeats 8000000 in
theorem c_X10_findsSwapped (hS : SMd L t fs I) (hG : Good L t fs) (hR : RSo fs (RLs fs cs) I) (hO' : Ordr fs o' l') (hP : SwP l' I) :
    am_Ctr g am_mt 1 (h + 2) 187 [.ref 60] (am_SH, I, J) 0 0 (fun r' M => ∃ w, r' = some (.int (wI w)) ∧ ((w = 0 ∧ ∀ j, j < (RLs fs cs).length → (RLs fs cs).getD j [] ≠ o') ∨ (0 < w ∧ w - 1 < (RLs fs cs).length ∧ (RLs fs cs).getD (w - 1) [] = o')) ∧ M = (am_SH, I, J)) := by
  have hn := hG.le
  have h16 : I 60 16 = nI fs.length := hS.1
  have h29 := hR.1
  have h720 := RLs_le (cs := cs) hG
  have hcnt := hG.cnt
  have hOr : ∀ k, k < (RLs fs cs).length → ∃ l, Ordr fs ((RLs fs cs).getD k []) l ∧ ∀ f x p, (f, x :: p) ∈ l → I 79 (22 * k + x) = nI f := fun k hk => by
    obtain ⟨lk, hk1⟩ := RLs_ord (cs := cs) hk
    exact ⟨lk, hk1, fun f x p => (hR.2 k hk).2 lk hk1.1 f x p⟩
  have hfull : ∀ k, k < (RLs fs cs).length → (AGr fs k (2 * fs.length) I ↔ (RLs fs cs).getD k [] = o') := fun k hk => by
    obtain ⟨lk, hk1, hk2⟩ := hOr k hk
    constructor
    · intro h9
      refine rdet hcnt hk1.1 hO'.1 hk1.2.1 hO'.2.1 hk1.2.2.1 hO'.2.2.1 hk1.2.2.2 hO'.2.2.2 (fun x f1 f2 p1 p2 q1 q2 => ?_)
      have hx := (rval_heads hk1.1 hk1.2.1).2 _ q1 x rfl
      have hx1 := hk1.2.2.2 _ hx.1
      have h8 := h9 x (by omega) hx1 hx.2
      rw [hk2 f1 x p1 q1, hP f2 x p2 q2] at h8
      have m1 := hk1.mem q1
      have m2 := hO'.mem q2
      exact (nI_eq (by omega) (by omega)).mp h8
    · intro h9 x hx hx1 hx2
      rw [h9] at hk1
      have hll : lk = l' := Option.some.inj (hk1.1.symm.trans hO'.1)
      subst hll
      obtain ⟨f, p, q1, -⟩ := hO'.hole hcnt hx1 hx2
      rw [hk2 f x p q1, hP f x p q1]
  obtain ⟨JJ, hJJ⟩ : ∃ JJ : Nat → am_Cut, JJ = (fun zu zpc zl zst zM zk zn => (∃ (k : Nat), zu = 1000 * ((RLs fs cs).length - k) ∧ (k ≤ (RLs fs cs).length) ∧ (∀ j, j < k → (RLs fs cs).getD j [] ≠ o') ∧ zpc = 2 ∧ zl = [(0, .ref 60), (1, .int (nI k))] ∧ zst = [] ∧ zM = (am_SH, I, J) ∧ zk = 0 ∧ zn = 0) ∨ (∃ (k f : Nat) (b : Bool), zu = 1000 * ((RLs fs cs).length - k - 1) + 1 + 10 * (fs.length - f) ∧ (k < (RLs fs cs).length ∧ f ≤ fs.length) ∧ (∀ j, j < k → (RLs fs cs).getD j [] ≠ o') ∧ (b = true ↔ AGr fs k (2 * f) I) ∧ zpc = 14 ∧ zl = [(0, .ref 60), (1, .int (nI k)), (2, .int (bI b)), (3, .int (nI f))] ∧ zst = [] ∧ zM = (am_SH, I, J) ∧ zk = 0 ∧ zn = 0) ∨ (∃ (k f x : Nat) (b : Bool), zu = 1000 * ((RLs fs cs).length - k - 1) + 1 + 10 * (fs.length - f - 1) + 1 + (2 - x) ∧ (k < (RLs fs cs).length ∧ f < fs.length ∧ x ≤ rk (kF (nF fs f))) ∧ (∀ j, j < k → (RLs fs cs).getD j [] ≠ o') ∧ (b = true ↔ AGr fs k (2 * f + x) I) ∧ zpc = 29 ∧ zl = [(0, .ref 60), (1, .int (nI k)), (2, .int (bI b)), (3, .int (nI f)), (4, .int (nI x))] ∧ zst = [] ∧ zM = (am_SH, I, J) ∧ zk = 0 ∧ zn = 0)) := ⟨_, rfl⟩
  have mk1 : ∀ (k : Nat), (k ≤ (RLs fs cs).length) → (∀ j, j < k → (RLs fs cs).getD j [] ≠ o') → JJ (1000 * ((RLs fs cs).length - k)) 2 [(0, .ref 60), (1, .int (nI k))] [] (am_SH, I, J) 0 0 := by
    intro k a0 a1
    rw [hJJ]
    exact Or.inl ⟨k, rfl, a0, a1, rfl, rfl, rfl, rfl, rfl, rfl⟩
  have mk2 : ∀ (k f : Nat) (b : Bool), (k < (RLs fs cs).length ∧ f ≤ fs.length) → (∀ j, j < k → (RLs fs cs).getD j [] ≠ o') → (b = true ↔ AGr fs k (2 * f) I) → JJ (1000 * ((RLs fs cs).length - k - 1) + 1 + 10 * (fs.length - f)) 14 [(0, .ref 60), (1, .int (nI k)), (2, .int (bI b)), (3, .int (nI f))] [] (am_SH, I, J) 0 0 := by
    intro k f b a0 a1 a2
    rw [hJJ]
    exact Or.inr (Or.inl ⟨k, f, b, rfl, a0, a1, a2, rfl, rfl, rfl, rfl, rfl, rfl⟩)
  have mk3 : ∀ (k f x : Nat) (b : Bool), (k < (RLs fs cs).length ∧ f < fs.length ∧ x ≤ rk (kF (nF fs f))) → (∀ j, j < k → (RLs fs cs).getD j [] ≠ o') → (b = true ↔ AGr fs k (2 * f + x) I) → JJ (1000 * ((RLs fs cs).length - k - 1) + 1 + 10 * (fs.length - f - 1) + 1 + (2 - x)) 29 [(0, .ref 60), (1, .int (nI k)), (2, .int (bI b)), (3, .int (nI f)), (4, .int (nI x))] [] (am_SH, I, J) 0 0 := by
    intro k f x b a0 a1 a2
    rw [hJJ]
    exact Or.inr (Or.inr (⟨k, f, x, b, rfl, a0, a1, a2, rfl, rfl, rfl, rfl, rfl, rfl⟩))
  refine am_rule2 (q := qX10_findsSwapped) (B := am_blk bX10_findsSwapped) rfl rfl kX10_findsSwapped nX10_findsSwapped (Nat.le_of_ble_eq_true rfl) JJ (fun zu zpc zl zst zM zk zn hj => ?_) ?_
  rotate_left
  · refine ⟨60, ?_⟩
    simp (decide := true) (disch := (first | exact eq_false (by decide) | exact eq_true (by decide) | decide | omega)) only [lX10_findsSwapped_0, lX10_findsSwapped_2, lX10_findsSwapped_14, lX10_findsSwapped_29, lX10_findsSwapped_77, lX10_findsSwapped_78, lX10_findsSwapped_85, lX10_findsSwapped_91, lX10_findsSwapped_97, lX10_findsSwapped_103, bX10_findsSwapped_0, bX10_findsSwapped_2, bX10_findsSwapped_14, bX10_findsSwapped_29, bX10_findsSwapped_77, bX10_findsSwapped_78, bX10_findsSwapped_85, bX10_findsSwapped_91, bX10_findsSwapped_97, bX10_findsSwapped_103, (show qX10_findsSwapped.2.2.2.1 = (some .int) from rfl), am_rok_int, w_aload_n, w_bipush, w_getfield, w_goto, w_iadd, w_iaload, w_icmp_ge, w_icmp_ne, w_iconst, w_if_eq, w_iinc, w_iload, w_iload_n, w_imul, w_ireturn, w_istore, w_istore_n, w_nop, w_swap, sa_79, sa_87, sg_60_16, sg_60_29, sg_60_31, sg_60_42, cB_22, cI_0, cI_1, cI_2, cI_m1, am_lk0, am_lk1, am_ld_some, am_isI_i, am_isJ_j, am_isR_r, am_st_eq, am_rmv_nil, am_rmv_t, am_rmv_i, am_rmv_r, sf_SH, sj_SH, sf_eq, sf_nk, sf_na, sf_sf, am_args_i, am_args_r, am_args_n, Nat.reduceAdd, List.cons_append, List.nil_append, Option.toList, List.drop_succ_cons, List.drop_zero, am_RP, am_CP, am_PH, Fin.isValue, Fin.val_zero, Fin.val_one, am_f2, am_f3, true_and, and_true, true_implies, false_implies, not_false_eq_true, ne_eq, nI_clampD, nI_leT, nI_leF, nI_ltT, nI_ltF, nI_eqT, nI_eqF, nI_lt0F, nI_0leT, nI_eq0T, nI_eq0F, nI_0ltT, nI_0ltF, nI_le0T, nI_le0F, nI_m1, nI_m1', m1_m1, m1_lt, m1_le, nI_mul, nI_add, nI_sub, nI_add1, nI_dec, nI_div, nI_mod, vp_inD, sf_nkD, sf_eqD]
    refine ⟨_, _, ?_, mk1 0 (by omega) (fun j hj => absurd hj (Nat.not_lt_zero _))⟩
    · (simp (decide := true) only [am_has, am_lk0, am_lk1, and_self, true_and, and_true] <;> first | rfl | (refine ⟨?_, ?_⟩ <;> rfl) | (refine ⟨?_, ?_, ?_⟩ <;> rfl) | (refine ⟨?_, ?_, ?_, ?_⟩ <;> rfl))
  rw [hJJ] at hj
  clear hJJ
  rcases hj with ⟨k, rfl, e1, e2, rfl, rfl, rfl, rfl, rfl, rfl⟩ | ⟨k, f, b, rfl, e1, e2, e3, rfl, rfl, rfl, rfl, rfl, rfl⟩ | ⟨k, f, x, b, rfl, e1, e2, e3, rfl, rfl, rfl, rfl, rfl, rfl⟩
  · refine ⟨_, 60, rfl, rfl, ?_⟩
    by_cases hk : k = (RLs fs cs).length
    · subst hk
      simp (decide := true) (disch := (first | exact eq_false (by decide) | exact eq_true (by decide) | decide | omega)) only [lX10_findsSwapped_0, lX10_findsSwapped_2, lX10_findsSwapped_14, lX10_findsSwapped_29, lX10_findsSwapped_77, lX10_findsSwapped_78, lX10_findsSwapped_85, lX10_findsSwapped_91, lX10_findsSwapped_97, lX10_findsSwapped_103, bX10_findsSwapped_0, bX10_findsSwapped_2, bX10_findsSwapped_14, bX10_findsSwapped_29, bX10_findsSwapped_77, bX10_findsSwapped_78, bX10_findsSwapped_85, bX10_findsSwapped_91, bX10_findsSwapped_97, bX10_findsSwapped_103, (show qX10_findsSwapped.2.2.2.1 = (some .int) from rfl), am_rok_int, w_aload_n, w_bipush, w_getfield, w_goto, w_iadd, w_iaload, w_icmp_ge, w_icmp_ne, w_iconst, w_if_eq, w_iinc, w_iload, w_iload_n, w_imul, w_ireturn, w_istore, w_istore_n, w_nop, w_swap, sa_79, sa_87, sg_60_16, sg_60_29, sg_60_31, sg_60_42, cB_22, cI_0, cI_1, cI_2, cI_m1, am_lk0, am_lk1, am_ld_some, am_isI_i, am_isJ_j, am_isR_r, am_st_eq, am_rmv_nil, am_rmv_t, am_rmv_i, am_rmv_r, sf_SH, sj_SH, sf_eq, sf_nk, sf_na, sf_sf, am_args_i, am_args_r, am_args_n, Nat.reduceAdd, List.cons_append, List.nil_append, Option.toList, List.drop_succ_cons, List.drop_zero, am_RP, am_CP, am_PH, Fin.isValue, Fin.val_zero, Fin.val_one, am_f2, am_f3, true_and, and_true, true_implies, false_implies, not_false_eq_true, ne_eq, nI_clampD, nI_leT, nI_leF, nI_ltT, nI_ltF, nI_eqT, nI_eqF, nI_lt0F, nI_0leT, nI_eq0T, nI_eq0F, nI_0ltT, nI_0ltF, nI_le0T, nI_le0F, nI_m1, nI_m1', m1_m1, m1_lt, m1_le, nI_mul, nI_add, nI_sub, nI_add1, nI_dec, nI_div, nI_mod, vp_inD, sf_nkD, sf_eqD, h29]
      exact ⟨0, rfl, Or.inl ⟨rfl, e2⟩⟩
    · simp (decide := true) (disch := (first | exact eq_false (by decide) | exact eq_true (by decide) | decide | omega)) only [lX10_findsSwapped_0, lX10_findsSwapped_2, lX10_findsSwapped_14, lX10_findsSwapped_29, lX10_findsSwapped_77, lX10_findsSwapped_78, lX10_findsSwapped_85, lX10_findsSwapped_91, lX10_findsSwapped_97, lX10_findsSwapped_103, bX10_findsSwapped_0, bX10_findsSwapped_2, bX10_findsSwapped_14, bX10_findsSwapped_29, bX10_findsSwapped_77, bX10_findsSwapped_78, bX10_findsSwapped_85, bX10_findsSwapped_91, bX10_findsSwapped_97, bX10_findsSwapped_103, (show qX10_findsSwapped.2.2.2.1 = (some .int) from rfl), am_rok_int, w_aload_n, w_bipush, w_getfield, w_goto, w_iadd, w_iaload, w_icmp_ge, w_icmp_ne, w_iconst, w_if_eq, w_iinc, w_iload, w_iload_n, w_imul, w_ireturn, w_istore, w_istore_n, w_nop, w_swap, sa_79, sa_87, sg_60_16, sg_60_29, sg_60_31, sg_60_42, cB_22, cI_0, cI_1, cI_2, cI_m1, am_lk0, am_lk1, am_ld_some, am_isI_i, am_isJ_j, am_isR_r, am_st_eq, am_rmv_nil, am_rmv_t, am_rmv_i, am_rmv_r, sf_SH, sj_SH, sf_eq, sf_nk, sf_na, sf_sf, am_args_i, am_args_r, am_args_n, Nat.reduceAdd, List.cons_append, List.nil_append, Option.toList, List.drop_succ_cons, List.drop_zero, am_RP, am_CP, am_PH, Fin.isValue, Fin.val_zero, Fin.val_one, am_f2, am_f3, true_and, and_true, true_implies, false_implies, not_false_eq_true, ne_eq, nI_clampD, nI_leT, nI_leF, nI_ltT, nI_ltF, nI_eqT, nI_eqF, nI_lt0F, nI_0leT, nI_eq0T, nI_eq0F, nI_0ltT, nI_0ltF, nI_le0T, nI_le0F, nI_m1, nI_m1', m1_m1, m1_lt, m1_le, nI_mul, nI_add, nI_sub, nI_add1, nI_dec, nI_div, nI_mod, vp_inD, sf_nkD, sf_eqD, h29]
      refine ⟨_, _, ?_, ?_, mk2 k 0 true ⟨by omega, by omega⟩ e2 ⟨fun _ x hx => absurd hx (Nat.not_lt_zero _), fun _ => rfl⟩⟩
      · omega
      · (simp (decide := true) only [am_has, am_lk0, am_lk1, and_self, true_and, and_true] <;> first | rfl | (refine ⟨?_, ?_⟩ <;> rfl) | (refine ⟨?_, ?_, ?_⟩ <;> rfl) | (refine ⟨?_, ?_, ?_, ?_⟩ <;> rfl))
  · refine ⟨_, 60, rfl, rfl, ?_⟩
    obtain ⟨e1, e4⟩ := e1
    have hend : b = false → (∀ j, j < k + 1 → (RLs fs cs).getD j [] ≠ o') := fun hb j hj h9 => by
      by_cases hjk : j = k
      · subst hjk
        have h8 := (hfull j e1).mpr h9
        have h7 := e3.mpr (h8.mono (by omega))
        rw [hb] at h7
        cases h7
      · exact e2 j (by omega) h9
    cases b with
    | false =>
      by_cases hf : f = fs.length
      · simp (decide := true) (disch := (first | exact eq_false (by decide) | exact eq_true (by decide) | decide | omega)) only [lX10_findsSwapped_0, lX10_findsSwapped_2, lX10_findsSwapped_14, lX10_findsSwapped_29, lX10_findsSwapped_77, lX10_findsSwapped_78, lX10_findsSwapped_85, lX10_findsSwapped_91, lX10_findsSwapped_97, lX10_findsSwapped_103, bX10_findsSwapped_0, bX10_findsSwapped_2, bX10_findsSwapped_14, bX10_findsSwapped_29, bX10_findsSwapped_77, bX10_findsSwapped_78, bX10_findsSwapped_85, bX10_findsSwapped_91, bX10_findsSwapped_97, bX10_findsSwapped_103, (show qX10_findsSwapped.2.2.2.1 = (some .int) from rfl), am_rok_int, w_aload_n, w_bipush, w_getfield, w_goto, w_iadd, w_iaload, w_icmp_ge, w_icmp_ne, w_iconst, w_if_eq, w_iinc, w_iload, w_iload_n, w_imul, w_ireturn, w_istore, w_istore_n, w_nop, w_swap, sa_79, sa_87, sg_60_16, sg_60_29, sg_60_31, sg_60_42, cB_22, cI_0, cI_1, cI_2, cI_m1, am_lk0, am_lk1, am_ld_some, am_isI_i, am_isJ_j, am_isR_r, am_st_eq, am_rmv_nil, am_rmv_t, am_rmv_i, am_rmv_r, sf_SH, sj_SH, sf_eq, sf_nk, sf_na, sf_sf, am_args_i, am_args_r, am_args_n, Nat.reduceAdd, List.cons_append, List.nil_append, Option.toList, List.drop_succ_cons, List.drop_zero, am_RP, am_CP, am_PH, Fin.isValue, Fin.val_zero, Fin.val_one, am_f2, am_f3, true_and, and_true, true_implies, false_implies, not_false_eq_true, ne_eq, nI_clampD, nI_leT, nI_leF, nI_ltT, nI_ltF, nI_eqT, nI_eqF, nI_lt0F, nI_0leT, nI_eq0T, nI_eq0F, nI_0ltT, nI_0ltF, nI_le0T, nI_le0F, nI_m1, nI_m1', m1_m1, m1_lt, m1_le, nI_mul, nI_add, nI_sub, nI_add1, nI_dec, nI_div, nI_mod, vp_inD, sf_nkD, sf_eqD, h16, bI_f]
        refine ⟨_, _, ?_, ?_, mk1 (k + 1) (by omega) (hend rfl)⟩
        · omega
        · (simp (decide := true) only [am_has, am_lk0, am_lk1, and_self, true_and, and_true] <;> first | rfl | (refine ⟨?_, ?_⟩ <;> rfl) | (refine ⟨?_, ?_, ?_⟩ <;> rfl) | (refine ⟨?_, ?_, ?_, ?_⟩ <;> rfl))
      · simp (decide := true) (disch := (first | exact eq_false (by decide) | exact eq_true (by decide) | decide | omega)) only [lX10_findsSwapped_0, lX10_findsSwapped_2, lX10_findsSwapped_14, lX10_findsSwapped_29, lX10_findsSwapped_77, lX10_findsSwapped_78, lX10_findsSwapped_85, lX10_findsSwapped_91, lX10_findsSwapped_97, lX10_findsSwapped_103, bX10_findsSwapped_0, bX10_findsSwapped_2, bX10_findsSwapped_14, bX10_findsSwapped_29, bX10_findsSwapped_77, bX10_findsSwapped_78, bX10_findsSwapped_85, bX10_findsSwapped_91, bX10_findsSwapped_97, bX10_findsSwapped_103, (show qX10_findsSwapped.2.2.2.1 = (some .int) from rfl), am_rok_int, w_aload_n, w_bipush, w_getfield, w_goto, w_iadd, w_iaload, w_icmp_ge, w_icmp_ne, w_iconst, w_if_eq, w_iinc, w_iload, w_iload_n, w_imul, w_ireturn, w_istore, w_istore_n, w_nop, w_swap, sa_79, sa_87, sg_60_16, sg_60_29, sg_60_31, sg_60_42, cB_22, cI_0, cI_1, cI_2, cI_m1, am_lk0, am_lk1, am_ld_some, am_isI_i, am_isJ_j, am_isR_r, am_st_eq, am_rmv_nil, am_rmv_t, am_rmv_i, am_rmv_r, sf_SH, sj_SH, sf_eq, sf_nk, sf_na, sf_sf, am_args_i, am_args_r, am_args_n, Nat.reduceAdd, List.cons_append, List.nil_append, Option.toList, List.drop_succ_cons, List.drop_zero, am_RP, am_CP, am_PH, Fin.isValue, Fin.val_zero, Fin.val_one, am_f2, am_f3, true_and, and_true, true_implies, false_implies, not_false_eq_true, ne_eq, nI_clampD, nI_leT, nI_leF, nI_ltT, nI_ltF, nI_eqT, nI_eqF, nI_lt0F, nI_0leT, nI_eq0T, nI_eq0F, nI_0ltT, nI_0ltF, nI_le0T, nI_le0F, nI_m1, nI_m1', m1_m1, m1_lt, m1_le, nI_mul, nI_add, nI_sub, nI_add1, nI_dec, nI_div, nI_mod, vp_inD, sf_nkD, sf_eqD, h16, bI_f]
        refine ⟨_, _, ?_, ?_, mk1 (k + 1) (by omega) (hend rfl)⟩
        · omega
        · (simp (decide := true) only [am_has, am_lk0, am_lk1, and_self, true_and, and_true] <;> first | rfl | (refine ⟨?_, ?_⟩ <;> rfl) | (refine ⟨?_, ?_, ?_⟩ <;> rfl) | (refine ⟨?_, ?_, ?_, ?_⟩ <;> rfl))
    | true =>
      by_cases hf : f = fs.length
      · subst hf
        have h9 := (hfull k e1).mp (e3.mp rfl)
        simp (decide := true) (disch := (first | exact eq_false (by decide) | exact eq_true (by decide) | decide | omega)) only [lX10_findsSwapped_0, lX10_findsSwapped_2, lX10_findsSwapped_14, lX10_findsSwapped_29, lX10_findsSwapped_77, lX10_findsSwapped_78, lX10_findsSwapped_85, lX10_findsSwapped_91, lX10_findsSwapped_97, lX10_findsSwapped_103, bX10_findsSwapped_0, bX10_findsSwapped_2, bX10_findsSwapped_14, bX10_findsSwapped_29, bX10_findsSwapped_77, bX10_findsSwapped_78, bX10_findsSwapped_85, bX10_findsSwapped_91, bX10_findsSwapped_97, bX10_findsSwapped_103, (show qX10_findsSwapped.2.2.2.1 = (some .int) from rfl), am_rok_int, w_aload_n, w_bipush, w_getfield, w_goto, w_iadd, w_iaload, w_icmp_ge, w_icmp_ne, w_iconst, w_if_eq, w_iinc, w_iload, w_iload_n, w_imul, w_ireturn, w_istore, w_istore_n, w_nop, w_swap, sa_79, sa_87, sg_60_16, sg_60_29, sg_60_31, sg_60_42, cB_22, cI_0, cI_1, cI_2, cI_m1, am_lk0, am_lk1, am_ld_some, am_isI_i, am_isJ_j, am_isR_r, am_st_eq, am_rmv_nil, am_rmv_t, am_rmv_i, am_rmv_r, sf_SH, sj_SH, sf_eq, sf_nk, sf_na, sf_sf, am_args_i, am_args_r, am_args_n, Nat.reduceAdd, List.cons_append, List.nil_append, Option.toList, List.drop_succ_cons, List.drop_zero, am_RP, am_CP, am_PH, Fin.isValue, Fin.val_zero, Fin.val_one, am_f2, am_f3, true_and, and_true, true_implies, false_implies, not_false_eq_true, ne_eq, nI_clampD, nI_leT, nI_leF, nI_ltT, nI_ltF, nI_eqT, nI_eqF, nI_lt0F, nI_0leT, nI_eq0T, nI_eq0F, nI_0ltT, nI_0ltF, nI_le0T, nI_le0F, nI_m1, nI_m1', m1_m1, m1_lt, m1_le, nI_mul, nI_add, nI_sub, nI_add1, nI_dec, nI_div, nI_mod, vp_inD, sf_nkD, sf_eqD, h16, bI_t]
        exact ⟨k + 1, rfl, Or.inr ⟨by omega, e1, h9⟩⟩
      · simp (decide := true) (disch := (first | exact eq_false (by decide) | exact eq_true (by decide) | decide | omega)) only [lX10_findsSwapped_0, lX10_findsSwapped_2, lX10_findsSwapped_14, lX10_findsSwapped_29, lX10_findsSwapped_77, lX10_findsSwapped_78, lX10_findsSwapped_85, lX10_findsSwapped_91, lX10_findsSwapped_97, lX10_findsSwapped_103, bX10_findsSwapped_0, bX10_findsSwapped_2, bX10_findsSwapped_14, bX10_findsSwapped_29, bX10_findsSwapped_77, bX10_findsSwapped_78, bX10_findsSwapped_85, bX10_findsSwapped_91, bX10_findsSwapped_97, bX10_findsSwapped_103, (show qX10_findsSwapped.2.2.2.1 = (some .int) from rfl), am_rok_int, w_aload_n, w_bipush, w_getfield, w_goto, w_iadd, w_iaload, w_icmp_ge, w_icmp_ne, w_iconst, w_if_eq, w_iinc, w_iload, w_iload_n, w_imul, w_ireturn, w_istore, w_istore_n, w_nop, w_swap, sa_79, sa_87, sg_60_16, sg_60_29, sg_60_31, sg_60_42, cB_22, cI_0, cI_1, cI_2, cI_m1, am_lk0, am_lk1, am_ld_some, am_isI_i, am_isJ_j, am_isR_r, am_st_eq, am_rmv_nil, am_rmv_t, am_rmv_i, am_rmv_r, sf_SH, sj_SH, sf_eq, sf_nk, sf_na, sf_sf, am_args_i, am_args_r, am_args_n, Nat.reduceAdd, List.cons_append, List.nil_append, Option.toList, List.drop_succ_cons, List.drop_zero, am_RP, am_CP, am_PH, Fin.isValue, Fin.val_zero, Fin.val_one, am_f2, am_f3, true_and, and_true, true_implies, false_implies, not_false_eq_true, ne_eq, nI_clampD, nI_leT, nI_leF, nI_ltT, nI_ltF, nI_eqT, nI_eqF, nI_lt0F, nI_0leT, nI_eq0T, nI_eq0F, nI_0ltT, nI_0ltF, nI_le0T, nI_le0F, nI_m1, nI_m1', m1_m1, m1_lt, m1_le, nI_mul, nI_add, nI_sub, nI_add1, nI_dec, nI_div, nI_mod, vp_inD, sf_nkD, sf_eqD, h16, bI_t]
        refine ⟨_, _, ?_, ?_, mk3 k f 0 true ⟨e1, by omega, by omega⟩ e2 e3⟩
        · omega
        · (simp (decide := true) only [am_has, am_lk0, am_lk1, and_self, true_and, and_true] <;> first | rfl | (refine ⟨?_, ?_⟩ <;> rfl) | (refine ⟨?_, ?_, ?_⟩ <;> rfl) | (refine ⟨?_, ?_, ?_, ?_⟩ <;> rfl))
  · refine ⟨_, 60, rfl, rfl, ?_⟩
    obtain ⟨e1, e4, e5⟩ := e1
    have hk := (hS.2.1 f e4).1
    have hk6 := hG.k6 e4
    have hr2 := rk_le (kF (nF fs f))
    simp (decide := true) (disch := (first | exact eq_false (by decide) | exact eq_true (by decide) | decide | omega)) only [lX10_findsSwapped_0, lX10_findsSwapped_2, lX10_findsSwapped_14, lX10_findsSwapped_29, lX10_findsSwapped_77, lX10_findsSwapped_78, lX10_findsSwapped_85, lX10_findsSwapped_91, lX10_findsSwapped_97, lX10_findsSwapped_103, bX10_findsSwapped_0, bX10_findsSwapped_2, bX10_findsSwapped_14, bX10_findsSwapped_29, bX10_findsSwapped_77, bX10_findsSwapped_78, bX10_findsSwapped_85, bX10_findsSwapped_91, bX10_findsSwapped_97, bX10_findsSwapped_103, (show qX10_findsSwapped.2.2.2.1 = (some .int) from rfl), am_rok_int, w_aload_n, w_bipush, w_getfield, w_goto, w_iadd, w_iaload, w_icmp_ge, w_icmp_ne, w_iconst, w_if_eq, w_iinc, w_iload, w_iload_n, w_imul, w_ireturn, w_istore, w_istore_n, w_nop, w_swap, sa_79, sa_87, sg_60_16, sg_60_29, sg_60_31, sg_60_42, cB_22, cI_0, cI_1, cI_2, cI_m1, am_lk0, am_lk1, am_ld_some, am_isI_i, am_isJ_j, am_isR_r, am_st_eq, am_rmv_nil, am_rmv_t, am_rmv_i, am_rmv_r, sf_SH, sj_SH, sf_eq, sf_nk, sf_na, sf_sf, am_args_i, am_args_r, am_args_n, Nat.reduceAdd, List.cons_append, List.nil_append, Option.toList, List.drop_succ_cons, List.drop_zero, am_RP, am_CP, am_PH, Fin.isValue, Fin.val_zero, Fin.val_one, am_f2, am_f3, true_and, and_true, true_implies, false_implies, not_false_eq_true, ne_eq, nI_clampD, nI_leT, nI_leF, nI_ltT, nI_ltF, nI_eqT, nI_eqF, nI_lt0F, nI_0leT, nI_eq0T, nI_eq0F, nI_0ltT, nI_0ltF, nI_le0T, nI_le0F, nI_m1, nI_m1', m1_m1, m1_lt, m1_le, nI_mul, nI_add, nI_sub, nI_add1, nI_dec, nI_div, nI_mod, vp_inD, sf_nkD, sf_eqD]
    refine w_virtE (c_X10_holesOf g h I J f (kF (nF fs f)) (by omega) hk hk6) rfl rfl rfl (of_eq_true so_60) rfl (Nat.le_refl _) (Nat.le_refl _) ?_
    by_cases hx : x = rk (kF (nF fs f))
    · subst hx
      simp (decide := true) (disch := (first | exact eq_false (by decide) | exact eq_true (by decide) | decide | omega)) only [lX10_findsSwapped_0, lX10_findsSwapped_2, lX10_findsSwapped_14, lX10_findsSwapped_29, lX10_findsSwapped_77, lX10_findsSwapped_78, lX10_findsSwapped_85, lX10_findsSwapped_91, lX10_findsSwapped_97, lX10_findsSwapped_103, bX10_findsSwapped_0, bX10_findsSwapped_2, bX10_findsSwapped_14, bX10_findsSwapped_29, bX10_findsSwapped_77, bX10_findsSwapped_78, bX10_findsSwapped_85, bX10_findsSwapped_91, bX10_findsSwapped_97, bX10_findsSwapped_103, (show qX10_findsSwapped.2.2.2.1 = (some .int) from rfl), am_rok_int, w_aload_n, w_bipush, w_getfield, w_goto, w_iadd, w_iaload, w_icmp_ge, w_icmp_ne, w_iconst, w_if_eq, w_iinc, w_iload, w_iload_n, w_imul, w_ireturn, w_istore, w_istore_n, w_nop, w_swap, sa_79, sa_87, sg_60_16, sg_60_29, sg_60_31, sg_60_42, cB_22, cI_0, cI_1, cI_2, cI_m1, am_lk0, am_lk1, am_ld_some, am_isI_i, am_isJ_j, am_isR_r, am_st_eq, am_rmv_nil, am_rmv_t, am_rmv_i, am_rmv_r, sf_SH, sj_SH, sf_eq, sf_nk, sf_na, sf_sf, am_args_i, am_args_r, am_args_n, Nat.reduceAdd, List.cons_append, List.nil_append, Option.toList, List.drop_succ_cons, List.drop_zero, am_RP, am_CP, am_PH, Fin.isValue, Fin.val_zero, Fin.val_one, am_f2, am_f3, true_and, and_true, true_implies, false_implies, not_false_eq_true, ne_eq, nI_clampD, nI_leT, nI_leF, nI_ltT, nI_ltF, nI_eqT, nI_eqF, nI_lt0F, nI_0leT, nI_eq0T, nI_eq0F, nI_0ltT, nI_0ltF, nI_le0T, nI_le0F, nI_m1, nI_m1', m1_m1, m1_lt, m1_le, nI_mul, nI_add, nI_sub, nI_add1, nI_dec, nI_div, nI_mod, vp_inD, sf_nkD, sf_eqD]
      refine ⟨_, _, ?_, ?_, mk2 k (f + 1) b ⟨e1, by omega⟩ e2 (e3.trans ⟨fun h9 y hy hy1 hy2 => ?_, fun h9 => h9.mono (by omega)⟩)⟩
      · omega
      · (simp (decide := true) only [am_has, am_lk0, am_lk1, and_self, true_and, and_true] <;> first | rfl | (refine ⟨?_, ?_⟩ <;> rfl) | (refine ⟨?_, ?_, ?_⟩ <;> rfl) | (refine ⟨?_, ?_, ?_, ?_⟩ <;> rfl))
      by_cases hyf : y / 2 = f
      · rw [hyf] at hy2; exact h9 y (by omega) hy1 (by rw [hyf]; exact hy2)
      · exact h9 y (by omega) hy1 hy2
    · cases b with
      | false =>
        simp (decide := true) (disch := (first | exact eq_false (by decide) | exact eq_true (by decide) | decide | omega)) only [lX10_findsSwapped_0, lX10_findsSwapped_2, lX10_findsSwapped_14, lX10_findsSwapped_29, lX10_findsSwapped_77, lX10_findsSwapped_78, lX10_findsSwapped_85, lX10_findsSwapped_91, lX10_findsSwapped_97, lX10_findsSwapped_103, bX10_findsSwapped_0, bX10_findsSwapped_2, bX10_findsSwapped_14, bX10_findsSwapped_29, bX10_findsSwapped_77, bX10_findsSwapped_78, bX10_findsSwapped_85, bX10_findsSwapped_91, bX10_findsSwapped_97, bX10_findsSwapped_103, (show qX10_findsSwapped.2.2.2.1 = (some .int) from rfl), am_rok_int, w_aload_n, w_bipush, w_getfield, w_goto, w_iadd, w_iaload, w_icmp_ge, w_icmp_ne, w_iconst, w_if_eq, w_iinc, w_iload, w_iload_n, w_imul, w_ireturn, w_istore, w_istore_n, w_nop, w_swap, sa_79, sa_87, sg_60_16, sg_60_29, sg_60_31, sg_60_42, cB_22, cI_0, cI_1, cI_2, cI_m1, am_lk0, am_lk1, am_ld_some, am_isI_i, am_isJ_j, am_isR_r, am_st_eq, am_rmv_nil, am_rmv_t, am_rmv_i, am_rmv_r, sf_SH, sj_SH, sf_eq, sf_nk, sf_na, sf_sf, am_args_i, am_args_r, am_args_n, Nat.reduceAdd, List.cons_append, List.nil_append, Option.toList, List.drop_succ_cons, List.drop_zero, am_RP, am_CP, am_PH, Fin.isValue, Fin.val_zero, Fin.val_one, am_f2, am_f3, true_and, and_true, true_implies, false_implies, not_false_eq_true, ne_eq, nI_clampD, nI_leT, nI_leF, nI_ltT, nI_ltF, nI_eqT, nI_eqF, nI_lt0F, nI_0leT, nI_eq0T, nI_eq0F, nI_0ltT, nI_0ltF, nI_le0T, nI_le0F, nI_m1, nI_m1', m1_m1, m1_lt, m1_le, nI_mul, nI_add, nI_sub, nI_add1, nI_dec, nI_div, nI_mod, vp_inD, sf_nkD, sf_eqD, bI_f]
        refine ⟨_, _, ?_, ?_, mk2 k (f + 1) false ⟨e1, by omega⟩ e2 ⟨fun h9 => (by cases h9), fun h9 => e3.mpr (h9.mono (by omega))⟩⟩
        · omega
        · (simp (decide := true) only [am_has, am_lk0, am_lk1, and_self, true_and, and_true] <;> first | rfl | (refine ⟨?_, ?_⟩ <;> rfl) | (refine ⟨?_, ?_, ?_⟩ <;> rfl) | (refine ⟨?_, ?_, ?_, ?_⟩ <;> rfl))
      | true =>
        have hAG := e3.mp rfl
        obtain ⟨lk, hk1, hk2⟩ := hOr k e1
        have hv1 : (2 * f + x) / 2 = f := by omega
        obtain ⟨f1, p1, q1, -⟩ := hk1.hole hcnt (x := 2 * f + x) (by omega) (by rw [hv1]; omega)
        obtain ⟨f2, p2, q2, -⟩ := hO'.hole hcnt (x := 2 * f + x) (by omega) (by rw [hv1]; omega)
        have m1 := hk1.mem q1
        have m2 := hO'.mem q2
        have g1 := hk2 f1 _ p1 q1
        have g2 := hP f2 _ p2 q2
        have g1' := g1
        rw [← Nat.add_assoc] at g1'
        by_cases hff : f1 = f2
        · simp (decide := true) (disch := (first | exact eq_false (by decide) | exact eq_true (by decide) | decide | omega)) only [lX10_findsSwapped_0, lX10_findsSwapped_2, lX10_findsSwapped_14, lX10_findsSwapped_29, lX10_findsSwapped_77, lX10_findsSwapped_78, lX10_findsSwapped_85, lX10_findsSwapped_91, lX10_findsSwapped_97, lX10_findsSwapped_103, bX10_findsSwapped_0, bX10_findsSwapped_2, bX10_findsSwapped_14, bX10_findsSwapped_29, bX10_findsSwapped_77, bX10_findsSwapped_78, bX10_findsSwapped_85, bX10_findsSwapped_91, bX10_findsSwapped_97, bX10_findsSwapped_103, (show qX10_findsSwapped.2.2.2.1 = (some .int) from rfl), am_rok_int, w_aload_n, w_bipush, w_getfield, w_goto, w_iadd, w_iaload, w_icmp_ge, w_icmp_ne, w_iconst, w_if_eq, w_iinc, w_iload, w_iload_n, w_imul, w_ireturn, w_istore, w_istore_n, w_nop, w_swap, sa_79, sa_87, sg_60_16, sg_60_29, sg_60_31, sg_60_42, cB_22, cI_0, cI_1, cI_2, cI_m1, am_lk0, am_lk1, am_ld_some, am_isI_i, am_isJ_j, am_isR_r, am_st_eq, am_rmv_nil, am_rmv_t, am_rmv_i, am_rmv_r, sf_SH, sj_SH, sf_eq, sf_nk, sf_na, sf_sf, am_args_i, am_args_r, am_args_n, Nat.reduceAdd, List.cons_append, List.nil_append, Option.toList, List.drop_succ_cons, List.drop_zero, am_RP, am_CP, am_PH, Fin.isValue, Fin.val_zero, Fin.val_one, am_f2, am_f3, true_and, and_true, true_implies, false_implies, not_false_eq_true, ne_eq, nI_clampD, nI_leT, nI_leF, nI_ltT, nI_ltF, nI_eqT, nI_eqF, nI_lt0F, nI_0leT, nI_eq0T, nI_eq0F, nI_0ltT, nI_0ltF, nI_le0T, nI_le0F, nI_m1, nI_m1', m1_m1, m1_lt, m1_le, nI_mul, nI_add, nI_sub, nI_add1, nI_dec, nI_div, nI_mod, vp_inD, sf_nkD, sf_eqD, bI_t, g1', g2, hff]
          refine ⟨_, _, ?_, ?_, mk3 k f (x + 1) true ⟨e1, e4, by omega⟩ e2 ⟨fun _ y hy hy1 hy2 => ?_, fun _ => rfl⟩⟩
          · omega
          · (simp (decide := true) only [am_has, am_lk0, am_lk1, and_self, true_and, and_true] <;> first | rfl | (refine ⟨?_, ?_⟩ <;> rfl) | (refine ⟨?_, ?_, ?_⟩ <;> rfl) | (refine ⟨?_, ?_, ?_, ?_⟩ <;> rfl))
          by_cases hyx : y = 2 * f + x
          · rw [hyx, g1, g2, hff]
          · exact hAG y (by omega) hy1 hy2
        · simp (decide := true) (disch := (first | exact eq_false (by decide) | exact eq_true (by decide) | decide | omega)) only [lX10_findsSwapped_0, lX10_findsSwapped_2, lX10_findsSwapped_14, lX10_findsSwapped_29, lX10_findsSwapped_77, lX10_findsSwapped_78, lX10_findsSwapped_85, lX10_findsSwapped_91, lX10_findsSwapped_97, lX10_findsSwapped_103, bX10_findsSwapped_0, bX10_findsSwapped_2, bX10_findsSwapped_14, bX10_findsSwapped_29, bX10_findsSwapped_77, bX10_findsSwapped_78, bX10_findsSwapped_85, bX10_findsSwapped_91, bX10_findsSwapped_97, bX10_findsSwapped_103, (show qX10_findsSwapped.2.2.2.1 = (some .int) from rfl), am_rok_int, w_aload_n, w_bipush, w_getfield, w_goto, w_iadd, w_iaload, w_icmp_ge, w_icmp_ne, w_iconst, w_if_eq, w_iinc, w_iload, w_iload_n, w_imul, w_ireturn, w_istore, w_istore_n, w_nop, w_swap, sa_79, sa_87, sg_60_16, sg_60_29, sg_60_31, sg_60_42, cB_22, cI_0, cI_1, cI_2, cI_m1, am_lk0, am_lk1, am_ld_some, am_isI_i, am_isJ_j, am_isR_r, am_st_eq, am_rmv_nil, am_rmv_t, am_rmv_i, am_rmv_r, sf_SH, sj_SH, sf_eq, sf_nk, sf_na, sf_sf, am_args_i, am_args_r, am_args_n, Nat.reduceAdd, List.cons_append, List.nil_append, Option.toList, List.drop_succ_cons, List.drop_zero, am_RP, am_CP, am_PH, Fin.isValue, Fin.val_zero, Fin.val_one, am_f2, am_f3, true_and, and_true, true_implies, false_implies, not_false_eq_true, ne_eq, nI_clampD, nI_leT, nI_leF, nI_ltT, nI_ltF, nI_eqT, nI_eqF, nI_lt0F, nI_0leT, nI_eq0T, nI_eq0F, nI_0ltT, nI_0ltF, nI_le0T, nI_le0F, nI_m1, nI_m1', m1_m1, m1_lt, m1_le, nI_mul, nI_add, nI_sub, nI_add1, nI_dec, nI_div, nI_mod, vp_inD, sf_nkD, sf_eqD, bI_t, g1', g2]
          refine ⟨_, _, ?_, ?_, mk3 k f (x + 1) false ⟨e1, e4, by omega⟩ e2 ⟨fun h9 => (by cases h9), fun h9 => ?_⟩⟩
          · omega
          · (simp (decide := true) only [am_has, am_lk0, am_lk1, and_self, true_and, and_true] <;> first | rfl | (refine ⟨?_, ?_⟩ <;> rfl) | (refine ⟨?_, ?_, ?_⟩ <;> rfl) | (refine ⟨?_, ?_, ?_, ?_⟩ <;> rfl))
          exfalso
          have h8 := h9 (2 * f + x) (by omega) (by omega) (by rw [hv1]; omega)
          rw [g1, g2] at h8
          exact hff ((nI_eq (by omega) (by omega)).mp h8)
end MS1
