/-! the class' search -/
noncomputable def rls (kd : Nat → Nat) (n : Nat) (c : List (List Nat) → List Nat → Nat → Prop) (m : Nat) (p : List Nat) (s : List (List Nat)) (u : List Nat) (i : Nat) : List (List Nat) :=
  (List.range i).flatMap (fun f => haveI := Classical.propDecidable (c (p :: s) u f); if c (p :: s) u f then (rdf kd n c m (rp kd f p ++ s) (f :: u)).map (f :: ·) else [])
theorem rdf_s (kd : Nat → Nat) (n : Nat) (c : List (List Nat) → List Nat → Nat → Prop) (m : Nat) (p : List Nat) (s : List (List Nat)) (u : List Nat) : rdf kd n c (m + 1) (p :: s) u = rls kd n c m p s u n := by
  simp only [rdf, rls]
theorem rls_0 (kd : Nat → Nat) (n : Nat) (c : List (List Nat) → List Nat → Nat → Prop) (m : Nat) (p : List Nat) (s : List (List Nat)) (u : List Nat) : rls kd n c m p s u 0 = [] := rfl
theorem rls_t {kd : Nat → Nat} {n : Nat} {c : List (List Nat) → List Nat → Nat → Prop} {m : Nat} {p : List Nat} {s : List (List Nat)} {u : List Nat} {i : Nat} (h : c (p :: s) u i) : rls kd n c m p s u (i + 1) = rls kd n c m p s u i ++ (rdf kd n c m (rp kd i p ++ s) (i :: u)).map (i :: ·) := by
  unfold rls
  rw [List.range_succ, List.flatMap_append, List.flatMap_cons, List.flatMap_nil, List.append_nil, if_pos h]
theorem rls_f {kd : Nat → Nat} {n : Nat} {c : List (List Nat) → List Nat → Nat → Prop} {m : Nat} {p : List Nat} {s : List (List Nat)} {u : List Nat} {i : Nat} (h : ¬ c (p :: s) u i) : rls kd n c m p s u (i + 1) = rls kd n c m p s u i := by
  unfold rls
  rw [List.range_succ, List.flatMap_append, List.flatMap_cons, List.flatMap_nil, List.append_nil, if_neg h, List.append_nil]
theorem rls_le {kd : Nat → Nat} {n : Nat} {c : List (List Nat) → List Nat → Nat → Prop} {m : Nat} {p : List Nat} {s : List (List Nat)} {u : List Nat} {i : Nat} : ∀ j, i ≤ j → (rls kd n c m p s u i).length ≤ (rls kd n c m p s u j).length
  | 0, h => by rw [show i = 0 by omega]; exact Nat.le_refl _
  | j + 1, h => by
    by_cases hij : i = j + 1
    · rw [hij]; exact Nat.le_refl _
    · have h1 := rls_le (kd := kd) (n := n) (c := c) (m := m) (p := p) (s := s) (u := u) (i := i) j (by omega)
      by_cases hc : c (p :: s) u j
      · rw [rls_t hc, List.length_append]; omega
      · rw [rls_f hc]; exact h1
def FrF (w : Nat) (I I' : Nat → Nat → Int32) : Prop := (∀ c, c ≠ 35 → c ≠ 38 → I' c = I c) ∧ ∀ j, j < w → I' 38 j = I 38 j
theorem FrF.rf (w : Nat) (I : Nat → Nat → Int32) : FrF w I I := ⟨fun _ _ _ => rfl, fun _ _ => rfl⟩
theorem ropen_s {kd : Nat → Nat} {u : List Nat} {f x : Nat} : ropen kd (f :: u) x ↔ ropen kd u x ∨ (x / 2 = f ∧ x % 2 < rh kd f) := by
  unfold ropen
  rw [List.mem_cons]
  constructor
  · rintro ⟨h1 | h1, h2⟩
    · exact Or.inr ⟨h1, by rw [← h1]; exact h2⟩
    · exact Or.inl ⟨h1, h2⟩
  · rintro (h1 | ⟨h1, h2⟩)
    · exact ⟨Or.inr h1.1, h1.2⟩
    · exact ⟨Or.inl h1, by rw [h1]; exact h2⟩
section FI2
variable (g : am_G) {L : Nat → Nat} {t : Nat} {fs : List Fg} {cs : List (Nat × Nat)} {W : Nat → Nat → Bool}
set_option maxRecDepth 100000 in
set_option maxHeartbeats 400000 in
theorem c_X5_fillNext : ∀ (m h : Nat) (s : List (List Nat)) (u : List Nat) (x : Int64) (c : Nat) (I : Nat → Nat → Int32) (J : Nat → Nat → Int64) (uw ow : Int32), SN L t fs I → GC fs cs I → wB I fs.length = W → m ≤ fs.length → s.length ≤ 1 + (fs.length - m) → PT s I → Bp uw (fun x => x ∈ u) → Bp ow (ropen (kdF fs) u) → I 35 1 = nI c → c + (rdf (kdF fs) fs.length (rcls (kdF fs) W fs.length) m s u).length ≤ 720 →
    am_Ctr g am_mt 1 (h + m + 3) 47 [.ref 37, .int (nI (fs.length - m)), .int (nI s.length), .long x, .int uw, .int ow] (am_SH, I, J) 0 0 (fun r M => r = none ∧ ∃ I' J', M = (am_SH, I', J') ∧ FrF s.length I I' ∧ LC J J' c ((rdf (kdF fs) fs.length (rcls (kdF fs) W fs.length) m s u).map (cd x)) ∧ I' 35 1 = nI (c + (rdf (kdF fs) fs.length (rcls (kdF fs) W fs.length) m s u).length)) := by
  intro m
  induction m with
  | zero =>
    intro h s u x c I J uw ow hS hG hW hm hs hp hu ho hc h720
    have hn := hS.2.le
    have h1 : I 2 1 = nI fs.length := hS.1.1
    have hlen : (rdf (kdF fs) fs.length (rcls (kdF fs) W fs.length) 0 s u).length = 1 := rfl
    rw [hlen] at h720
    refine am_rule0 (q := qX5_fillNext) (B := am_blk bX5_fillNext) 60 rfl rfl kX5_fillNext nX5_fillNext (Nat.le_of_ble_eq_true rfl) ?_
    have e9 : fs.length - 0 = fs.length := rfl
    simp (decide := true) (disch := (first | exact eq_false (by decide) | exact eq_true (by decide) | decide | omega)) only [lX5_fillNext_0, lX5_fillNext_93, bX5_fillNext_0, bX5_fillNext_93, am_rmv_j, am_rmv_jt, am_args_j, am_st2_eq, am_rmw_n, am_rmw_t, am_rmw_f, (show qX5_fillNext.2.2.2.1 = none from rfl), am_rok_none, w_alen_38, w_alen_45, w_alen_55, w_alen_67, w_aload_n, w_getfield, w_goto, w_iadd, w_iaload, w_iand, w_iastore, w_icmp_ge, w_icmp_le, w_icmp_lt, w_iconst, w_if_eq, w_if_le, w_if_ne, w_iinc, w_iload, w_iload_n, w_ior, w_ishl, w_istore, w_isub, w_ixor, w_lload, w_lload_n, w_lstore, w_nop, w_return, w_swap, sa_34, sa_38, sg_15_1, sg_29_6, sg_2_1, sg_37_0, sg_37_1, sg_37_2, sg_37_3, cI_0, cI_1, cI_2, cI_m1, am_lk0, am_lk1, am_ld_some, am_isI_i, am_isJ_j, am_isR_r, am_st_eq, am_rmv_nil, am_rmv_t, am_rmv_i, am_rmv_r, sf_SH, sj_SH, sf_eq, sf_nk, sf_na, sf_sf, am_args_i, am_args_r, am_args_n, Nat.reduceAdd, List.cons_append, List.nil_append, Option.toList, List.drop_succ_cons, List.drop_zero, am_RP, am_CP, am_PH, Fin.isValue, Fin.val_zero, Fin.val_one, am_f2, am_f3, true_and, and_true, true_implies, false_implies, not_false_eq_true, ne_eq, nI_clampD, nI_leT, nI_leF, nI_ltT, nI_ltF, nI_eqT, nI_eqF, nI_lt0F, nI_0leT, nI_eq0T, nI_eq0F, nI_0ltT, nI_0ltF, nI_le0T, nI_le0F, nI_m1, nI_m1', m1_m1, m1_lt, m1_le, nI_mul, nI_add, nI_sub, nI_add1, nI_dec, nI_div, nI_mod, vp_inD, sf_nkD, sf_eqD, h1, e9]
    refine w_virtE (c_X6_append g (h + 1) I J c x hc (by omega)) rfl rfl rfl (of_eq_true so_35) rfl (Nat.le_refl _) (Nat.le_refl _) ?_
    simp (decide := true) (disch := (first | exact eq_false (by decide) | exact eq_true (by decide) | decide | omega)) only [lX5_fillNext_0, lX5_fillNext_93, bX5_fillNext_0, bX5_fillNext_93, am_rmv_j, am_rmv_jt, am_args_j, am_st2_eq, am_rmw_n, am_rmw_t, am_rmw_f, (show qX5_fillNext.2.2.2.1 = none from rfl), am_rok_none, w_alen_38, w_alen_45, w_alen_55, w_alen_67, w_aload_n, w_getfield, w_goto, w_iadd, w_iaload, w_iand, w_iastore, w_icmp_ge, w_icmp_le, w_icmp_lt, w_iconst, w_if_eq, w_if_le, w_if_ne, w_iinc, w_iload, w_iload_n, w_ior, w_ishl, w_istore, w_isub, w_ixor, w_lload, w_lload_n, w_lstore, w_nop, w_return, w_swap, sa_34, sa_38, sg_15_1, sg_29_6, sg_2_1, sg_37_0, sg_37_1, sg_37_2, sg_37_3, cI_0, cI_1, cI_2, cI_m1, am_lk0, am_lk1, am_ld_some, am_isI_i, am_isJ_j, am_isR_r, am_st_eq, am_rmv_nil, am_rmv_t, am_rmv_i, am_rmv_r, sf_SH, sj_SH, sf_eq, sf_nk, sf_na, sf_sf, am_args_i, am_args_r, am_args_n, Nat.reduceAdd, List.cons_append, List.nil_append, Option.toList, List.drop_succ_cons, List.drop_zero, am_RP, am_CP, am_PH, Fin.isValue, Fin.val_zero, Fin.val_one, am_f2, am_f3, true_and, and_true, true_implies, false_implies, not_false_eq_true, ne_eq, nI_clampD, nI_leT, nI_leF, nI_ltT, nI_ltF, nI_eqT, nI_eqF, nI_lt0F, nI_0leT, nI_eq0T, nI_eq0F, nI_0ltT, nI_0ltF, nI_le0T, nI_le0F, nI_m1, nI_m1', m1_m1, m1_lt, m1_le, nI_mul, nI_add, nI_sub, nI_add1, nI_dec, nI_div, nI_mod, vp_inD, sf_nkD, sf_eqD]
    exact ⟨_, _, rfl, ⟨fun a h0 h2 => sf_naD h0, fun j hj => by rw [sf_naD (by decide)]⟩, LC.one J c x, by rw [sf_eq]; rfl⟩
  | succ m ih =>
    intro h s u x c I J uw ow hS hG hW hm hs hp hu ho hc h720
    have hn := hS.2.le
    have h1 : I 2 1 = nI fs.length := hS.1.1
    rw [show h + (m + 1) + 3 = (h + m + 3) + 1 by omega]
    cases s with
    | nil =>
      refine am_rule0 (q := qX5_fillNext) (B := am_blk bX5_fillNext) 60 rfl rfl kX5_fillNext nX5_fillNext (Nat.le_of_ble_eq_true rfl) ?_
      have e9 : ([] : List (List Nat)).length = 0 := rfl
      simp (decide := true) (disch := (first | exact eq_false (by decide) | exact eq_true (by decide) | decide | omega)) only [lX5_fillNext_0, lX5_fillNext_20, lX5_fillNext_33, lX5_fillNext_93, bX5_fillNext_0, bX5_fillNext_20, bX5_fillNext_33, bX5_fillNext_93, am_rmv_j, am_rmv_jt, am_args_j, am_st2_eq, am_rmw_n, am_rmw_t, am_rmw_f, (show qX5_fillNext.2.2.2.1 = none from rfl), am_rok_none, w_alen_38, w_alen_45, w_alen_55, w_alen_67, w_aload_n, w_getfield, w_goto, w_iadd, w_iaload, w_iand, w_iastore, w_icmp_ge, w_icmp_le, w_icmp_lt, w_iconst, w_if_eq, w_if_le, w_if_ne, w_iinc, w_iload, w_iload_n, w_ior, w_ishl, w_istore, w_isub, w_ixor, w_lload, w_lload_n, w_lstore, w_nop, w_return, w_swap, sa_34, sa_38, sg_15_1, sg_29_6, sg_2_1, sg_37_0, sg_37_1, sg_37_2, sg_37_3, cI_0, cI_1, cI_2, cI_m1, am_lk0, am_lk1, am_ld_some, am_isI_i, am_isJ_j, am_isR_r, am_st_eq, am_rmv_nil, am_rmv_t, am_rmv_i, am_rmv_r, sf_SH, sj_SH, sf_eq, sf_nk, sf_na, sf_sf, am_args_i, am_args_r, am_args_n, Nat.reduceAdd, List.cons_append, List.nil_append, Option.toList, List.drop_succ_cons, List.drop_zero, am_RP, am_CP, am_PH, Fin.isValue, Fin.val_zero, Fin.val_one, am_f2, am_f3, true_and, and_true, true_implies, false_implies, not_false_eq_true, ne_eq, nI_clampD, nI_leT, nI_leF, nI_ltT, nI_ltF, nI_eqT, nI_eqF, nI_lt0F, nI_0leT, nI_eq0T, nI_eq0F, nI_0ltT, nI_0ltF, nI_le0T, nI_le0F, nI_m1, nI_m1', m1_m1, m1_lt, m1_le, nI_mul, nI_add, nI_sub, nI_add1, nI_dec, nI_div, nI_mod, vp_inD, sf_nkD, sf_eqD, h1, e9]
      exact ⟨I, J, rfl, FrF.rf _ _, LC.rf _ _, hc⟩
    | cons p s =>
      rw [rdf_s] at h720 ⊢
      rw [List.length_cons] at hs
      have e9 : (p :: s).length = s.length + 1 := rfl
      have hpw : Bp (I 38 s.length) (fun x => x ∈ p) := by
        have := hp s.length (by simp)
        rw [e9, show s.length + 1 - 1 - s.length = 0 by omega] at this
        exact this
      obtain ⟨R, hR⟩ : ∃ R : Nat → List (List Nat), R = rls (kdF fs) fs.length (rcls (kdF fs) W fs.length) m p s u := ⟨_, rfl⟩
      rw [← hR] at h720 ⊢
      have hR0 : R 0 = [] := by rw [hR]; rfl
      have hRle : ∀ {i j}, i ≤ j → (R i).length ≤ (R j).length := fun {i j} hij => by rw [hR]; exact rls_le j hij
      obtain ⟨JJ, hJJ⟩ : ∃ JJ : Nat → am_Cut, JJ = (fun zu zpc zl zst zM zk zn => (∃ (ww mw : Int32) (i : Nat) (I1 : Nat → Nat → Int32) (J1 : Nat → Nat → Int64), zu = fs.length - i ∧ (i ≤ fs.length) ∧ (FrF (s.length + 1) I I1) ∧ (LC J J1 c ((R i).map (cd x))) ∧ (I1 35 1 = nI (c + (R i).length)) ∧ (Bp ww (fun f => f < fs.length ∧ f ∉ u ∧ ∀ x, W x f = true → ropen (kdF fs) u x → x ∈ p)) ∧ (Bp mw (fun f => f < fs.length ∧ f ∉ u ∧ ∃ x, W x f = true ∧ x ∈ p ∧ ∀ q, s.head? = some q → x ∉ q)) ∧ zpc = 93 ∧ zl = [(0, .ref 37), (1, .int (nI (fs.length - (m + 1)))), (2, .int (nI (s.length + 1))), (3, .long x), (5, .int uw), (6, .int ow), (7, .int (I 38 s.length)), (8, .int ww), (10, .int mw), (11, .int (nI i))] ∧ zst = [] ∧ zM = (am_SH, I1, J1) ∧ zk = 0 ∧ zn = 0)) := ⟨_, rfl⟩
      have mk : ∀ (ww mw : Int32) (i : Nat) (I1 : Nat → Nat → Int32) (J1 : Nat → Nat → Int64), (i ≤ fs.length) → (FrF (s.length + 1) I I1) → (LC J J1 c ((R i).map (cd x))) → (I1 35 1 = nI (c + (R i).length)) → (Bp ww (fun f => f < fs.length ∧ f ∉ u ∧ ∀ x, W x f = true → ropen (kdF fs) u x → x ∈ p)) → (Bp mw (fun f => f < fs.length ∧ f ∉ u ∧ ∃ x, W x f = true ∧ x ∈ p ∧ ∀ q, s.head? = some q → x ∉ q)) → JJ (fs.length - i) 93 [(0, .ref 37), (1, .int (nI (fs.length - (m + 1)))), (2, .int (nI (s.length + 1))), (3, .long x), (5, .int uw), (6, .int ow), (7, .int (I 38 s.length)), (8, .int ww), (10, .int mw), (11, .int (nI i))] [] (am_SH, I1, J1) 0 0 := by
        intro ww mw i I1 J1 a0 a1 a2 a3 a4 a5
        rw [hJJ]
        exact ⟨ww, mw, i, I1, J1, rfl, a0, a1, a2, a3, a4, a5, rfl, rfl, rfl, rfl, rfl, rfl⟩
      refine am_rule2 (q := qX5_fillNext) (B := am_blk bX5_fillNext) rfl rfl kX5_fillNext nX5_fillNext (Nat.le_of_ble_eq_true rfl) JJ (fun zu zpc zl zst zM zk zn hj => ?_) ?_
      rotate_left
      · refine ⟨90, ?_⟩
        simp (decide := true) (disch := (first | exact eq_false (by decide) | exact eq_true (by decide) | decide | omega)) only [lX5_fillNext_0, lX5_fillNext_20, lX5_fillNext_33, lX5_fillNext_34, lX5_fillNext_74, lX5_fillNext_75, lX5_fillNext_93, bX5_fillNext_0, bX5_fillNext_20, bX5_fillNext_33, bX5_fillNext_34, bX5_fillNext_74, bX5_fillNext_75, bX5_fillNext_93, am_rmv_j, am_rmv_jt, am_args_j, am_st2_eq, am_rmw_n, am_rmw_t, am_rmw_f, (show qX5_fillNext.2.2.2.1 = none from rfl), am_rok_none, w_alen_38, w_alen_45, w_alen_55, w_alen_67, w_aload_n, w_getfield, w_goto, w_iadd, w_iaload, w_iand, w_iastore, w_icmp_ge, w_icmp_le, w_icmp_lt, w_iconst, w_if_eq, w_if_le, w_if_ne, w_iinc, w_iload, w_iload_n, w_ior, w_ishl, w_istore, w_isub, w_ixor, w_lload, w_lload_n, w_lstore, w_nop, w_return, w_swap, sa_34, sa_38, sg_15_1, sg_29_6, sg_2_1, sg_37_0, sg_37_1, sg_37_2, sg_37_3, cI_0, cI_1, cI_2, cI_m1, am_lk0, am_lk1, am_ld_some, am_isI_i, am_isJ_j, am_isR_r, am_st_eq, am_rmv_nil, am_rmv_t, am_rmv_i, am_rmv_r, sf_SH, sj_SH, sf_eq, sf_nk, sf_na, sf_sf, am_args_i, am_args_r, am_args_n, Nat.reduceAdd, List.cons_append, List.nil_append, Option.toList, List.drop_succ_cons, List.drop_zero, am_RP, am_CP, am_PH, Fin.isValue, Fin.val_zero, Fin.val_one, am_f2, am_f3, true_and, and_true, true_implies, false_implies, not_false_eq_true, ne_eq, nI_clampD, nI_leT, nI_leF, nI_ltT, nI_ltF, nI_eqT, nI_eqF, nI_lt0F, nI_0leT, nI_eq0T, nI_eq0F, nI_0ltT, nI_0ltF, nI_le0T, nI_le0F, nI_m1, nI_m1', m1_m1, m1_lt, m1_le, nI_mul, nI_add, nI_sub, nI_add1, nI_dec, nI_div, nI_mod, vp_inD, sf_nkD, sf_eqD, h1, e9, Nat.add_sub_cancel]
        refine w_virtP (c_X5_welcomeUnder g (h + m + 1) I J hS hG (I 38 s.length) uw ow p u (ropen (kdF fs) u) hpw hu ho) rfl rfl rfl (of_eq_true so_37) rfl (Nat.le_refl _) (Nat.le_refl _) ?_
        rintro R1 M1 ⟨ww, rfl, hww, rfl⟩
        rw [hW] at hww
        cases hs0 : s with
        | nil =>
          subst hs0
          have e8 : ([] : List (List Nat)).length = 0 := rfl
          simp (decide := true) (disch := (first | exact eq_false (by decide) | exact eq_true (by decide) | decide | omega)) only [lX5_fillNext_0, lX5_fillNext_20, lX5_fillNext_33, lX5_fillNext_34, lX5_fillNext_74, lX5_fillNext_75, lX5_fillNext_93, bX5_fillNext_0, bX5_fillNext_20, bX5_fillNext_33, bX5_fillNext_34, bX5_fillNext_74, bX5_fillNext_75, bX5_fillNext_93, am_rmv_j, am_rmv_jt, am_args_j, am_st2_eq, am_rmw_n, am_rmw_t, am_rmw_f, (show qX5_fillNext.2.2.2.1 = none from rfl), am_rok_none, w_alen_38, w_alen_45, w_alen_55, w_alen_67, w_aload_n, w_getfield, w_goto, w_iadd, w_iaload, w_iand, w_iastore, w_icmp_ge, w_icmp_le, w_icmp_lt, w_iconst, w_if_eq, w_if_le, w_if_ne, w_iinc, w_iload, w_iload_n, w_ior, w_ishl, w_istore, w_isub, w_ixor, w_lload, w_lload_n, w_lstore, w_nop, w_return, w_swap, sa_34, sa_38, sg_15_1, sg_29_6, sg_2_1, sg_37_0, sg_37_1, sg_37_2, sg_37_3, cI_0, cI_1, cI_2, cI_m1, am_lk0, am_lk1, am_ld_some, am_isI_i, am_isJ_j, am_isR_r, am_st_eq, am_rmv_nil, am_rmv_t, am_rmv_i, am_rmv_r, sf_SH, sj_SH, sf_eq, sf_nk, sf_na, sf_sf, am_args_i, am_args_r, am_args_n, Nat.reduceAdd, List.cons_append, List.nil_append, Option.toList, List.drop_succ_cons, List.drop_zero, am_RP, am_CP, am_PH, Fin.isValue, Fin.val_zero, Fin.val_one, am_f2, am_f3, true_and, and_true, true_implies, false_implies, not_false_eq_true, ne_eq, nI_clampD, nI_leT, nI_leF, nI_ltT, nI_ltF, nI_eqT, nI_eqF, nI_lt0F, nI_0leT, nI_eq0T, nI_eq0F, nI_0ltT, nI_0ltF, nI_le0T, nI_le0F, nI_m1, nI_m1', m1_m1, m1_lt, m1_le, nI_mul, nI_add, nI_sub, nI_add1, nI_dec, nI_div, nI_mod, vp_inD, sf_nkD, sf_eqD, e8]
          have hcl : Bp (I 38 0 &&& (nI 0 ^^^ -1)) (fun x => x ∈ p ∧ ∀ q, ([] : List (List Nat)).head? = some q → x ∉ q) := (hpw.and Bp_n0.not).cg (fun x _ => ⟨fun h0 => ⟨h0.1, fun q hq => (by cases hq)⟩, fun h0 => ⟨h0.1, fun h9 => h9⟩⟩)
          refine w_virtP (c_X5_missingIn g (h + m + 1) I J hS hG _ uw u _ hcl hu) rfl rfl rfl (of_eq_true so_37) rfl (Nat.le_refl _) (Nat.le_refl _) ?_
          rintro R1 M1 ⟨mw, rfl, hmw, rfl⟩
          rw [hW] at hmw
          simp (decide := true) (disch := (first | exact eq_false (by decide) | exact eq_true (by decide) | decide | omega)) only [lX5_fillNext_0, lX5_fillNext_20, lX5_fillNext_33, lX5_fillNext_34, lX5_fillNext_74, lX5_fillNext_75, lX5_fillNext_93, bX5_fillNext_0, bX5_fillNext_20, bX5_fillNext_33, bX5_fillNext_34, bX5_fillNext_74, bX5_fillNext_75, bX5_fillNext_93, am_rmv_j, am_rmv_jt, am_args_j, am_st2_eq, am_rmw_n, am_rmw_t, am_rmw_f, (show qX5_fillNext.2.2.2.1 = none from rfl), am_rok_none, w_alen_38, w_alen_45, w_alen_55, w_alen_67, w_aload_n, w_getfield, w_goto, w_iadd, w_iaload, w_iand, w_iastore, w_icmp_ge, w_icmp_le, w_icmp_lt, w_iconst, w_if_eq, w_if_le, w_if_ne, w_iinc, w_iload, w_iload_n, w_ior, w_ishl, w_istore, w_isub, w_ixor, w_lload, w_lload_n, w_lstore, w_nop, w_return, w_swap, sa_34, sa_38, sg_15_1, sg_29_6, sg_2_1, sg_37_0, sg_37_1, sg_37_2, sg_37_3, cI_0, cI_1, cI_2, cI_m1, am_lk0, am_lk1, am_ld_some, am_isI_i, am_isJ_j, am_isR_r, am_st_eq, am_rmv_nil, am_rmv_t, am_rmv_i, am_rmv_r, sf_SH, sj_SH, sf_eq, sf_nk, sf_na, sf_sf, am_args_i, am_args_r, am_args_n, Nat.reduceAdd, List.cons_append, List.nil_append, Option.toList, List.drop_succ_cons, List.drop_zero, am_RP, am_CP, am_PH, Fin.isValue, Fin.val_zero, Fin.val_one, am_f2, am_f3, true_and, and_true, true_implies, false_implies, not_false_eq_true, ne_eq, nI_clampD, nI_leT, nI_leF, nI_ltT, nI_ltF, nI_eqT, nI_eqF, nI_lt0F, nI_0leT, nI_eq0T, nI_eq0F, nI_0ltT, nI_0ltF, nI_le0T, nI_le0F, nI_m1, nI_m1', m1_m1, m1_lt, m1_le, nI_mul, nI_add, nI_sub, nI_add1, nI_dec, nI_div, nI_mod, vp_inD, sf_nkD, sf_eqD]
          refine ⟨_, _, ?_, mk ww mw 0 I J (by omega) (FrF.rf _ _) (by rw [hR0]; exact LC.rf _ _) (by rw [hR0]; exact hc) hww hmw⟩
          · (simp (decide := true) only [am_has, am_lk0, am_lk1, and_self, true_and, and_true] <;> first | rfl | (refine ⟨?_, ?_⟩ <;> rfl) | (refine ⟨?_, ?_, ?_⟩ <;> rfl) | (refine ⟨?_, ?_, ?_, ?_⟩ <;> rfl))
        | cons p2 s2 =>
          subst hs0
          have e8 : (p2 :: s2).length = s2.length + 1 := rfl
          have hp2 : Bp (I 38 s2.length) (fun x => x ∈ p2) := by
            have := hp s2.length (by simp; omega)
            rw [e9, e8, show s2.length + 1 + 1 - 1 - s2.length = 1 by omega] at this
            exact this
          have e7 : s2.length + 1 + 1 - 2 = s2.length := rfl
          rw [e8] at hs
          simp (decide := true) (disch := (first | exact eq_false (by decide) | exact eq_true (by decide) | decide | omega)) only [lX5_fillNext_0, lX5_fillNext_20, lX5_fillNext_33, lX5_fillNext_34, lX5_fillNext_74, lX5_fillNext_75, lX5_fillNext_93, bX5_fillNext_0, bX5_fillNext_20, bX5_fillNext_33, bX5_fillNext_34, bX5_fillNext_74, bX5_fillNext_75, bX5_fillNext_93, am_rmv_j, am_rmv_jt, am_args_j, am_st2_eq, am_rmw_n, am_rmw_t, am_rmw_f, (show qX5_fillNext.2.2.2.1 = none from rfl), am_rok_none, w_alen_38, w_alen_45, w_alen_55, w_alen_67, w_aload_n, w_getfield, w_goto, w_iadd, w_iaload, w_iand, w_iastore, w_icmp_ge, w_icmp_le, w_icmp_lt, w_iconst, w_if_eq, w_if_le, w_if_ne, w_iinc, w_iload, w_iload_n, w_ior, w_ishl, w_istore, w_isub, w_ixor, w_lload, w_lload_n, w_lstore, w_nop, w_return, w_swap, sa_34, sa_38, sg_15_1, sg_29_6, sg_2_1, sg_37_0, sg_37_1, sg_37_2, sg_37_3, cI_0, cI_1, cI_2, cI_m1, am_lk0, am_lk1, am_ld_some, am_isI_i, am_isJ_j, am_isR_r, am_st_eq, am_rmv_nil, am_rmv_t, am_rmv_i, am_rmv_r, sf_SH, sj_SH, sf_eq, sf_nk, sf_na, sf_sf, am_args_i, am_args_r, am_args_n, Nat.reduceAdd, List.cons_append, List.nil_append, Option.toList, List.drop_succ_cons, List.drop_zero, am_RP, am_CP, am_PH, Fin.isValue, Fin.val_zero, Fin.val_one, am_f2, am_f3, true_and, and_true, true_implies, false_implies, not_false_eq_true, ne_eq, nI_clampD, nI_leT, nI_leF, nI_ltT, nI_ltF, nI_eqT, nI_eqF, nI_lt0F, nI_0leT, nI_eq0T, nI_eq0F, nI_0ltT, nI_0ltF, nI_le0T, nI_le0F, nI_m1, nI_m1', m1_m1, m1_lt, m1_le, nI_mul, nI_add, nI_sub, nI_add1, nI_dec, nI_div, nI_mod, vp_inD, sf_nkD, sf_eqD, e8, e7]
          have hcl : Bp (I 38 (s2.length + 1) &&& (I 38 s2.length ^^^ -1)) (fun x => x ∈ p ∧ ∀ q, (p2 :: s2).head? = some q → x ∉ q) := (hpw.and hp2.not).cg (fun x _ => ⟨fun h0 => ⟨h0.1, fun q hq => (Option.some.inj hq) ▸ h0.2⟩, fun h0 => ⟨h0.1, h0.2 p2 rfl⟩⟩)
          refine w_virtP (c_X5_missingIn g (h + m + 1) I J hS hG _ uw u _ hcl hu) rfl rfl rfl (of_eq_true so_37) rfl (Nat.le_refl _) (Nat.le_refl _) ?_
          rintro R1 M1 ⟨mw, rfl, hmw, rfl⟩
          rw [hW] at hmw
          simp (decide := true) (disch := (first | exact eq_false (by decide) | exact eq_true (by decide) | decide | omega)) only [lX5_fillNext_0, lX5_fillNext_20, lX5_fillNext_33, lX5_fillNext_34, lX5_fillNext_74, lX5_fillNext_75, lX5_fillNext_93, bX5_fillNext_0, bX5_fillNext_20, bX5_fillNext_33, bX5_fillNext_34, bX5_fillNext_74, bX5_fillNext_75, bX5_fillNext_93, am_rmv_j, am_rmv_jt, am_args_j, am_st2_eq, am_rmw_n, am_rmw_t, am_rmw_f, (show qX5_fillNext.2.2.2.1 = none from rfl), am_rok_none, w_alen_38, w_alen_45, w_alen_55, w_alen_67, w_aload_n, w_getfield, w_goto, w_iadd, w_iaload, w_iand, w_iastore, w_icmp_ge, w_icmp_le, w_icmp_lt, w_iconst, w_if_eq, w_if_le, w_if_ne, w_iinc, w_iload, w_iload_n, w_ior, w_ishl, w_istore, w_isub, w_ixor, w_lload, w_lload_n, w_lstore, w_nop, w_return, w_swap, sa_34, sa_38, sg_15_1, sg_29_6, sg_2_1, sg_37_0, sg_37_1, sg_37_2, sg_37_3, cI_0, cI_1, cI_2, cI_m1, am_lk0, am_lk1, am_ld_some, am_isI_i, am_isJ_j, am_isR_r, am_st_eq, am_rmv_nil, am_rmv_t, am_rmv_i, am_rmv_r, sf_SH, sj_SH, sf_eq, sf_nk, sf_na, sf_sf, am_args_i, am_args_r, am_args_n, Nat.reduceAdd, List.cons_append, List.nil_append, Option.toList, List.drop_succ_cons, List.drop_zero, am_RP, am_CP, am_PH, Fin.isValue, Fin.val_zero, Fin.val_one, am_f2, am_f3, true_and, and_true, true_implies, false_implies, not_false_eq_true, ne_eq, nI_clampD, nI_leT, nI_leF, nI_ltT, nI_ltF, nI_eqT, nI_eqF, nI_lt0F, nI_0leT, nI_eq0T, nI_eq0F, nI_0ltT, nI_0ltF, nI_le0T, nI_le0F, nI_m1, nI_m1', m1_m1, m1_lt, m1_le, nI_mul, nI_add, nI_sub, nI_add1, nI_dec, nI_div, nI_mod, vp_inD, sf_nkD, sf_eqD]
          refine ⟨_, _, ?_, mk ww mw 0 I J (by omega) (FrF.rf _ _) (by rw [hR0]; exact LC.rf _ _) (by rw [hR0]; exact hc) hww hmw⟩
          · (simp (decide := true) only [am_has, am_lk0, am_lk1, and_self, true_and, and_true] <;> first | rfl | (refine ⟨?_, ?_⟩ <;> rfl) | (refine ⟨?_, ?_, ?_⟩ <;> rfl) | (refine ⟨?_, ?_, ?_, ?_⟩ <;> rfl))
      rw [hJJ] at hj
      clear hJJ
      obtain ⟨ww, mw, i, I1, J1, rfl, e1, e2, e3, e4, e5, e6, rfl, rfl, rfl, rfl, rfl, rfl⟩ := hj
      refine ⟨_, 90, rfl, rfl, ?_⟩
      have k1 : I1 2 1 = nI fs.length := by rw [e2.1 2 (by decide) (by decide)]; exact h1
      by_cases hib : i = fs.length
      · subst hib
        simp (decide := true) (disch := (first | exact eq_false (by decide) | exact eq_true (by decide) | decide | omega)) only [lX5_fillNext_93, lX5_fillNext_226, bX5_fillNext_93, bX5_fillNext_226, am_rmv_j, am_rmv_jt, am_args_j, am_st2_eq, am_rmw_n, am_rmw_t, am_rmw_f, (show qX5_fillNext.2.2.2.1 = none from rfl), am_rok_none, w_alen_38, w_alen_45, w_alen_55, w_alen_67, w_aload_n, w_getfield, w_goto, w_iadd, w_iaload, w_iand, w_iastore, w_icmp_ge, w_icmp_le, w_icmp_lt, w_iconst, w_if_eq, w_if_le, w_if_ne, w_iinc, w_iload, w_iload_n, w_ior, w_ishl, w_istore, w_isub, w_ixor, w_lload, w_lload_n, w_lstore, w_nop, w_return, w_swap, sa_34, sa_38, sg_15_1, sg_29_6, sg_2_1, sg_37_0, sg_37_1, sg_37_2, sg_37_3, cI_0, cI_1, cI_2, cI_m1, am_lk0, am_lk1, am_ld_some, am_isI_i, am_isJ_j, am_isR_r, am_st_eq, am_rmv_nil, am_rmv_t, am_rmv_i, am_rmv_r, sf_SH, sj_SH, sf_eq, sf_nk, sf_na, sf_sf, am_args_i, am_args_r, am_args_n, Nat.reduceAdd, List.cons_append, List.nil_append, Option.toList, List.drop_succ_cons, List.drop_zero, am_RP, am_CP, am_PH, Fin.isValue, Fin.val_zero, Fin.val_one, am_f2, am_f3, true_and, and_true, true_implies, false_implies, not_false_eq_true, ne_eq, nI_clampD, nI_leT, nI_leF, nI_ltT, nI_ltF, nI_eqT, nI_eqF, nI_lt0F, nI_0leT, nI_eq0T, nI_eq0F, nI_0ltT, nI_0ltF, nI_le0T, nI_le0F, nI_m1, nI_m1', m1_m1, m1_lt, m1_le, nI_mul, nI_add, nI_sub, nI_add1, nI_dec, nI_div, nI_mod, vp_inD, sf_nkD, sf_eqD, k1]
        exact ⟨I1, J1, rfl, e2, e3, e4⟩
      · have hS1 : SN L t fs I1 := hS.fr (fun c _ _ => e2.1 c (by omega) (by omega))
        have hG1 : GC fs cs I1 := hG.fr (e2.1 33 (by decide) (by decide)) (e2.1 34 (by decide) (by decide))
        have hW1 : wB I1 fs.length = W := by rw [wB_cg (e2.1 33 (by decide) (by decide))]; exact hW
        have hk := hS1.1.2.2.1 i (by omega)
        have hk6 := hS1.2.k6 (f := i) (by omega)
        have hdm := hG1.2 i (by omega)
        rw [hW1] at hdm
        have hno : ¬ rcls (kdF fs) W fs.length (p :: s) u i → R (i + 1) = R i := fun h0 => by rw [hR]; exact rls_f h0
        have back : ¬ rcls (kdF fs) W fs.length (p :: s) u i → JJ (fs.length - (i + 1)) 93 [(0, .ref 37), (1, .int (nI (fs.length - (m + 1)))), (2, .int (nI (s.length + 1))), (3, .long x), (5, .int uw), (6, .int ow), (7, .int (I 38 s.length)), (8, .int ww), (10, .int mw), (11, .int (nI (i + 1)))] [] (am_SH, I1, J1) 0 0 := fun h0 => mk ww mw (i + 1) I1 J1 (by omega) e2 (by rw [hno h0]; exact e3) (by rw [hno h0]; exact e4) e5 e6
        have hwi := e5 i (by omega)
        simp (decide := true) (disch := (first | exact eq_false (by decide) | exact eq_true (by decide) | decide | omega)) only [lX5_fillNext_93, lX5_fillNext_137, lX5_fillNext_138, lX5_fillNext_220, lX5_fillNext_226, bX5_fillNext_93, bX5_fillNext_137, bX5_fillNext_138, bX5_fillNext_220, bX5_fillNext_226, am_rmv_j, am_rmv_jt, am_args_j, am_st2_eq, am_rmw_n, am_rmw_t, am_rmw_f, (show qX5_fillNext.2.2.2.1 = none from rfl), am_rok_none, w_alen_38, w_alen_45, w_alen_55, w_alen_67, w_aload_n, w_getfield, w_goto, w_iadd, w_iaload, w_iand, w_iastore, w_icmp_ge, w_icmp_le, w_icmp_lt, w_iconst, w_if_eq, w_if_le, w_if_ne, w_iinc, w_iload, w_iload_n, w_ior, w_ishl, w_istore, w_isub, w_ixor, w_lload, w_lload_n, w_lstore, w_nop, w_return, w_swap, sa_34, sa_38, sg_15_1, sg_29_6, sg_2_1, sg_37_0, sg_37_1, sg_37_2, sg_37_3, cI_0, cI_1, cI_2, cI_m1, am_lk0, am_lk1, am_ld_some, am_isI_i, am_isJ_j, am_isR_r, am_st_eq, am_rmv_nil, am_rmv_t, am_rmv_i, am_rmv_r, sf_SH, sj_SH, sf_eq, sf_nk, sf_na, sf_sf, am_args_i, am_args_r, am_args_n, Nat.reduceAdd, List.cons_append, List.nil_append, Option.toList, List.drop_succ_cons, List.drop_zero, am_RP, am_CP, am_PH, Fin.isValue, Fin.val_zero, Fin.val_one, am_f2, am_f3, true_and, and_true, true_implies, false_implies, not_false_eq_true, ne_eq, nI_clampD, nI_leT, nI_leF, nI_ltT, nI_ltF, nI_eqT, nI_eqF, nI_lt0F, nI_0leT, nI_eq0T, nI_eq0F, nI_0ltT, nI_0ltF, nI_le0T, nI_le0F, nI_m1, nI_m1', m1_m1, m1_lt, m1_le, nI_mul, nI_add, nI_sub, nI_add1, nI_dec, nI_div, nI_mod, vp_inD, sf_nkD, sf_eqD, k1]
        refine w_statE (c_X9_isIn g (h + m + 2) I1 J1 ww i (by omega)) (by decide) rfl rfl rfl (Nat.le_refl _) (Nat.le_refl _) ?_
        cases hb : ib ww i with
        | false =>
          have hnot : ¬ rcls (kdF fs) W fs.length (p :: s) u i := fun h0 => by
            rw [hwi.mpr ⟨by omega, h0.1, fun x hx _ => h0.2.1 x hx⟩] at hb
            cases hb
          simp (decide := true) (disch := (first | exact eq_false (by decide) | exact eq_true (by decide) | decide | omega)) only [lX5_fillNext_93, lX5_fillNext_137, lX5_fillNext_138, lX5_fillNext_220, lX5_fillNext_226, bX5_fillNext_93, bX5_fillNext_137, bX5_fillNext_138, bX5_fillNext_220, bX5_fillNext_226, am_rmv_j, am_rmv_jt, am_args_j, am_st2_eq, am_rmw_n, am_rmw_t, am_rmw_f, (show qX5_fillNext.2.2.2.1 = none from rfl), am_rok_none, w_alen_38, w_alen_45, w_alen_55, w_alen_67, w_aload_n, w_getfield, w_goto, w_iadd, w_iaload, w_iand, w_iastore, w_icmp_ge, w_icmp_le, w_icmp_lt, w_iconst, w_if_eq, w_if_le, w_if_ne, w_iinc, w_iload, w_iload_n, w_ior, w_ishl, w_istore, w_isub, w_ixor, w_lload, w_lload_n, w_lstore, w_nop, w_return, w_swap, sa_34, sa_38, sg_15_1, sg_29_6, sg_2_1, sg_37_0, sg_37_1, sg_37_2, sg_37_3, cI_0, cI_1, cI_2, cI_m1, am_lk0, am_lk1, am_ld_some, am_isI_i, am_isJ_j, am_isR_r, am_st_eq, am_rmv_nil, am_rmv_t, am_rmv_i, am_rmv_r, sf_SH, sj_SH, sf_eq, sf_nk, sf_na, sf_sf, am_args_i, am_args_r, am_args_n, Nat.reduceAdd, List.cons_append, List.nil_append, Option.toList, List.drop_succ_cons, List.drop_zero, am_RP, am_CP, am_PH, Fin.isValue, Fin.val_zero, Fin.val_one, am_f2, am_f3, true_and, and_true, true_implies, false_implies, not_false_eq_true, ne_eq, nI_clampD, nI_leT, nI_leF, nI_ltT, nI_ltF, nI_eqT, nI_eqF, nI_lt0F, nI_0leT, nI_eq0T, nI_eq0F, nI_0ltT, nI_0ltF, nI_le0T, nI_le0F, nI_m1, nI_m1', m1_m1, m1_lt, m1_le, nI_mul, nI_add, nI_sub, nI_add1, nI_dec, nI_div, nI_mod, vp_inD, sf_nkD, sf_eqD, bI_f]
          refine ⟨_, _, ?_, ?_, back hnot⟩
          · omega
          · (simp (decide := true) only [am_has, am_lk0, am_lk1, and_self, true_and, and_true] <;> first | rfl | (refine ⟨?_, ?_⟩ <;> rfl) | (refine ⟨?_, ?_, ?_⟩ <;> rfl) | (refine ⟨?_, ?_, ?_, ?_⟩ <;> rfl))
        | true =>
          have hwi := hwi.mp hb
          have hz := (hdm.and hpw.not).z
          by_cases hd : I1 34 i &&& (I 38 s.length ^^^ -1) = 0
          · have hz := hz.mp hd
            have hz' : ∀ x, W x i = true → x ∈ p := fun x hx => Classical.byContradiction fun h9 => hz x (by rw [← hW1] at hx; have := (wB_t.mp hx).1; omega) ⟨hx, h9⟩
            simp (decide := true) (disch := (first | exact eq_false (by decide) | exact eq_true (by decide) | decide | omega)) only [lX5_fillNext_93, lX5_fillNext_137, lX5_fillNext_138, lX5_fillNext_220, lX5_fillNext_226, bX5_fillNext_93, bX5_fillNext_137, bX5_fillNext_138, bX5_fillNext_220, bX5_fillNext_226, am_rmv_j, am_rmv_jt, am_args_j, am_st2_eq, am_rmw_n, am_rmw_t, am_rmw_f, (show qX5_fillNext.2.2.2.1 = none from rfl), am_rok_none, w_alen_38, w_alen_45, w_alen_55, w_alen_67, w_aload_n, w_getfield, w_goto, w_iadd, w_iaload, w_iand, w_iastore, w_icmp_ge, w_icmp_le, w_icmp_lt, w_iconst, w_if_eq, w_if_le, w_if_ne, w_iinc, w_iload, w_iload_n, w_ior, w_ishl, w_istore, w_isub, w_ixor, w_lload, w_lload_n, w_lstore, w_nop, w_return, w_swap, sa_34, sa_38, sg_15_1, sg_29_6, sg_2_1, sg_37_0, sg_37_1, sg_37_2, sg_37_3, cI_0, cI_1, cI_2, cI_m1, am_lk0, am_lk1, am_ld_some, am_isI_i, am_isJ_j, am_isR_r, am_st_eq, am_rmv_nil, am_rmv_t, am_rmv_i, am_rmv_r, sf_SH, sj_SH, sf_eq, sf_nk, sf_na, sf_sf, am_args_i, am_args_r, am_args_n, Nat.reduceAdd, List.cons_append, List.nil_append, Option.toList, List.drop_succ_cons, List.drop_zero, am_RP, am_CP, am_PH, Fin.isValue, Fin.val_zero, Fin.val_one, am_f2, am_f3, true_and, and_true, true_implies, false_implies, not_false_eq_true, ne_eq, nI_clampD, nI_leT, nI_leF, nI_ltT, nI_ltF, nI_eqT, nI_eqF, nI_lt0F, nI_0leT, nI_eq0T, nI_eq0F, nI_0ltT, nI_0ltF, nI_le0T, nI_le0F, nI_m1, nI_m1', m1_m1, m1_lt, m1_le, nI_mul, nI_add, nI_sub, nI_add1, nI_dec, nI_div, nI_mod, vp_inD, sf_nkD, sf_eqD, bI_t, hd]
            refine w_virtP (c_X5_leavesNoneOut g (h + m + 1) I1 J1 i (kF (nF fs i)) ww mw (by omega) hk hk6) rfl rfl rfl (of_eq_true so_37) rfl (Nat.le_refl _) (Nat.le_refl _) ?_
            rintro R1 M1 ⟨b, rfl, hbb, rfl⟩
            have hcl : b = true ↔ rcls (kdF fs) W fs.length (p :: s) u i := by
              rw [hbb]
              unfold rcls
              have hw33 : ∀ y g, y < 2 * fs.length → g < 32 → (ib (I1 33 y) g = true ↔ W y g = true) := fun y g hy hg => by
                rw [← hW1, wB_t]
                exact ⟨fun h0 => ⟨hy, hG1.1.2.2 y hy g hg h0, h0⟩, fun h0 => h0.2.2⟩
              constructor
              · intro h0
                refine ⟨hwi.2.1, hz', ?_⟩
                by_cases hk0 : kF (nF fs i) = 0
                · rw [if_pos hk0] at h0
                  rw [if_pos (show kdF fs i = 0 from hk0)]
                  intro g hg hgu hx
                  exact h0 g (by omega) ((e6 g (by omega)).mpr ⟨hg, hgu, hx⟩)
                · rw [if_neg hk0] at h0
                  rw [if_neg (show ¬ kdF fs i = 0 from hk0)]
                  intro g hg hgw
                  rw [← hw33 (2 * i) g (by omega) (by omega), ← hw33 (2 * i + 1) g (by omega) (by omega)] at hgw
                  exact ((e5 g (by omega)).mp (h0 g (by omega) hgw)).2
              · intro h0
                have h0 := h0.2.2
                by_cases hk0 : kF (nF fs i) = 0
                · rw [if_pos hk0]
                  rw [if_pos (show kdF fs i = 0 from hk0)] at h0
                  intro g hg hgb
                  have h9 := (e6 g hg).mp hgb
                  exact h0 g h9.1 h9.2.1 h9.2.2
                · rw [if_neg hk0]
                  rw [if_neg (show ¬ kdF fs i = 0 from hk0)] at h0
                  intro g hg hgb
                  rw [hw33 (2 * i) g (by omega) hg, hw33 (2 * i + 1) g (by omega) hg] at hgb
                  have hgn : g < fs.length := by
                    rcases hgb with h9 | h9
                    · rw [← hW1] at h9; exact (wB_t.mp h9).2.1
                    · rw [← hW1] at h9; exact (wB_t.mp h9).2.1
                  have h9 := h0 g hgn hgb
                  exact (e5 g hg).mpr ⟨hgn, h9.1, h9.2⟩
            cases b with
            | false =>
              have hnot : ¬ rcls (kdF fs) W fs.length (p :: s) u i := fun h0 => by have := hcl.mpr h0; cases this
              simp (decide := true) (disch := (first | exact eq_false (by decide) | exact eq_true (by decide) | decide | omega)) only [lX5_fillNext_93, lX5_fillNext_137, lX5_fillNext_138, lX5_fillNext_220, lX5_fillNext_226, bX5_fillNext_93, bX5_fillNext_137, bX5_fillNext_138, bX5_fillNext_220, bX5_fillNext_226, am_rmv_j, am_rmv_jt, am_args_j, am_st2_eq, am_rmw_n, am_rmw_t, am_rmw_f, (show qX5_fillNext.2.2.2.1 = none from rfl), am_rok_none, w_alen_38, w_alen_45, w_alen_55, w_alen_67, w_aload_n, w_getfield, w_goto, w_iadd, w_iaload, w_iand, w_iastore, w_icmp_ge, w_icmp_le, w_icmp_lt, w_iconst, w_if_eq, w_if_le, w_if_ne, w_iinc, w_iload, w_iload_n, w_ior, w_ishl, w_istore, w_isub, w_ixor, w_lload, w_lload_n, w_lstore, w_nop, w_return, w_swap, sa_34, sa_38, sg_15_1, sg_29_6, sg_2_1, sg_37_0, sg_37_1, sg_37_2, sg_37_3, cI_0, cI_1, cI_2, cI_m1, am_lk0, am_lk1, am_ld_some, am_isI_i, am_isJ_j, am_isR_r, am_st_eq, am_rmv_nil, am_rmv_t, am_rmv_i, am_rmv_r, sf_SH, sj_SH, sf_eq, sf_nk, sf_na, sf_sf, am_args_i, am_args_r, am_args_n, Nat.reduceAdd, List.cons_append, List.nil_append, Option.toList, List.drop_succ_cons, List.drop_zero, am_RP, am_CP, am_PH, Fin.isValue, Fin.val_zero, Fin.val_one, am_f2, am_f3, true_and, and_true, true_implies, false_implies, not_false_eq_true, ne_eq, nI_clampD, nI_leT, nI_leF, nI_ltT, nI_ltF, nI_eqT, nI_eqF, nI_lt0F, nI_0leT, nI_eq0T, nI_eq0F, nI_0ltT, nI_0ltF, nI_le0T, nI_le0F, nI_m1, nI_m1', m1_m1, m1_lt, m1_le, nI_mul, nI_add, nI_sub, nI_add1, nI_dec, nI_div, nI_mod, vp_inD, sf_nkD, sf_eqD, bI_f]
              refine ⟨_, _, ?_, ?_, back hnot⟩
              · omega
              · (simp (decide := true) only [am_has, am_lk0, am_lk1, and_self, true_and, and_true] <;> first | rfl | (refine ⟨?_, ?_⟩ <;> rfl) | (refine ⟨?_, ?_, ?_⟩ <;> rfl) | (refine ⟨?_, ?_, ?_, ?_⟩ <;> rfl))
            | true =>
              have hyes := hcl.mp rfl
              have hRs : R (i + 1) = R i ++ (rdf (kdF fs) fs.length (rcls (kdF fs) W fs.length) m (rp (kdF fs) i p ++ s) (i :: u)).map (i :: ·) := by rw [hR]; exact rls_t hyes
              have hRl := hRle (show i + 1 ≤ fs.length by omega)
              rw [hRs, List.length_append, List.length_map] at hRl
              have hr2 := rk_le (kF (nF fs i))
              simp (decide := true) (disch := (first | exact eq_false (by decide) | exact eq_true (by decide) | decide | omega)) only [lX5_fillNext_93, lX5_fillNext_137, lX5_fillNext_138, lX5_fillNext_220, lX5_fillNext_226, bX5_fillNext_93, bX5_fillNext_137, bX5_fillNext_138, bX5_fillNext_220, bX5_fillNext_226, am_rmv_j, am_rmv_jt, am_args_j, am_st2_eq, am_rmw_n, am_rmw_t, am_rmw_f, (show qX5_fillNext.2.2.2.1 = none from rfl), am_rok_none, w_alen_38, w_alen_45, w_alen_55, w_alen_67, w_aload_n, w_getfield, w_goto, w_iadd, w_iaload, w_iand, w_iastore, w_icmp_ge, w_icmp_le, w_icmp_lt, w_iconst, w_if_eq, w_if_le, w_if_ne, w_iinc, w_iload, w_iload_n, w_ior, w_ishl, w_istore, w_isub, w_ixor, w_lload, w_lload_n, w_lstore, w_nop, w_return, w_swap, sa_34, sa_38, sg_15_1, sg_29_6, sg_2_1, sg_37_0, sg_37_1, sg_37_2, sg_37_3, cI_0, cI_1, cI_2, cI_m1, am_lk0, am_lk1, am_ld_some, am_isI_i, am_isJ_j, am_isR_r, am_st_eq, am_rmv_nil, am_rmv_t, am_rmv_i, am_rmv_r, sf_SH, sj_SH, sf_eq, sf_nk, sf_na, sf_sf, am_args_i, am_args_r, am_args_n, Nat.reduceAdd, List.cons_append, List.nil_append, Option.toList, List.drop_succ_cons, List.drop_zero, am_RP, am_CP, am_PH, Fin.isValue, Fin.val_zero, Fin.val_one, am_f2, am_f3, true_and, and_true, true_implies, false_implies, not_false_eq_true, ne_eq, nI_clampD, nI_leT, nI_leF, nI_ltT, nI_ltF, nI_eqT, nI_eqF, nI_lt0F, nI_0leT, nI_eq0T, nI_eq0F, nI_0ltT, nI_0ltF, nI_le0T, nI_le0F, nI_m1, nI_m1', m1_m1, m1_lt, m1_le, nI_mul, nI_add, nI_sub, nI_add1, nI_dec, nI_div, nI_mod, vp_inD, sf_nkD, sf_eqD, bI_t, Nat.add_sub_cancel]
              refine w_virtP (c_X5_openHoles g (h + m + 1) I1 J1 i (kF (nF fs i)) s.length (I 38 s.length) p (by omega) hk hk6 hpw (by omega)) rfl rfl rfl (of_eq_true so_37) rfl (Nat.le_refl _) (Nat.le_refl _) ?_
              rintro R1 M1 ⟨rfl, I2, rfl, q1, q2, q3⟩
              have hk2 : I2 4 i = nI (kF (nF fs i)) := by rw [q1 4 (by decide)]; exact hk
              simp (decide := true) (disch := (first | exact eq_false (by decide) | exact eq_true (by decide) | decide | omega)) only [lX5_fillNext_93, lX5_fillNext_137, lX5_fillNext_138, lX5_fillNext_220, lX5_fillNext_226, bX5_fillNext_93, bX5_fillNext_137, bX5_fillNext_138, bX5_fillNext_220, bX5_fillNext_226, am_rmv_j, am_rmv_jt, am_args_j, am_st2_eq, am_rmw_n, am_rmw_t, am_rmw_f, (show qX5_fillNext.2.2.2.1 = none from rfl), am_rok_none, w_alen_38, w_alen_45, w_alen_55, w_alen_67, w_aload_n, w_getfield, w_goto, w_iadd, w_iaload, w_iand, w_iastore, w_icmp_ge, w_icmp_le, w_icmp_lt, w_iconst, w_if_eq, w_if_le, w_if_ne, w_iinc, w_iload, w_iload_n, w_ior, w_ishl, w_istore, w_isub, w_ixor, w_lload, w_lload_n, w_lstore, w_nop, w_return, w_swap, sa_34, sa_38, sg_15_1, sg_29_6, sg_2_1, sg_37_0, sg_37_1, sg_37_2, sg_37_3, cI_0, cI_1, cI_2, cI_m1, am_lk0, am_lk1, am_ld_some, am_isI_i, am_isJ_j, am_isR_r, am_st_eq, am_rmv_nil, am_rmv_t, am_rmv_i, am_rmv_r, sf_SH, sj_SH, sf_eq, sf_nk, sf_na, sf_sf, am_args_i, am_args_r, am_args_n, Nat.reduceAdd, List.cons_append, List.nil_append, Option.toList, List.drop_succ_cons, List.drop_zero, am_RP, am_CP, am_PH, Fin.isValue, Fin.val_zero, Fin.val_one, am_f2, am_f3, true_and, and_true, true_implies, false_implies, not_false_eq_true, ne_eq, nI_clampD, nI_leT, nI_leF, nI_ltT, nI_ltF, nI_eqT, nI_eqF, nI_lt0F, nI_0leT, nI_eq0T, nI_eq0F, nI_0ltT, nI_0ltF, nI_le0T, nI_le0F, nI_m1, nI_m1', m1_m1, m1_lt, m1_le, nI_mul, nI_add, nI_sub, nI_add1, nI_dec, nI_div, nI_mod, vp_inD, sf_nkD, sf_eqD]
              refine w_virtP (c_X5_holesIn g (h + m + 1) I2 J1 i (kF (nF fs i)) (by omega) hk2 hk6) rfl rfl rfl (of_eq_true so_37) rfl (Nat.le_refl _) (Nat.le_refl _) ?_
              rintro R1 M1 ⟨hw, rfl, hhw, rfl⟩
              simp (decide := true) (disch := (first | exact eq_false (by decide) | exact eq_true (by decide) | decide | omega)) only [lX5_fillNext_93, lX5_fillNext_137, lX5_fillNext_138, lX5_fillNext_220, lX5_fillNext_226, bX5_fillNext_93, bX5_fillNext_137, bX5_fillNext_138, bX5_fillNext_220, bX5_fillNext_226, am_rmv_j, am_rmv_jt, am_args_j, am_st2_eq, am_rmw_n, am_rmw_t, am_rmw_f, (show qX5_fillNext.2.2.2.1 = none from rfl), am_rok_none, w_alen_38, w_alen_45, w_alen_55, w_alen_67, w_aload_n, w_getfield, w_goto, w_iadd, w_iaload, w_iand, w_iastore, w_icmp_ge, w_icmp_le, w_icmp_lt, w_iconst, w_if_eq, w_if_le, w_if_ne, w_iinc, w_iload, w_iload_n, w_ior, w_ishl, w_istore, w_isub, w_ixor, w_lload, w_lload_n, w_lstore, w_nop, w_return, w_swap, sa_34, sa_38, sg_15_1, sg_29_6, sg_2_1, sg_37_0, sg_37_1, sg_37_2, sg_37_3, cI_0, cI_1, cI_2, cI_m1, am_lk0, am_lk1, am_ld_some, am_isI_i, am_isJ_j, am_isR_r, am_st_eq, am_rmv_nil, am_rmv_t, am_rmv_i, am_rmv_r, sf_SH, sj_SH, sf_eq, sf_nk, sf_na, sf_sf, am_args_i, am_args_r, am_args_n, Nat.reduceAdd, List.cons_append, List.nil_append, Option.toList, List.drop_succ_cons, List.drop_zero, am_RP, am_CP, am_PH, Fin.isValue, Fin.val_zero, Fin.val_one, am_f2, am_f3, true_and, and_true, true_implies, false_implies, not_false_eq_true, ne_eq, nI_clampD, nI_leT, nI_leF, nI_ltT, nI_ltF, nI_eqT, nI_eqF, nI_lt0F, nI_0leT, nI_eq0T, nI_eq0F, nI_0ltT, nI_0ltF, nI_le0T, nI_le0F, nI_m1, nI_m1', m1_m1, m1_lt, m1_le, nI_mul, nI_add, nI_sub, nI_add1, nI_dec, nI_div, nI_mod, vp_inD, sf_nkD, sf_eqD]
              refine w_statE (c_X6_extend g (h + m + 2) I2 J1 x i) (by decide) rfl rfl rfl (Nat.le_refl _) (Nat.le_refl _) ?_
              have e7 : fs.length - (m + 1) + 1 = fs.length - m := by omega
              simp (decide := true) (disch := (first | exact eq_false (by decide) | exact eq_true (by decide) | decide | omega)) only [lX5_fillNext_93, lX5_fillNext_137, lX5_fillNext_138, lX5_fillNext_220, lX5_fillNext_226, bX5_fillNext_93, bX5_fillNext_137, bX5_fillNext_138, bX5_fillNext_220, bX5_fillNext_226, am_rmv_j, am_rmv_jt, am_args_j, am_st2_eq, am_rmw_n, am_rmw_t, am_rmw_f, (show qX5_fillNext.2.2.2.1 = none from rfl), am_rok_none, w_alen_38, w_alen_45, w_alen_55, w_alen_67, w_aload_n, w_getfield, w_goto, w_iadd, w_iaload, w_iand, w_iastore, w_icmp_ge, w_icmp_le, w_icmp_lt, w_iconst, w_if_eq, w_if_le, w_if_ne, w_iinc, w_iload, w_iload_n, w_ior, w_ishl, w_istore, w_isub, w_ixor, w_lload, w_lload_n, w_lstore, w_nop, w_return, w_swap, sa_34, sa_38, sg_15_1, sg_29_6, sg_2_1, sg_37_0, sg_37_1, sg_37_2, sg_37_3, cI_0, cI_1, cI_2, cI_m1, am_lk0, am_lk1, am_ld_some, am_isI_i, am_isJ_j, am_isR_r, am_st_eq, am_rmv_nil, am_rmv_t, am_rmv_i, am_rmv_r, sf_SH, sj_SH, sf_eq, sf_nk, sf_na, sf_sf, am_args_i, am_args_r, am_args_n, Nat.reduceAdd, List.cons_append, List.nil_append, Option.toList, List.drop_succ_cons, List.drop_zero, am_RP, am_CP, am_PH, Fin.isValue, Fin.val_zero, Fin.val_one, am_f2, am_f3, true_and, and_true, true_implies, false_implies, not_false_eq_true, ne_eq, nI_clampD, nI_leT, nI_leF, nI_ltT, nI_ltF, nI_eqT, nI_eqF, nI_lt0F, nI_0leT, nI_eq0T, nI_eq0F, nI_0ltT, nI_0ltF, nI_le0T, nI_le0F, nI_m1, nI_m1', m1_m1, m1_lt, m1_le, nI_mul, nI_add, nI_sub, nI_add1, nI_dec, nI_div, nI_mod, vp_inD, sf_nkD, sf_eqD, e7]
              have hlen : s.length + rk (kF (nF fs i)) = (rp (kdF fs) i p ++ s).length := by rw [List.length_append, rp_len, rk_rh]; omega
              have hS2 : SN L t fs I2 := hS1.fr (fun c _ _ => q1 c (by omega))
              have hG2 : GC fs cs I2 := hG1.fr (q1 33 (by decide)) (q1 34 (by decide))
              have hW2 : wB I2 fs.length = W := by rw [wB_cg (q1 33 (by decide))]; exact hW1
              have hPT2 : PT (rp (kdF fs) i p ++ s) I2 := PT_rp (hp.fr (I' := I1) (fun j hj => e2.2 j hj)) q2 q3
              rw [hlen]
              refine w_virtP (ih h (rp (kdF fs) i p ++ s) (i :: u) (ex x i) (c + (R i).length) I2 J1 (uw ||| nI 1 <<< (nI i &&& 31)) (ow ||| hw) hS2 hG2 hW2 (by omega) (by omega) hPT2 ((hu.add (k := i) (by omega)).cg (fun y _ => by rw [List.mem_cons]; exact or_comm)) ((ho.or hhw).cg (fun y _ => ropen_s.symm)) (by rw [q1 35 (by decide)]; exact e4) (by omega)) rfl rfl rfl (of_eq_true so_37) rfl (Nat.le_refl _) (Nat.le_refl _) ?_
              rintro R1 M1 ⟨rfl, I3, J3, rfl, f1, f2, f3⟩
              simp (decide := true) (disch := (first | exact eq_false (by decide) | exact eq_true (by decide) | decide | omega)) only [lX5_fillNext_93, lX5_fillNext_137, lX5_fillNext_138, lX5_fillNext_220, lX5_fillNext_226, bX5_fillNext_93, bX5_fillNext_137, bX5_fillNext_138, bX5_fillNext_220, bX5_fillNext_226, am_rmv_j, am_rmv_jt, am_args_j, am_st2_eq, am_rmw_n, am_rmw_t, am_rmw_f, (show qX5_fillNext.2.2.2.1 = none from rfl), am_rok_none, w_alen_38, w_alen_45, w_alen_55, w_alen_67, w_aload_n, w_getfield, w_goto, w_iadd, w_iaload, w_iand, w_iastore, w_icmp_ge, w_icmp_le, w_icmp_lt, w_iconst, w_if_eq, w_if_le, w_if_ne, w_iinc, w_iload, w_iload_n, w_ior, w_ishl, w_istore, w_isub, w_ixor, w_lload, w_lload_n, w_lstore, w_nop, w_return, w_swap, sa_34, sa_38, sg_15_1, sg_29_6, sg_2_1, sg_37_0, sg_37_1, sg_37_2, sg_37_3, cI_0, cI_1, cI_2, cI_m1, am_lk0, am_lk1, am_ld_some, am_isI_i, am_isJ_j, am_isR_r, am_st_eq, am_rmv_nil, am_rmv_t, am_rmv_i, am_rmv_r, sf_SH, sj_SH, sf_eq, sf_nk, sf_na, sf_sf, am_args_i, am_args_r, am_args_n, Nat.reduceAdd, List.cons_append, List.nil_append, Option.toList, List.drop_succ_cons, List.drop_zero, am_RP, am_CP, am_PH, Fin.isValue, Fin.val_zero, Fin.val_one, am_f2, am_f3, true_and, and_true, true_implies, false_implies, not_false_eq_true, ne_eq, nI_clampD, nI_leT, nI_leF, nI_ltT, nI_ltF, nI_eqT, nI_eqF, nI_lt0F, nI_0leT, nI_eq0T, nI_eq0F, nI_0ltT, nI_0ltF, nI_le0T, nI_le0F, nI_m1, nI_m1', m1_m1, m1_lt, m1_le, nI_mul, nI_add, nI_sub, nI_add1, nI_dec, nI_div, nI_mod, vp_inD, sf_nkD, sf_eqD, Nat.add_sub_cancel]
              refine ⟨_, _, ?_, ?_, mk ww mw (i + 1) _ J3 (by omega) ⟨fun c d1 d2 => ?_, fun j hj => ?_⟩ ?_ ?_ e5 e6⟩
              · omega
              · (simp (decide := true) only [am_has, am_lk0, am_lk1, and_self, true_and, and_true] <;> first | rfl | (refine ⟨?_, ?_⟩ <;> rfl) | (refine ⟨?_, ?_, ?_⟩ <;> rfl) | (refine ⟨?_, ?_, ?_, ?_⟩ <;> rfl))
              · rw [sf_naD d2, f1.1 c d1 d2, q1 c d2, e2.1 c d1 d2]
              · by_cases hjs : j = s.length
                · rw [sf_eqD hjs, hjs]
                · rw [sf_nkD hjs, f1.2 j (by omega), q2 j (by omega), e2.2 j (by omega)]
              · rw [hRs, List.map_append, List.map_map]
                refine e3.tr ?_
                rw [List.length_map]
                exact f2
              · rw [sf_naD (by decide), f3, hRs, List.length_append, List.length_map, Nat.add_assoc]
          · have hnot : ¬ rcls (kdF fs) W fs.length (p :: s) u i := fun h0 => hd (hz.mpr (fun x _ h9 => h9.2 (h0.2.1 x h9.1)))
            simp (decide := true) (disch := (first | exact eq_false (by decide) | exact eq_true (by decide) | decide | omega)) only [lX5_fillNext_93, lX5_fillNext_137, lX5_fillNext_138, lX5_fillNext_220, lX5_fillNext_226, bX5_fillNext_93, bX5_fillNext_137, bX5_fillNext_138, bX5_fillNext_220, bX5_fillNext_226, am_rmv_j, am_rmv_jt, am_args_j, am_st2_eq, am_rmw_n, am_rmw_t, am_rmw_f, (show qX5_fillNext.2.2.2.1 = none from rfl), am_rok_none, w_alen_38, w_alen_45, w_alen_55, w_alen_67, w_aload_n, w_getfield, w_goto, w_iadd, w_iaload, w_iand, w_iastore, w_icmp_ge, w_icmp_le, w_icmp_lt, w_iconst, w_if_eq, w_if_le, w_if_ne, w_iinc, w_iload, w_iload_n, w_ior, w_ishl, w_istore, w_isub, w_ixor, w_lload, w_lload_n, w_lstore, w_nop, w_return, w_swap, sa_34, sa_38, sg_15_1, sg_29_6, sg_2_1, sg_37_0, sg_37_1, sg_37_2, sg_37_3, cI_0, cI_1, cI_2, cI_m1, am_lk0, am_lk1, am_ld_some, am_isI_i, am_isJ_j, am_isR_r, am_st_eq, am_rmv_nil, am_rmv_t, am_rmv_i, am_rmv_r, sf_SH, sj_SH, sf_eq, sf_nk, sf_na, sf_sf, am_args_i, am_args_r, am_args_n, Nat.reduceAdd, List.cons_append, List.nil_append, Option.toList, List.drop_succ_cons, List.drop_zero, am_RP, am_CP, am_PH, Fin.isValue, Fin.val_zero, Fin.val_one, am_f2, am_f3, true_and, and_true, true_implies, false_implies, not_false_eq_true, ne_eq, nI_clampD, nI_leT, nI_leF, nI_ltT, nI_ltF, nI_eqT, nI_eqF, nI_lt0F, nI_0leT, nI_eq0T, nI_eq0F, nI_0ltT, nI_0ltF, nI_le0T, nI_le0F, nI_m1, nI_m1', m1_m1, m1_lt, m1_le, nI_mul, nI_add, nI_sub, nI_add1, nI_dec, nI_div, nI_mod, vp_inD, sf_nkD, sf_eqD, bI_t, hd]
            refine ⟨_, _, ?_, ?_, back hnot⟩
            · omega
            · (simp (decide := true) only [am_has, am_lk0, am_lk1, and_self, true_and, and_true] <;> first | rfl | (refine ⟨?_, ?_⟩ <;> rfl) | (refine ⟨?_, ?_, ?_⟩ <;> rfl) | (refine ⟨?_, ?_, ?_, ?_⟩ <;> rfl))
end FI2
