/-! the reference tells a reading: the loop -/
def FrVm (I I' : Nat → Nat → Int32) : Prop := (∀ c, c ≠ 60 → c < 84 ∨ 86 < c → I' c = I c) ∧ ∀ k, k ≠ 39 → I' 60 k = I 60 k
theorem FrVm.v {I I' I'' : Nat → Nat → Int32} (h : FrVm I I') (h2 : FrV I' I'') : FrVm I I'' := ⟨fun c d1 d2 => (h2.1 c d1 (by omega)).trans (h.1 c d1 d2), fun k d => (h2.2 k d).trans (h.2 k d)⟩
theorem FrVm.st {I I' : Nat → Nat → Int32} (h : FrVm I I') {a k : Nat} {v : Int32} (ha : a = 85 ∨ a = 86) : FrVm I (sf I' a k v) := ⟨fun c d1 d2 => by rw [sf_naD (by omega)]; exact h.1 c d1 d2, fun j d => by rw [sf_naD (by omega)]; exact h.2 j d⟩
theorem OUTm.fr {xs : List Nat} {I I' : Nat → Nat → Int32} (h : OUTm xs I) (h1 : I' 60 39 = I 60 39) (h2 : I' 84 = I 84) : OUTm xs I' := by
  unfold OUTm
  rw [h1, h2]
  exact h
def okF (fs : List Fg) (S : List (Nat × Nat)) : Prop := ∀ q ∈ S, q.1 < fs.length ∧ q.2 < rk (kF (nF fs q.1))
def okT (fs : List Fg) (S : List (Nat × Nat)) : Prop := match S with
  | [] => True
  | q :: S' => q.1 < fs.length ∧ q.2 ≤ rk (kF (nF fs q.1)) ∧ okF fs S'
section MG1
variable (g : am_G) (h : Nat) (I : Nat → Nat → Int32) (J : Nat → Nat → Int64) {L : Nat → Nat} {t : Nat} {fs : List Fg} {i : Nat} {o : List Nat} {l : List (Nat × List Nat)}
set_option maxRecDepth 100000 in
set_option maxHeartbeats 8000000 in
theorem c_X10_tellsReading (hS : SMd L t fs I) (hG : Good L t fs) (hW : WD I) (hR : Rdg fs i o l I) (hlen : (fmA L fs l (o.getD 0 0)).length ≤ 390) :
    am_Ctr g am_mt 1 (h + 3) 185 [.ref 60, .int (nI i)] (am_SH, I, J) 0 0 (fun r M => r = none ∧ ∃ I', M = (am_SH, I', J) ∧ FrVm I I' ∧ OUTm (fmA L fs l (o.getD 0 0)) I') := by
  have hn := hG.le
  have hn0 := hG.1
  have hO := hR.ord
  have hol : o.length = fs.length := hO.2.2.1
  have hi := hR.2.2.2.2.2
  have h16 : I 60 16 = nI fs.length := hS.1
  obtain ⟨FM, hFM⟩ : ∃ FM, FM = fmA L fs l (o.getD 0 0) := ⟨_, rfl⟩
  rw [← hFM] at hlen ⊢
  obtain ⟨JJ, hJJ⟩ : ∃ JJ : Nat → am_Cut, JJ = (fun zu zpc zl zst zM zk zn => (∃ (k : Nat) (S : List (Nat × Nat)) (xs : List Nat) (st : List (List Nat)) (I1 : Nat → Nat → Int32), zu = 1000 * (fs.length - k) ∧ (k ≤ fs.length ∧ S.length ≤ k) ∧ (FrVm I I1) ∧ (OUTm xs I1) ∧ (FRM S I1) ∧ (okF fs S) ∧ (rstk (kdF fs) [[]] (o.take k) = some st ∧ hsd st = FHf fs S) ∧ ((k = 0 ∧ S = [] ∧ xs = []) ∨ (0 < k ∧ xs ++ RSTf L fs l S = FM)) ∧ zpc = 9 ∧ zl = [(0, .ref 60), (1, .int (nI i)), (2, .int (nI S.length)), (3, .int (nI k))] ∧ zst = [] ∧ zM = (am_SH, I1, J) ∧ zk = 0 ∧ zn = 0) ∨ (∃ (k e : Nat) (b : Bool) (S : List (Nat × Nat)) (xs : List Nat) (st : List (List Nat)) (I1 : Nat → Nat → Int32), zu = 1000 * (fs.length - k - 1) + 1 + 2 * S.length + e ∧ (k < fs.length ∧ S.length ≤ k + 1 ∧ (b = true → e = 1)) ∧ (FrVm I I1) ∧ (OUTm xs I1) ∧ (FRM S I1) ∧ ((b = false → okF fs S) ∧ (b = true → okT fs S)) ∧ (rstk (kdF fs) [[]] (o.take (k + 1)) = some st ∧ hsd st = FHf fs S) ∧ (xs ++ RSTf L fs l S = FM) ∧ zpc = 57 ∧ zl = [(0, .ref 60), (1, .int (nI i)), (2, .int (nI S.length)), (3, .int (nI k)), (5, .int (bI b))] ∧ zst = [] ∧ zM = (am_SH, I1, J) ∧ zk = 0 ∧ zn = 0)) := ⟨_, rfl⟩
  have mk1 : ∀ (k : Nat) (S : List (Nat × Nat)) (xs : List Nat) (st : List (List Nat)) (I1 : Nat → Nat → Int32), (k ≤ fs.length ∧ S.length ≤ k) → (FrVm I I1) → (OUTm xs I1) → (FRM S I1) → (okF fs S) → (rstk (kdF fs) [[]] (o.take k) = some st ∧ hsd st = FHf fs S) → ((k = 0 ∧ S = [] ∧ xs = []) ∨ (0 < k ∧ xs ++ RSTf L fs l S = FM)) → JJ (1000 * (fs.length - k)) 9 [(0, .ref 60), (1, .int (nI i)), (2, .int (nI S.length)), (3, .int (nI k))] [] (am_SH, I1, J) 0 0 := by
    intro k S xs st I1 a0 a1 a2 a3 a4 a5 a6
    rw [hJJ]
    exact Or.inl ⟨k, S, xs, st, I1, rfl, a0, a1, a2, a3, a4, a5, a6, rfl, rfl, rfl, rfl, rfl, rfl⟩
  have mk2 : ∀ (k e : Nat) (b : Bool) (S : List (Nat × Nat)) (xs : List Nat) (st : List (List Nat)) (I1 : Nat → Nat → Int32), (k < fs.length ∧ S.length ≤ k + 1 ∧ (b = true → e = 1)) → (FrVm I I1) → (OUTm xs I1) → (FRM S I1) → ((b = false → okF fs S) ∧ (b = true → okT fs S)) → (rstk (kdF fs) [[]] (o.take (k + 1)) = some st ∧ hsd st = FHf fs S) → (xs ++ RSTf L fs l S = FM) → JJ (1000 * (fs.length - k - 1) + 1 + 2 * S.length + e) 57 [(0, .ref 60), (1, .int (nI i)), (2, .int (nI S.length)), (3, .int (nI k)), (5, .int (bI b))] [] (am_SH, I1, J) 0 0 := by
    intro k e b S xs st I1 a0 a1 a2 a3 a4 a5 a6
    rw [hJJ]
    exact Or.inr (⟨k, e, b, S, xs, st, I1, rfl, a0, a1, a2, a3, a4, a5, a6, rfl, rfl, rfl, rfl, rfl, rfl⟩)
  refine am_rule2 (q := qX10_tellsReading) (B := am_blk bX10_tellsReading) rfl rfl kX10_tellsReading nX10_tellsReading (Nat.le_of_ble_eq_true rfl) JJ (fun zu zpc zl zst zM zk zn hj => ?_) ?_
  rotate_left
  · refine ⟨60, ?_⟩
    simp (decide := true) (disch := (first | exact eq_false (by decide) | exact eq_true (by decide) | decide | omega)) only [lX10_tellsReading_0, lX10_tellsReading_9, lX10_tellsReading_57, lX10_tellsReading_97, lX10_tellsReading_98, lX10_tellsReading_123, lX10_tellsReading_171, lX10_tellsReading_172, lX10_tellsReading_185, lX10_tellsReading_188, lX10_tellsReading_194, bX10_tellsReading_0, bX10_tellsReading_9, bX10_tellsReading_57, bX10_tellsReading_97, bX10_tellsReading_98, bX10_tellsReading_123, bX10_tellsReading_171, bX10_tellsReading_172, bX10_tellsReading_185, bX10_tellsReading_188, bX10_tellsReading_194, am_cat_i, am_cat_r, (show qX10_tellsReading.2.2.2.1 = none from rfl), am_rok_none, w_aload_n, w_bipush, w_dup2, w_getfield, w_goto, w_iadd, w_iaload, w_iastore, w_icmp_ge, w_icmp_ne, w_iconst, w_if_eq, w_if_le, w_iinc, w_iload, w_iload_n, w_imul, w_istore, w_istore_n, w_isub, w_nop, w_puti, w_return, w_swap, sa_78, sa_85, sa_86, sg_60_16, sg_60_30, sg_60_40, sg_60_41, sp_60_39, cB_11, cB_41, cB_44, cI_0, cI_1, cI_2, am_lk0, am_lk1, am_ld_some, am_isI_i, am_isJ_j, am_isR_r, am_st_eq, am_rmv_nil, am_rmv_t, am_rmv_i, am_rmv_r, sf_SH, sj_SH, sf_eq, sf_nk, sf_na, sf_sf, am_args_i, am_args_r, am_args_n, Nat.reduceAdd, List.cons_append, List.nil_append, Option.toList, List.drop_succ_cons, List.drop_zero, am_RP, am_CP, am_PH, Fin.isValue, Fin.val_zero, Fin.val_one, am_f2, am_f3, true_and, and_true, true_implies, false_implies, not_false_eq_true, ne_eq, nI_clampD, nI_leT, nI_leF, nI_ltT, nI_ltF, nI_eqT, nI_eqF, nI_lt0F, nI_0leT, nI_eq0T, nI_eq0F, nI_0ltT, nI_0ltF, nI_le0T, nI_le0F, nI_m1, nI_m1', m1_m1, m1_lt, m1_le, nI_mul, nI_add, nI_sub, nI_add1, nI_dec, nI_div, nI_mod, vp_inD, sf_nkD, sf_eqD]
    refine ⟨_, _, ?_, mk1 0 [] [] [[]] _ ⟨Nat.zero_le _, Nat.le_refl _⟩ ⟨fun c d1 d2 => by rw [sf_naD d1], fun k d => by rw [sf_nkD d]⟩ ⟨by rw [sf_eq]; rfl, fun k hk => absurd hk (Nat.not_lt_zero _)⟩ (fun i hi => absurd hi (Nat.not_lt_zero _)) (fun q hq => (by cases hq)) ⟨rfl, rfl⟩ (Or.inl ⟨rfl, rfl, rfl⟩)⟩
    · (simp (decide := true) only [am_has, am_lk0, am_lk1, and_self, true_and, and_true] <;> first | rfl | (refine ⟨?_, ?_⟩ <;> rfl) | (refine ⟨?_, ?_, ?_⟩ <;> rfl) | (refine ⟨?_, ?_, ?_, ?_⟩ <;> rfl))
  rw [hJJ] at hj
  clear hJJ
  rcases hj with ⟨k, S, xs, st, I1, rfl, e1, e2, e3, e4, e5, e6, e7, rfl, rfl, rfl, rfl, rfl, rfl⟩ | ⟨k, e, b, S, xs, st, I1, rfl, e1, e2, e3, e4, e5, e6, e7, rfl, rfl, rfl, rfl, rfl, rfl⟩
  · refine ⟨_, 90, rfl, rfl, ?_⟩
    obtain ⟨a1, a2⟩ := e1
    obtain ⟨a3, a4⟩ := e6
    have k16 : I1 60 16 = nI fs.length := by rw [e2.2 16 (by decide)]; exact h16
    by_cases hk : k = fs.length
    · have hend := rval_end hG.cnt hO.1 hO.2.1 hO.2.2.1 hO.2.2.2
      have htk : o.take k = o := List.take_of_length_le (by omega)
      rw [htk, hend] at a3
      have a3 := Option.some.inj a3
      subst a3
      have hS0 : S = [] := by
        cases S with
        | nil => rfl
        | cons q S =>
          exfalso
          have h9 : FHf fs (q :: S) = pnd fs q.1 q.2 ++ FHb fs S := rfl
          rw [h9, pnd_s (e5 q List.mem_cons_self).2] at a4
          cases a4
      have hxs : xs = FM := by
        rcases e7 with ⟨h9, -⟩ | ⟨-, h9⟩
        · omega
        · rw [hS0] at h9
          rw [← h9]
          exact (List.append_nil xs).symm
      rw [hxs] at e3
      simp (decide := true) (disch := (first | exact eq_false (by decide) | exact eq_true (by decide) | decide | omega)) only [lX10_tellsReading_0, lX10_tellsReading_9, lX10_tellsReading_57, lX10_tellsReading_97, lX10_tellsReading_98, lX10_tellsReading_123, lX10_tellsReading_171, lX10_tellsReading_172, lX10_tellsReading_185, lX10_tellsReading_188, lX10_tellsReading_194, bX10_tellsReading_0, bX10_tellsReading_9, bX10_tellsReading_57, bX10_tellsReading_97, bX10_tellsReading_98, bX10_tellsReading_123, bX10_tellsReading_171, bX10_tellsReading_172, bX10_tellsReading_185, bX10_tellsReading_188, bX10_tellsReading_194, am_cat_i, am_cat_r, (show qX10_tellsReading.2.2.2.1 = none from rfl), am_rok_none, w_aload_n, w_bipush, w_dup2, w_getfield, w_goto, w_iadd, w_iaload, w_iastore, w_icmp_ge, w_icmp_ne, w_iconst, w_if_eq, w_if_le, w_iinc, w_iload, w_iload_n, w_imul, w_istore, w_istore_n, w_isub, w_nop, w_puti, w_return, w_swap, sa_78, sa_85, sa_86, sg_60_16, sg_60_30, sg_60_40, sg_60_41, sp_60_39, cB_11, cB_41, cB_44, cI_0, cI_1, cI_2, am_lk0, am_lk1, am_ld_some, am_isI_i, am_isJ_j, am_isR_r, am_st_eq, am_rmv_nil, am_rmv_t, am_rmv_i, am_rmv_r, sf_SH, sj_SH, sf_eq, sf_nk, sf_na, sf_sf, am_args_i, am_args_r, am_args_n, Nat.reduceAdd, List.cons_append, List.nil_append, Option.toList, List.drop_succ_cons, List.drop_zero, am_RP, am_CP, am_PH, Fin.isValue, Fin.val_zero, Fin.val_one, am_f2, am_f3, true_and, and_true, true_implies, false_implies, not_false_eq_true, ne_eq, nI_clampD, nI_leT, nI_leF, nI_ltT, nI_ltF, nI_eqT, nI_eqF, nI_lt0F, nI_0leT, nI_eq0T, nI_eq0F, nI_0ltT, nI_0ltF, nI_le0T, nI_le0F, nI_m1, nI_m1', m1_m1, m1_lt, m1_le, nI_mul, nI_add, nI_sub, nI_add1, nI_dec, nI_div, nI_mod, vp_inD, sf_nkD, sf_eqD, k16, hk]
      exact ⟨I1, rfl, e2, e3⟩
    · have hko : k < o.length := by omega
      obtain ⟨p, r, n1, n2, n3, n4, n5⟩ := rrun_next hO.1 hko
      rw [a3] at n1
      have n1 := Option.some.inj n1
      subst n1
      have hf := gD_lt hO.2.2.2 hko
      have hnew : (o.getD k 0, p) ∈ l := List.mem_of_mem_take (i := k + 1) (by rw [n5]; exact List.mem_append_right _ List.mem_cons_self)
      have hfm := fm_hd hO hG hf
      have k78 : I1 78 (11 * i + k) = nI (o.getD k 0) := by rw [e2.1 78 (by decide) (by omega)]; exact hR.2.2.2.2.1.1 k (by omega)
      have hS1 : SMd L t fs I1 := hS.fr (e2.2 16 (by decide)) (e2.2 23 (by decide)) (fun c _ _ => e2.1 c (by omega) (by omega))
      have hW1 : WD I1 := fun k hk => by rw [e2.1 67 (by decide) (by omega)]; exact hW k hk
      have key : xs ++ (hdT L fs (o.getD k 0) ++ RSTf L fs l ((o.getD k 0, 0) :: S)) = FM ∧ hsd (rp (kdF fs) (o.getD k 0) p ++ r) = FHf fs ((o.getD k 0, 0) :: S) := by
        have hrst : RSTf L fs l ((o.getD k 0, 0) :: S) = kds L fs l (o.getD k 0) 0 ++ (clo fs (o.getD k 0) ++ AFTb L fs l S) := rfl
        have hfh : FHf fs ((o.getD k 0, 0) :: S) = pnd fs (o.getD k 0) 0 ++ FHb fs S := rfl
        have hpn : (List.range' 0 (rh (kdF fs) (o.getD k 0))).map (fun i => 2 * o.getD k 0 + i) = pnd fs (o.getD k 0) 0 := by unfold pnd; rw [rk_rh, Nat.sub_zero]
        rw [hrst, hfh, hsd_rp, hpn]
        rcases e7 with ⟨h7, h8, h9⟩ | ⟨h7, h8⟩
        · subst h7
          subst h8
          subst h9
          have hp0 : p :: r = [[]] := by
            have : rstk (kdF fs) [[]] (o.take 0) = some [[]] := rfl
            rw [a3] at this
            exact Option.some.inj this
          have hr0 : r = [] := (List.cons.inj hp0).2
          rw [hr0]
          refine ⟨?_, rfl⟩
          rw [hFM, hfm]
          show hdT L fs (o.getD 0 0) ++ (kds L fs l (o.getD 0 0) 0 ++ (clo fs (o.getD 0 0) ++ [])) = _
          rw [List.append_nil]
        · have hpne : p ≠ [] := rpre_ne (kd := kdF fs) (o := o.take k) (fun h0 => by
            have h9 : 0 < (o.take k).length := by rw [List.length_take]; omega
            rw [h0] at h9
            exact absurd h9 (Nat.not_lt_zero _)) a3 p List.mem_cons_self
          obtain ⟨x, p', rfl⟩ := List.exists_cons_of_ne_nil hpne
          have hhs : hsd ((x :: p') :: r) = x :: hsd r := rfl
          rw [hhs] at a4
          cases S with
          | nil => cases a4
          | cons q S' =>
            have hq := e5 q List.mem_cons_self
            have h9 : FHf fs (q :: S') = pnd fs q.1 q.2 ++ FHb fs S' := rfl
            rw [h9, pnd_s hq.2, List.cons_append] at a4
            have a5 := List.cons.inj a4
            have hpl : plg l (2 * q.1 + q.2) = o.getD k 0 := by rw [← a5.1]; exact plg_eq hO hnew
            refine ⟨?_, by rw [a5.2]; rfl⟩
            rw [← h8]
            have h6 : RSTf L fs l (q :: S') = kds L fs l q.1 q.2 ++ (clo fs q.1 ++ AFTb L fs l S') := rfl
            have h5 : AFTb L fs l (q :: S') = cma fs q.1 q.2 ++ (kds L fs l q.1 (q.2 + 1) ++ (clo fs q.1 ++ AFTb L fs l S')) := rfl
            rw [h6, h5, kds_s hq.2, hpl, hfm]
            simp only [List.append_assoc]
      have hlk := congrArg List.length key.1
      simp only [List.length_append] at hlk
      simp (decide := true) (disch := (first | exact eq_false (by decide) | exact eq_true (by decide) | decide | omega)) only [lX10_tellsReading_0, lX10_tellsReading_9, lX10_tellsReading_57, lX10_tellsReading_97, lX10_tellsReading_98, lX10_tellsReading_123, lX10_tellsReading_171, lX10_tellsReading_172, lX10_tellsReading_185, lX10_tellsReading_188, lX10_tellsReading_194, bX10_tellsReading_0, bX10_tellsReading_9, bX10_tellsReading_57, bX10_tellsReading_97, bX10_tellsReading_98, bX10_tellsReading_123, bX10_tellsReading_171, bX10_tellsReading_172, bX10_tellsReading_185, bX10_tellsReading_188, bX10_tellsReading_194, am_cat_i, am_cat_r, (show qX10_tellsReading.2.2.2.1 = none from rfl), am_rok_none, w_aload_n, w_bipush, w_dup2, w_getfield, w_goto, w_iadd, w_iaload, w_iastore, w_icmp_ge, w_icmp_ne, w_iconst, w_if_eq, w_if_le, w_iinc, w_iload, w_iload_n, w_imul, w_istore, w_istore_n, w_isub, w_nop, w_puti, w_return, w_swap, sa_78, sa_85, sa_86, sg_60_16, sg_60_30, sg_60_40, sg_60_41, sp_60_39, cB_11, cB_41, cB_44, cI_0, cI_1, cI_2, am_lk0, am_lk1, am_ld_some, am_isI_i, am_isJ_j, am_isR_r, am_st_eq, am_rmv_nil, am_rmv_t, am_rmv_i, am_rmv_r, sf_SH, sj_SH, sf_eq, sf_nk, sf_na, sf_sf, am_args_i, am_args_r, am_args_n, Nat.reduceAdd, List.cons_append, List.nil_append, Option.toList, List.drop_succ_cons, List.drop_zero, am_RP, am_CP, am_PH, Fin.isValue, Fin.val_zero, Fin.val_one, am_f2, am_f3, true_and, and_true, true_implies, false_implies, not_false_eq_true, ne_eq, nI_clampD, nI_leT, nI_leF, nI_ltT, nI_ltF, nI_eqT, nI_eqF, nI_lt0F, nI_0leT, nI_eq0T, nI_eq0F, nI_0ltT, nI_0ltF, nI_le0T, nI_le0F, nI_m1, nI_m1', m1_m1, m1_lt, m1_le, nI_mul, nI_add, nI_sub, nI_add1, nI_dec, nI_div, nI_mod, vp_inD, sf_nkD, sf_eqD, k16, k78]
      refine w_virtP (c_X10_tellsHead g h I1 J xs (o.getD k 0) hS1 hG hW1 e3 hf (by omega)) rfl rfl rfl (of_eq_true so_60) rfl (Nat.le_refl _) (Nat.le_refl _) ?_
      rintro R1 M1 ⟨rfl, I2, rfl, f1, f2⟩
      simp (decide := true) (disch := (first | exact eq_false (by decide) | exact eq_true (by decide) | decide | omega)) only [lX10_tellsReading_0, lX10_tellsReading_9, lX10_tellsReading_57, lX10_tellsReading_97, lX10_tellsReading_98, lX10_tellsReading_123, lX10_tellsReading_171, lX10_tellsReading_172, lX10_tellsReading_185, lX10_tellsReading_188, lX10_tellsReading_194, bX10_tellsReading_0, bX10_tellsReading_9, bX10_tellsReading_57, bX10_tellsReading_97, bX10_tellsReading_98, bX10_tellsReading_123, bX10_tellsReading_171, bX10_tellsReading_172, bX10_tellsReading_185, bX10_tellsReading_188, bX10_tellsReading_194, am_cat_i, am_cat_r, (show qX10_tellsReading.2.2.2.1 = none from rfl), am_rok_none, w_aload_n, w_bipush, w_dup2, w_getfield, w_goto, w_iadd, w_iaload, w_iastore, w_icmp_ge, w_icmp_ne, w_iconst, w_if_eq, w_if_le, w_iinc, w_iload, w_iload_n, w_imul, w_istore, w_istore_n, w_isub, w_nop, w_puti, w_return, w_swap, sa_78, sa_85, sa_86, sg_60_16, sg_60_30, sg_60_40, sg_60_41, sp_60_39, cB_11, cB_41, cB_44, cI_0, cI_1, cI_2, am_lk0, am_lk1, am_ld_some, am_isI_i, am_isJ_j, am_isR_r, am_st_eq, am_rmv_nil, am_rmv_t, am_rmv_i, am_rmv_r, sf_SH, sj_SH, sf_eq, sf_nk, sf_na, sf_sf, am_args_i, am_args_r, am_args_n, Nat.reduceAdd, List.cons_append, List.nil_append, Option.toList, List.drop_succ_cons, List.drop_zero, am_RP, am_CP, am_PH, Fin.isValue, Fin.val_zero, Fin.val_one, am_f2, am_f3, true_and, and_true, true_implies, false_implies, not_false_eq_true, ne_eq, nI_clampD, nI_leT, nI_leF, nI_ltT, nI_ltF, nI_eqT, nI_eqF, nI_lt0F, nI_0leT, nI_eq0T, nI_eq0F, nI_0ltT, nI_0ltF, nI_le0T, nI_le0F, nI_m1, nI_m1', m1_m1, m1_lt, m1_le, nI_mul, nI_add, nI_sub, nI_add1, nI_dec, nI_div, nI_mod, vp_inD, sf_nkD, sf_eqD]
      have hsl : ((o.getD k 0, 0) :: S : List (Nat × Nat)).length = S.length + 1 := rfl
      have mk9 := mk2 k 1 true ((o.getD k 0, 0) :: S) (xs ++ hdT L fs (o.getD k 0)) _ (sf (sf I2 85 S.length (nI (o.getD k 0))) 86 S.length (nI 0)) ⟨by omega, by rw [hsl]; omega, fun _ => rfl⟩ (((e2.v f1).st (Or.inl rfl)).st (Or.inr rfl)) (f2.fr (by rw [sf_naD (by decide), sf_naD (by decide)]) (by rw [sf_naD (by decide), sf_naD (by decide)])) (e4.put (q := (o.getD k 0, 0)) (by rw [sf_naD (by decide), sf_eq]) (by rw [sf_eq]) (fun i hi => ⟨by rw [sf_naD (by decide), sf_nkD (by omega), f1.1 85 (by decide) (by decide)], by rw [sf_nkD (by omega), sf_naD (by decide), f1.1 86 (by decide) (by decide)]⟩)) ⟨fun h9 => (by cases h9), fun _ => ⟨hf, Nat.zero_le _, e5⟩⟩ ⟨n4, key.2⟩ (by rw [List.append_assoc]; exact key.1)
      rw [hsl] at mk9
      refine ⟨_, _, ?_, ?_, mk9⟩
      · omega
      · (simp (decide := true) only [am_has, am_lk0, am_lk1, and_self, true_and, and_true] <;> first | rfl | (refine ⟨?_, ?_⟩ <;> rfl) | (refine ⟨?_, ?_, ?_⟩ <;> rfl) | (refine ⟨?_, ?_, ?_, ?_⟩ <;> rfl))
  · refine ⟨_, 120, rfl, rfl, ?_⟩
    obtain ⟨a1, a2, a5⟩ := e1
    obtain ⟨o1, o2⟩ := e5
    cases b with
    | false =>
      simp (decide := true) (disch := (first | exact eq_false (by decide) | exact eq_true (by decide) | decide | omega)) only [lX10_tellsReading_0, lX10_tellsReading_9, lX10_tellsReading_57, lX10_tellsReading_97, lX10_tellsReading_98, lX10_tellsReading_123, lX10_tellsReading_171, lX10_tellsReading_172, lX10_tellsReading_185, lX10_tellsReading_188, lX10_tellsReading_194, bX10_tellsReading_0, bX10_tellsReading_9, bX10_tellsReading_57, bX10_tellsReading_97, bX10_tellsReading_98, bX10_tellsReading_123, bX10_tellsReading_171, bX10_tellsReading_172, bX10_tellsReading_185, bX10_tellsReading_188, bX10_tellsReading_194, am_cat_i, am_cat_r, (show qX10_tellsReading.2.2.2.1 = none from rfl), am_rok_none, w_aload_n, w_bipush, w_dup2, w_getfield, w_goto, w_iadd, w_iaload, w_iastore, w_icmp_ge, w_icmp_ne, w_iconst, w_if_eq, w_if_le, w_iinc, w_iload, w_iload_n, w_imul, w_istore, w_istore_n, w_isub, w_nop, w_puti, w_return, w_swap, sa_78, sa_85, sa_86, sg_60_16, sg_60_30, sg_60_40, sg_60_41, sp_60_39, cB_11, cB_41, cB_44, cI_0, cI_1, cI_2, am_lk0, am_lk1, am_ld_some, am_isI_i, am_isJ_j, am_isR_r, am_st_eq, am_rmv_nil, am_rmv_t, am_rmv_i, am_rmv_r, sf_SH, sj_SH, sf_eq, sf_nk, sf_na, sf_sf, am_args_i, am_args_r, am_args_n, Nat.reduceAdd, List.cons_append, List.nil_append, Option.toList, List.drop_succ_cons, List.drop_zero, am_RP, am_CP, am_PH, Fin.isValue, Fin.val_zero, Fin.val_one, am_f2, am_f3, true_and, and_true, true_implies, false_implies, not_false_eq_true, ne_eq, nI_clampD, nI_leT, nI_leF, nI_ltT, nI_ltF, nI_eqT, nI_eqF, nI_lt0F, nI_0leT, nI_eq0T, nI_eq0F, nI_0ltT, nI_0ltF, nI_le0T, nI_le0F, nI_m1, nI_m1', m1_m1, m1_lt, m1_le, nI_mul, nI_add, nI_sub, nI_add1, nI_dec, nI_div, nI_mod, vp_inD, sf_nkD, sf_eqD, bI_f]
      refine ⟨_, _, ?_, ?_, mk1 (k + 1) S xs st I1 ⟨by omega, by omega⟩ e2 e3 e4 (o1 rfl) e6 (Or.inr ⟨by omega, e7⟩)⟩
      · omega
      · (simp (decide := true) only [am_has, am_lk0, am_lk1, and_self, true_and, and_true] <;> first | rfl | (refine ⟨?_, ?_⟩ <;> rfl) | (refine ⟨?_, ?_, ?_⟩ <;> rfl) | (refine ⟨?_, ?_, ?_, ?_⟩ <;> rfl))
    | true =>
      have he1 := a5 rfl
      have hok := o2 rfl
      cases S with
      | nil =>
        have hz : ([] : List (Nat × Nat)).length = 0 := rfl
        simp (decide := true) (disch := (first | exact eq_false (by decide) | exact eq_true (by decide) | decide | omega)) only [lX10_tellsReading_0, lX10_tellsReading_9, lX10_tellsReading_57, lX10_tellsReading_97, lX10_tellsReading_98, lX10_tellsReading_123, lX10_tellsReading_171, lX10_tellsReading_172, lX10_tellsReading_185, lX10_tellsReading_188, lX10_tellsReading_194, bX10_tellsReading_0, bX10_tellsReading_9, bX10_tellsReading_57, bX10_tellsReading_97, bX10_tellsReading_98, bX10_tellsReading_123, bX10_tellsReading_171, bX10_tellsReading_172, bX10_tellsReading_185, bX10_tellsReading_188, bX10_tellsReading_194, am_cat_i, am_cat_r, (show qX10_tellsReading.2.2.2.1 = none from rfl), am_rok_none, w_aload_n, w_bipush, w_dup2, w_getfield, w_goto, w_iadd, w_iaload, w_iastore, w_icmp_ge, w_icmp_ne, w_iconst, w_if_eq, w_if_le, w_iinc, w_iload, w_iload_n, w_imul, w_istore, w_istore_n, w_isub, w_nop, w_puti, w_return, w_swap, sa_78, sa_85, sa_86, sg_60_16, sg_60_30, sg_60_40, sg_60_41, sp_60_39, cB_11, cB_41, cB_44, cI_0, cI_1, cI_2, am_lk0, am_lk1, am_ld_some, am_isI_i, am_isJ_j, am_isR_r, am_st_eq, am_rmv_nil, am_rmv_t, am_rmv_i, am_rmv_r, sf_SH, sj_SH, sf_eq, sf_nk, sf_na, sf_sf, am_args_i, am_args_r, am_args_n, Nat.reduceAdd, List.cons_append, List.nil_append, Option.toList, List.drop_succ_cons, List.drop_zero, am_RP, am_CP, am_PH, Fin.isValue, Fin.val_zero, Fin.val_one, am_f2, am_f3, true_and, and_true, true_implies, false_implies, not_false_eq_true, ne_eq, nI_clampD, nI_leT, nI_leF, nI_ltT, nI_ltF, nI_eqT, nI_eqF, nI_lt0F, nI_0leT, nI_eq0T, nI_eq0F, nI_0ltT, nI_0ltF, nI_le0T, nI_le0F, nI_m1, nI_m1', m1_m1, m1_lt, m1_le, nI_mul, nI_add, nI_sub, nI_add1, nI_dec, nI_div, nI_mod, vp_inD, sf_nkD, sf_eqD, bI_t, hz]
        refine ⟨_, _, ?_, ?_, mk1 (k + 1) [] xs st I1 ⟨by omega, by rw [hz]; omega⟩ e2 e3 e4 (fun q hq => (by cases hq)) e6 (Or.inr ⟨by omega, e7⟩)⟩
        · omega
        · (simp (decide := true) only [am_has, am_lk0, am_lk1, and_self, true_and, and_true] <;> first | rfl | (refine ⟨?_, ?_⟩ <;> rfl) | (refine ⟨?_, ?_, ?_⟩ <;> rfl) | (refine ⟨?_, ?_, ?_, ?_⟩ <;> rfl))
      | cons q S' =>
        obtain ⟨w1, w2, w3⟩ := hok
        have hsl : (q :: S').length = S'.length + 1 := rfl
        rw [hsl] at a2
        obtain ⟨t1, t2⟩ := e4.top
        have hk68 : ∀ f, f < fs.length → I1 68 f = nI (kF (nF fs f)) := fun f hf => by rw [e2.1 68 (by decide) (by omega)]; exact (hS.2.1 f hf).1
        have hk6 := hG.k6 w1
        have hr2 := rk_le (kF (nF fs q.1))
        have hrq : RSTf L fs l (q :: S') = kds L fs l q.1 q.2 ++ (clo fs q.1 ++ AFTb L fs l S') := rfl
        have hfq : FHf fs (q :: S') = pnd fs q.1 q.2 ++ FHb fs S' := rfl
        simp (decide := true) (disch := (first | exact eq_false (by decide) | exact eq_true (by decide) | decide | omega)) only [lX10_tellsReading_0, lX10_tellsReading_9, lX10_tellsReading_57, lX10_tellsReading_97, lX10_tellsReading_98, lX10_tellsReading_123, lX10_tellsReading_171, lX10_tellsReading_172, lX10_tellsReading_185, lX10_tellsReading_188, lX10_tellsReading_194, bX10_tellsReading_0, bX10_tellsReading_9, bX10_tellsReading_57, bX10_tellsReading_97, bX10_tellsReading_98, bX10_tellsReading_123, bX10_tellsReading_171, bX10_tellsReading_172, bX10_tellsReading_185, bX10_tellsReading_188, bX10_tellsReading_194, am_cat_i, am_cat_r, (show qX10_tellsReading.2.2.2.1 = none from rfl), am_rok_none, w_aload_n, w_bipush, w_dup2, w_getfield, w_goto, w_iadd, w_iaload, w_iastore, w_icmp_ge, w_icmp_ne, w_iconst, w_if_eq, w_if_le, w_iinc, w_iload, w_iload_n, w_imul, w_istore, w_istore_n, w_isub, w_nop, w_puti, w_return, w_swap, sa_78, sa_85, sa_86, sg_60_16, sg_60_30, sg_60_40, sg_60_41, sp_60_39, cB_11, cB_41, cB_44, cI_0, cI_1, cI_2, am_lk0, am_lk1, am_ld_some, am_isI_i, am_isJ_j, am_isR_r, am_st_eq, am_rmv_nil, am_rmv_t, am_rmv_i, am_rmv_r, sf_SH, sj_SH, sf_eq, sf_nk, sf_na, sf_sf, am_args_i, am_args_r, am_args_n, Nat.reduceAdd, List.cons_append, List.nil_append, Option.toList, List.drop_succ_cons, List.drop_zero, am_RP, am_CP, am_PH, Fin.isValue, Fin.val_zero, Fin.val_one, am_f2, am_f3, true_and, and_true, true_implies, false_implies, not_false_eq_true, ne_eq, nI_clampD, nI_leT, nI_leF, nI_ltT, nI_ltF, nI_eqT, nI_eqF, nI_lt0F, nI_0leT, nI_eq0T, nI_eq0F, nI_0ltT, nI_0ltF, nI_le0T, nI_le0F, nI_m1, nI_m1', m1_m1, m1_lt, m1_le, nI_mul, nI_add, nI_sub, nI_add1, nI_dec, nI_div, nI_mod, vp_inD, sf_nkD, sf_eqD, bI_t, hsl, Nat.add_sub_cancel, t1, t2]
        refine w_virtE (c_X10_holesOf g (h + 1) I1 J q.1 (kF (nF fs q.1)) (by omega) (hk68 _ w1) hk6) rfl rfl rfl (of_eq_true so_60) rfl (Nat.le_refl _) (Nat.le_refl _) ?_
        by_cases hlt : q.2 = rk (kF (nF fs q.1))
        · have hkd : kds L fs l q.1 q.2 = [] := by unfold kds; rw [if_pos (by omega)]
          have hpe : pnd fs q.1 q.2 = [] := pnd_e (by omega)
          rw [hrq, hkd, List.nil_append] at e7
          rw [hfq, hpe, List.nil_append] at e6
          have hfrm := e4.pop
          have hxl := congrArg List.length e7
          simp only [List.length_append] at hxl
          -- behind the sign that closes
          have back : ∀ (I2 : Nat → Nat → Int32) (ys : List Nat), FrVm I I2 → OUTm ys I2 → FRM S' I2 → ys ++ AFTb L fs l S' = FM → S' = [] → JJ (1000 * (fs.length - k - 1) + 1 + 2 * 0 + 1) 57 [(0, .ref 60), (1, .int (nI i)), (2, .int (nI 0)), (3, .int (nI k)), (5, .int (bI true))] [] (am_SH, I2, J) 0 0 := by
            intro I2 ys r1 r2 r3 r4 r5
            subst r5
            exact mk2 k 1 true [] ys st I2 ⟨a1, Nat.zero_le _, fun _ => rfl⟩ r1 r2 r3 ⟨fun h9 => (by cases h9), fun _ => trivial⟩ e6 r4
          sorry
        · have hlt2 : q.2 < rk (kF (nF fs q.1)) := by omega
          have mk9 := mk2 k 0 false (q :: S') xs st I1 ⟨a1, by rw [hsl]; omega, fun h9 => (by cases h9)⟩ e2 e3 e4 ⟨fun _ q' hq' => by
            rcases List.mem_cons.mp hq' with rfl | hq'
            · exact ⟨w1, hlt2⟩
            · exact w3 q' hq', fun h9 => (by cases h9)⟩ e6 e7
          rw [hsl] at mk9
          simp (decide := true) (disch := (first | exact eq_false (by decide) | exact eq_true (by decide) | decide | omega)) only [lX10_tellsReading_0, lX10_tellsReading_9, lX10_tellsReading_57, lX10_tellsReading_97, lX10_tellsReading_98, lX10_tellsReading_123, lX10_tellsReading_171, lX10_tellsReading_172, lX10_tellsReading_185, lX10_tellsReading_188, lX10_tellsReading_194, bX10_tellsReading_0, bX10_tellsReading_9, bX10_tellsReading_57, bX10_tellsReading_97, bX10_tellsReading_98, bX10_tellsReading_123, bX10_tellsReading_171, bX10_tellsReading_172, bX10_tellsReading_185, bX10_tellsReading_188, bX10_tellsReading_194, am_cat_i, am_cat_r, (show qX10_tellsReading.2.2.2.1 = none from rfl), am_rok_none, w_aload_n, w_bipush, w_dup2, w_getfield, w_goto, w_iadd, w_iaload, w_iastore, w_icmp_ge, w_icmp_ne, w_iconst, w_if_eq, w_if_le, w_iinc, w_iload, w_iload_n, w_imul, w_istore, w_istore_n, w_isub, w_nop, w_puti, w_return, w_swap, sa_78, sa_85, sa_86, sg_60_16, sg_60_30, sg_60_40, sg_60_41, sp_60_39, cB_11, cB_41, cB_44, cI_0, cI_1, cI_2, am_lk0, am_lk1, am_ld_some, am_isI_i, am_isJ_j, am_isR_r, am_st_eq, am_rmv_nil, am_rmv_t, am_rmv_i, am_rmv_r, sf_SH, sj_SH, sf_eq, sf_nk, sf_na, sf_sf, am_args_i, am_args_r, am_args_n, Nat.reduceAdd, List.cons_append, List.nil_append, Option.toList, List.drop_succ_cons, List.drop_zero, am_RP, am_CP, am_PH, Fin.isValue, Fin.val_zero, Fin.val_one, am_f2, am_f3, true_and, and_true, true_implies, false_implies, not_false_eq_true, ne_eq, nI_clampD, nI_leT, nI_leF, nI_ltT, nI_ltF, nI_eqT, nI_eqF, nI_lt0F, nI_0leT, nI_eq0T, nI_eq0F, nI_0ltT, nI_0ltF, nI_le0T, nI_le0F, nI_m1, nI_m1', m1_m1, m1_lt, m1_le, nI_mul, nI_add, nI_sub, nI_add1, nI_dec, nI_div, nI_mod, vp_inD, sf_nkD, sf_eqD, bI_f]
          refine ⟨_, _, ?_, ?_, mk9⟩
          · omega
          · (simp (decide := true) only [am_has, am_lk0, am_lk1, and_self, true_and, and_true] <;> first | rfl | (refine ⟨?_, ?_⟩ <;> rfl) | (refine ⟨?_, ?_, ?_⟩ <;> rfl) | (refine ⟨?_, ?_, ?_, ?_⟩ <;> rfl))
end MG1
