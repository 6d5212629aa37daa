/-! the reference's truth of a reading -/
def Ttv (L : Nat → Nat) (fs : List Fg) (l : List (Nat × List Nat)) (fc : Nat → Bool) (dm f v : Nat) : Bool := tv L fs (plg l) fc dm 11 f (eV fs v)
def Trow (L : Nat → Nat) (fs : List Fg) (l : List (Nat × List Nat)) (fc : Nat → Bool) (dm f : Nat) (I : Nat → Nat → Int32) : Prop := ∀ v, v < 81 → I 94 (81 * f + v) = bI (Ttv L fs l fc dm f v)
theorem eV_0 (fs : List Fg) : eV fs 0 = fun _ => 0 := by
  funext v
  unfold eV
  rw [Nat.zero_div]
section MT3
variable (g : am_G) (h : Nat) (I : Nat → Nat → Int32) (J : Nat → Nat → Int64) {L : Nat → Nat} {t : Nat} {fs : List Fg} {fc : Nat → Bool} {dm i : Nat} {o : List Nat} {l : List (Nat × List Nat)}
theorem plg_lt (hO : Ordr fs o l) (hc : rcnt (kdF fs) fs.length) (x : Nat) : plg l x < fs.length ∨ ¬ (x / 2 < fs.length ∧ x % 2 < rk (kF (nF fs (x / 2)))) := by
  by_cases hx : x / 2 < fs.length ∧ x % 2 < rk (kF (nF fs (x / 2)))
  · obtain ⟨f, p, h1, -⟩ := hO.hole hc hx.1 hx.2
    rw [plg_eq hO h1]
    exact Or.inl (hO.mem h1)
  · exact Or.inr hx
/-- what is in a hole: its place, the plug, its row of truths a step lower -/
theorem chd (hR : Rdg fs i o l I) (hG : Good L t fs) {j : Nat} (hj : j < o.length) {x : Nat} (hx : x < rk (kF (nF fs (o.getD j 0)))) : ∃ j', j < j' ∧ j' < o.length ∧ plg l (2 * o.getD j 0 + x) = o.getD j' 0 ∧ I 79 (22 * i + (2 * o.getD j 0 + x)) = nI (o.getD j' 0) ∧ ∀ (fc : Nat → Bool) (dm : Nat) (e : Nat → Nat), tv L fs (plg l) fc dm 10 (o.getD j' 0) e = tv L fs (plg l) fc dm 11 (o.getD j' 0) e := by
  have hO := hR.ord
  have hr2 := rk_le (kF (nF fs (o.getD j 0)))
  obtain ⟨p, hp⟩ := hO.get (gD_lt hO.2.2.2 hj)
  obtain ⟨c, hcm⟩ := hO.fill hG.cnt hp (i := x) hx
  have hco : c ∈ o := by rw [← rrun_fst _ _ _ _ hO.1]; exact List.mem_map.mpr ⟨_, hcm, rfl⟩
  obtain ⟨j', hj', hjc⟩ := gD_of hco
  have hlt := hO.later hcm (q := o.getD j 0) (by omega) hj hj' rfl hjc
  have hn := hG.le
  have hol := hO.2.2.1
  refine ⟨j', hlt, hj', by rw [plg_eq hO hcm, hjc], by rw [hjc]; exact hR.2.2.2.2.1.2 l hO.1 c _ _ hcm, fun fc dm e => tv_st hO hG.cnt 10 11 j' e hj' (by omega) (by omega)⟩
set_option maxRecDepth 100000 in
set_option maxHeartbeats 8000000 in
theorem c_X10_holds (hS : SMd L t fs I) (hG : Good L t fs) (hU : Usd L fs) (hR : Rdg fs i o l I) (hd : I 60 48 = nI dm) (hd3 : dm ≤ 3) (j vals : Nat) (hj : j < o.length) (hk2 : rk (kF (nF fs (o.getD j 0))) = 2) (hv : vals < 81) (hrow : ∀ j', j < j' → j' < o.length → Trow L fs l fc dm (o.getD j' 0) I) :
    am_Ctr g am_mt 1 (h + 4) 206 [.ref 60, .int (nI i), .int (nI (o.getD j 0)), .int (nI vals)] (am_SH, I, J) 0 0 (fun r M => r = some (.int (bI (Ttv L fs l fc dm (o.getD j 0) vals))) ∧ M = (am_SH, I, J)) := by
  have hn := hG.le
  have hO := hR.ord
  have hi := hR.2.2.2.2.2
  have hq := gD_lt hO.2.2.2 hj
  have hqq := hG.quant hq hk2
  have hv69 := (hS.2.1 _ hq).2.1 hk2
  have hk68 := (hS.2.1 _ hq).1
  have hq3 := nQ_3 hG hq hk2
  have hwt := wt_q hU hq hk2
  obtain ⟨j0, a1, a2, a3, a4, a5⟩ := chd I hR hG hj (x := 0) (by omega)
  obtain ⟨j1, b1, b2, b3, b4, b5⟩ := chd I hR hG hj (x := 1) (by omega)
  rw [Nat.add_zero] at a3 a4
  rw [← Nat.add_assoc] at b4
  have c0 := gD_lt hO.2.2.2 a2
  have c1 := gD_lt hO.2.2.2 b2
  obtain ⟨w, hw⟩ : ∃ w, w = 3 ^ nQ fs (o.getD j 0) := ⟨_, rfl⟩
  rw [← hw] at hwt
  have hw27 : 1 ≤ w ∧ w ≤ 27 := by
    have : nQ fs (o.getD j 0) = 0 ∨ nQ fs (o.getD j 0) = 1 ∨ nQ fs (o.getD j 0) = 2 ∨ nQ fs (o.getD j 0) = 3 := by omega
    rcases this with h9 | h9 | h9 | h9 <;> (rw [h9] at hw; rw [hw]; decide)
  have hdg := fun d (hd9 : d < 3) => dgt (nQ fs (o.getD j 0)) (by omega) 0 (by omega) vals hv d hd9
  rw [← hw] at hdg
  have hle : vals / w % 3 * w ≤ vals := (hdg 0 (by omega)).2.2
  obtain ⟨rest, hrest⟩ : ∃ rest, rest = vals - vals / w % 3 * w := ⟨_, rfl⟩
  have hlt : ∀ d, d < 3 → rest + d * w < 81 := fun d hd9 => by rw [hrest]; exact (hdg d hd9).2.1
  have hmod : vals / w - vals / w / 3 * 3 = vals / w % 3 := by omega
  obtain ⟨P, hP⟩ : ∃ P : Nat → Bool, P = fun d => Ttv L fs l fc dm (o.getD j0 0) (rest + d * w) := ⟨_, rfl⟩
  obtain ⟨Q, hQ⟩ : ∃ Q : Nat → Bool, Q = fun d => P d && Ttv L fs l fc dm (o.getD j1 0) (rest + d * w) := ⟨_, rfl⟩
  have hres : Ttv L fs l fc dm (o.getD j 0) vals = enuf (kF (nF fs (o.getD j 0))) (cD dm P) (cD dm Q) := by
    unfold Ttv
    conv => lhs; unfold tv
    rw [if_neg (by omega), if_neg (by omega), a3, b3]
    have hcg : ∀ c d, c < fs.length → d < dm → (∀ e, tv L fs (plg l) fc dm 10 c e = tv L fs (plg l) fc dm 11 c e) → tv L fs (plg l) fc dm 10 c (upE (eV fs vals) (vF (nF fs (o.getD j 0))) d) = Ttv L fs l fc dm c (rest + d * w) := fun c d hc hdd h9 => by
      rw [h9]
      unfold Ttv
      refine tv_cg hU (plg l) (plg_lt hO hG.cnt) 11 c _ _ hc (fun v hv9 => ?_)
      rw [hrest, hw]
      exact (eV_up hG hU hq hk2 hv (by omega) v hv9).symm
    congr 1
    · refine cD_cg (fun d hdd => ?_)
      rw [hP]
      exact hcg _ d c0 hdd (a5 fc dm)
    · refine cD_cg (fun d hdd => ?_)
      rw [hQ, hP, hcg _ d c0 hdd (a5 fc dm), hcg _ d c1 hdd (b5 fc dm)]
  rw [hres]
  have r0 := hrow j0 a1 a2
  have r1 := hrow j1 b1 b2
  obtain ⟨JJ, hJJ⟩ : ∃ JJ : Nat → am_Cut, JJ = (fun zu zpc zl zst zM zk zn => (∃ (d : Nat), zu = dm - d ∧ (d ≤ dm) ∧ zpc = 66 ∧ zl = [(0, .ref 60), (1, .int (nI i)), (2, .int (nI (o.getD j 0))), (3, .int (nI vals)), (4, .int (nI w)), (5, .int (nI rest)), (6, .int (nI (o.getD j0 0))), (7, .int (nI (o.getD j1 0))), (8, .int (nI (cD d P))), (9, .int (nI (cD d Q))), (10, .int (nI d))] ∧ zst = [] ∧ zM = (am_SH, I, J) ∧ zk = 0 ∧ zn = 0)) := ⟨_, rfl⟩
  have mk : ∀ (d : Nat), (d ≤ dm) → JJ (dm - d) 66 [(0, .ref 60), (1, .int (nI i)), (2, .int (nI (o.getD j 0))), (3, .int (nI vals)), (4, .int (nI w)), (5, .int (nI rest)), (6, .int (nI (o.getD j0 0))), (7, .int (nI (o.getD j1 0))), (8, .int (nI (cD d P))), (9, .int (nI (cD d Q))), (10, .int (nI d))] [] (am_SH, I, J) 0 0 := by
    intro d a0
    rw [hJJ]
    exact ⟨d, rfl, a0, rfl, rfl, rfl, rfl, rfl, rfl⟩
  refine am_rule2 (q := qX10_holds) (B := am_blk bX10_holds) rfl rfl kX10_holds nX10_holds (Nat.le_of_ble_eq_true rfl) JJ (fun zu zpc zl zst zM zk zn hj => ?_) ?_
  rotate_left
  · refine ⟨60, ?_⟩
    have hdl : vals / w ≤ vals := Nat.div_le_self _ _
    simp (decide := true) (disch := (first | exact eq_false (by decide) | exact eq_true (by decide) | decide | omega)) only [lX10_holds_0, lX10_holds_66, lX10_holds_107, lX10_holds_108, lX10_holds_144, lX10_holds_145, lX10_holds_154, lX10_holds_175, lX10_holds_179, lX10_holds_198, lX10_holds_202, lX10_holds_221, lX10_holds_225, lX10_holds_238, lX10_holds_239, bX10_holds_0, bX10_holds_66, bX10_holds_107, bX10_holds_108, bX10_holds_144, bX10_holds_145, bX10_holds_154, bX10_holds_175, bX10_holds_179, bX10_holds_198, bX10_holds_202, bX10_holds_221, bX10_holds_225, bX10_holds_238, bX10_holds_239, (show qX10_holds.2.2.2.1 = (some .boolean) from rfl), am_rok_bool, w_aload_n, w_baload, w_bipush, w_getfield, w_goto, w_iadd, w_iaload, w_icmp_ge, w_icmp_le, w_icmp_ne, w_iconst, w_idiv, w_if_eq, w_if_le, w_if_ne, w_iinc, w_iload, w_iload_n, w_imul, w_irem, w_ireturn, w_istore, w_isub, w_nop, w_swap, sa_68, sa_69, sa_79, sa_94, sg_60_17, sg_60_18, sg_60_31, sg_60_48, sg_60_50, cB_22, cB_81, cI_0, cI_1, cI_2, cI_3, am_lk0, am_lk1, am_ld_some, am_isI_i, am_isJ_j, am_isR_r, am_st_eq, am_rmv_nil, am_rmv_t, am_rmv_i, am_rmv_r, sf_SH, sj_SH, sf_eq, sf_nk, sf_na, sf_sf, am_args_i, am_args_r, am_args_n, Nat.reduceAdd, List.cons_append, List.nil_append, Option.toList, List.drop_succ_cons, List.drop_zero, am_RP, am_CP, am_PH, Fin.isValue, Fin.val_zero, Fin.val_one, am_f2, am_f3, true_and, and_true, true_implies, false_implies, not_false_eq_true, ne_eq, nI_clampD, nI_leT, nI_leF, nI_ltT, nI_ltF, nI_eqT, nI_eqF, nI_lt0F, nI_0leT, nI_eq0T, nI_eq0F, nI_0ltT, nI_0ltF, nI_le0T, nI_le0F, nI_m1, nI_m1', m1_m1, m1_lt, m1_le, nI_mul, nI_add, nI_sub, nI_add1, nI_dec, nI_div, nI_mod, vp_inD, sf_nkD, sf_eqD, hv69]
    refine w_virtE (c_X10_weightOf g h I J hS hG hU (vF (nF fs (o.getD j 0))) ⟨_, hq, hk2, rfl⟩ (by omega)) rfl rfl rfl (of_eq_true so_60) rfl (Nat.le_refl _) (Nat.le_refl _) ?_
    rw [hwt]
    simp (decide := true) (disch := (first | exact eq_false (by decide) | exact eq_true (by decide) | decide | omega)) only [lX10_holds_0, lX10_holds_66, lX10_holds_107, lX10_holds_108, lX10_holds_144, lX10_holds_145, lX10_holds_154, lX10_holds_175, lX10_holds_179, lX10_holds_198, lX10_holds_202, lX10_holds_221, lX10_holds_225, lX10_holds_238, lX10_holds_239, bX10_holds_0, bX10_holds_66, bX10_holds_107, bX10_holds_108, bX10_holds_144, bX10_holds_145, bX10_holds_154, bX10_holds_175, bX10_holds_179, bX10_holds_198, bX10_holds_202, bX10_holds_221, bX10_holds_225, bX10_holds_238, bX10_holds_239, (show qX10_holds.2.2.2.1 = (some .boolean) from rfl), am_rok_bool, w_aload_n, w_baload, w_bipush, w_getfield, w_goto, w_iadd, w_iaload, w_icmp_ge, w_icmp_le, w_icmp_ne, w_iconst, w_idiv, w_if_eq, w_if_le, w_if_ne, w_iinc, w_iload, w_iload_n, w_imul, w_irem, w_ireturn, w_istore, w_isub, w_nop, w_swap, sa_68, sa_69, sa_79, sa_94, sg_60_17, sg_60_18, sg_60_31, sg_60_48, sg_60_50, cB_22, cB_81, cI_0, cI_1, cI_2, cI_3, am_lk0, am_lk1, am_ld_some, am_isI_i, am_isJ_j, am_isR_r, am_st_eq, am_rmv_nil, am_rmv_t, am_rmv_i, am_rmv_r, sf_SH, sj_SH, sf_eq, sf_nk, sf_na, sf_sf, am_args_i, am_args_r, am_args_n, Nat.reduceAdd, List.cons_append, List.nil_append, Option.toList, List.drop_succ_cons, List.drop_zero, am_RP, am_CP, am_PH, Fin.isValue, Fin.val_zero, Fin.val_one, am_f2, am_f3, true_and, and_true, true_implies, false_implies, not_false_eq_true, ne_eq, nI_clampD, nI_leT, nI_leF, nI_ltT, nI_ltF, nI_eqT, nI_eqF, nI_lt0F, nI_0leT, nI_eq0T, nI_eq0F, nI_0ltT, nI_0ltF, nI_le0T, nI_le0F, nI_m1, nI_m1', m1_m1, m1_lt, m1_le, nI_mul, nI_add, nI_sub, nI_add1, nI_dec, nI_div, nI_mod, vp_inD, sf_nkD, sf_eqD, hmod, a4, b4]
    rw [← hrest]
    refine ⟨_, _, ?_, mk 0 (Nat.zero_le _)⟩
    · (simp (decide := true) only [am_has, am_lk0, am_lk1, and_self, true_and, and_true] <;> first | rfl | (refine ⟨?_, ?_⟩ <;> rfl) | (refine ⟨?_, ?_, ?_⟩ <;> rfl) | (refine ⟨?_, ?_, ?_, ?_⟩ <;> rfl))
  rw [hJJ] at hj
  clear hJJ
  obtain ⟨d, rfl, e1, rfl, rfl, rfl, rfl, rfl, rfl⟩ := hj
  refine ⟨_, 120, rfl, rfl, ?_⟩
  have p1 := cD_le d P
  have p2 := cD_le d Q
  by_cases hdd : d = dm
  · subst hdd
    generalize cD d P = a at *
    generalize cD d Q = b at *
    have hk4 : kF (nF fs (o.getD j 0)) = 1 ∨ kF (nF fs (o.getD j 0)) = 2 ∨ kF (nF fs (o.getD j 0)) = 3 ∨ kF (nF fs (o.getD j 0)) = 4 := by omega
    generalize kF (nF fs (o.getD j 0)) = k at *
    unfold enuf
    rcases hk4 with rfl | rfl | rfl | rfl
    · by_cases hab : a = b
      · subst hab
        simp (decide := true) (disch := (first | exact eq_false (by decide) | exact eq_true (by decide) | decide | omega)) only [lX10_holds_0, lX10_holds_66, lX10_holds_107, lX10_holds_108, lX10_holds_144, lX10_holds_145, lX10_holds_154, lX10_holds_175, lX10_holds_179, lX10_holds_198, lX10_holds_202, lX10_holds_221, lX10_holds_225, lX10_holds_238, lX10_holds_239, bX10_holds_0, bX10_holds_66, bX10_holds_107, bX10_holds_108, bX10_holds_144, bX10_holds_145, bX10_holds_154, bX10_holds_175, bX10_holds_179, bX10_holds_198, bX10_holds_202, bX10_holds_221, bX10_holds_225, bX10_holds_238, bX10_holds_239, (show qX10_holds.2.2.2.1 = (some .boolean) from rfl), am_rok_bool, w_aload_n, w_baload, w_bipush, w_getfield, w_goto, w_iadd, w_iaload, w_icmp_ge, w_icmp_le, w_icmp_ne, w_iconst, w_idiv, w_if_eq, w_if_le, w_if_ne, w_iinc, w_iload, w_iload_n, w_imul, w_irem, w_ireturn, w_istore, w_isub, w_nop, w_swap, sa_68, sa_69, sa_79, sa_94, sg_60_17, sg_60_18, sg_60_31, sg_60_48, sg_60_50, cB_22, cB_81, cI_0, cI_1, cI_2, cI_3, am_lk0, am_lk1, am_ld_some, am_isI_i, am_isJ_j, am_isR_r, am_st_eq, am_rmv_nil, am_rmv_t, am_rmv_i, am_rmv_r, sf_SH, sj_SH, sf_eq, sf_nk, sf_na, sf_sf, am_args_i, am_args_r, am_args_n, Nat.reduceAdd, List.cons_append, List.nil_append, Option.toList, List.drop_succ_cons, List.drop_zero, am_RP, am_CP, am_PH, Fin.isValue, Fin.val_zero, Fin.val_one, am_f2, am_f3, true_and, and_true, true_implies, false_implies, not_false_eq_true, ne_eq, nI_clampD, nI_leT, nI_leF, nI_ltT, nI_ltF, nI_eqT, nI_eqF, nI_lt0F, nI_0leT, nI_eq0T, nI_eq0F, nI_0ltT, nI_0ltF, nI_le0T, nI_le0F, nI_m1, nI_m1', m1_m1, m1_lt, m1_le, nI_mul, nI_add, nI_sub, nI_add1, nI_dec, nI_div, nI_mod, vp_inD, sf_nkD, sf_eqD, hd, hk68, nI1_01, if_true, decide_true, bI_t]
      · have : decide (b = a) = false := decide_eq_false (fun h9 => hab h9.symm)
        simp (decide := true) (disch := (first | exact eq_false (by decide) | exact eq_true (by decide) | decide | omega)) only [lX10_holds_0, lX10_holds_66, lX10_holds_107, lX10_holds_108, lX10_holds_144, lX10_holds_145, lX10_holds_154, lX10_holds_175, lX10_holds_179, lX10_holds_198, lX10_holds_202, lX10_holds_221, lX10_holds_225, lX10_holds_238, lX10_holds_239, bX10_holds_0, bX10_holds_66, bX10_holds_107, bX10_holds_108, bX10_holds_144, bX10_holds_145, bX10_holds_154, bX10_holds_175, bX10_holds_179, bX10_holds_198, bX10_holds_202, bX10_holds_221, bX10_holds_225, bX10_holds_238, bX10_holds_239, (show qX10_holds.2.2.2.1 = (some .boolean) from rfl), am_rok_bool, w_aload_n, w_baload, w_bipush, w_getfield, w_goto, w_iadd, w_iaload, w_icmp_ge, w_icmp_le, w_icmp_ne, w_iconst, w_idiv, w_if_eq, w_if_le, w_if_ne, w_iinc, w_iload, w_iload_n, w_imul, w_irem, w_ireturn, w_istore, w_isub, w_nop, w_swap, sa_68, sa_69, sa_79, sa_94, sg_60_17, sg_60_18, sg_60_31, sg_60_48, sg_60_50, cB_22, cB_81, cI_0, cI_1, cI_2, cI_3, am_lk0, am_lk1, am_ld_some, am_isI_i, am_isJ_j, am_isR_r, am_st_eq, am_rmv_nil, am_rmv_t, am_rmv_i, am_rmv_r, sf_SH, sj_SH, sf_eq, sf_nk, sf_na, sf_sf, am_args_i, am_args_r, am_args_n, Nat.reduceAdd, List.cons_append, List.nil_append, Option.toList, List.drop_succ_cons, List.drop_zero, am_RP, am_CP, am_PH, Fin.isValue, Fin.val_zero, Fin.val_one, am_f2, am_f3, true_and, and_true, true_implies, false_implies, not_false_eq_true, ne_eq, nI_clampD, nI_leT, nI_leF, nI_ltT, nI_ltF, nI_eqT, nI_eqF, nI_lt0F, nI_0leT, nI_eq0T, nI_eq0F, nI_0ltT, nI_0ltF, nI_le0T, nI_le0F, nI_m1, nI_m1', m1_m1, m1_lt, m1_le, nI_mul, nI_add, nI_sub, nI_add1, nI_dec, nI_div, nI_mod, vp_inD, sf_nkD, sf_eqD, hd, hk68, nI0_01, if_true, this, bI_f]
    · by_cases hab : 0 < b
      · have : decide (0 < b) = true := decide_eq_true hab
        simp (decide := true) (disch := (first | exact eq_false (by decide) | exact eq_true (by decide) | decide | omega)) only [lX10_holds_0, lX10_holds_66, lX10_holds_107, lX10_holds_108, lX10_holds_144, lX10_holds_145, lX10_holds_154, lX10_holds_175, lX10_holds_179, lX10_holds_198, lX10_holds_202, lX10_holds_221, lX10_holds_225, lX10_holds_238, lX10_holds_239, bX10_holds_0, bX10_holds_66, bX10_holds_107, bX10_holds_108, bX10_holds_144, bX10_holds_145, bX10_holds_154, bX10_holds_175, bX10_holds_179, bX10_holds_198, bX10_holds_202, bX10_holds_221, bX10_holds_225, bX10_holds_238, bX10_holds_239, (show qX10_holds.2.2.2.1 = (some .boolean) from rfl), am_rok_bool, w_aload_n, w_baload, w_bipush, w_getfield, w_goto, w_iadd, w_iaload, w_icmp_ge, w_icmp_le, w_icmp_ne, w_iconst, w_idiv, w_if_eq, w_if_le, w_if_ne, w_iinc, w_iload, w_iload_n, w_imul, w_irem, w_ireturn, w_istore, w_isub, w_nop, w_swap, sa_68, sa_69, sa_79, sa_94, sg_60_17, sg_60_18, sg_60_31, sg_60_48, sg_60_50, cB_22, cB_81, cI_0, cI_1, cI_2, cI_3, am_lk0, am_lk1, am_ld_some, am_isI_i, am_isJ_j, am_isR_r, am_st_eq, am_rmv_nil, am_rmv_t, am_rmv_i, am_rmv_r, sf_SH, sj_SH, sf_eq, sf_nk, sf_na, sf_sf, am_args_i, am_args_r, am_args_n, Nat.reduceAdd, List.cons_append, List.nil_append, Option.toList, List.drop_succ_cons, List.drop_zero, am_RP, am_CP, am_PH, Fin.isValue, Fin.val_zero, Fin.val_one, am_f2, am_f3, true_and, and_true, true_implies, false_implies, not_false_eq_true, ne_eq, nI_clampD, nI_leT, nI_leF, nI_ltT, nI_ltF, nI_eqT, nI_eqF, nI_lt0F, nI_0leT, nI_eq0T, nI_eq0F, nI_0ltT, nI_0ltF, nI_le0T, nI_le0F, nI_m1, nI_m1', m1_m1, m1_lt, m1_le, nI_mul, nI_add, nI_sub, nI_add1, nI_dec, nI_div, nI_mod, vp_inD, sf_nkD, sf_eqD, hd, hk68, nI1_01, if_true, if_false, this, bI_t]
      · have : decide (0 < b) = false := decide_eq_false hab
        simp (decide := true) (disch := (first | exact eq_false (by decide) | exact eq_true (by decide) | decide | omega)) only [lX10_holds_0, lX10_holds_66, lX10_holds_107, lX10_holds_108, lX10_holds_144, lX10_holds_145, lX10_holds_154, lX10_holds_175, lX10_holds_179, lX10_holds_198, lX10_holds_202, lX10_holds_221, lX10_holds_225, lX10_holds_238, lX10_holds_239, bX10_holds_0, bX10_holds_66, bX10_holds_107, bX10_holds_108, bX10_holds_144, bX10_holds_145, bX10_holds_154, bX10_holds_175, bX10_holds_179, bX10_holds_198, bX10_holds_202, bX10_holds_221, bX10_holds_225, bX10_holds_238, bX10_holds_239, (show qX10_holds.2.2.2.1 = (some .boolean) from rfl), am_rok_bool, w_aload_n, w_baload, w_bipush, w_getfield, w_goto, w_iadd, w_iaload, w_icmp_ge, w_icmp_le, w_icmp_ne, w_iconst, w_idiv, w_if_eq, w_if_le, w_if_ne, w_iinc, w_iload, w_iload_n, w_imul, w_irem, w_ireturn, w_istore, w_isub, w_nop, w_swap, sa_68, sa_69, sa_79, sa_94, sg_60_17, sg_60_18, sg_60_31, sg_60_48, sg_60_50, cB_22, cB_81, cI_0, cI_1, cI_2, cI_3, am_lk0, am_lk1, am_ld_some, am_isI_i, am_isJ_j, am_isR_r, am_st_eq, am_rmv_nil, am_rmv_t, am_rmv_i, am_rmv_r, sf_SH, sj_SH, sf_eq, sf_nk, sf_na, sf_sf, am_args_i, am_args_r, am_args_n, Nat.reduceAdd, List.cons_append, List.nil_append, Option.toList, List.drop_succ_cons, List.drop_zero, am_RP, am_CP, am_PH, Fin.isValue, Fin.val_zero, Fin.val_one, am_f2, am_f3, true_and, and_true, true_implies, false_implies, not_false_eq_true, ne_eq, nI_clampD, nI_leT, nI_leF, nI_ltT, nI_ltF, nI_eqT, nI_eqF, nI_lt0F, nI_0leT, nI_eq0T, nI_eq0F, nI_0ltT, nI_0ltF, nI_le0T, nI_le0F, nI_m1, nI_m1', m1_m1, m1_lt, m1_le, nI_mul, nI_add, nI_sub, nI_add1, nI_dec, nI_div, nI_mod, vp_inD, sf_nkD, sf_eqD, hd, hk68, nI0_01, if_true, if_false, this, bI_f]
    · by_cases hab : b = 0
      · subst hab
        simp (decide := true) (disch := (first | exact eq_false (by decide) | exact eq_true (by decide) | decide | omega)) only [lX10_holds_0, lX10_holds_66, lX10_holds_107, lX10_holds_108, lX10_holds_144, lX10_holds_145, lX10_holds_154, lX10_holds_175, lX10_holds_179, lX10_holds_198, lX10_holds_202, lX10_holds_221, lX10_holds_225, lX10_holds_238, lX10_holds_239, bX10_holds_0, bX10_holds_66, bX10_holds_107, bX10_holds_108, bX10_holds_144, bX10_holds_145, bX10_holds_154, bX10_holds_175, bX10_holds_179, bX10_holds_198, bX10_holds_202, bX10_holds_221, bX10_holds_225, bX10_holds_238, bX10_holds_239, (show qX10_holds.2.2.2.1 = (some .boolean) from rfl), am_rok_bool, w_aload_n, w_baload, w_bipush, w_getfield, w_goto, w_iadd, w_iaload, w_icmp_ge, w_icmp_le, w_icmp_ne, w_iconst, w_idiv, w_if_eq, w_if_le, w_if_ne, w_iinc, w_iload, w_iload_n, w_imul, w_irem, w_ireturn, w_istore, w_isub, w_nop, w_swap, sa_68, sa_69, sa_79, sa_94, sg_60_17, sg_60_18, sg_60_31, sg_60_48, sg_60_50, cB_22, cB_81, cI_0, cI_1, cI_2, cI_3, am_lk0, am_lk1, am_ld_some, am_isI_i, am_isJ_j, am_isR_r, am_st_eq, am_rmv_nil, am_rmv_t, am_rmv_i, am_rmv_r, sf_SH, sj_SH, sf_eq, sf_nk, sf_na, sf_sf, am_args_i, am_args_r, am_args_n, Nat.reduceAdd, List.cons_append, List.nil_append, Option.toList, List.drop_succ_cons, List.drop_zero, am_RP, am_CP, am_PH, Fin.isValue, Fin.val_zero, Fin.val_one, am_f2, am_f3, true_and, and_true, true_implies, false_implies, not_false_eq_true, ne_eq, nI_clampD, nI_leT, nI_leF, nI_ltT, nI_ltF, nI_eqT, nI_eqF, nI_lt0F, nI_0leT, nI_eq0T, nI_eq0F, nI_0ltT, nI_0ltF, nI_le0T, nI_le0F, nI_m1, nI_m1', m1_m1, m1_lt, m1_le, nI_mul, nI_add, nI_sub, nI_add1, nI_dec, nI_div, nI_mod, vp_inD, sf_nkD, sf_eqD, hd, hk68, nI1_01, if_true, if_false, decide_true, bI_t]
      · have : decide (b = 0) = false := decide_eq_false hab
        simp (decide := true) (disch := (first | exact eq_false (by decide) | exact eq_true (by decide) | decide | omega)) only [lX10_holds_0, lX10_holds_66, lX10_holds_107, lX10_holds_108, lX10_holds_144, lX10_holds_145, lX10_holds_154, lX10_holds_175, lX10_holds_179, lX10_holds_198, lX10_holds_202, lX10_holds_221, lX10_holds_225, lX10_holds_238, lX10_holds_239, bX10_holds_0, bX10_holds_66, bX10_holds_107, bX10_holds_108, bX10_holds_144, bX10_holds_145, bX10_holds_154, bX10_holds_175, bX10_holds_179, bX10_holds_198, bX10_holds_202, bX10_holds_221, bX10_holds_225, bX10_holds_238, bX10_holds_239, (show qX10_holds.2.2.2.1 = (some .boolean) from rfl), am_rok_bool, w_aload_n, w_baload, w_bipush, w_getfield, w_goto, w_iadd, w_iaload, w_icmp_ge, w_icmp_le, w_icmp_ne, w_iconst, w_idiv, w_if_eq, w_if_le, w_if_ne, w_iinc, w_iload, w_iload_n, w_imul, w_irem, w_ireturn, w_istore, w_isub, w_nop, w_swap, sa_68, sa_69, sa_79, sa_94, sg_60_17, sg_60_18, sg_60_31, sg_60_48, sg_60_50, cB_22, cB_81, cI_0, cI_1, cI_2, cI_3, am_lk0, am_lk1, am_ld_some, am_isI_i, am_isJ_j, am_isR_r, am_st_eq, am_rmv_nil, am_rmv_t, am_rmv_i, am_rmv_r, sf_SH, sj_SH, sf_eq, sf_nk, sf_na, sf_sf, am_args_i, am_args_r, am_args_n, Nat.reduceAdd, List.cons_append, List.nil_append, Option.toList, List.drop_succ_cons, List.drop_zero, am_RP, am_CP, am_PH, Fin.isValue, Fin.val_zero, Fin.val_one, am_f2, am_f3, true_and, and_true, true_implies, false_implies, not_false_eq_true, ne_eq, nI_clampD, nI_leT, nI_leF, nI_ltT, nI_ltF, nI_eqT, nI_eqF, nI_lt0F, nI_0leT, nI_eq0T, nI_eq0F, nI_0ltT, nI_0ltF, nI_le0T, nI_le0F, nI_m1, nI_m1', m1_m1, m1_lt, m1_le, nI_mul, nI_add, nI_sub, nI_add1, nI_dec, nI_div, nI_mod, vp_inD, sf_nkD, sf_eqD, hd, hk68, nI0_01, if_true, if_false, this, bI_f]
    · by_cases hab : a < 2 * b
      · have : decide (a < 2 * b) = true := decide_eq_true hab
        simp (decide := true) (disch := (first | exact eq_false (by decide) | exact eq_true (by decide) | decide | omega)) only [lX10_holds_0, lX10_holds_66, lX10_holds_107, lX10_holds_108, lX10_holds_144, lX10_holds_145, lX10_holds_154, lX10_holds_175, lX10_holds_179, lX10_holds_198, lX10_holds_202, lX10_holds_221, lX10_holds_225, lX10_holds_238, lX10_holds_239, bX10_holds_0, bX10_holds_66, bX10_holds_107, bX10_holds_108, bX10_holds_144, bX10_holds_145, bX10_holds_154, bX10_holds_175, bX10_holds_179, bX10_holds_198, bX10_holds_202, bX10_holds_221, bX10_holds_225, bX10_holds_238, bX10_holds_239, (show qX10_holds.2.2.2.1 = (some .boolean) from rfl), am_rok_bool, w_aload_n, w_baload, w_bipush, w_getfield, w_goto, w_iadd, w_iaload, w_icmp_ge, w_icmp_le, w_icmp_ne, w_iconst, w_idiv, w_if_eq, w_if_le, w_if_ne, w_iinc, w_iload, w_iload_n, w_imul, w_irem, w_ireturn, w_istore, w_isub, w_nop, w_swap, sa_68, sa_69, sa_79, sa_94, sg_60_17, sg_60_18, sg_60_31, sg_60_48, sg_60_50, cB_22, cB_81, cI_0, cI_1, cI_2, cI_3, am_lk0, am_lk1, am_ld_some, am_isI_i, am_isJ_j, am_isR_r, am_st_eq, am_rmv_nil, am_rmv_t, am_rmv_i, am_rmv_r, sf_SH, sj_SH, sf_eq, sf_nk, sf_na, sf_sf, am_args_i, am_args_r, am_args_n, Nat.reduceAdd, List.cons_append, List.nil_append, Option.toList, List.drop_succ_cons, List.drop_zero, am_RP, am_CP, am_PH, Fin.isValue, Fin.val_zero, Fin.val_one, am_f2, am_f3, true_and, and_true, true_implies, false_implies, not_false_eq_true, ne_eq, nI_clampD, nI_leT, nI_leF, nI_ltT, nI_ltF, nI_eqT, nI_eqF, nI_lt0F, nI_0leT, nI_eq0T, nI_eq0F, nI_0ltT, nI_0ltF, nI_le0T, nI_le0F, nI_m1, nI_m1', m1_m1, m1_lt, m1_le, nI_mul, nI_add, nI_sub, nI_add1, nI_dec, nI_div, nI_mod, vp_inD, sf_nkD, sf_eqD, hd, hk68, nI1_01, if_true, if_false, this, bI_t]
      · have : decide (a < 2 * b) = false := decide_eq_false hab
        simp (decide := true) (disch := (first | exact eq_false (by decide) | exact eq_true (by decide) | decide | omega)) only [lX10_holds_0, lX10_holds_66, lX10_holds_107, lX10_holds_108, lX10_holds_144, lX10_holds_145, lX10_holds_154, lX10_holds_175, lX10_holds_179, lX10_holds_198, lX10_holds_202, lX10_holds_221, lX10_holds_225, lX10_holds_238, lX10_holds_239, bX10_holds_0, bX10_holds_66, bX10_holds_107, bX10_holds_108, bX10_holds_144, bX10_holds_145, bX10_holds_154, bX10_holds_175, bX10_holds_179, bX10_holds_198, bX10_holds_202, bX10_holds_221, bX10_holds_225, bX10_holds_238, bX10_holds_239, (show qX10_holds.2.2.2.1 = (some .boolean) from rfl), am_rok_bool, w_aload_n, w_baload, w_bipush, w_getfield, w_goto, w_iadd, w_iaload, w_icmp_ge, w_icmp_le, w_icmp_ne, w_iconst, w_idiv, w_if_eq, w_if_le, w_if_ne, w_iinc, w_iload, w_iload_n, w_imul, w_irem, w_ireturn, w_istore, w_isub, w_nop, w_swap, sa_68, sa_69, sa_79, sa_94, sg_60_17, sg_60_18, sg_60_31, sg_60_48, sg_60_50, cB_22, cB_81, cI_0, cI_1, cI_2, cI_3, am_lk0, am_lk1, am_ld_some, am_isI_i, am_isJ_j, am_isR_r, am_st_eq, am_rmv_nil, am_rmv_t, am_rmv_i, am_rmv_r, sf_SH, sj_SH, sf_eq, sf_nk, sf_na, sf_sf, am_args_i, am_args_r, am_args_n, Nat.reduceAdd, List.cons_append, List.nil_append, Option.toList, List.drop_succ_cons, List.drop_zero, am_RP, am_CP, am_PH, Fin.isValue, Fin.val_zero, Fin.val_one, am_f2, am_f3, true_and, and_true, true_implies, false_implies, not_false_eq_true, ne_eq, nI_clampD, nI_leT, nI_leF, nI_ltT, nI_ltF, nI_eqT, nI_eqF, nI_lt0F, nI_0leT, nI_eq0T, nI_eq0F, nI_0ltT, nI_0ltF, nI_le0T, nI_le0F, nI_m1, nI_m1', m1_m1, m1_lt, m1_le, nI_mul, nI_add, nI_sub, nI_add1, nI_dec, nI_div, nI_mod, vp_inD, sf_nkD, sf_eqD, hd, hk68, nI0_01, if_true, if_false, this, bI_f]
  · have hlt9 := hlt d (by omega)
    have t0 := r0 (rest + d * w) hlt9
    have t1 := r1 (rest + d * w) hlt9
    rw [← Nat.add_assoc] at t0 t1
    have hPv : Ttv L fs l fc dm (o.getD j0 0) (rest + d * w) = P d := by rw [hP]
    have hQv : Q d = (P d && Ttv L fs l fc dm (o.getD j1 0) (rest + d * w)) := by rw [hQ]
    rw [hPv] at t0
    have hPs : cD (d + 1) P = cD d P + (if P d = true then 1 else 0) := rfl
    have hQs : cD (d + 1) Q = cD d Q + (if Q d = true then 1 else 0) := rfl
    have mk9 := mk (d + 1) (by omega)
    rw [hPs, hQs] at mk9
    cases hPd : P d with
    | false =>
      rw [hPd] at t0
      rw [hPd, hQv, hPd, Bool.false_and, if_neg (by decide), Nat.add_zero, Nat.add_zero] at mk9
      simp (decide := true) (disch := (first | exact eq_false (by decide) | exact eq_true (by decide) | decide | omega)) only [lX10_holds_0, lX10_holds_66, lX10_holds_107, lX10_holds_108, lX10_holds_144, lX10_holds_145, lX10_holds_154, lX10_holds_175, lX10_holds_179, lX10_holds_198, lX10_holds_202, lX10_holds_221, lX10_holds_225, lX10_holds_238, lX10_holds_239, bX10_holds_0, bX10_holds_66, bX10_holds_107, bX10_holds_108, bX10_holds_144, bX10_holds_145, bX10_holds_154, bX10_holds_175, bX10_holds_179, bX10_holds_198, bX10_holds_202, bX10_holds_221, bX10_holds_225, bX10_holds_238, bX10_holds_239, (show qX10_holds.2.2.2.1 = (some .boolean) from rfl), am_rok_bool, w_aload_n, w_baload, w_bipush, w_getfield, w_goto, w_iadd, w_iaload, w_icmp_ge, w_icmp_le, w_icmp_ne, w_iconst, w_idiv, w_if_eq, w_if_le, w_if_ne, w_iinc, w_iload, w_iload_n, w_imul, w_irem, w_ireturn, w_istore, w_isub, w_nop, w_swap, sa_68, sa_69, sa_79, sa_94, sg_60_17, sg_60_18, sg_60_31, sg_60_48, sg_60_50, cB_22, cB_81, cI_0, cI_1, cI_2, cI_3, am_lk0, am_lk1, am_ld_some, am_isI_i, am_isJ_j, am_isR_r, am_st_eq, am_rmv_nil, am_rmv_t, am_rmv_i, am_rmv_r, sf_SH, sj_SH, sf_eq, sf_nk, sf_na, sf_sf, am_args_i, am_args_r, am_args_n, Nat.reduceAdd, List.cons_append, List.nil_append, Option.toList, List.drop_succ_cons, List.drop_zero, am_RP, am_CP, am_PH, Fin.isValue, Fin.val_zero, Fin.val_one, am_f2, am_f3, true_and, and_true, true_implies, false_implies, not_false_eq_true, ne_eq, nI_clampD, nI_leT, nI_leF, nI_ltT, nI_ltF, nI_eqT, nI_eqF, nI_lt0F, nI_0leT, nI_eq0T, nI_eq0F, nI_0ltT, nI_0ltF, nI_le0T, nI_le0F, nI_m1, nI_m1', m1_m1, m1_lt, m1_le, nI_mul, nI_add, nI_sub, nI_add1, nI_dec, nI_div, nI_mod, vp_inD, sf_nkD, sf_eqD, hd, t0, bI_f, Nat.add_zero]
      refine ⟨_, _, ?_, ?_, mk9⟩
      · omega
      · (simp (decide := true) only [am_has, am_lk0, am_lk1, and_self, true_and, and_true] <;> first | rfl | (refine ⟨?_, ?_⟩ <;> rfl) | (refine ⟨?_, ?_, ?_⟩ <;> rfl) | (refine ⟨?_, ?_, ?_, ?_⟩ <;> rfl))
    | true =>
      rw [hPd] at t0
      cases hTd : Ttv L fs l fc dm (o.getD j1 0) (rest + d * w) with
      | false =>
        rw [hTd] at t1
        rw [hPd, hQv, hPd, hTd, Bool.and_false, if_pos rfl, if_neg (by decide), Nat.add_zero] at mk9
        simp (decide := true) (disch := (first | exact eq_false (by decide) | exact eq_true (by decide) | decide | omega)) only [lX10_holds_0, lX10_holds_66, lX10_holds_107, lX10_holds_108, lX10_holds_144, lX10_holds_145, lX10_holds_154, lX10_holds_175, lX10_holds_179, lX10_holds_198, lX10_holds_202, lX10_holds_221, lX10_holds_225, lX10_holds_238, lX10_holds_239, bX10_holds_0, bX10_holds_66, bX10_holds_107, bX10_holds_108, bX10_holds_144, bX10_holds_145, bX10_holds_154, bX10_holds_175, bX10_holds_179, bX10_holds_198, bX10_holds_202, bX10_holds_221, bX10_holds_225, bX10_holds_238, bX10_holds_239, (show qX10_holds.2.2.2.1 = (some .boolean) from rfl), am_rok_bool, w_aload_n, w_baload, w_bipush, w_getfield, w_goto, w_iadd, w_iaload, w_icmp_ge, w_icmp_le, w_icmp_ne, w_iconst, w_idiv, w_if_eq, w_if_le, w_if_ne, w_iinc, w_iload, w_iload_n, w_imul, w_irem, w_ireturn, w_istore, w_isub, w_nop, w_swap, sa_68, sa_69, sa_79, sa_94, sg_60_17, sg_60_18, sg_60_31, sg_60_48, sg_60_50, cB_22, cB_81, cI_0, cI_1, cI_2, cI_3, am_lk0, am_lk1, am_ld_some, am_isI_i, am_isJ_j, am_isR_r, am_st_eq, am_rmv_nil, am_rmv_t, am_rmv_i, am_rmv_r, sf_SH, sj_SH, sf_eq, sf_nk, sf_na, sf_sf, am_args_i, am_args_r, am_args_n, Nat.reduceAdd, List.cons_append, List.nil_append, Option.toList, List.drop_succ_cons, List.drop_zero, am_RP, am_CP, am_PH, Fin.isValue, Fin.val_zero, Fin.val_one, am_f2, am_f3, true_and, and_true, true_implies, false_implies, not_false_eq_true, ne_eq, nI_clampD, nI_leT, nI_leF, nI_ltT, nI_ltF, nI_eqT, nI_eqF, nI_lt0F, nI_0leT, nI_eq0T, nI_eq0F, nI_0ltT, nI_0ltF, nI_le0T, nI_le0F, nI_m1, nI_m1', m1_m1, m1_lt, m1_le, nI_mul, nI_add, nI_sub, nI_add1, nI_dec, nI_div, nI_mod, vp_inD, sf_nkD, sf_eqD, hd, t0, t1, bI_f, bI_t, Nat.add_zero]
        refine ⟨_, _, ?_, ?_, mk9⟩
        · omega
        · (simp (decide := true) only [am_has, am_lk0, am_lk1, and_self, true_and, and_true] <;> first | rfl | (refine ⟨?_, ?_⟩ <;> rfl) | (refine ⟨?_, ?_, ?_⟩ <;> rfl) | (refine ⟨?_, ?_, ?_, ?_⟩ <;> rfl))
      | true =>
        rw [hTd] at t1
        rw [hPd, hQv, hPd, hTd, Bool.and_true, if_pos rfl] at mk9
        simp (decide := true) (disch := (first | exact eq_false (by decide) | exact eq_true (by decide) | decide | omega)) only [lX10_holds_0, lX10_holds_66, lX10_holds_107, lX10_holds_108, lX10_holds_144, lX10_holds_145, lX10_holds_154, lX10_holds_175, lX10_holds_179, lX10_holds_198, lX10_holds_202, lX10_holds_221, lX10_holds_225, lX10_holds_238, lX10_holds_239, bX10_holds_0, bX10_holds_66, bX10_holds_107, bX10_holds_108, bX10_holds_144, bX10_holds_145, bX10_holds_154, bX10_holds_175, bX10_holds_179, bX10_holds_198, bX10_holds_202, bX10_holds_221, bX10_holds_225, bX10_holds_238, bX10_holds_239, (show qX10_holds.2.2.2.1 = (some .boolean) from rfl), am_rok_bool, w_aload_n, w_baload, w_bipush, w_getfield, w_goto, w_iadd, w_iaload, w_icmp_ge, w_icmp_le, w_icmp_ne, w_iconst, w_idiv, w_if_eq, w_if_le, w_if_ne, w_iinc, w_iload, w_iload_n, w_imul, w_irem, w_ireturn, w_istore, w_isub, w_nop, w_swap, sa_68, sa_69, sa_79, sa_94, sg_60_17, sg_60_18, sg_60_31, sg_60_48, sg_60_50, cB_22, cB_81, cI_0, cI_1, cI_2, cI_3, am_lk0, am_lk1, am_ld_some, am_isI_i, am_isJ_j, am_isR_r, am_st_eq, am_rmv_nil, am_rmv_t, am_rmv_i, am_rmv_r, sf_SH, sj_SH, sf_eq, sf_nk, sf_na, sf_sf, am_args_i, am_args_r, am_args_n, Nat.reduceAdd, List.cons_append, List.nil_append, Option.toList, List.drop_succ_cons, List.drop_zero, am_RP, am_CP, am_PH, Fin.isValue, Fin.val_zero, Fin.val_one, am_f2, am_f3, true_and, and_true, true_implies, false_implies, not_false_eq_true, ne_eq, nI_clampD, nI_leT, nI_leF, nI_ltT, nI_ltF, nI_eqT, nI_eqF, nI_lt0F, nI_0leT, nI_eq0T, nI_eq0F, nI_0ltT, nI_0ltF, nI_le0T, nI_le0F, nI_m1, nI_m1', m1_m1, m1_lt, m1_le, nI_mul, nI_add, nI_sub, nI_add1, nI_dec, nI_div, nI_mod, vp_inD, sf_nkD, sf_eqD, hd, t0, t1, bI_f, bI_t]
        refine ⟨_, _, ?_, ?_, mk9⟩
        · omega
        · (simp (decide := true) only [am_has, am_lk0, am_lk1, and_self, true_and, and_true] <;> first | rfl | (refine ⟨?_, ?_⟩ <;> rfl) | (refine ⟨?_, ?_, ?_⟩ <;> rfl) | (refine ⟨?_, ?_, ?_, ?_⟩ <;> rfl))
set_option maxRecDepth 100000 in
set_option maxHeartbeats 8000000 in
theorem c_X10_truthOf (hS : SMd L t fs I) (hG : Good L t fs) (hU : Usd L fs) (hR : Rdg fs i o l I) (hF : Fct 93 45 fc I) (hd : I 60 48 = nI dm) (hd3 : dm ≤ 3) :
    am_Ctr g am_mt 1 (h + 5) 207 [.ref 60, .int (nI i)] (am_SH, I, J) 0 0 (fun r M => r = some (.int (bI (TRU L fs fc dm o))) ∧ ∃ I', M = (am_SH, I', J) ∧ ∀ c, c ≠ 94 → I' c = I c) := by
  have hn := hG.le
  have hn0 := hG.1
  have hO := hR.ord
  have hol : o.length = fs.length := hO.2.2.1
  have hi := hR.2.2.2.2.2
  have h16 : I 60 16 = nI fs.length := hS.1
  have hTR : TRU L fs fc dm o = Ttv L fs l fc dm (o.getD 0 0) 0 := by
    unfold TRU Ttv
    rw [hO.1, eV_0]
    rfl
  obtain ⟨JJ, hJJ⟩ : ∃ JJ : Nat → am_Cut, JJ = (fun zu zpc zl zst zM zk zn => (∃ (k : Nat) (I1 : Nat → Nat → Int32), zu = 100 * k ∧ (k ≤ fs.length) ∧ (∀ c, c ≠ 94 → I1 c = I c) ∧ (∀ j, k ≤ j → j < fs.length → Trow L fs l fc dm (o.getD j 0) I1) ∧ zpc = 7 ∧ zl = [(0, .ref 60), (1, .int (nI i)), (2, .int (wI k))] ∧ zst = [] ∧ zM = (am_SH, I1, J) ∧ zk = 0 ∧ zn = 0) ∨ (∃ (k x : Nat) (I1 : Nat → Nat → Int32), zu = 100 * k + 1 + (81 - x) ∧ (k < fs.length ∧ x ≤ 81) ∧ (∀ c, c ≠ 94 → I1 c = I c) ∧ (∀ j, k + 1 ≤ j → j < fs.length → Trow L fs l fc dm (o.getD j 0) I1) ∧ (∀ v, v < x → I1 94 (81 * o.getD k 0 + v) = bI (Ttv L fs l fc dm (o.getD k 0) v)) ∧ zpc = 26 ∧ zl = [(0, .ref 60), (1, .int (nI i)), (2, .int (nI k)), (3, .int (nI (o.getD k 0))), (4, .int (nI x))] ∧ zst = [] ∧ zM = (am_SH, I1, J) ∧ zk = 0 ∧ zn = 0)) := ⟨_, rfl⟩
  have mk1 : ∀ (k : Nat) (I1 : Nat → Nat → Int32), (k ≤ fs.length) → (∀ c, c ≠ 94 → I1 c = I c) → (∀ j, k ≤ j → j < fs.length → Trow L fs l fc dm (o.getD j 0) I1) → JJ (100 * k) 7 [(0, .ref 60), (1, .int (nI i)), (2, .int (wI k))] [] (am_SH, I1, J) 0 0 := by
    intro k I1 a0 a1 a2
    rw [hJJ]
    exact Or.inl ⟨k, I1, rfl, a0, a1, a2, rfl, rfl, rfl, rfl, rfl, rfl⟩
  have mk2 : ∀ (k x : Nat) (I1 : Nat → Nat → Int32), (k < fs.length ∧ x ≤ 81) → (∀ c, c ≠ 94 → I1 c = I c) → (∀ j, k + 1 ≤ j → j < fs.length → Trow L fs l fc dm (o.getD j 0) I1) → (∀ v, v < x → I1 94 (81 * o.getD k 0 + v) = bI (Ttv L fs l fc dm (o.getD k 0) v)) → JJ (100 * k + 1 + (81 - x)) 26 [(0, .ref 60), (1, .int (nI i)), (2, .int (nI k)), (3, .int (nI (o.getD k 0))), (4, .int (nI x))] [] (am_SH, I1, J) 0 0 := by
    intro k x I1 a0 a1 a2 a3
    rw [hJJ]
    exact Or.inr (⟨k, x, I1, rfl, a0, a1, a2, a3, rfl, rfl, rfl, rfl, rfl, rfl⟩)
  refine am_rule2 (q := qX10_truthOf) (B := am_blk bX10_truthOf) rfl rfl kX10_truthOf nX10_truthOf (Nat.le_of_ble_eq_true rfl) JJ (fun zu zpc zl zst zM zk zn hj => ?_) ?_
  rotate_left
  · refine ⟨60, ?_⟩
    have h9 := wI_dec' (i := fs.length)
    have h8 : wI fs.length = nI (fs.length - 1) := wI_p hn0
    have mk9 := mk1 fs.length I (Nat.le_refl _) (fun _ _ => rfl) (fun j h1 h2 => absurd h2 (by omega))
    rw [h8] at mk9
    simp (decide := true) (disch := (first | exact eq_false (by decide) | exact eq_true (by decide) | decide | omega)) only [lX10_truthOf_0, lX10_truthOf_7, lX10_truthOf_26, lX10_truthOf_64, lX10_truthOf_116, lX10_truthOf_117, lX10_truthOf_121, lX10_truthOf_141, lX10_truthOf_147, lX10_truthOf_153, bX10_truthOf_0, bX10_truthOf_7, bX10_truthOf_26, bX10_truthOf_64, bX10_truthOf_116, bX10_truthOf_117, bX10_truthOf_121, bX10_truthOf_141, bX10_truthOf_147, bX10_truthOf_153, (show qX10_truthOf.2.2.2.1 = (some .boolean) from rfl), am_rok_bool, w_aload_n, w_baload, w_bastore, w_bipush, w_getfield, w_goto, w_iadd, w_iaload, w_icmp_ge, w_icmp_ne, w_iconst, w_if_lt, w_if_ne, w_iinc, w_iload, w_iload_n, w_imul, w_ireturn, w_istore, w_istore_n, w_isub, w_nop, w_swap, sa_68, sa_78, sa_79, sa_94, sg_60_16, sg_60_17, sg_60_30, sg_60_31, sg_60_50, cB_11, cB_22, cB_81, cI_0, cI_1, cI_2, cI_5, am_lk0, am_lk1, am_ld_some, am_isI_i, am_isJ_j, am_isR_r, am_st_eq, am_rmv_nil, am_rmv_t, am_rmv_i, am_rmv_r, sf_SH, sj_SH, sf_eq, sf_nk, sf_na, sf_sf, am_args_i, am_args_r, am_args_n, Nat.reduceAdd, List.cons_append, List.nil_append, Option.toList, List.drop_succ_cons, List.drop_zero, am_RP, am_CP, am_PH, Fin.isValue, Fin.val_zero, Fin.val_one, am_f2, am_f3, true_and, and_true, true_implies, false_implies, not_false_eq_true, ne_eq, nI_clampD, nI_leT, nI_leF, nI_ltT, nI_ltF, nI_eqT, nI_eqF, nI_lt0F, nI_0leT, nI_eq0T, nI_eq0F, nI_0ltT, nI_0ltF, nI_le0T, nI_le0F, nI_m1, nI_m1', m1_m1, m1_lt, m1_le, nI_mul, nI_add, nI_sub, nI_add1, nI_dec, nI_div, nI_mod, vp_inD, sf_nkD, sf_eqD, h16]
    refine ⟨_, _, ?_, mk9⟩
    · (simp (decide := true) only [am_has, am_lk0, am_lk1, and_self, true_and, and_true] <;> first | rfl | (refine ⟨?_, ?_⟩ <;> rfl) | (refine ⟨?_, ?_, ?_⟩ <;> rfl) | (refine ⟨?_, ?_, ?_, ?_⟩ <;> rfl))
  rw [hJJ] at hj
  clear hJJ
  rcases hj with ⟨k, I1, rfl, e1, e2, e3, rfl, rfl, rfl, rfl, rfl, rfl⟩ | ⟨k, x, I1, rfl, e1, e2, e3, e4, rfl, rfl, rfl, rfl, rfl, rfl⟩
  · refine ⟨_, 60, rfl, rfl, ?_⟩
    have k78 : ∀ k, k < fs.length → I1 78 (11 * i + k) = nI (o.getD k 0) := fun k hk => by rw [e2 78 (by decide)]; exact hR.2.2.2.2.1.1 k hk
    by_cases hk : k = 0
    · have e0 : (wI k < 0) = True := by rw [hk]; decide
      have k0 := k78 0 hn0
      rw [Nat.add_zero] at k0
      have ho0 := gD_lt hO.2.2.2 (k := 0) (by omega)
      have t0 := e3 0 (by omega) hn0 0 (by omega)
      rw [Nat.add_zero] at t0
      simp (decide := true) (disch := (first | exact eq_false (by decide) | exact eq_true (by decide) | decide | omega)) only [lX10_truthOf_0, lX10_truthOf_7, lX10_truthOf_26, lX10_truthOf_64, lX10_truthOf_116, lX10_truthOf_117, lX10_truthOf_121, lX10_truthOf_141, lX10_truthOf_147, lX10_truthOf_153, bX10_truthOf_0, bX10_truthOf_7, bX10_truthOf_26, bX10_truthOf_64, bX10_truthOf_116, bX10_truthOf_117, bX10_truthOf_121, bX10_truthOf_141, bX10_truthOf_147, bX10_truthOf_153, (show qX10_truthOf.2.2.2.1 = (some .boolean) from rfl), am_rok_bool, w_aload_n, w_baload, w_bastore, w_bipush, w_getfield, w_goto, w_iadd, w_iaload, w_icmp_ge, w_icmp_ne, w_iconst, w_if_lt, w_if_ne, w_iinc, w_iload, w_iload_n, w_imul, w_ireturn, w_istore, w_istore_n, w_isub, w_nop, w_swap, sa_68, sa_78, sa_79, sa_94, sg_60_16, sg_60_17, sg_60_30, sg_60_31, sg_60_50, cB_11, cB_22, cB_81, cI_0, cI_1, cI_2, cI_5, am_lk0, am_lk1, am_ld_some, am_isI_i, am_isJ_j, am_isR_r, am_st_eq, am_rmv_nil, am_rmv_t, am_rmv_i, am_rmv_r, sf_SH, sj_SH, sf_eq, sf_nk, sf_na, sf_sf, am_args_i, am_args_r, am_args_n, Nat.reduceAdd, List.cons_append, List.nil_append, Option.toList, List.drop_succ_cons, List.drop_zero, am_RP, am_CP, am_PH, Fin.isValue, Fin.val_zero, Fin.val_one, am_f2, am_f3, true_and, and_true, true_implies, false_implies, not_false_eq_true, ne_eq, nI_clampD, nI_leT, nI_leF, nI_ltT, nI_ltF, nI_eqT, nI_eqF, nI_lt0F, nI_0leT, nI_eq0T, nI_eq0F, nI_0ltT, nI_0ltF, nI_le0T, nI_le0F, nI_m1, nI_m1', m1_m1, m1_lt, m1_le, nI_mul, nI_add, nI_sub, nI_add1, nI_dec, nI_div, nI_mod, vp_inD, sf_nkD, sf_eqD, e0, k0, t0, bI_01]
      exact ⟨by rw [hTR], I1, rfl, e2⟩
    · have e0 : wI k = nI (k - 1) := wI_p (by omega)
      have k0 := k78 (k - 1) (by omega)
      simp (decide := true) (disch := (first | exact eq_false (by decide) | exact eq_true (by decide) | decide | omega)) only [lX10_truthOf_0, lX10_truthOf_7, lX10_truthOf_26, lX10_truthOf_64, lX10_truthOf_116, lX10_truthOf_117, lX10_truthOf_121, lX10_truthOf_141, lX10_truthOf_147, lX10_truthOf_153, bX10_truthOf_0, bX10_truthOf_7, bX10_truthOf_26, bX10_truthOf_64, bX10_truthOf_116, bX10_truthOf_117, bX10_truthOf_121, bX10_truthOf_141, bX10_truthOf_147, bX10_truthOf_153, (show qX10_truthOf.2.2.2.1 = (some .boolean) from rfl), am_rok_bool, w_aload_n, w_baload, w_bastore, w_bipush, w_getfield, w_goto, w_iadd, w_iaload, w_icmp_ge, w_icmp_ne, w_iconst, w_if_lt, w_if_ne, w_iinc, w_iload, w_iload_n, w_imul, w_ireturn, w_istore, w_istore_n, w_isub, w_nop, w_swap, sa_68, sa_78, sa_79, sa_94, sg_60_16, sg_60_17, sg_60_30, sg_60_31, sg_60_50, cB_11, cB_22, cB_81, cI_0, cI_1, cI_2, cI_5, am_lk0, am_lk1, am_ld_some, am_isI_i, am_isJ_j, am_isR_r, am_st_eq, am_rmv_nil, am_rmv_t, am_rmv_i, am_rmv_r, sf_SH, sj_SH, sf_eq, sf_nk, sf_na, sf_sf, am_args_i, am_args_r, am_args_n, Nat.reduceAdd, List.cons_append, List.nil_append, Option.toList, List.drop_succ_cons, List.drop_zero, am_RP, am_CP, am_PH, Fin.isValue, Fin.val_zero, Fin.val_one, am_f2, am_f3, true_and, and_true, true_implies, false_implies, not_false_eq_true, ne_eq, nI_clampD, nI_leT, nI_leF, nI_ltT, nI_ltF, nI_eqT, nI_eqF, nI_lt0F, nI_0leT, nI_eq0T, nI_eq0F, nI_0ltT, nI_0ltF, nI_le0T, nI_le0F, nI_m1, nI_m1', m1_m1, m1_lt, m1_le, nI_mul, nI_add, nI_sub, nI_add1, nI_dec, nI_div, nI_mod, vp_inD, sf_nkD, sf_eqD, e0, k0]
      refine ⟨_, _, ?_, ?_, mk2 (k - 1) 0 I1 ⟨by omega, by omega⟩ e2 (fun j h1 h2 => e3 j (by omega) h2) (fun v hv => absurd hv (Nat.not_lt_zero _))⟩
      · omega
      · (simp (decide := true) only [am_has, am_lk0, am_lk1, and_self, true_and, and_true] <;> first | rfl | (refine ⟨?_, ?_⟩ <;> rfl) | (refine ⟨?_, ?_, ?_⟩ <;> rfl) | (refine ⟨?_, ?_, ?_, ?_⟩ <;> rfl))
  · refine ⟨_, 90, rfl, rfl, ?_⟩
    obtain ⟨e1, e5⟩ := e1
    by_cases hx : x = 81
    · subst hx
      have hdec : nI k + -1 = wI k := by
        have := wI_dec1 (i := k + 1) (by omega)
        rw [Nat.add_sub_cancel] at this
        exact this
      have hdec' : nI k + Int32.ofInt (-1) = wI k := by rw [cI_m1]; exact hdec
      simp (decide := true) (disch := (first | exact eq_false (by decide) | exact eq_true (by decide) | decide | omega)) only [lX10_truthOf_0, lX10_truthOf_7, lX10_truthOf_26, lX10_truthOf_64, lX10_truthOf_116, lX10_truthOf_117, lX10_truthOf_121, lX10_truthOf_141, lX10_truthOf_147, bX10_truthOf_0, bX10_truthOf_7, bX10_truthOf_26, bX10_truthOf_64, bX10_truthOf_116, bX10_truthOf_117, bX10_truthOf_121, bX10_truthOf_141, bX10_truthOf_147, (show qX10_truthOf.2.2.2.1 = (some .boolean) from rfl), am_rok_bool, w_aload_n, w_baload, w_bastore, w_bipush, w_getfield, w_goto, w_iadd, w_iaload, w_icmp_ge, w_icmp_ne, w_iconst, w_if_lt, w_if_ne, w_iinc, w_iload, w_iload_n, w_imul, w_ireturn, w_istore, w_istore_n, w_isub, w_nop, w_swap, sa_68, sa_78, sa_79, sa_94, sg_60_16, sg_60_17, sg_60_30, sg_60_31, sg_60_50, cB_11, cB_22, cB_81, cI_0, cI_1, cI_2, cI_5, am_lk0, am_lk1, am_ld_some, am_isI_i, am_isJ_j, am_isR_r, am_st_eq, am_rmv_nil, am_rmv_t, am_rmv_i, am_rmv_r, sf_SH, sj_SH, sf_eq, sf_nk, sf_na, sf_sf, am_args_i, am_args_r, am_args_n, Nat.reduceAdd, List.cons_append, List.nil_append, Option.toList, List.drop_succ_cons, List.drop_zero, am_RP, am_CP, am_PH, Fin.isValue, Fin.val_zero, Fin.val_one, am_f2, am_f3, true_and, and_true, true_implies, false_implies, not_false_eq_true, ne_eq, nI_clampD, nI_leT, nI_leF, nI_ltT, nI_ltF, nI_eqT, nI_eqF, nI_lt0F, nI_0leT, nI_eq0T, nI_eq0F, nI_0ltT, nI_0ltF, nI_le0T, nI_le0F, nI_m1, nI_m1', m1_m1, m1_lt, m1_le, nI_mul, nI_add, nI_sub, nI_add1, nI_dec, nI_div, nI_mod, vp_inD, sf_nkD, sf_eqD, hdec, hdec']
      refine ⟨_, _, ?_, ?_, mk1 k I1 (by omega) e2 (fun j h1 h2 => ?_)⟩
      · omega
      · (simp (decide := true) only [am_has, am_lk0, am_lk1, and_self, true_and, and_true] <;> first | rfl | (refine ⟨?_, ?_⟩ <;> rfl) | (refine ⟨?_, ?_, ?_⟩ <;> rfl) | (refine ⟨?_, ?_, ?_, ?_⟩ <;> rfl))
      by_cases hjk : j = k
      · rw [hjk]; exact e4
      · exact e3 j (by omega) h2
    · have hko : k < o.length := by omega
      have hf := gD_lt hO.2.2.2 hko
      have hS1 : SMd L t fs I1 := hS.fr (by rw [e2 60 (by decide)]) (by rw [e2 60 (by decide)]) (fun c _ _ => e2 c (by omega))
      have hR1 : Rdg fs i o l I1 := hR.fr (e2 78 (by decide)) (e2 79 (by decide))
      have hF1 : Fct 93 45 fc I1 := fun k hk => by rw [e2 93 (by decide)]; exact hF k hk
      have hd1 : I1 60 48 = nI dm := by rw [e2 60 (by decide)]; exact hd
      have hk := (hS1.2.1 _ hf).1
      have hk6 := hG.k6 hf
      have go : ∀ v, v = bI (Ttv L fs l fc dm (o.getD k 0) x) → JJ (100 * k + 1 + (81 - (x + 1))) 26 [(0, .ref 60), (1, .int (nI i)), (2, .int (nI k)), (3, .int (nI (o.getD k 0))), (4, .int (nI (x + 1)))] [] (am_SH, sf I1 94 (81 * o.getD k 0 + x) v, J) 0 0 := by
        intro v hv
        refine mk2 k (x + 1) _ ⟨e1, by omega⟩ (fun c hc => by rw [sf_naD hc]; exact e2 c hc) (fun j h1 h2 v' hv' => ?_) (fun v' hv' => ?_)
        · have hne : o.getD j 0 ≠ o.getD k 0 := fun h9 => by have := gD_inj hO.2.1 (by omega) hko h9; omega
          have hjb := gD_lt hO.2.2.2 (show j < o.length by omega)
          rw [sf_nkD (by omega)]
          exact e3 j h1 h2 v' hv'
        · by_cases hvx : v' = x
          · rw [sf_eqD (by omega), hvx]; exact hv
          · rw [sf_nkD (by omega)]; exact e4 v' (by omega)
      by_cases h0 : kF (nF fs (o.getD k 0)) = 0
      · have hk0 := hk
        rw [h0] at hk0
        have hT : Ttv L fs l fc dm (o.getD k 0) x = tvF L fs fc (o.getD k 0) (eV fs x) := by
          unfold Ttv
          conv => lhs; unfold tv
          rw [if_pos h0]
        simp (decide := true) (disch := (first | exact eq_false (by decide) | exact eq_true (by decide) | decide | omega)) only [lX10_truthOf_0, lX10_truthOf_7, lX10_truthOf_26, lX10_truthOf_64, lX10_truthOf_116, lX10_truthOf_117, lX10_truthOf_121, lX10_truthOf_141, lX10_truthOf_147, bX10_truthOf_0, bX10_truthOf_7, bX10_truthOf_26, bX10_truthOf_64, bX10_truthOf_116, bX10_truthOf_117, bX10_truthOf_121, bX10_truthOf_141, bX10_truthOf_147, (show qX10_truthOf.2.2.2.1 = (some .boolean) from rfl), am_rok_bool, w_aload_n, w_baload, w_bastore, w_bipush, w_getfield, w_goto, w_iadd, w_iaload, w_icmp_ge, w_icmp_ne, w_iconst, w_if_lt, w_if_ne, w_iinc, w_iload, w_iload_n, w_imul, w_ireturn, w_istore, w_istore_n, w_isub, w_nop, w_swap, sa_68, sa_78, sa_79, sa_94, sg_60_16, sg_60_17, sg_60_30, sg_60_31, sg_60_50, cB_11, cB_22, cB_81, cI_0, cI_1, cI_2, cI_5, am_lk0, am_lk1, am_ld_some, am_isI_i, am_isJ_j, am_isR_r, am_st_eq, am_rmv_nil, am_rmv_t, am_rmv_i, am_rmv_r, sf_SH, sj_SH, sf_eq, sf_nk, sf_na, sf_sf, am_args_i, am_args_r, am_args_n, Nat.reduceAdd, List.cons_append, List.nil_append, Option.toList, List.drop_succ_cons, List.drop_zero, am_RP, am_CP, am_PH, Fin.isValue, Fin.val_zero, Fin.val_one, am_f2, am_f3, true_and, and_true, true_implies, false_implies, not_false_eq_true, ne_eq, nI_clampD, nI_leT, nI_leF, nI_ltT, nI_ltF, nI_eqT, nI_eqF, nI_lt0F, nI_0leT, nI_eq0T, nI_eq0F, nI_0ltT, nI_0ltF, nI_le0T, nI_le0F, nI_m1, nI_m1', m1_m1, m1_lt, m1_le, nI_mul, nI_add, nI_sub, nI_add1, nI_dec, nI_div, nI_mod, vp_inD, sf_nkD, sf_eqD, hk0]
        refine w_virtE (c_X10_isFact g h I1 J hS1 hG hU hF1 (o.getD k 0) x hf h0 (by omega)) rfl rfl rfl (of_eq_true so_60) rfl (Nat.le_refl _) (Nat.le_refl _) ?_
        rw [← hT]
        simp (decide := true) (disch := (first | exact eq_false (by decide) | exact eq_true (by decide) | decide | omega)) only [lX10_truthOf_0, lX10_truthOf_7, lX10_truthOf_26, lX10_truthOf_64, lX10_truthOf_116, lX10_truthOf_117, lX10_truthOf_121, lX10_truthOf_141, lX10_truthOf_147, bX10_truthOf_0, bX10_truthOf_7, bX10_truthOf_26, bX10_truthOf_64, bX10_truthOf_116, bX10_truthOf_117, bX10_truthOf_121, bX10_truthOf_141, bX10_truthOf_147, (show qX10_truthOf.2.2.2.1 = (some .boolean) from rfl), am_rok_bool, w_aload_n, w_baload, w_bastore, w_bipush, w_getfield, w_goto, w_iadd, w_iaload, w_icmp_ge, w_icmp_ne, w_iconst, w_if_lt, w_if_ne, w_iinc, w_iload, w_iload_n, w_imul, w_ireturn, w_istore, w_istore_n, w_isub, w_nop, w_swap, sa_68, sa_78, sa_79, sa_94, sg_60_16, sg_60_17, sg_60_30, sg_60_31, sg_60_50, cB_11, cB_22, cB_81, cI_0, cI_1, cI_2, cI_5, am_lk0, am_lk1, am_ld_some, am_isI_i, am_isJ_j, am_isR_r, am_st_eq, am_rmv_nil, am_rmv_t, am_rmv_i, am_rmv_r, sf_SH, sj_SH, sf_eq, sf_nk, sf_na, sf_sf, am_args_i, am_args_r, am_args_n, Nat.reduceAdd, List.cons_append, List.nil_append, Option.toList, List.drop_succ_cons, List.drop_zero, am_RP, am_CP, am_PH, Fin.isValue, Fin.val_zero, Fin.val_one, am_f2, am_f3, true_and, and_true, true_implies, false_implies, not_false_eq_true, ne_eq, nI_clampD, nI_leT, nI_leF, nI_ltT, nI_ltF, nI_eqT, nI_eqF, nI_lt0F, nI_0leT, nI_eq0T, nI_eq0F, nI_0ltT, nI_0ltF, nI_le0T, nI_le0F, nI_m1, nI_m1', m1_m1, m1_lt, m1_le, nI_mul, nI_add, nI_sub, nI_add1, nI_dec, nI_div, nI_mod, vp_inD, sf_nkD, sf_eqD, bI_01]
        refine ⟨_, _, ?_, ?_, go _ rfl⟩
        · omega
        · (simp (decide := true) only [am_has, am_lk0, am_lk1, and_self, true_and, and_true] <;> first | rfl | (refine ⟨?_, ?_⟩ <;> rfl) | (refine ⟨?_, ?_, ?_⟩ <;> rfl) | (refine ⟨?_, ?_, ?_, ?_⟩ <;> rfl))
      · by_cases h5 : kF (nF fs (o.getD k 0)) = 5
        · have hk5 := hk
          rw [h5] at hk5
          obtain ⟨j', a1, a2, a3, a4, a5⟩ := chd I1 hR1 hG hko (x := 0) (by rw [h5]; decide)
          rw [Nat.add_zero] at a3 a4
          have hjb := gD_lt hO.2.2.2 a2
          have t0 := e3 j' (by omega) (by omega) x (by omega)
          have hT : Ttv L fs l fc dm (o.getD k 0) x = !Ttv L fs l fc dm (o.getD j' 0) x := by
            unfold Ttv
            conv => lhs; unfold tv
            rw [if_neg h0, if_pos h5, a3, a5]
          cases ht : Ttv L fs l fc dm (o.getD j' 0) x with
          | true =>
            rw [ht] at t0 hT
            simp (decide := true) (disch := (first | exact eq_false (by decide) | exact eq_true (by decide) | decide | omega)) only [lX10_truthOf_0, lX10_truthOf_7, lX10_truthOf_26, lX10_truthOf_64, lX10_truthOf_116, lX10_truthOf_117, lX10_truthOf_121, lX10_truthOf_141, lX10_truthOf_147, bX10_truthOf_0, bX10_truthOf_7, bX10_truthOf_26, bX10_truthOf_64, bX10_truthOf_116, bX10_truthOf_117, bX10_truthOf_121, bX10_truthOf_141, bX10_truthOf_147, (show qX10_truthOf.2.2.2.1 = (some .boolean) from rfl), am_rok_bool, w_aload_n, w_baload, w_bastore, w_bipush, w_getfield, w_goto, w_iadd, w_iaload, w_icmp_ge, w_icmp_ne, w_iconst, w_if_lt, w_if_ne, w_iinc, w_iload, w_iload_n, w_imul, w_ireturn, w_istore, w_istore_n, w_isub, w_nop, w_swap, sa_68, sa_78, sa_79, sa_94, sg_60_16, sg_60_17, sg_60_30, sg_60_31, sg_60_50, cB_11, cB_22, cB_81, cI_0, cI_1, cI_2, cI_5, am_lk0, am_lk1, am_ld_some, am_isI_i, am_isJ_j, am_isR_r, am_st_eq, am_rmv_nil, am_rmv_t, am_rmv_i, am_rmv_r, sf_SH, sj_SH, sf_eq, sf_nk, sf_na, sf_sf, am_args_i, am_args_r, am_args_n, Nat.reduceAdd, List.cons_append, List.nil_append, Option.toList, List.drop_succ_cons, List.drop_zero, am_RP, am_CP, am_PH, Fin.isValue, Fin.val_zero, Fin.val_one, am_f2, am_f3, true_and, and_true, true_implies, false_implies, not_false_eq_true, ne_eq, nI_clampD, nI_leT, nI_leF, nI_ltT, nI_ltF, nI_eqT, nI_eqF, nI_lt0F, nI_0leT, nI_eq0T, nI_eq0F, nI_0ltT, nI_0ltF, nI_le0T, nI_le0F, nI_m1, nI_m1', m1_m1, m1_lt, m1_le, nI_mul, nI_add, nI_sub, nI_add1, nI_dec, nI_div, nI_mod, vp_inD, sf_nkD, sf_eqD, hk5, a4, t0, bI_t, nI0_01]
            refine ⟨_, _, ?_, ?_, go _ (by rw [hT]; rfl)⟩
            · omega
            · (simp (decide := true) only [am_has, am_lk0, am_lk1, and_self, true_and, and_true] <;> first | rfl | (refine ⟨?_, ?_⟩ <;> rfl) | (refine ⟨?_, ?_, ?_⟩ <;> rfl) | (refine ⟨?_, ?_, ?_, ?_⟩ <;> rfl))
          | false =>
            rw [ht] at t0 hT
            simp (decide := true) (disch := (first | exact eq_false (by decide) | exact eq_true (by decide) | decide | omega)) only [lX10_truthOf_0, lX10_truthOf_7, lX10_truthOf_26, lX10_truthOf_64, lX10_truthOf_116, lX10_truthOf_117, lX10_truthOf_121, lX10_truthOf_141, lX10_truthOf_147, bX10_truthOf_0, bX10_truthOf_7, bX10_truthOf_26, bX10_truthOf_64, bX10_truthOf_116, bX10_truthOf_117, bX10_truthOf_121, bX10_truthOf_141, bX10_truthOf_147, (show qX10_truthOf.2.2.2.1 = (some .boolean) from rfl), am_rok_bool, w_aload_n, w_baload, w_bastore, w_bipush, w_getfield, w_goto, w_iadd, w_iaload, w_icmp_ge, w_icmp_ne, w_iconst, w_if_lt, w_if_ne, w_iinc, w_iload, w_iload_n, w_imul, w_ireturn, w_istore, w_istore_n, w_isub, w_nop, w_swap, sa_68, sa_78, sa_79, sa_94, sg_60_16, sg_60_17, sg_60_30, sg_60_31, sg_60_50, cB_11, cB_22, cB_81, cI_0, cI_1, cI_2, cI_5, am_lk0, am_lk1, am_ld_some, am_isI_i, am_isJ_j, am_isR_r, am_st_eq, am_rmv_nil, am_rmv_t, am_rmv_i, am_rmv_r, sf_SH, sj_SH, sf_eq, sf_nk, sf_na, sf_sf, am_args_i, am_args_r, am_args_n, Nat.reduceAdd, List.cons_append, List.nil_append, Option.toList, List.drop_succ_cons, List.drop_zero, am_RP, am_CP, am_PH, Fin.isValue, Fin.val_zero, Fin.val_one, am_f2, am_f3, true_and, and_true, true_implies, false_implies, not_false_eq_true, ne_eq, nI_clampD, nI_leT, nI_leF, nI_ltT, nI_ltF, nI_eqT, nI_eqF, nI_lt0F, nI_0leT, nI_eq0T, nI_eq0F, nI_0ltT, nI_0ltF, nI_le0T, nI_le0F, nI_m1, nI_m1', m1_m1, m1_lt, m1_le, nI_mul, nI_add, nI_sub, nI_add1, nI_dec, nI_div, nI_mod, vp_inD, sf_nkD, sf_eqD, hk5, a4, t0, bI_f, nI1_01]
            refine ⟨_, _, ?_, ?_, go _ (by rw [hT]; rfl)⟩
            · omega
            · (simp (decide := true) only [am_has, am_lk0, am_lk1, and_self, true_and, and_true] <;> first | rfl | (refine ⟨?_, ?_⟩ <;> rfl) | (refine ⟨?_, ?_, ?_⟩ <;> rfl) | (refine ⟨?_, ?_, ?_, ?_⟩ <;> rfl))
        · have hr : rk (kF (nF fs (o.getD k 0))) = 2 := by unfold rk; rw [if_neg h0, if_neg h5]
          simp (decide := true) (disch := (first | exact eq_false (by decide) | exact eq_true (by decide) | decide | omega)) only [lX10_truthOf_0, lX10_truthOf_7, lX10_truthOf_26, lX10_truthOf_64, lX10_truthOf_116, lX10_truthOf_117, lX10_truthOf_121, lX10_truthOf_141, lX10_truthOf_147, bX10_truthOf_0, bX10_truthOf_7, bX10_truthOf_26, bX10_truthOf_64, bX10_truthOf_116, bX10_truthOf_117, bX10_truthOf_121, bX10_truthOf_141, bX10_truthOf_147, (show qX10_truthOf.2.2.2.1 = (some .boolean) from rfl), am_rok_bool, w_aload_n, w_baload, w_bastore, w_bipush, w_getfield, w_goto, w_iadd, w_iaload, w_icmp_ge, w_icmp_ne, w_iconst, w_if_lt, w_if_ne, w_iinc, w_iload, w_iload_n, w_imul, w_ireturn, w_istore, w_istore_n, w_isub, w_nop, w_swap, sa_68, sa_78, sa_79, sa_94, sg_60_16, sg_60_17, sg_60_30, sg_60_31, sg_60_50, cB_11, cB_22, cB_81, cI_0, cI_1, cI_2, cI_5, am_lk0, am_lk1, am_ld_some, am_isI_i, am_isJ_j, am_isR_r, am_st_eq, am_rmv_nil, am_rmv_t, am_rmv_i, am_rmv_r, sf_SH, sj_SH, sf_eq, sf_nk, sf_na, sf_sf, am_args_i, am_args_r, am_args_n, Nat.reduceAdd, List.cons_append, List.nil_append, Option.toList, List.drop_succ_cons, List.drop_zero, am_RP, am_CP, am_PH, Fin.isValue, Fin.val_zero, Fin.val_one, am_f2, am_f3, true_and, and_true, true_implies, false_implies, not_false_eq_true, ne_eq, nI_clampD, nI_leT, nI_leF, nI_ltT, nI_ltF, nI_eqT, nI_eqF, nI_lt0F, nI_0leT, nI_eq0T, nI_eq0F, nI_0ltT, nI_0ltF, nI_le0T, nI_le0F, nI_m1, nI_m1', m1_m1, m1_lt, m1_le, nI_mul, nI_add, nI_sub, nI_add1, nI_dec, nI_div, nI_mod, vp_inD, sf_nkD, sf_eqD, hk]
          refine w_virtE (c_X10_holds g h I1 J hS1 hG hU hR1 hd1 hd3 k x hko hr (by omega) (fun j' h1 h2 => e3 j' (by omega) (by omega))) rfl rfl rfl (of_eq_true so_60) rfl (Nat.le_refl _) (Nat.le_refl _) ?_
          simp (decide := true) (disch := (first | exact eq_false (by decide) | exact eq_true (by decide) | decide | omega)) only [lX10_truthOf_0, lX10_truthOf_7, lX10_truthOf_26, lX10_truthOf_64, lX10_truthOf_116, lX10_truthOf_117, lX10_truthOf_121, lX10_truthOf_141, lX10_truthOf_147, bX10_truthOf_0, bX10_truthOf_7, bX10_truthOf_26, bX10_truthOf_64, bX10_truthOf_116, bX10_truthOf_117, bX10_truthOf_121, bX10_truthOf_141, bX10_truthOf_147, (show qX10_truthOf.2.2.2.1 = (some .boolean) from rfl), am_rok_bool, w_aload_n, w_baload, w_bastore, w_bipush, w_getfield, w_goto, w_iadd, w_iaload, w_icmp_ge, w_icmp_ne, w_iconst, w_if_lt, w_if_ne, w_iinc, w_iload, w_iload_n, w_imul, w_ireturn, w_istore, w_istore_n, w_isub, w_nop, w_swap, sa_68, sa_78, sa_79, sa_94, sg_60_16, sg_60_17, sg_60_30, sg_60_31, sg_60_50, cB_11, cB_22, cB_81, cI_0, cI_1, cI_2, cI_5, am_lk0, am_lk1, am_ld_some, am_isI_i, am_isJ_j, am_isR_r, am_st_eq, am_rmv_nil, am_rmv_t, am_rmv_i, am_rmv_r, sf_SH, sj_SH, sf_eq, sf_nk, sf_na, sf_sf, am_args_i, am_args_r, am_args_n, Nat.reduceAdd, List.cons_append, List.nil_append, Option.toList, List.drop_succ_cons, List.drop_zero, am_RP, am_CP, am_PH, Fin.isValue, Fin.val_zero, Fin.val_one, am_f2, am_f3, true_and, and_true, true_implies, false_implies, not_false_eq_true, ne_eq, nI_clampD, nI_leT, nI_leF, nI_ltT, nI_ltF, nI_eqT, nI_eqF, nI_lt0F, nI_0leT, nI_eq0T, nI_eq0F, nI_0ltT, nI_0ltF, nI_le0T, nI_le0F, nI_m1, nI_m1', m1_m1, m1_lt, m1_le, nI_mul, nI_add, nI_sub, nI_add1, nI_dec, nI_div, nI_mod, vp_inD, sf_nkD, sf_eqD, bI_01]
          refine ⟨_, _, ?_, ?_, go _ rfl⟩
          · omega
          · (simp (decide := true) only [am_has, am_lk0, am_lk1, and_self, true_and, and_true] <;> first | rfl | (refine ⟨?_, ?_⟩ <;> rfl) | (refine ⟨?_, ?_, ?_⟩ <;> rfl) | (refine ⟨?_, ?_, ?_, ?_⟩ <;> rfl))
end MT3
