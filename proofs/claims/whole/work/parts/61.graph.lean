/-! sets in words; edges; the class' graph -/
def Bp (w : Int32) (P : Nat → Prop) : Prop := ∀ i, i < 32 → (ib w i = true ↔ P i)
theorem Bp.cg {w : Int32} {P Q : Nat → Prop} (h : Bp w P) (hPQ : ∀ i, i < 32 → (P i ↔ Q i)) : Bp w Q := fun i hi => (h i hi).trans (hPQ i hi)
theorem Bp_0 : Bp 0 (fun _ => False) := fun i _ => by rw [ib_0]; exact ⟨fun h => (by cases h), False.elim⟩
theorem Bp_n0 : Bp (nI 0) (fun _ => False) := by rw [nI_0]; exact Bp_0
theorem Bp_1 {k : Nat} (hk : k < 31) : Bp (nI 1 <<< (nI k &&& 31)) (fun i => i = k) := fun i _ => by rw [ib_shl hk, decide_eq_true_iff]
theorem Bp.or {w v : Int32} {P Q : Nat → Prop} (h1 : Bp w P) (h2 : Bp v Q) : Bp (w ||| v) (fun i => P i ∨ Q i) := fun i hi => by rw [ib_or, Bool.or_eq_true, h1 i hi, h2 i hi]
theorem Bp.and {w v : Int32} {P Q : Nat → Prop} (h1 : Bp w P) (h2 : Bp v Q) : Bp (w &&& v) (fun i => P i ∧ Q i) := fun i hi => by rw [ib_and, Bool.and_eq_true, h1 i hi, h2 i hi]
theorem Bp.not {w : Int32} {P : Nat → Prop} (h1 : Bp w P) : Bp (w ^^^ -1) (fun i => ¬ P i) := fun i hi => by
  show _ ↔ ¬ P i
  rw [ib_xm w hi, Bool.not_eq_true', ← h1 i hi, Bool.not_eq_true]
theorem Bp.z {w : Int32} {P : Nat → Prop} (h1 : Bp w P) : (w = 0) = ∀ i, i < 32 → ¬ P i := by
  apply propext
  constructor
  · intro h i hi hp
    have := (h1 i hi).mpr hp
    rw [h, ib_0] at this
    cases this
  · intro h
    apply ib_ext
    intro i hi
    rw [ib_0]
    cases hw : ib w i with
    | false => rfl
    | true => exact absurd ((h1 i hi).mp hw) (h i hi)
theorem Bp.add {w : Int32} {P : Nat → Prop} (h1 : Bp w P) {k : Nat} (hk : k < 31) : Bp (w ||| nI 1 <<< (nI k &&& 31)) (fun i => P i ∨ i = k) := h1.or (Bp_1 hk)
/-- the leaves of a quantifier's scope -/
def SC (fs : List Fg) (f g : Nat) : Prop := g < fs.length ∧ kF (nF fs g) = 0 ∧ g ≠ f + 1 ∧ cnt1 (nF fs g) (vF (nF fs f)) = true
/-- the edges of the sentence -/
def SE (fs : List Fg) (x g : Nat) : Prop := x / 2 < fs.length ∧ g < fs.length ∧ ((rk (kF (nF fs (x / 2))) = 2 ∧ ((x % 2 = 0 ∧ g = x / 2 + 1) ∨ (x % 2 = 1 ∧ (SC fs (x / 2) g ∨ ((∀ g', ¬ SC fs (x / 2) g') ∧ g = fs.length - 1))))) ∨ (kF (nF fs (x / 2)) = 5 ∧ x % 2 = 0 ∧ g = fs.length - 1))
def EP (fs : List Fg) (cs : List (Nat × Nat)) (x g : Nat) : Prop := SE fs x g ∨ (x, g) ∈ cs
noncomputable def eE (fs : List Fg) (cs : List (Nat × Nat)) (x g : Nat) : Bool := @decide (EP fs cs x g) (Classical.propDecidable _)
theorem eE_t {fs : List Fg} {cs : List (Nat × Nat)} {x g : Nat} : eE fs cs x g = true ↔ EP fs cs x g := by
  unfold eE
  exact @decide_eq_true_iff _ (Classical.propDecidable _)
def CSo (fs : List Fg) (cs : List (Nat × Nat)) : Prop := cs.length ≤ 6 ∧ ∀ c ∈ cs, c.1 / 2 < fs.length ∧ c.1 % 2 < rk (kF (nF fs (c.1 / 2))) ∧ c.2 < fs.length
theorem EP_lt {fs : List Fg} {cs : List (Nat × Nat)} (hc : CSo fs cs) {x g : Nat} (h : EP fs cs x g) : x / 2 < fs.length ∧ g < fs.length ∧ x % 2 < rk (kF (nF fs (x / 2))) := by
  rcases h with h | h
  · refine ⟨h.1, h.2.1, ?_⟩
    rcases h.2.2 with ⟨h1, h2⟩ | ⟨h1, h2, h3⟩
    · rw [h1]; omega
    · rw [h1, h2]; decide
  · have := hc.2 _ h
    exact ⟨this.1, this.2.2, this.2.1⟩
/-- the class' sentence -/
def SN (L : Nat → Nat) (t : Nat) (fs : List Fg) (I : Nat → Nat → Int32) : Prop := RD 2 L fs I ∧ Good L t fs
theorem SN.fr {L : Nat → Nat} {t : Nat} {fs : List Fg} {I I' : Nat → Nat → Int32} (h : SN L t fs I) (hf : ∀ c, 2 ≤ c → c ≤ 14 → I' c = I c) : SN L t fs I' := ⟨h.1.fr hf, h.2⟩
/-- the sentence's edges and the constraints in the class -/
def GS (fs : List Fg) (cs : List (Nat × Nat)) (I : Nat → Nat → Int32) : Prop := (∀ x, x < 22 → Bp (I 30 x) (fun g => SE fs x g)) ∧ I 29 2 = nI cs.length ∧ ∀ k, k < cs.length → I 31 k = nI (cs.getD k (0, 0)).1 ∧ I 32 k = nI (cs.getD k (0, 0)).2
theorem GS.fr {fs : List Fg} {cs : List (Nat × Nat)} {I I' : Nat → Nat → Int32} (h : GS fs cs I) (hf : ∀ c, 29 ≤ c → c ≤ 32 → I' c = I c) : GS fs cs I' := by
  obtain ⟨h1, h2, h3⟩ := h
  refine ⟨fun x hx => ?_, ?_, fun k hk => ?_⟩
  · rw [hf 30 (by omega) (by omega)]; exact h1 x hx
  · rw [hf 29 (by omega) (by omega)]; exact h2
  · rw [hf 31 (by omega) (by omega), hf 32 (by omega) (by omega)]; exact h3 k hk
section GR1
variable (g : am_G) (h : Nat) (I : Nat → Nat → Int32) (J : Nat → Nat → Int64) {L : Nat → Nat} {t : Nat} {fs : List Fg} {cs : List (Nat × Nat)}
set_option maxRecDepth 100000 in
set_option maxHeartbeats 400000 in
theorem c_X9_isIn (w : Int32) (k : Nat) (hk : k < 31) :
    am_Ctr g am_mt 1 (h + 1) 128 [.int w, .int (nI k)] (am_SH, I, J) 0 0 (fun r M => r = some (.int (bI (ib w k))) ∧ M = (am_SH, I, J)) := by
  refine am_rule0 (q := qX9_isIn) (B := am_blk bX9_isIn) 30 rfl rfl kX9_isIn nX9_isIn (Nat.le_of_ble_eq_true rfl) ?_
  have e := ib_shr hk w
  cases hb : ib w k with
  | true =>
    have e := e.trans (eq_false (by rw [hb]; decide))
    simp (decide := true) (disch := (first | exact eq_false (by decide) | exact eq_true (by decide) | decide | omega)) only [lX9_isIn_0, lX9_isIn_12, lX9_isIn_13, bX9_isIn_0, bX9_isIn_12, bX9_isIn_13, (show qX9_isIn.2.2.2.1 = (some .boolean) from rfl), am_rok_bool, w_goto, w_iand, w_iconst, w_if_eq, w_iload_n, w_ireturn, w_ishr, w_swap, cI_0, cI_1, am_lk0, am_lk1, am_ld_some, am_isI_i, am_isJ_j, am_isR_r, am_st_eq, am_rmv_nil, am_rmv_t, am_rmv_i, am_rmv_r, sf_SH, sj_SH, sf_eq, sf_nk, sf_na, sf_sf, am_args_i, am_args_r, am_args_n, Nat.reduceAdd, List.cons_append, List.nil_append, Option.toList, List.drop_succ_cons, List.drop_zero, am_RP, am_CP, am_PH, Fin.isValue, Fin.val_zero, Fin.val_one, am_f2, am_f3, true_and, and_true, true_implies, false_implies, not_false_eq_true, ne_eq, nI_clampD, nI_leT, nI_leF, nI_ltT, nI_ltF, nI_eqT, nI_eqF, nI_lt0F, nI_0leT, nI_eq0T, nI_eq0F, nI_0ltT, nI_0ltF, nI_le0T, nI_le0F, nI_m1, nI_m1', m1_m1, m1_lt, m1_le, nI_mul, nI_add, nI_sub, nI_add1, nI_dec, nI_div, nI_mod, vp_inD, sf_nkD, sf_eqD, e, nI1_01] <;> rfl
  | false =>
    have e := e.trans (eq_true hb)
    simp (decide := true) (disch := (first | exact eq_false (by decide) | exact eq_true (by decide) | decide | omega)) only [lX9_isIn_0, lX9_isIn_12, lX9_isIn_13, bX9_isIn_0, bX9_isIn_12, bX9_isIn_13, (show qX9_isIn.2.2.2.1 = (some .boolean) from rfl), am_rok_bool, w_goto, w_iand, w_iconst, w_if_eq, w_iload_n, w_ireturn, w_ishr, w_swap, cI_0, cI_1, am_lk0, am_lk1, am_ld_some, am_isI_i, am_isJ_j, am_isR_r, am_st_eq, am_rmv_nil, am_rmv_t, am_rmv_i, am_rmv_r, sf_SH, sj_SH, sf_eq, sf_nk, sf_na, sf_sf, am_args_i, am_args_r, am_args_n, Nat.reduceAdd, List.cons_append, List.nil_append, Option.toList, List.drop_succ_cons, List.drop_zero, am_RP, am_CP, am_PH, Fin.isValue, Fin.val_zero, Fin.val_one, am_f2, am_f3, true_and, and_true, true_implies, false_implies, not_false_eq_true, ne_eq, nI_clampD, nI_leT, nI_leF, nI_ltT, nI_ltF, nI_eqT, nI_eqF, nI_lt0F, nI_0leT, nI_eq0T, nI_eq0F, nI_0ltT, nI_0ltF, nI_le0T, nI_le0F, nI_m1, nI_m1', m1_m1, m1_lt, m1_le, nI_mul, nI_add, nI_sub, nI_add1, nI_dec, nI_div, nI_mod, vp_inD, sf_nkD, sf_eqD, e, nI0_01] <;> rfl
set_option maxRecDepth 100000 in
set_option maxHeartbeats 400000 in
theorem c_X0_leavesOf (hS : SN L t fs I) (v r : Nat) (hv : v < 6) (hr : r < 100) :
    am_Ctr g am_mt 1 (h + 2) 2 [.ref 29, .int (nI v), .int (nI r)] (am_SH, I, J) 0 0 (fun r' M => ∃ w, r' = some (.int w) ∧ Bp w (fun g => g < fs.length ∧ kF (nF fs g) = 0 ∧ g ≠ r ∧ cnt1 (nF fs g) v = true) ∧ M = (am_SH, I, J)) := by
  obtain ⟨hD, hG⟩ := hS
  have hn := hG.le
  have h1 : I 2 1 = nI fs.length := hD.1
  obtain ⟨JJ, hJJ⟩ : ∃ JJ : Nat → am_Cut, JJ = (fun u pc l st M k' n' => ∃ i w, u = fs.length - i ∧ i ≤ fs.length ∧ Bp w (fun g => g < i ∧ kF (nF fs g) = 0 ∧ g ≠ r ∧ cnt1 (nF fs g) v = true) ∧ pc = 5 ∧ l = [(0, .ref 29), (1, .int (nI v)), (2, .int (nI r)), (3, .int w), (4, .int (nI i))] ∧ st = [] ∧ M = (am_SH, I, J) ∧ k' = 0 ∧ n' = 0) := ⟨_, rfl⟩
  have mk : ∀ i w, i ≤ fs.length → Bp w (fun g => g < i ∧ kF (nF fs g) = 0 ∧ g ≠ r ∧ cnt1 (nF fs g) v = true) → JJ (fs.length - i) 5 [(0, .ref 29), (1, .int (nI v)), (2, .int (nI r)), (3, .int w), (4, .int (nI i))] [] (am_SH, I, J) 0 0 := by
    intro i w a1 a2
    rw [hJJ]
    exact ⟨i, w, rfl, a1, a2, rfl, rfl, rfl, rfl, rfl, rfl⟩
  refine am_rule2 (q := qX0_leavesOf) (B := am_blk bX0_leavesOf) rfl rfl kX0_leavesOf nX0_leavesOf (Nat.le_of_ble_eq_true rfl) JJ ?_ ?_
  · intro u pc l st M k' n' hj
    rw [hJJ] at hj
    obtain ⟨i, w, rfl, hi, hw, rfl, rfl, rfl, rfl, rfl, rfl⟩ := hj
    clear hJJ
    refine ⟨_, 60, rfl, rfl, ?_⟩
    by_cases hib : i = fs.length
    · simp (decide := true) (disch := (first | exact eq_false (by decide) | exact eq_true (by decide) | decide | omega)) only [lX0_leavesOf_0, lX0_leavesOf_5, lX0_leavesOf_40, lX0_leavesOf_41, lX0_leavesOf_68, lX0_leavesOf_74, bX0_leavesOf_0, bX0_leavesOf_5, bX0_leavesOf_40, bX0_leavesOf_41, bX0_leavesOf_68, bX0_leavesOf_74, (show qX0_leavesOf.2.2.2.1 = (some .int) from rfl), am_rok_int, w_aload_n, w_getfield, w_goto, w_iaload, w_icmp_eq, w_icmp_ge, w_iconst, w_if_eq, w_if_ne, w_iinc, w_iload, w_iload_n, w_ior, w_ireturn, w_ishl, w_istore, w_istore_n, w_nop, w_swap, sa_17, sa_4, sg_15_1, sg_15_2, sg_29_0, sg_2_1, sg_2_2, cI_0, cI_1, am_lk0, am_lk1, am_ld_some, am_isI_i, am_isJ_j, am_isR_r, am_st_eq, am_rmv_nil, am_rmv_t, am_rmv_i, am_rmv_r, sf_SH, sj_SH, sf_eq, sf_nk, sf_na, sf_sf, am_args_i, am_args_r, am_args_n, Nat.reduceAdd, List.cons_append, List.nil_append, Option.toList, List.drop_succ_cons, List.drop_zero, am_RP, am_CP, am_PH, Fin.isValue, Fin.val_zero, Fin.val_one, am_f2, am_f3, true_and, and_true, true_implies, false_implies, not_false_eq_true, ne_eq, nI_clampD, nI_leT, nI_leF, nI_ltT, nI_ltF, nI_eqT, nI_eqF, nI_lt0F, nI_0leT, nI_eq0T, nI_eq0F, nI_0ltT, nI_0ltF, nI_le0T, nI_le0F, nI_m1, nI_m1', m1_m1, m1_lt, m1_le, nI_mul, nI_add, nI_sub, nI_add1, nI_dec, nI_div, nI_mod, vp_inD, sf_nkD, sf_eqD, h1]
      exact ⟨w, rfl, by rw [hib] at hw; exact hw⟩
    · have hk := hD.2.2.1 i (by omega)
      have hk6 := hG.k6 (f := i) (by omega)
      have hno : ¬ (kF (nF fs i) = 0 ∧ i ≠ r ∧ cnt1 (nF fs i) v = true) → Bp w (fun g => g < i + 1 ∧ kF (nF fs g) = 0 ∧ g ≠ r ∧ cnt1 (nF fs g) v = true) := fun hno => hw.cg (fun j _ => ⟨fun h0 => ⟨by omega, h0.2⟩, fun h0 => ⟨by
        by_cases hji : j = i
        · rw [hji] at h0; exact absurd h0.2 hno
        · omega, h0.2⟩⟩)
      by_cases c1 : kF (nF fs i) = 0
      · by_cases c2 : i = r
        · simp (decide := true) (disch := (first | exact eq_false (by decide) | exact eq_true (by decide) | decide | omega)) only [lX0_leavesOf_0, lX0_leavesOf_5, lX0_leavesOf_40, lX0_leavesOf_41, lX0_leavesOf_68, lX0_leavesOf_74, bX0_leavesOf_0, bX0_leavesOf_5, bX0_leavesOf_40, bX0_leavesOf_41, bX0_leavesOf_68, bX0_leavesOf_74, (show qX0_leavesOf.2.2.2.1 = (some .int) from rfl), am_rok_int, w_aload_n, w_getfield, w_goto, w_iaload, w_icmp_eq, w_icmp_ge, w_iconst, w_if_eq, w_if_ne, w_iinc, w_iload, w_iload_n, w_ior, w_ireturn, w_ishl, w_istore, w_istore_n, w_nop, w_swap, sa_17, sa_4, sg_15_1, sg_15_2, sg_29_0, sg_2_1, sg_2_2, cI_0, cI_1, am_lk0, am_lk1, am_ld_some, am_isI_i, am_isJ_j, am_isR_r, am_st_eq, am_rmv_nil, am_rmv_t, am_rmv_i, am_rmv_r, sf_SH, sj_SH, sf_eq, sf_nk, sf_na, sf_sf, am_args_i, am_args_r, am_args_n, Nat.reduceAdd, List.cons_append, List.nil_append, Option.toList, List.drop_succ_cons, List.drop_zero, am_RP, am_CP, am_PH, Fin.isValue, Fin.val_zero, Fin.val_one, am_f2, am_f3, true_and, and_true, true_implies, false_implies, not_false_eq_true, ne_eq, nI_clampD, nI_leT, nI_leF, nI_ltT, nI_ltF, nI_eqT, nI_eqF, nI_lt0F, nI_0leT, nI_eq0T, nI_eq0F, nI_0ltT, nI_0ltF, nI_le0T, nI_le0F, nI_m1, nI_m1', m1_m1, m1_lt, m1_le, nI_mul, nI_add, nI_sub, nI_add1, nI_dec, nI_div, nI_mod, vp_inD, sf_nkD, sf_eqD, h1, hk]
          refine ⟨_, _, ?_, ?_, mk (i + 1) w (by omega) (hno (fun h0 => h0.2.1 c2))⟩
          · omega
          · (simp (decide := true) only [am_has, am_lk0, am_lk1, and_self, true_and, and_true] <;> first | rfl | (refine ⟨?_, ?_⟩ <;> rfl) | (refine ⟨?_, ?_, ?_⟩ <;> rfl) | (refine ⟨?_, ?_, ?_, ?_⟩ <;> rfl))
        · have hl := hD.2.2.2.2.1 i (by omega) c1
          have hL := hG.leaf (f := i) (by omega) c1
          unfold LFt at hL
          simp (decide := true) (disch := (first | exact eq_false (by decide) | exact eq_true (by decide) | decide | omega)) only [lX0_leavesOf_0, lX0_leavesOf_5, lX0_leavesOf_40, lX0_leavesOf_41, lX0_leavesOf_68, lX0_leavesOf_74, bX0_leavesOf_0, bX0_leavesOf_5, bX0_leavesOf_40, bX0_leavesOf_41, bX0_leavesOf_68, bX0_leavesOf_74, (show qX0_leavesOf.2.2.2.1 = (some .int) from rfl), am_rok_int, w_aload_n, w_getfield, w_goto, w_iaload, w_icmp_eq, w_icmp_ge, w_iconst, w_if_eq, w_if_ne, w_iinc, w_iload, w_iload_n, w_ior, w_ireturn, w_ishl, w_istore, w_istore_n, w_nop, w_swap, sa_17, sa_4, sg_15_1, sg_15_2, sg_29_0, sg_2_1, sg_2_2, cI_0, cI_1, am_lk0, am_lk1, am_ld_some, am_isI_i, am_isJ_j, am_isR_r, am_st_eq, am_rmv_nil, am_rmv_t, am_rmv_i, am_rmv_r, sf_SH, sj_SH, sf_eq, sf_nk, sf_na, sf_sf, am_args_i, am_args_r, am_args_n, Nat.reduceAdd, List.cons_append, List.nil_append, Option.toList, List.drop_succ_cons, List.drop_zero, am_RP, am_CP, am_PH, Fin.isValue, Fin.val_zero, Fin.val_one, am_f2, am_f3, true_and, and_true, true_implies, false_implies, not_false_eq_true, ne_eq, nI_clampD, nI_leT, nI_leF, nI_ltT, nI_ltF, nI_eqT, nI_eqF, nI_lt0F, nI_0leT, nI_eq0T, nI_eq0F, nI_0ltT, nI_0ltF, nI_le0T, nI_le0F, nI_m1, nI_m1', m1_m1, m1_lt, m1_le, nI_mul, nI_add, nI_sub, nI_add1, nI_dec, nI_div, nI_mod, vp_inD, sf_nkD, sf_eqD, h1, hk]
          refine w_virtE (c_X7_contains_2 g h I J i (vF (nF fs i)) (wF (nF fs i)) v (by omega) hl.2.2.2.1 hl.2.2.2.2.1 (by omega) (by omega) hv) rfl rfl rfl (of_eq_true so_2) rfl (Nat.le_refl _) (Nat.le_refl _) ?_
          rw [show decide (vF (nF fs i) = v ∨ wF (nF fs i) = v + 1) = cnt1 (nF fs i) v from rfl]
          cases c3 : cnt1 (nF fs i) v with
          | true =>
            simp (decide := true) (disch := (first | exact eq_false (by decide) | exact eq_true (by decide) | decide | omega)) only [lX0_leavesOf_0, lX0_leavesOf_5, lX0_leavesOf_40, lX0_leavesOf_41, lX0_leavesOf_68, lX0_leavesOf_74, bX0_leavesOf_0, bX0_leavesOf_5, bX0_leavesOf_40, bX0_leavesOf_41, bX0_leavesOf_68, bX0_leavesOf_74, (show qX0_leavesOf.2.2.2.1 = (some .int) from rfl), am_rok_int, w_aload_n, w_getfield, w_goto, w_iaload, w_icmp_eq, w_icmp_ge, w_iconst, w_if_eq, w_if_ne, w_iinc, w_iload, w_iload_n, w_ior, w_ireturn, w_ishl, w_istore, w_istore_n, w_nop, w_swap, sa_17, sa_4, sg_15_1, sg_15_2, sg_29_0, sg_2_1, sg_2_2, cI_0, cI_1, am_lk0, am_lk1, am_ld_some, am_isI_i, am_isJ_j, am_isR_r, am_st_eq, am_rmv_nil, am_rmv_t, am_rmv_i, am_rmv_r, sf_SH, sj_SH, sf_eq, sf_nk, sf_na, sf_sf, am_args_i, am_args_r, am_args_n, Nat.reduceAdd, List.cons_append, List.nil_append, Option.toList, List.drop_succ_cons, List.drop_zero, am_RP, am_CP, am_PH, Fin.isValue, Fin.val_zero, Fin.val_one, am_f2, am_f3, true_and, and_true, true_implies, false_implies, not_false_eq_true, ne_eq, nI_clampD, nI_leT, nI_leF, nI_ltT, nI_ltF, nI_eqT, nI_eqF, nI_lt0F, nI_0leT, nI_eq0T, nI_eq0F, nI_0ltT, nI_0ltF, nI_le0T, nI_le0F, nI_m1, nI_m1', m1_m1, m1_lt, m1_le, nI_mul, nI_add, nI_sub, nI_add1, nI_dec, nI_div, nI_mod, vp_inD, sf_nkD, sf_eqD, bI_t]
            refine ⟨_, _, ?_, ?_, mk (i + 1) _ (by omega) ((hw.add (k := i) (by omega)).cg (fun j _ => ⟨fun h0 => ?_, fun h0 => ?_⟩))⟩
            · omega
            · (simp (decide := true) only [am_has, am_lk0, am_lk1, and_self, true_and, and_true] <;> first | rfl | (refine ⟨?_, ?_⟩ <;> rfl) | (refine ⟨?_, ?_, ?_⟩ <;> rfl) | (refine ⟨?_, ?_, ?_, ?_⟩ <;> rfl))
            · rcases h0 with h0 | h0
              · exact ⟨by omega, h0.2⟩
              · rw [h0]; exact ⟨by omega, c1, c2, c3⟩
            · by_cases hji : j = i
              · exact Or.inr hji
              · exact Or.inl ⟨by omega, h0.2⟩
          | false =>
            simp (decide := true) (disch := (first | exact eq_false (by decide) | exact eq_true (by decide) | decide | omega)) only [lX0_leavesOf_0, lX0_leavesOf_5, lX0_leavesOf_40, lX0_leavesOf_41, lX0_leavesOf_68, lX0_leavesOf_74, bX0_leavesOf_0, bX0_leavesOf_5, bX0_leavesOf_40, bX0_leavesOf_41, bX0_leavesOf_68, bX0_leavesOf_74, (show qX0_leavesOf.2.2.2.1 = (some .int) from rfl), am_rok_int, w_aload_n, w_getfield, w_goto, w_iaload, w_icmp_eq, w_icmp_ge, w_iconst, w_if_eq, w_if_ne, w_iinc, w_iload, w_iload_n, w_ior, w_ireturn, w_ishl, w_istore, w_istore_n, w_nop, w_swap, sa_17, sa_4, sg_15_1, sg_15_2, sg_29_0, sg_2_1, sg_2_2, cI_0, cI_1, am_lk0, am_lk1, am_ld_some, am_isI_i, am_isJ_j, am_isR_r, am_st_eq, am_rmv_nil, am_rmv_t, am_rmv_i, am_rmv_r, sf_SH, sj_SH, sf_eq, sf_nk, sf_na, sf_sf, am_args_i, am_args_r, am_args_n, Nat.reduceAdd, List.cons_append, List.nil_append, Option.toList, List.drop_succ_cons, List.drop_zero, am_RP, am_CP, am_PH, Fin.isValue, Fin.val_zero, Fin.val_one, am_f2, am_f3, true_and, and_true, true_implies, false_implies, not_false_eq_true, ne_eq, nI_clampD, nI_leT, nI_leF, nI_ltT, nI_ltF, nI_eqT, nI_eqF, nI_lt0F, nI_0leT, nI_eq0T, nI_eq0F, nI_0ltT, nI_0ltF, nI_le0T, nI_le0F, nI_m1, nI_m1', m1_m1, m1_lt, m1_le, nI_mul, nI_add, nI_sub, nI_add1, nI_dec, nI_div, nI_mod, vp_inD, sf_nkD, sf_eqD, bI_f]
            refine ⟨_, _, ?_, ?_, mk (i + 1) w (by omega) (hno (fun h0 => by rw [c3] at h0; cases h0.2.2))⟩
            · omega
            · (simp (decide := true) only [am_has, am_lk0, am_lk1, and_self, true_and, and_true] <;> first | rfl | (refine ⟨?_, ?_⟩ <;> rfl) | (refine ⟨?_, ?_, ?_⟩ <;> rfl) | (refine ⟨?_, ?_, ?_, ?_⟩ <;> rfl))
      · simp (decide := true) (disch := (first | exact eq_false (by decide) | exact eq_true (by decide) | decide | omega)) only [lX0_leavesOf_0, lX0_leavesOf_5, lX0_leavesOf_40, lX0_leavesOf_41, lX0_leavesOf_68, lX0_leavesOf_74, bX0_leavesOf_0, bX0_leavesOf_5, bX0_leavesOf_40, bX0_leavesOf_41, bX0_leavesOf_68, bX0_leavesOf_74, (show qX0_leavesOf.2.2.2.1 = (some .int) from rfl), am_rok_int, w_aload_n, w_getfield, w_goto, w_iaload, w_icmp_eq, w_icmp_ge, w_iconst, w_if_eq, w_if_ne, w_iinc, w_iload, w_iload_n, w_ior, w_ireturn, w_ishl, w_istore, w_istore_n, w_nop, w_swap, sa_17, sa_4, sg_15_1, sg_15_2, sg_29_0, sg_2_1, sg_2_2, cI_0, cI_1, am_lk0, am_lk1, am_ld_some, am_isI_i, am_isJ_j, am_isR_r, am_st_eq, am_rmv_nil, am_rmv_t, am_rmv_i, am_rmv_r, sf_SH, sj_SH, sf_eq, sf_nk, sf_na, sf_sf, am_args_i, am_args_r, am_args_n, Nat.reduceAdd, List.cons_append, List.nil_append, Option.toList, List.drop_succ_cons, List.drop_zero, am_RP, am_CP, am_PH, Fin.isValue, Fin.val_zero, Fin.val_one, am_f2, am_f3, true_and, and_true, true_implies, false_implies, not_false_eq_true, ne_eq, nI_clampD, nI_leT, nI_leF, nI_ltT, nI_ltF, nI_eqT, nI_eqF, nI_lt0F, nI_0leT, nI_eq0T, nI_eq0F, nI_0ltT, nI_0ltF, nI_le0T, nI_le0F, nI_m1, nI_m1', m1_m1, m1_lt, m1_le, nI_mul, nI_add, nI_sub, nI_add1, nI_dec, nI_div, nI_mod, vp_inD, sf_nkD, sf_eqD, h1, hk]
        refine ⟨_, _, ?_, ?_, mk (i + 1) w (by omega) (hno (fun h0 => c1 h0.1))⟩
        · omega
        · (simp (decide := true) only [am_has, am_lk0, am_lk1, and_self, true_and, and_true] <;> first | rfl | (refine ⟨?_, ?_⟩ <;> rfl) | (refine ⟨?_, ?_, ?_⟩ <;> rfl) | (refine ⟨?_, ?_, ?_, ?_⟩ <;> rfl))
  · refine ⟨60, ?_⟩
    simp (decide := true) (disch := (first | exact eq_false (by decide) | exact eq_true (by decide) | decide | omega)) only [lX0_leavesOf_0, lX0_leavesOf_5, lX0_leavesOf_40, lX0_leavesOf_41, lX0_leavesOf_68, lX0_leavesOf_74, bX0_leavesOf_0, bX0_leavesOf_5, bX0_leavesOf_40, bX0_leavesOf_41, bX0_leavesOf_68, bX0_leavesOf_74, (show qX0_leavesOf.2.2.2.1 = (some .int) from rfl), am_rok_int, w_aload_n, w_getfield, w_goto, w_iaload, w_icmp_eq, w_icmp_ge, w_iconst, w_if_eq, w_if_ne, w_iinc, w_iload, w_iload_n, w_ior, w_ireturn, w_ishl, w_istore, w_istore_n, w_nop, w_swap, sa_17, sa_4, sg_15_1, sg_15_2, sg_29_0, sg_2_1, sg_2_2, cI_0, cI_1, am_lk0, am_lk1, am_ld_some, am_isI_i, am_isJ_j, am_isR_r, am_st_eq, am_rmv_nil, am_rmv_t, am_rmv_i, am_rmv_r, sf_SH, sj_SH, sf_eq, sf_nk, sf_na, sf_sf, am_args_i, am_args_r, am_args_n, Nat.reduceAdd, List.cons_append, List.nil_append, Option.toList, List.drop_succ_cons, List.drop_zero, am_RP, am_CP, am_PH, Fin.isValue, Fin.val_zero, Fin.val_one, am_f2, am_f3, true_and, and_true, true_implies, false_implies, not_false_eq_true, ne_eq, nI_clampD, nI_leT, nI_leF, nI_ltT, nI_ltF, nI_eqT, nI_eqF, nI_lt0F, nI_0leT, nI_eq0T, nI_eq0F, nI_0ltT, nI_0ltF, nI_le0T, nI_le0F, nI_m1, nI_m1', m1_m1, m1_lt, m1_le, nI_mul, nI_add, nI_sub, nI_add1, nI_dec, nI_div, nI_mod, vp_inD, sf_nkD, sf_eqD]
    refine ⟨_, _, ?_, mk 0 (nI 0) (by omega) (Bp_n0.cg (fun j _ => ⟨False.elim, fun h0 => by omega⟩))⟩
    (simp (decide := true) only [am_has, am_lk0, am_lk1, and_self, true_and, and_true] <;> first | rfl | (refine ⟨?_, ?_⟩ <;> rfl) | (refine ⟨?_, ?_, ?_⟩ <;> rfl) | (refine ⟨?_, ?_, ?_, ?_⟩ <;> rfl))
def FrG (I I' : Nat → Nat → Int32) : Prop := ∀ c, c ≠ 29 → c ≠ 30 → I' c = I c
set_option maxRecDepth 100000 in
set_option maxHeartbeats 400000 in
theorem c_X0_drawSentence (hS : SN L t fs I) :
    am_Ctr g am_mt 1 (h + 3) 1 [.ref 29] (am_SH, I, J) 0 0 (fun r M => r = none ∧ ∃ I', M = (am_SH, I', J) ∧ FrG I I' ∧ GS fs [] I') := by
  obtain ⟨hD, hG⟩ := hS
  have hn := hG.le
  have hn0 := hG.1
  have h1 : I 2 1 = nI fs.length := hD.1
  obtain ⟨JJ, hJJ⟩ : ∃ JJ : Nat → am_Cut, JJ = (fun u pc l st M k' n' => ∃ i I', u = fs.length - i ∧ i ≤ fs.length ∧ FrG I I' ∧ I' 29 2 = nI 0 ∧ (∀ x, x < 22 → Bp (I' 30 x) (fun g => x < 2 * i ∧ SE fs x g)) ∧ pc = 27 ∧ l = [(0, .ref 29), (1, .int (nI 1 <<< (nI (fs.length - 1) &&& 31))), (2, .int (nI i))] ∧ st = [] ∧ M = (am_SH, I', J) ∧ k' = 0 ∧ n' = 0) := ⟨_, rfl⟩
  have mk : ∀ i I', i ≤ fs.length → FrG I I' → I' 29 2 = nI 0 → (∀ x, x < 22 → Bp (I' 30 x) (fun g => x < 2 * i ∧ SE fs x g)) → JJ (fs.length - i) 27 [(0, .ref 29), (1, .int (nI 1 <<< (nI (fs.length - 1) &&& 31))), (2, .int (nI i))] [] (am_SH, I', J) 0 0 := by
    intro i I' a1 a2 a3 a4
    rw [hJJ]
    exact ⟨i, I', rfl, a1, a2, a3, a4, rfl, rfl, rfl, rfl, rfl, rfl⟩
  refine am_rule2 (q := qX0_drawSentence) (B := am_blk bX0_drawSentence) rfl rfl kX0_drawSentence nX0_drawSentence (Nat.le_of_ble_eq_true rfl) JJ ?_ ?_
  · intro u pc l st M k' n' hj
    rw [hJJ] at hj
    obtain ⟨i, I1, rfl, hi, hf, h29, hb, rfl, rfl, rfl, rfl, rfl, rfl⟩ := hj
    clear hJJ
    refine ⟨_, 90, rfl, rfl, ?_⟩
    have k1 : I1 2 1 = nI fs.length := by rw [hf 2 (by decide) (by decide)]; exact h1
    by_cases hib : i = fs.length
    · simp (decide := true) (disch := (first | exact eq_false (by decide) | exact eq_true (by decide) | decide | omega)) only [lX0_drawSentence_0, lX0_drawSentence_27, lX0_drawSentence_96, lX0_drawSentence_97, lX0_drawSentence_101, lX0_drawSentence_123, lX0_drawSentence_129, bX0_drawSentence_0, bX0_drawSentence_27, bX0_drawSentence_96, bX0_drawSentence_97, bX0_drawSentence_101, bX0_drawSentence_123, bX0_drawSentence_129, (show qX0_drawSentence.2.2.2.1 = none from rfl), am_rok_none, w_aload_n, w_getfield, w_goto, w_iadd, w_iaload, w_iastore, w_icmp_ge, w_icmp_ne, w_iconst, w_if_eq, w_if_ne, w_iinc, w_iload_n, w_imul, w_ishl, w_istore_n, w_isub, w_nop, w_puti, w_return, w_swap, sa_17, sa_18, sa_30, sa_4, sa_5, sg_15_1, sg_15_2, sg_15_3, sg_29_0, sg_29_1, sg_2_1, sg_2_2, sg_2_3, sp_29_2, cI_0, cI_1, cI_2, cI_5, am_lk0, am_lk1, am_ld_some, am_isI_i, am_isJ_j, am_isR_r, am_st_eq, am_rmv_nil, am_rmv_t, am_rmv_i, am_rmv_r, sf_SH, sj_SH, sf_eq, sf_nk, sf_na, sf_sf, am_args_i, am_args_r, am_args_n, Nat.reduceAdd, List.cons_append, List.nil_append, Option.toList, List.drop_succ_cons, List.drop_zero, am_RP, am_CP, am_PH, Fin.isValue, Fin.val_zero, Fin.val_one, am_f2, am_f3, true_and, and_true, true_implies, false_implies, not_false_eq_true, ne_eq, nI_clampD, nI_leT, nI_leF, nI_ltT, nI_ltF, nI_eqT, nI_eqF, nI_lt0F, nI_0leT, nI_eq0T, nI_eq0F, nI_0ltT, nI_0ltF, nI_le0T, nI_le0F, nI_m1, nI_m1', m1_m1, m1_lt, m1_le, nI_mul, nI_add, nI_sub, nI_add1, nI_dec, nI_div, nI_mod, vp_inD, sf_nkD, sf_eqD, k1]
      refine ⟨I1, rfl, hf, fun x hx => (hb x hx).cg (fun g _ => ⟨fun h0 => h0.2, fun h0 => ⟨?_, h0⟩⟩), h29, fun k hk => absurd hk (Nat.not_lt_zero _)⟩
      have := h0.1
      omega
    · have hS1 : SN L t fs I1 := ⟨hD.fr (fun c _ _ => hf c (by omega) (by omega)), hG⟩
      have hk := hS1.1.2.2.1 i (by omega)
      have hk6 := hG.k6 (f := i) (by omega)
      simp (decide := true) (disch := (first | exact eq_false (by decide) | exact eq_true (by decide) | decide | omega)) only [lX0_drawSentence_0, lX0_drawSentence_27, lX0_drawSentence_96, lX0_drawSentence_97, lX0_drawSentence_101, lX0_drawSentence_123, lX0_drawSentence_129, bX0_drawSentence_0, bX0_drawSentence_27, bX0_drawSentence_96, bX0_drawSentence_97, bX0_drawSentence_101, bX0_drawSentence_123, bX0_drawSentence_129, (show qX0_drawSentence.2.2.2.1 = none from rfl), am_rok_none, w_aload_n, w_getfield, w_goto, w_iadd, w_iaload, w_iastore, w_icmp_ge, w_icmp_ne, w_iconst, w_if_eq, w_if_ne, w_iinc, w_iload_n, w_imul, w_ishl, w_istore_n, w_isub, w_nop, w_puti, w_return, w_swap, sa_17, sa_18, sa_30, sa_4, sa_5, sg_15_1, sg_15_2, sg_15_3, sg_29_0, sg_29_1, sg_2_1, sg_2_2, sg_2_3, sp_29_2, cI_0, cI_1, cI_2, cI_5, am_lk0, am_lk1, am_ld_some, am_isI_i, am_isJ_j, am_isR_r, am_st_eq, am_rmv_nil, am_rmv_t, am_rmv_i, am_rmv_r, sf_SH, sj_SH, sf_eq, sf_nk, sf_na, sf_sf, am_args_i, am_args_r, am_args_n, Nat.reduceAdd, List.cons_append, List.nil_append, Option.toList, List.drop_succ_cons, List.drop_zero, am_RP, am_CP, am_PH, Fin.isValue, Fin.val_zero, Fin.val_one, am_f2, am_f3, true_and, and_true, true_implies, false_implies, not_false_eq_true, ne_eq, nI_clampD, nI_leT, nI_leF, nI_ltT, nI_ltF, nI_eqT, nI_eqF, nI_lt0F, nI_0leT, nI_eq0T, nI_eq0F, nI_0ltT, nI_0ltF, nI_le0T, nI_le0F, nI_m1, nI_m1', m1_m1, m1_lt, m1_le, nI_mul, nI_add, nI_sub, nI_add1, nI_dec, nI_div, nI_mod, vp_inD, sf_nkD, sf_eqD, k1]
      refine w_virtE (c_X7_isQuantifier_2 g h I1 J i (kF (nF fs i)) (by omega) hk hk6) rfl rfl rfl (of_eq_true so_2) rfl (Nat.le_refl _) (Nat.le_refl _) ?_
      by_cases c1 : rk (kF (nF fs i)) = 2
      · have hq := hG.quant (by omega) c1
        have hv := (hS1.1.2.2.2.1 i (by omega) c1).1
        rw [decide_eq_true c1]
        simp (decide := true) (disch := (first | exact eq_false (by decide) | exact eq_true (by decide) | decide | omega)) only [lX0_drawSentence_0, lX0_drawSentence_27, lX0_drawSentence_96, lX0_drawSentence_97, lX0_drawSentence_101, lX0_drawSentence_123, lX0_drawSentence_129, bX0_drawSentence_0, bX0_drawSentence_27, bX0_drawSentence_96, bX0_drawSentence_97, bX0_drawSentence_101, bX0_drawSentence_123, bX0_drawSentence_129, (show qX0_drawSentence.2.2.2.1 = none from rfl), am_rok_none, w_aload_n, w_getfield, w_goto, w_iadd, w_iaload, w_iastore, w_icmp_ge, w_icmp_ne, w_iconst, w_if_eq, w_if_ne, w_iinc, w_iload_n, w_imul, w_ishl, w_istore_n, w_isub, w_nop, w_puti, w_return, w_swap, sa_17, sa_18, sa_30, sa_4, sa_5, sg_15_1, sg_15_2, sg_15_3, sg_29_0, sg_29_1, sg_2_1, sg_2_2, sg_2_3, sp_29_2, cI_0, cI_1, cI_2, cI_5, am_lk0, am_lk1, am_ld_some, am_isI_i, am_isJ_j, am_isR_r, am_st_eq, am_rmv_nil, am_rmv_t, am_rmv_i, am_rmv_r, sf_SH, sj_SH, sf_eq, sf_nk, sf_na, sf_sf, am_args_i, am_args_r, am_args_n, Nat.reduceAdd, List.cons_append, List.nil_append, Option.toList, List.drop_succ_cons, List.drop_zero, am_RP, am_CP, am_PH, Fin.isValue, Fin.val_zero, Fin.val_one, am_f2, am_f3, true_and, and_true, true_implies, false_implies, not_false_eq_true, ne_eq, nI_clampD, nI_leT, nI_leF, nI_ltT, nI_ltF, nI_eqT, nI_eqF, nI_lt0F, nI_0leT, nI_eq0T, nI_eq0F, nI_0ltT, nI_0ltF, nI_le0T, nI_le0F, nI_m1, nI_m1', m1_m1, m1_lt, m1_le, nI_mul, nI_add, nI_sub, nI_add1, nI_dec, nI_div, nI_mod, vp_inD, sf_nkD, sf_eqD, bI_t, hv]
        refine w_virtP (c_X0_leavesOf g h I1 J hS1 (vF (nF fs i)) (i + 1) (by omega) (by omega)) rfl rfl rfl (of_eq_true so_29) rfl (Nat.le_refl _) (Nat.le_refl _) ?_
        rintro R M1 ⟨w, rfl, hw, rfl⟩
        have hw : Bp w (fun g => SC fs i g) := hw
        have hnew : ∀ v, Bp v (fun g => SC fs i g ∨ ((∀ g', ¬ SC fs i g') ∧ g = fs.length - 1)) → ∀ x, x < 22 → Bp (sf (sf I1 30 (2 * i) (nI 1 <<< (nI (i + 1) &&& 31))) 30 (2 * i + 1) v 30 x) (fun g => x < 2 * (i + 1) ∧ SE fs x g) := by
          intro v hv x hx
          by_cases x1 : x = 2 * i + 1
          · rw [sf_eqD x1]
            refine hv.cg (fun g _ => ?_)
            have e1 : x / 2 = i := by omega
            have e2 : x % 2 = 1 := by omega
            constructor
            · intro h0
              refine ⟨by omega, ?_⟩
              unfold SE
              rw [e1, e2]
              refine ⟨by omega, ?_, Or.inl ⟨c1, Or.inr ⟨rfl, h0⟩⟩⟩
              rcases h0 with h0 | h0
              · exact h0.1
              · omega
            · intro h0
              have h0 := h0.2.2.2
              rw [e1, e2] at h0
              rcases h0 with ⟨-, h0⟩ | ⟨h0, -⟩
              · rcases h0 with h0 | h0
                · omega
                · exact h0.2
              · omega
          · rw [sf_nkD x1]
            by_cases x2 : x = 2 * i
            · rw [sf_eqD x2]
              refine (Bp_1 (k := i + 1) (by omega)).cg (fun g _ => ?_)
              have e1 : x / 2 = i := by omega
              have e2 : x % 2 = 0 := by omega
              constructor
              · intro h0
                refine ⟨by omega, ?_⟩
                unfold SE
                rw [e1, e2]
                exact ⟨by omega, by omega, Or.inl ⟨c1, Or.inl ⟨rfl, h0⟩⟩⟩
              · intro h0
                have h0 := h0.2.2.2
                rw [e1, e2] at h0
                rcases h0 with ⟨-, h0⟩ | ⟨h0, -⟩
                · rcases h0 with h0 | h0
                  · exact h0.2
                  · omega
                · omega
            · rw [sf_nkD x2]
              exact (hb x hx).cg (fun g _ => ⟨fun h0 => ⟨by omega, h0.2⟩, fun h0 => ⟨by omega, h0.2⟩⟩)
        have hfr : ∀ v v', FrG I (sf (sf I1 30 (2 * i) v) 30 (2 * i + 1) v') := fun v v' c d1 d2 => by rw [sf_naD d2, sf_naD d2]; exact hf c d1 d2
        by_cases c2 : w = 0
        · have hz := hw.z.mp c2
          have hz' : ∀ g', ¬ SC fs i g' := fun g' h9 => hz g' (by have := h9.1; omega) h9
          simp (decide := true) (disch := (first | exact eq_false (by decide) | exact eq_true (by decide) | decide | omega)) only [lX0_drawSentence_0, lX0_drawSentence_27, lX0_drawSentence_96, lX0_drawSentence_97, lX0_drawSentence_101, lX0_drawSentence_123, lX0_drawSentence_129, bX0_drawSentence_0, bX0_drawSentence_27, bX0_drawSentence_96, bX0_drawSentence_97, bX0_drawSentence_101, bX0_drawSentence_123, bX0_drawSentence_129, (show qX0_drawSentence.2.2.2.1 = none from rfl), am_rok_none, w_aload_n, w_getfield, w_goto, w_iadd, w_iaload, w_iastore, w_icmp_ge, w_icmp_ne, w_iconst, w_if_eq, w_if_ne, w_iinc, w_iload_n, w_imul, w_ishl, w_istore_n, w_isub, w_nop, w_puti, w_return, w_swap, sa_17, sa_18, sa_30, sa_4, sa_5, sg_15_1, sg_15_2, sg_15_3, sg_29_0, sg_29_1, sg_2_1, sg_2_2, sg_2_3, sp_29_2, cI_0, cI_1, cI_2, cI_5, am_lk0, am_lk1, am_ld_some, am_isI_i, am_isJ_j, am_isR_r, am_st_eq, am_rmv_nil, am_rmv_t, am_rmv_i, am_rmv_r, sf_SH, sj_SH, sf_eq, sf_nk, sf_na, sf_sf, am_args_i, am_args_r, am_args_n, Nat.reduceAdd, List.cons_append, List.nil_append, Option.toList, List.drop_succ_cons, List.drop_zero, am_RP, am_CP, am_PH, Fin.isValue, Fin.val_zero, Fin.val_one, am_f2, am_f3, true_and, and_true, true_implies, false_implies, not_false_eq_true, ne_eq, nI_clampD, nI_leT, nI_leF, nI_ltT, nI_ltF, nI_eqT, nI_eqF, nI_lt0F, nI_0leT, nI_eq0T, nI_eq0F, nI_0ltT, nI_0ltF, nI_le0T, nI_le0F, nI_m1, nI_m1', m1_m1, m1_lt, m1_le, nI_mul, nI_add, nI_sub, nI_add1, nI_dec, nI_div, nI_mod, vp_inD, sf_nkD, sf_eqD, c2]
          refine ⟨_, _, ?_, ?_, mk (i + 1) _ (by omega) (hfr _ _) ?_ (hnew _ ((Bp_1 (k := fs.length - 1) (by omega)).cg (fun g _ => ⟨fun h0 => Or.inr ⟨hz', h0⟩, fun h0 => h0.elim (fun h9 => absurd h9 (hz' g)) (fun h9 => h9.2)⟩)))⟩
          · omega
          · (simp (decide := true) only [am_has, am_lk0, am_lk1, and_self, true_and, and_true] <;> first | rfl | (refine ⟨?_, ?_⟩ <;> rfl) | (refine ⟨?_, ?_, ?_⟩ <;> rfl) | (refine ⟨?_, ?_, ?_, ?_⟩ <;> rfl))
          · rw [sf_naD (by decide), sf_naD (by decide)]; exact h29
        · have hex : ∃ g', SC fs i g' := Classical.byContradiction fun h9 => c2 (hw.z.mpr fun g' _ h8 => h9 ⟨g', h8⟩)
          simp (decide := true) (disch := (first | exact eq_false (by decide) | exact eq_true (by decide) | decide | omega)) only [lX0_drawSentence_0, lX0_drawSentence_27, lX0_drawSentence_96, lX0_drawSentence_97, lX0_drawSentence_101, lX0_drawSentence_123, lX0_drawSentence_129, bX0_drawSentence_0, bX0_drawSentence_27, bX0_drawSentence_96, bX0_drawSentence_97, bX0_drawSentence_101, bX0_drawSentence_123, bX0_drawSentence_129, (show qX0_drawSentence.2.2.2.1 = none from rfl), am_rok_none, w_aload_n, w_getfield, w_goto, w_iadd, w_iaload, w_iastore, w_icmp_ge, w_icmp_ne, w_iconst, w_if_eq, w_if_ne, w_iinc, w_iload_n, w_imul, w_ishl, w_istore_n, w_isub, w_nop, w_puti, w_return, w_swap, sa_17, sa_18, sa_30, sa_4, sa_5, sg_15_1, sg_15_2, sg_15_3, sg_29_0, sg_29_1, sg_2_1, sg_2_2, sg_2_3, sp_29_2, cI_0, cI_1, cI_2, cI_5, am_lk0, am_lk1, am_ld_some, am_isI_i, am_isJ_j, am_isR_r, am_st_eq, am_rmv_nil, am_rmv_t, am_rmv_i, am_rmv_r, sf_SH, sj_SH, sf_eq, sf_nk, sf_na, sf_sf, am_args_i, am_args_r, am_args_n, Nat.reduceAdd, List.cons_append, List.nil_append, Option.toList, List.drop_succ_cons, List.drop_zero, am_RP, am_CP, am_PH, Fin.isValue, Fin.val_zero, Fin.val_one, am_f2, am_f3, true_and, and_true, true_implies, false_implies, not_false_eq_true, ne_eq, nI_clampD, nI_leT, nI_leF, nI_ltT, nI_ltF, nI_eqT, nI_eqF, nI_lt0F, nI_0leT, nI_eq0T, nI_eq0F, nI_0ltT, nI_0ltF, nI_le0T, nI_le0F, nI_m1, nI_m1', m1_m1, m1_lt, m1_le, nI_mul, nI_add, nI_sub, nI_add1, nI_dec, nI_div, nI_mod, vp_inD, sf_nkD, sf_eqD, c2]
          refine ⟨_, _, ?_, ?_, mk (i + 1) _ (by omega) (hfr _ _) ?_ (hnew _ (hw.cg (fun g _ => ⟨Or.inl, fun h0 => h0.elim id (fun h9 => by obtain ⟨g', hg'⟩ := hex; exact absurd hg' (h9.1 g'))⟩)))⟩
          · omega
          · (simp (decide := true) only [am_has, am_lk0, am_lk1, and_self, true_and, and_true] <;> first | rfl | (refine ⟨?_, ?_⟩ <;> rfl) | (refine ⟨?_, ?_, ?_⟩ <;> rfl) | (refine ⟨?_, ?_, ?_, ?_⟩ <;> rfl))
          · rw [sf_naD (by decide), sf_naD (by decide)]; exact h29
      · rw [decide_eq_false c1]
        by_cases c2 : kF (nF fs i) = 5
        · simp (decide := true) (disch := (first | exact eq_false (by decide) | exact eq_true (by decide) | decide | omega)) only [lX0_drawSentence_0, lX0_drawSentence_27, lX0_drawSentence_96, lX0_drawSentence_97, lX0_drawSentence_101, lX0_drawSentence_123, lX0_drawSentence_129, bX0_drawSentence_0, bX0_drawSentence_27, bX0_drawSentence_96, bX0_drawSentence_97, bX0_drawSentence_101, bX0_drawSentence_123, bX0_drawSentence_129, (show qX0_drawSentence.2.2.2.1 = none from rfl), am_rok_none, w_aload_n, w_getfield, w_goto, w_iadd, w_iaload, w_iastore, w_icmp_ge, w_icmp_ne, w_iconst, w_if_eq, w_if_ne, w_iinc, w_iload_n, w_imul, w_ishl, w_istore_n, w_isub, w_nop, w_puti, w_return, w_swap, sa_17, sa_18, sa_30, sa_4, sa_5, sg_15_1, sg_15_2, sg_15_3, sg_29_0, sg_29_1, sg_2_1, sg_2_2, sg_2_3, sp_29_2, cI_0, cI_1, cI_2, cI_5, am_lk0, am_lk1, am_ld_some, am_isI_i, am_isJ_j, am_isR_r, am_st_eq, am_rmv_nil, am_rmv_t, am_rmv_i, am_rmv_r, sf_SH, sj_SH, sf_eq, sf_nk, sf_na, sf_sf, am_args_i, am_args_r, am_args_n, Nat.reduceAdd, List.cons_append, List.nil_append, Option.toList, List.drop_succ_cons, List.drop_zero, am_RP, am_CP, am_PH, Fin.isValue, Fin.val_zero, Fin.val_one, am_f2, am_f3, true_and, and_true, true_implies, false_implies, not_false_eq_true, ne_eq, nI_clampD, nI_leT, nI_leF, nI_ltT, nI_ltF, nI_eqT, nI_eqF, nI_lt0F, nI_0leT, nI_eq0T, nI_eq0F, nI_0ltT, nI_0ltF, nI_le0T, nI_le0F, nI_m1, nI_m1', m1_m1, m1_lt, m1_le, nI_mul, nI_add, nI_sub, nI_add1, nI_dec, nI_div, nI_mod, vp_inD, sf_nkD, sf_eqD, bI_f, hk]
          refine ⟨_, _, ?_, ?_, mk (i + 1) _ (by omega) (fun c d1 d2 => by rw [sf_naD d2]; exact hf c d1 d2) ?_ ?_⟩
          · omega
          · (simp (decide := true) only [am_has, am_lk0, am_lk1, and_self, true_and, and_true] <;> first | rfl | (refine ⟨?_, ?_⟩ <;> rfl) | (refine ⟨?_, ?_, ?_⟩ <;> rfl) | (refine ⟨?_, ?_, ?_, ?_⟩ <;> rfl))
          · rw [sf_naD (by decide)]; exact h29
          · intro x hx
            by_cases x2 : x = 2 * i
            · rw [sf_eqD x2]
              refine (Bp_1 (k := fs.length - 1) (by omega)).cg (fun g _ => ?_)
              have e1 : x / 2 = i := by omega
              have e2 : x % 2 = 0 := by omega
              constructor
              · intro h0
                refine ⟨by omega, ?_⟩
                unfold SE
                rw [e1, e2]
                exact ⟨by omega, by omega, Or.inr ⟨c2, rfl, h0⟩⟩
              · intro h0
                have h0 := h0.2.2.2
                rw [e1, e2] at h0
                rcases h0 with ⟨h0, -⟩ | ⟨-, -, h0⟩
                · exact absurd h0 c1
                · exact h0
            · rw [sf_nkD x2]
              refine (hb x hx).cg (fun g _ => ⟨fun h0 => ⟨by omega, h0.2⟩, fun h0 => ⟨?_, h0.2⟩⟩)
              by_cases x3 : x = 2 * i + 1
              · exfalso
                have h0 := h0.2.2.2
                have e1 : x / 2 = i := by omega
                have e2 : x % 2 = 1 := by omega
                rw [e1, e2] at h0
                rcases h0 with ⟨h0, -⟩ | ⟨-, h0, -⟩
                · exact absurd h0 c1
                · omega
              · omega
        · simp (decide := true) (disch := (first | exact eq_false (by decide) | exact eq_true (by decide) | decide | omega)) only [lX0_drawSentence_0, lX0_drawSentence_27, lX0_drawSentence_96, lX0_drawSentence_97, lX0_drawSentence_101, lX0_drawSentence_123, lX0_drawSentence_129, bX0_drawSentence_0, bX0_drawSentence_27, bX0_drawSentence_96, bX0_drawSentence_97, bX0_drawSentence_101, bX0_drawSentence_123, bX0_drawSentence_129, (show qX0_drawSentence.2.2.2.1 = none from rfl), am_rok_none, w_aload_n, w_getfield, w_goto, w_iadd, w_iaload, w_iastore, w_icmp_ge, w_icmp_ne, w_iconst, w_if_eq, w_if_ne, w_iinc, w_iload_n, w_imul, w_ishl, w_istore_n, w_isub, w_nop, w_puti, w_return, w_swap, sa_17, sa_18, sa_30, sa_4, sa_5, sg_15_1, sg_15_2, sg_15_3, sg_29_0, sg_29_1, sg_2_1, sg_2_2, sg_2_3, sp_29_2, cI_0, cI_1, cI_2, cI_5, am_lk0, am_lk1, am_ld_some, am_isI_i, am_isJ_j, am_isR_r, am_st_eq, am_rmv_nil, am_rmv_t, am_rmv_i, am_rmv_r, sf_SH, sj_SH, sf_eq, sf_nk, sf_na, sf_sf, am_args_i, am_args_r, am_args_n, Nat.reduceAdd, List.cons_append, List.nil_append, Option.toList, List.drop_succ_cons, List.drop_zero, am_RP, am_CP, am_PH, Fin.isValue, Fin.val_zero, Fin.val_one, am_f2, am_f3, true_and, and_true, true_implies, false_implies, not_false_eq_true, ne_eq, nI_clampD, nI_leT, nI_leF, nI_ltT, nI_ltF, nI_eqT, nI_eqF, nI_lt0F, nI_0leT, nI_eq0T, nI_eq0F, nI_0ltT, nI_0ltF, nI_le0T, nI_le0F, nI_m1, nI_m1', m1_m1, m1_lt, m1_le, nI_mul, nI_add, nI_sub, nI_add1, nI_dec, nI_div, nI_mod, vp_inD, sf_nkD, sf_eqD, bI_f, hk]
          refine ⟨_, _, ?_, ?_, mk (i + 1) _ (by omega) hf h29 ?_⟩
          · omega
          · (simp (decide := true) only [am_has, am_lk0, am_lk1, and_self, true_and, and_true] <;> first | rfl | (refine ⟨?_, ?_⟩ <;> rfl) | (refine ⟨?_, ?_, ?_⟩ <;> rfl) | (refine ⟨?_, ?_, ?_, ?_⟩ <;> rfl))
          · intro x hx
            refine (hb x hx).cg (fun g _ => ⟨fun h0 => ⟨by omega, h0.2⟩, fun h0 => ⟨?_, h0.2⟩⟩)
            by_cases x3 : x / 2 = i
            · exfalso
              have h0 := h0.2.2.2
              rw [x3] at h0
              rcases h0 with ⟨h0, -⟩ | ⟨h0, -⟩
              · exact absurd h0 c1
              · exact absurd h0 c2
            · omega
  · refine ⟨90, ?_⟩
    simp (decide := true) (disch := (first | exact eq_false (by decide) | exact eq_true (by decide) | decide | omega)) only [lX0_drawSentence_0, lX0_drawSentence_27, lX0_drawSentence_96, lX0_drawSentence_97, lX0_drawSentence_101, lX0_drawSentence_123, lX0_drawSentence_129, bX0_drawSentence_0, bX0_drawSentence_27, bX0_drawSentence_96, bX0_drawSentence_97, bX0_drawSentence_101, bX0_drawSentence_123, bX0_drawSentence_129, (show qX0_drawSentence.2.2.2.1 = none from rfl), am_rok_none, w_aload_n, w_getfield, w_goto, w_iadd, w_iaload, w_iastore, w_icmp_ge, w_icmp_ne, w_iconst, w_if_eq, w_if_ne, w_iinc, w_iload_n, w_imul, w_ishl, w_istore_n, w_isub, w_nop, w_puti, w_return, w_swap, sa_17, sa_18, sa_30, sa_4, sa_5, sg_15_1, sg_15_2, sg_15_3, sg_29_0, sg_29_1, sg_2_1, sg_2_2, sg_2_3, sp_29_2, cI_0, cI_1, cI_2, cI_5, am_lk0, am_lk1, am_ld_some, am_isI_i, am_isJ_j, am_isR_r, am_st_eq, am_rmv_nil, am_rmv_t, am_rmv_i, am_rmv_r, sf_SH, sj_SH, sf_eq, sf_nk, sf_na, sf_sf, am_args_i, am_args_r, am_args_n, Nat.reduceAdd, List.cons_append, List.nil_append, Option.toList, List.drop_succ_cons, List.drop_zero, am_RP, am_CP, am_PH, Fin.isValue, Fin.val_zero, Fin.val_one, am_f2, am_f3, true_and, and_true, true_implies, false_implies, not_false_eq_true, ne_eq, nI_clampD, nI_leT, nI_leF, nI_ltT, nI_ltF, nI_eqT, nI_eqF, nI_lt0F, nI_0leT, nI_eq0T, nI_eq0F, nI_0ltT, nI_0ltF, nI_le0T, nI_le0F, nI_m1, nI_m1', m1_m1, m1_lt, m1_le, nI_mul, nI_add, nI_sub, nI_add1, nI_dec, nI_div, nI_mod, vp_inD, sf_nkD, sf_eqD]
    refine w_statE (c_fill g (h + 1) I J 30 22 (nI 0) (by decide) rfl (by decide)) (by decide) rfl rfl rfl (Nat.le_refl _) (Nat.le_refl _) ?_
    have e2 : fl I 30 22 (nI 0) 2 1 = nI fs.length := by rw [fl_app, if_neg (by omega)]; exact h1
    simp (decide := true) (disch := (first | exact eq_false (by decide) | exact eq_true (by decide) | decide | omega)) only [lX0_drawSentence_0, lX0_drawSentence_27, lX0_drawSentence_96, lX0_drawSentence_97, lX0_drawSentence_101, lX0_drawSentence_123, lX0_drawSentence_129, bX0_drawSentence_0, bX0_drawSentence_27, bX0_drawSentence_96, bX0_drawSentence_97, bX0_drawSentence_101, bX0_drawSentence_123, bX0_drawSentence_129, (show qX0_drawSentence.2.2.2.1 = none from rfl), am_rok_none, w_aload_n, w_getfield, w_goto, w_iadd, w_iaload, w_iastore, w_icmp_ge, w_icmp_ne, w_iconst, w_if_eq, w_if_ne, w_iinc, w_iload_n, w_imul, w_ishl, w_istore_n, w_isub, w_nop, w_puti, w_return, w_swap, sa_17, sa_18, sa_30, sa_4, sa_5, sg_15_1, sg_15_2, sg_15_3, sg_29_0, sg_29_1, sg_2_1, sg_2_2, sg_2_3, sp_29_2, cI_0, cI_1, cI_2, cI_5, am_lk0, am_lk1, am_ld_some, am_isI_i, am_isJ_j, am_isR_r, am_st_eq, am_rmv_nil, am_rmv_t, am_rmv_i, am_rmv_r, sf_SH, sj_SH, sf_eq, sf_nk, sf_na, sf_sf, am_args_i, am_args_r, am_args_n, Nat.reduceAdd, List.cons_append, List.nil_append, Option.toList, List.drop_succ_cons, List.drop_zero, am_RP, am_CP, am_PH, Fin.isValue, Fin.val_zero, Fin.val_one, am_f2, am_f3, true_and, and_true, true_implies, false_implies, not_false_eq_true, ne_eq, nI_clampD, nI_leT, nI_leF, nI_ltT, nI_ltF, nI_eqT, nI_eqF, nI_lt0F, nI_0leT, nI_eq0T, nI_eq0F, nI_0ltT, nI_0ltF, nI_le0T, nI_le0F, nI_m1, nI_m1', m1_m1, m1_lt, m1_le, nI_mul, nI_add, nI_sub, nI_add1, nI_dec, nI_div, nI_mod, vp_inD, sf_nkD, sf_eqD, e2]
    refine ⟨_, _, ?_, mk 0 _ (by omega) (fun c d1 d2 => ?_) ?_ ?_⟩
    · (simp (decide := true) only [am_has, am_lk0, am_lk1, and_self, true_and, and_true] <;> first | rfl | (refine ⟨?_, ?_⟩ <;> rfl) | (refine ⟨?_, ?_, ?_⟩ <;> rfl) | (refine ⟨?_, ?_, ?_, ?_⟩ <;> rfl))
    · rw [sf_naD d1]
      funext j
      rw [fl_app, if_neg (fun h0 => d2 h0.1)]
    · rw [sf_eq]
    · intro x hx
      rw [sf_naD (by decide), fl_app, if_pos ⟨rfl, hx⟩]
      exact Bp_n0.cg (fun g _ => ⟨False.elim, fun h0 => by omega⟩)
end GR1
