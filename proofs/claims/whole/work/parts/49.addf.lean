/-! fragments come into the draft -/
theorem any_findIdx {α : Type} {p : α → Bool} {l : List α} : (l.all (fun g => !p g) = true) = ¬ (l.findIdx p < l.length) := by
  apply propext
  rw [List.all_eq_true]
  constructor
  · intro h h1
    have h2 := List.findIdx_getElem (w := h1)
    have h3 := h _ (List.getElem_mem h1)
    simp only [Bool.not_eq_true'] at h3
    rw [h3] at h2
    cases h2
  · intro h x hx
    apply Bool.not_eq_true' _ |>.mpr
    apply Bool.eq_false_iff.mpr
    intro h1
    exact h (List.findIdx_lt_length_of_exists ⟨x, hx, h1⟩)
theorem pls_new (L : Nat → Nat) (fs : List Fg) (x : Fg) : pls L (fs ++ [x]) (fs ++ [x]).length = if kF x = 0 ∧ ¬ ((pls L fs fs.length).findIdx (fun g => smN L (nF fs g) x) < (pls L fs fs.length).length) then pls L fs fs.length ++ [fs.length] else pls L fs fs.length := by
  rw [List.length_append, List.length_singleton]
  have es : ∀ fs n, pls L fs (n + 1) = if kF (nF fs n) = 0 ∧ (pls L fs n).all (fun g => !smN L (nF fs g) (nF fs n)) = true then pls L fs n ++ [n] else pls L fs n := fun fs n => rfl
  rw [es, pls_app L fs [x] fs.length (Nat.le_refl _), nF_new]
  have e : (pls L fs fs.length).findIdx (fun g => smN L (nF (fs ++ [x]) g) x) = (pls L fs fs.length).findIdx (fun g => smN L (nF fs g) x) := findIdx_congr' (fun g hg => by rw [nF_app (pls_lt L fs _ g hg).1])
  simp only [any_findIdx (p := fun g => smN L (nF (fs ++ [x]) g) x), e]
theorem prd_new (L : Nat → Nat) (fs : List Fg) (x : Fg) : prd L (fs ++ [x]) fs.length = (pls L fs fs.length).findIdx (fun g => smN L (nF fs g) x) := by
  unfold prd
  rw [pls_app L fs [x] fs.length (Nat.le_refl _), nF_new]
  exact findIdx_congr' (fun g hg => by rw [nF_app (pls_lt L fs _ g hg).1])
theorem getD_app1 {l r : List Nat} {p : Nat} (h : p < l.length) : (l ++ r).getD p 0 = l.getD p 0 := by
  simp only [List.getD_eq_getElem?_getD, List.getElem?_append_left h]
theorem getD_app2 (l : List Nat) (x : Nat) : (l ++ [x]).getD l.length 0 = x := by
  simp [List.getD_eq_getElem?_getD]
/-- a sentence with one fragment more -/
theorem RD_add {b : Nat} {L : Nat → Nat} {fs : List Fg} {x : Fg} {I I' : Nat → Nat → Int32} (hD : RD b L fs I)
    (h1 : I' b 1 = nI (fs.length + 1)) (h2 : I' (b + 2) fs.length = nI (kF x)) (h3 : rk (kF x) = 2 → I' (b + 3) fs.length = nI (vF x) ∧ I' (b + 4) fs.length = nI (aF x))
    (h4 : kF x = 0 → I' (b + 5) fs.length = nI (aF x) ∧ I' (b + 6) fs.length = nI (bF x) ∧ I' (b + 7) fs.length = nI (cF x) ∧ I' (b + 8) fs.length = nI (vF x) ∧ I' (b + 9) fs.length = wI (wF x) ∧ I' (b + 10) fs.length = nI ((pls L fs fs.length).findIdx (fun g => smN L (nF fs g) x)))
    (h5 : ∀ c, 2 ≤ c → c ≤ 10 → ∀ f, f < fs.length → I' (b + c) f = I (b + c) f)
    (h6 : ∀ c, 11 ≤ c → c ≤ 12 → ∀ p, p < (pls L fs fs.length).length → I' (b + c) p = I (b + c) p)
    (h7 : (kF x = 0 ∧ ¬ ((pls L fs fs.length).findIdx (fun g => smN L (nF fs g) x) < (pls L fs fs.length).length) ∧ I' b 11 = nI ((pls L fs fs.length).length + 1) ∧ I' (b + 11) (pls L fs fs.length).length = nI (arF x) ∧ I' (b + 12) (pls L fs fs.length).length = nI fs.length) ∨ (¬ (kF x = 0 ∧ ¬ ((pls L fs fs.length).findIdx (fun g => smN L (nF fs g) x) < (pls L fs fs.length).length)) ∧ I' b 11 = I b 11)) : RD b L (fs ++ [x]) I' := by
  obtain ⟨d1, d2, d3, d4, d5, d6⟩ := hD
  have hl : (fs ++ [x]).length = fs.length + 1 := by simp
  unfold RD
  rw [pls_new]
  refine ⟨by rw [hl]; exact h1, ?_, fun f hf => ?_, fun f hf hk => ?_, fun f hf hk => ?_, fun p hp => ?_⟩
  · rcases h7 with ⟨a1, a2, a3, -, -⟩ | ⟨a1, a2⟩
    · rw [if_pos ⟨a1, a2⟩, a3, List.length_append]
      rfl
    · rw [if_neg a1, a2, d2]
  · rw [hl] at hf
    by_cases hn : f = fs.length
    · subst hn
      rw [nF_new]; exact h2
    · rw [nF_app (by omega), h5 2 (by omega) (by omega) f (by omega)]
      exact d3 f (by omega)
  · rw [hl] at hf
    by_cases hn : f = fs.length
    · subst hn
      rw [nF_new] at hk ⊢; exact h3 hk
    · rw [nF_app (by omega)] at hk ⊢
      rw [h5 3 (by omega) (by omega) f (by omega), h5 4 (by omega) (by omega) f (by omega)]
      exact d4 f (by omega) hk
  · rw [hl] at hf
    by_cases hn : f = fs.length
    · subst hn
      rw [prd_new]
      rw [nF_new] at hk ⊢; exact h4 hk
    · rw [prd_app L fs [x] (by omega)]
      rw [nF_app (by omega)] at hk ⊢
      rw [h5 5 (by omega) (by omega) f (by omega), h5 6 (by omega) (by omega) f (by omega), h5 7 (by omega) (by omega) f (by omega), h5 8 (by omega) (by omega) f (by omega), h5 9 (by omega) (by omega) f (by omega), h5 10 (by omega) (by omega) f (by omega)]
      exact d5 f (by omega) hk
  · have old : ∀ p, p < (pls L fs fs.length).length → I' (b + 11) p = nI (arF (nF (fs ++ [x]) ((pls L fs fs.length).getD p 0))) ∧ I' (b + 12) p = nI ((pls L fs fs.length).getD p 0) := by
      intro p hp
      rw [h6 11 (by omega) (by omega) p hp, h6 12 (by omega) (by omega) p hp, nF_app (pls_lt L fs _ _ (getD_mem hp)).1]
      exact d6 p hp
    rcases h7 with ⟨a1, a2, -, a4, a5⟩ | ⟨a1, -⟩
    · rw [if_pos ⟨a1, a2⟩] at hp ⊢
      rw [List.length_append, List.length_singleton] at hp
      by_cases hn : p = (pls L fs fs.length).length
      · subst hn
        rw [getD_app2, nF_new]
        exact ⟨a4, a5⟩
      · rw [getD_app1 (by omega)]
        exact old p (by omega)
    · rw [if_neg a1] at hp ⊢
      exact old p hp
theorem pnI_na {I : Nat → Nat → Int32} {l : List Nat} {i f w b : Nat} (h1 : b ≠ 26) (h2 : b ≠ 27) (h3 : b ≠ 15) : pnI I l i f w b = I b := by
  unfold pnI
  split
  · rfl
  · rw [sf_naD h3, sf_naD h2, sf_naD h1]
theorem pnI_15 {I : Nat → Nat → Int32} {l : List Nat} {i f w k : Nat} (h : k ≠ 11) : pnI I l i f w 15 k = I 15 k := by
  unfold pnI
  split
  · rfl
  · rw [sf_nkD h, sf_naD (by decide), sf_naD (by decide)]
theorem c_length0 (g : am_G) (h : Nat) (M : am_M) : am_Ctr g am_mt 1 (h + 1) 236 [.ref 1000] M 0 0 (fun r M' => r = some (.int (nI 3)) ∧ M' = M) := c_length g h M (i := 0) (by decide)
theorem so_str0 {M : am_M} : am_rcv M 99 1000 := so_str (i := 0) (by decide)
section AF1
variable (g : am_G) (h : Nat) (I : Nat → Nat → Int32) (J : Nat → Nat → Int64) {L : Nat → Nat} {t : Nat}
set_option maxRecDepth 100000 in
set_option maxHeartbeats 400000 in
theorem c_X7_addNegation (fs : List Fg) (hD : RD 15 L fs I) (hn : fs.length < 11) :
    am_Ctr g am_mt 1 (h + 1) 62 [.ref 15] (am_SH, I, J) 0 0 (fun r M => r = none ∧ ∃ I', M = (am_SH, I', J) ∧ RD 15 L (fs ++ [(5, 0, 0, 0, 0, 0)]) I' ∧ ∀ a, a < 15 ∨ a = 16 ∨ 27 < a → I' a = I a) := by
  have h1 : I 15 1 = nI fs.length := hD.1
  refine am_rule0 (q := qX7_addNegation) (B := am_blk bX7_addNegation) 30 rfl rfl kX7_addNegation nX7_addNegation (Nat.le_of_ble_eq_true rfl) ?_
  simp (decide := true) (disch := (first | exact eq_false (by decide) | exact eq_true (by decide) | decide | omega)) only [lX7_addNegation_0, lX7_addNegation_29, bX7_addNegation_0, bX7_addNegation_29, (show qX7_addNegation.2.2.2.1 = none from rfl), am_rok_none, w_aload_n, w_bipush, w_dup, w_getfield, w_iadd, w_iastore, w_icmp_ge, w_iconst, w_puti, w_return, w_swap, sa_17, sa_4, sg_15_1, sg_15_2, sg_2_1, sg_2_2, sp_15_1, sp_2_1, cB_11, cI_1, cI_5, am_lk0, am_lk1, am_ld_some, am_isI_i, am_isJ_j, am_isR_r, am_st_eq, am_rmv_nil, am_rmv_t, am_rmv_i, am_rmv_r, sf_SH, sj_SH, sf_eq, sf_nk, sf_na, sf_sf, am_args_i, am_args_r, am_args_n, Nat.reduceAdd, List.cons_append, List.nil_append, Option.toList, List.drop_succ_cons, List.drop_zero, am_RP, am_CP, am_PH, Fin.isValue, Fin.val_zero, Fin.val_one, am_f2, am_f3, true_and, and_true, true_implies, false_implies, not_false_eq_true, ne_eq, nI_clampD, nI_leT, nI_leF, nI_ltT, nI_ltF, nI_eqT, nI_eqF, nI_lt0F, nI_0leT, nI_eq0T, nI_eq0F, nI_0ltT, nI_0ltF, nI_le0T, nI_le0F, nI_m1, nI_m1', m1_m1, m1_lt, m1_le, nI_mul, nI_add, nI_sub, nI_add1, nI_dec, nI_div, nI_mod, vp_inD, sf_nkD, sf_eqD, h1]
  refine ⟨_, rfl, RD_add hD ?_ ?_ ?_ ?_ ?_ ?_ (Or.inr ⟨?_, ?_⟩), fun a ha => ?_⟩
  · rw [sf_eq]
  · rw [sf_naD (by decide), sf_eq]
  · intro h0; cases h0
  · intro h0; cases h0
  · intro c h2 h3 f hf
    rw [sf_naD (by omega)]
    by_cases hc : 15 + c = 17
    · rw [hc, sf_nkD (by omega)]
    · rw [sf_naD hc]
  · intro c h2 h3 f hf
    rw [sf_naD (by omega), sf_naD (by omega)]
  · exact fun h0 => absurd h0.1 (by decide)
  · rw [sf_nkD (by decide), sf_naD (by decide)]
  · rw [sf_naD (by omega), sf_naD (by omega)]
set_option maxRecDepth 100000 in
set_option maxHeartbeats 400000 in
theorem c_X7_addQuantifier (fs : List Fg) (k at_ c : Nat) (hk : 0 < k) (hk5 : k < 5) (hD : RD 15 L fs I) (hn : fs.length < 11) (ha : at_ < 100) (hc : I 16 at_ = nI c) (h5 : 117 ≤ c) (h6 : c < 128) :
    am_Ctr g am_mt 1 (h + 2) 61 [.ref 15, .int (nI k), .int (nI at_)] (am_SH, I, J) 0 0 (fun r M => r = none ∧ ∃ I', M = (am_SH, I', J) ∧ RD 15 L (fs ++ [(k, c - 117, 0, at_, 0, 0)]) I' ∧ ∀ a, a < 15 ∨ a = 16 ∨ 27 < a → I' a = I a) := by
  have h1 : I 15 1 = nI fs.length := hD.1
  refine am_rule0 (q := qX7_addQuantifier) (B := am_blk bX7_addQuantifier) 50 rfl rfl kX7_addQuantifier nX7_addQuantifier (Nat.le_of_ble_eq_true rfl) ?_
  simp (decide := true) (disch := (first | exact eq_false (by decide) | exact eq_true (by decide) | decide | omega)) only [lX7_addQuantifier_0, lX7_addQuantifier_53, bX7_addQuantifier_0, bX7_addQuantifier_53, (show qX7_addQuantifier.2.2.2.1 = none from rfl), am_rok_none, w_aload_n, w_bipush, w_dup, w_getfield, w_iadd, w_iastore, w_icmp_ge, w_iconst, w_iload_n, w_puti, w_return, w_swap, sa_17, sa_18, sa_19, sa_4, sa_5, sa_6, sg_15_1, sg_15_2, sg_15_3, sg_15_4, sg_2_1, sg_2_2, sg_2_3, sg_2_4, sp_15_1, sp_2_1, cB_11, cI_1, am_lk0, am_lk1, am_ld_some, am_isI_i, am_isJ_j, am_isR_r, am_st_eq, am_rmv_nil, am_rmv_t, am_rmv_i, am_rmv_r, sf_SH, sj_SH, sf_eq, sf_nk, sf_na, sf_sf, am_args_i, am_args_r, am_args_n, Nat.reduceAdd, List.cons_append, List.nil_append, Option.toList, List.drop_succ_cons, List.drop_zero, am_RP, am_CP, am_PH, Fin.isValue, Fin.val_zero, Fin.val_one, am_f2, am_f3, true_and, and_true, true_implies, false_implies, not_false_eq_true, ne_eq, nI_clampD, nI_leT, nI_leF, nI_ltT, nI_ltF, nI_eqT, nI_eqF, nI_lt0F, nI_0leT, nI_eq0T, nI_eq0F, nI_0ltT, nI_0ltF, nI_le0T, nI_le0F, nI_m1, nI_m1', m1_m1, m1_lt, m1_le, nI_mul, nI_add, nI_sub, nI_add1, nI_dec, nI_div, nI_mod, vp_inD, sf_nkD, sf_eqD, h1]
  refine w_virtE (c_X7_variableIn g h _ J at_ c ha ((congrFun (sf_naD (by decide)) _).trans hc) h5 h6) rfl rfl rfl (of_eq_true so_15) rfl (Nat.le_refl _) (Nat.le_refl _) ?_
  simp (decide := true) (disch := (first | exact eq_false (by decide) | exact eq_true (by decide) | decide | omega)) only [lX7_addQuantifier_0, lX7_addQuantifier_53, bX7_addQuantifier_0, bX7_addQuantifier_53, (show qX7_addQuantifier.2.2.2.1 = none from rfl), am_rok_none, w_aload_n, w_bipush, w_dup, w_getfield, w_iadd, w_iastore, w_icmp_ge, w_iconst, w_iload_n, w_puti, w_return, w_swap, sa_17, sa_18, sa_19, sa_4, sa_5, sa_6, sg_15_1, sg_15_2, sg_15_3, sg_15_4, sg_2_1, sg_2_2, sg_2_3, sg_2_4, sp_15_1, sp_2_1, cB_11, cI_1, am_lk0, am_lk1, am_ld_some, am_isI_i, am_isJ_j, am_isR_r, am_st_eq, am_rmv_nil, am_rmv_t, am_rmv_i, am_rmv_r, sf_SH, sj_SH, sf_eq, sf_nk, sf_na, sf_sf, am_args_i, am_args_r, am_args_n, Nat.reduceAdd, List.cons_append, List.nil_append, Option.toList, List.drop_succ_cons, List.drop_zero, am_RP, am_CP, am_PH, Fin.isValue, Fin.val_zero, Fin.val_one, am_f2, am_f3, true_and, and_true, true_implies, false_implies, not_false_eq_true, ne_eq, nI_clampD, nI_leT, nI_leF, nI_ltT, nI_ltF, nI_eqT, nI_eqF, nI_lt0F, nI_0leT, nI_eq0T, nI_eq0F, nI_0ltT, nI_0ltF, nI_le0T, nI_le0F, nI_m1, nI_m1', m1_m1, m1_lt, m1_le, nI_mul, nI_add, nI_sub, nI_add1, nI_dec, nI_div, nI_mod, vp_inD, sf_nkD, sf_eqD, h1]
  refine ⟨_, rfl, RD_add hD ?_ ?_ ?_ ?_ ?_ ?_ (Or.inr ⟨?_, ?_⟩), fun a ha => ?_⟩
  · rw [sf_eq]
  · rw [sf_naD (by decide), sf_naD (by decide), sf_naD (by decide), sf_eq]
  · intro h0
    rw [sf_naD (by decide), sf_naD (by decide), sf_eq, sf_naD (by decide), sf_eq]
    exact ⟨rfl, rfl⟩
  · intro h0
    simp only [kF] at h0
    omega
  · intro c h2 h3 f hf
    rw [sf_naD (by omega)]
    have e : ∀ (I : Nat → Nat → Int32) z v, sf I z fs.length v (15 + c) f = I (15 + c) f := by
      intro I z v
      by_cases hc : 15 + c = z
      · subst hc; rw [sf_nkD (by omega)]
      · rw [sf_naD hc]
    rw [e, e, e]
  · intro c h2 h3 f hf
    rw [sf_naD (by omega), sf_naD (by omega), sf_naD (by omega), sf_naD (by omega)]
  · intro h0
    simp only [kF] at h0
    omega
  · rw [sf_nkD (by decide), sf_naD (by decide), sf_naD (by decide), sf_naD (by decide)]
  · rw [sf_naD (by omega), sf_naD (by omega), sf_naD (by omega), sf_naD (by omega)]
/-- the leaf's own places in the draft's rows -/
def lfI (I : Nat → Nat → Int32) (n v w a b c : Nat) : Nat → Nat → Int32 := sf (sf (sf (sf (sf (sf I 17 n (nI 0)) 20 n (nI a)) 21 n (nI b)) 22 n (nI c)) 23 n (nI v)) 24 n (wI w)
theorem lfI_na {I : Nat → Nat → Int32} {n v w a b c y : Nat} (h : y < 17 ∨ y = 18 ∨ y = 19 ∨ 24 < y) : lfI I n v w a b c y = I y := by
  unfold lfI
  rw [sf_naD (by omega), sf_naD (by omega), sf_naD (by omega), sf_naD (by omega), sf_naD (by omega), sf_naD (by omega)]
theorem lfI_nk {I : Nat → Nat → Int32} {n v w a b c y f : Nat} (h : f < n) : lfI I n v w a b c y f = I y f := by
  have e : ∀ (I : Nat → Nat → Int32) z v, sf I z n v y f = I y f := by
    intro I z v
    by_cases hc : y = z
    · subst hc; rw [sf_nkD (by omega)]
    · rw [sf_naD hc]
  unfold lfI
  rw [e, e, e, e, e, e]
theorem lfI_eq (I : Nat → Nat → Int32) (n v w a b c : Nat) : lfI I n v w a b c 17 n = nI 0 ∧ lfI I n v w a b c 20 n = nI a ∧ lfI I n v w a b c 21 n = nI b ∧ lfI I n v w a b c 22 n = nI c ∧ lfI I n v w a b c 23 n = nI v ∧ lfI I n v w a b c 24 n = wI w := by
  unfold lfI
  refine ⟨?_, ?_, ?_, ?_, ?_, ?_⟩
  · rw [sf_naD (by decide), sf_naD (by decide), sf_naD (by decide), sf_naD (by decide), sf_naD (by decide), sf_eq]
  · rw [sf_naD (by decide), sf_naD (by decide), sf_naD (by decide), sf_naD (by decide), sf_eq]
  · rw [sf_naD (by decide), sf_naD (by decide), sf_naD (by decide), sf_eq]
  · rw [sf_naD (by decide), sf_naD (by decide), sf_eq]
  · rw [sf_naD (by decide), sf_eq]
  · rw [sf_eq]
theorem lfI_RD {L : Nat → Nat} {fs : List Fg} {I : Nat → Nat → Int32} {v w a b c : Nat} (hD : RD 15 L fs I) : RD 15 L fs (lfI I fs.length v w a b c) := by
  obtain ⟨d1, d2, d3, d4, d5, d6⟩ := hD
  refine ⟨?_, ?_, fun f hf => ?_, fun f hf hk => ?_, fun f hf hk => ?_, fun p hp => ?_⟩
  · rw [lfI_na (by omega)]; exact d1
  · rw [lfI_na (by omega)]; exact d2
  · rw [lfI_nk hf]; exact d3 f hf
  · rw [lfI_nk hf, lfI_nk hf]; exact d4 f hf hk
  · rw [lfI_nk hf, lfI_nk hf, lfI_nk hf, lfI_nk hf, lfI_nk hf, lfI_nk hf]; exact d5 f hf hk
  · rw [lfI_na (by omega), lfI_na (by omega)]; exact d6 p hp
theorem lfI_post {L : Nat → Nat} {fs : List Fg} {I : Nat → Nat → Int32} {v w a b c i : Nat} (hD : RD 15 L fs I) (hi : i = (pls L fs fs.length).findIdx (fun g => smN L (nF fs g) (0, v, w, a, b, c))) :
    RD 15 L (fs ++ [(0, v, w, a, b, c)]) (sf (sf (pnI (lfI I fs.length v w a b c) (pls L fs fs.length) i fs.length w) 25 fs.length (nI i)) 15 1 (nI (fs.length + 1))) ∧ ∀ y, y < 15 ∨ y = 16 ∨ 27 < y → sf (sf (pnI (lfI I fs.length v w a b c) (pls L fs fs.length) i fs.length w) 25 fs.length (nI i)) 15 1 (nI (fs.length + 1)) y = I y := by
  have s6 : ∀ (y : Nat), y ≠ 15 → y ≠ 25 → y ≠ 26 → y ≠ 27 → ∀ (K : Nat → Nat → Int32) l i f w u u', sf (sf (pnI K l i f w) 25 fs.length u) 15 1 u' y = K y := by
    intro y h1 h2 h3 h4 K l i f w u u'
    rw [sf_naD h1, sf_naD h2, pnI_na h3 h4 h1]
  have hl := lfI_eq I fs.length v w a b c
  refine ⟨RD_add hD ?_ ?_ ?_ ?_ ?_ ?_ ?_, fun y hy => ?_⟩
  · rw [sf_eq]
  · rw [s6 _ (by decide) (by decide) (by decide) (by decide)]; exact hl.1
  · intro h0; cases h0
  · intro h0
    refine ⟨?_, ?_, ?_, ?_, ?_, ?_⟩
    · rw [s6 _ (by decide) (by decide) (by decide) (by decide)]; exact hl.2.1
    · rw [s6 _ (by decide) (by decide) (by decide) (by decide)]; exact hl.2.2.1
    · rw [s6 _ (by decide) (by decide) (by decide) (by decide)]; exact hl.2.2.2.1
    · rw [s6 _ (by decide) (by decide) (by decide) (by decide)]; exact hl.2.2.2.2.1
    · rw [s6 _ (by decide) (by decide) (by decide) (by decide)]; exact hl.2.2.2.2.2
    · rw [sf_naD (by decide), sf_eq, hi]
  · intro z h2 h3 f hf
    rw [sf_naD (by omega)]
    have e : ∀ (I : Nat → Nat → Int32) v, sf I 25 fs.length v (15 + z) f = I (15 + z) f := by
      intro I v
      by_cases hc : 15 + z = 25
      · rw [hc, sf_nkD (by omega)]
      · rw [sf_naD hc]
    rw [e, pnI_na (by omega) (by omega) (by omega), lfI_nk hf]
  · intro z h2 h3 p hp
    rw [sf_naD (by omega), sf_naD (by omega)]
    have hI : ∀ (K : Nat → Nat → Int32) i f w, pnI K (pls L fs fs.length) i f w (15 + z) p = K (15 + z) p := by
      intro K i f w
      unfold pnI
      split
      · rfl
      · rw [sf_naD (by omega)]
        have e : ∀ (I : Nat → Nat → Int32) y v, sf I y (pls L fs fs.length).length v (15 + z) p = I (15 + z) p := by
          intro I y v
          by_cases hc : 15 + z = y
          · subst hc; rw [sf_nkD (by omega)]
          · rw [sf_naD hc]
        rw [e, e]
    rw [hI, lfI_na (by omega)]
  · rw [← hi]
    by_cases hf : i < (pls L fs fs.length).length
    · refine Or.inr ⟨fun h0 => h0.2 hf, ?_⟩
      rw [sf_nkD (by decide), sf_naD (by decide)]
      unfold pnI
      rw [if_pos hf, lfI_na (by omega)]
    · refine Or.inl ⟨rfl, hf, ?_, ?_, ?_⟩
      · rw [sf_nkD (by decide), sf_naD (by decide)]
        unfold pnI
        rw [if_neg hf, sf_eq]
      · rw [sf_naD (by decide), sf_naD (by decide)]
        unfold pnI
        rw [if_neg hf, sf_naD (by decide), sf_naD (by decide), sf_eq]
        rfl
      · rw [sf_naD (by decide), sf_naD (by decide)]
        unfold pnI
        rw [if_neg hf, sf_naD (by decide), sf_eq]
  · rw [s6 y (by omega) (by omega) (by omega) (by omega), lfI_na (by omega)]
set_option maxRecDepth 100000 in
set_option maxHeartbeats 400000 in
theorem c_X7_addLeaf (hT : TX 16 L t I) (fs : List Fg) (v w a b c : Nat) (hD : RD 15 L fs I) (hw : WF t fs) (hn : fs.length < 11) (hp : (pls L fs fs.length).length < 5) (hab : a ≤ b) (hbc : b + 3 ≤ c) (hct : c ≤ t) (hv : L (b + 1) = v + 117) (hv6 : v < 6) (hw0 : w = 0 ∧ c = b + 3 ∨ 0 < w ∧ w < 7 ∧ c = b + 5 ∧ L (b + 3) = w + 116) :
    am_Ctr g am_mt 1 (h + 3) 63 [.ref 15, .int (nI a), .int (nI b), .int (nI c)] (am_SH, I, J) 0 0 (fun r M => r = none ∧ ∃ I', M = (am_SH, I', J) ∧ RD 15 L (fs ++ [(0, v, w, a, b, c)]) I' ∧ ∀ a, a < 15 ∨ a = 16 ∨ 27 < a → I' a = I a) := by
  have h1 : I 15 1 = nI fs.length := hD.1
  have ht := hT.1
  have hv' := (hT.2.1 (b + 1) (by omega)).1
  rw [hv] at hv'
  have hl := lfI_eq I fs.length v w a b c
  have hpn := c_X7_predicateNamedBy g h (lfI I fs.length v w a b c) J (t := t) (hT.fr (lfI_na (by omega))) fs (0, v, w, a, b, c) (lfI_RD hD) hw hn hp hl.2.1 hl.2.2.1 hl.2.2.2.2.2 ⟨hab, by show b ≤ t; omega⟩ (by show w < 7; omega)
  have post := lfI_post (v := v) (w := w) (a := a) (b := b) (c := c) hD rfl
  generalize hP : (fun (r : Option Value) (M : am_M) => r = none ∧ ∃ I', M = (am_SH, I', J) ∧ RD 15 L (fs ++ [(0, v, w, a, b, c)]) I' ∧ ∀ a, a < 15 ∨ a = 16 ∨ 27 < a → I' a = I a) = P
  have hfin : P none (am_SH, sf (sf (pnI (lfI I fs.length v w a b c) (pls L fs fs.length) ((pls L fs fs.length).findIdx (fun g => smN L (nF fs g) (0, v, w, a, b, c))) fs.length w) 25 fs.length (nI ((pls L fs fs.length).findIdx (fun g => smN L (nF fs g) (0, v, w, a, b, c))))) 15 1 (nI (fs.length + 1)), J) := by
    rw [← hP]
    exact ⟨rfl, _, rfl, post⟩
  have h15 : ∀ y k, y = 15 → k ≠ 11 → pnI (lfI I fs.length v w a b c) (pls L fs fs.length) ((pls L fs fs.length).findIdx (fun g => smN L (nF fs g) (0, v, w, a, b, c))) fs.length w y k = I 15 k := by
    rintro y k rfl hk
    rw [pnI_15 hk, lfI_na (by omega)]
  have h15' := h15 15 1 rfl (by decide)
  clear h15 post hP
  generalize (pls L fs fs.length).findIdx (fun g => smN L (nF fs g) (0, v, w, a, b, c)) = i at *
  refine am_rule0 (q := qX7_addLeaf) (B := am_blk bX7_addLeaf) 120 rfl rfl kX7_addLeaf nX7_addLeaf (Nat.le_of_ble_eq_true rfl) ?_
  simp (decide := true) (disch := (first | exact eq_false (by decide) | exact eq_true (by decide) | decide | omega)) only [lX7_addLeaf_0, lX7_addLeaf_24, lX7_addLeaf_25, lX7_addLeaf_106, lX7_addLeaf_107, lX7_addLeaf_135, bX7_addLeaf_0, bX7_addLeaf_24, bX7_addLeaf_25, bX7_addLeaf_106, bX7_addLeaf_107, bX7_addLeaf_135, (show qX7_addLeaf.2.2.2.1 = none from rfl), am_rok_none, w_aload_n, w_bipush, w_dup, w_getfield, w_goto, w_iadd, w_iastore, w_icmp_ge, w_icmp_le, w_iconst, w_if_eq, w_iload, w_iload_n, w_istore, w_isub, w_ldc, w_puti, w_return, w_swap, sa_10, sa_11, sa_12, sa_17, sa_20, sa_21, sa_22, sa_23, sa_24, sa_25, sa_4, sa_7, sa_8, sa_9, sg_15_1, sg_15_10, sg_15_2, sg_15_5, sg_15_6, sg_15_7, sg_15_8, sg_15_9, sg_2_1, sg_2_10, sg_2_2, sg_2_5, sg_2_6, sg_2_7, sg_2_8, sg_2_9, sp_15_1, sp_2_1, cB_11, cI_0, cI_1, cI_3, cI_m1, am_lk0, am_lk1, am_ld_some, am_isI_i, am_isJ_j, am_isR_r, am_st_eq, am_rmv_nil, am_rmv_t, am_rmv_i, am_rmv_r, sf_SH, sj_SH, sf_eq, sf_nk, sf_na, sf_sf, am_args_i, am_args_r, am_args_n, Nat.reduceAdd, List.cons_append, List.nil_append, Option.toList, List.drop_succ_cons, List.drop_zero, am_RP, am_CP, am_PH, Fin.isValue, Fin.val_zero, Fin.val_one, am_f2, am_f3, true_and, and_true, true_implies, false_implies, not_false_eq_true, ne_eq, nI_clampD, nI_leT, nI_leF, nI_ltT, nI_ltF, nI_eqT, nI_eqF, nI_lt0F, nI_0leT, nI_eq0T, nI_eq0F, nI_0ltT, nI_0ltF, nI_le0T, nI_le0F, nI_m1, nI_m1', m1_m1, m1_lt, m1_le, nI_mul, nI_add, nI_sub, nI_add1, nI_dec, nI_div, nI_mod, vp_inD, sf_nkD, sf_eqD, h1]
  refine w_virtE (c_length0 g (h + 1) _) rfl rfl rfl so_str0 rfl (Nat.le_refl _) (Nat.le_refl _) ?_
  have hvi : ∀ K : Nat → Nat → Int32, K 16 = I 16 → am_Ctr g am_mt 1 (h + 2) 64 [.ref 15, .int (nI (b + 1))] (am_SH, K, J) 0 0 (fun r M => r = some (.int (nI v)) ∧ M = (am_SH, K, J)) := by
    intro K hK
    have h9 := c_X7_variableIn g (h + 1) K J (b + 1) (v + 117) (by omega) (by rw [hK]; exact hv') (by omega) (by omega)
    rw [Nat.add_sub_cancel] at h9
    exact h9
  rcases hw0 with ⟨rfl, hc⟩ | ⟨w0, w7, hc, hw3⟩
  · simp (decide := true) (disch := (first | exact eq_false (by decide) | exact eq_true (by decide) | decide | omega)) only [lX7_addLeaf_0, lX7_addLeaf_24, lX7_addLeaf_25, lX7_addLeaf_106, lX7_addLeaf_107, lX7_addLeaf_135, bX7_addLeaf_0, bX7_addLeaf_24, bX7_addLeaf_25, bX7_addLeaf_106, bX7_addLeaf_107, bX7_addLeaf_135, (show qX7_addLeaf.2.2.2.1 = none from rfl), am_rok_none, w_aload_n, w_bipush, w_dup, w_getfield, w_goto, w_iadd, w_iastore, w_icmp_ge, w_icmp_le, w_iconst, w_if_eq, w_iload, w_iload_n, w_istore, w_isub, w_ldc, w_puti, w_return, w_swap, sa_10, sa_11, sa_12, sa_17, sa_20, sa_21, sa_22, sa_23, sa_24, sa_25, sa_4, sa_7, sa_8, sa_9, sg_15_1, sg_15_10, sg_15_2, sg_15_5, sg_15_6, sg_15_7, sg_15_8, sg_15_9, sg_2_1, sg_2_10, sg_2_2, sg_2_5, sg_2_6, sg_2_7, sg_2_8, sg_2_9, sp_15_1, sp_2_1, cB_11, cI_0, cI_1, cI_3, cI_m1, am_lk0, am_lk1, am_ld_some, am_isI_i, am_isJ_j, am_isR_r, am_st_eq, am_rmv_nil, am_rmv_t, am_rmv_i, am_rmv_r, sf_SH, sj_SH, sf_eq, sf_nk, sf_na, sf_sf, am_args_i, am_args_r, am_args_n, Nat.reduceAdd, List.cons_append, List.nil_append, Option.toList, List.drop_succ_cons, List.drop_zero, am_RP, am_CP, am_PH, Fin.isValue, Fin.val_zero, Fin.val_one, am_f2, am_f3, true_and, and_true, true_implies, false_implies, not_false_eq_true, ne_eq, nI_clampD, nI_leT, nI_leF, nI_ltT, nI_ltF, nI_eqT, nI_eqF, nI_lt0F, nI_0leT, nI_eq0T, nI_eq0F, nI_0ltT, nI_0ltF, nI_le0T, nI_le0F, nI_m1, nI_m1', m1_m1, m1_lt, m1_le, nI_mul, nI_add, nI_sub, nI_add1, nI_dec, nI_div, nI_mod, vp_inD, sf_nkD, sf_eqD, h1]
    refine w_virtE (hvi _ (by rw [sf_naD (by decide), sf_naD (by decide), sf_naD (by decide), sf_naD (by decide)])) rfl rfl rfl (of_eq_true so_15) rfl (Nat.le_refl _) (Nat.le_refl _) ?_
    simp (decide := true) (disch := (first | exact eq_false (by decide) | exact eq_true (by decide) | decide | omega)) only [lX7_addLeaf_0, lX7_addLeaf_24, lX7_addLeaf_25, lX7_addLeaf_106, lX7_addLeaf_107, lX7_addLeaf_135, bX7_addLeaf_0, bX7_addLeaf_24, bX7_addLeaf_25, bX7_addLeaf_106, bX7_addLeaf_107, bX7_addLeaf_135, (show qX7_addLeaf.2.2.2.1 = none from rfl), am_rok_none, w_aload_n, w_bipush, w_dup, w_getfield, w_goto, w_iadd, w_iastore, w_icmp_ge, w_icmp_le, w_iconst, w_if_eq, w_iload, w_iload_n, w_istore, w_isub, w_ldc, w_puti, w_return, w_swap, sa_10, sa_11, sa_12, sa_17, sa_20, sa_21, sa_22, sa_23, sa_24, sa_25, sa_4, sa_7, sa_8, sa_9, sg_15_1, sg_15_10, sg_15_2, sg_15_5, sg_15_6, sg_15_7, sg_15_8, sg_15_9, sg_2_1, sg_2_10, sg_2_2, sg_2_5, sg_2_6, sg_2_7, sg_2_8, sg_2_9, sp_15_1, sp_2_1, cB_11, cI_0, cI_1, cI_3, cI_m1, am_lk0, am_lk1, am_ld_some, am_isI_i, am_isJ_j, am_isR_r, am_st_eq, am_rmv_nil, am_rmv_t, am_rmv_i, am_rmv_r, sf_SH, sj_SH, sf_eq, sf_nk, sf_na, sf_sf, am_args_i, am_args_r, am_args_n, Nat.reduceAdd, List.cons_append, List.nil_append, Option.toList, List.drop_succ_cons, List.drop_zero, am_RP, am_CP, am_PH, Fin.isValue, Fin.val_zero, Fin.val_one, am_f2, am_f3, true_and, and_true, true_implies, false_implies, not_false_eq_true, ne_eq, nI_clampD, nI_leT, nI_leF, nI_ltT, nI_ltF, nI_eqT, nI_eqF, nI_lt0F, nI_0leT, nI_eq0T, nI_eq0F, nI_0ltT, nI_0ltF, nI_le0T, nI_le0F, nI_m1, nI_m1', m1_m1, m1_lt, m1_le, nI_mul, nI_add, nI_sub, nI_add1, nI_dec, nI_div, nI_mod, vp_inD, sf_nkD, sf_eqD, h1]
    refine w_virtE (hpn) rfl rfl rfl (of_eq_true so_15) rfl (Nat.le_refl _) (Nat.le_refl _) ?_
    simp (decide := true) (disch := (first | exact eq_false (by decide) | exact eq_true (by decide) | decide | omega)) only [lX7_addLeaf_0, lX7_addLeaf_24, lX7_addLeaf_25, lX7_addLeaf_106, lX7_addLeaf_107, lX7_addLeaf_135, bX7_addLeaf_0, bX7_addLeaf_24, bX7_addLeaf_25, bX7_addLeaf_106, bX7_addLeaf_107, bX7_addLeaf_135, (show qX7_addLeaf.2.2.2.1 = none from rfl), am_rok_none, w_aload_n, w_bipush, w_dup, w_getfield, w_goto, w_iadd, w_iastore, w_icmp_ge, w_icmp_le, w_iconst, w_if_eq, w_iload, w_iload_n, w_istore, w_isub, w_ldc, w_puti, w_return, w_swap, sa_10, sa_11, sa_12, sa_17, sa_20, sa_21, sa_22, sa_23, sa_24, sa_25, sa_4, sa_7, sa_8, sa_9, sg_15_1, sg_15_10, sg_15_2, sg_15_5, sg_15_6, sg_15_7, sg_15_8, sg_15_9, sg_2_1, sg_2_10, sg_2_2, sg_2_5, sg_2_6, sg_2_7, sg_2_8, sg_2_9, sp_15_1, sp_2_1, cB_11, cI_0, cI_1, cI_3, cI_m1, am_lk0, am_lk1, am_ld_some, am_isI_i, am_isJ_j, am_isR_r, am_st_eq, am_rmv_nil, am_rmv_t, am_rmv_i, am_rmv_r, sf_SH, sj_SH, sf_eq, sf_nk, sf_na, sf_sf, am_args_i, am_args_r, am_args_n, Nat.reduceAdd, List.cons_append, List.nil_append, Option.toList, List.drop_succ_cons, List.drop_zero, am_RP, am_CP, am_PH, Fin.isValue, Fin.val_zero, Fin.val_one, am_f2, am_f3, true_and, and_true, true_implies, false_implies, not_false_eq_true, ne_eq, nI_clampD, nI_leT, nI_leF, nI_ltT, nI_ltF, nI_eqT, nI_eqF, nI_lt0F, nI_0leT, nI_eq0T, nI_eq0F, nI_0ltT, nI_0ltF, nI_le0T, nI_le0F, nI_m1, nI_m1', m1_m1, m1_lt, m1_le, nI_mul, nI_add, nI_sub, nI_add1, nI_dec, nI_div, nI_mod, vp_inD, sf_nkD, sf_eqD, h15', h1]
    exact hfin
  · have hw' := (hT.2.1 (b + 3) (by omega)).1
    rw [hw3] at hw'
    have hvj : ∀ K : Nat → Nat → Int32, K 16 = I 16 → am_Ctr g am_mt 1 (h + 2) 64 [.ref 15, .int (nI (b + 3))] (am_SH, K, J) 0 0 (fun r M => r = some (.int (wI w)) ∧ M = (am_SH, K, J)) := by
      intro K hK
      have h9 := c_X7_variableIn g (h + 1) K J (b + 3) (w + 116) (by omega) (by rw [hK]; exact hw') (by omega) (by omega)
      rw [show w + 116 - 117 = w - 1 by omega] at h9
      rw [show wI w = nI (w - 1) from if_neg (by omega)]
      exact h9
    simp (decide := true) (disch := (first | exact eq_false (by decide) | exact eq_true (by decide) | decide | omega)) only [lX7_addLeaf_0, lX7_addLeaf_24, lX7_addLeaf_25, lX7_addLeaf_106, lX7_addLeaf_107, lX7_addLeaf_135, bX7_addLeaf_0, bX7_addLeaf_24, bX7_addLeaf_25, bX7_addLeaf_106, bX7_addLeaf_107, bX7_addLeaf_135, (show qX7_addLeaf.2.2.2.1 = none from rfl), am_rok_none, w_aload_n, w_bipush, w_dup, w_getfield, w_goto, w_iadd, w_iastore, w_icmp_ge, w_icmp_le, w_iconst, w_if_eq, w_iload, w_iload_n, w_istore, w_isub, w_ldc, w_puti, w_return, w_swap, sa_10, sa_11, sa_12, sa_17, sa_20, sa_21, sa_22, sa_23, sa_24, sa_25, sa_4, sa_7, sa_8, sa_9, sg_15_1, sg_15_10, sg_15_2, sg_15_5, sg_15_6, sg_15_7, sg_15_8, sg_15_9, sg_2_1, sg_2_10, sg_2_2, sg_2_5, sg_2_6, sg_2_7, sg_2_8, sg_2_9, sp_15_1, sp_2_1, cB_11, cI_0, cI_1, cI_3, cI_m1, am_lk0, am_lk1, am_ld_some, am_isI_i, am_isJ_j, am_isR_r, am_st_eq, am_rmv_nil, am_rmv_t, am_rmv_i, am_rmv_r, sf_SH, sj_SH, sf_eq, sf_nk, sf_na, sf_sf, am_args_i, am_args_r, am_args_n, Nat.reduceAdd, List.cons_append, List.nil_append, Option.toList, List.drop_succ_cons, List.drop_zero, am_RP, am_CP, am_PH, Fin.isValue, Fin.val_zero, Fin.val_one, am_f2, am_f3, true_and, and_true, true_implies, false_implies, not_false_eq_true, ne_eq, nI_clampD, nI_leT, nI_leF, nI_ltT, nI_ltF, nI_eqT, nI_eqF, nI_lt0F, nI_0leT, nI_eq0T, nI_eq0F, nI_0ltT, nI_0ltF, nI_le0T, nI_le0F, nI_m1, nI_m1', m1_m1, m1_lt, m1_le, nI_mul, nI_add, nI_sub, nI_add1, nI_dec, nI_div, nI_mod, vp_inD, sf_nkD, sf_eqD, h1]
    refine w_virtE (hvi _ (by rw [sf_naD (by decide), sf_naD (by decide), sf_naD (by decide), sf_naD (by decide)])) rfl rfl rfl (of_eq_true so_15) rfl (Nat.le_refl _) (Nat.le_refl _) ?_
    simp (decide := true) (disch := (first | exact eq_false (by decide) | exact eq_true (by decide) | decide | omega)) only [lX7_addLeaf_0, lX7_addLeaf_24, lX7_addLeaf_25, lX7_addLeaf_106, lX7_addLeaf_107, lX7_addLeaf_135, bX7_addLeaf_0, bX7_addLeaf_24, bX7_addLeaf_25, bX7_addLeaf_106, bX7_addLeaf_107, bX7_addLeaf_135, (show qX7_addLeaf.2.2.2.1 = none from rfl), am_rok_none, w_aload_n, w_bipush, w_dup, w_getfield, w_goto, w_iadd, w_iastore, w_icmp_ge, w_icmp_le, w_iconst, w_if_eq, w_iload, w_iload_n, w_istore, w_isub, w_ldc, w_puti, w_return, w_swap, sa_10, sa_11, sa_12, sa_17, sa_20, sa_21, sa_22, sa_23, sa_24, sa_25, sa_4, sa_7, sa_8, sa_9, sg_15_1, sg_15_10, sg_15_2, sg_15_5, sg_15_6, sg_15_7, sg_15_8, sg_15_9, sg_2_1, sg_2_10, sg_2_2, sg_2_5, sg_2_6, sg_2_7, sg_2_8, sg_2_9, sp_15_1, sp_2_1, cB_11, cI_0, cI_1, cI_3, cI_m1, am_lk0, am_lk1, am_ld_some, am_isI_i, am_isJ_j, am_isR_r, am_st_eq, am_rmv_nil, am_rmv_t, am_rmv_i, am_rmv_r, sf_SH, sj_SH, sf_eq, sf_nk, sf_na, sf_sf, am_args_i, am_args_r, am_args_n, Nat.reduceAdd, List.cons_append, List.nil_append, Option.toList, List.drop_succ_cons, List.drop_zero, am_RP, am_CP, am_PH, Fin.isValue, Fin.val_zero, Fin.val_one, am_f2, am_f3, true_and, and_true, true_implies, false_implies, not_false_eq_true, ne_eq, nI_clampD, nI_leT, nI_leF, nI_ltT, nI_ltF, nI_eqT, nI_eqF, nI_lt0F, nI_0leT, nI_eq0T, nI_eq0F, nI_0ltT, nI_0ltF, nI_le0T, nI_le0F, nI_m1, nI_m1', m1_m1, m1_lt, m1_le, nI_mul, nI_add, nI_sub, nI_add1, nI_dec, nI_div, nI_mod, vp_inD, sf_nkD, sf_eqD, h1]
    refine w_virtE (hvj _ (by rw [sf_naD (by decide), sf_naD (by decide), sf_naD (by decide), sf_naD (by decide), sf_naD (by decide)])) rfl rfl rfl (of_eq_true so_15) rfl (Nat.le_refl _) (Nat.le_refl _) ?_
    simp (decide := true) (disch := (first | exact eq_false (by decide) | exact eq_true (by decide) | decide | omega)) only [lX7_addLeaf_0, lX7_addLeaf_24, lX7_addLeaf_25, lX7_addLeaf_106, lX7_addLeaf_107, lX7_addLeaf_135, bX7_addLeaf_0, bX7_addLeaf_24, bX7_addLeaf_25, bX7_addLeaf_106, bX7_addLeaf_107, bX7_addLeaf_135, (show qX7_addLeaf.2.2.2.1 = none from rfl), am_rok_none, w_aload_n, w_bipush, w_dup, w_getfield, w_goto, w_iadd, w_iastore, w_icmp_ge, w_icmp_le, w_iconst, w_if_eq, w_iload, w_iload_n, w_istore, w_isub, w_ldc, w_puti, w_return, w_swap, sa_10, sa_11, sa_12, sa_17, sa_20, sa_21, sa_22, sa_23, sa_24, sa_25, sa_4, sa_7, sa_8, sa_9, sg_15_1, sg_15_10, sg_15_2, sg_15_5, sg_15_6, sg_15_7, sg_15_8, sg_15_9, sg_2_1, sg_2_10, sg_2_2, sg_2_5, sg_2_6, sg_2_7, sg_2_8, sg_2_9, sp_15_1, sp_2_1, cB_11, cI_0, cI_1, cI_3, cI_m1, am_lk0, am_lk1, am_ld_some, am_isI_i, am_isJ_j, am_isR_r, am_st_eq, am_rmv_nil, am_rmv_t, am_rmv_i, am_rmv_r, sf_SH, sj_SH, sf_eq, sf_nk, sf_na, sf_sf, am_args_i, am_args_r, am_args_n, Nat.reduceAdd, List.cons_append, List.nil_append, Option.toList, List.drop_succ_cons, List.drop_zero, am_RP, am_CP, am_PH, Fin.isValue, Fin.val_zero, Fin.val_one, am_f2, am_f3, true_and, and_true, true_implies, false_implies, not_false_eq_true, ne_eq, nI_clampD, nI_leT, nI_leF, nI_ltT, nI_ltF, nI_eqT, nI_eqF, nI_lt0F, nI_0leT, nI_eq0T, nI_eq0F, nI_0ltT, nI_0ltF, nI_le0T, nI_le0F, nI_m1, nI_m1', m1_m1, m1_lt, m1_le, nI_mul, nI_add, nI_sub, nI_add1, nI_dec, nI_div, nI_mod, vp_inD, sf_nkD, sf_eqD, h1]
    refine w_virtE (hpn) rfl rfl rfl (of_eq_true so_15) rfl (Nat.le_refl _) (Nat.le_refl _) ?_
    simp (decide := true) (disch := (first | exact eq_false (by decide) | exact eq_true (by decide) | decide | omega)) only [lX7_addLeaf_0, lX7_addLeaf_24, lX7_addLeaf_25, lX7_addLeaf_106, lX7_addLeaf_107, lX7_addLeaf_135, bX7_addLeaf_0, bX7_addLeaf_24, bX7_addLeaf_25, bX7_addLeaf_106, bX7_addLeaf_107, bX7_addLeaf_135, (show qX7_addLeaf.2.2.2.1 = none from rfl), am_rok_none, w_aload_n, w_bipush, w_dup, w_getfield, w_goto, w_iadd, w_iastore, w_icmp_ge, w_icmp_le, w_iconst, w_if_eq, w_iload, w_iload_n, w_istore, w_isub, w_ldc, w_puti, w_return, w_swap, sa_10, sa_11, sa_12, sa_17, sa_20, sa_21, sa_22, sa_23, sa_24, sa_25, sa_4, sa_7, sa_8, sa_9, sg_15_1, sg_15_10, sg_15_2, sg_15_5, sg_15_6, sg_15_7, sg_15_8, sg_15_9, sg_2_1, sg_2_10, sg_2_2, sg_2_5, sg_2_6, sg_2_7, sg_2_8, sg_2_9, sp_15_1, sp_2_1, cB_11, cI_0, cI_1, cI_3, cI_m1, am_lk0, am_lk1, am_ld_some, am_isI_i, am_isJ_j, am_isR_r, am_st_eq, am_rmv_nil, am_rmv_t, am_rmv_i, am_rmv_r, sf_SH, sj_SH, sf_eq, sf_nk, sf_na, sf_sf, am_args_i, am_args_r, am_args_n, Nat.reduceAdd, List.cons_append, List.nil_append, Option.toList, List.drop_succ_cons, List.drop_zero, am_RP, am_CP, am_PH, Fin.isValue, Fin.val_zero, Fin.val_one, am_f2, am_f3, true_and, and_true, true_implies, false_implies, not_false_eq_true, ne_eq, nI_clampD, nI_leT, nI_leF, nI_ltT, nI_ltF, nI_eqT, nI_eqF, nI_lt0F, nI_0leT, nI_eq0T, nI_eq0F, nI_0ltT, nI_0ltF, nI_le0T, nI_le0F, nI_m1, nI_m1', m1_m1, m1_lt, m1_le, nI_mul, nI_add, nI_sub, nI_add1, nI_dec, nI_div, nI_mod, vp_inD, sf_nkD, sf_eqD, h15', h1]
    exact hfin
end AF1
