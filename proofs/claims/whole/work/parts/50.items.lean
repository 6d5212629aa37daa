/-! the class' parser: items -/
def Fr15 (I I' : Nat → Nat → Int32) : Prop := ∀ c, c < 15 ∨ 28 < c → I' c = I c
theorem Fr15.rf (I : Nat → Nat → Int32) : Fr15 I I := fun _ _ => rfl
theorem Fr15.tr {I I' I'' : Nat → Nat → Int32} (h1 : Fr15 I I') (h2 : Fr15 I' I'') : Fr15 I I'' := fun c hc => (h2 c hc).trans (h1 c hc)
theorem Fr15.st {I I' : Nat → Nat → Int32} (h1 : Fr15 I I') {a k : Nat} {v : Int32} (ha : 15 ≤ a ∧ a ≤ 28) : Fr15 I (sf I' a k v) := fun c hc => by rw [sf_naD (by omega)]; exact h1 c hc
theorem RD.fr {b : Nat} {L : Nat → Nat} {fs : List Fg} {I I' : Nat → Nat → Int32} (hD : RD b L fs I) (h : ∀ c, b ≤ c → c ≤ b + 12 → I' c = I c) : RD b L fs I' := by
  obtain ⟨d1, d2, d3, d4, d5, d6⟩ := hD
  unfold RD
  rw [h b (by omega) (by omega), h (b + 2) (by omega) (by omega), h (b + 3) (by omega) (by omega), h (b + 4) (by omega) (by omega), h (b + 5) (by omega) (by omega), h (b + 6) (by omega) (by omega), h (b + 7) (by omega) (by omega), h (b + 8) (by omega) (by omega), h (b + 9) (by omega) (by omega), h (b + 10) (by omega) (by omega), h (b + 11) (by omega) (by omega), h (b + 12) (by omega) (by omega)]
  exact ⟨d1, d2, d3, d4, d5, d6⟩
def PW (L : Nat → Nat) (t : Nat) (fs : List Fg) (q ng : Nat) : Prop := WF t fs ∧ fs.length = 2 * q + ng ∧ q ≤ 4 ∧ ng ≤ 2 ∧ (pls L fs fs.length).length ≤ q
/-- the parser in the memory -/
def PS (L : Nat → Nat) (t a : Nat) (fs : List Fg) (q ng : Nat) (I : Nat → Nat → Int32) : Prop := TX 16 L t I ∧ I 28 1 = nI t ∧ I 28 2 = nI a ∧ a ≤ t ∧ RD 15 L fs I ∧ I 28 3 = nI q ∧ I 28 4 = nI ng ∧ PW L t fs q ng
theorem WF_add {t : Nat} {fs : List Fg} {x : Fg} (h : WF t fs) (hn : fs.length < 11) (hx : kF x < 6 ∧ vF x < 6 ∧ wF x < 7 ∧ aF x ≤ bF x + 100 ∧ aF x ≤ t ∧ (kF x = 0 → aF x < bF x ∧ bF x + 3 ≤ cF x ∧ cF x ≤ t)) : WF t (fs ++ [x]) := by
  refine ⟨by simp; omega, fun f hf => ?_⟩
  rw [List.length_append, List.length_singleton] at hf
  by_cases hn : f = fs.length
  · subst hn
    rw [nF_new]; exact hx
  · rw [nF_app (by omega)]
    exact h.2 f (by omega)
theorem pls_len (L : Nat → Nat) (fs : List Fg) (x : Fg) : (pls L (fs ++ [x]) (fs ++ [x]).length).length ≤ (pls L fs fs.length).length + (if kF x = 0 then 1 else 0) := by
  rw [pls_new]
  split
  · rename_i h
    rw [if_pos h.1]
    simp
  · omega
theorem arg_ok {L : Nat → Nat} {t e c : Nat} {I : Nat → Nat → Int32} (hT : TX c L t I) (he : e ≤ t) : (arg L e).2.1 ≤ t ∧ e ≤ (arg L e).2.1 ∧ ((arg L e).1 = true → L (e + 1) = (arg L e).2.2.1 + 117 ∧ (arg L e).2.2.1 < 6 ∧ ((arg L e).2.2.2 = 0 ∧ (arg L e).2.1 = e + 3 ∨ 0 < (arg L e).2.2.2 ∧ (arg L e).2.2.2 < 7 ∧ (arg L e).2.1 = e + 5 ∧ L (e + 3) = (arg L e).2.2.2 + 116)) := by
  have P : ∀ k, 0 < L k → k < t := fun k hk => hT.pos hk
  unfold arg
  split
  · exact ⟨he, Nat.le_refl _, fun h => by cases h⟩
  · rename_i h1
    have p1 := P e (by omega)
    split
    · exact ⟨p1, by simp, fun h => by cases h⟩
    · rename_i h2
      have h2 := isv_pos (by simpa using h2 : isv (L (e + 1)) = true)
      have p2 := P (e + 1) (by omega)
      split
      · rename_i h3
        have p3 := P (e + 2) (by omega)
        split
        · exact ⟨p3, by simp, fun h => by cases h⟩
        · rename_i h4
          have h4 := isv_pos (by simpa using h4 : isv (L (e + 3)) = true)
          have p4 := P (e + 3) (by omega)
          split
          · exact ⟨p4, by simp, fun h => by cases h⟩
          · rename_i h5
            have p5 := P (e + 4) (by omega)
            refine ⟨p5, by simp, fun _ => ⟨?_, ?_, Or.inr ⟨?_, ?_, rfl, ?_⟩⟩⟩ <;> simp only <;> omega
      · rename_i h3
        split
        · exact ⟨p2, by simp, fun h => by cases h⟩
        · rename_i h4
          have p4 := P (e + 2) (by omega)
          refine ⟨p4, by simp, fun _ => ⟨?_, ?_, Or.inl ⟨rfl, rfl⟩⟩⟩ <;> simp only <;> omega
section IT1
variable (g : am_G) (h : Nat) (I : Nat → Nat → Int32) (J : Nat → Nat → Int64) {L : Nat → Nat} {t a : Nat}
theorem k_ts_t (hT : TX 16 L t I) (h1 : I 28 1 = nI t) (ha : a ≤ t) {c : Nat} (hc : 0 < c) (hc' : c < 127) (hL : L a = c) :
    am_Ctr g am_mt 1 (h + 2) 84 [.ref 28, .int (nI c)] (am_SH, sf I 28 2 (nI a), J) 0 0 (fun r M => r = some (.int (nI 1)) ∧ M = (am_SH, sf I 28 2 (nI (a + 1)), J)) := by
  have h9 := c_X8_takeSign g h (sf I 28 2 (nI a)) J (hT.fr (sf_naD (by decide))) ((sf_nk (by decide)).trans h1) (sf_eq _ _ _ _) ha c hc hc'
  rw [if_pos hL, decide_eq_true hL, sf_sf] at h9
  exact h9
theorem k_ts_f (hT : TX 16 L t I) (h1 : I 28 1 = nI t) (ha : a ≤ t) {c : Nat} (hc : 0 < c) (hc' : c < 127) (hL : L a ≠ c) :
    am_Ctr g am_mt 1 (h + 2) 84 [.ref 28, .int (nI c)] (am_SH, sf I 28 2 (nI a), J) 0 0 (fun r M => r = some (.int (nI 0)) ∧ M = (am_SH, sf I 28 2 (nI a), J)) := by
  have h9 := c_X8_takeSign g h (sf I 28 2 (nI a)) J (hT.fr (sf_naD (by decide))) ((sf_nk (by decide)).trans h1) (sf_eq _ _ _ _) ha c hc hc'
  rw [if_neg hL, decide_eq_false hL] at h9
  exact h9
theorem k_tv_t (hT : TX 16 L t I) (h1 : I 28 1 = nI t) (ha : a ≤ t) (hL : isv (L a) = true) :
    am_Ctr g am_mt 1 (h + 2) 83 [.ref 28] (am_SH, sf I 28 2 (nI a), J) 0 0 (fun r M => r = some (.int (nI 1)) ∧ M = (am_SH, sf I 28 2 (nI (a + 1)), J)) := by
  have h9 := c_X8_takeVariable g h (sf I 28 2 (nI a)) J (hT.fr (sf_naD (by decide))) ((sf_nk (by decide)).trans h1) (sf_eq _ _ _ _) ha
  rw [if_pos hL, hL, sf_sf] at h9
  exact h9
theorem k_tv_f (hT : TX 16 L t I) (h1 : I 28 1 = nI t) (ha : a ≤ t) (hL : isv (L a) = false) :
    am_Ctr g am_mt 1 (h + 2) 83 [.ref 28] (am_SH, sf I 28 2 (nI a), J) 0 0 (fun r M => r = some (.int (nI 0)) ∧ M = (am_SH, sf I 28 2 (nI a), J)) := by
  have h9 := c_X8_takeVariable g h (sf I 28 2 (nI a)) J (hT.fr (sf_naD (by decide))) ((sf_nk (by decide)).trans h1) (sf_eq _ _ _ _) ha
  rw [hL] at h9
  exact h9
end IT1
section IT2
variable (g : am_G) (h : Nat) (I : Nat → Nat → Int32) (J : Nat → Nat → Int64) {L : Nat → Nat} {t e q ng : Nat} {fs : List Fg}
def taPost (L : Nat → Nat) (t e s : Nat) (fs : List Fg) (I : Nat → Nat → Int32) (J : Nat → Nat → Int64) (r : Option Value) (M : am_M) : Prop :=
  r = some (.int (bI (arg L e).1)) ∧ ∃ I', M = (am_SH, I', J) ∧ Fr15 I I' ∧ I' 28 2 = nI (arg L e).2.1 ∧ I' 28 1 = I 28 1 ∧ I' 28 3 = I 28 3 ∧ I' 28 4 = I 28 4 ∧ I' 16 = I 16 ∧ ((arg L e).1 = true → RD 15 L (fs ++ [lfF L s e]) I')
theorem taPost_f {s p : Nat} (hx : arg L e = (false, p, 0, 0)) : taPost L t e s fs I J (some (.int (nI 0))) (am_SH, sf I 28 2 (nI p), J) := by
  unfold taPost
  rw [hx]
  exact ⟨rfl, _, rfl, (Fr15.rf I).st (by decide), sf_eq _ _ _ _, sf_nk (by decide), sf_nk (by decide), sf_nk (by decide), sf_naD (by decide), fun h => by cases h⟩
theorem taPost_t {s p v w : Nat} (hx : arg L e = (true, p, v, w)) {I' : Nat → Nat → Int32} (hD : RD 15 L (fs ++ [(0, v, w, s, e, p)]) I') (hf : ∀ a, a < 15 ∨ a = 16 ∨ 27 < a → I' a = sf I 28 2 (nI p) a) : taPost L t e s fs I J (some (.int (nI 1))) (am_SH, I', J) := by
  unfold taPost lfF
  rw [hx]
  have h28 := hf 28 (by omega)
  refine ⟨rfl, _, rfl, fun c hc => ?_, ?_, ?_, ?_, ?_, ?_, fun _ => hD⟩
  · rw [hf c (by omega), sf_naD (by omega)]
  · rw [h28, sf_eq]
  · rw [h28, sf_nk (by decide)]
  · rw [h28, sf_nk (by decide)]
  · rw [h28, sf_nk (by decide)]
  · rw [hf 16 (by omega), sf_naD (by decide)]
set_option maxRecDepth 100000 in
set_option maxHeartbeats 400000 in
theorem c_X8_takeArguments (hT : TX 16 L t I) (h1 : I 28 1 = nI t) (h2 : I 28 2 = nI e) (he : e ≤ t) (hD : RD 15 L fs I) (hW : WF t fs) (s : Nat) (hs : s < e) (hn : fs.length < 11) (hp : (pls L fs fs.length).length < 5) :
    am_Ctr g am_mt 1 (h + 4) 81 [.ref 28, .int (nI s)] (am_SH, I, J) 0 0 (taPost L t e s fs I J) := by
  have ht := hT.1
  have hp0 : ∀ {c}, 0 < L c → c < t := fun hc => hT.pos hc
  have hadd : ∀ v w p, (v < 6 ∧ L (e + 1) = v + 117 ∧ p ≤ t ∧ e + 3 ≤ p ∧ (w = 0 ∧ p = e + 3 ∨ 0 < w ∧ w < 7 ∧ p = e + 5 ∧ L (e + 3) = w + 116)) → am_Ctr g am_mt 1 (h + 3) 63 [.ref 15, .int (nI s), .int (nI e), .int (nI p)] (am_SH, sf I 28 2 (nI p), J) 0 0 (fun r M => r = none ∧ ∃ I', M = (am_SH, I', J) ∧ RD 15 L (fs ++ [(0, v, w, s, e, p)]) I' ∧ ∀ a, a < 15 ∨ a = 16 ∨ 27 < a → I' a = sf I 28 2 (nI p) a) := by
    rintro v w p ⟨c1, c2, c3, c4, c5⟩
    exact c_X7_addLeaf g h _ J (hT.fr (sf_naD (by decide))) fs v w s e p (hD.fr (fun c _ _ => sf_naD (by omega))) hW hn hp (by omega) c4 c3 c2 c1 c5
  have hself : sf I 28 2 (nI e) = I := by rw [← h2, sf_self]
  rw [← hself]
  generalize hPd : taPost L t e s fs (sf I 28 2 (nI e)) J = P
  have hPd : taPost L t e s fs I J = P := by rw [← hPd, hself]
  have P_f : ∀ {p : Nat}, arg L e = (false, p, 0, 0) → P (some (.int (nI 0))) (am_SH, sf I 28 2 (nI p), J) := fun hx => by rw [← hPd]; exact taPost_f I J hx
  have P_t : ∀ {p v w : Nat} {I' : Nat → Nat → Int32}, arg L e = (true, p, v, w) → RD 15 L (fs ++ [(0, v, w, s, e, p)]) I' → (∀ a, a < 15 ∨ a = 16 ∨ 27 < a → I' a = sf I 28 2 (nI p) a) → P (some (.int (nI 1))) (am_SH, I', J) := fun hx hD hf => by rw [← hPd]; exact taPost_t I J hx hD hf
  refine am_rule0 (q := qX8_takeArguments) (B := am_blk bX8_takeArguments) 90 rfl rfl kX8_takeArguments nX8_takeArguments (Nat.le_of_ble_eq_true rfl) ?_
  simp (decide := true) (disch := (first | exact eq_false (by decide) | exact eq_true (by decide) | decide | omega)) only [lX8_takeArguments_0, lX8_takeArguments_21, lX8_takeArguments_23, lX8_takeArguments_41, lX8_takeArguments_52, bX8_takeArguments_0, bX8_takeArguments_21, bX8_takeArguments_23, bX8_takeArguments_41, bX8_takeArguments_52, (show qX8_takeArguments.2.2.2.1 = (some .boolean) from rfl), am_rok_bool, w_aload_n, w_bipush, w_getfield, w_iconst, w_if_eq, w_if_ne, w_iload_n, w_ireturn, w_istore_n, w_swap, sg_28_0, sg_28_2, cB_40, cB_41, cB_44, cI_0, cI_1, am_lk0, am_lk1, am_ld_some, am_isI_i, am_isJ_j, am_isR_r, am_st_eq, am_rmv_nil, am_rmv_t, am_rmv_i, am_rmv_r, sf_SH, sj_SH, sf_eq, sf_nk, sf_na, sf_sf, am_args_i, am_args_r, am_args_n, Nat.reduceAdd, List.cons_append, List.nil_append, Option.toList, List.drop_succ_cons, List.drop_zero, am_RP, am_CP, am_PH, Fin.isValue, Fin.val_zero, Fin.val_one, am_f2, am_f3, true_and, and_true, true_implies, false_implies, not_false_eq_true, ne_eq, nI_clampD, nI_leT, nI_leF, nI_ltT, nI_ltF, nI_eqT, nI_eqF, nI_lt0F, nI_0leT, nI_eq0T, nI_eq0F, nI_0ltT, nI_0ltF, nI_le0T, nI_le0F, nI_m1, nI_m1', m1_m1, m1_lt, m1_le, nI_mul, nI_add, nI_sub, nI_add1, nI_dec, nI_div, nI_mod, vp_inD, sf_nkD, sf_eqD]
  by_cases l0 : L e = 40
  · have p0 := hp0 (c := e) (by omega)
    refine w_virtE (k_ts_t g (h + 1) I J hT h1 he (by decide) (by decide) l0) rfl rfl rfl (of_eq_true so_28) rfl (Nat.le_refl _) (Nat.le_refl _) ?_
    simp (decide := true) (disch := (first | exact eq_false (by decide) | exact eq_true (by decide) | decide | omega)) only [lX8_takeArguments_0, lX8_takeArguments_21, lX8_takeArguments_23, lX8_takeArguments_41, lX8_takeArguments_52, bX8_takeArguments_0, bX8_takeArguments_21, bX8_takeArguments_23, bX8_takeArguments_41, bX8_takeArguments_52, (show qX8_takeArguments.2.2.2.1 = (some .boolean) from rfl), am_rok_bool, w_aload_n, w_bipush, w_getfield, w_iconst, w_if_eq, w_if_ne, w_iload_n, w_ireturn, w_istore_n, w_swap, sg_28_0, sg_28_2, cB_40, cB_41, cB_44, cI_0, cI_1, am_lk0, am_lk1, am_ld_some, am_isI_i, am_isJ_j, am_isR_r, am_st_eq, am_rmv_nil, am_rmv_t, am_rmv_i, am_rmv_r, sf_SH, sj_SH, sf_eq, sf_nk, sf_na, sf_sf, am_args_i, am_args_r, am_args_n, Nat.reduceAdd, List.cons_append, List.nil_append, Option.toList, List.drop_succ_cons, List.drop_zero, am_RP, am_CP, am_PH, Fin.isValue, Fin.val_zero, Fin.val_one, am_f2, am_f3, true_and, and_true, true_implies, false_implies, not_false_eq_true, ne_eq, nI_clampD, nI_leT, nI_leF, nI_ltT, nI_ltF, nI_eqT, nI_eqF, nI_lt0F, nI_0leT, nI_eq0T, nI_eq0F, nI_0ltT, nI_0ltF, nI_le0T, nI_le0F, nI_m1, nI_m1', m1_m1, m1_lt, m1_le, nI_mul, nI_add, nI_sub, nI_add1, nI_dec, nI_div, nI_mod, vp_inD, sf_nkD, sf_eqD]
    cases l1 : isv (L (e + 1)) with
    | false =>
      refine w_virtE (k_tv_f g (h + 1) I J hT h1 (by omega) l1) rfl rfl rfl (of_eq_true so_28) rfl (Nat.le_refl _) (Nat.le_refl _) ?_
      simp (decide := true) (disch := (first | exact eq_false (by decide) | exact eq_true (by decide) | decide | omega)) only [lX8_takeArguments_0, lX8_takeArguments_21, lX8_takeArguments_23, lX8_takeArguments_41, lX8_takeArguments_52, bX8_takeArguments_0, bX8_takeArguments_21, bX8_takeArguments_23, bX8_takeArguments_41, bX8_takeArguments_52, (show qX8_takeArguments.2.2.2.1 = (some .boolean) from rfl), am_rok_bool, w_aload_n, w_bipush, w_getfield, w_iconst, w_if_eq, w_if_ne, w_iload_n, w_ireturn, w_istore_n, w_swap, sg_28_0, sg_28_2, cB_40, cB_41, cB_44, cI_0, cI_1, am_lk0, am_lk1, am_ld_some, am_isI_i, am_isJ_j, am_isR_r, am_st_eq, am_rmv_nil, am_rmv_t, am_rmv_i, am_rmv_r, sf_SH, sj_SH, sf_eq, sf_nk, sf_na, sf_sf, am_args_i, am_args_r, am_args_n, Nat.reduceAdd, List.cons_append, List.nil_append, Option.toList, List.drop_succ_cons, List.drop_zero, am_RP, am_CP, am_PH, Fin.isValue, Fin.val_zero, Fin.val_one, am_f2, am_f3, true_and, and_true, true_implies, false_implies, not_false_eq_true, ne_eq, nI_clampD, nI_leT, nI_leF, nI_ltT, nI_ltF, nI_eqT, nI_eqF, nI_lt0F, nI_0leT, nI_eq0T, nI_eq0F, nI_0ltT, nI_0ltF, nI_le0T, nI_le0F, nI_m1, nI_m1', m1_m1, m1_lt, m1_le, nI_mul, nI_add, nI_sub, nI_add1, nI_dec, nI_div, nI_mod, vp_inD, sf_nkD, sf_eqD, nI0_01]
      exact P_f (by unfold arg; rw [if_neg (fun h0 => h0 l0), if_pos (by rw [l1]; rfl)])
    | true =>
      have q1 := isv_pos l1
      have p1 := hp0 (c := e + 1) (by omega)
      refine w_virtE (k_tv_t g (h + 1) I J hT h1 (by omega) l1) rfl rfl rfl (of_eq_true so_28) rfl (Nat.le_refl _) (Nat.le_refl _) ?_
      simp (decide := true) (disch := (first | exact eq_false (by decide) | exact eq_true (by decide) | decide | omega)) only [lX8_takeArguments_0, lX8_takeArguments_21, lX8_takeArguments_23, lX8_takeArguments_41, lX8_takeArguments_52, bX8_takeArguments_0, bX8_takeArguments_21, bX8_takeArguments_23, bX8_takeArguments_41, bX8_takeArguments_52, (show qX8_takeArguments.2.2.2.1 = (some .boolean) from rfl), am_rok_bool, w_aload_n, w_bipush, w_getfield, w_iconst, w_if_eq, w_if_ne, w_iload_n, w_ireturn, w_istore_n, w_swap, sg_28_0, sg_28_2, cB_40, cB_41, cB_44, cI_0, cI_1, am_lk0, am_lk1, am_ld_some, am_isI_i, am_isJ_j, am_isR_r, am_st_eq, am_rmv_nil, am_rmv_t, am_rmv_i, am_rmv_r, sf_SH, sj_SH, sf_eq, sf_nk, sf_na, sf_sf, am_args_i, am_args_r, am_args_n, Nat.reduceAdd, List.cons_append, List.nil_append, Option.toList, List.drop_succ_cons, List.drop_zero, am_RP, am_CP, am_PH, Fin.isValue, Fin.val_zero, Fin.val_one, am_f2, am_f3, true_and, and_true, true_implies, false_implies, not_false_eq_true, ne_eq, nI_clampD, nI_leT, nI_leF, nI_ltT, nI_ltF, nI_eqT, nI_eqF, nI_lt0F, nI_0leT, nI_eq0T, nI_eq0F, nI_0ltT, nI_0ltF, nI_le0T, nI_le0F, nI_m1, nI_m1', m1_m1, m1_lt, m1_le, nI_mul, nI_add, nI_sub, nI_add1, nI_dec, nI_div, nI_mod, vp_inD, sf_nkD, sf_eqD]
      by_cases l2 : L (e + 2) = 44
      · have p2 := hp0 (c := e + 2) (by omega)
        refine w_virtE (k_ts_t g (h + 1) I J hT h1 (by omega) (by decide) (by decide) l2) rfl rfl rfl (of_eq_true so_28) rfl (Nat.le_refl _) (Nat.le_refl _) ?_
        simp (decide := true) (disch := (first | exact eq_false (by decide) | exact eq_true (by decide) | decide | omega)) only [lX8_takeArguments_0, lX8_takeArguments_21, lX8_takeArguments_23, lX8_takeArguments_41, lX8_takeArguments_52, bX8_takeArguments_0, bX8_takeArguments_21, bX8_takeArguments_23, bX8_takeArguments_41, bX8_takeArguments_52, (show qX8_takeArguments.2.2.2.1 = (some .boolean) from rfl), am_rok_bool, w_aload_n, w_bipush, w_getfield, w_iconst, w_if_eq, w_if_ne, w_iload_n, w_ireturn, w_istore_n, w_swap, sg_28_0, sg_28_2, cB_40, cB_41, cB_44, cI_0, cI_1, am_lk0, am_lk1, am_ld_some, am_isI_i, am_isJ_j, am_isR_r, am_st_eq, am_rmv_nil, am_rmv_t, am_rmv_i, am_rmv_r, sf_SH, sj_SH, sf_eq, sf_nk, sf_na, sf_sf, am_args_i, am_args_r, am_args_n, Nat.reduceAdd, List.cons_append, List.nil_append, Option.toList, List.drop_succ_cons, List.drop_zero, am_RP, am_CP, am_PH, Fin.isValue, Fin.val_zero, Fin.val_one, am_f2, am_f3, true_and, and_true, true_implies, false_implies, not_false_eq_true, ne_eq, nI_clampD, nI_leT, nI_leF, nI_ltT, nI_ltF, nI_eqT, nI_eqF, nI_lt0F, nI_0leT, nI_eq0T, nI_eq0F, nI_0ltT, nI_0ltF, nI_le0T, nI_le0F, nI_m1, nI_m1', m1_m1, m1_lt, m1_le, nI_mul, nI_add, nI_sub, nI_add1, nI_dec, nI_div, nI_mod, vp_inD, sf_nkD, sf_eqD]
        cases l3 : isv (L (e + 3)) with
        | false =>
          refine w_virtE (k_tv_f g (h + 1) I J hT h1 (by omega) l3) rfl rfl rfl (of_eq_true so_28) rfl (Nat.le_refl _) (Nat.le_refl _) ?_
          simp (decide := true) (disch := (first | exact eq_false (by decide) | exact eq_true (by decide) | decide | omega)) only [lX8_takeArguments_0, lX8_takeArguments_21, lX8_takeArguments_23, lX8_takeArguments_41, lX8_takeArguments_52, bX8_takeArguments_0, bX8_takeArguments_21, bX8_takeArguments_23, bX8_takeArguments_41, bX8_takeArguments_52, (show qX8_takeArguments.2.2.2.1 = (some .boolean) from rfl), am_rok_bool, w_aload_n, w_bipush, w_getfield, w_iconst, w_if_eq, w_if_ne, w_iload_n, w_ireturn, w_istore_n, w_swap, sg_28_0, sg_28_2, cB_40, cB_41, cB_44, cI_0, cI_1, am_lk0, am_lk1, am_ld_some, am_isI_i, am_isJ_j, am_isR_r, am_st_eq, am_rmv_nil, am_rmv_t, am_rmv_i, am_rmv_r, sf_SH, sj_SH, sf_eq, sf_nk, sf_na, sf_sf, am_args_i, am_args_r, am_args_n, Nat.reduceAdd, List.cons_append, List.nil_append, Option.toList, List.drop_succ_cons, List.drop_zero, am_RP, am_CP, am_PH, Fin.isValue, Fin.val_zero, Fin.val_one, am_f2, am_f3, true_and, and_true, true_implies, false_implies, not_false_eq_true, ne_eq, nI_clampD, nI_leT, nI_leF, nI_ltT, nI_ltF, nI_eqT, nI_eqF, nI_lt0F, nI_0leT, nI_eq0T, nI_eq0F, nI_0ltT, nI_0ltF, nI_le0T, nI_le0F, nI_m1, nI_m1', m1_m1, m1_lt, m1_le, nI_mul, nI_add, nI_sub, nI_add1, nI_dec, nI_div, nI_mod, vp_inD, sf_nkD, sf_eqD, nI0_01]
          exact P_f (by unfold arg; rw [if_neg (fun h0 => h0 l0), if_neg (by rw [l1]; decide), if_pos l2, if_pos (by rw [l3]; rfl)])
        | true =>
          have q3 := isv_pos l3
          have p3 := hp0 (c := e + 3) (by omega)
          refine w_virtE (k_tv_t g (h + 1) I J hT h1 (by omega) l3) rfl rfl rfl (of_eq_true so_28) rfl (Nat.le_refl _) (Nat.le_refl _) ?_
          simp (decide := true) (disch := (first | exact eq_false (by decide) | exact eq_true (by decide) | decide | omega)) only [lX8_takeArguments_0, lX8_takeArguments_21, lX8_takeArguments_23, lX8_takeArguments_41, lX8_takeArguments_52, bX8_takeArguments_0, bX8_takeArguments_21, bX8_takeArguments_23, bX8_takeArguments_41, bX8_takeArguments_52, (show qX8_takeArguments.2.2.2.1 = (some .boolean) from rfl), am_rok_bool, w_aload_n, w_bipush, w_getfield, w_iconst, w_if_eq, w_if_ne, w_iload_n, w_ireturn, w_istore_n, w_swap, sg_28_0, sg_28_2, cB_40, cB_41, cB_44, cI_0, cI_1, am_lk0, am_lk1, am_ld_some, am_isI_i, am_isJ_j, am_isR_r, am_st_eq, am_rmv_nil, am_rmv_t, am_rmv_i, am_rmv_r, sf_SH, sj_SH, sf_eq, sf_nk, sf_na, sf_sf, am_args_i, am_args_r, am_args_n, Nat.reduceAdd, List.cons_append, List.nil_append, Option.toList, List.drop_succ_cons, List.drop_zero, am_RP, am_CP, am_PH, Fin.isValue, Fin.val_zero, Fin.val_one, am_f2, am_f3, true_and, and_true, true_implies, false_implies, not_false_eq_true, ne_eq, nI_clampD, nI_leT, nI_leF, nI_ltT, nI_ltF, nI_eqT, nI_eqF, nI_lt0F, nI_0leT, nI_eq0T, nI_eq0F, nI_0ltT, nI_0ltF, nI_le0T, nI_le0F, nI_m1, nI_m1', m1_m1, m1_lt, m1_le, nI_mul, nI_add, nI_sub, nI_add1, nI_dec, nI_div, nI_mod, vp_inD, sf_nkD, sf_eqD]
          by_cases l4 : L (e + 4) = 41
          · have p4 := hp0 (c := e + 4) (by omega)
            have hx : arg L e = (true, e + 5, L (e + 1) - 117, L (e + 3) - 116) := by unfold arg; rw [if_neg (fun h0 => h0 l0), if_neg (by rw [l1]; decide), if_pos l2, if_neg (by rw [l3]; decide), if_neg (fun h0 => h0 l4)]
            refine w_virtE (k_ts_t g (h + 1) I J hT h1 (by omega) (by decide) (by decide) l4) rfl rfl rfl (of_eq_true so_28) rfl (Nat.le_refl _) (Nat.le_refl _) ?_
            simp (decide := true) (disch := (first | exact eq_false (by decide) | exact eq_true (by decide) | decide | omega)) only [lX8_takeArguments_0, lX8_takeArguments_21, lX8_takeArguments_23, lX8_takeArguments_41, lX8_takeArguments_52, bX8_takeArguments_0, bX8_takeArguments_21, bX8_takeArguments_23, bX8_takeArguments_41, bX8_takeArguments_52, (show qX8_takeArguments.2.2.2.1 = (some .boolean) from rfl), am_rok_bool, w_aload_n, w_bipush, w_getfield, w_iconst, w_if_eq, w_if_ne, w_iload_n, w_ireturn, w_istore_n, w_swap, sg_28_0, sg_28_2, cB_40, cB_41, cB_44, cI_0, cI_1, am_lk0, am_lk1, am_ld_some, am_isI_i, am_isJ_j, am_isR_r, am_st_eq, am_rmv_nil, am_rmv_t, am_rmv_i, am_rmv_r, sf_SH, sj_SH, sf_eq, sf_nk, sf_na, sf_sf, am_args_i, am_args_r, am_args_n, Nat.reduceAdd, List.cons_append, List.nil_append, Option.toList, List.drop_succ_cons, List.drop_zero, am_RP, am_CP, am_PH, Fin.isValue, Fin.val_zero, Fin.val_one, am_f2, am_f3, true_and, and_true, true_implies, false_implies, not_false_eq_true, ne_eq, nI_clampD, nI_leT, nI_leF, nI_ltT, nI_ltF, nI_eqT, nI_eqF, nI_lt0F, nI_0leT, nI_eq0T, nI_eq0F, nI_0ltT, nI_0ltF, nI_le0T, nI_le0F, nI_m1, nI_m1', m1_m1, m1_lt, m1_le, nI_mul, nI_add, nI_sub, nI_add1, nI_dec, nI_div, nI_mod, vp_inD, sf_nkD, sf_eqD]
            refine w_virtP (hadd (L (e + 1) - 117) (L (e + 3) - 116) (e + 5) ⟨by omega, by omega, by omega, by omega, Or.inr ⟨by omega, by omega, rfl, by omega⟩⟩) rfl rfl rfl (of_eq_true so_15) rfl (Nat.le_refl _) (Nat.le_refl _) ?_
            rintro R M1 ⟨rfl, I', rfl, hD', hf⟩
            simp (decide := true) (disch := (first | exact eq_false (by decide) | exact eq_true (by decide) | decide | omega)) only [lX8_takeArguments_0, lX8_takeArguments_21, lX8_takeArguments_23, lX8_takeArguments_41, lX8_takeArguments_52, bX8_takeArguments_0, bX8_takeArguments_21, bX8_takeArguments_23, bX8_takeArguments_41, bX8_takeArguments_52, (show qX8_takeArguments.2.2.2.1 = (some .boolean) from rfl), am_rok_bool, w_aload_n, w_bipush, w_getfield, w_iconst, w_if_eq, w_if_ne, w_iload_n, w_ireturn, w_istore_n, w_swap, sg_28_0, sg_28_2, cB_40, cB_41, cB_44, cI_0, cI_1, am_lk0, am_lk1, am_ld_some, am_isI_i, am_isJ_j, am_isR_r, am_st_eq, am_rmv_nil, am_rmv_t, am_rmv_i, am_rmv_r, sf_SH, sj_SH, sf_eq, sf_nk, sf_na, sf_sf, am_args_i, am_args_r, am_args_n, Nat.reduceAdd, List.cons_append, List.nil_append, Option.toList, List.drop_succ_cons, List.drop_zero, am_RP, am_CP, am_PH, Fin.isValue, Fin.val_zero, Fin.val_one, am_f2, am_f3, true_and, and_true, true_implies, false_implies, not_false_eq_true, ne_eq, nI_clampD, nI_leT, nI_leF, nI_ltT, nI_ltF, nI_eqT, nI_eqF, nI_lt0F, nI_0leT, nI_eq0T, nI_eq0F, nI_0ltT, nI_0ltF, nI_le0T, nI_le0F, nI_m1, nI_m1', m1_m1, m1_lt, m1_le, nI_mul, nI_add, nI_sub, nI_add1, nI_dec, nI_div, nI_mod, vp_inD, sf_nkD, sf_eqD, nI1_01]
            exact P_t hx hD' hf
          · refine w_virtE (k_ts_f g (h + 1) I J hT h1 (by omega) (by decide) (by decide) l4) rfl rfl rfl (of_eq_true so_28) rfl (Nat.le_refl _) (Nat.le_refl _) ?_
            simp (decide := true) (disch := (first | exact eq_false (by decide) | exact eq_true (by decide) | decide | omega)) only [lX8_takeArguments_0, lX8_takeArguments_21, lX8_takeArguments_23, lX8_takeArguments_41, lX8_takeArguments_52, bX8_takeArguments_0, bX8_takeArguments_21, bX8_takeArguments_23, bX8_takeArguments_41, bX8_takeArguments_52, (show qX8_takeArguments.2.2.2.1 = (some .boolean) from rfl), am_rok_bool, w_aload_n, w_bipush, w_getfield, w_iconst, w_if_eq, w_if_ne, w_iload_n, w_ireturn, w_istore_n, w_swap, sg_28_0, sg_28_2, cB_40, cB_41, cB_44, cI_0, cI_1, am_lk0, am_lk1, am_ld_some, am_isI_i, am_isJ_j, am_isR_r, am_st_eq, am_rmv_nil, am_rmv_t, am_rmv_i, am_rmv_r, sf_SH, sj_SH, sf_eq, sf_nk, sf_na, sf_sf, am_args_i, am_args_r, am_args_n, Nat.reduceAdd, List.cons_append, List.nil_append, Option.toList, List.drop_succ_cons, List.drop_zero, am_RP, am_CP, am_PH, Fin.isValue, Fin.val_zero, Fin.val_one, am_f2, am_f3, true_and, and_true, true_implies, false_implies, not_false_eq_true, ne_eq, nI_clampD, nI_leT, nI_leF, nI_ltT, nI_ltF, nI_eqT, nI_eqF, nI_lt0F, nI_0leT, nI_eq0T, nI_eq0F, nI_0ltT, nI_0ltF, nI_le0T, nI_le0F, nI_m1, nI_m1', m1_m1, m1_lt, m1_le, nI_mul, nI_add, nI_sub, nI_add1, nI_dec, nI_div, nI_mod, vp_inD, sf_nkD, sf_eqD, nI0_01]
            exact P_f (by unfold arg; rw [if_neg (fun h0 => h0 l0), if_neg (by rw [l1]; decide), if_pos l2, if_neg (by rw [l3]; decide), if_pos l4])
      · refine w_virtE (k_ts_f g (h + 1) I J hT h1 (by omega) (by decide) (by decide) l2) rfl rfl rfl (of_eq_true so_28) rfl (Nat.le_refl _) (Nat.le_refl _) ?_
        simp (decide := true) (disch := (first | exact eq_false (by decide) | exact eq_true (by decide) | decide | omega)) only [lX8_takeArguments_0, lX8_takeArguments_21, lX8_takeArguments_23, lX8_takeArguments_41, lX8_takeArguments_52, bX8_takeArguments_0, bX8_takeArguments_21, bX8_takeArguments_23, bX8_takeArguments_41, bX8_takeArguments_52, (show qX8_takeArguments.2.2.2.1 = (some .boolean) from rfl), am_rok_bool, w_aload_n, w_bipush, w_getfield, w_iconst, w_if_eq, w_if_ne, w_iload_n, w_ireturn, w_istore_n, w_swap, sg_28_0, sg_28_2, cB_40, cB_41, cB_44, cI_0, cI_1, am_lk0, am_lk1, am_ld_some, am_isI_i, am_isJ_j, am_isR_r, am_st_eq, am_rmv_nil, am_rmv_t, am_rmv_i, am_rmv_r, sf_SH, sj_SH, sf_eq, sf_nk, sf_na, sf_sf, am_args_i, am_args_r, am_args_n, Nat.reduceAdd, List.cons_append, List.nil_append, Option.toList, List.drop_succ_cons, List.drop_zero, am_RP, am_CP, am_PH, Fin.isValue, Fin.val_zero, Fin.val_one, am_f2, am_f3, true_and, and_true, true_implies, false_implies, not_false_eq_true, ne_eq, nI_clampD, nI_leT, nI_leF, nI_ltT, nI_ltF, nI_eqT, nI_eqF, nI_lt0F, nI_0leT, nI_eq0T, nI_eq0F, nI_0ltT, nI_0ltF, nI_le0T, nI_le0F, nI_m1, nI_m1', m1_m1, m1_lt, m1_le, nI_mul, nI_add, nI_sub, nI_add1, nI_dec, nI_div, nI_mod, vp_inD, sf_nkD, sf_eqD]
        by_cases l4 : L (e + 2) = 41
        · have p4 := hp0 (c := e + 2) (by omega)
          have hx : arg L e = (true, e + 3, L (e + 1) - 117, 0) := by unfold arg; rw [if_neg (fun h0 => h0 l0), if_neg (by rw [l1]; decide), if_neg l2, if_neg (fun h0 => h0 l4)]
          refine w_virtE (k_ts_t g (h + 1) I J hT h1 (by omega) (by decide) (by decide) l4) rfl rfl rfl (of_eq_true so_28) rfl (Nat.le_refl _) (Nat.le_refl _) ?_
          simp (decide := true) (disch := (first | exact eq_false (by decide) | exact eq_true (by decide) | decide | omega)) only [lX8_takeArguments_0, lX8_takeArguments_21, lX8_takeArguments_23, lX8_takeArguments_41, lX8_takeArguments_52, bX8_takeArguments_0, bX8_takeArguments_21, bX8_takeArguments_23, bX8_takeArguments_41, bX8_takeArguments_52, (show qX8_takeArguments.2.2.2.1 = (some .boolean) from rfl), am_rok_bool, w_aload_n, w_bipush, w_getfield, w_iconst, w_if_eq, w_if_ne, w_iload_n, w_ireturn, w_istore_n, w_swap, sg_28_0, sg_28_2, cB_40, cB_41, cB_44, cI_0, cI_1, am_lk0, am_lk1, am_ld_some, am_isI_i, am_isJ_j, am_isR_r, am_st_eq, am_rmv_nil, am_rmv_t, am_rmv_i, am_rmv_r, sf_SH, sj_SH, sf_eq, sf_nk, sf_na, sf_sf, am_args_i, am_args_r, am_args_n, Nat.reduceAdd, List.cons_append, List.nil_append, Option.toList, List.drop_succ_cons, List.drop_zero, am_RP, am_CP, am_PH, Fin.isValue, Fin.val_zero, Fin.val_one, am_f2, am_f3, true_and, and_true, true_implies, false_implies, not_false_eq_true, ne_eq, nI_clampD, nI_leT, nI_leF, nI_ltT, nI_ltF, nI_eqT, nI_eqF, nI_lt0F, nI_0leT, nI_eq0T, nI_eq0F, nI_0ltT, nI_0ltF, nI_le0T, nI_le0F, nI_m1, nI_m1', m1_m1, m1_lt, m1_le, nI_mul, nI_add, nI_sub, nI_add1, nI_dec, nI_div, nI_mod, vp_inD, sf_nkD, sf_eqD]
          refine w_virtP (hadd (L (e + 1) - 117) 0 (e + 3) ⟨by omega, by omega, by omega, by omega, Or.inl ⟨rfl, rfl⟩⟩) rfl rfl rfl (of_eq_true so_15) rfl (Nat.le_refl _) (Nat.le_refl _) ?_
          rintro R M1 ⟨rfl, I', rfl, hD', hf⟩
          simp (decide := true) (disch := (first | exact eq_false (by decide) | exact eq_true (by decide) | decide | omega)) only [lX8_takeArguments_0, lX8_takeArguments_21, lX8_takeArguments_23, lX8_takeArguments_41, lX8_takeArguments_52, bX8_takeArguments_0, bX8_takeArguments_21, bX8_takeArguments_23, bX8_takeArguments_41, bX8_takeArguments_52, (show qX8_takeArguments.2.2.2.1 = (some .boolean) from rfl), am_rok_bool, w_aload_n, w_bipush, w_getfield, w_iconst, w_if_eq, w_if_ne, w_iload_n, w_ireturn, w_istore_n, w_swap, sg_28_0, sg_28_2, cB_40, cB_41, cB_44, cI_0, cI_1, am_lk0, am_lk1, am_ld_some, am_isI_i, am_isJ_j, am_isR_r, am_st_eq, am_rmv_nil, am_rmv_t, am_rmv_i, am_rmv_r, sf_SH, sj_SH, sf_eq, sf_nk, sf_na, sf_sf, am_args_i, am_args_r, am_args_n, Nat.reduceAdd, List.cons_append, List.nil_append, Option.toList, List.drop_succ_cons, List.drop_zero, am_RP, am_CP, am_PH, Fin.isValue, Fin.val_zero, Fin.val_one, am_f2, am_f3, true_and, and_true, true_implies, false_implies, not_false_eq_true, ne_eq, nI_clampD, nI_leT, nI_leF, nI_ltT, nI_ltF, nI_eqT, nI_eqF, nI_lt0F, nI_0leT, nI_eq0T, nI_eq0F, nI_0ltT, nI_0ltF, nI_le0T, nI_le0F, nI_m1, nI_m1', m1_m1, m1_lt, m1_le, nI_mul, nI_add, nI_sub, nI_add1, nI_dec, nI_div, nI_mod, vp_inD, sf_nkD, sf_eqD, nI1_01]
          exact P_t hx hD' hf
        · refine w_virtE (k_ts_f g (h + 1) I J hT h1 (by omega) (by decide) (by decide) l4) rfl rfl rfl (of_eq_true so_28) rfl (Nat.le_refl _) (Nat.le_refl _) ?_
          simp (decide := true) (disch := (first | exact eq_false (by decide) | exact eq_true (by decide) | decide | omega)) only [lX8_takeArguments_0, lX8_takeArguments_21, lX8_takeArguments_23, lX8_takeArguments_41, lX8_takeArguments_52, bX8_takeArguments_0, bX8_takeArguments_21, bX8_takeArguments_23, bX8_takeArguments_41, bX8_takeArguments_52, (show qX8_takeArguments.2.2.2.1 = (some .boolean) from rfl), am_rok_bool, w_aload_n, w_bipush, w_getfield, w_iconst, w_if_eq, w_if_ne, w_iload_n, w_ireturn, w_istore_n, w_swap, sg_28_0, sg_28_2, cB_40, cB_41, cB_44, cI_0, cI_1, am_lk0, am_lk1, am_ld_some, am_isI_i, am_isJ_j, am_isR_r, am_st_eq, am_rmv_nil, am_rmv_t, am_rmv_i, am_rmv_r, sf_SH, sj_SH, sf_eq, sf_nk, sf_na, sf_sf, am_args_i, am_args_r, am_args_n, Nat.reduceAdd, List.cons_append, List.nil_append, Option.toList, List.drop_succ_cons, List.drop_zero, am_RP, am_CP, am_PH, Fin.isValue, Fin.val_zero, Fin.val_one, am_f2, am_f3, true_and, and_true, true_implies, false_implies, not_false_eq_true, ne_eq, nI_clampD, nI_leT, nI_leF, nI_ltT, nI_ltF, nI_eqT, nI_eqF, nI_lt0F, nI_0leT, nI_eq0T, nI_eq0F, nI_0ltT, nI_0ltF, nI_le0T, nI_le0F, nI_m1, nI_m1', m1_m1, m1_lt, m1_le, nI_mul, nI_add, nI_sub, nI_add1, nI_dec, nI_div, nI_mod, vp_inD, sf_nkD, sf_eqD, nI0_01]
          exact P_f (by unfold arg; rw [if_neg (fun h0 => h0 l0), if_neg (by rw [l1]; decide), if_neg l2, if_pos l4])
  · refine w_virtE (k_ts_f g (h + 1) I J hT h1 he (by decide) (by decide) l0) rfl rfl rfl (of_eq_true so_28) rfl (Nat.le_refl _) (Nat.le_refl _) ?_
    simp (decide := true) (disch := (first | exact eq_false (by decide) | exact eq_true (by decide) | decide | omega)) only [lX8_takeArguments_0, lX8_takeArguments_21, lX8_takeArguments_23, lX8_takeArguments_41, lX8_takeArguments_52, bX8_takeArguments_0, bX8_takeArguments_21, bX8_takeArguments_23, bX8_takeArguments_41, bX8_takeArguments_52, (show qX8_takeArguments.2.2.2.1 = (some .boolean) from rfl), am_rok_bool, w_aload_n, w_bipush, w_getfield, w_iconst, w_if_eq, w_if_ne, w_iload_n, w_ireturn, w_istore_n, w_swap, sg_28_0, sg_28_2, cB_40, cB_41, cB_44, cI_0, cI_1, am_lk0, am_lk1, am_ld_some, am_isI_i, am_isJ_j, am_isR_r, am_st_eq, am_rmv_nil, am_rmv_t, am_rmv_i, am_rmv_r, sf_SH, sj_SH, sf_eq, sf_nk, sf_na, sf_sf, am_args_i, am_args_r, am_args_n, Nat.reduceAdd, List.cons_append, List.nil_append, Option.toList, List.drop_succ_cons, List.drop_zero, am_RP, am_CP, am_PH, Fin.isValue, Fin.val_zero, Fin.val_one, am_f2, am_f3, true_and, and_true, true_implies, false_implies, not_false_eq_true, ne_eq, nI_clampD, nI_leT, nI_leF, nI_ltT, nI_ltF, nI_eqT, nI_eqF, nI_lt0F, nI_0leT, nI_eq0T, nI_eq0F, nI_0ltT, nI_0ltF, nI_le0T, nI_le0F, nI_m1, nI_m1', m1_m1, m1_lt, m1_le, nI_mul, nI_add, nI_sub, nI_add1, nI_dec, nI_div, nI_mod, vp_inD, sf_nkD, sf_eqD, nI0_01]
    exact P_f (by unfold arg; rw [if_pos l0])
end IT2
