/-! fragments: names, predicates; the draft in the memory -/
abbrev nF (fs : List Fg) (f : Nat) : Fg := fs.getD f Fz
def arF (x : Fg) : Nat := if wF x = 0 then 1 else 2
def smN (L : Nat → Nat) (x y : Fg) : Bool := decide (bF x - aF x = bF y - aF y) && (List.range (bF x - aF x)).all (fun k => decide (L (aF x + k) = L (aF y + k)))
/-- the first leaves of the predicates among the first fragments -/
def pls (L : Nat → Nat) (fs : List Fg) : Nat → List Nat
  | 0 => []
  | n + 1 => if kF (nF fs n) = 0 ∧ (pls L fs n).all (fun g => !smN L (nF fs g) (nF fs n)) = true then pls L fs n ++ [n] else pls L fs n
def prd (L : Nat → Nat) (fs : List Fg) (f : Nat) : Nat := (pls L fs f).findIdx (fun g => smN L (nF fs g) (nF fs f))
theorem nF_app {fs r : List Fg} {f : Nat} (h : f < fs.length) : nF (fs ++ r) f = nF fs f := by
  simp only [nF, List.getD_eq_getElem?_getD, List.getElem?_append_left h]
theorem nF_new (fs : List Fg) (x : Fg) : nF (fs ++ [x]) fs.length = x := by
  simp [nF, List.getD_eq_getElem?_getD]
theorem pls_lt (L : Nat → Nat) (fs : List Fg) : ∀ n g, g ∈ pls L fs n → g < n ∧ kF (nF fs g) = 0
  | 0, g, h => by cases h
  | n + 1, g, h => by
    unfold pls at h
    split at h
    · rename_i hc
      rcases List.mem_append.mp h with h | h
      · have := pls_lt L fs n g h; exact ⟨by omega, this.2⟩
      · rw [List.mem_singleton.mp h]; exact ⟨by omega, hc.1⟩
    · have := pls_lt L fs n g h; exact ⟨by omega, this.2⟩
theorem pls_app (L : Nat → Nat) (fs r : List Fg) : ∀ n, n ≤ fs.length → pls L (fs ++ r) n = pls L fs n
  | 0, _ => rfl
  | n + 1, h => by
    have ih := pls_app L fs r n (by omega)
    unfold pls
    rw [ih, nF_app (by omega)]
    have e : (pls L fs n).all (fun g => !smN L (nF (fs ++ r) g) (nF fs n)) = (pls L fs n).all (fun g => !smN L (nF fs g) (nF fs n)) := by
      rw [Bool.eq_iff_iff, List.all_eq_true, List.all_eq_true]
      constructor
      · intro h1 g hg
        have := h1 g hg
        rw [nF_app (by have := (pls_lt L fs n g hg).1; omega)] at this
        exact this
      · intro h1 g hg
        rw [nF_app (by have := (pls_lt L fs n g hg).1; omega)]
        exact h1 g hg
    rw [e]
theorem findIdx_congr' {α : Type} {p q : α → Bool} : ∀ {l : List α}, (∀ x ∈ l, p x = q x) → l.findIdx p = l.findIdx q
  | [], _ => rfl
  | a :: l, h => by
    rw [List.findIdx_cons, List.findIdx_cons, h a List.mem_cons_self, findIdx_congr' (fun x hx => h x (List.mem_cons_of_mem _ hx))]
theorem prd_app (L : Nat → Nat) (fs r : List Fg) {f : Nat} (h : f < fs.length) : prd L (fs ++ r) f = prd L fs f := by
  unfold prd
  rw [pls_app L fs r f (by omega)]
  refine findIdx_congr' (fun g hg => ?_)
  rw [nF_app h, nF_app (by have := (pls_lt L fs f g hg).1; omega)]
theorem smN_t {L : Nat → Nat} {x y : Fg} (h1 : bF x - aF x = bF y - aF y) (h2 : ∀ k, k < bF x - aF x → L (aF x + k) = L (aF y + k)) : smN L x y = true := by
  unfold smN
  rw [decide_eq_true h1, Bool.true_and, List.all_eq_true]
  intro k hk
  exact decide_eq_true (h2 k (List.mem_range.mp hk))
theorem smN_iff {L : Nat → Nat} {x y : Fg} : smN L x y = true ↔ (bF x - aF x = bF y - aF y) ∧ ∀ k, k < bF x - aF x → L (aF x + k) = L (aF y + k) := by
  constructor
  · intro h
    unfold smN at h
    rw [Bool.and_eq_true, List.all_eq_true] at h
    exact ⟨of_decide_eq_true h.1, fun k hk => of_decide_eq_true (h.2 k (List.mem_range.mpr hk))⟩
  · intro h
    exact smN_t h.1 h.2
/-- the fragments in a sentence of the class (base b: 2 or 15) -/
def RD (b : Nat) (L : Nat → Nat) (fs : List Fg) (I : Nat → Nat → Int32) : Prop :=
  I b 1 = nI fs.length ∧ I b 11 = nI (pls L fs fs.length).length ∧ (∀ f, f < fs.length → I (b + 2) f = nI (kF (nF fs f))) ∧
  (∀ f, f < fs.length → rk (kF (nF fs f)) = 2 → I (b + 3) f = nI (vF (nF fs f)) ∧ I (b + 4) f = nI (aF (nF fs f))) ∧
  (∀ f, f < fs.length → kF (nF fs f) = 0 → I (b + 5) f = nI (aF (nF fs f)) ∧ I (b + 6) f = nI (bF (nF fs f)) ∧ I (b + 7) f = nI (cF (nF fs f)) ∧ I (b + 8) f = nI (vF (nF fs f)) ∧ I (b + 9) f = wI (wF (nF fs f)) ∧ I (b + 10) f = nI (prd L fs f)) ∧
  (∀ p, p < (pls L fs fs.length).length → I (b + 11) p = nI (arF (nF fs ((pls L fs fs.length).getD p 0))) ∧ I (b + 12) p = nI ((pls L fs fs.length).getD p 0))
/-- what is sure of each fragment -/
def WF (t : Nat) (fs : List Fg) : Prop := fs.length ≤ 11 ∧ ∀ f, f < fs.length → kF (nF fs f) < 6 ∧ vF (nF fs f) < 6 ∧ wF (nF fs f) < 7 ∧ aF (nF fs f) ≤ bF (nF fs f) + 100 ∧ aF (nF fs f) ≤ t ∧ (kF (nF fs f) = 0 → aF (nF fs f) < bF (nF fs f) ∧ bF (nF fs f) + 3 ≤ cF (nF fs f) ∧ cF (nF fs f) ≤ t)
def cpI (I : Nat → Nat → Int32) (a b n : Nat) : Nat → Nat → Int32 := fun c j => if c = a ∧ j < n then I b j else I c j
section WPA
variable {E : am_Env} {df : Nat → List (Option (Option Nat))} {B : Nat → List am_I} {n pc e2 e3 : Nat} {r : List am_I} {lv : am_L} {st : List Value} {c s : Nat}
theorem w_acp {i a b k n0 n1 : Nat} {I : Nat → Nat → Int32} {J : Nat → Nat → Int64} (hE : E.2.2.2.2.2.1 = 1) (hs : Nat.ble (am_sum st) 8 = true) (h0 : am_SH[b]? = some (.inl (0, n0))) (h1 : am_SH[a]? = some (.inl (0, n1))) (hk : k ≤ n0) (hk1 : k ≤ n1) (hk2 : k < 2147483648)
    (kk : am_wp E df B n r lv st (am_SH, cpI I a b k, J) c s) : am_wp E df B (n + 1) ((pc, .invokestatic i, 901, e2, e3) :: r) lv (.int (nI k) :: .int (nI 0) :: .ref a :: .int (nI 0) :: .ref b :: st) (am_SH, I, J) c s := by
  show am_stp E df pc (.invokestatic i) 901 e2 e3 lv (.int (nI k) :: .int (nI 0) :: .ref a :: .int (nI 0) :: .ref b :: st) (am_SH, I, J) c s (am_wp E df B n r) (fun t => am_wp E df B n (B t))
  simp only [am_stp, if_true]
  refine ⟨hE, Nat.le_of_ble_eq_true hs, nI_pos (by decide), nI_pos (by decide), nI_pos hk2, ?_⟩
  rw [am_ar_h h0, am_ar_h h1]
  have e0 : (nI 0).toNatClampNeg = 0 := by decide
  rw [nI_clampD hk2, e0]
  refine ⟨by omega, by omega, ?_⟩
  have e : am_rs I a (va_cpy (I b) (I a) 0 0 k) = cpI I a b k := by
    funext c j
    unfold am_rs va_cpy cpI
    by_cases hc : c = a
    · subst hc
      by_cases hj : j < k
      · simp [hj]
      · simp [hj]
    · simp [hc]
  show am_wp E df B n r lv st (am_SH, am_rs I a (va_cpy (I b) (I a) 0 0 k), J) c s
  rw [e]
  exact kk
end WPA
section DR1
variable (g : am_G) (h : Nat) (I : Nat → Nat → Int32) (J : Nat → Nat → Int64) {L : Nat → Nat} {t : Nat}
set_option maxRecDepth 100000 in
set_option maxHeartbeats 400000 in
theorem c_X7_startOver (hT : TX 1 L t I) :
    am_Ctr g am_mt 1 (h + 1) 58 [.ref 15, .ref 1, .int (nI t)] (am_SH, I, J) 0 0 (fun r M => r = none ∧ M = (am_SH, sf (sf (cpI I 16 1 t) 15 1 (nI 0)) 15 11 (nI 0), J)) := by
  refine am_rule0 (q := qX7_startOver) (B := am_blk bX7_startOver) 30 rfl rfl kX7_startOver nX7_startOver (Nat.le_of_ble_eq_true rfl) ?_
  have ht := hT.1
  simp (decide := true) (disch := (first | exact eq_false (by decide) | exact eq_true (by decide) | decide | omega)) only [lX7_startOver_0, bX7_startOver_0, (show qX7_startOver.2.2.2.1 = none from rfl), am_rok_none, w_aload_n, w_getfield, w_iconst, w_iload_n, w_puti, w_return, sa_16, sa_3, sg_15_0, sg_2_0, sp_15_1, sp_15_11, sp_2_1, sp_2_11, cI_0, am_lk0, am_lk1, am_ld_some, am_isI_i, am_isJ_j, am_isR_r, am_st_eq, am_rmv_nil, am_rmv_t, am_rmv_i, am_rmv_r, sf_SH, sj_SH, sf_eq, sf_nk, sf_na, sf_sf, am_args_i, am_args_r, am_args_n, Nat.reduceAdd, List.cons_append, List.nil_append, Option.toList, List.drop_succ_cons, List.drop_zero, am_RP, am_CP, am_PH, Fin.isValue, Fin.val_zero, Fin.val_one, am_f2, am_f3, true_and, and_true, true_implies, false_implies, not_false_eq_true, ne_eq, nI_clampD, nI_leT, nI_leF, nI_ltT, nI_ltF, nI_eqT, nI_eqF, nI_lt0F, nI_0leT, nI_eq0T, nI_eq0F, nI_0ltT, nI_0ltF, nI_le0T, nI_le0F, nI_m1, nI_m1', m1_m1, m1_lt, m1_le, nI_mul, nI_add, nI_sub, nI_add1, nI_dec, nI_div, nI_mod, vp_inD, sf_nkD, sf_eqD]
  refine w_acp rfl rfl rfl rfl ht ht (by omega) ?_
  simp (decide := true) (disch := (first | exact eq_false (by decide) | exact eq_true (by decide) | decide | omega)) only [lX7_startOver_0, bX7_startOver_0, (show qX7_startOver.2.2.2.1 = none from rfl), am_rok_none, w_aload_n, w_getfield, w_iconst, w_iload_n, w_puti, w_return, sa_16, sa_3, sg_15_0, sg_2_0, sp_15_1, sp_15_11, sp_2_1, sp_2_11, cI_0, am_lk0, am_lk1, am_ld_some, am_isI_i, am_isJ_j, am_isR_r, am_st_eq, am_rmv_nil, am_rmv_t, am_rmv_i, am_rmv_r, sf_SH, sj_SH, sf_eq, sf_nk, sf_na, sf_sf, am_args_i, am_args_r, am_args_n, Nat.reduceAdd, List.cons_append, List.nil_append, Option.toList, List.drop_succ_cons, List.drop_zero, am_RP, am_CP, am_PH, Fin.isValue, Fin.val_zero, Fin.val_one, am_f2, am_f3, true_and, and_true, true_implies, false_implies, not_false_eq_true, ne_eq, nI_clampD, nI_leT, nI_leF, nI_ltT, nI_ltF, nI_eqT, nI_eqF, nI_lt0F, nI_0leT, nI_eq0T, nI_eq0F, nI_0ltT, nI_0ltF, nI_le0T, nI_le0F, nI_m1, nI_m1', m1_m1, m1_lt, m1_le, nI_mul, nI_add, nI_sub, nI_add1, nI_dec, nI_div, nI_mod, vp_inD, sf_nkD, sf_eqD]
set_option maxRecDepth 100000 in
set_option maxHeartbeats 400000 in
theorem c_X7_haveSameName (hT : TX 16 L t I) (f f' : Nat) (x y : Fg) (hf : f < 11) (hf' : f' < 11) (h1 : I 20 f = nI (aF x)) (h2 : I 21 f = nI (bF x)) (h3 : I 20 f' = nI (aF y)) (h4 : I 21 f' = nI (bF y)) (hx : aF x ≤ bF x ∧ bF x ≤ t) (hy : aF y ≤ bF y ∧ bF y ≤ t) :
    am_Ctr g am_mt 1 (h + 1) 66 [.ref 15, .int (nI f), .int (nI f')] (am_SH, I, J) 0 0 (fun r M => r = some (.int (bI (smN L x y))) ∧ M = (am_SH, I, J)) := by
  have ht := hT.1
  refine am_rule2 (q := qX7_haveSameName) (B := am_blk bX7_haveSameName) rfl rfl kX7_haveSameName nX7_haveSameName (Nat.le_of_ble_eq_true rfl) (fun u pc l st M k' n' => ∃ i, u = 100 - i ∧ i ≤ bF x - aF x ∧ bF x - aF x = bF y - aF y ∧ (∀ j, j < i → L (aF x + j) = L (aF y + j)) ∧ pc = 36 ∧ l = [(0, .ref 15), (1, .int (nI f)), (2, .int (nI f')), (3, .int (nI (bF x - aF x))), (4, .int (nI i))] ∧ st = [] ∧ M = (am_SH, I, J) ∧ k' = 0 ∧ n' = 0) ?_ ?_
  · rintro u pc l st M k' n' ⟨i, rfl, hi, hl, hw, rfl, rfl, rfl, rfl, rfl, rfl⟩
    refine ⟨_, 60, rfl, rfl, ?_⟩
    by_cases h5 : i = bF x - aF x
    · simp (decide := true) (disch := (first | exact eq_false (by decide) | exact eq_true (by decide) | decide | omega)) only [lX7_haveSameName_0, lX7_haveSameName_33, lX7_haveSameName_36, lX7_haveSameName_75, lX7_haveSameName_81, bX7_haveSameName_0, bX7_haveSameName_33, bX7_haveSameName_36, bX7_haveSameName_75, bX7_haveSameName_81, (show qX7_haveSameName.2.2.2.1 = (some .boolean) from rfl), am_rok_bool, w_aload_n, w_getfield, w_goto, w_iadd, w_iaload, w_icmp_eq, w_icmp_ge, w_iconst, w_iinc, w_iload, w_iload_n, w_ireturn, w_istore, w_istore_n, w_isub, w_nop, w_swap, sa_16, sa_20, sa_21, sa_3, sa_7, sa_8, sg_15_0, sg_15_5, sg_15_6, sg_2_0, sg_2_5, sg_2_6, cI_0, cI_1, am_lk0, am_lk1, am_ld_some, am_isI_i, am_isJ_j, am_isR_r, am_st_eq, am_rmv_nil, am_rmv_t, am_rmv_i, am_rmv_r, sf_SH, sj_SH, sf_eq, sf_nk, sf_na, sf_sf, am_args_i, am_args_r, am_args_n, Nat.reduceAdd, List.cons_append, List.nil_append, Option.toList, List.drop_succ_cons, List.drop_zero, am_RP, am_CP, am_PH, Fin.isValue, Fin.val_zero, Fin.val_one, am_f2, am_f3, true_and, and_true, true_implies, false_implies, not_false_eq_true, ne_eq, nI_clampD, nI_leT, nI_leF, nI_ltT, nI_ltF, nI_eqT, nI_eqF, nI_lt0F, nI_0leT, nI_eq0T, nI_eq0F, nI_0ltT, nI_0ltF, nI_le0T, nI_le0F, nI_m1, nI_m1', m1_m1, m1_lt, m1_le, nI_mul, nI_add, nI_sub, nI_add1, nI_dec, nI_div, nI_mod, vp_inD, sf_nkD, sf_eqD, nI1_01]
      rw [smN_t hl (fun k hk => hw k (by omega))]
      rfl
    · have e1 := hT.2.1 (aF x + i) (by omega)
      have e2 := hT.2.1 (aF y + i) (by omega)
      by_cases hq : L (aF x + i) = L (aF y + i)
      · simp (decide := true) (disch := (first | exact eq_false (by decide) | exact eq_true (by decide) | decide | omega)) only [lX7_haveSameName_0, lX7_haveSameName_33, lX7_haveSameName_36, lX7_haveSameName_75, lX7_haveSameName_81, bX7_haveSameName_0, bX7_haveSameName_33, bX7_haveSameName_36, bX7_haveSameName_75, bX7_haveSameName_81, (show qX7_haveSameName.2.2.2.1 = (some .boolean) from rfl), am_rok_bool, w_aload_n, w_getfield, w_goto, w_iadd, w_iaload, w_icmp_eq, w_icmp_ge, w_iconst, w_iinc, w_iload, w_iload_n, w_ireturn, w_istore, w_istore_n, w_isub, w_nop, w_swap, sa_16, sa_20, sa_21, sa_3, sa_7, sa_8, sg_15_0, sg_15_5, sg_15_6, sg_2_0, sg_2_5, sg_2_6, cI_0, cI_1, am_lk0, am_lk1, am_ld_some, am_isI_i, am_isJ_j, am_isR_r, am_st_eq, am_rmv_nil, am_rmv_t, am_rmv_i, am_rmv_r, sf_SH, sj_SH, sf_eq, sf_nk, sf_na, sf_sf, am_args_i, am_args_r, am_args_n, Nat.reduceAdd, List.cons_append, List.nil_append, Option.toList, List.drop_succ_cons, List.drop_zero, am_RP, am_CP, am_PH, Fin.isValue, Fin.val_zero, Fin.val_one, am_f2, am_f3, true_and, and_true, true_implies, false_implies, not_false_eq_true, ne_eq, nI_clampD, nI_leT, nI_leF, nI_ltT, nI_ltF, nI_eqT, nI_eqF, nI_lt0F, nI_0leT, nI_eq0T, nI_eq0F, nI_0ltT, nI_0ltF, nI_le0T, nI_le0F, nI_m1, nI_m1', m1_m1, m1_lt, m1_le, nI_mul, nI_add, nI_sub, nI_add1, nI_dec, nI_div, nI_mod, vp_inD, sf_nkD, sf_eqD, h1, h2, h3, h4, e1.1, e2.1]
        refine ⟨100 - (i + 1), _, by omega, ?_, i + 1, rfl, by omega, hl, fun j hj => ?_, rfl⟩
        · simp (decide := true) only [am_has, am_lk0, am_lk1, and_self, true_and, and_true]
        · by_cases hji : j = i
          · rw [hji]; exact hq
          · exact hw j (by omega)
      · simp (decide := true) (disch := (first | exact eq_false (by decide) | exact eq_true (by decide) | decide | omega)) only [lX7_haveSameName_0, lX7_haveSameName_33, lX7_haveSameName_36, lX7_haveSameName_75, lX7_haveSameName_81, bX7_haveSameName_0, bX7_haveSameName_33, bX7_haveSameName_36, bX7_haveSameName_75, bX7_haveSameName_81, (show qX7_haveSameName.2.2.2.1 = (some .boolean) from rfl), am_rok_bool, w_aload_n, w_getfield, w_goto, w_iadd, w_iaload, w_icmp_eq, w_icmp_ge, w_iconst, w_iinc, w_iload, w_iload_n, w_ireturn, w_istore, w_istore_n, w_isub, w_nop, w_swap, sa_16, sa_20, sa_21, sa_3, sa_7, sa_8, sg_15_0, sg_15_5, sg_15_6, sg_2_0, sg_2_5, sg_2_6, cI_0, cI_1, am_lk0, am_lk1, am_ld_some, am_isI_i, am_isJ_j, am_isR_r, am_st_eq, am_rmv_nil, am_rmv_t, am_rmv_i, am_rmv_r, sf_SH, sj_SH, sf_eq, sf_nk, sf_na, sf_sf, am_args_i, am_args_r, am_args_n, Nat.reduceAdd, List.cons_append, List.nil_append, Option.toList, List.drop_succ_cons, List.drop_zero, am_RP, am_CP, am_PH, Fin.isValue, Fin.val_zero, Fin.val_one, am_f2, am_f3, true_and, and_true, true_implies, false_implies, not_false_eq_true, ne_eq, nI_clampD, nI_leT, nI_leF, nI_ltT, nI_ltF, nI_eqT, nI_eqF, nI_lt0F, nI_0leT, nI_eq0T, nI_eq0F, nI_0ltT, nI_0ltF, nI_le0T, nI_le0F, nI_m1, nI_m1', m1_m1, m1_lt, m1_le, nI_mul, nI_add, nI_sub, nI_add1, nI_dec, nI_div, nI_mod, vp_inD, sf_nkD, sf_eqD, h1, h2, h3, h4, e1.1, e2.1, nI0_01]
        have : smN L x y = false := Bool.eq_false_iff.mpr (fun h0 => hq ((smN_iff.mp h0).2 i (by omega)))
        rw [this]
        rfl
  · refine ⟨60, ?_⟩
    by_cases hl : bF x - aF x = bF y - aF y
    · simp (decide := true) (disch := (first | exact eq_false (by decide) | exact eq_true (by decide) | decide | omega)) only [lX7_haveSameName_0, lX7_haveSameName_33, lX7_haveSameName_36, lX7_haveSameName_75, lX7_haveSameName_81, bX7_haveSameName_0, bX7_haveSameName_33, bX7_haveSameName_36, bX7_haveSameName_75, bX7_haveSameName_81, (show qX7_haveSameName.2.2.2.1 = (some .boolean) from rfl), am_rok_bool, w_aload_n, w_getfield, w_goto, w_iadd, w_iaload, w_icmp_eq, w_icmp_ge, w_iconst, w_iinc, w_iload, w_iload_n, w_ireturn, w_istore, w_istore_n, w_isub, w_nop, w_swap, sa_16, sa_20, sa_21, sa_3, sa_7, sa_8, sg_15_0, sg_15_5, sg_15_6, sg_2_0, sg_2_5, sg_2_6, cI_0, cI_1, am_lk0, am_lk1, am_ld_some, am_isI_i, am_isJ_j, am_isR_r, am_st_eq, am_rmv_nil, am_rmv_t, am_rmv_i, am_rmv_r, sf_SH, sj_SH, sf_eq, sf_nk, sf_na, sf_sf, am_args_i, am_args_r, am_args_n, Nat.reduceAdd, List.cons_append, List.nil_append, Option.toList, List.drop_succ_cons, List.drop_zero, am_RP, am_CP, am_PH, Fin.isValue, Fin.val_zero, Fin.val_one, am_f2, am_f3, true_and, and_true, true_implies, false_implies, not_false_eq_true, ne_eq, nI_clampD, nI_leT, nI_leF, nI_ltT, nI_ltF, nI_eqT, nI_eqF, nI_lt0F, nI_0leT, nI_eq0T, nI_eq0F, nI_0ltT, nI_0ltF, nI_le0T, nI_le0F, nI_m1, nI_m1', m1_m1, m1_lt, m1_le, nI_mul, nI_add, nI_sub, nI_add1, nI_dec, nI_div, nI_mod, vp_inD, sf_nkD, sf_eqD, h1, h2, h3, h4]
      refine ⟨100 - 0, _, ?_, 0, rfl, by omega, hl, fun j hj => absurd hj (Nat.not_lt_zero _), rfl⟩
      simp (decide := true) only [am_has, am_lk0, am_lk1, and_self, true_and, and_true]
    · simp (decide := true) (disch := (first | exact eq_false (by decide) | exact eq_true (by decide) | decide | omega)) only [lX7_haveSameName_0, lX7_haveSameName_33, lX7_haveSameName_36, lX7_haveSameName_75, lX7_haveSameName_81, bX7_haveSameName_0, bX7_haveSameName_33, bX7_haveSameName_36, bX7_haveSameName_75, bX7_haveSameName_81, (show qX7_haveSameName.2.2.2.1 = (some .boolean) from rfl), am_rok_bool, w_aload_n, w_getfield, w_goto, w_iadd, w_iaload, w_icmp_eq, w_icmp_ge, w_iconst, w_iinc, w_iload, w_iload_n, w_ireturn, w_istore, w_istore_n, w_isub, w_nop, w_swap, sa_16, sa_20, sa_21, sa_3, sa_7, sa_8, sg_15_0, sg_15_5, sg_15_6, sg_2_0, sg_2_5, sg_2_6, cI_0, cI_1, am_lk0, am_lk1, am_ld_some, am_isI_i, am_isJ_j, am_isR_r, am_st_eq, am_rmv_nil, am_rmv_t, am_rmv_i, am_rmv_r, sf_SH, sj_SH, sf_eq, sf_nk, sf_na, sf_sf, am_args_i, am_args_r, am_args_n, Nat.reduceAdd, List.cons_append, List.nil_append, Option.toList, List.drop_succ_cons, List.drop_zero, am_RP, am_CP, am_PH, Fin.isValue, Fin.val_zero, Fin.val_one, am_f2, am_f3, true_and, and_true, true_implies, false_implies, not_false_eq_true, ne_eq, nI_clampD, nI_leT, nI_leF, nI_ltT, nI_ltF, nI_eqT, nI_eqF, nI_lt0F, nI_0leT, nI_eq0T, nI_eq0F, nI_0ltT, nI_0ltF, nI_le0T, nI_le0F, nI_m1, nI_m1', m1_m1, m1_lt, m1_le, nI_mul, nI_add, nI_sub, nI_add1, nI_dec, nI_div, nI_mod, vp_inD, sf_nkD, sf_eqD, h1, h2, h3, h4, nI0_01]
      have : smN L x y = false := Bool.eq_false_iff.mpr (fun h0 => hl (smN_iff.mp h0).1)
      rw [this]
      rfl
end DR1
section DR2
variable (g : am_G) (h : Nat) (I : Nat → Nat → Int32) (J : Nat → Nat → Int64) {L : Nat → Nat} {t : Nat}
/-- the first match in a list, by looking at one after the other -/
theorem findIdx_at {α : Type} {p : α → Bool} {d : α} : ∀ {l : List α} {i : Nat}, i < l.length → p (l.getD i d) = true → (∀ j, j < i → p (l.getD j d) = false) → l.findIdx p = i
  | [], i, h, _, _ => by simp at h
  | a :: l, 0, _, h1, _ => by
    rw [List.findIdx_cons]
    simp only [List.getD_cons_zero] at h1
    rw [h1]; rfl
  | a :: l, i + 1, h, h1, h2 => by
    have h3 := h2 0 (by omega)
    simp only [List.getD_cons_zero] at h3
    rw [List.findIdx_cons, h3]
    simp only [List.getD_cons_succ] at h1
    rw [findIdx_at (l := l) (i := i) (d := d) (by simpa using h) h1 (fun j hj => by have := h2 (j + 1) (by omega); simpa using this)]
    rfl
theorem findIdx_none {α : Type} {p : α → Bool} {d : α} : ∀ {l : List α}, (∀ j, j < l.length → p (l.getD j d) = false) → l.findIdx p = l.length
  | [], _ => rfl
  | a :: l, h2 => by
    have h3 := h2 0 (by simp)
    simp only [List.getD_cons_zero] at h3
    rw [List.findIdx_cons, h3, findIdx_none (l := l) (d := d) (fun j hj => by have := h2 (j + 1) (by simpa using hj); simpa using this)]
    rfl
theorem getD_mem {l : List Nat} {p : Nat} (h : p < l.length) : l.getD p 0 ∈ l := by
  rw [List.getD_eq_getElem?_getD, List.getElem?_eq_getElem h]
  exact List.getElem_mem h
/-- the memory behind predicateNamedBy -/
def pnI (I : Nat → Nat → Int32) (l : List Nat) (i f : Nat) (w : Nat) : Nat → Nat → Int32 := if i < l.length then I else sf (sf (sf I 26 l.length (nI (if w = 0 then 1 else 2))) 27 l.length (nI f)) 15 11 (nI (l.length + 1))
set_option maxRecDepth 100000 in
set_option maxHeartbeats 400000 in
theorem c_X7_predicateNamedBy (hT : TX 16 L t I) (fs : List Fg) (x : Fg) (hD : RD 15 L fs I) (hw : WF t fs) (hn : fs.length < 11) (hp : (pls L fs fs.length).length < 5) (h1 : I 20 fs.length = nI (aF x)) (h2 : I 21 fs.length = nI (bF x)) (h3 : I 24 fs.length = wI (wF x)) (hx : aF x ≤ bF x ∧ bF x ≤ t) (hx6 : wF x < 7) :
    am_Ctr g am_mt 1 (h + 2) 65 [.ref 15, .int (nI fs.length)] (am_SH, I, J) 0 0 (fun r M => r = some (.int (nI ((pls L fs fs.length).findIdx (fun g => smN L (nF fs g) x)))) ∧ M = (am_SH, pnI I (pls L fs fs.length) ((pls L fs fs.length).findIdx (fun g => smN L (nF fs g) x)) fs.length (wF x), J)) := by
  have ht := hT.1
  have hnp : I 15 11 = nI (pls L fs fs.length).length := hD.2.1
  have hfl : ∀ p, p < (pls L fs fs.length).length → I 27 p = nI ((pls L fs fs.length).getD p 0) := fun p hp => (hD.2.2.2.2.2 p hp).2
  have hlt := pls_lt L fs fs.length
  generalize hpl : pls L fs fs.length = pl at *
  refine am_rule2 (q := qX7_predicateNamedBy) (B := am_blk bX7_predicateNamedBy) rfl rfl kX7_predicateNamedBy nX7_predicateNamedBy (Nat.le_of_ble_eq_true rfl) (fun u pc l st M k' n' => ∃ i, u = 5 - i ∧ i ≤ pl.length ∧ (∀ j, j < i → smN L (nF fs (pl.getD j 0)) x = false) ∧ pc = 2 ∧ l = [(0, .ref 15), (1, .int (nI fs.length)), (2, .int (nI i))] ∧ st = [] ∧ M = (am_SH, I, J) ∧ k' = 0 ∧ n' = 0) ?_ ?_
  · rintro u pc l st M k' n' ⟨i, rfl, hi, hs, rfl, rfl, rfl, rfl, rfl, rfl⟩
    refine ⟨_, 60, rfl, rfl, ?_⟩
    by_cases h5 : i = pl.length
    · rw [findIdx_none (d := 0) (fun j hj => hs j (by omega))]
      have e : pnI I pl pl.length fs.length (wF x) = sf (sf (sf I 26 pl.length (nI (if wF x = 0 then 1 else 2))) 27 pl.length (nI fs.length)) 15 11 (nI (pl.length + 1)) := by
        unfold pnI
        rw [if_neg (Nat.lt_irrefl _)]
      rw [e]
      simp (decide := true) (disch := (first | exact eq_false (by decide) | exact eq_true (by decide) | decide | omega)) only [lX7_predicateNamedBy_0, lX7_predicateNamedBy_2, lX7_predicateNamedBy_26, lX7_predicateNamedBy_32, lX7_predicateNamedBy_74, bX7_predicateNamedBy_0, bX7_predicateNamedBy_2, bX7_predicateNamedBy_26, bX7_predicateNamedBy_32, bX7_predicateNamedBy_74, (show qX7_predicateNamedBy.2.2.2.1 = (some .int) from rfl), am_rok_int, w_aload_n, w_dup, w_getfield, w_goto, w_iadd, w_iaload, w_iastore, w_icmp_ge, w_iconst, w_if_eq, w_iinc, w_iload_n, w_ireturn, w_istore_n, w_isub, w_nop, w_puti, w_swap, sa_13, sa_14, sa_26, sa_27, sg_15_11, sg_15_12, sg_15_13, sg_2_11, sg_2_12, sg_2_13, sp_15_11, sp_2_11, cI_0, cI_1, cI_5, am_lk0, am_lk1, am_ld_some, am_isI_i, am_isJ_j, am_isR_r, am_st_eq, am_rmv_nil, am_rmv_t, am_rmv_i, am_rmv_r, sf_SH, sj_SH, sf_eq, sf_nk, sf_na, sf_sf, am_args_i, am_args_r, am_args_n, Nat.reduceAdd, List.cons_append, List.nil_append, Option.toList, List.drop_succ_cons, List.drop_zero, am_RP, am_CP, am_PH, Fin.isValue, Fin.val_zero, Fin.val_one, am_f2, am_f3, true_and, and_true, true_implies, false_implies, not_false_eq_true, ne_eq, nI_clampD, nI_leT, nI_leF, nI_ltT, nI_ltF, nI_eqT, nI_eqF, nI_lt0F, nI_0leT, nI_eq0T, nI_eq0F, nI_0ltT, nI_0ltF, nI_le0T, nI_le0F, nI_m1, nI_m1', m1_m1, m1_lt, m1_le, nI_mul, nI_add, nI_sub, nI_add1, nI_dec, nI_div, nI_mod, vp_inD, sf_nkD, sf_eqD, hnp]
      refine w_virtE (c_X7_argumentsOf g h I J fs.length (wF x) hn h3 hx6) rfl rfl rfl (of_eq_true so_15) rfl (Nat.le_refl _) (Nat.le_refl _) ?_
      simp (decide := true) (disch := (first | exact eq_false (by decide) | exact eq_true (by decide) | decide | omega)) only [lX7_predicateNamedBy_0, lX7_predicateNamedBy_2, lX7_predicateNamedBy_26, lX7_predicateNamedBy_32, lX7_predicateNamedBy_74, bX7_predicateNamedBy_0, bX7_predicateNamedBy_2, bX7_predicateNamedBy_26, bX7_predicateNamedBy_32, bX7_predicateNamedBy_74, (show qX7_predicateNamedBy.2.2.2.1 = (some .int) from rfl), am_rok_int, w_aload_n, w_dup, w_getfield, w_goto, w_iadd, w_iaload, w_iastore, w_icmp_ge, w_iconst, w_if_eq, w_iinc, w_iload_n, w_ireturn, w_istore_n, w_isub, w_nop, w_puti, w_swap, sa_13, sa_14, sa_26, sa_27, sg_15_11, sg_15_12, sg_15_13, sg_2_11, sg_2_12, sg_2_13, sp_15_11, sp_2_11, cI_0, cI_1, cI_5, am_lk0, am_lk1, am_ld_some, am_isI_i, am_isJ_j, am_isR_r, am_st_eq, am_rmv_nil, am_rmv_t, am_rmv_i, am_rmv_r, sf_SH, sj_SH, sf_eq, sf_nk, sf_na, sf_sf, am_args_i, am_args_r, am_args_n, Nat.reduceAdd, List.cons_append, List.nil_append, Option.toList, List.drop_succ_cons, List.drop_zero, am_RP, am_CP, am_PH, Fin.isValue, Fin.val_zero, Fin.val_one, am_f2, am_f3, true_and, and_true, true_implies, false_implies, not_false_eq_true, ne_eq, nI_clampD, nI_leT, nI_leF, nI_ltT, nI_ltF, nI_eqT, nI_eqF, nI_lt0F, nI_0leT, nI_eq0T, nI_eq0F, nI_0ltT, nI_0ltF, nI_le0T, nI_le0F, nI_m1, nI_m1', m1_m1, m1_lt, m1_le, nI_mul, nI_add, nI_sub, nI_add1, nI_dec, nI_div, nI_mod, vp_inD, sf_nkD, sf_eqD, hnp, Nat.add_sub_cancel]
    · have hi' : i < pl.length := by omega
      have hm := hlt _ (getD_mem hi')
      have hf := hD.2.2.2.2.1 _ hm.1 hm.2
      have hw' := hw.2 _ hm.1
      simp (decide := true) (disch := (first | exact eq_false (by decide) | exact eq_true (by decide) | decide | omega)) only [lX7_predicateNamedBy_0, lX7_predicateNamedBy_2, lX7_predicateNamedBy_26, lX7_predicateNamedBy_32, lX7_predicateNamedBy_74, bX7_predicateNamedBy_0, bX7_predicateNamedBy_2, bX7_predicateNamedBy_26, bX7_predicateNamedBy_32, bX7_predicateNamedBy_74, (show qX7_predicateNamedBy.2.2.2.1 = (some .int) from rfl), am_rok_int, w_aload_n, w_dup, w_getfield, w_goto, w_iadd, w_iaload, w_iastore, w_icmp_ge, w_iconst, w_if_eq, w_iinc, w_iload_n, w_ireturn, w_istore_n, w_isub, w_nop, w_puti, w_swap, sa_13, sa_14, sa_26, sa_27, sg_15_11, sg_15_12, sg_15_13, sg_2_11, sg_2_12, sg_2_13, sp_15_11, sp_2_11, cI_0, cI_1, cI_5, am_lk0, am_lk1, am_ld_some, am_isI_i, am_isJ_j, am_isR_r, am_st_eq, am_rmv_nil, am_rmv_t, am_rmv_i, am_rmv_r, sf_SH, sj_SH, sf_eq, sf_nk, sf_na, sf_sf, am_args_i, am_args_r, am_args_n, Nat.reduceAdd, List.cons_append, List.nil_append, Option.toList, List.drop_succ_cons, List.drop_zero, am_RP, am_CP, am_PH, Fin.isValue, Fin.val_zero, Fin.val_one, am_f2, am_f3, true_and, and_true, true_implies, false_implies, not_false_eq_true, ne_eq, nI_clampD, nI_leT, nI_leF, nI_ltT, nI_ltF, nI_eqT, nI_eqF, nI_lt0F, nI_0leT, nI_eq0T, nI_eq0F, nI_0ltT, nI_0ltF, nI_le0T, nI_le0F, nI_m1, nI_m1', m1_m1, m1_lt, m1_le, nI_mul, nI_add, nI_sub, nI_add1, nI_dec, nI_div, nI_mod, vp_inD, sf_nkD, sf_eqD, hnp, hfl i hi']
      refine w_virtE (c_X7_haveSameName g h I J hT (pl.getD i 0) fs.length (nF fs (pl.getD i 0)) x (by have := hw.1; omega) hn hf.1 hf.2.1 h1 h2 (by have := hw'.2.2.2.2.2 hm.2; omega) hx) rfl rfl rfl (of_eq_true so_15) rfl (Nat.le_refl _) (Nat.le_refl _) ?_
      cases hq : smN L (nF fs (pl.getD i 0)) x with
      | true =>
        rw [findIdx_at (d := 0) hi' hq (fun j hj => hs j hj)]
        have e : pnI I pl i fs.length (wF x) = I := if_pos hi'
        rw [e]
        simp (decide := true) (disch := (first | exact eq_false (by decide) | exact eq_true (by decide) | decide | omega)) only [lX7_predicateNamedBy_0, lX7_predicateNamedBy_2, lX7_predicateNamedBy_26, lX7_predicateNamedBy_32, lX7_predicateNamedBy_74, bX7_predicateNamedBy_0, bX7_predicateNamedBy_2, bX7_predicateNamedBy_26, bX7_predicateNamedBy_32, bX7_predicateNamedBy_74, (show qX7_predicateNamedBy.2.2.2.1 = (some .int) from rfl), am_rok_int, w_aload_n, w_dup, w_getfield, w_goto, w_iadd, w_iaload, w_iastore, w_icmp_ge, w_iconst, w_if_eq, w_iinc, w_iload_n, w_ireturn, w_istore_n, w_isub, w_nop, w_puti, w_swap, sa_13, sa_14, sa_26, sa_27, sg_15_11, sg_15_12, sg_15_13, sg_2_11, sg_2_12, sg_2_13, sp_15_11, sp_2_11, cI_0, cI_1, cI_5, am_lk0, am_lk1, am_ld_some, am_isI_i, am_isJ_j, am_isR_r, am_st_eq, am_rmv_nil, am_rmv_t, am_rmv_i, am_rmv_r, sf_SH, sj_SH, sf_eq, sf_nk, sf_na, sf_sf, am_args_i, am_args_r, am_args_n, Nat.reduceAdd, List.cons_append, List.nil_append, Option.toList, List.drop_succ_cons, List.drop_zero, am_RP, am_CP, am_PH, Fin.isValue, Fin.val_zero, Fin.val_one, am_f2, am_f3, true_and, and_true, true_implies, false_implies, not_false_eq_true, ne_eq, nI_clampD, nI_leT, nI_leF, nI_ltT, nI_ltF, nI_eqT, nI_eqF, nI_lt0F, nI_0leT, nI_eq0T, nI_eq0F, nI_0ltT, nI_0ltF, nI_le0T, nI_le0F, nI_m1, nI_m1', m1_m1, m1_lt, m1_le, nI_mul, nI_add, nI_sub, nI_add1, nI_dec, nI_div, nI_mod, vp_inD, sf_nkD, sf_eqD, bI_t]
      | false =>
        simp (decide := true) (disch := (first | exact eq_false (by decide) | exact eq_true (by decide) | decide | omega)) only [lX7_predicateNamedBy_0, lX7_predicateNamedBy_2, lX7_predicateNamedBy_26, lX7_predicateNamedBy_32, lX7_predicateNamedBy_74, bX7_predicateNamedBy_0, bX7_predicateNamedBy_2, bX7_predicateNamedBy_26, bX7_predicateNamedBy_32, bX7_predicateNamedBy_74, (show qX7_predicateNamedBy.2.2.2.1 = (some .int) from rfl), am_rok_int, w_aload_n, w_dup, w_getfield, w_goto, w_iadd, w_iaload, w_iastore, w_icmp_ge, w_iconst, w_if_eq, w_iinc, w_iload_n, w_ireturn, w_istore_n, w_isub, w_nop, w_puti, w_swap, sa_13, sa_14, sa_26, sa_27, sg_15_11, sg_15_12, sg_15_13, sg_2_11, sg_2_12, sg_2_13, sp_15_11, sp_2_11, cI_0, cI_1, cI_5, am_lk0, am_lk1, am_ld_some, am_isI_i, am_isJ_j, am_isR_r, am_st_eq, am_rmv_nil, am_rmv_t, am_rmv_i, am_rmv_r, sf_SH, sj_SH, sf_eq, sf_nk, sf_na, sf_sf, am_args_i, am_args_r, am_args_n, Nat.reduceAdd, List.cons_append, List.nil_append, Option.toList, List.drop_succ_cons, List.drop_zero, am_RP, am_CP, am_PH, Fin.isValue, Fin.val_zero, Fin.val_one, am_f2, am_f3, true_and, and_true, true_implies, false_implies, not_false_eq_true, ne_eq, nI_clampD, nI_leT, nI_leF, nI_ltT, nI_ltF, nI_eqT, nI_eqF, nI_lt0F, nI_0leT, nI_eq0T, nI_eq0F, nI_0ltT, nI_0ltF, nI_le0T, nI_le0F, nI_m1, nI_m1', m1_m1, m1_lt, m1_le, nI_mul, nI_add, nI_sub, nI_add1, nI_dec, nI_div, nI_mod, vp_inD, sf_nkD, sf_eqD, bI_f]
        refine ⟨5 - (i + 1), _, by omega, ?_, i + 1, rfl, by omega, fun j hj => ?_, rfl⟩
        · simp (decide := true) only [am_has, am_lk0, am_lk1, and_self, true_and, and_true]
        · by_cases hji : j = i
          · rw [hji]; exact hq
          · exact hs j (by omega)
  · refine ⟨60, ?_⟩
    simp (decide := true) (disch := (first | exact eq_false (by decide) | exact eq_true (by decide) | decide | omega)) only [lX7_predicateNamedBy_0, lX7_predicateNamedBy_2, lX7_predicateNamedBy_26, lX7_predicateNamedBy_32, lX7_predicateNamedBy_74, bX7_predicateNamedBy_0, bX7_predicateNamedBy_2, bX7_predicateNamedBy_26, bX7_predicateNamedBy_32, bX7_predicateNamedBy_74, (show qX7_predicateNamedBy.2.2.2.1 = (some .int) from rfl), am_rok_int, w_aload_n, w_dup, w_getfield, w_goto, w_iadd, w_iaload, w_iastore, w_icmp_ge, w_iconst, w_if_eq, w_iinc, w_iload_n, w_ireturn, w_istore_n, w_isub, w_nop, w_puti, w_swap, sa_13, sa_14, sa_26, sa_27, sg_15_11, sg_15_12, sg_15_13, sg_2_11, sg_2_12, sg_2_13, sp_15_11, sp_2_11, cI_0, cI_1, cI_5, am_lk0, am_lk1, am_ld_some, am_isI_i, am_isJ_j, am_isR_r, am_st_eq, am_rmv_nil, am_rmv_t, am_rmv_i, am_rmv_r, sf_SH, sj_SH, sf_eq, sf_nk, sf_na, sf_sf, am_args_i, am_args_r, am_args_n, Nat.reduceAdd, List.cons_append, List.nil_append, Option.toList, List.drop_succ_cons, List.drop_zero, am_RP, am_CP, am_PH, Fin.isValue, Fin.val_zero, Fin.val_one, am_f2, am_f3, true_and, and_true, true_implies, false_implies, not_false_eq_true, ne_eq, nI_clampD, nI_leT, nI_leF, nI_ltT, nI_ltF, nI_eqT, nI_eqF, nI_lt0F, nI_0leT, nI_eq0T, nI_eq0F, nI_0ltT, nI_0ltF, nI_le0T, nI_le0F, nI_m1, nI_m1', m1_m1, m1_lt, m1_le, nI_mul, nI_add, nI_sub, nI_add1, nI_dec, nI_div, nI_mod, vp_inD, sf_nkD, sf_eqD]
    refine ⟨5 - 0, _, ?_, 0, rfl, by omega, fun j hj => absurd hj (Nat.not_lt_zero _), rfl⟩
    simp (decide := true) only [am_has, am_lk0, am_lk1, and_self, true_and, and_true]
end DR2
