/-! what steps lead to; the class' spreading -/
def CLo (cnt : Nat) (R : Nat → Nat → Prop) (i j : Nat) : Prop := ∀ X : Nat → Prop, X i → (∀ a b, a < cnt → b < cnt → X a → R a b → X b) → X j
theorem CLo.rf (cnt : Nat) (R : Nat → Nat → Prop) (i : Nat) : CLo cnt R i i := fun _ h _ => h
theorem CLo.st {cnt : Nat} {R : Nat → Nat → Prop} {i a b : Nat} (h : CLo cnt R i a) (ha : a < cnt) (hb : b < cnt) (hR : R a b) : CLo cnt R i b := fun X hX hc => hc a b ha hb (h X hX hc) hR
theorem CLo.tr {cnt : Nat} {R : Nat → Nat → Prop} {i a b : Nat} (h : CLo cnt R i a) (h2 : CLo cnt R a b) : CLo cnt R i b := fun X hX hc => h2 X (h X hX hc) hc
theorem CLo.rv {cnt : Nat} {R R' : Nat → Nat → Prop} (hr : ∀ a b, a < cnt → b < cnt → R' a b → R b a) {i j : Nat} (h : CLo cnt R' i j) : CLo cnt R j i := h (fun x => CLo cnt R x i) (CLo.rf _ _ _) (fun a b ha hb hX hR => ((CLo.rf cnt R b).st hb ha (hr a b ha hb hR)).tr hX)
theorem CLo.cg {cnt : Nat} {R R' : Nat → Nat → Prop} (hr : ∀ a b, a < cnt → b < cnt → R a b → R' a b) {i j : Nat} (h : CLo cnt R i j) : CLo cnt R' i j := fun X hX hc => h X hX (fun a b ha hb hXa hR => hc a b ha hb hXa (hr a b ha hb hR))
theorem nodup_len : ∀ (k : Nat) (l : List Nat), l.Nodup → (∀ f ∈ l, f < k) → l.length ≤ k := by
  intro k
  induction k with
  | zero => intro l _ hb; cases l with
    | nil => exact Nat.le_refl _
    | cons a r => exact absurd (hb a List.mem_cons_self) (Nat.not_lt_zero _)
  | succ k ih =>
    intro l hn hb
    by_cases hk : k ∈ l
    · have h1 := ih (l.erase k) (hn.erase k) (fun f hf => by
        have h2 := (List.Nodup.mem_erase_iff hn).mp hf
        have h3 := hb f h2.2
        have h4 := h2.1
        omega)
      rw [List.length_erase_of_mem hk] at h1
      omega
    · have h1 := ih l hn (fun f hf => by
        have h3 := hb f hf
        have h4 : f ≠ k := fun h9 => hk (h9 ▸ hf)
        omega)
      omega
section SD1
variable (g : am_G) (h : Nat) (I : Nat → Nat → Int32) (J : Nat → Nat → Int64)
set_option maxRecDepth 100000 in
set_option maxHeartbeats 8000000 in
theorem c_X3_spread_47 (cnt s i : Nat) (R : Nat → Nat → Prop) (hc : cnt ≤ 720) (hi : i < cnt) (hrow : ∀ x, x < cnt → RowT 47 (3 * x) 3 cnt (R x) I) (hs : I 46 11 = nI s) (hs2 : s < 2147483648) (hm : ∀ x, x < 720 → ∃ m, m < s ∧ I 51 x = nI m) :
    am_Ctr g am_mt 1 (h + 1) 32 [.ref 46, .int (nI i), .ref 47, .ref 51] (am_SH, I, J) 0 0 (fun r' M => ∃ (Q : List Nat) (I' : Nat → Nat → Int32), r' = some (.int (nI Q.length)) ∧ M = (am_SH, I', J) ∧ (∀ c, c ≠ 53 → c ≠ 51 → I' c = I c) ∧ Q.Nodup ∧ (∀ x ∈ Q, x < cnt) ∧ (∀ k, k < Q.length → I' 53 k = nI (Q.getD k 0)) ∧ (∀ x, x < 720 → (x ∈ Q → I' 51 x = nI s) ∧ (x ∉ Q → I' 51 x = I 51 x)) ∧ ∀ y, y < cnt → (y ∈ Q ↔ CLo cnt R i y)) := by
  have hadd : ∀ {Q : List Nat} {y : Nat}, Q.Nodup → y ∉ Q → (Q ++ [y]).Nodup := fun {Q y} h1 h2 => by
    rw [List.nodup_append]
    exact ⟨h1, by simp, fun a ha b hb => by rw [List.mem_singleton.mp hb]; exact fun h9 => h2 (h9 ▸ ha)⟩
  obtain ⟨JJ, hJJ⟩ : ∃ JJ : Nat → am_Cut, JJ = (fun zu zpc zl zst zM zk zn => (∃ (Q : List Nat) (hd : Nat) (I1 : Nat → Nat → Int32), zu = 10 * (cnt - hd) ∧ (Q.Nodup ∧ (∀ x ∈ Q, x < cnt) ∧ hd ≤ Q.length ∧ i ∈ Q) ∧ (∀ c, c ≠ 53 → c ≠ 51 → I1 c = I c) ∧ (∀ k, k < Q.length → I1 53 k = nI (Q.getD k 0)) ∧ (∀ x, x < 720 → (x ∈ Q → I1 51 x = nI s) ∧ (x ∉ Q → I1 51 x = I 51 x)) ∧ (∀ x ∈ Q, CLo cnt R i x) ∧ (∀ k, k < hd → ∀ y, y < cnt → R (Q.getD k 0) y → y ∈ Q) ∧ zpc = 20 ∧ zl = [(0, .ref 46), (1, .int (nI i)), (2, .ref 47), (3, .ref 51), (4, .int (nI Q.length)), (5, .int (nI hd))] ∧ zst = [] ∧ zM = (am_SH, I1, J) ∧ zk = 0 ∧ zn = 0) ∨ (∃ (Q : List Nat) (hd kk : Nat) (I1 : Nat → Nat → Int32), zu = 10 * (cnt - hd - 1) + 1 + (3 - kk) ∧ (Q.Nodup ∧ (∀ x ∈ Q, x < cnt) ∧ hd < Q.length ∧ i ∈ Q ∧ kk ≤ 3) ∧ (∀ c, c ≠ 53 → c ≠ 51 → I1 c = I c) ∧ (∀ k, k < Q.length → I1 53 k = nI (Q.getD k 0)) ∧ (∀ x, x < 720 → (x ∈ Q → I1 51 x = nI s) ∧ (x ∉ Q → I1 51 x = I 51 x)) ∧ (∀ x ∈ Q, CLo cnt R i x) ∧ (∀ k, k < hd → ∀ y, y < cnt → R (Q.getD k 0) y → y ∈ Q) ∧ (∀ k, k < kk → ∀ y, y < cnt → I 47 (3 * Q.getD hd 0 + k) = nI y → y ∈ Q) ∧ zpc = 38 ∧ zl = [(0, .ref 46), (1, .int (nI i)), (2, .ref 47), (3, .ref 51), (4, .int (nI Q.length)), (5, .int (nI hd)), (6, .int (nI kk))] ∧ zst = [] ∧ zM = (am_SH, I1, J) ∧ zk = 0 ∧ zn = 0)) := ⟨_, rfl⟩
  have mk1 : ∀ (Q : List Nat) (hd : Nat) (I1 : Nat → Nat → Int32), (Q.Nodup ∧ (∀ x ∈ Q, x < cnt) ∧ hd ≤ Q.length ∧ i ∈ Q) → (∀ c, c ≠ 53 → c ≠ 51 → I1 c = I c) → (∀ k, k < Q.length → I1 53 k = nI (Q.getD k 0)) → (∀ x, x < 720 → (x ∈ Q → I1 51 x = nI s) ∧ (x ∉ Q → I1 51 x = I 51 x)) → (∀ x ∈ Q, CLo cnt R i x) → (∀ k, k < hd → ∀ y, y < cnt → R (Q.getD k 0) y → y ∈ Q) → JJ (10 * (cnt - hd)) 20 [(0, .ref 46), (1, .int (nI i)), (2, .ref 47), (3, .ref 51), (4, .int (nI Q.length)), (5, .int (nI hd))] [] (am_SH, I1, J) 0 0 := by
    intro Q hd I1 a0 a1 a2 a3 a4 a5
    rw [hJJ]
    exact Or.inl ⟨Q, hd, I1, rfl, a0, a1, a2, a3, a4, a5, rfl, rfl, rfl, rfl, rfl, rfl⟩
  have mk2 : ∀ (Q : List Nat) (hd kk : Nat) (I1 : Nat → Nat → Int32), (Q.Nodup ∧ (∀ x ∈ Q, x < cnt) ∧ hd < Q.length ∧ i ∈ Q ∧ kk ≤ 3) → (∀ c, c ≠ 53 → c ≠ 51 → I1 c = I c) → (∀ k, k < Q.length → I1 53 k = nI (Q.getD k 0)) → (∀ x, x < 720 → (x ∈ Q → I1 51 x = nI s) ∧ (x ∉ Q → I1 51 x = I 51 x)) → (∀ x ∈ Q, CLo cnt R i x) → (∀ k, k < hd → ∀ y, y < cnt → R (Q.getD k 0) y → y ∈ Q) → (∀ k, k < kk → ∀ y, y < cnt → I 47 (3 * Q.getD hd 0 + k) = nI y → y ∈ Q) → JJ (10 * (cnt - hd - 1) + 1 + (3 - kk)) 38 [(0, .ref 46), (1, .int (nI i)), (2, .ref 47), (3, .ref 51), (4, .int (nI Q.length)), (5, .int (nI hd)), (6, .int (nI kk))] [] (am_SH, I1, J) 0 0 := by
    intro Q hd kk I1 a0 a1 a2 a3 a4 a5 a6
    rw [hJJ]
    exact Or.inr (⟨Q, hd, kk, I1, rfl, a0, a1, a2, a3, a4, a5, a6, rfl, rfl, rfl, rfl, rfl, rfl⟩)
  refine am_rule2 (q := qX3_spread) (B := am_blk bX3_spread) rfl rfl kX3_spread nX3_spread (Nat.le_of_ble_eq_true rfl) JJ (fun zu zpc zl zst zM zk zn hj => ?_) ?_
  rotate_left
  · refine ⟨60, ?_⟩
    have ks : ∀ v, sf I 53 0 v 46 11 = nI s := fun v => by rw [sf_naD (by decide)]; exact hs
    simp (decide := true) (disch := (first | exact eq_false (by decide) | exact eq_true (by decide) | decide | omega)) only [lX3_spread_0, lX3_spread_20, lX3_spread_38, lX3_spread_105, lX3_spread_111, lX3_spread_117, bX3_spread_0, bX3_spread_20, bX3_spread_38, bX3_spread_105, bX3_spread_111, bX3_spread_117, (show qX3_spread.2.2.2.1 = (some .int) from rfl), am_rok_int, w_aload_n, w_getfield, w_goto, w_iadd, w_iaload, w_iastore, w_icmp_eq, w_icmp_ge, w_iconst, w_iinc, w_iload, w_iload_n, w_imul, w_ireturn, w_istore, w_nop, w_sipush, w_swap, sa_53, sg_46_10, sg_46_11, cI_0, cI_1, cI_3, cI_m1, cS_720, am_lk0, am_lk1, am_ld_some, am_isI_i, am_isJ_j, am_isR_r, am_st_eq, am_rmv_nil, am_rmv_t, am_rmv_i, am_rmv_r, sf_SH, sj_SH, sf_eq, sf_nk, sf_na, sf_sf, am_args_i, am_args_r, am_args_n, Nat.reduceAdd, List.cons_append, List.nil_append, Option.toList, List.drop_succ_cons, List.drop_zero, am_RP, am_CP, am_PH, Fin.isValue, Fin.val_zero, Fin.val_one, am_f2, am_f3, true_and, and_true, true_implies, false_implies, not_false_eq_true, ne_eq, nI_clampD, nI_leT, nI_leF, nI_ltT, nI_ltF, nI_eqT, nI_eqF, nI_lt0F, nI_0leT, nI_eq0T, nI_eq0F, nI_0ltT, nI_0ltF, nI_le0T, nI_le0F, nI_m1, nI_m1', m1_m1, m1_lt, m1_le, nI_mul, nI_add, nI_sub, nI_add1, nI_dec, nI_div, nI_mod, vp_inD, sf_nkD, sf_eqD, ks, sa_51]
    refine ⟨_, _, ?_, mk1 [i] 0 _ ⟨by simp, fun x hx => by rw [List.mem_singleton.mp hx]; exact hi, Nat.zero_le _, List.mem_cons_self⟩ (fun c d1 d2 => by rw [sf_naD d2, sf_naD d1]) (fun k hk => ?_) (fun x hx => ⟨fun h9 => ?_, fun h9 => ?_⟩) (fun x hx => by rw [List.mem_singleton.mp hx]; exact CLo.rf _ _ _) (fun k hk => absurd hk (Nat.not_lt_zero _))⟩
    · (simp (decide := true) only [am_has, am_lk0, am_lk1, and_self, true_and, and_true] <;> first | rfl | (refine ⟨?_, ?_⟩ <;> rfl) | (refine ⟨?_, ?_, ?_⟩ <;> rfl) | (refine ⟨?_, ?_, ?_, ?_⟩ <;> rfl))
    · have : k = 0 := by simp at hk; omega
      subst this
      rw [sf_naD (by decide), sf_eq]; rfl
    · rw [List.mem_singleton.mp h9, sf_eq]
    · rw [sf_nkD (fun h8 => h9 (by rw [h8]; exact List.mem_cons_self)), sf_naD (by decide)]
  rw [hJJ] at hj
  clear hJJ
  rcases hj with ⟨Q, hd, I1, rfl, e1, e2, e3, e4, e5, e6, rfl, rfl, rfl, rfl, rfl, rfl⟩ | ⟨Q, hd, kk, I1, rfl, e1, e2, e3, e4, e5, e6, e7, rfl, rfl, rfl, rfl, rfl, rfl⟩
  · refine ⟨_, 90, rfl, rfl, ?_⟩
    obtain ⟨a1, a2, a3, a4⟩ := e1
    have hql := nodup_len cnt Q a1 a2
    by_cases hh : hd = Q.length
    · subst hh
      simp (decide := true) (disch := (first | exact eq_false (by decide) | exact eq_true (by decide) | decide | omega)) only [lX3_spread_0, lX3_spread_20, lX3_spread_38, lX3_spread_105, lX3_spread_111, lX3_spread_117, bX3_spread_0, bX3_spread_20, bX3_spread_38, bX3_spread_105, bX3_spread_111, bX3_spread_117, (show qX3_spread.2.2.2.1 = (some .int) from rfl), am_rok_int, w_aload_n, w_getfield, w_goto, w_iadd, w_iaload, w_iastore, w_icmp_eq, w_icmp_ge, w_iconst, w_iinc, w_iload, w_iload_n, w_imul, w_ireturn, w_istore, w_nop, w_sipush, w_swap, sa_53, sg_46_10, sg_46_11, cI_0, cI_1, cI_3, cI_m1, cS_720, am_lk0, am_lk1, am_ld_some, am_isI_i, am_isJ_j, am_isR_r, am_st_eq, am_rmv_nil, am_rmv_t, am_rmv_i, am_rmv_r, sf_SH, sj_SH, sf_eq, sf_nk, sf_na, sf_sf, am_args_i, am_args_r, am_args_n, Nat.reduceAdd, List.cons_append, List.nil_append, Option.toList, List.drop_succ_cons, List.drop_zero, am_RP, am_CP, am_PH, Fin.isValue, Fin.val_zero, Fin.val_one, am_f2, am_f3, true_and, and_true, true_implies, false_implies, not_false_eq_true, ne_eq, nI_clampD, nI_leT, nI_leF, nI_ltT, nI_ltF, nI_eqT, nI_eqF, nI_lt0F, nI_0leT, nI_eq0T, nI_eq0F, nI_0ltT, nI_0ltF, nI_le0T, nI_le0F, nI_m1, nI_m1', m1_m1, m1_lt, m1_le, nI_mul, nI_add, nI_sub, nI_add1, nI_dec, nI_div, nI_mod, vp_inD, sf_nkD, sf_eqD]
      refine ⟨Q, I1, rfl, rfl, e2, a1, a2, e3, e4, fun y hy => ⟨fun h9 => e5 y h9, fun h9 => h9 (fun x => x ∈ Q) a4 (fun a b ha hb hX hR => ?_)⟩⟩
      obtain ⟨k, hk, hka⟩ := gD_of hX
      exact e6 k hk b hb (by rw [hka]; exact hR)
    · simp (decide := true) (disch := (first | exact eq_false (by decide) | exact eq_true (by decide) | decide | omega)) only [lX3_spread_0, lX3_spread_20, lX3_spread_38, lX3_spread_105, lX3_spread_111, lX3_spread_117, bX3_spread_0, bX3_spread_20, bX3_spread_38, bX3_spread_105, bX3_spread_111, bX3_spread_117, (show qX3_spread.2.2.2.1 = (some .int) from rfl), am_rok_int, w_aload_n, w_getfield, w_goto, w_iadd, w_iaload, w_iastore, w_icmp_eq, w_icmp_ge, w_iconst, w_iinc, w_iload, w_iload_n, w_imul, w_ireturn, w_istore, w_nop, w_sipush, w_swap, sa_53, sg_46_10, sg_46_11, cI_0, cI_1, cI_3, cI_m1, cS_720, am_lk0, am_lk1, am_ld_some, am_isI_i, am_isJ_j, am_isR_r, am_st_eq, am_rmv_nil, am_rmv_t, am_rmv_i, am_rmv_r, sf_SH, sj_SH, sf_eq, sf_nk, sf_na, sf_sf, am_args_i, am_args_r, am_args_n, Nat.reduceAdd, List.cons_append, List.nil_append, Option.toList, List.drop_succ_cons, List.drop_zero, am_RP, am_CP, am_PH, Fin.isValue, Fin.val_zero, Fin.val_one, am_f2, am_f3, true_and, and_true, true_implies, false_implies, not_false_eq_true, ne_eq, nI_clampD, nI_leT, nI_leF, nI_ltT, nI_ltF, nI_eqT, nI_eqF, nI_lt0F, nI_0leT, nI_eq0T, nI_eq0F, nI_0ltT, nI_0ltF, nI_le0T, nI_le0F, nI_m1, nI_m1', m1_m1, m1_lt, m1_le, nI_mul, nI_add, nI_sub, nI_add1, nI_dec, nI_div, nI_mod, vp_inD, sf_nkD, sf_eqD]
      refine ⟨_, _, ?_, ?_, mk2 Q hd 0 I1 ⟨a1, a2, by omega, a4, by omega⟩ e2 e3 e4 e5 e6 (fun k hk => absurd hk (Nat.not_lt_zero _))⟩
      · omega
      · (simp (decide := true) only [am_has, am_lk0, am_lk1, and_self, true_and, and_true] <;> first | rfl | (refine ⟨?_, ?_⟩ <;> rfl) | (refine ⟨?_, ?_, ?_⟩ <;> rfl) | (refine ⟨?_, ?_, ?_, ?_⟩ <;> rfl))
  · refine ⟨_, 90, rfl, rfl, ?_⟩
    obtain ⟨a1, a2, a3, a4, a5⟩ := e1
    have hql := nodup_len cnt Q a1 a2
    have hqd := gD_lt a2 a3
    have hr := hrow _ hqd
    have k46 : I1 46 11 = nI s := by rw [e2 46 (by decide) (by decide)]; exact hs
    have k53 := e3 hd a3
    have kb : I1 47 = I 47 := e2 47 (by decide) (by decide)
    by_cases hk3 : kk = 3
    · subst hk3
      simp (decide := true) (disch := (first | exact eq_false (by decide) | exact eq_true (by decide) | decide | omega)) only [lX3_spread_0, lX3_spread_20, lX3_spread_38, lX3_spread_105, lX3_spread_111, lX3_spread_117, bX3_spread_0, bX3_spread_20, bX3_spread_38, bX3_spread_105, bX3_spread_111, bX3_spread_117, (show qX3_spread.2.2.2.1 = (some .int) from rfl), am_rok_int, w_aload_n, w_getfield, w_goto, w_iadd, w_iaload, w_iastore, w_icmp_eq, w_icmp_ge, w_iconst, w_iinc, w_iload, w_iload_n, w_imul, w_ireturn, w_istore, w_nop, w_sipush, w_swap, sa_53, sg_46_10, sg_46_11, cI_0, cI_1, cI_3, cI_m1, cS_720, am_lk0, am_lk1, am_ld_some, am_isI_i, am_isJ_j, am_isR_r, am_st_eq, am_rmv_nil, am_rmv_t, am_rmv_i, am_rmv_r, sf_SH, sj_SH, sf_eq, sf_nk, sf_na, sf_sf, am_args_i, am_args_r, am_args_n, Nat.reduceAdd, List.cons_append, List.nil_append, Option.toList, List.drop_succ_cons, List.drop_zero, am_RP, am_CP, am_PH, Fin.isValue, Fin.val_zero, Fin.val_one, am_f2, am_f3, true_and, and_true, true_implies, false_implies, not_false_eq_true, ne_eq, nI_clampD, nI_leT, nI_leF, nI_ltT, nI_ltF, nI_eqT, nI_eqF, nI_lt0F, nI_0leT, nI_eq0T, nI_eq0F, nI_0ltT, nI_0ltF, nI_le0T, nI_le0F, nI_m1, nI_m1', m1_m1, m1_lt, m1_le, nI_mul, nI_add, nI_sub, nI_add1, nI_dec, nI_div, nI_mod, vp_inD, sf_nkD, sf_eqD]
      refine ⟨_, _, ?_, ?_, mk1 Q (hd + 1) I1 ⟨a1, a2, by omega, a4⟩ e2 e3 e4 e5 (fun k hk y hy hR => ?_)⟩
      · omega
      · (simp (decide := true) only [am_has, am_lk0, am_lk1, and_self, true_and, and_true] <;> first | rfl | (refine ⟨?_, ?_⟩ <;> rfl) | (refine ⟨?_, ?_, ?_⟩ <;> rfl) | (refine ⟨?_, ?_, ?_, ?_⟩ <;> rfl))
      by_cases hkh : k = hd
      · subst hkh
        obtain ⟨k', hk', h9⟩ := (hr.2 y hy).mpr hR
        exact e7 k' hk' y hy h9
      · exact e6 k (by omega) y hy hR
    · rcases hr.1 kk (by omega) with hneg | ⟨y, hy, hyv⟩
      · have e0 : (I 47 (3 * Q.getD hd 0 + kk) = -1) = True := eq_true hneg
        simp (decide := true) (disch := (first | exact eq_false (by decide) | exact eq_true (by decide) | decide | omega)) only [lX3_spread_0, lX3_spread_20, lX3_spread_38, lX3_spread_105, lX3_spread_111, lX3_spread_117, bX3_spread_0, bX3_spread_20, bX3_spread_38, bX3_spread_105, bX3_spread_111, bX3_spread_117, (show qX3_spread.2.2.2.1 = (some .int) from rfl), am_rok_int, w_aload_n, w_getfield, w_goto, w_iadd, w_iaload, w_iastore, w_icmp_eq, w_icmp_ge, w_iconst, w_iinc, w_iload, w_iload_n, w_imul, w_ireturn, w_istore, w_nop, w_sipush, w_swap, sa_53, sg_46_10, sg_46_11, cI_0, cI_1, cI_3, cI_m1, cS_720, am_lk0, am_lk1, am_ld_some, am_isI_i, am_isJ_j, am_isR_r, am_st_eq, am_rmv_nil, am_rmv_t, am_rmv_i, am_rmv_r, sf_SH, sj_SH, sf_eq, sf_nk, sf_na, sf_sf, am_args_i, am_args_r, am_args_n, Nat.reduceAdd, List.cons_append, List.nil_append, Option.toList, List.drop_succ_cons, List.drop_zero, am_RP, am_CP, am_PH, Fin.isValue, Fin.val_zero, Fin.val_one, am_f2, am_f3, true_and, and_true, true_implies, false_implies, not_false_eq_true, ne_eq, nI_clampD, nI_leT, nI_leF, nI_ltT, nI_ltF, nI_eqT, nI_eqF, nI_lt0F, nI_0leT, nI_eq0T, nI_eq0F, nI_0ltT, nI_0ltF, nI_le0T, nI_le0F, nI_m1, nI_m1', m1_m1, m1_lt, m1_le, nI_mul, nI_add, nI_sub, nI_add1, nI_dec, nI_div, nI_mod, vp_inD, sf_nkD, sf_eqD, k46, k53, kb, e0, sa_47, sa_51]
        refine ⟨_, _, ?_, ?_, mk2 Q hd (kk + 1) I1 ⟨a1, a2, a3, a4, by omega⟩ e2 e3 e4 e5 e6 (fun k hk y hy h9 => ?_)⟩
        · omega
        · (simp (decide := true) only [am_has, am_lk0, am_lk1, and_self, true_and, and_true] <;> first | rfl | (refine ⟨?_, ?_⟩ <;> rfl) | (refine ⟨?_, ?_, ?_⟩ <;> rfl) | (refine ⟨?_, ?_, ?_, ?_⟩ <;> rfl))
        by_cases hkk : k = kk
        · subst hkk
          rw [hneg] at h9
          exact absurd h9 (of_eq_false (nI_m1' (by omega)))
        · exact e7 k (by omega) y hy h9
      · have hy720 : y < 720 := by omega
        by_cases hyQ : y ∈ Q
        · have km := (e4 y hy720).1 hyQ
          simp (decide := true) (disch := (first | exact eq_false (by decide) | exact eq_true (by decide) | decide | omega)) only [lX3_spread_0, lX3_spread_20, lX3_spread_38, lX3_spread_105, lX3_spread_111, lX3_spread_117, bX3_spread_0, bX3_spread_20, bX3_spread_38, bX3_spread_105, bX3_spread_111, bX3_spread_117, (show qX3_spread.2.2.2.1 = (some .int) from rfl), am_rok_int, w_aload_n, w_getfield, w_goto, w_iadd, w_iaload, w_iastore, w_icmp_eq, w_icmp_ge, w_iconst, w_iinc, w_iload, w_iload_n, w_imul, w_ireturn, w_istore, w_nop, w_sipush, w_swap, sa_53, sg_46_10, sg_46_11, cI_0, cI_1, cI_3, cI_m1, cS_720, am_lk0, am_lk1, am_ld_some, am_isI_i, am_isJ_j, am_isR_r, am_st_eq, am_rmv_nil, am_rmv_t, am_rmv_i, am_rmv_r, sf_SH, sj_SH, sf_eq, sf_nk, sf_na, sf_sf, am_args_i, am_args_r, am_args_n, Nat.reduceAdd, List.cons_append, List.nil_append, Option.toList, List.drop_succ_cons, List.drop_zero, am_RP, am_CP, am_PH, Fin.isValue, Fin.val_zero, Fin.val_one, am_f2, am_f3, true_and, and_true, true_implies, false_implies, not_false_eq_true, ne_eq, nI_clampD, nI_leT, nI_leF, nI_ltT, nI_ltF, nI_eqT, nI_eqF, nI_lt0F, nI_0leT, nI_eq0T, nI_eq0F, nI_0ltT, nI_0ltF, nI_le0T, nI_le0F, nI_m1, nI_m1', m1_m1, m1_lt, m1_le, nI_mul, nI_add, nI_sub, nI_add1, nI_dec, nI_div, nI_mod, vp_inD, sf_nkD, sf_eqD, k46, k53, kb, hyv, km, sa_47, sa_51]
          refine ⟨_, _, ?_, ?_, mk2 Q hd (kk + 1) I1 ⟨a1, a2, a3, a4, by omega⟩ e2 e3 e4 e5 e6 (fun k hk z hz h9 => ?_)⟩
          · omega
          · (simp (decide := true) only [am_has, am_lk0, am_lk1, and_self, true_and, and_true] <;> first | rfl | (refine ⟨?_, ?_⟩ <;> rfl) | (refine ⟨?_, ?_, ?_⟩ <;> rfl) | (refine ⟨?_, ?_, ?_, ?_⟩ <;> rfl))
          by_cases hkk : k = kk
          · subst hkk
            rw [hyv] at h9
            have := (nI_eq (by omega) (by omega)).mp h9
            rw [← this]; exact hyQ
          · exact e7 k (by omega) z hz h9
        · have km := (e4 y hy720).2 hyQ
          obtain ⟨m, hm1, hm2⟩ := hm y hy720
          rw [hm2] at km
          have hnew := hadd a1 hyQ
          have hnb : ∀ x ∈ Q ++ [y], x < cnt := fun x hx => (List.mem_append.mp hx).elim (a2 x) (fun h9 => by rw [List.mem_singleton.mp h9]; exact hy)
          have hnl := nodup_len cnt _ hnew hnb
          have hle : (Q ++ [y]).length = Q.length + 1 := by simp
          have hR : R (Q.getD hd 0) y := (hr.2 y hy).mp ⟨kk, by omega, hyv⟩
          simp (decide := true) (disch := (first | exact eq_false (by decide) | exact eq_true (by decide) | decide | omega)) only [lX3_spread_0, lX3_spread_20, lX3_spread_38, lX3_spread_105, lX3_spread_111, lX3_spread_117, bX3_spread_0, bX3_spread_20, bX3_spread_38, bX3_spread_105, bX3_spread_111, bX3_spread_117, (show qX3_spread.2.2.2.1 = (some .int) from rfl), am_rok_int, w_aload_n, w_getfield, w_goto, w_iadd, w_iaload, w_iastore, w_icmp_eq, w_icmp_ge, w_iconst, w_iinc, w_iload, w_iload_n, w_imul, w_ireturn, w_istore, w_nop, w_sipush, w_swap, sa_53, sg_46_10, sg_46_11, cI_0, cI_1, cI_3, cI_m1, cS_720, am_lk0, am_lk1, am_ld_some, am_isI_i, am_isJ_j, am_isR_r, am_st_eq, am_rmv_nil, am_rmv_t, am_rmv_i, am_rmv_r, sf_SH, sj_SH, sf_eq, sf_nk, sf_na, sf_sf, am_args_i, am_args_r, am_args_n, Nat.reduceAdd, List.cons_append, List.nil_append, Option.toList, List.drop_succ_cons, List.drop_zero, am_RP, am_CP, am_PH, Fin.isValue, Fin.val_zero, Fin.val_one, am_f2, am_f3, true_and, and_true, true_implies, false_implies, not_false_eq_true, ne_eq, nI_clampD, nI_leT, nI_leF, nI_ltT, nI_ltF, nI_eqT, nI_eqF, nI_lt0F, nI_0leT, nI_eq0T, nI_eq0F, nI_0ltT, nI_0ltF, nI_le0T, nI_le0F, nI_m1, nI_m1', m1_m1, m1_lt, m1_le, nI_mul, nI_add, nI_sub, nI_add1, nI_dec, nI_div, nI_mod, vp_inD, sf_nkD, sf_eqD, k46, k53, kb, hyv, km, sa_47, sa_51]
          rw [← hle]
          refine ⟨_, _, ?_, ?_, mk2 (Q ++ [y]) hd (kk + 1) _ ⟨hnew, hnb, by omega, List.mem_append_left _ a4, by omega⟩ (fun c d1 d2 => by rw [sf_naD d1, sf_naD d2]; exact e2 c d1 d2) (fun k hk => ?_) (fun x hx => ⟨fun h9 => ?_, fun h9 => ?_⟩) (fun x hx => ?_) (fun k hk z hz h9 => ?_) (fun k hk z hz h9 => ?_)⟩
          · omega
          · (simp (decide := true) only [am_has, am_lk0, am_lk1, and_self, true_and, and_true] <;> first | rfl | (refine ⟨?_, ?_⟩ <;> rfl) | (refine ⟨?_, ?_, ?_⟩ <;> rfl) | (refine ⟨?_, ?_, ?_, ?_⟩ <;> rfl))
          · by_cases hkq : k = Q.length
            · rw [sf_eqD hkq, hkq, gD_new]
            · rw [sf_nkD hkq, sf_naD (by decide), gD_app (by omega)]; exact e3 k (by omega)
          · rw [sf_naD (by decide)]
            by_cases hxy : x = y
            · rw [sf_eqD hxy]
            · rw [sf_nkD hxy]
              exact (e4 x hx).1 ((List.mem_append.mp h9).elim id (fun h8 => absurd (List.mem_singleton.mp h8) hxy))
          · rw [sf_naD (by decide), sf_nkD (fun h8 => h9 (by rw [h8]; exact List.mem_append_right _ List.mem_cons_self))]
            exact (e4 x hx).2 (fun h8 => h9 (List.mem_append_left _ h8))
          · rcases List.mem_append.mp hx with h9 | h9
            · exact e5 x h9
            · rw [List.mem_singleton.mp h9]
              exact (e5 _ (gD_mem a3)).st hqd hy hR
          · rw [gD_app (by omega)] at h9
            exact List.mem_append_left _ (e6 k hk z hz h9)
          · rw [gD_app a3] at h9
            by_cases hkk : k = kk
            · subst hkk
              rw [hyv] at h9
              have := (nI_eq (by omega) (by omega)).mp h9
              rw [← this]; exact List.mem_append_right _ List.mem_cons_self
            · exact List.mem_append_left _ (e7 k (by omega) z hz h9)
set_option maxRecDepth 100000 in
set_option maxHeartbeats 8000000 in
theorem c_X3_spread_48 (cnt s i : Nat) (R : Nat → Nat → Prop) (hc : cnt ≤ 720) (hi : i < cnt) (hrow : ∀ x, x < cnt → RowT 48 (3 * x) 3 cnt (R x) I) (hs : I 46 11 = nI s) (hs2 : s < 2147483648) (hm : ∀ x, x < 720 → ∃ m, m < s ∧ I 52 x = nI m) :
    am_Ctr g am_mt 1 (h + 1) 32 [.ref 46, .int (nI i), .ref 48, .ref 52] (am_SH, I, J) 0 0 (fun r' M => ∃ (Q : List Nat) (I' : Nat → Nat → Int32), r' = some (.int (nI Q.length)) ∧ M = (am_SH, I', J) ∧ (∀ c, c ≠ 53 → c ≠ 52 → I' c = I c) ∧ Q.Nodup ∧ (∀ x ∈ Q, x < cnt) ∧ (∀ k, k < Q.length → I' 53 k = nI (Q.getD k 0)) ∧ (∀ x, x < 720 → (x ∈ Q → I' 52 x = nI s) ∧ (x ∉ Q → I' 52 x = I 52 x)) ∧ ∀ y, y < cnt → (y ∈ Q ↔ CLo cnt R i y)) := by
  have hadd : ∀ {Q : List Nat} {y : Nat}, Q.Nodup → y ∉ Q → (Q ++ [y]).Nodup := fun {Q y} h1 h2 => by
    rw [List.nodup_append]
    exact ⟨h1, by simp, fun a ha b hb => by rw [List.mem_singleton.mp hb]; exact fun h9 => h2 (h9 ▸ ha)⟩
  obtain ⟨JJ, hJJ⟩ : ∃ JJ : Nat → am_Cut, JJ = (fun zu zpc zl zst zM zk zn => (∃ (Q : List Nat) (hd : Nat) (I1 : Nat → Nat → Int32), zu = 10 * (cnt - hd) ∧ (Q.Nodup ∧ (∀ x ∈ Q, x < cnt) ∧ hd ≤ Q.length ∧ i ∈ Q) ∧ (∀ c, c ≠ 53 → c ≠ 52 → I1 c = I c) ∧ (∀ k, k < Q.length → I1 53 k = nI (Q.getD k 0)) ∧ (∀ x, x < 720 → (x ∈ Q → I1 52 x = nI s) ∧ (x ∉ Q → I1 52 x = I 52 x)) ∧ (∀ x ∈ Q, CLo cnt R i x) ∧ (∀ k, k < hd → ∀ y, y < cnt → R (Q.getD k 0) y → y ∈ Q) ∧ zpc = 20 ∧ zl = [(0, .ref 46), (1, .int (nI i)), (2, .ref 48), (3, .ref 52), (4, .int (nI Q.length)), (5, .int (nI hd))] ∧ zst = [] ∧ zM = (am_SH, I1, J) ∧ zk = 0 ∧ zn = 0) ∨ (∃ (Q : List Nat) (hd kk : Nat) (I1 : Nat → Nat → Int32), zu = 10 * (cnt - hd - 1) + 1 + (3 - kk) ∧ (Q.Nodup ∧ (∀ x ∈ Q, x < cnt) ∧ hd < Q.length ∧ i ∈ Q ∧ kk ≤ 3) ∧ (∀ c, c ≠ 53 → c ≠ 52 → I1 c = I c) ∧ (∀ k, k < Q.length → I1 53 k = nI (Q.getD k 0)) ∧ (∀ x, x < 720 → (x ∈ Q → I1 52 x = nI s) ∧ (x ∉ Q → I1 52 x = I 52 x)) ∧ (∀ x ∈ Q, CLo cnt R i x) ∧ (∀ k, k < hd → ∀ y, y < cnt → R (Q.getD k 0) y → y ∈ Q) ∧ (∀ k, k < kk → ∀ y, y < cnt → I 48 (3 * Q.getD hd 0 + k) = nI y → y ∈ Q) ∧ zpc = 38 ∧ zl = [(0, .ref 46), (1, .int (nI i)), (2, .ref 48), (3, .ref 52), (4, .int (nI Q.length)), (5, .int (nI hd)), (6, .int (nI kk))] ∧ zst = [] ∧ zM = (am_SH, I1, J) ∧ zk = 0 ∧ zn = 0)) := ⟨_, rfl⟩
  have mk1 : ∀ (Q : List Nat) (hd : Nat) (I1 : Nat → Nat → Int32), (Q.Nodup ∧ (∀ x ∈ Q, x < cnt) ∧ hd ≤ Q.length ∧ i ∈ Q) → (∀ c, c ≠ 53 → c ≠ 52 → I1 c = I c) → (∀ k, k < Q.length → I1 53 k = nI (Q.getD k 0)) → (∀ x, x < 720 → (x ∈ Q → I1 52 x = nI s) ∧ (x ∉ Q → I1 52 x = I 52 x)) → (∀ x ∈ Q, CLo cnt R i x) → (∀ k, k < hd → ∀ y, y < cnt → R (Q.getD k 0) y → y ∈ Q) → JJ (10 * (cnt - hd)) 20 [(0, .ref 46), (1, .int (nI i)), (2, .ref 48), (3, .ref 52), (4, .int (nI Q.length)), (5, .int (nI hd))] [] (am_SH, I1, J) 0 0 := by
    intro Q hd I1 a0 a1 a2 a3 a4 a5
    rw [hJJ]
    exact Or.inl ⟨Q, hd, I1, rfl, a0, a1, a2, a3, a4, a5, rfl, rfl, rfl, rfl, rfl, rfl⟩
  have mk2 : ∀ (Q : List Nat) (hd kk : Nat) (I1 : Nat → Nat → Int32), (Q.Nodup ∧ (∀ x ∈ Q, x < cnt) ∧ hd < Q.length ∧ i ∈ Q ∧ kk ≤ 3) → (∀ c, c ≠ 53 → c ≠ 52 → I1 c = I c) → (∀ k, k < Q.length → I1 53 k = nI (Q.getD k 0)) → (∀ x, x < 720 → (x ∈ Q → I1 52 x = nI s) ∧ (x ∉ Q → I1 52 x = I 52 x)) → (∀ x ∈ Q, CLo cnt R i x) → (∀ k, k < hd → ∀ y, y < cnt → R (Q.getD k 0) y → y ∈ Q) → (∀ k, k < kk → ∀ y, y < cnt → I 48 (3 * Q.getD hd 0 + k) = nI y → y ∈ Q) → JJ (10 * (cnt - hd - 1) + 1 + (3 - kk)) 38 [(0, .ref 46), (1, .int (nI i)), (2, .ref 48), (3, .ref 52), (4, .int (nI Q.length)), (5, .int (nI hd)), (6, .int (nI kk))] [] (am_SH, I1, J) 0 0 := by
    intro Q hd kk I1 a0 a1 a2 a3 a4 a5 a6
    rw [hJJ]
    exact Or.inr (⟨Q, hd, kk, I1, rfl, a0, a1, a2, a3, a4, a5, a6, rfl, rfl, rfl, rfl, rfl, rfl⟩)
  refine am_rule2 (q := qX3_spread) (B := am_blk bX3_spread) rfl rfl kX3_spread nX3_spread (Nat.le_of_ble_eq_true rfl) JJ (fun zu zpc zl zst zM zk zn hj => ?_) ?_
  rotate_left
  · refine ⟨60, ?_⟩
    have ks : ∀ v, sf I 53 0 v 46 11 = nI s := fun v => by rw [sf_naD (by decide)]; exact hs
    simp (decide := true) (disch := (first | exact eq_false (by decide) | exact eq_true (by decide) | decide | omega)) only [lX3_spread_0, lX3_spread_20, lX3_spread_38, lX3_spread_105, lX3_spread_111, lX3_spread_117, bX3_spread_0, bX3_spread_20, bX3_spread_38, bX3_spread_105, bX3_spread_111, bX3_spread_117, (show qX3_spread.2.2.2.1 = (some .int) from rfl), am_rok_int, w_aload_n, w_getfield, w_goto, w_iadd, w_iaload, w_iastore, w_icmp_eq, w_icmp_ge, w_iconst, w_iinc, w_iload, w_iload_n, w_imul, w_ireturn, w_istore, w_nop, w_sipush, w_swap, sa_53, sg_46_10, sg_46_11, cI_0, cI_1, cI_3, cI_m1, cS_720, am_lk0, am_lk1, am_ld_some, am_isI_i, am_isJ_j, am_isR_r, am_st_eq, am_rmv_nil, am_rmv_t, am_rmv_i, am_rmv_r, sf_SH, sj_SH, sf_eq, sf_nk, sf_na, sf_sf, am_args_i, am_args_r, am_args_n, Nat.reduceAdd, List.cons_append, List.nil_append, Option.toList, List.drop_succ_cons, List.drop_zero, am_RP, am_CP, am_PH, Fin.isValue, Fin.val_zero, Fin.val_one, am_f2, am_f3, true_and, and_true, true_implies, false_implies, not_false_eq_true, ne_eq, nI_clampD, nI_leT, nI_leF, nI_ltT, nI_ltF, nI_eqT, nI_eqF, nI_lt0F, nI_0leT, nI_eq0T, nI_eq0F, nI_0ltT, nI_0ltF, nI_le0T, nI_le0F, nI_m1, nI_m1', m1_m1, m1_lt, m1_le, nI_mul, nI_add, nI_sub, nI_add1, nI_dec, nI_div, nI_mod, vp_inD, sf_nkD, sf_eqD, ks, sa_52]
    refine ⟨_, _, ?_, mk1 [i] 0 _ ⟨by simp, fun x hx => by rw [List.mem_singleton.mp hx]; exact hi, Nat.zero_le _, List.mem_cons_self⟩ (fun c d1 d2 => by rw [sf_naD d2, sf_naD d1]) (fun k hk => ?_) (fun x hx => ⟨fun h9 => ?_, fun h9 => ?_⟩) (fun x hx => by rw [List.mem_singleton.mp hx]; exact CLo.rf _ _ _) (fun k hk => absurd hk (Nat.not_lt_zero _))⟩
    · (simp (decide := true) only [am_has, am_lk0, am_lk1, and_self, true_and, and_true] <;> first | rfl | (refine ⟨?_, ?_⟩ <;> rfl) | (refine ⟨?_, ?_, ?_⟩ <;> rfl) | (refine ⟨?_, ?_, ?_, ?_⟩ <;> rfl))
    · have : k = 0 := by simp at hk; omega
      subst this
      rw [sf_naD (by decide), sf_eq]; rfl
    · rw [List.mem_singleton.mp h9, sf_eq]
    · rw [sf_nkD (fun h8 => h9 (by rw [h8]; exact List.mem_cons_self)), sf_naD (by decide)]
  rw [hJJ] at hj
  clear hJJ
  rcases hj with ⟨Q, hd, I1, rfl, e1, e2, e3, e4, e5, e6, rfl, rfl, rfl, rfl, rfl, rfl⟩ | ⟨Q, hd, kk, I1, rfl, e1, e2, e3, e4, e5, e6, e7, rfl, rfl, rfl, rfl, rfl, rfl⟩
  · refine ⟨_, 90, rfl, rfl, ?_⟩
    obtain ⟨a1, a2, a3, a4⟩ := e1
    have hql := nodup_len cnt Q a1 a2
    by_cases hh : hd = Q.length
    · subst hh
      simp (decide := true) (disch := (first | exact eq_false (by decide) | exact eq_true (by decide) | decide | omega)) only [lX3_spread_0, lX3_spread_20, lX3_spread_38, lX3_spread_105, lX3_spread_111, lX3_spread_117, bX3_spread_0, bX3_spread_20, bX3_spread_38, bX3_spread_105, bX3_spread_111, bX3_spread_117, (show qX3_spread.2.2.2.1 = (some .int) from rfl), am_rok_int, w_aload_n, w_getfield, w_goto, w_iadd, w_iaload, w_iastore, w_icmp_eq, w_icmp_ge, w_iconst, w_iinc, w_iload, w_iload_n, w_imul, w_ireturn, w_istore, w_nop, w_sipush, w_swap, sa_53, sg_46_10, sg_46_11, cI_0, cI_1, cI_3, cI_m1, cS_720, am_lk0, am_lk1, am_ld_some, am_isI_i, am_isJ_j, am_isR_r, am_st_eq, am_rmv_nil, am_rmv_t, am_rmv_i, am_rmv_r, sf_SH, sj_SH, sf_eq, sf_nk, sf_na, sf_sf, am_args_i, am_args_r, am_args_n, Nat.reduceAdd, List.cons_append, List.nil_append, Option.toList, List.drop_succ_cons, List.drop_zero, am_RP, am_CP, am_PH, Fin.isValue, Fin.val_zero, Fin.val_one, am_f2, am_f3, true_and, and_true, true_implies, false_implies, not_false_eq_true, ne_eq, nI_clampD, nI_leT, nI_leF, nI_ltT, nI_ltF, nI_eqT, nI_eqF, nI_lt0F, nI_0leT, nI_eq0T, nI_eq0F, nI_0ltT, nI_0ltF, nI_le0T, nI_le0F, nI_m1, nI_m1', m1_m1, m1_lt, m1_le, nI_mul, nI_add, nI_sub, nI_add1, nI_dec, nI_div, nI_mod, vp_inD, sf_nkD, sf_eqD]
      refine ⟨Q, I1, rfl, rfl, e2, a1, a2, e3, e4, fun y hy => ⟨fun h9 => e5 y h9, fun h9 => h9 (fun x => x ∈ Q) a4 (fun a b ha hb hX hR => ?_)⟩⟩
      obtain ⟨k, hk, hka⟩ := gD_of hX
      exact e6 k hk b hb (by rw [hka]; exact hR)
    · simp (decide := true) (disch := (first | exact eq_false (by decide) | exact eq_true (by decide) | decide | omega)) only [lX3_spread_0, lX3_spread_20, lX3_spread_38, lX3_spread_105, lX3_spread_111, lX3_spread_117, bX3_spread_0, bX3_spread_20, bX3_spread_38, bX3_spread_105, bX3_spread_111, bX3_spread_117, (show qX3_spread.2.2.2.1 = (some .int) from rfl), am_rok_int, w_aload_n, w_getfield, w_goto, w_iadd, w_iaload, w_iastore, w_icmp_eq, w_icmp_ge, w_iconst, w_iinc, w_iload, w_iload_n, w_imul, w_ireturn, w_istore, w_nop, w_sipush, w_swap, sa_53, sg_46_10, sg_46_11, cI_0, cI_1, cI_3, cI_m1, cS_720, am_lk0, am_lk1, am_ld_some, am_isI_i, am_isJ_j, am_isR_r, am_st_eq, am_rmv_nil, am_rmv_t, am_rmv_i, am_rmv_r, sf_SH, sj_SH, sf_eq, sf_nk, sf_na, sf_sf, am_args_i, am_args_r, am_args_n, Nat.reduceAdd, List.cons_append, List.nil_append, Option.toList, List.drop_succ_cons, List.drop_zero, am_RP, am_CP, am_PH, Fin.isValue, Fin.val_zero, Fin.val_one, am_f2, am_f3, true_and, and_true, true_implies, false_implies, not_false_eq_true, ne_eq, nI_clampD, nI_leT, nI_leF, nI_ltT, nI_ltF, nI_eqT, nI_eqF, nI_lt0F, nI_0leT, nI_eq0T, nI_eq0F, nI_0ltT, nI_0ltF, nI_le0T, nI_le0F, nI_m1, nI_m1', m1_m1, m1_lt, m1_le, nI_mul, nI_add, nI_sub, nI_add1, nI_dec, nI_div, nI_mod, vp_inD, sf_nkD, sf_eqD]
      refine ⟨_, _, ?_, ?_, mk2 Q hd 0 I1 ⟨a1, a2, by omega, a4, by omega⟩ e2 e3 e4 e5 e6 (fun k hk => absurd hk (Nat.not_lt_zero _))⟩
      · omega
      · (simp (decide := true) only [am_has, am_lk0, am_lk1, and_self, true_and, and_true] <;> first | rfl | (refine ⟨?_, ?_⟩ <;> rfl) | (refine ⟨?_, ?_, ?_⟩ <;> rfl) | (refine ⟨?_, ?_, ?_, ?_⟩ <;> rfl))
  · refine ⟨_, 90, rfl, rfl, ?_⟩
    obtain ⟨a1, a2, a3, a4, a5⟩ := e1
    have hql := nodup_len cnt Q a1 a2
    have hqd := gD_lt a2 a3
    have hr := hrow _ hqd
    have k46 : I1 46 11 = nI s := by rw [e2 46 (by decide) (by decide)]; exact hs
    have k53 := e3 hd a3
    have kb : I1 48 = I 48 := e2 48 (by decide) (by decide)
    by_cases hk3 : kk = 3
    · subst hk3
      simp (decide := true) (disch := (first | exact eq_false (by decide) | exact eq_true (by decide) | decide | omega)) only [lX3_spread_0, lX3_spread_20, lX3_spread_38, lX3_spread_105, lX3_spread_111, lX3_spread_117, bX3_spread_0, bX3_spread_20, bX3_spread_38, bX3_spread_105, bX3_spread_111, bX3_spread_117, (show qX3_spread.2.2.2.1 = (some .int) from rfl), am_rok_int, w_aload_n, w_getfield, w_goto, w_iadd, w_iaload, w_iastore, w_icmp_eq, w_icmp_ge, w_iconst, w_iinc, w_iload, w_iload_n, w_imul, w_ireturn, w_istore, w_nop, w_sipush, w_swap, sa_53, sg_46_10, sg_46_11, cI_0, cI_1, cI_3, cI_m1, cS_720, am_lk0, am_lk1, am_ld_some, am_isI_i, am_isJ_j, am_isR_r, am_st_eq, am_rmv_nil, am_rmv_t, am_rmv_i, am_rmv_r, sf_SH, sj_SH, sf_eq, sf_nk, sf_na, sf_sf, am_args_i, am_args_r, am_args_n, Nat.reduceAdd, List.cons_append, List.nil_append, Option.toList, List.drop_succ_cons, List.drop_zero, am_RP, am_CP, am_PH, Fin.isValue, Fin.val_zero, Fin.val_one, am_f2, am_f3, true_and, and_true, true_implies, false_implies, not_false_eq_true, ne_eq, nI_clampD, nI_leT, nI_leF, nI_ltT, nI_ltF, nI_eqT, nI_eqF, nI_lt0F, nI_0leT, nI_eq0T, nI_eq0F, nI_0ltT, nI_0ltF, nI_le0T, nI_le0F, nI_m1, nI_m1', m1_m1, m1_lt, m1_le, nI_mul, nI_add, nI_sub, nI_add1, nI_dec, nI_div, nI_mod, vp_inD, sf_nkD, sf_eqD]
      refine ⟨_, _, ?_, ?_, mk1 Q (hd + 1) I1 ⟨a1, a2, by omega, a4⟩ e2 e3 e4 e5 (fun k hk y hy hR => ?_)⟩
      · omega
      · (simp (decide := true) only [am_has, am_lk0, am_lk1, and_self, true_and, and_true] <;> first | rfl | (refine ⟨?_, ?_⟩ <;> rfl) | (refine ⟨?_, ?_, ?_⟩ <;> rfl) | (refine ⟨?_, ?_, ?_, ?_⟩ <;> rfl))
      by_cases hkh : k = hd
      · subst hkh
        obtain ⟨k', hk', h9⟩ := (hr.2 y hy).mpr hR
        exact e7 k' hk' y hy h9
      · exact e6 k (by omega) y hy hR
    · rcases hr.1 kk (by omega) with hneg | ⟨y, hy, hyv⟩
      · have e0 : (I 48 (3 * Q.getD hd 0 + kk) = -1) = True := eq_true hneg
        simp (decide := true) (disch := (first | exact eq_false (by decide) | exact eq_true (by decide) | decide | omega)) only [lX3_spread_0, lX3_spread_20, lX3_spread_38, lX3_spread_105, lX3_spread_111, lX3_spread_117, bX3_spread_0, bX3_spread_20, bX3_spread_38, bX3_spread_105, bX3_spread_111, bX3_spread_117, (show qX3_spread.2.2.2.1 = (some .int) from rfl), am_rok_int, w_aload_n, w_getfield, w_goto, w_iadd, w_iaload, w_iastore, w_icmp_eq, w_icmp_ge, w_iconst, w_iinc, w_iload, w_iload_n, w_imul, w_ireturn, w_istore, w_nop, w_sipush, w_swap, sa_53, sg_46_10, sg_46_11, cI_0, cI_1, cI_3, cI_m1, cS_720, am_lk0, am_lk1, am_ld_some, am_isI_i, am_isJ_j, am_isR_r, am_st_eq, am_rmv_nil, am_rmv_t, am_rmv_i, am_rmv_r, sf_SH, sj_SH, sf_eq, sf_nk, sf_na, sf_sf, am_args_i, am_args_r, am_args_n, Nat.reduceAdd, List.cons_append, List.nil_append, Option.toList, List.drop_succ_cons, List.drop_zero, am_RP, am_CP, am_PH, Fin.isValue, Fin.val_zero, Fin.val_one, am_f2, am_f3, true_and, and_true, true_implies, false_implies, not_false_eq_true, ne_eq, nI_clampD, nI_leT, nI_leF, nI_ltT, nI_ltF, nI_eqT, nI_eqF, nI_lt0F, nI_0leT, nI_eq0T, nI_eq0F, nI_0ltT, nI_0ltF, nI_le0T, nI_le0F, nI_m1, nI_m1', m1_m1, m1_lt, m1_le, nI_mul, nI_add, nI_sub, nI_add1, nI_dec, nI_div, nI_mod, vp_inD, sf_nkD, sf_eqD, k46, k53, kb, e0, sa_48, sa_52]
        refine ⟨_, _, ?_, ?_, mk2 Q hd (kk + 1) I1 ⟨a1, a2, a3, a4, by omega⟩ e2 e3 e4 e5 e6 (fun k hk y hy h9 => ?_)⟩
        · omega
        · (simp (decide := true) only [am_has, am_lk0, am_lk1, and_self, true_and, and_true] <;> first | rfl | (refine ⟨?_, ?_⟩ <;> rfl) | (refine ⟨?_, ?_, ?_⟩ <;> rfl) | (refine ⟨?_, ?_, ?_, ?_⟩ <;> rfl))
        by_cases hkk : k = kk
        · subst hkk
          rw [hneg] at h9
          exact absurd h9 (of_eq_false (nI_m1' (by omega)))
        · exact e7 k (by omega) y hy h9
      · have hy720 : y < 720 := by omega
        by_cases hyQ : y ∈ Q
        · have km := (e4 y hy720).1 hyQ
          simp (decide := true) (disch := (first | exact eq_false (by decide) | exact eq_true (by decide) | decide | omega)) only [lX3_spread_0, lX3_spread_20, lX3_spread_38, lX3_spread_105, lX3_spread_111, lX3_spread_117, bX3_spread_0, bX3_spread_20, bX3_spread_38, bX3_spread_105, bX3_spread_111, bX3_spread_117, (show qX3_spread.2.2.2.1 = (some .int) from rfl), am_rok_int, w_aload_n, w_getfield, w_goto, w_iadd, w_iaload, w_iastore, w_icmp_eq, w_icmp_ge, w_iconst, w_iinc, w_iload, w_iload_n, w_imul, w_ireturn, w_istore, w_nop, w_sipush, w_swap, sa_53, sg_46_10, sg_46_11, cI_0, cI_1, cI_3, cI_m1, cS_720, am_lk0, am_lk1, am_ld_some, am_isI_i, am_isJ_j, am_isR_r, am_st_eq, am_rmv_nil, am_rmv_t, am_rmv_i, am_rmv_r, sf_SH, sj_SH, sf_eq, sf_nk, sf_na, sf_sf, am_args_i, am_args_r, am_args_n, Nat.reduceAdd, List.cons_append, List.nil_append, Option.toList, List.drop_succ_cons, List.drop_zero, am_RP, am_CP, am_PH, Fin.isValue, Fin.val_zero, Fin.val_one, am_f2, am_f3, true_and, and_true, true_implies, false_implies, not_false_eq_true, ne_eq, nI_clampD, nI_leT, nI_leF, nI_ltT, nI_ltF, nI_eqT, nI_eqF, nI_lt0F, nI_0leT, nI_eq0T, nI_eq0F, nI_0ltT, nI_0ltF, nI_le0T, nI_le0F, nI_m1, nI_m1', m1_m1, m1_lt, m1_le, nI_mul, nI_add, nI_sub, nI_add1, nI_dec, nI_div, nI_mod, vp_inD, sf_nkD, sf_eqD, k46, k53, kb, hyv, km, sa_48, sa_52]
          refine ⟨_, _, ?_, ?_, mk2 Q hd (kk + 1) I1 ⟨a1, a2, a3, a4, by omega⟩ e2 e3 e4 e5 e6 (fun k hk z hz h9 => ?_)⟩
          · omega
          · (simp (decide := true) only [am_has, am_lk0, am_lk1, and_self, true_and, and_true] <;> first | rfl | (refine ⟨?_, ?_⟩ <;> rfl) | (refine ⟨?_, ?_, ?_⟩ <;> rfl) | (refine ⟨?_, ?_, ?_, ?_⟩ <;> rfl))
          by_cases hkk : k = kk
          · subst hkk
            rw [hyv] at h9
            have := (nI_eq (by omega) (by omega)).mp h9
            rw [← this]; exact hyQ
          · exact e7 k (by omega) z hz h9
        · have km := (e4 y hy720).2 hyQ
          obtain ⟨m, hm1, hm2⟩ := hm y hy720
          rw [hm2] at km
          have hnew := hadd a1 hyQ
          have hnb : ∀ x ∈ Q ++ [y], x < cnt := fun x hx => (List.mem_append.mp hx).elim (a2 x) (fun h9 => by rw [List.mem_singleton.mp h9]; exact hy)
          have hnl := nodup_len cnt _ hnew hnb
          have hle : (Q ++ [y]).length = Q.length + 1 := by simp
          have hR : R (Q.getD hd 0) y := (hr.2 y hy).mp ⟨kk, by omega, hyv⟩
          simp (decide := true) (disch := (first | exact eq_false (by decide) | exact eq_true (by decide) | decide | omega)) only [lX3_spread_0, lX3_spread_20, lX3_spread_38, lX3_spread_105, lX3_spread_111, lX3_spread_117, bX3_spread_0, bX3_spread_20, bX3_spread_38, bX3_spread_105, bX3_spread_111, bX3_spread_117, (show qX3_spread.2.2.2.1 = (some .int) from rfl), am_rok_int, w_aload_n, w_getfield, w_goto, w_iadd, w_iaload, w_iastore, w_icmp_eq, w_icmp_ge, w_iconst, w_iinc, w_iload, w_iload_n, w_imul, w_ireturn, w_istore, w_nop, w_sipush, w_swap, sa_53, sg_46_10, sg_46_11, cI_0, cI_1, cI_3, cI_m1, cS_720, am_lk0, am_lk1, am_ld_some, am_isI_i, am_isJ_j, am_isR_r, am_st_eq, am_rmv_nil, am_rmv_t, am_rmv_i, am_rmv_r, sf_SH, sj_SH, sf_eq, sf_nk, sf_na, sf_sf, am_args_i, am_args_r, am_args_n, Nat.reduceAdd, List.cons_append, List.nil_append, Option.toList, List.drop_succ_cons, List.drop_zero, am_RP, am_CP, am_PH, Fin.isValue, Fin.val_zero, Fin.val_one, am_f2, am_f3, true_and, and_true, true_implies, false_implies, not_false_eq_true, ne_eq, nI_clampD, nI_leT, nI_leF, nI_ltT, nI_ltF, nI_eqT, nI_eqF, nI_lt0F, nI_0leT, nI_eq0T, nI_eq0F, nI_0ltT, nI_0ltF, nI_le0T, nI_le0F, nI_m1, nI_m1', m1_m1, m1_lt, m1_le, nI_mul, nI_add, nI_sub, nI_add1, nI_dec, nI_div, nI_mod, vp_inD, sf_nkD, sf_eqD, k46, k53, kb, hyv, km, sa_48, sa_52]
          rw [← hle]
          refine ⟨_, _, ?_, ?_, mk2 (Q ++ [y]) hd (kk + 1) _ ⟨hnew, hnb, by omega, List.mem_append_left _ a4, by omega⟩ (fun c d1 d2 => by rw [sf_naD d1, sf_naD d2]; exact e2 c d1 d2) (fun k hk => ?_) (fun x hx => ⟨fun h9 => ?_, fun h9 => ?_⟩) (fun x hx => ?_) (fun k hk z hz h9 => ?_) (fun k hk z hz h9 => ?_)⟩
          · omega
          · (simp (decide := true) only [am_has, am_lk0, am_lk1, and_self, true_and, and_true] <;> first | rfl | (refine ⟨?_, ?_⟩ <;> rfl) | (refine ⟨?_, ?_, ?_⟩ <;> rfl) | (refine ⟨?_, ?_, ?_, ?_⟩ <;> rfl))
          · by_cases hkq : k = Q.length
            · rw [sf_eqD hkq, hkq, gD_new]
            · rw [sf_nkD hkq, sf_naD (by decide), gD_app (by omega)]; exact e3 k (by omega)
          · rw [sf_naD (by decide)]
            by_cases hxy : x = y
            · rw [sf_eqD hxy]
            · rw [sf_nkD hxy]
              exact (e4 x hx).1 ((List.mem_append.mp h9).elim id (fun h8 => absurd (List.mem_singleton.mp h8) hxy))
          · rw [sf_naD (by decide), sf_nkD (fun h8 => h9 (by rw [h8]; exact List.mem_append_right _ List.mem_cons_self))]
            exact (e4 x hx).2 (fun h8 => h9 (List.mem_append_left _ h8))
          · rcases List.mem_append.mp hx with h9 | h9
            · exact e5 x h9
            · rw [List.mem_singleton.mp h9]
              exact (e5 _ (gD_mem a3)).st hqd hy hR
          · rw [gD_app (by omega)] at h9
            exact List.mem_append_left _ (e6 k hk z hz h9)
          · rw [gD_app a3] at h9
            by_cases hkk : k = kk
            · subst hkk
              rw [hyv] at h9
              have := (nI_eq (by omega) (by omega)).mp h9
              rw [← this]; exact List.mem_append_right _ List.mem_cons_self
            · exact List.mem_append_left _ (e7 k (by omega) z hz h9)
end SD1
