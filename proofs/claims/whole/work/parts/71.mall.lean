/-! the reference lists the readings -/
theorem wI_inc (i : Nat) : wI i + nI 1 = nI i := by
  unfold wI
  by_cases h1 : i = 0
  · subst h1; rfl
  · rw [if_neg h1, nI_add, Nat.sub_add_cancel (by omega)]
theorem wI_s (i : Nat) : wI (i + 1) = nI i := if_neg (by omega)
theorem wt_a (n i : Nat) (u : List Nat) (hi : i < n) : wtU n u + (n + 1 - (i + 1)) * 13 ^ (n - u.length) + 1 < wtU n u + (n + 1 - i) * 13 ^ (n - u.length) + 1 := by
  have hp : 0 < 13 ^ (n - u.length) := Nat.pow_pos (by decide)
  have e : n + 1 - i = (n + 1 - (i + 1)) + 1 := by omega
  rw [e, Nat.add_mul, Nat.one_mul]
  omega
theorem wt_b (n i : Nat) (u : List Nat) (hi : i < n) (hn : n ≤ 11) (hu : u.length + 1 < n) : wtU n (i :: u) + (n + 1 - 0) * 13 ^ (n - (i :: u).length) + 1 < wtU n u + (n + 1 - i) * 13 ^ (n - u.length) + 1 := by
  show (n - i) * 13 ^ (n - u.length) + wtU n u + (n + 1 - 0) * 13 ^ (n - (u.length + 1)) + 1 < _
  have hp : 0 < 13 ^ (n - (u.length + 1)) := Nat.pow_pos (by decide)
  have e : n + 1 - i = (n - i) + 1 := by omega
  have e2 : 13 ^ (n - u.length) = 13 ^ (n - (u.length + 1)) * 13 := by
    rw [show n - u.length = (n - (u.length + 1)) + 1 by omega, Nat.pow_succ]
  rw [e, Nat.add_mul, Nat.one_mul]
  have h3 : (n + 1 - 0) * 13 ^ (n - (u.length + 1)) ≤ 12 * 13 ^ (n - (u.length + 1)) := Nat.mul_le_mul (by omega) (Nat.le_refl _)
  omega
theorem wt_c (n f : Nat) (u : List Nat) (hf : f < n) : wtU n u + (n + 1 - (f + 1)) * 13 ^ (n - u.length) + 1 < wtU n (f :: u) + (n + 1 - n) * 13 ^ (n - (f :: u).length) + 1 := by
  show _ < (n - f) * 13 ^ (n - u.length) + wtU n u + (n + 1 - n) * 13 ^ (n - (f :: u).length) + 1
  have hp : 0 < 13 ^ (n - (f :: u).length) := Nat.pow_pos (by decide)
  rw [show n + 1 - (f + 1) = n - f by omega, show n + 1 - n = 1 by omega, Nat.one_mul]
  omega
theorem OCd.fr {o : List Nat} {I I' : Nat → Nat → Int32} (h : OCd o I) (h2 : ∀ k, k < o.length → I' 80 k = I 80 k) : OCd o I' := fun k hk => by rw [h2 k hk]; exact h k hk
theorem OCd.add {o : List Nat} {I I' : Nat → Nat → Int32} (h : OCd o I) {f : Nat} (h2 : ∀ k, k < o.length → I' 80 k = I 80 k) (h3 : I' 80 o.length = nI f) : OCd (o ++ [f]) I' := by
  intro k hk
  rw [List.length_append, List.length_singleton] at hk
  by_cases hko : k = o.length
  · rw [hko, gD_new]; exact h3
  · rw [h2 k (by omega), gD_app (by omega)]; exact h k (by omega)
def FrLs (I I' : Nat → Nat → Int32) : Prop := (∀ c, c ≠ 60 → c ≠ 75 → c < 78 ∨ 83 < c → I' c = I c) ∧ ∀ k, k ≠ 29 → k ≠ 32 → k ≠ 37 → I' 60 k = I 60 k
theorem FrLs.s80 {I I' : Nat → Nat → Int32} (h : FrLs I I') {k : Nat} {v : Int32} : FrLs I (sf I' 80 k v) := ⟨fun c d1 d2 d3 => by rw [sf_naD (by omega)]; exact h.1 c d1 d2 d3, fun j d1 d2 d3 => by rw [sf_naD (by decide)]; exact h.2 j d1 d2 d3⟩
theorem FrLs.o {I I' I'' : Nat → Nat → Int32} (h : FrLs I I') (h2 : FrO I' I'') : FrLs I I'' := ⟨fun c d1 d2 d3 => by rw [h2.1 c d1 (by omega) (by omega) (by omega)]; exact h.1 c d1 d2 d3, fun j d1 d2 d3 => by rw [h2.2 j d3]; exact h.2 j d1 d2 d3⟩
theorem FrLs.k {I I' I'' : Nat → Nat → Int32} (h : FrLs I I') (h2 : FrK I' I'') : FrLs I I'' := ⟨fun c d1 d2 d3 => by rw [h2.1 c d1 (by omega) (by omega)]; exact h.1 c d1 d2 d3, fun j d1 d2 d3 => by rw [h2.2 j d1]; exact h.2 j d1 d2 d3⟩
section MA1
variable {L : Nat → Nat} {t : Nat} {fs : List Fg} {cs : List (Nat × Nat)}
/-- what mayStand says is the reference's condition -/
theorem may_rref (hC : CSo fs cs) {u : List Nat} {i : Nat} {p : List Nat} {s : List (List Nat)} {l' : List (Nat × List Nat)} {st' : List (List Nat)} (hiu : i ∉ u) (hl : rrun (kdF fs) [[]] (u.reverse ++ [i]) = some l') (hs : rstk (kdF fs) [[]] (u.reverse ++ [i]) = some st') :
    ((u.reverse ++ [i]).length < fs.length → st' ≠ []) ∧ (∀ x g, EP fs cs x g → Cnd (u.reverse ++ [i]) l' st' x g) ↔ rref (kdF fs) (eE fs cs) fs.length (p :: s) u i := by
  have hrev : (i :: u).reverse = u.reverse ++ [i] := List.reverse_cons
  have hmem : ∀ y, y ∈ u.reverse ++ [i] ↔ y ∈ i :: u := fun y => by rw [← hrev, List.mem_reverse]
  have hlen : (u.reverse ++ [i]).length = u.length + 1 := by simp
  constructor
  · rintro ⟨h1, h2⟩
    refine ⟨hiu, l', st', by rw [hrev]; exact hl, by rw [hrev]; exact hs, fun h9 => h1 (by omega), fun x g hE hg => ?_⟩
    have h3 := h2 x g (eE_t.mp hE)
    unfold Cnd at h3
    simp only [hmem] at h3
    exact h3
  · rintro ⟨-, l, st, h1, h2, h3, h4⟩
    rw [hrev, hl] at h1
    rw [hrev, hs] at h2
    have h1 := Option.some.inj h1
    have h2 := Option.some.inj h2
    subst h1
    subst h2
    refine ⟨fun h9 => h3 (by omega), fun x g hE => ?_⟩
    unfold Cnd
    simp only [hmem]
    exact h4 x g (eE_t.mpr hE) (EP_lt hC hE).2.1
variable (g : am_G) (h : Nat) (I : Nat → Nat → Int32) (J : Nat → Nat → Int64)
set_option maxRecDepth 100000 in
set_option maxHeartbeats 8000000 in
theorem c_X10_lists (hS : SMd L t fs I) (hG : Good L t fs) (hM : CMd cs I) (hC : CSo fs cs) :
    am_Ctr g am_mt 1 (h + 4) 169 [.ref 60] (am_SH, I, J) 0 0 (fun r M => r = none ∧ ∃ I', M = (am_SH, I', J) ∧ FrLs I I' ∧ Edg (EP fs cs) I' ∧ RSo fs (RLs fs cs) I' ∧ I' 60 32 = nI 0) := by
  have hn := hG.le
  have hn0 := hG.1
  have h16 : I 60 16 = nI fs.length := hS.1
  have h720 := RLs_le (cs := cs) hG
  have hRL : RLs fs cs = rdf (kdF fs) fs.length (rref (kdF fs) (eE fs cs) fs.length) fs.length [[]] [] := rref_eq.symm
  have hxs : ∀ o ∈ RLs fs cs, ∀ l, rrun (kdF fs) [[]] o = some l → ∀ f x p, (f, x :: p) ∈ l → x < 22 := by
    intro o ho l hl f x p hm
    have h1 := (rsp_mem _ _ _ _ _ _ o).mp ho
    have h2 := (rval_heads hl h1.2.1).2 _ hm x rfl
    have h3 := (h1.2.2.1 _ h2.1).1
    omega
  obtain ⟨C, hCd⟩ : ∃ C, C = rref (kdF fs) (eE fs cs) fs.length := ⟨_, rfl⟩
  rw [← hCd] at hRL
  obtain ⟨JJ, hJJ⟩ : ∃ JJ : Nat → am_Cut, JJ = (fun zu zpc zl zst zM zk zn => (∃ (u : List Nat) (i : Nat) (os : List (List Nat)) (p : List Nat) (s : List (List Nat)) (l : List (Nat × List Nat)) (I1 : Nat → Nat → Int32), zu = wtU fs.length u + (fs.length + 1 - i) * 13 ^ (fs.length - u.length) + 1 ∧ (u.length < fs.length ∧ i ≤ fs.length ∧ u.Nodup ∧ ∀ f ∈ u, f < fs.length) ∧ (rstk (kdF fs) [[]] u.reverse = some (p :: s)) ∧ (rrun (kdF fs) [[]] u.reverse = some l) ∧ (os ++ ((tdA (kdF fs) fs.length C (fs.length - u.length - 1) p s u i).map (u.reverse ++ ·) ++ tdU (kdF fs) fs.length C u) = RLs fs cs) ∧ (OCd u.reverse I1) ∧ (I1 80 u.length = wI i) ∧ (RSo fs os I1) ∧ (FrLs I I1) ∧ (Edg (EP fs cs) I1) ∧ (I1 60 32 = nI 0) ∧ zpc = 23 ∧ zl = [(0, .ref 60), (1, .int (nI u.length))] ∧ zst = [] ∧ zM = (am_SH, I1, J) ∧ zk = 0 ∧ zn = 0) ∨ (∃ (z : Int32) (I1 : Nat → Nat → Int32), zu = 0 ∧ (RSo fs (RLs fs cs) I1) ∧ (FrLs I I1) ∧ (Edg (EP fs cs) I1) ∧ (I1 60 32 = nI 0) ∧ ((z < 0) = True) ∧ zpc = 23 ∧ zl = [(0, .ref 60), (1, .int z)] ∧ zst = [] ∧ zM = (am_SH, I1, J) ∧ zk = 0 ∧ zn = 0)) := ⟨_, rfl⟩
  have mk1 : ∀ (u : List Nat) (i : Nat) (os : List (List Nat)) (p : List Nat) (s : List (List Nat)) (l : List (Nat × List Nat)) (I1 : Nat → Nat → Int32), (u.length < fs.length ∧ i ≤ fs.length ∧ u.Nodup ∧ ∀ f ∈ u, f < fs.length) → (rstk (kdF fs) [[]] u.reverse = some (p :: s)) → (rrun (kdF fs) [[]] u.reverse = some l) → (os ++ ((tdA (kdF fs) fs.length C (fs.length - u.length - 1) p s u i).map (u.reverse ++ ·) ++ tdU (kdF fs) fs.length C u) = RLs fs cs) → (OCd u.reverse I1) → (I1 80 u.length = wI i) → (RSo fs os I1) → (FrLs I I1) → (Edg (EP fs cs) I1) → (I1 60 32 = nI 0) → JJ (wtU fs.length u + (fs.length + 1 - i) * 13 ^ (fs.length - u.length) + 1) 23 [(0, .ref 60), (1, .int (nI u.length))] [] (am_SH, I1, J) 0 0 := by
    intro u i os p s l I1 a0 a1 a2 a3 a4 a5 a6 a7 a8 a9
    rw [hJJ]
    exact Or.inl ⟨u, i, os, p, s, l, I1, rfl, a0, a1, a2, a3, a4, a5, a6, a7, a8, a9, rfl, rfl, rfl, rfl, rfl, rfl⟩
  have mk2 : ∀ (z : Int32) (I1 : Nat → Nat → Int32), (RSo fs (RLs fs cs) I1) → (FrLs I I1) → (Edg (EP fs cs) I1) → (I1 60 32 = nI 0) → ((z < 0) = True) → JJ (0) 23 [(0, .ref 60), (1, .int z)] [] (am_SH, I1, J) 0 0 := by
    intro z I1 a0 a1 a2 a3 a4
    rw [hJJ]
    exact Or.inr (⟨z, I1, rfl, a0, a1, a2, a3, a4, rfl, rfl, rfl, rfl, rfl, rfl⟩)
  refine am_rule2 (q := qX10_lists) (B := am_blk bX10_lists) rfl rfl kX10_lists nX10_lists (Nat.le_of_ble_eq_true rfl) JJ (fun zu zpc zl zst zM zk zn hj => ?_) ?_
  rotate_left
  · refine ⟨60, ?_⟩
    simp (decide := true) (disch := (first | exact eq_false (by decide) | exact eq_true (by decide) | decide | omega)) only [lX10_lists_0, lX10_lists_23, lX10_lists_56, lX10_lists_97, lX10_lists_110, bX10_lists_0, bX10_lists_23, bX10_lists_56, bX10_lists_97, bX10_lists_110, am_cat_i, am_cat_r, (show qX10_lists.2.2.2.1 = none from rfl), am_rok_none, w_aload_n, w_dup2, w_getfield, w_goto, w_iadd, w_iaload, w_iastore, w_icmp_lt, w_icmp_ne, w_iconst, w_if_eq, w_if_lt, w_if_ne, w_iinc, w_iload_n, w_istore_n, w_nop, w_puti, w_return, w_swap, sa_80, sg_60_16, sg_60_33, sp_60_29, sp_60_32, cI_0, cI_1, cI_m1, am_lk0, am_lk1, am_ld_some, am_isI_i, am_isJ_j, am_isR_r, am_st_eq, am_rmv_nil, am_rmv_t, am_rmv_i, am_rmv_r, sf_SH, sj_SH, sf_eq, sf_nk, sf_na, sf_sf, am_args_i, am_args_r, am_args_n, Nat.reduceAdd, List.cons_append, List.nil_append, Option.toList, List.drop_succ_cons, List.drop_zero, am_RP, am_CP, am_PH, Fin.isValue, Fin.val_zero, Fin.val_one, am_f2, am_f3, true_and, and_true, true_implies, false_implies, not_false_eq_true, ne_eq, nI_clampD, nI_leT, nI_leF, nI_ltT, nI_ltF, nI_eqT, nI_eqF, nI_lt0F, nI_0leT, nI_eq0T, nI_eq0F, nI_0ltT, nI_0ltF, nI_le0T, nI_le0F, nI_m1, nI_m1', m1_m1, m1_lt, m1_le, nI_mul, nI_add, nI_sub, nI_add1, nI_dec, nI_div, nI_mod, vp_inD, sf_nkD, sf_eqD]
    refine w_virtP (c_X10_laysEdges g h I J hS hG hM hC) rfl rfl rfl (of_eq_true so_60) rfl (Nat.le_refl _) (Nat.le_refl _) ?_
    rintro R M1 ⟨rfl, I1, rfl, f1, f2⟩
    simp (decide := true) (disch := (first | exact eq_false (by decide) | exact eq_true (by decide) | decide | omega)) only [lX10_lists_0, lX10_lists_23, lX10_lists_56, lX10_lists_97, lX10_lists_110, bX10_lists_0, bX10_lists_23, bX10_lists_56, bX10_lists_97, bX10_lists_110, am_cat_i, am_cat_r, (show qX10_lists.2.2.2.1 = none from rfl), am_rok_none, w_aload_n, w_dup2, w_getfield, w_goto, w_iadd, w_iaload, w_iastore, w_icmp_lt, w_icmp_ne, w_iconst, w_if_eq, w_if_lt, w_if_ne, w_iinc, w_iload_n, w_istore_n, w_nop, w_puti, w_return, w_swap, sa_80, sg_60_16, sg_60_33, sp_60_29, sp_60_32, cI_0, cI_1, cI_m1, am_lk0, am_lk1, am_ld_some, am_isI_i, am_isJ_j, am_isR_r, am_st_eq, am_rmv_nil, am_rmv_t, am_rmv_i, am_rmv_r, sf_SH, sj_SH, sf_eq, sf_nk, sf_na, sf_sf, am_args_i, am_args_r, am_args_n, Nat.reduceAdd, List.cons_append, List.nil_append, Option.toList, List.drop_succ_cons, List.drop_zero, am_RP, am_CP, am_PH, Fin.isValue, Fin.val_zero, Fin.val_one, am_f2, am_f3, true_and, and_true, true_implies, false_implies, not_false_eq_true, ne_eq, nI_clampD, nI_leT, nI_leF, nI_ltT, nI_ltF, nI_eqT, nI_eqF, nI_lt0F, nI_0leT, nI_eq0T, nI_eq0F, nI_0ltT, nI_0ltF, nI_le0T, nI_le0F, nI_m1, nI_m1', m1_m1, m1_lt, m1_le, nI_mul, nI_add, nI_sub, nI_add1, nI_dec, nI_div, nI_mod, vp_inD, sf_nkD, sf_eqD]
    refine ⟨_, _, ?_, mk1 [] 0 [] [] [] [] _ ⟨hn0, Nat.zero_le _, List.nodup_nil, fun f hf => (by cases hf)⟩ rfl rfl ?_ (fun k hk => absurd hk (Nat.not_lt_zero _)) ?_ ⟨?_, fun r hr => absurd hr (Nat.not_lt_zero _)⟩ ⟨fun c d1 d2 d3 => ?_, fun k d1 d2 d3 => ?_⟩ ?_ ?_⟩
    · (simp (decide := true) only [am_has, am_lk0, am_lk1, and_self, true_and, and_true] <;> first | rfl | (refine ⟨?_, ?_⟩ <;> rfl) | (refine ⟨?_, ?_, ?_⟩ <;> rfl) | (refine ⟨?_, ?_, ?_, ?_⟩ <;> rfl))
    · rw [List.nil_append, show tdU (kdF fs) fs.length C [] = [] from rfl, List.append_nil, tdA_0, hRL, show fs.length - ([] : List Nat).length - 1 + 1 = fs.length by simp; omega]
      simp
    · rw [show ([] : List Nat).length = 0 from rfl, sf_eq]; rfl
    · rw [sf_naD (by decide), sf_nkD (by decide), sf_eq]; rfl
    · rw [sf_naD (by omega), sf_naD d1, sf_naD d1, f1 c d2]
    · rw [sf_naD (by decide), sf_nkD d2, sf_nkD d1, f1 60 (by decide)]
    · exact f2.fr (by rw [sf_naD (by decide), sf_naD (by decide), sf_naD (by decide)])
    · rw [sf_naD (by decide), sf_eq]
  rw [hJJ] at hj
  clear hJJ
  rcases hj with ⟨u, i, os, p, s, l, I1, rfl, e1, e2, e3, e4, e5, e6, e7, e8, e9, e10, rfl, rfl, rfl, rfl, rfl, rfl⟩ | ⟨z, I1, rfl, e1, e2, e3, e4, e5, rfl, rfl, rfl, rfl, rfl, rfl⟩
  · refine ⟨_, 90, rfl, rfl, ?_⟩
    obtain ⟨b1, b2, b3, b4⟩ := e1
    have k16 : I1 60 16 = nI fs.length := by rw [e8.2 16 (by decide) (by decide) (by decide)]; exact h16
    have hinc := wI_inc i
    have hrl : u.reverse.length = u.length := List.length_reverse
    have hOC2 : ∀ v, OCd u.reverse (sf I1 80 u.length v) := fun v => e5.fr (fun k hk => by rw [sf_nkD (by omega)])
    by_cases hi : i = fs.length
    · cases u with
      | nil =>
        have e0 : ([] : List Nat).length = 0 := rfl
        rw [e0] at e6
        have h00 : nI 0 + -1 = -1 := by decide
        simp (decide := true) (disch := (first | exact eq_false (by decide) | exact eq_true (by decide) | decide | omega)) only [lX10_lists_0, lX10_lists_23, lX10_lists_56, lX10_lists_97, lX10_lists_110, bX10_lists_0, bX10_lists_23, bX10_lists_56, bX10_lists_97, bX10_lists_110, am_cat_i, am_cat_r, (show qX10_lists.2.2.2.1 = none from rfl), am_rok_none, w_aload_n, w_dup2, w_getfield, w_goto, w_iadd, w_iaload, w_iastore, w_icmp_lt, w_icmp_ne, w_iconst, w_if_eq, w_if_lt, w_if_ne, w_iinc, w_iload_n, w_istore_n, w_nop, w_puti, w_return, w_swap, sa_80, sg_60_16, sg_60_33, sp_60_29, sp_60_32, cI_0, cI_1, cI_m1, am_lk0, am_lk1, am_ld_some, am_isI_i, am_isJ_j, am_isR_r, am_st_eq, am_rmv_nil, am_rmv_t, am_rmv_i, am_rmv_r, sf_SH, sj_SH, sf_eq, sf_nk, sf_na, sf_sf, am_args_i, am_args_r, am_args_n, Nat.reduceAdd, List.cons_append, List.nil_append, Option.toList, List.drop_succ_cons, List.drop_zero, am_RP, am_CP, am_PH, Fin.isValue, Fin.val_zero, Fin.val_one, am_f2, am_f3, true_and, and_true, true_implies, false_implies, not_false_eq_true, ne_eq, nI_clampD, nI_leT, nI_leF, nI_ltT, nI_ltF, nI_eqT, nI_eqF, nI_lt0F, nI_0leT, nI_eq0T, nI_eq0F, nI_0ltT, nI_0ltF, nI_le0T, nI_le0F, nI_m1, nI_m1', m1_m1, m1_lt, m1_le, nI_mul, nI_add, nI_sub, nI_add1, nI_dec, nI_div, nI_mod, vp_inD, sf_nkD, sf_eqD, e0, e6, hinc, k16, h00]
        refine ⟨_, _, ?_, ?_, mk2 _ _ ?_ e8.s80 (e9.fr (by rw [sf_naD (by decide)])) (by rw [sf_naD (by decide)]; exact e10) m1_lt⟩
        · omega
        · (simp (decide := true) only [am_has, am_lk0, am_lk1, and_self, true_and, and_true] <;> first | rfl | (refine ⟨?_, ?_⟩ <;> rfl) | (refine ⟨?_, ?_, ?_⟩ <;> rfl) | (refine ⟨?_, ?_, ?_, ?_⟩ <;> rfl))
        rw [hi, tdA_n, show tdU (kdF fs) fs.length C [] = [] from rfl] at e4
        simp only [List.map_nil, List.append_nil] at e4
        rw [← e4]
        exact e7.fr (by rw [sf_naD (by decide)]) (by rw [sf_naD (by decide)]) (by rw [sf_naD (by decide)])
      | cons f u =>
        have hf := b4 f List.mem_cons_self
        have e0 : (f :: u).length = u.length + 1 := rfl
        have hrev : (f :: u).reverse = u.reverse ++ [f] := List.reverse_cons
        have hru : u.reverse.length = u.length := List.length_reverse
        rw [hrev] at e3
        obtain ⟨p', r', n1, n2, n3, n4, n5⟩ := rrun_next e3 (k := u.length) (by simp)
        have htk : (u.reverse ++ [f]).take u.length = u.reverse := by rw [← hru, List.take_left]
        rw [htk] at n1 n2
        have hof : I1 80 u.length = nI f := by
          have := e5 u.length (by rw [hrev]; simp)
          rw [hrev, ← hru, gD_new, hru] at this
          exact this
        have hm : wtU fs.length u + (fs.length + 1 - (f + 1)) * 13 ^ (fs.length - u.length) + 1 < wtU fs.length (f :: u) + (fs.length + 1 - i) * 13 ^ (fs.length - (u.length + 1)) + 1 := by
          rw [hi]
          exact wt_c fs.length f u hf
        rw [e0] at e6 b1
        simp (decide := true) (disch := (first | exact eq_false (by decide) | exact eq_true (by decide) | decide | omega)) only [lX10_lists_0, lX10_lists_23, lX10_lists_56, lX10_lists_97, lX10_lists_110, bX10_lists_0, bX10_lists_23, bX10_lists_56, bX10_lists_97, bX10_lists_110, am_cat_i, am_cat_r, (show qX10_lists.2.2.2.1 = none from rfl), am_rok_none, w_aload_n, w_dup2, w_getfield, w_goto, w_iadd, w_iaload, w_iastore, w_icmp_lt, w_icmp_ne, w_iconst, w_if_eq, w_if_lt, w_if_ne, w_iinc, w_iload_n, w_istore_n, w_nop, w_puti, w_return, w_swap, sa_80, sg_60_16, sg_60_33, sp_60_29, sp_60_32, cI_0, cI_1, cI_m1, am_lk0, am_lk1, am_ld_some, am_isI_i, am_isJ_j, am_isR_r, am_st_eq, am_rmv_nil, am_rmv_t, am_rmv_i, am_rmv_r, sf_SH, sj_SH, sf_eq, sf_nk, sf_na, sf_sf, am_args_i, am_args_r, am_args_n, Nat.reduceAdd, List.cons_append, List.nil_append, Option.toList, List.drop_succ_cons, List.drop_zero, am_RP, am_CP, am_PH, Fin.isValue, Fin.val_zero, Fin.val_one, am_f2, am_f3, true_and, and_true, true_implies, false_implies, not_false_eq_true, ne_eq, nI_clampD, nI_leT, nI_leF, nI_ltT, nI_ltF, nI_eqT, nI_eqF, nI_lt0F, nI_0leT, nI_eq0T, nI_eq0F, nI_0ltT, nI_0ltF, nI_le0T, nI_le0F, nI_m1, nI_m1', m1_m1, m1_lt, m1_le, nI_mul, nI_add, nI_sub, nI_add1, nI_dec, nI_div, nI_mod, vp_inD, sf_nkD, sf_eqD, e0, e6, hinc, k16, nI_dec1, Nat.add_sub_cancel]
        refine ⟨_, _, ?_, ?_, mk1 u (f + 1) os p' r' _ _ ⟨by omega, by omega, (List.nodup_cons.mp b3).2, fun f' hf' => b4 f' (List.mem_cons_of_mem _ hf')⟩ n1 n2 ?_ ?_ ?_ ?_ e8.s80 (e9.fr (by rw [sf_naD (by decide)])) (by rw [sf_naD (by decide)]; exact e10)⟩
        · omega
        · (simp (decide := true) only [am_has, am_lk0, am_lk1, and_self, true_and, and_true] <;> first | rfl | (refine ⟨?_, ?_⟩ <;> rfl) | (refine ⟨?_, ?_, ?_⟩ <;> rfl) | (refine ⟨?_, ?_, ?_, ?_⟩ <;> rfl))
        · rw [hi, tdA_n, tdU_c n1] at e4
          exact e4
        · refine OCd.fr (I := I1) (fun k hk => ?_) (fun k hk => by rw [sf_nkD (by omega)])
          have := e5 k (by rw [hrev, List.length_append]; omega)
          rw [hrev, gD_app hk] at this
          exact this
        · rw [sf_nkD (by omega), hof, wI_s]
        · exact e7.fr (by rw [sf_naD (by decide)]) (by rw [sf_naD (by decide)]) (by rw [sf_naD (by decide)])
    · have hin : i < fs.length := by omega
      have hma := wt_a fs.length i u hin
      have nxt : ∀ I2 : Nat → Nat → Int32, ¬ C (p :: s) u i → OCd u.reverse I2 → I2 80 u.length = nI i → RSo fs os I2 → FrLs I I2 → Edg (EP fs cs) I2 → I2 60 32 = nI 0 → JJ (wtU fs.length u + (fs.length + 1 - (i + 1)) * 13 ^ (fs.length - u.length) + 1) 23 [(0, .ref 60), (1, .int (nI u.length))] [] (am_SH, I2, J) 0 0 := by
        intro I2 q1 q2 q3 q4 q5 q6 q7
        refine mk1 u (i + 1) os p s l I2 ⟨b1, by omega, b3, b4⟩ e2 e3 ?_ q2 (by rw [q3, wI_s]) q4 q5 q6 q7
        rw [← tdA_f hin q1]
        exact e4
      simp (decide := true) (disch := (first | exact eq_false (by decide) | exact eq_true (by decide) | decide | omega)) only [lX10_lists_0, lX10_lists_23, lX10_lists_56, lX10_lists_97, lX10_lists_110, bX10_lists_0, bX10_lists_23, bX10_lists_56, bX10_lists_97, bX10_lists_110, am_cat_i, am_cat_r, (show qX10_lists.2.2.2.1 = none from rfl), am_rok_none, w_aload_n, w_dup2, w_getfield, w_goto, w_iadd, w_iaload, w_iastore, w_icmp_lt, w_icmp_ne, w_iconst, w_if_eq, w_if_lt, w_if_ne, w_iinc, w_iload_n, w_istore_n, w_nop, w_puti, w_return, w_swap, sa_80, sg_60_16, sg_60_33, sp_60_29, sp_60_32, cI_0, cI_1, cI_m1, am_lk0, am_lk1, am_ld_some, am_isI_i, am_isJ_j, am_isR_r, am_st_eq, am_rmv_nil, am_rmv_t, am_rmv_i, am_rmv_r, sf_SH, sj_SH, sf_eq, sf_nk, sf_na, sf_sf, am_args_i, am_args_r, am_args_n, Nat.reduceAdd, List.cons_append, List.nil_append, Option.toList, List.drop_succ_cons, List.drop_zero, am_RP, am_CP, am_PH, Fin.isValue, Fin.val_zero, Fin.val_one, am_f2, am_f3, true_and, and_true, true_implies, false_implies, not_false_eq_true, ne_eq, nI_clampD, nI_leT, nI_leF, nI_ltT, nI_ltF, nI_eqT, nI_eqF, nI_lt0F, nI_0leT, nI_eq0T, nI_eq0F, nI_0ltT, nI_0ltF, nI_le0T, nI_le0F, nI_m1, nI_m1', m1_m1, m1_lt, m1_le, nI_mul, nI_add, nI_sub, nI_add1, nI_dec, nI_div, nI_mod, vp_inD, sf_nkD, sf_eqD, e6, hinc, k16]
      refine w_virtE (hrl ▸ c_X10_isUsed g (h + 2) (sf I1 80 u.length (nI i)) J u.reverse i (hOC2 _) (fun f hf => by have := b4 f (List.mem_reverse.mp hf); omega) (by omega) (by omega)) rfl rfl rfl (of_eq_true so_60) rfl (Nat.le_refl _) (Nat.le_refl _) ?_
      by_cases hiu : i ∈ u
      · have hd : decide (i ∈ u.reverse) = true := decide_eq_true (List.mem_reverse.mpr hiu)
        simp (decide := true) (disch := (first | exact eq_false (by decide) | exact eq_true (by decide) | decide | omega)) only [lX10_lists_0, lX10_lists_23, lX10_lists_56, lX10_lists_97, lX10_lists_110, bX10_lists_0, bX10_lists_23, bX10_lists_56, bX10_lists_97, bX10_lists_110, am_cat_i, am_cat_r, (show qX10_lists.2.2.2.1 = none from rfl), am_rok_none, w_aload_n, w_dup2, w_getfield, w_goto, w_iadd, w_iaload, w_iastore, w_icmp_lt, w_icmp_ne, w_iconst, w_if_eq, w_if_lt, w_if_ne, w_iinc, w_iload_n, w_istore_n, w_nop, w_puti, w_return, w_swap, sa_80, sg_60_16, sg_60_33, sp_60_29, sp_60_32, cI_0, cI_1, cI_m1, am_lk0, am_lk1, am_ld_some, am_isI_i, am_isJ_j, am_isR_r, am_st_eq, am_rmv_nil, am_rmv_t, am_rmv_i, am_rmv_r, sf_SH, sj_SH, sf_eq, sf_nk, sf_na, sf_sf, am_args_i, am_args_r, am_args_n, Nat.reduceAdd, List.cons_append, List.nil_append, Option.toList, List.drop_succ_cons, List.drop_zero, am_RP, am_CP, am_PH, Fin.isValue, Fin.val_zero, Fin.val_one, am_f2, am_f3, true_and, and_true, true_implies, false_implies, not_false_eq_true, ne_eq, nI_clampD, nI_leT, nI_leF, nI_ltT, nI_ltF, nI_eqT, nI_eqF, nI_lt0F, nI_0leT, nI_eq0T, nI_eq0F, nI_0ltT, nI_0ltF, nI_le0T, nI_le0F, nI_m1, nI_m1', m1_m1, m1_lt, m1_le, nI_mul, nI_add, nI_sub, nI_add1, nI_dec, nI_div, nI_mod, vp_inD, sf_nkD, sf_eqD, hd, bI_t]
        refine ⟨_, _, ?_, ?_, nxt _ (fun h9 => by rw [hCd] at h9; exact h9.1 hiu) (hOC2 _) (by rw [sf_eq]) (e7.fr (by rw [sf_naD (by decide)]) (by rw [sf_naD (by decide)]) (by rw [sf_naD (by decide)])) e8.s80 (e9.fr (by rw [sf_naD (by decide)])) (by rw [sf_naD (by decide)]; exact e10)⟩
        · omega
        · (simp (decide := true) only [am_has, am_lk0, am_lk1, and_self, true_and, and_true] <;> first | rfl | (refine ⟨?_, ?_⟩ <;> rfl) | (refine ⟨?_, ?_, ?_⟩ <;> rfl) | (refine ⟨?_, ?_, ?_, ?_⟩ <;> rfl))
      · have hd : decide (i ∈ u.reverse) = false := decide_eq_false (fun h9 => hiu (List.mem_reverse.mp h9))
        have hO3 : OCd (u.reverse ++ [i]) (sf I1 80 u.length (nI i)) := e5.add (fun k hk => by rw [sf_nkD (by omega)]) (by rw [hrl, sf_eq])
        have hl3 : rrun (kdF fs) [[]] (u.reverse ++ [i]) = some (l ++ [(i, p)]) := by rw [rrun_app, e2, e3]; rfl
        have hs3 := rstk_snoc (kdF fs) i u.reverse [[]] p s e2
        have hnd3 : (u.reverse ++ [i]).Nodup := by
          rw [List.nodup_append]
          exact ⟨(List.Perm.nodup (List.reverse_perm u).symm b3), by simp, fun a ha b hb => by rw [List.mem_singleton.mp hb]; exact fun h9 => hiu (h9 ▸ List.mem_reverse.mp ha)⟩
        have hb3 : ∀ f ∈ u.reverse ++ [i], f < fs.length := fun f hf => by
          rcases List.mem_append.mp hf with hf | hf
          · exact b4 f (List.mem_reverse.mp hf)
          · rw [List.mem_singleton.mp hf]; exact hin
        have hlen3 : (u.reverse ++ [i]).length = u.length + 1 := by simp
        have hS2 : SMd L t fs (sf I1 80 u.length (nI i)) := hS.fr (by rw [sf_naD (by decide), e8.2 16 (by decide) (by decide) (by decide)]) (by rw [sf_naD (by decide), e8.2 23 (by decide) (by decide) (by decide)]) (fun c d1 d2 => by rw [sf_naD (by omega), e8.1 c (by omega) (by omega) (by omega)])
        have hms := c_X10_mayStand g h (sf I1 80 u.length (nI i)) J hS2 hG hC (e9.fr (by rw [sf_naD (by decide)])) (u.reverse ++ [i]) _ _ hO3 hl3 hs3 hnd3 hb3 (by omega) (by omega)
        rw [may_rref hC (p := p) (s := s) hiu hl3 hs3, ← hCd, hlen3] at hms
        simp (decide := true) (disch := (first | exact eq_false (by decide) | exact eq_true (by decide) | decide | omega)) only [lX10_lists_0, lX10_lists_23, lX10_lists_56, lX10_lists_97, lX10_lists_110, bX10_lists_0, bX10_lists_23, bX10_lists_56, bX10_lists_97, bX10_lists_110, am_cat_i, am_cat_r, (show qX10_lists.2.2.2.1 = none from rfl), am_rok_none, w_aload_n, w_dup2, w_getfield, w_goto, w_iadd, w_iaload, w_iastore, w_icmp_lt, w_icmp_ne, w_iconst, w_if_eq, w_if_lt, w_if_ne, w_iinc, w_iload_n, w_istore_n, w_nop, w_puti, w_return, w_swap, sa_80, sg_60_16, sg_60_33, sp_60_29, sp_60_32, cI_0, cI_1, cI_m1, am_lk0, am_lk1, am_ld_some, am_isI_i, am_isJ_j, am_isR_r, am_st_eq, am_rmv_nil, am_rmv_t, am_rmv_i, am_rmv_r, sf_SH, sj_SH, sf_eq, sf_nk, sf_na, sf_sf, am_args_i, am_args_r, am_args_n, Nat.reduceAdd, List.cons_append, List.nil_append, Option.toList, List.drop_succ_cons, List.drop_zero, am_RP, am_CP, am_PH, Fin.isValue, Fin.val_zero, Fin.val_one, am_f2, am_f3, true_and, and_true, true_implies, false_implies, not_false_eq_true, ne_eq, nI_clampD, nI_leT, nI_leF, nI_ltT, nI_ltF, nI_eqT, nI_eqF, nI_lt0F, nI_0leT, nI_eq0T, nI_eq0F, nI_0ltT, nI_0ltF, nI_le0T, nI_le0F, nI_m1, nI_m1', m1_m1, m1_lt, m1_le, nI_mul, nI_add, nI_sub, nI_add1, nI_dec, nI_div, nI_mod, vp_inD, sf_nkD, sf_eqD, hd, bI_f]
        refine w_virtP hms rfl rfl rfl (of_eq_true so_60) rfl (Nat.le_refl _) (Nat.le_refl _) ?_
        rintro R M1 ⟨b, rfl, hbc, I3, rfl, f1, f2, f3⟩
        have g1 : RSo fs os I3 := e7.fr (by rw [f1.2 29 (by decide), sf_naD (by decide)]) (by rw [f1.1 78 (by decide) (by decide) (by decide) (by decide), sf_naD (by decide)]) (by rw [f1.1 79 (by decide) (by decide) (by decide) (by decide), sf_naD (by decide)])
        have g80 : ∀ k, I3 80 k = sf I1 80 u.length (nI i) 80 k := fun k => by rw [f1.1 80 (by decide) (by decide) (by decide) (by decide)]
        have g2 : OCd u.reverse I3 := (hOC2 _).fr (fun k _ => g80 k)
        have g3 : I3 80 u.length = nI i := by rw [g80, sf_eq]
        have g4 : FrLs I I3 := e8.s80.o f1
        have g5 : Edg (EP fs cs) I3 := e9.fr (by rw [f1.1 75 (by decide) (by decide) (by decide) (by decide), sf_naD (by decide)])
        have g6 : I3 60 32 = nI 0 := by rw [f1.2 32 (by decide), sf_naD (by decide)]; exact e10
        have k16 : I3 60 16 = nI fs.length := by rw [g4.2 16 (by decide) (by decide) (by decide)]; exact h16
        cases b with
        | false =>
          simp (decide := true) (disch := (first | exact eq_false (by decide) | exact eq_true (by decide) | decide | omega)) only [lX10_lists_0, lX10_lists_23, lX10_lists_56, lX10_lists_97, lX10_lists_110, bX10_lists_0, bX10_lists_23, bX10_lists_56, bX10_lists_97, bX10_lists_110, am_cat_i, am_cat_r, (show qX10_lists.2.2.2.1 = none from rfl), am_rok_none, w_aload_n, w_dup2, w_getfield, w_goto, w_iadd, w_iaload, w_iastore, w_icmp_lt, w_icmp_ne, w_iconst, w_if_eq, w_if_lt, w_if_ne, w_iinc, w_iload_n, w_istore_n, w_nop, w_puti, w_return, w_swap, sa_80, sg_60_16, sg_60_33, sp_60_29, sp_60_32, cI_0, cI_1, cI_m1, am_lk0, am_lk1, am_ld_some, am_isI_i, am_isJ_j, am_isR_r, am_st_eq, am_rmv_nil, am_rmv_t, am_rmv_i, am_rmv_r, sf_SH, sj_SH, sf_eq, sf_nk, sf_na, sf_sf, am_args_i, am_args_r, am_args_n, Nat.reduceAdd, List.cons_append, List.nil_append, Option.toList, List.drop_succ_cons, List.drop_zero, am_RP, am_CP, am_PH, Fin.isValue, Fin.val_zero, Fin.val_one, am_f2, am_f3, true_and, and_true, true_implies, false_implies, not_false_eq_true, ne_eq, nI_clampD, nI_leT, nI_leF, nI_ltT, nI_ltF, nI_eqT, nI_eqF, nI_lt0F, nI_0leT, nI_eq0T, nI_eq0F, nI_0ltT, nI_0ltF, nI_le0T, nI_le0F, nI_m1, nI_m1', m1_m1, m1_lt, m1_le, nI_mul, nI_add, nI_sub, nI_add1, nI_dec, nI_div, nI_mod, vp_inD, sf_nkD, sf_eqD, bI_f]
          refine ⟨_, _, ?_, ?_, nxt _ (fun h9 => by have := hbc.mpr h9; cases this) g2 g3 g1 g4 g5 g6⟩
          · omega
          · (simp (decide := true) only [am_has, am_lk0, am_lk1, and_self, true_and, and_true] <;> first | rfl | (refine ⟨?_, ?_⟩ <;> rfl) | (refine ⟨?_, ?_, ?_⟩ <;> rfl) | (refine ⟨?_, ?_, ?_, ?_⟩ <;> rfl))
        | true =>
          have hyes := hbc.mp rfl
          have hA := tdA_t (kd := kdF fs) (m := fs.length - u.length - 1) hin hyes
          by_cases hfull : u.length + 1 = fs.length
          · have hS3 : SMd L t fs I3 := hS2.fr (f1.2 16 (by decide)) (f1.2 23 (by decide)) (fun c d1 d2 => f1.1 c (by omega) (by omega) (by omega) (by omega))
            have hO3' : OCd (u.reverse ++ [i]) I3 := hO3.fr (fun k _ => g80 k)
            rw [hA, show fs.length - u.length - 1 = 0 by omega] at e4
            have hr0 : (rdf (kdF fs) fs.length C 0 (rp (kdF fs) i p ++ s) (i :: u)).map (i :: ·) = [[i]] := rfl
            rw [hr0, List.map_append] at e4
            have e4 : os ++ ([u.reverse ++ [i]] ++ (tdA (kdF fs) fs.length C 0 p s u (i + 1)).map (u.reverse ++ ·) ++ tdU (kdF fs) fs.length C u) = RLs fs cs := e4
            have hosl : os.length < 720 := by
              have := congrArg List.length e4
              simp only [List.length_append, List.length_cons] at this
              omega
            simp (decide := true) (disch := (first | exact eq_false (by decide) | exact eq_true (by decide) | decide | omega)) only [lX10_lists_0, lX10_lists_23, lX10_lists_56, lX10_lists_97, lX10_lists_110, bX10_lists_0, bX10_lists_23, bX10_lists_56, bX10_lists_97, bX10_lists_110, am_cat_i, am_cat_r, (show qX10_lists.2.2.2.1 = none from rfl), am_rok_none, w_aload_n, w_dup2, w_getfield, w_goto, w_iadd, w_iaload, w_iastore, w_icmp_lt, w_icmp_ne, w_iconst, w_if_eq, w_if_lt, w_if_ne, w_iinc, w_iload_n, w_istore_n, w_nop, w_puti, w_return, w_swap, sa_80, sg_60_16, sg_60_33, sp_60_29, sp_60_32, cI_0, cI_1, cI_m1, am_lk0, am_lk1, am_ld_some, am_isI_i, am_isJ_j, am_isR_r, am_st_eq, am_rmv_nil, am_rmv_t, am_rmv_i, am_rmv_r, sf_SH, sj_SH, sf_eq, sf_nk, sf_na, sf_sf, am_args_i, am_args_r, am_args_n, Nat.reduceAdd, List.cons_append, List.nil_append, Option.toList, List.drop_succ_cons, List.drop_zero, am_RP, am_CP, am_PH, Fin.isValue, Fin.val_zero, Fin.val_one, am_f2, am_f3, true_and, and_true, true_implies, false_implies, not_false_eq_true, ne_eq, nI_clampD, nI_leT, nI_leF, nI_ltT, nI_ltF, nI_eqT, nI_eqF, nI_lt0F, nI_0leT, nI_eq0T, nI_eq0F, nI_0ltT, nI_0ltF, nI_le0T, nI_le0F, nI_m1, nI_m1', m1_m1, m1_lt, m1_le, nI_mul, nI_add, nI_sub, nI_add1, nI_dec, nI_div, nI_mod, vp_inD, sf_nkD, sf_eqD, bI_t, k16]
            refine w_virtP (c_X10_keepsReading g (h + 2) I3 J hS3 hn (u.reverse ++ [i]) _ os.length (by omega) g1.1 hO3' f2 hl3 hnd3 hb3 (by omega)) rfl rfl rfl (of_eq_true so_60) rfl (Nat.le_refl _) (Nat.le_refl _) ?_
            rintro R M1 ⟨rfl, I4, rfl, q1, q2, q3, q4, q5⟩
            simp (decide := true) (disch := (first | exact eq_false (by decide) | exact eq_true (by decide) | decide | omega)) only [lX10_lists_0, lX10_lists_23, lX10_lists_56, lX10_lists_97, lX10_lists_110, bX10_lists_0, bX10_lists_23, bX10_lists_56, bX10_lists_97, bX10_lists_110, am_cat_i, am_cat_r, (show qX10_lists.2.2.2.1 = none from rfl), am_rok_none, w_aload_n, w_dup2, w_getfield, w_goto, w_iadd, w_iaload, w_iastore, w_icmp_lt, w_icmp_ne, w_iconst, w_if_eq, w_if_lt, w_if_ne, w_iinc, w_iload_n, w_istore_n, w_nop, w_puti, w_return, w_swap, sa_80, sg_60_16, sg_60_33, sp_60_29, sp_60_32, cI_0, cI_1, cI_m1, am_lk0, am_lk1, am_ld_some, am_isI_i, am_isJ_j, am_isR_r, am_st_eq, am_rmv_nil, am_rmv_t, am_rmv_i, am_rmv_r, sf_SH, sj_SH, sf_eq, sf_nk, sf_na, sf_sf, am_args_i, am_args_r, am_args_n, Nat.reduceAdd, List.cons_append, List.nil_append, Option.toList, List.drop_succ_cons, List.drop_zero, am_RP, am_CP, am_PH, Fin.isValue, Fin.val_zero, Fin.val_one, am_f2, am_f3, true_and, and_true, true_implies, false_implies, not_false_eq_true, ne_eq, nI_clampD, nI_leT, nI_leF, nI_ltT, nI_ltF, nI_eqT, nI_eqF, nI_lt0F, nI_0leT, nI_eq0T, nI_eq0F, nI_0ltT, nI_0ltF, nI_le0T, nI_le0F, nI_m1, nI_m1', m1_m1, m1_lt, m1_le, nI_mul, nI_add, nI_sub, nI_add1, nI_dec, nI_div, nI_mod, vp_inD, sf_nkD, sf_eqD]
            have h80 : I4 80 = I3 80 := q1.1 80 (by decide) (by decide) (by decide)
            refine ⟨_, _, ?_, ?_, mk1 u (i + 1) (os ++ [u.reverse ++ [i]]) p s l I4 ⟨b1, by omega, b3, b4⟩ e2 e3 ?_ (g2.fr (fun k _ => by rw [h80])) (by rw [h80, g3, wI_s]) ⟨?_, fun r hr => ?_⟩ (g4.k q1) (g5.fr (q1.1 75 (by decide) (by decide) (by decide))) (by rw [q1.2 32 (by decide)]; exact g6)⟩
            · omega
            · (simp (decide := true) only [am_has, am_lk0, am_lk1, and_self, true_and, and_true] <;> first | rfl | (refine ⟨?_, ?_⟩ <;> rfl) | (refine ⟨?_, ?_, ?_⟩ <;> rfl) | (refine ⟨?_, ?_, ?_, ?_⟩ <;> rfl))
            · rw [show fs.length - u.length - 1 = 0 by omega, ← e4]
              simp only [List.append_assoc]
            · rw [q2, List.length_append]; rfl
            · rw [List.length_append, List.length_singleton] at hr
              by_cases hro : r = os.length
              · have : (os ++ [u.reverse ++ [i]]).getD r [] = u.reverse ++ [i] := by rw [hro]; simp [List.getD_eq_getElem?_getD]
                rw [this, hro]; exact q5
              · have hgo : (os ++ [u.reverse ++ [i]]).getD r [] = os.getD r [] := by simp only [List.getD_eq_getElem?_getD, List.getElem?_append_left (show r < os.length by omega)]
                rw [hgo]
                refine (g1.2 r (by omega)).fr hn (fun j hj => q3 j (by omega)) (fun j hj => q4 j (by omega)) (hxs _ ?_)
                rw [← e4]
                refine List.mem_append_left _ ?_
                rw [List.getD_eq_getElem?_getD, List.getElem?_eq_getElem (by omega)]
                exact List.getElem_mem _
          · have hne : rp (kdF fs) i p ++ s ≠ [] := by
              have hy := hyes
              rw [hCd, ← may_rref hC hiu hl3 hs3] at hy
              exact hy.1 (by omega)
            cases hst9 : rp (kdF fs) i p ++ s with
            | nil => exact absurd hst9 hne
            | cons p' s' =>
              have hmb := wt_b fs.length i u hin hn (by omega)
              have hrev : (i :: u).reverse = u.reverse ++ [i] := List.reverse_cons
              have e0 : (i :: u).length = u.length + 1 := rfl
              have hm1 : nI u.length + Int32.ofInt 1 = nI (i :: u).length := nI_add1 _
              simp (decide := true) (disch := (first | exact eq_false (by decide) | exact eq_true (by decide) | decide | omega)) only [lX10_lists_0, lX10_lists_23, lX10_lists_56, lX10_lists_97, lX10_lists_110, bX10_lists_0, bX10_lists_23, bX10_lists_56, bX10_lists_97, bX10_lists_110, am_cat_i, am_cat_r, (show qX10_lists.2.2.2.1 = none from rfl), am_rok_none, w_aload_n, w_dup2, w_getfield, w_goto, w_iadd, w_iaload, w_iastore, w_icmp_lt, w_icmp_ne, w_iconst, w_if_eq, w_if_lt, w_if_ne, w_iinc, w_iload_n, w_istore_n, w_nop, w_puti, w_return, w_swap, sa_80, sg_60_16, sg_60_33, sp_60_29, sp_60_32, cI_0, cI_1, cI_m1, am_lk0, am_lk1, am_ld_some, am_isI_i, am_isJ_j, am_isR_r, am_st_eq, am_rmv_nil, am_rmv_t, am_rmv_i, am_rmv_r, sf_SH, sj_SH, sf_eq, sf_nk, sf_na, sf_sf, am_args_i, am_args_r, am_args_n, Nat.reduceAdd, List.cons_append, List.nil_append, Option.toList, List.drop_succ_cons, List.drop_zero, am_RP, am_CP, am_PH, Fin.isValue, Fin.val_zero, Fin.val_one, am_f2, am_f3, true_and, and_true, true_implies, false_implies, not_false_eq_true, ne_eq, nI_clampD, nI_leT, nI_leF, nI_ltT, nI_ltF, nI_eqT, nI_eqF, nI_lt0F, nI_0leT, nI_eq0T, nI_eq0F, nI_0ltT, nI_0ltF, nI_le0T, nI_le0F, nI_m1, nI_m1', m1_m1, m1_lt, m1_le, nI_mul, nI_add, nI_sub, nI_add1, nI_dec, nI_div, nI_mod, vp_inD, sf_nkD, sf_eqD, bI_t, k16]
              refine ⟨_, _, ?_, ?_, mk1 (i :: u) 0 os p' s' _ _ ⟨by omega, Nat.zero_le _, List.nodup_cons.mpr ⟨hiu, b3⟩, fun f hf => ?_⟩ (by rw [hrev, hs3, hst9]) (by rw [hrev]; exact hl3) ?_ ?_ ?_ (g1.fr (by rw [sf_naD (by decide)]) (by rw [sf_naD (by decide)]) (by rw [sf_naD (by decide)])) g4.s80 (g5.fr (by rw [sf_naD (by decide)])) (by rw [sf_naD (by decide)]; exact g6)⟩
              · omega
              · (simp (decide := true) only [am_has, am_lk0, am_lk1, and_self, true_and, and_true] <;> first | rfl | (refine ⟨?_, ?_⟩ <;> rfl) | (refine ⟨?_, ?_, ?_⟩ <;> rfl) | (refine ⟨?_, ?_, ?_, ?_⟩ <;> rfl))
              · rcases List.mem_cons.mp hf with rfl | hf
                · exact hin
                · exact b4 f hf
              · rw [tdA_0, tdU_c e2, ← e4, hA, hst9, e0, show fs.length - (u.length + 1) - 1 + 1 = fs.length - u.length - 1 by omega, List.map_append, List.map_map, hrev]
                simp only [List.append_assoc]
                congr 2
              · rw [hrev]
                exact OCd.fr (I := I3) (hO3.fr (fun k _ => g80 k)) (fun k hk => by rw [sf_nkD (by omega)])
              · rw [e0, sf_eq]; rfl
  · refine ⟨_, 60, rfl, rfl, ?_⟩
    simp (decide := true) (disch := (first | exact eq_false (by decide) | exact eq_true (by decide) | decide | omega)) only [lX10_lists_0, lX10_lists_23, lX10_lists_56, lX10_lists_97, lX10_lists_110, bX10_lists_0, bX10_lists_23, bX10_lists_56, bX10_lists_97, bX10_lists_110, am_cat_i, am_cat_r, (show qX10_lists.2.2.2.1 = none from rfl), am_rok_none, w_aload_n, w_dup2, w_getfield, w_goto, w_iadd, w_iaload, w_iastore, w_icmp_lt, w_icmp_ne, w_iconst, w_if_eq, w_if_lt, w_if_ne, w_iinc, w_iload_n, w_istore_n, w_nop, w_puti, w_return, w_swap, sa_80, sg_60_16, sg_60_33, sp_60_29, sp_60_32, cI_0, cI_1, cI_m1, am_lk0, am_lk1, am_ld_some, am_isI_i, am_isJ_j, am_isR_r, am_st_eq, am_rmv_nil, am_rmv_t, am_rmv_i, am_rmv_r, sf_SH, sj_SH, sf_eq, sf_nk, sf_na, sf_sf, am_args_i, am_args_r, am_args_n, Nat.reduceAdd, List.cons_append, List.nil_append, Option.toList, List.drop_succ_cons, List.drop_zero, am_RP, am_CP, am_PH, Fin.isValue, Fin.val_zero, Fin.val_one, am_f2, am_f3, true_and, and_true, true_implies, false_implies, not_false_eq_true, ne_eq, nI_clampD, nI_leT, nI_leF, nI_ltT, nI_ltF, nI_eqT, nI_eqF, nI_lt0F, nI_0leT, nI_eq0T, nI_eq0F, nI_0ltT, nI_0ltF, nI_le0T, nI_le0F, nI_m1, nI_m1', m1_m1, m1_lt, m1_le, nI_mul, nI_add, nI_sub, nI_add1, nI_dec, nI_div, nI_mod, vp_inD, sf_nkD, sf_eqD, e5]
    exact ⟨I1, rfl, e2, e3, e1, e4⟩
end MA1
