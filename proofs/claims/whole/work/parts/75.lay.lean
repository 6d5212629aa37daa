/-! the class' layout of a reading -/
def fa (kd : Nat → Nat) (x : Nat) : Int32 := if kd (x / 2) = 4 ∧ x % 2 = 0 then nI 0 else if kd (x / 2) = 5 ∨ kd (x / 2) = 3 ∨ (kd (x / 2) = 1 ∧ x % 2 = 0) then -1 else nI 1
/-- the polarity of a path -/
def po (kd : Nat → Nat) : List Nat → Int32
  | [] => nI 1
  | x :: p => fa kd x * po kd p
def WHd (xs : List Nat) (I : Nat → Nat → Int32) : Prop := ∀ j, j < xs.length → I 45 j = nI (xs.getD (xs.length - 1 - j) 0)
theorem WHd.push {xs : List Nat} {I : Nat → Nat → Int32} (h : WHd xs I) (x : Nat) : WHd (x :: xs) (sf I 45 xs.length (nI x)) := by
  intro j hj
  rw [List.length_cons] at hj ⊢
  by_cases hjx : j = xs.length
  · rw [sf_eqD hjx, hjx, show xs.length + 1 - 1 - xs.length = 0 by omega]
    rfl
  · rw [sf_nkD hjx, h j (by omega), show xs.length + 1 - 1 - j = (xs.length - 1 - j) + 1 by omega]
    rfl
theorem WHd.top {x : Nat} {xs : List Nat} {I : Nat → Nat → Int32} (h : WHd (x :: xs) I) : I 45 xs.length = nI x := by
  have := h xs.length (by simp)
  rw [List.length_cons, show xs.length + 1 - 1 - xs.length = 0 by omega] at this
  exact this
theorem WHd.pop {x : Nat} {xs : List Nat} {I : Nat → Nat → Int32} (h : WHd (x :: xs) I) : WHd xs I := by
  intro j hj
  rw [h j (by rw [List.length_cons]; omega), List.length_cons, show xs.length + 1 - 1 - j = (xs.length - 1 - j) + 1 by omega]
  rfl
theorem WHd.fr {xs : List Nat} {I I' : Nat → Nat → Int32} (h : WHd xs I) (h2 : I' 45 = I 45) : WHd xs I' := fun j hj => by rw [h2]; exact h j hj
/-- the first k places are laid out -/
def LYk (kd : Nat → Nat) (o : List Nat) (l : List (Nat × List Nat)) (k : Nat) (I : Nat → Nat → Int32) : Prop := (∀ j, j < k → I 40 j = nI (o.getD j 0) ∧ I 41 (o.getD j 0) = nI j) ∧ (∀ q ∈ l.take k, I 42 q.1 = wI (hdc q.2) ∧ I 43 q.1 = po kd q.2) ∧ ∀ f x p, (f, x :: p) ∈ l.take k → I 44 x = nI f
theorem LYk.fr {kd : Nat → Nat} {o : List Nat} {l : List (Nat × List Nat)} {k : Nat} {I I' : Nat → Nat → Int32} (h : LYk kd o l k I) (h2 : ∀ c, 40 ≤ c → c ≤ 44 → I' c = I c) : LYk kd o l k I' := by
  unfold LYk
  rw [h2 40 (by omega) (by omega), h2 41 (by omega) (by omega), h2 42 (by omega) (by omega), h2 43 (by omega) (by omega), h2 44 (by omega) (by omega)]
  exact h
theorem LYk.add {kd : Nat → Nat} {o : List Nat} {l : List (Nat × List Nat)} {k : Nat} {I I' : Nat → Nat → Int32} (h : LYk kd o l k I) (hn : o.Nodup) (hk : k < o.length) (hl : rrun kd [[]] o = some l) {p : List Nat} (hp : l.take (k + 1) = l.take k ++ [(o.getD k 0, p)])
    (h0 : ∀ j, I' 40 j = if j = k then nI (o.getD k 0) else I 40 j) (h1 : ∀ j, I' 41 j = if j = o.getD k 0 then nI k else I 41 j) (h2 : ∀ j, I' 42 j = if j = o.getD k 0 then wI (hdc p) else I 42 j) (h3 : ∀ j, I' 43 j = if j = o.getD k 0 then po kd p else I 43 j) (h4 : ∀ j, I' 44 j = if p.head? = some j then nI (o.getD k 0) else I 44 j) : LYk kd o l (k + 1) I' := by
  have hfst := rrun_fst _ _ _ _ hl
  have hlnd : (l.map (·.1)).Nodup := by rw [hfst]; exact hn
  have hnew : (o.getD k 0, p) ∈ l := List.mem_of_mem_take (i := k + 1) (by rw [hp]; exact List.mem_append_right _ List.mem_cons_self)
  have hold : ∀ q ∈ l.take k, q.1 ≠ o.getD k 0 := fun q hq h9 => by
    have h8 : q.1 ∈ (l.take k).map (·.1) := List.mem_map.mpr ⟨q, hq, rfl⟩
    rw [List.map_take, hfst, h9] at h8
    have h7 := hn
    rw [← List.take_append_drop k o, List.nodup_append] at h7
    refine h7.2.2 _ h8 _ ?_ rfl
    rw [List.getD_eq_getElem?_getD, List.getElem?_eq_getElem hk, List.drop_eq_getElem_cons hk]
    exact List.mem_cons_self
  refine ⟨fun j hj => ?_, fun q hq => ?_, fun f x p' hm => ?_⟩
  · rw [h0, h1]
    by_cases hjk : j = k
    · rw [hjk, if_pos rfl, if_pos rfl]; exact ⟨rfl, rfl⟩
    · have hne : o.getD j 0 ≠ o.getD k 0 := fun h9 => hjk (gD_inj hn (by omega) hk h9)
      rw [if_neg hjk, if_neg hne]
      exact h.1 j (by omega)
  · rw [hp] at hq
    rw [h2, h3]
    rcases List.mem_append.mp hq with hq | hq
    · rw [if_neg (hold q hq), if_neg (hold q hq)]
      exact h.2.1 q hq
    · rw [List.mem_singleton.mp hq, if_pos rfl, if_pos rfl]
      exact ⟨rfl, rfl⟩
  · rw [hp] at hm
    rw [h4]
    rcases List.mem_append.mp hm with hm1 | hm1
    · clear hm
      rw [if_neg]
      · exact h.2.2 f x p' hm1
      · intro h9
        cases p with
        | nil => cases h9
        | cons y p =>
          have hyx : y = x := Option.some.inj h9
          subst hyx
          exact hold _ hm1 (rval_inj hl hn (List.mem_of_mem_take hm1) hnew)
    · have h9 := Prod.mk.inj (List.mem_singleton.mp hm1)
      rw [← h9.2, h9.1, if_pos (show (x :: p').head? = some x from rfl)]
def FrY (I I' : Nat → Nat → Int32) : Prop := ∀ c, c < 40 ∨ 45 < c → I' c = I c
theorem FrY.st {I I' : Nat → Nat → Int32} (h : FrY I I') {a k : Nat} {v : Int32} (ha : 40 ≤ a ∧ a ≤ 45) : FrY I (sf I' a k v) := fun c hc => by rw [sf_naD (by omega)]; exact h c hc
theorem sf_if (I : Nat → Nat → Int32) (a k : Nat) (v : Int32) (j : Nat) : sf I a k v a j = if j = k then v else I a j := by
  by_cases h : j = k
  · rw [sf_eqD h, if_pos h]
  · rw [sf_nkD h, if_neg h]
section LA1
variable (g : am_G) (h : Nat) (I : Nat → Nat → Int32) (J : Nat → Nat → Int64) {L : Nat → Nat} {t : Nat} {fs : List Fg} {cs : List (Nat × Nat)}
set_option maxRecDepth 100000 in
set_option maxHeartbeats 8000000 in
theorem c_X2_polarityIn (x k : Nat) (v : Int32) (kd : Nat → Nat) (hx : x < 22) (hk : I 4 (x / 2) = nI k) (h5 : k < 6) (hkd : kd (x / 2) = k) (hv : I 43 (x / 2) = v) :
    am_Ctr g am_mt 1 (h + 1) 19 [.ref 39, .int (nI x)] (am_SH, I, J) 0 0 (fun r M => r = some (.int (fa kd x * v)) ∧ M = (am_SH, I, J)) := by
  refine am_rule0 (q := qX2_polarityIn) (B := am_blk bX2_polarityIn) 60 rfl rfl kX2_polarityIn nX2_polarityIn (Nat.le_of_ble_eq_true rfl) ?_
  have e0 : nI 0 * v = nI 0 := by rw [nI_0]; exact Int32.zero_mul
  have e1 : nI 1 * v = v := Int32.one_mul v
  have e2 : (-1 : Int32) * v = -v := (Int32.neg_eq_neg_one_mul v).symm
  have hk6 : k = 0 ∨ k = 1 ∨ k = 2 ∨ k = 3 ∨ k = 4 ∨ k = 5 := by omega
  unfold fa
  rw [hkd]
  by_cases hm : x % 2 = 0
  · rcases hk6 with rfl | rfl | rfl | rfl | rfl | rfl <;> (simp (decide := true) (disch := (first | exact eq_false (by decide) | exact eq_true (by decide) | decide | omega)) only [lX2_polarityIn_0, lX2_polarityIn_22, lX2_polarityIn_23, lX2_polarityIn_35, lX2_polarityIn_54, lX2_polarityIn_58, lX2_polarityIn_59, lX2_polarityIn_82, lX2_polarityIn_84, bX2_polarityIn_0, bX2_polarityIn_22, bX2_polarityIn_23, bX2_polarityIn_35, bX2_polarityIn_54, bX2_polarityIn_58, bX2_polarityIn_59, bX2_polarityIn_82, bX2_polarityIn_84, (show qX2_polarityIn.2.2.2.1 = (some .int) from rfl), am_rok_int, w_aload_n, w_getfield, w_goto, w_iaload, w_icmp_eq, w_icmp_ne, w_iconst, w_idiv, w_if_eq, w_if_ne, w_iload, w_iload_n, w_ineg, w_irem, w_ireturn, w_istore, w_istore_n, w_swap, sa_17, sa_4, sa_43, sg_15_2, sg_2_2, sg_39_0, sg_39_4, cI_0, cI_1, cI_2, cI_3, cI_4, cI_5, am_lk0, am_lk1, am_ld_some, am_isI_i, am_isJ_j, am_isR_r, am_st_eq, am_rmv_nil, am_rmv_t, am_rmv_i, am_rmv_r, sf_SH, sj_SH, sf_eq, sf_nk, sf_na, sf_sf, am_args_i, am_args_r, am_args_n, Nat.reduceAdd, List.cons_append, List.nil_append, Option.toList, List.drop_succ_cons, List.drop_zero, am_RP, am_CP, am_PH, Fin.isValue, Fin.val_zero, Fin.val_one, am_f2, am_f3, true_and, and_true, true_implies, false_implies, not_false_eq_true, ne_eq, nI_clampD, nI_leT, nI_leF, nI_ltT, nI_ltF, nI_eqT, nI_eqF, nI_lt0F, nI_0leT, nI_eq0T, nI_eq0F, nI_0ltT, nI_0ltF, nI_le0T, nI_le0F, nI_m1, nI_m1', m1_m1, m1_lt, m1_le, nI_mul, nI_add, nI_sub, nI_add1, nI_dec, nI_div, nI_mod, vp_inD, sf_nkD, sf_eqD, hk, hm, hv]; simp [e0, e1, e2])
  · have hm : x % 2 = 1 := by omega
    rcases hk6 with rfl | rfl | rfl | rfl | rfl | rfl <;> (simp (decide := true) (disch := (first | exact eq_false (by decide) | exact eq_true (by decide) | decide | omega)) only [lX2_polarityIn_0, lX2_polarityIn_22, lX2_polarityIn_23, lX2_polarityIn_35, lX2_polarityIn_54, lX2_polarityIn_58, lX2_polarityIn_59, lX2_polarityIn_82, lX2_polarityIn_84, bX2_polarityIn_0, bX2_polarityIn_22, bX2_polarityIn_23, bX2_polarityIn_35, bX2_polarityIn_54, bX2_polarityIn_58, bX2_polarityIn_59, bX2_polarityIn_82, bX2_polarityIn_84, (show qX2_polarityIn.2.2.2.1 = (some .int) from rfl), am_rok_int, w_aload_n, w_getfield, w_goto, w_iaload, w_icmp_eq, w_icmp_ne, w_iconst, w_idiv, w_if_eq, w_if_ne, w_iload, w_iload_n, w_ineg, w_irem, w_ireturn, w_istore, w_istore_n, w_swap, sa_17, sa_4, sa_43, sg_15_2, sg_2_2, sg_39_0, sg_39_4, cI_0, cI_1, cI_2, cI_3, cI_4, cI_5, am_lk0, am_lk1, am_ld_some, am_isI_i, am_isJ_j, am_isR_r, am_st_eq, am_rmv_nil, am_rmv_t, am_rmv_i, am_rmv_r, sf_SH, sj_SH, sf_eq, sf_nk, sf_na, sf_sf, am_args_i, am_args_r, am_args_n, Nat.reduceAdd, List.cons_append, List.nil_append, Option.toList, List.drop_succ_cons, List.drop_zero, am_RP, am_CP, am_PH, Fin.isValue, Fin.val_zero, Fin.val_one, am_f2, am_f3, true_and, and_true, true_implies, false_implies, not_false_eq_true, ne_eq, nI_clampD, nI_leT, nI_leF, nI_ltT, nI_ltF, nI_eqT, nI_eqF, nI_lt0F, nI_0leT, nI_eq0T, nI_eq0F, nI_0ltT, nI_0ltF, nI_le0T, nI_le0F, nI_m1, nI_m1', m1_m1, m1_lt, m1_le, nI_mul, nI_add, nI_sub, nI_add1, nI_dec, nI_div, nI_mod, vp_inD, sf_nkD, sf_eqD, hk, hm, hv]; simp [e0, e1, e2])
set_option maxRecDepth 100000 in
set_option maxHeartbeats 400000 in
theorem c_X2_putIn (x f k : Nat) (v : Int32) (kd : Nat → Nat) (hx : x < 22) (hf : f < 11) (hk : I 4 (x / 2) = nI k) (h5 : k < 6) (hkd : kd (x / 2) = k) (hv : I 43 (x / 2) = v) :
    am_Ctr g am_mt 1 (h + 2) 18 [.ref 39, .int (nI x), .int (nI f)] (am_SH, I, J) 0 0 (fun r M => r = none ∧ M = (am_SH, sf (sf (sf I 44 x (nI f)) 42 f (nI x)) 43 f (fa kd x * v), J)) := by
  refine am_rule0 (q := qX2_putIn) (B := am_blk bX2_putIn) 60 rfl rfl kX2_putIn nX2_putIn (Nat.le_of_ble_eq_true rfl) ?_
  simp (decide := true) (disch := (first | exact eq_false (by decide) | exact eq_true (by decide) | decide | omega)) only [lX2_putIn_0, bX2_putIn_0, (show qX2_putIn.2.2.2.1 = none from rfl), am_rok_none, w_aload_n, w_getfield, w_iastore, w_iload_n, w_return, sa_42, sa_43, sa_44, sg_39_3, sg_39_4, sg_39_5, am_lk0, am_lk1, am_ld_some, am_isI_i, am_isJ_j, am_isR_r, am_st_eq, am_rmv_nil, am_rmv_t, am_rmv_i, am_rmv_r, sf_SH, sj_SH, sf_eq, sf_nk, sf_na, sf_sf, am_args_i, am_args_r, am_args_n, Nat.reduceAdd, List.cons_append, List.nil_append, Option.toList, List.drop_succ_cons, List.drop_zero, am_RP, am_CP, am_PH, Fin.isValue, Fin.val_zero, Fin.val_one, am_f2, am_f3, true_and, and_true, true_implies, false_implies, not_false_eq_true, ne_eq, nI_clampD, nI_leT, nI_leF, nI_ltT, nI_ltF, nI_eqT, nI_eqF, nI_lt0F, nI_0leT, nI_eq0T, nI_eq0F, nI_0ltT, nI_0ltF, nI_le0T, nI_le0F, nI_m1, nI_m1', m1_m1, m1_lt, m1_le, nI_mul, nI_add, nI_sub, nI_add1, nI_dec, nI_div, nI_mod, vp_inD, sf_nkD, sf_eqD]
  refine w_virtE (c_X2_polarityIn g h (sf (sf I 44 x (nI f)) 42 f (nI x)) J x k v kd hx (by rw [sf_naD (by decide), sf_naD (by decide)]; exact hk) h5 hkd (by rw [sf_naD (by decide), sf_naD (by decide)]; exact hv)) rfl rfl rfl (of_eq_true so_39) rfl (Nat.le_refl _) (Nat.le_refl _) ?_
  simp (decide := true) (disch := (first | exact eq_false (by decide) | exact eq_true (by decide) | decide | omega)) only [lX2_putIn_0, bX2_putIn_0, (show qX2_putIn.2.2.2.1 = none from rfl), am_rok_none, w_aload_n, w_getfield, w_iastore, w_iload_n, w_return, sa_42, sa_43, sa_44, sg_39_3, sg_39_4, sg_39_5, am_lk0, am_lk1, am_ld_some, am_isI_i, am_isJ_j, am_isR_r, am_st_eq, am_rmv_nil, am_rmv_t, am_rmv_i, am_rmv_r, sf_SH, sj_SH, sf_eq, sf_nk, sf_na, sf_sf, am_args_i, am_args_r, am_args_n, Nat.reduceAdd, List.cons_append, List.nil_append, Option.toList, List.drop_succ_cons, List.drop_zero, am_RP, am_CP, am_PH, Fin.isValue, Fin.val_zero, Fin.val_one, am_f2, am_f3, true_and, and_true, true_implies, false_implies, not_false_eq_true, ne_eq, nI_clampD, nI_leT, nI_leF, nI_ltT, nI_ltF, nI_eqT, nI_eqF, nI_lt0F, nI_0leT, nI_eq0T, nI_eq0F, nI_0ltT, nI_0ltF, nI_le0T, nI_le0F, nI_m1, nI_m1', m1_m1, m1_lt, m1_le, nI_mul, nI_add, nI_sub, nI_add1, nI_dec, nI_div, nI_mod, vp_inD, sf_nkD, sf_eqD]
set_option maxRecDepth 100000 in
set_option maxHeartbeats 8000000 in
theorem c_X2_lay (hS : SN L t fs I) (o : List Nat) (l : List (Nat × List Nat)) (hl : rrun (kdF fs) [[]] o = some l) (hnd : o.Nodup) (hb : ∀ f ∈ o, f < fs.length) (hol : o.length = fs.length) :
    am_Ctr g am_mt 1 (h + 3) 17 [.ref 39, .long (cd (Int64.ofNat 0) o)] (am_SH, I, J) 0 0 (fun r M => r = none ∧ ∃ I', M = (am_SH, I', J) ∧ FrY I I' ∧ LYk (kdF fs) o l fs.length I') := by
  have hn := hS.2.le
  have h1 : I 2 1 = nI fs.length := hS.1.1
  have hb11 : ∀ f ∈ o, f < 11 := fun f hf => by have := hb f hf; omega
  have hlt : ∀ {k s1}, rstk (kdF fs) [[]] (o.take k) = some s1 → s1.length ≤ 12 := fun {k s1} h0 => by
    have h9 := rstk_len _ _ _ _ h0
    rw [List.length_take] at h9
    simp only [List.length_cons, List.length_nil] at h9
    omega
  obtain ⟨JJ, hJJ⟩ : ∃ JJ : Nat → am_Cut, JJ = (fun zu zpc zl zst zM zk zn => (∃ (k : Nat) (sk : List (List Nat)) (I1 : Nat → Nat → Int32), zu = 100 * (fs.length - k) ∧ (k ≤ fs.length) ∧ (FrY I I1) ∧ (LYk (kdF fs) o l k I1) ∧ (rstk (kdF fs) [[]] (o.take k) = some sk) ∧ (WHd (hsd sk) I1) ∧ zpc = 14 ∧ zl = [(0, .ref 39), (1, .long (cd (Int64.ofNat 0) o)), (3, .int (nI fs.length)), (4, .int (nI (hsd sk).length)), (5, .int (nI k))] ∧ zst = [] ∧ zM = (am_SH, I1, J) ∧ zk = 0 ∧ zn = 0) ∨ (∃ (k i j : Nat) (xs : List Nat) (p : List Nat) (sk : List (List Nat)) (I1 : Nat → Nat → Int32), zu = 100 * (fs.length - k - 1) + 1 + i ∧ (k < fs.length) ∧ (FrY I I1) ∧ (LYk (kdF fs) o l (k + 1) I1) ∧ (rstk (kdF fs) [[]] (o.take k) = some (p :: sk)) ∧ (i ≤ rk (kF (nF fs (o.getD k 0)))) ∧ (xs = (List.range' i (rk (kF (nF fs (o.getD k 0))) - i)).map (fun i => 2 * (o.getD k 0) + i) ++ hsd sk ∧ j = xs.length) ∧ (WHd xs I1) ∧ zpc = 118 ∧ zl = [(0, .ref 39), (1, .long (cd (Int64.ofNat 0) o)), (3, .int (nI fs.length)), (4, .int (nI j)), (5, .int (nI k)), (7, .int (nI (o.getD k 0))), (8, .int (wI i))] ∧ zst = [] ∧ zM = (am_SH, I1, J) ∧ zk = 0 ∧ zn = 0)) := ⟨_, rfl⟩
  have mk1 : ∀ (k : Nat) (sk : List (List Nat)) (I1 : Nat → Nat → Int32), (k ≤ fs.length) → (FrY I I1) → (LYk (kdF fs) o l k I1) → (rstk (kdF fs) [[]] (o.take k) = some sk) → (WHd (hsd sk) I1) → JJ (100 * (fs.length - k)) 14 [(0, .ref 39), (1, .long (cd (Int64.ofNat 0) o)), (3, .int (nI fs.length)), (4, .int (nI (hsd sk).length)), (5, .int (nI k))] [] (am_SH, I1, J) 0 0 := by
    intro k sk I1 a0 a1 a2 a3 a4
    rw [hJJ]
    exact Or.inl ⟨k, sk, I1, rfl, a0, a1, a2, a3, a4, rfl, rfl, rfl, rfl, rfl, rfl⟩
  have mk2 : ∀ (k i j : Nat) (xs : List Nat) (p : List Nat) (sk : List (List Nat)) (I1 : Nat → Nat → Int32), (k < fs.length) → (FrY I I1) → (LYk (kdF fs) o l (k + 1) I1) → (rstk (kdF fs) [[]] (o.take k) = some (p :: sk)) → (i ≤ rk (kF (nF fs (o.getD k 0)))) → (xs = (List.range' i (rk (kF (nF fs (o.getD k 0))) - i)).map (fun i => 2 * (o.getD k 0) + i) ++ hsd sk ∧ j = xs.length) → (WHd xs I1) → JJ (100 * (fs.length - k - 1) + 1 + i) 118 [(0, .ref 39), (1, .long (cd (Int64.ofNat 0) o)), (3, .int (nI fs.length)), (4, .int (nI j)), (5, .int (nI k)), (7, .int (nI (o.getD k 0))), (8, .int (wI i))] [] (am_SH, I1, J) 0 0 := by
    intro k i j xs p sk I1 a0 a1 a2 a3 a4 a5 a6
    rw [hJJ]
    exact Or.inr (⟨k, i, j, xs, p, sk, I1, rfl, a0, a1, a2, a3, a4, a5, a6, rfl, rfl, rfl, rfl, rfl, rfl⟩)
  refine am_rule2 (q := qX2_lay) (B := am_blk bX2_lay) rfl rfl kX2_lay nX2_lay (Nat.le_of_ble_eq_true rfl) JJ (fun zu zpc zl zst zM zk zn hj => ?_) ?_
  rotate_left
  · refine ⟨60, ?_⟩
    simp (decide := true) (disch := (first | exact eq_false (by decide) | exact eq_true (by decide) | decide | omega)) only [lX2_lay_0, lX2_lay_14, lX2_lay_47, lX2_lay_89, lX2_lay_105, lX2_lay_118, lX2_lay_150, lX2_lay_156, lX2_lay_162, bX2_lay_0, bX2_lay_14, bX2_lay_47, bX2_lay_89, bX2_lay_105, bX2_lay_118, bX2_lay_150, bX2_lay_156, bX2_lay_162, am_rmv_j, am_rmv_jt, am_args_j, am_st2_eq, am_rmw_n, am_rmw_t, am_rmw_f, (show qX2_lay.2.2.2.1 = none from rfl), am_rok_none, w_alen_38, w_alen_45, w_alen_55, w_alen_67, w_aload_n, w_bipush, w_getfield, w_goto, w_iadd, w_iaload, w_iand, w_iastore, w_icmp_ge, w_icmp_lt, w_iconst, w_if_le, w_if_lt, w_iinc, w_iload, w_iload_n, w_imul, w_istore, w_istore_n, w_isub, w_l2i, w_lload_n, w_lshr, w_nop, w_return, w_swap, sa_40, sa_41, sa_42, sa_43, sa_45, sg_15_1, sg_2_1, sg_39_0, sg_39_1, sg_39_2, sg_39_3, sg_39_4, sg_39_6, cB_15, cI_0, cI_1, cI_2, cI_4, cI_m1, am_lk0, am_lk1, am_ld_some, am_isI_i, am_isJ_j, am_isR_r, am_st_eq, am_rmv_nil, am_rmv_t, am_rmv_i, am_rmv_r, sf_SH, sj_SH, sf_eq, sf_nk, sf_na, sf_sf, am_args_i, am_args_r, am_args_n, Nat.reduceAdd, List.cons_append, List.nil_append, Option.toList, List.drop_succ_cons, List.drop_zero, am_RP, am_CP, am_PH, Fin.isValue, Fin.val_zero, Fin.val_one, am_f2, am_f3, true_and, and_true, true_implies, false_implies, not_false_eq_true, ne_eq, nI_clampD, nI_leT, nI_leF, nI_ltT, nI_ltF, nI_eqT, nI_eqF, nI_lt0F, nI_0leT, nI_eq0T, nI_eq0F, nI_0ltT, nI_0ltF, nI_le0T, nI_le0F, nI_m1, nI_m1', m1_m1, m1_lt, m1_le, nI_mul, nI_add, nI_sub, nI_add1, nI_dec, nI_div, nI_mod, vp_inD, sf_nkD, sf_eqD, h1]
    refine ⟨_, _, ?_, mk1 0 [[]] I (by omega) (fun _ _ => rfl) ⟨fun j hj => absurd hj (Nat.not_lt_zero _), fun q hq => (by simp at hq), fun f x p hm => (by simp at hm)⟩ rfl (fun j hj => absurd hj (Nat.not_lt_zero _))⟩
    · (simp (decide := true) only [am_has, am_lk0, am_lk1, and_self, true_and, and_true] <;> first | rfl | (refine ⟨?_, ?_⟩ <;> rfl) | (refine ⟨?_, ?_, ?_⟩ <;> rfl) | (refine ⟨?_, ?_, ?_, ?_⟩ <;> rfl))
  rw [hJJ] at hj
  clear hJJ
  rcases hj with ⟨k, sk, I1, rfl, e1, e2, e3, e4, e5, rfl, rfl, rfl, rfl, rfl, rfl⟩ | ⟨k, i, j, xs, p, sk, I1, rfl, e1, e2, e3, e4, e5, e6, e7, rfl, rfl, rfl, rfl, rfl, rfl⟩
  · refine ⟨_, 90, rfl, rfl, ?_⟩
    by_cases hk : k = fs.length
    · subst hk
      simp (decide := true) (disch := (first | exact eq_false (by decide) | exact eq_true (by decide) | decide | omega)) only [lX2_lay_0, lX2_lay_14, lX2_lay_47, lX2_lay_89, lX2_lay_105, lX2_lay_118, lX2_lay_150, lX2_lay_156, lX2_lay_162, bX2_lay_0, bX2_lay_14, bX2_lay_47, bX2_lay_89, bX2_lay_105, bX2_lay_118, bX2_lay_150, bX2_lay_156, bX2_lay_162, am_rmv_j, am_rmv_jt, am_args_j, am_st2_eq, am_rmw_n, am_rmw_t, am_rmw_f, (show qX2_lay.2.2.2.1 = none from rfl), am_rok_none, w_alen_38, w_alen_45, w_alen_55, w_alen_67, w_aload_n, w_bipush, w_getfield, w_goto, w_iadd, w_iaload, w_iand, w_iastore, w_icmp_ge, w_icmp_lt, w_iconst, w_if_le, w_if_lt, w_iinc, w_iload, w_iload_n, w_imul, w_istore, w_istore_n, w_isub, w_l2i, w_lload_n, w_lshr, w_nop, w_return, w_swap, sa_40, sa_41, sa_42, sa_43, sa_45, sg_15_1, sg_2_1, sg_39_0, sg_39_1, sg_39_2, sg_39_3, sg_39_4, sg_39_6, cB_15, cI_0, cI_1, cI_2, cI_4, cI_m1, am_lk0, am_lk1, am_ld_some, am_isI_i, am_isJ_j, am_isR_r, am_st_eq, am_rmv_nil, am_rmv_t, am_rmv_i, am_rmv_r, sf_SH, sj_SH, sf_eq, sf_nk, sf_na, sf_sf, am_args_i, am_args_r, am_args_n, Nat.reduceAdd, List.cons_append, List.nil_append, Option.toList, List.drop_succ_cons, List.drop_zero, am_RP, am_CP, am_PH, Fin.isValue, Fin.val_zero, Fin.val_one, am_f2, am_f3, true_and, and_true, true_implies, false_implies, not_false_eq_true, ne_eq, nI_clampD, nI_leT, nI_leF, nI_ltT, nI_ltF, nI_eqT, nI_eqF, nI_lt0F, nI_0leT, nI_eq0T, nI_eq0F, nI_0ltT, nI_0ltF, nI_le0T, nI_le0F, nI_m1, nI_m1', m1_m1, m1_lt, m1_le, nI_mul, nI_add, nI_sub, nI_add1, nI_dec, nI_div, nI_mod, vp_inD, sf_nkD, sf_eqD]
      exact ⟨I1, rfl, e2, e3⟩
    · have hko : k < o.length := by omega
      obtain ⟨p, r, n1, n2, n3, n4, n5⟩ := rrun_next hl hko
      rw [e4] at n1
      have n1 := Option.some.inj n1
      subst n1
      have hg := gD_lt hb hko
      have hS1 : SN L t fs I1 := hS.fr (fun c _ _ => e2 c (by omega))
      have hk4 : ∀ f, f < fs.length → I1 4 f = nI (kF (nF fs f)) := fun f hf => hS1.1.2.2.1 f hf
      have hk6 : ∀ f, f < fs.length → kF (nF fs f) < 6 := fun f hf => hS.2.k6 hf
      have hk6' := hk6 _ hg
      have hlay := lay_n hb11 (by omega) hko
      rw [hol] at hlay
      have hd' := wI_dec' (i := rk (kF (nF fs (o.getD k 0))))
      have hr2 := rk_le (kF (nF fs (o.getD k 0)))
      have hlen := hlt e4
      have hl2 := hsd_le (p :: r)
      rw [List.length_cons] at hlen hl2
      by_cases hk0 : k = 0
      · subst hk0
        have hp0 : p = [] := by
          simp only [List.take_zero, rstk, Option.some.injEq, List.cons.injEq] at e4
          exact e4.1.symm
        subst hp0
        have hr0 : r = [] := by
          simp only [List.take_zero, rstk, Option.some.injEq, List.cons.injEq] at e4
          exact e4.2.symm
        subst hr0
        have hz : (hsd [[]]).length = 0 := rfl
        simp (decide := true) (disch := (first | exact eq_false (by decide) | exact eq_true (by decide) | decide | omega)) only [lX2_lay_0, lX2_lay_14, lX2_lay_47, lX2_lay_89, lX2_lay_105, lX2_lay_118, lX2_lay_150, lX2_lay_156, lX2_lay_162, bX2_lay_0, bX2_lay_14, bX2_lay_47, bX2_lay_89, bX2_lay_105, bX2_lay_118, bX2_lay_150, bX2_lay_156, bX2_lay_162, am_rmv_j, am_rmv_jt, am_args_j, am_st2_eq, am_rmw_n, am_rmw_t, am_rmw_f, (show qX2_lay.2.2.2.1 = none from rfl), am_rok_none, w_alen_38, w_alen_45, w_alen_55, w_alen_67, w_aload_n, w_bipush, w_getfield, w_goto, w_iadd, w_iaload, w_iand, w_iastore, w_icmp_ge, w_icmp_lt, w_iconst, w_if_le, w_if_lt, w_iinc, w_iload, w_iload_n, w_imul, w_istore, w_istore_n, w_isub, w_l2i, w_lload_n, w_lshr, w_nop, w_return, w_swap, sa_40, sa_41, sa_42, sa_43, sa_45, sg_15_1, sg_2_1, sg_39_0, sg_39_1, sg_39_2, sg_39_3, sg_39_4, sg_39_6, cB_15, cI_0, cI_1, cI_2, cI_4, cI_m1, am_lk0, am_lk1, am_ld_some, am_isI_i, am_isJ_j, am_isR_r, am_st_eq, am_rmv_nil, am_rmv_t, am_rmv_i, am_rmv_r, sf_SH, sj_SH, sf_eq, sf_nk, sf_na, sf_sf, am_args_i, am_args_r, am_args_n, Nat.reduceAdd, List.cons_append, List.nil_append, Option.toList, List.drop_succ_cons, List.drop_zero, am_RP, am_CP, am_PH, Fin.isValue, Fin.val_zero, Fin.val_one, am_f2, am_f3, true_and, and_true, true_implies, false_implies, not_false_eq_true, ne_eq, nI_clampD, nI_leT, nI_leF, nI_ltT, nI_ltF, nI_eqT, nI_eqF, nI_lt0F, nI_0leT, nI_eq0T, nI_eq0F, nI_0ltT, nI_0ltF, nI_le0T, nI_le0F, nI_m1, nI_m1', m1_m1, m1_lt, m1_le, nI_mul, nI_add, nI_sub, nI_add1, nI_dec, nI_div, nI_mod, vp_inD, sf_nkD, sf_eqD, hlay, hz]
        have k4 : ∀ a b c d, sf (sf (sf (sf I1 40 0 a) 41 (o.getD 0 0) b) 42 (o.getD 0 0) c) 43 (o.getD 0 0) d 4 (o.getD 0 0) = nI (kF (nF fs (o.getD 0 0))) := fun a b c d => by rw [sf_naD (by decide), sf_naD (by decide), sf_naD (by decide), sf_naD (by decide)]; exact hk4 _ hg
        refine w_virtE (c_X7_holesOf_2 g (h + 1) _ J (o.getD 0 0) (kF (nF fs (o.getD 0 0))) (by omega) (k4 _ _ _ _) hk6') rfl rfl rfl (of_eq_true so_2) rfl (Nat.le_refl _) (Nat.le_refl _) ?_
        simp (decide := true) (disch := (first | exact eq_false (by decide) | exact eq_true (by decide) | decide | omega)) only [lX2_lay_0, lX2_lay_14, lX2_lay_47, lX2_lay_89, lX2_lay_105, lX2_lay_118, lX2_lay_150, lX2_lay_156, lX2_lay_162, bX2_lay_0, bX2_lay_14, bX2_lay_47, bX2_lay_89, bX2_lay_105, bX2_lay_118, bX2_lay_150, bX2_lay_156, bX2_lay_162, am_rmv_j, am_rmv_jt, am_args_j, am_st2_eq, am_rmw_n, am_rmw_t, am_rmw_f, (show qX2_lay.2.2.2.1 = none from rfl), am_rok_none, w_alen_38, w_alen_45, w_alen_55, w_alen_67, w_aload_n, w_bipush, w_getfield, w_goto, w_iadd, w_iaload, w_iand, w_iastore, w_icmp_ge, w_icmp_lt, w_iconst, w_if_le, w_if_lt, w_iinc, w_iload, w_iload_n, w_imul, w_istore, w_istore_n, w_isub, w_l2i, w_lload_n, w_lshr, w_nop, w_return, w_swap, sa_40, sa_41, sa_42, sa_43, sa_45, sg_15_1, sg_2_1, sg_39_0, sg_39_1, sg_39_2, sg_39_3, sg_39_4, sg_39_6, cB_15, cI_0, cI_1, cI_2, cI_4, cI_m1, am_lk0, am_lk1, am_ld_some, am_isI_i, am_isJ_j, am_isR_r, am_st_eq, am_rmv_nil, am_rmv_t, am_rmv_i, am_rmv_r, sf_SH, sj_SH, sf_eq, sf_nk, sf_na, sf_sf, am_args_i, am_args_r, am_args_n, Nat.reduceAdd, List.cons_append, List.nil_append, Option.toList, List.drop_succ_cons, List.drop_zero, am_RP, am_CP, am_PH, Fin.isValue, Fin.val_zero, Fin.val_one, am_f2, am_f3, true_and, and_true, true_implies, false_implies, not_false_eq_true, ne_eq, nI_clampD, nI_leT, nI_leF, nI_ltT, nI_ltF, nI_eqT, nI_eqF, nI_lt0F, nI_0leT, nI_eq0T, nI_eq0F, nI_0ltT, nI_0ltF, nI_le0T, nI_le0F, nI_m1, nI_m1', m1_m1, m1_lt, m1_le, nI_mul, nI_add, nI_sub, nI_add1, nI_dec, nI_div, nI_mod, vp_inD, sf_nkD, sf_eqD, hd']
        refine ⟨_, _, ?_, ?_, mk2 0 (rk (kF (nF fs (o.getD 0 0)))) 0 [] [] [] _ (by omega) ((((e2.st (by decide)).st (by decide)).st (by decide)).st (by decide)) ?_ e4 (Nat.le_refl _) ⟨by rw [Nat.sub_self]; rfl, rfl⟩ (fun j hj => absurd hj (Nat.not_lt_zero _))⟩
        · omega
        · (simp (decide := true) only [am_has, am_lk0, am_lk1, and_self, true_and, and_true] <;> first | rfl | (refine ⟨?_, ?_⟩ <;> rfl) | (refine ⟨?_, ?_, ?_⟩ <;> rfl) | (refine ⟨?_, ?_, ?_, ?_⟩ <;> rfl))
        refine e3.add hnd hko hl n5 (fun j => ?_) (fun j => ?_) (fun j => ?_) (fun j => ?_) (fun j => ?_)
        · rw [sf_naD (by decide), sf_naD (by decide), sf_naD (by decide), sf_if]
        · rw [sf_naD (by decide), sf_naD (by decide), sf_if, sf_naD (by decide)]
        · rw [sf_naD (by decide), sf_if, sf_naD (by decide), sf_naD (by decide)]; rfl
        · rw [sf_if, sf_naD (by decide), sf_naD (by decide), sf_naD (by decide)]; rfl
        · rw [sf_naD (by decide), sf_naD (by decide), sf_naD (by decide), sf_naD (by decide), if_neg (fun h9 => by cases h9)]
      · have hpn : p ≠ [] := rpre_ne (kd := kdF fs) (o := o.take k) (fun h0 => by
          have h9 : 0 < (o.take k).length := by rw [List.length_take]; omega
          rw [h0] at h9
          exact absurd h9 (Nat.not_lt_zero _)) e4 p List.mem_cons_self
        obtain ⟨x, p', rfl⟩ := List.exists_cons_of_ne_nil hpn
        have hnew : (o.getD k 0, x :: p') ∈ l := List.mem_of_mem_take (i := k + 1) (by rw [n5]; exact List.mem_append_right _ List.mem_cons_self)
        have hx := (rval_heads hl hnd).2 _ hnew x rfl
        have hxn := hb _ hx.1
        have hgood : rgood (l.take k) (x :: p') := rval_good (l1 := l.take k) (l2 := []) (g := o.getD k 0) n3 rfl
        have hpol := (e3.2.1 _ hgood.1).2
        have hpol : I1 43 (x / 2) = po (kdF fs) p' := hpol
        have hxne : x / 2 ≠ o.getD k 0 := fun h9 => by
          have h8 : x / 2 ∈ (l.take k).map (·.1) := List.mem_map.mpr ⟨_, hgood.1, rfl⟩
          rw [rrun_fst _ _ _ _ n2, h9] at h8
          have h7 := hnd
          rw [← List.take_append_drop k o, List.nodup_append] at h7
          refine h7.2.2 _ h8 _ ?_ rfl
          rw [List.getD_eq_getElem?_getD, List.getElem?_eq_getElem hko, List.drop_eq_getElem_cons hko]
          exact List.mem_cons_self
        have hhs : hsd ((x :: p') :: r) = x :: hsd r := rfl
        rw [hhs] at e5
        have htop := e5.top
        have hz : (hsd ((x :: p') :: r)).length = (hsd r).length + 1 := by rw [hhs]; rfl
        rw [hz] at hl2
        simp (decide := true) (disch := (first | exact eq_false (by decide) | exact eq_true (by decide) | decide | omega)) only [lX2_lay_0, lX2_lay_14, lX2_lay_47, lX2_lay_89, lX2_lay_105, lX2_lay_118, lX2_lay_150, lX2_lay_156, lX2_lay_162, bX2_lay_0, bX2_lay_14, bX2_lay_47, bX2_lay_89, bX2_lay_105, bX2_lay_118, bX2_lay_150, bX2_lay_156, bX2_lay_162, am_rmv_j, am_rmv_jt, am_args_j, am_st2_eq, am_rmw_n, am_rmw_t, am_rmw_f, (show qX2_lay.2.2.2.1 = none from rfl), am_rok_none, w_alen_38, w_alen_45, w_alen_55, w_alen_67, w_aload_n, w_bipush, w_getfield, w_goto, w_iadd, w_iaload, w_iand, w_iastore, w_icmp_ge, w_icmp_lt, w_iconst, w_if_le, w_if_lt, w_iinc, w_iload, w_iload_n, w_imul, w_istore, w_istore_n, w_isub, w_l2i, w_lload_n, w_lshr, w_nop, w_return, w_swap, sa_40, sa_41, sa_42, sa_43, sa_45, sg_15_1, sg_2_1, sg_39_0, sg_39_1, sg_39_2, sg_39_3, sg_39_4, sg_39_6, cB_15, cI_0, cI_1, cI_2, cI_4, cI_m1, am_lk0, am_lk1, am_ld_some, am_isI_i, am_isJ_j, am_isR_r, am_st_eq, am_rmv_nil, am_rmv_t, am_rmv_i, am_rmv_r, sf_SH, sj_SH, sf_eq, sf_nk, sf_na, sf_sf, am_args_i, am_args_r, am_args_n, Nat.reduceAdd, List.cons_append, List.nil_append, Option.toList, List.drop_succ_cons, List.drop_zero, am_RP, am_CP, am_PH, Fin.isValue, Fin.val_zero, Fin.val_one, am_f2, am_f3, true_and, and_true, true_implies, false_implies, not_false_eq_true, ne_eq, nI_clampD, nI_leT, nI_leF, nI_ltT, nI_ltF, nI_eqT, nI_eqF, nI_lt0F, nI_0leT, nI_eq0T, nI_eq0F, nI_0ltT, nI_0ltF, nI_le0T, nI_le0F, nI_m1, nI_m1', m1_m1, m1_lt, m1_le, nI_mul, nI_add, nI_sub, nI_add1, nI_dec, nI_div, nI_mod, vp_inD, sf_nkD, sf_eqD, hlay, hz, nI_dec1, Nat.add_sub_cancel, htop]
        refine w_virtE (c_X2_putIn g h (sf (sf I1 40 k (nI (o.getD k 0))) 41 (o.getD k 0) (nI k)) J x (o.getD k 0) (kF (nF fs (x / 2))) (po (kdF fs) p') (kdF fs) (by omega) (by omega) (by rw [sf_naD (by decide), sf_naD (by decide)]; exact hk4 _ hxn) (hk6 _ hxn) rfl (by rw [sf_naD (by decide), sf_naD (by decide)]; exact hpol)) rfl rfl rfl (of_eq_true so_39) rfl (Nat.le_refl _) (Nat.le_refl _) ?_
        simp (decide := true) (disch := (first | exact eq_false (by decide) | exact eq_true (by decide) | decide | omega)) only [lX2_lay_0, lX2_lay_14, lX2_lay_47, lX2_lay_89, lX2_lay_105, lX2_lay_118, lX2_lay_150, lX2_lay_156, lX2_lay_162, bX2_lay_0, bX2_lay_14, bX2_lay_47, bX2_lay_89, bX2_lay_105, bX2_lay_118, bX2_lay_150, bX2_lay_156, bX2_lay_162, am_rmv_j, am_rmv_jt, am_args_j, am_st2_eq, am_rmw_n, am_rmw_t, am_rmw_f, (show qX2_lay.2.2.2.1 = none from rfl), am_rok_none, w_alen_38, w_alen_45, w_alen_55, w_alen_67, w_aload_n, w_bipush, w_getfield, w_goto, w_iadd, w_iaload, w_iand, w_iastore, w_icmp_ge, w_icmp_lt, w_iconst, w_if_le, w_if_lt, w_iinc, w_iload, w_iload_n, w_imul, w_istore, w_istore_n, w_isub, w_l2i, w_lload_n, w_lshr, w_nop, w_return, w_swap, sa_40, sa_41, sa_42, sa_43, sa_45, sg_15_1, sg_2_1, sg_39_0, sg_39_1, sg_39_2, sg_39_3, sg_39_4, sg_39_6, cB_15, cI_0, cI_1, cI_2, cI_4, cI_m1, am_lk0, am_lk1, am_ld_some, am_isI_i, am_isJ_j, am_isR_r, am_st_eq, am_rmv_nil, am_rmv_t, am_rmv_i, am_rmv_r, sf_SH, sj_SH, sf_eq, sf_nk, sf_na, sf_sf, am_args_i, am_args_r, am_args_n, Nat.reduceAdd, List.cons_append, List.nil_append, Option.toList, List.drop_succ_cons, List.drop_zero, am_RP, am_CP, am_PH, Fin.isValue, Fin.val_zero, Fin.val_one, am_f2, am_f3, true_and, and_true, true_implies, false_implies, not_false_eq_true, ne_eq, nI_clampD, nI_leT, nI_leF, nI_ltT, nI_ltF, nI_eqT, nI_eqF, nI_lt0F, nI_0leT, nI_eq0T, nI_eq0F, nI_0ltT, nI_0ltF, nI_le0T, nI_le0F, nI_m1, nI_m1', m1_m1, m1_lt, m1_le, nI_mul, nI_add, nI_sub, nI_add1, nI_dec, nI_div, nI_mod, vp_inD, sf_nkD, sf_eqD]
        have k4 : ∀ a b c d e, sf (sf (sf (sf (sf I1 40 k a) 41 (o.getD k 0) b) 44 x c) 42 (o.getD k 0) d) 43 (o.getD k 0) e 4 (o.getD k 0) = nI (kF (nF fs (o.getD k 0))) := fun a b c d e => by rw [sf_naD (by decide), sf_naD (by decide), sf_naD (by decide), sf_naD (by decide), sf_naD (by decide)]; exact hk4 _ hg
        refine w_virtE (c_X7_holesOf_2 g (h + 1) _ J (o.getD k 0) (kF (nF fs (o.getD k 0))) (by omega) (k4 _ _ _ _ _) hk6') rfl rfl rfl (of_eq_true so_2) rfl (Nat.le_refl _) (Nat.le_refl _) ?_
        simp (decide := true) (disch := (first | exact eq_false (by decide) | exact eq_true (by decide) | decide | omega)) only [lX2_lay_0, lX2_lay_14, lX2_lay_47, lX2_lay_89, lX2_lay_105, lX2_lay_118, lX2_lay_150, lX2_lay_156, lX2_lay_162, bX2_lay_0, bX2_lay_14, bX2_lay_47, bX2_lay_89, bX2_lay_105, bX2_lay_118, bX2_lay_150, bX2_lay_156, bX2_lay_162, am_rmv_j, am_rmv_jt, am_args_j, am_st2_eq, am_rmw_n, am_rmw_t, am_rmw_f, (show qX2_lay.2.2.2.1 = none from rfl), am_rok_none, w_alen_38, w_alen_45, w_alen_55, w_alen_67, w_aload_n, w_bipush, w_getfield, w_goto, w_iadd, w_iaload, w_iand, w_iastore, w_icmp_ge, w_icmp_lt, w_iconst, w_if_le, w_if_lt, w_iinc, w_iload, w_iload_n, w_imul, w_istore, w_istore_n, w_isub, w_l2i, w_lload_n, w_lshr, w_nop, w_return, w_swap, sa_40, sa_41, sa_42, sa_43, sa_45, sg_15_1, sg_2_1, sg_39_0, sg_39_1, sg_39_2, sg_39_3, sg_39_4, sg_39_6, cB_15, cI_0, cI_1, cI_2, cI_4, cI_m1, am_lk0, am_lk1, am_ld_some, am_isI_i, am_isJ_j, am_isR_r, am_st_eq, am_rmv_nil, am_rmv_t, am_rmv_i, am_rmv_r, sf_SH, sj_SH, sf_eq, sf_nk, sf_na, sf_sf, am_args_i, am_args_r, am_args_n, Nat.reduceAdd, List.cons_append, List.nil_append, Option.toList, List.drop_succ_cons, List.drop_zero, am_RP, am_CP, am_PH, Fin.isValue, Fin.val_zero, Fin.val_one, am_f2, am_f3, true_and, and_true, true_implies, false_implies, not_false_eq_true, ne_eq, nI_clampD, nI_leT, nI_leF, nI_ltT, nI_ltF, nI_eqT, nI_eqF, nI_lt0F, nI_0leT, nI_eq0T, nI_eq0F, nI_0ltT, nI_0ltF, nI_le0T, nI_le0F, nI_m1, nI_m1', m1_m1, m1_lt, m1_le, nI_mul, nI_add, nI_sub, nI_add1, nI_dec, nI_div, nI_mod, vp_inD, sf_nkD, sf_eqD, hd']
        refine ⟨_, _, ?_, ?_, mk2 k (rk (kF (nF fs (o.getD k 0)))) _ (hsd r) (x :: p') r _ (by omega) (((((e2.st (by decide)).st (by decide)).st (by decide)).st (by decide)).st (by decide)) ?_ e4 (Nat.le_refl _) ⟨by rw [Nat.sub_self]; rfl, rfl⟩ (e5.pop.fr (by rw [sf_naD (by decide), sf_naD (by decide), sf_naD (by decide), sf_naD (by decide), sf_naD (by decide)]))⟩
        · omega
        · (simp (decide := true) only [am_has, am_lk0, am_lk1, and_self, true_and, and_true] <;> first | rfl | (refine ⟨?_, ?_⟩ <;> rfl) | (refine ⟨?_, ?_, ?_⟩ <;> rfl) | (refine ⟨?_, ?_, ?_, ?_⟩ <;> rfl))
        refine e3.add hnd hko hl n5 (fun j => ?_) (fun j => ?_) (fun j => ?_) (fun j => ?_) (fun j => ?_)
        · rw [sf_naD (by decide), sf_naD (by decide), sf_naD (by decide), sf_naD (by decide), sf_if]
        · rw [sf_naD (by decide), sf_naD (by decide), sf_naD (by decide), sf_if, sf_naD (by decide)]
        · rw [sf_naD (by decide), sf_if, sf_naD (by decide), sf_naD (by decide), sf_naD (by decide)]; rfl
        · rw [sf_if, sf_naD (by decide), sf_naD (by decide), sf_naD (by decide), sf_naD (by decide)]; rfl
        · rw [sf_naD (by decide), sf_naD (by decide), sf_if, sf_naD (by decide), sf_naD (by decide)]
          by_cases hjx : j = x
          · rw [if_pos hjx, if_pos (by rw [hjx]; rfl)]
          · rw [if_neg hjx, if_neg (show ¬ (x :: p').head? = some j from fun h9 => hjx (Option.some.inj h9).symm)]
  · refine ⟨_, 90, rfl, rfl, ?_⟩
    obtain ⟨e6, ej⟩ := e6
    have hko : k < o.length := by omega
    obtain ⟨p', r', n1, n2, n3, n4, n5⟩ := rrun_next hl hko
    rw [e4] at n1
    have n1 := List.cons.inj (Option.some.inj n1)
    have n1a := n1.1
    have n1b := n1.2
    subst n1a
    subst n1b
    clear n1
    have hg := gD_lt hb hko
    have hr2 := rk_le (kF (nF fs (o.getD k 0)))
    have hlen := hlt e4
    have hl2 := hsd_le sk
    rw [List.length_cons] at hlen
    have hxl : xs.length = rk (kF (nF fs (o.getD k 0))) - i + (hsd sk).length := by
      rw [e6, List.length_append, List.length_map, List.length_range']
    have hlen4 := hlt n4
    rw [List.length_append, rp_len, rk_rh] at hlen4
    have hj12 : j ≤ 12 := by omega
    by_cases hi : i = 0
    · have e0 : (wI i < 0) = True := by rw [hi]; decide
      have exs : xs = hsd (rp (kdF fs) (o.getD k 0) p ++ sk) := by rw [hsd_rp, rk_rh, e6, hi]; rfl
      rw [exs] at ej e7
      subst ej
      simp (decide := true) (disch := (first | exact eq_false (by decide) | exact eq_true (by decide) | decide | omega)) only [lX2_lay_0, lX2_lay_14, lX2_lay_47, lX2_lay_89, lX2_lay_105, lX2_lay_118, lX2_lay_150, lX2_lay_156, lX2_lay_162, bX2_lay_0, bX2_lay_14, bX2_lay_47, bX2_lay_89, bX2_lay_105, bX2_lay_118, bX2_lay_150, bX2_lay_156, bX2_lay_162, am_rmv_j, am_rmv_jt, am_args_j, am_st2_eq, am_rmw_n, am_rmw_t, am_rmw_f, (show qX2_lay.2.2.2.1 = none from rfl), am_rok_none, w_alen_38, w_alen_45, w_alen_55, w_alen_67, w_aload_n, w_bipush, w_getfield, w_goto, w_iadd, w_iaload, w_iand, w_iastore, w_icmp_ge, w_icmp_lt, w_iconst, w_if_le, w_if_lt, w_iinc, w_iload, w_iload_n, w_imul, w_istore, w_istore_n, w_isub, w_l2i, w_lload_n, w_lshr, w_nop, w_return, w_swap, sa_40, sa_41, sa_42, sa_43, sa_45, sg_15_1, sg_2_1, sg_39_0, sg_39_1, sg_39_2, sg_39_3, sg_39_4, sg_39_6, cB_15, cI_0, cI_1, cI_2, cI_4, cI_m1, am_lk0, am_lk1, am_ld_some, am_isI_i, am_isJ_j, am_isR_r, am_st_eq, am_rmv_nil, am_rmv_t, am_rmv_i, am_rmv_r, sf_SH, sj_SH, sf_eq, sf_nk, sf_na, sf_sf, am_args_i, am_args_r, am_args_n, Nat.reduceAdd, List.cons_append, List.nil_append, Option.toList, List.drop_succ_cons, List.drop_zero, am_RP, am_CP, am_PH, Fin.isValue, Fin.val_zero, Fin.val_one, am_f2, am_f3, true_and, and_true, true_implies, false_implies, not_false_eq_true, ne_eq, nI_clampD, nI_leT, nI_leF, nI_ltT, nI_ltF, nI_eqT, nI_eqF, nI_lt0F, nI_0leT, nI_eq0T, nI_eq0F, nI_0ltT, nI_0ltF, nI_le0T, nI_le0F, nI_m1, nI_m1', m1_m1, m1_lt, m1_le, nI_mul, nI_add, nI_sub, nI_add1, nI_dec, nI_div, nI_mod, vp_inD, sf_nkD, sf_eqD, e0]
      refine ⟨_, _, ?_, ?_, mk1 (k + 1) _ I1 (by omega) e2 e3 n4 e7⟩
      · omega
      · (simp (decide := true) only [am_has, am_lk0, am_lk1, and_self, true_and, and_true] <;> first | rfl | (refine ⟨?_, ?_⟩ <;> rfl) | (refine ⟨?_, ?_, ?_⟩ <;> rfl) | (refine ⟨?_, ?_, ?_, ?_⟩ <;> rfl))
    · have e0 : wI i = nI (i - 1) := wI_p (by omega)
      have e9 := wI_dec1 (i := i) (by omega)
      have hpush := e7.push (2 * o.getD k 0 + (i - 1))
      rw [← ej] at hpush
      have hj11 : j < 12 := by omega
      simp (decide := true) (disch := (first | exact eq_false (by decide) | exact eq_true (by decide) | decide | omega)) only [lX2_lay_0, lX2_lay_14, lX2_lay_47, lX2_lay_89, lX2_lay_105, lX2_lay_118, lX2_lay_150, lX2_lay_156, lX2_lay_162, bX2_lay_0, bX2_lay_14, bX2_lay_47, bX2_lay_89, bX2_lay_105, bX2_lay_118, bX2_lay_150, bX2_lay_156, bX2_lay_162, am_rmv_j, am_rmv_jt, am_args_j, am_st2_eq, am_rmw_n, am_rmw_t, am_rmw_f, (show qX2_lay.2.2.2.1 = none from rfl), am_rok_none, w_alen_38, w_alen_45, w_alen_55, w_alen_67, w_aload_n, w_bipush, w_getfield, w_goto, w_iadd, w_iaload, w_iand, w_iastore, w_icmp_ge, w_icmp_lt, w_iconst, w_if_le, w_if_lt, w_iinc, w_iload, w_iload_n, w_imul, w_istore, w_istore_n, w_isub, w_l2i, w_lload_n, w_lshr, w_nop, w_return, w_swap, sa_40, sa_41, sa_42, sa_43, sa_45, sg_15_1, sg_2_1, sg_39_0, sg_39_1, sg_39_2, sg_39_3, sg_39_4, sg_39_6, cB_15, cI_0, cI_1, cI_2, cI_4, cI_m1, am_lk0, am_lk1, am_ld_some, am_isI_i, am_isJ_j, am_isR_r, am_st_eq, am_rmv_nil, am_rmv_t, am_rmv_i, am_rmv_r, sf_SH, sj_SH, sf_eq, sf_nk, sf_na, sf_sf, am_args_i, am_args_r, am_args_n, Nat.reduceAdd, List.cons_append, List.nil_append, Option.toList, List.drop_succ_cons, List.drop_zero, am_RP, am_CP, am_PH, Fin.isValue, Fin.val_zero, Fin.val_one, am_f2, am_f3, true_and, and_true, true_implies, false_implies, not_false_eq_true, ne_eq, nI_clampD, nI_leT, nI_leF, nI_ltT, nI_ltF, nI_eqT, nI_eqF, nI_lt0F, nI_0leT, nI_eq0T, nI_eq0F, nI_0ltT, nI_0ltF, nI_le0T, nI_le0F, nI_m1, nI_m1', m1_m1, m1_lt, m1_le, nI_mul, nI_add, nI_sub, nI_add1, nI_dec, nI_div, nI_mod, vp_inD, sf_nkD, sf_eqD, e0, e9]
      refine ⟨_, _, ?_, ?_, mk2 k (i - 1) (j + 1) _ p sk _ e1 (e2.st (by decide)) (e3.fr (fun c d1 d2 => by rw [sf_naD (by omega)])) e4 (by omega) ⟨?_, ?_⟩ hpush⟩
      · omega
      · (simp (decide := true) only [am_has, am_lk0, am_lk1, and_self, true_and, and_true] <;> first | rfl | (refine ⟨?_, ?_⟩ <;> rfl) | (refine ⟨?_, ?_, ?_⟩ <;> rfl) | (refine ⟨?_, ?_, ?_, ?_⟩ <;> rfl))
      · rw [show rk (kF (nF fs (o.getD k 0))) - (i - 1) = (rk (kF (nF fs (o.getD k 0))) - i) + 1 by omega, List.range'_succ, List.map_cons, show i - 1 + 1 = i by omega, e6]
        rfl
      · rw [List.length_cons, ej]
end LA1
