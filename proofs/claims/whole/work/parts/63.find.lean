/-! the class' finder -/
theorem am_rmv_j {i j : Nat} {v : Int64} {r : am_L} (h : (j = i) = False) (h2 : (j + 1 = i) = False) : am_rmv i ((j, .long v) :: r) = (j, .long v) :: am_rmv i r := am_rmv_f h h2
theorem am_rmv_jt {i j : Nat} {v : Int64} {r : am_L} (h2 : (j + 1 = i) = True) : am_rmv i ((j, .long v) :: r) = am_rmv i r := by
  show (if j = i then _ else _) = _
  have h3 := of_eq_true h2
  rw [if_neg (by omega), if_pos ⟨h3, rfl⟩]
def am_rmw (i : Nat) : am_L → am_L
  | [] => []
  | q :: r => if q.1 = i then am_rmw i r else q :: am_rmw i r
theorem am_rmw_n (i : Nat) : am_rmw i [] = [] := rfl
theorem am_rmw_t {i j : Nat} {v : Value} {r : am_L} (h : (j = i) = True) : am_rmw i ((j, v) :: r) = am_rmw i r := if_pos (of_eq_true h)
theorem am_rmw_f {i j : Nat} {v : Value} {r : am_L} (h : (j = i) = False) : am_rmw i ((j, v) :: r) = (j, v) :: am_rmw i r := if_neg (of_eq_false h)
theorem am_st2_eq (i : Nat) (v : Value) (lv : am_L) : am_st2 i v lv = (i, v) :: am_rmv i (am_rmw (i + 1) lv) := by
  unfold am_st2
  congr 1
  induction lv with
  | nil => rfl
  | cons q r ih =>
    rw [List.filter_cons]
    by_cases h2 : q.1 = i + 1
    · have e1 : (!(q.1 == i) && (!(q.1 == i + 1) && !(q.1 + 1 == i && q.2.category == 2))) = false := by simp [h2]
      rw [e1, show am_rmw (i + 1) (q :: r) = am_rmw (i + 1) r from if_pos h2, ← ih]
      rfl
    · rw [show am_rmw (i + 1) (q :: r) = q :: am_rmw (i + 1) r from if_neg h2]
      by_cases h1 : q.1 = i
      · rw [show am_rmv i (q :: am_rmw (i + 1) r) = am_rmv i (am_rmw (i + 1) r) from if_pos h1, ← ih]
        have e1 : (!(q.1 == i) && (!(q.1 == i + 1) && !(q.1 + 1 == i && q.2.category == 2))) = false := by simp [h1]
        rw [e1]
        rfl
      · by_cases h3 : q.1 + 1 = i ∧ q.2.category = 2
        · have e2 : am_rmv i (q :: am_rmw (i + 1) r) = am_rmv i (am_rmw (i + 1) r) := by
            show (if q.1 = i then _ else _) = _
            rw [if_neg h1, if_pos h3]
          rw [e2, ← ih]
          have e1 : (!(q.1 == i) && (!(q.1 == i + 1) && !(q.1 + 1 == i && q.2.category == 2))) = false := by simp [h3]
          rw [e1]
          rfl
        · have e2 : am_rmv i (q :: am_rmw (i + 1) r) = q :: am_rmv i (am_rmw (i + 1) r) := by
            show (if q.1 = i then _ else _) = _
            rw [if_neg h1, if_neg h3]
          rw [e2, ← ih]
          have e1 : (!(q.1 == i) && (!(q.1 == i + 1) && !(q.1 + 1 == i && q.2.category == 2))) = true := by
            simp only [Bool.and_eq_true, Bool.not_eq_true', beq_eq_false_iff_ne, ne_eq, Bool.and_eq_false_iff]
            refine ⟨h1, h2, ?_⟩
            by_cases h4 : q.1 + 1 = i
            · exact Or.inr (fun h5 => h3 ⟨h4, h5⟩)
            · exact Or.inl h4
          rw [e1]
          rfl
theorem wI_dec {i : Nat} (h : 0 < i) : wI i + Int32.ofInt (-1) = wI (i - 1) := by
  unfold wI
  rw [if_neg (by omega)]
  by_cases h1 : i = 1
  · subst h1; rfl
  · rw [if_neg (by omega), nI_dec (by omega)]
theorem wI_dec' {i : Nat} : nI i - nI 1 = wI i := by
  unfold wI
  by_cases h1 : i = 0
  · subst h1; rfl
  · rw [if_neg h1, nI_sub (by omega)]
theorem rk_rh (fs : List Fg) (f : Nat) : rh (kdF fs) f = rk (kF (nF fs f)) := rfl
/-- an order, four bits a fragment -/
def ex (x : Int64) (f : Nat) : Int64 := (x <<< ((nI 4).toInt64 &&& 63)) ||| (nI f).toInt64
def cd : Int64 → List Nat → Int64
  | x, [] => x
  | x, f :: o => cd (ex x f) o
/-- numbers are appended to the list -/
def LC (J J1 : Nat → Nat → Int64) (c : Nat) (xs : List Int64) : Prop := (∀ a, a ≠ 36 → J1 a = J a) ∧ (∀ k, k < c → J1 36 k = J 36 k) ∧ ∀ k, k < xs.length → J1 36 (c + k) = xs.getD k 0
theorem LC.rf (J : Nat → Nat → Int64) (c : Nat) : LC J J c [] := ⟨fun _ _ => rfl, fun _ _ => rfl, fun k hk => absurd hk (Nat.not_lt_zero _)⟩
theorem LC.tr {J J1 J2 : Nat → Nat → Int64} {c : Nat} {xs ys : List Int64} (h1 : LC J J1 c xs) (h2 : LC J1 J2 (c + xs.length) ys) : LC J J2 c (xs ++ ys) := by
  refine ⟨fun a ha => (h2.1 a ha).trans (h1.1 a ha), fun k hk => (h2.2.1 k (by omega)).trans (h1.2.1 k hk), fun k hk => ?_⟩
  rw [List.length_append] at hk
  by_cases hk1 : k < xs.length
  · rw [h2.2.1 (c + k) (by omega), h1.2.2 k hk1]
    simp only [List.getD_eq_getElem?_getD, List.getElem?_append_left hk1]
  · have e := h2.2.2 (k - xs.length) (by omega)
    rw [show c + xs.length + (k - xs.length) = c + k by omega] at e
    rw [e]
    simp only [List.getD_eq_getElem?_getD, List.getElem?_append_right (Nat.not_lt.mp hk1)]
theorem LC.one (J : Nat → Nat → Int64) (c : Nat) (x : Int64) : LC J (sj J 36 c x) c [x] := by
  refine ⟨fun a ha => ?_, fun k hk => ?_, fun k hk => ?_⟩
  · funext j
    rw [sj_app, if_neg (fun h0 => ha h0.1)]
  · rw [sj_app, if_neg (fun h0 => by omega)]
  · have : k = 0 := by simp at hk; omega
    subst this
    rw [sj_app, if_pos ⟨rfl, rfl⟩]
    rfl
/-- the stack of paths in the class -/
def PT (s : List (List Nat)) (I : Nat → Nat → Int32) : Prop := ∀ j, j < s.length → Bp (I 38 j) (fun x => x ∈ s.getD (s.length - 1 - j) [])
theorem PT.fr {s : List (List Nat)} {I I' : Nat → Nat → Int32} (h : PT s I) (h2 : ∀ j, j < s.length → I' 38 j = I 38 j) : PT s I' := fun j hj => by rw [h2 j hj]; exact h j hj
theorem rp_len (kd : Nat → Nat) (f : Nat) (p : List Nat) : (rp kd f p).length = rh kd f := by simp [rp]
theorem rp_getD {kd : Nat → Nat} {f : Nat} {p : List Nat} {i : Nat} (h : i < rh kd f) : (rp kd f p).getD i [] = (2 * f + i) :: p := by
  unfold rp
  rw [List.getD_eq_getElem?_getD, List.getElem?_map, List.getElem?_range h]
  rfl
theorem PT_rp {kd : Nat → Nat} {f : Nat} {p : List Nat} {s : List (List Nat)} {I I' : Nat → Nat → Int32} (h : PT (p :: s) I) (h1 : ∀ j, j < s.length → I' 38 j = I 38 j) (h2 : ∀ i, i < rh kd f → Bp (I' 38 (s.length + (rh kd f - 1 - i))) (fun x => x = 2 * f + i ∨ x ∈ p)) : PT (rp kd f p ++ s) I' := by
  intro j hj
  rw [List.length_append, rp_len] at hj
  by_cases hjs : j < s.length
  · rw [h1 j hjs]
    refine (h j (by simp; omega)).cg (fun x _ => ?_)
    rw [List.length_append, rp_len]
    have e1 : (rp kd f p ++ s).getD (rh kd f + s.length - 1 - j) [] = s.getD (s.length - 1 - j) [] := by
      simp only [List.getD_eq_getElem?_getD]
      rw [List.getElem?_append_right (by rw [rp_len]; omega), rp_len, show rh kd f + s.length - 1 - j - rh kd f = s.length - 1 - j by omega]
    have e2 : (p :: s).getD ((p :: s).length - 1 - j) [] = s.getD (s.length - 1 - j) [] := by
      rw [List.length_cons, show s.length + 1 - 1 - j = (s.length - 1 - j) + 1 by omega]
      rfl
    rw [e1, e2]
  · have h3 := h2 (rh kd f - 1 - (j - s.length)) (by omega)
    rw [show s.length + (rh kd f - 1 - (rh kd f - 1 - (j - s.length))) = j by omega] at h3
    refine h3.cg (fun x _ => ?_)
    rw [List.length_append, rp_len]
    have e1 : (rp kd f p ++ s).getD (rh kd f + s.length - 1 - j) [] = (2 * f + (rh kd f - 1 - (j - s.length))) :: p := by
      rw [← rp_getD (kd := kd) (by omega)]
      simp only [List.getD_eq_getElem?_getD]
      rw [List.getElem?_append_left (by rw [rp_len]; omega), show rh kd f + s.length - 1 - j = rh kd f - 1 - (j - s.length) by omega]
    rw [e1, List.mem_cons]
theorem ib_hol : ∀ f, f < 11 → ∀ r, r < 3 → ∀ i, i < 32 → ib ((nI 1 <<< (nI r &&& 31) - nI 1) <<< (nI (2 * f) &&& 31)) i = decide (i / 2 = f ∧ i % 2 < r) := by decide +kernel
section FI1
variable (g : am_G) (h : Nat) (I : Nat → Nat → Int32) (J : Nat → Nat → Int64) {L : Nat → Nat} {t : Nat} {fs : List Fg} {cs : List (Nat × Nat)}
set_option maxRecDepth 100000 in
set_option maxHeartbeats 400000 in
theorem c_X6_append (c : Nat) (x : Int64) (h1 : I 35 1 = nI c) (hc : c < 720) :
    am_Ctr g am_mt 1 (h + 1) 54 [.ref 35, .long x] (am_SH, I, J) 0 0 (fun r M => r = none ∧ M = (am_SH, sf I 35 1 (nI (c + 1)), sj J 36 c x)) := by
  refine am_rule0 (q := qX6_append) (B := am_blk bX6_append) 60 rfl rfl kX6_append nX6_append (Nat.le_of_ble_eq_true rfl) ?_
  simp (decide := true) (disch := (first | exact eq_false (by decide) | exact eq_true (by decide) | decide | omega)) only [lX6_append_0, lX6_append_30, bX6_append_0, bX6_append_30, am_rmv_j, am_rmv_jt, am_args_j, am_st2_eq, am_rmw_n, am_rmw_t, am_rmw_f, (show qX6_append.2.2.2.1 = none from rfl), am_rok_none, w_aload_n, w_dup, w_getfield, w_iadd, w_icmp_ge, w_iconst, w_lastore, w_lload_n, w_puti, w_return, w_sipush, w_swap, sa_36, sg_35_0, sg_35_1, sp_35_1, cI_1, cS_720, am_lk0, am_lk1, am_ld_some, am_isI_i, am_isJ_j, am_isR_r, am_st_eq, am_rmv_nil, am_rmv_t, am_rmv_i, am_rmv_r, sf_SH, sj_SH, sf_eq, sf_nk, sf_na, sf_sf, am_args_i, am_args_r, am_args_n, Nat.reduceAdd, List.cons_append, List.nil_append, Option.toList, List.drop_succ_cons, List.drop_zero, am_RP, am_CP, am_PH, Fin.isValue, Fin.val_zero, Fin.val_one, am_f2, am_f3, true_and, and_true, true_implies, false_implies, not_false_eq_true, ne_eq, nI_clampD, nI_leT, nI_leF, nI_ltT, nI_ltF, nI_eqT, nI_eqF, nI_lt0F, nI_0leT, nI_eq0T, nI_eq0F, nI_0ltT, nI_0ltF, nI_le0T, nI_le0F, nI_m1, nI_m1', m1_m1, m1_lt, m1_le, nI_mul, nI_add, nI_sub, nI_add1, nI_dec, nI_div, nI_mod, vp_inD, sf_nkD, sf_eqD, h1]
set_option maxRecDepth 100000 in
set_option maxHeartbeats 400000 in
theorem c_X6_extend (x : Int64) (f : Nat) :
    am_Ctr g am_mt 1 (h + 1) 55 [.long x, .int (nI f)] (am_SH, I, J) 0 0 (fun r M => r = some (.long (ex x f)) ∧ M = (am_SH, I, J)) := by
  refine am_rule0 (q := qX6_extend) (B := am_blk bX6_extend) 60 rfl rfl kX6_extend nX6_extend (Nat.le_of_ble_eq_true rfl) ?_
  simp (decide := true) (disch := (first | exact eq_false (by decide) | exact eq_true (by decide) | decide | omega)) only [lX6_extend_0, bX6_extend_0, am_rmv_j, am_rmv_jt, am_args_j, am_st2_eq, am_rmw_n, am_rmw_t, am_rmw_f, (show qX6_extend.2.2.2.1 = (some .long) from rfl), am_rok_long, w_i2l, w_iconst, w_iload_n, w_lload_n, w_lor, w_lreturn, w_lshl, cI_4, am_lk0, am_lk1, am_ld_some, am_isI_i, am_isJ_j, am_isR_r, am_st_eq, am_rmv_nil, am_rmv_t, am_rmv_i, am_rmv_r, sf_SH, sj_SH, sf_eq, sf_nk, sf_na, sf_sf, am_args_i, am_args_r, am_args_n, Nat.reduceAdd, List.cons_append, List.nil_append, Option.toList, List.drop_succ_cons, List.drop_zero, am_RP, am_CP, am_PH, Fin.isValue, Fin.val_zero, Fin.val_one, am_f2, am_f3, true_and, and_true, true_implies, false_implies, not_false_eq_true, ne_eq, nI_clampD, nI_leT, nI_leF, nI_ltT, nI_ltF, nI_eqT, nI_eqF, nI_lt0F, nI_0leT, nI_eq0T, nI_eq0F, nI_0ltT, nI_0ltF, nI_le0T, nI_le0F, nI_m1, nI_m1', m1_m1, m1_lt, m1_le, nI_mul, nI_add, nI_sub, nI_add1, nI_dec, nI_div, nI_mod, vp_inD, sf_nkD, sf_eqD]
  rfl
set_option maxRecDepth 100000 in
set_option maxHeartbeats 400000 in
theorem c_X5_holesIn (f k : Nat) (hf : f < 11) (hk : I 4 f = nI k) (h5 : k < 6) :
    am_Ctr g am_mt 1 (h + 2) 51 [.ref 37, .int (nI f)] (am_SH, I, J) 0 0 (fun r M => ∃ w, r = some (.int w) ∧ Bp w (fun x => x / 2 = f ∧ x % 2 < rk k) ∧ M = (am_SH, I, J)) := by
  refine am_rule0 (q := qX5_holesIn) (B := am_blk bX5_holesIn) 60 rfl rfl kX5_holesIn nX5_holesIn (Nat.le_of_ble_eq_true rfl) ?_
  simp (decide := true) (disch := (first | exact eq_false (by decide) | exact eq_true (by decide) | decide | omega)) only [lX5_holesIn_0, bX5_holesIn_0, (show qX5_holesIn.2.2.2.1 = (some .int) from rfl), am_rok_int, w_aload_n, w_getfield, w_iconst, w_iload_n, w_imul, w_ireturn, w_ishl, w_istore_n, w_isub, sg_37_0, cI_1, cI_2, am_lk0, am_lk1, am_ld_some, am_isI_i, am_isJ_j, am_isR_r, am_st_eq, am_rmv_nil, am_rmv_t, am_rmv_i, am_rmv_r, sf_SH, sj_SH, sf_eq, sf_nk, sf_na, sf_sf, am_args_i, am_args_r, am_args_n, Nat.reduceAdd, List.cons_append, List.nil_append, Option.toList, List.drop_succ_cons, List.drop_zero, am_RP, am_CP, am_PH, Fin.isValue, Fin.val_zero, Fin.val_one, am_f2, am_f3, true_and, and_true, true_implies, false_implies, not_false_eq_true, ne_eq, nI_clampD, nI_leT, nI_leF, nI_ltT, nI_ltF, nI_eqT, nI_eqF, nI_lt0F, nI_0leT, nI_eq0T, nI_eq0F, nI_0ltT, nI_0ltF, nI_le0T, nI_le0F, nI_m1, nI_m1', m1_m1, m1_lt, m1_le, nI_mul, nI_add, nI_sub, nI_add1, nI_dec, nI_div, nI_mod, vp_inD, sf_nkD, sf_eqD]
  refine w_virtE (c_X7_holesOf_2 g h I J f k hf hk h5) rfl rfl rfl (of_eq_true so_2) rfl (Nat.le_refl _) (Nat.le_refl _) ?_
  simp (decide := true) (disch := (first | exact eq_false (by decide) | exact eq_true (by decide) | decide | omega)) only [lX5_holesIn_0, bX5_holesIn_0, (show qX5_holesIn.2.2.2.1 = (some .int) from rfl), am_rok_int, w_aload_n, w_getfield, w_iconst, w_iload_n, w_imul, w_ireturn, w_ishl, w_istore_n, w_isub, sg_37_0, cI_1, cI_2, am_lk0, am_lk1, am_ld_some, am_isI_i, am_isJ_j, am_isR_r, am_st_eq, am_rmv_nil, am_rmv_t, am_rmv_i, am_rmv_r, sf_SH, sj_SH, sf_eq, sf_nk, sf_na, sf_sf, am_args_i, am_args_r, am_args_n, Nat.reduceAdd, List.cons_append, List.nil_append, Option.toList, List.drop_succ_cons, List.drop_zero, am_RP, am_CP, am_PH, Fin.isValue, Fin.val_zero, Fin.val_one, am_f2, am_f3, true_and, and_true, true_implies, false_implies, not_false_eq_true, ne_eq, nI_clampD, nI_leT, nI_leF, nI_ltT, nI_ltF, nI_eqT, nI_eqF, nI_lt0F, nI_0leT, nI_eq0T, nI_eq0F, nI_0ltT, nI_0ltF, nI_le0T, nI_le0F, nI_m1, nI_m1', m1_m1, m1_lt, m1_le, nI_mul, nI_add, nI_sub, nI_add1, nI_dec, nI_div, nI_mod, vp_inD, sf_nkD, sf_eqD]
  refine ⟨_, rfl, fun i hi => ?_⟩
  have := rk_le k
  rw [ib_hol f hf (rk k) (by omega) i hi, decide_eq_true_iff]
set_option maxRecDepth 100000 in
set_option maxHeartbeats 400000 in
theorem c_X5_openHoles (f k w : Nat) (pw : Int32) (p : List Nat) (hf : f < 11) (hk : I 4 f = nI k) (h5 : k < 6) (hp : Bp pw (fun x => x ∈ p)) (hw : w + rk k ≤ 12) :
    am_Ctr g am_mt 1 (h + 2) 52 [.ref 37, .int (nI f), .int pw, .int (nI w)] (am_SH, I, J) 0 0 (fun r M => r = some (.int (nI (w + rk k))) ∧ ∃ I', M = (am_SH, I', J) ∧ (∀ c, c ≠ 38 → I' c = I c) ∧ (∀ j, j < w → I' 38 j = I 38 j) ∧ ∀ i, i < rk k → Bp (I' 38 (w + (rk k - 1 - i))) (fun x => x = 2 * f + i ∨ x ∈ p)) := by
  have h2 := rk_le k
  obtain ⟨JJ, hJJ⟩ : ∃ JJ : Nat → am_Cut, JJ = (fun zu zpc zl zst zM zk zn => (∃ (i j : Nat) (I1 : Nat → Nat → Int32), zu = 0 + i ∧ (i ≤ rk k ∧ j = w + (rk k - i)) ∧ (∀ c, c ≠ 38 → I1 c = I c) ∧ (∀ j, j < w → I1 38 j = I 38 j) ∧ (∀ i', i ≤ i' → i' < rk k → Bp (I1 38 (w + (rk k - 1 - i'))) (fun x => x = 2 * f + i' ∨ x ∈ p)) ∧ zpc = 15 ∧ zl = [(0, .ref 37), (1, .int (nI f)), (2, .int pw), (4, .int (nI j)), (5, .int (wI i))] ∧ zst = [] ∧ zM = (am_SH, I1, J) ∧ zk = 0 ∧ zn = 0)) := ⟨_, rfl⟩
  have mk : ∀ (i j : Nat) (I1 : Nat → Nat → Int32), (i ≤ rk k ∧ j = w + (rk k - i)) → (∀ c, c ≠ 38 → I1 c = I c) → (∀ j, j < w → I1 38 j = I 38 j) → (∀ i', i ≤ i' → i' < rk k → Bp (I1 38 (w + (rk k - 1 - i'))) (fun x => x = 2 * f + i' ∨ x ∈ p)) → JJ (0 + i) 15 [(0, .ref 37), (1, .int (nI f)), (2, .int pw), (4, .int (nI j)), (5, .int (wI i))] [] (am_SH, I1, J) 0 0 := by
    intro i j I1 a0 a1 a2 a3
    rw [hJJ]
    exact ⟨i, j, I1, rfl, a0, a1, a2, a3, rfl, rfl, rfl, rfl, rfl, rfl⟩
  refine am_rule2 (q := qX5_openHoles) (B := am_blk bX5_openHoles) rfl rfl kX5_openHoles nX5_openHoles (Nat.le_of_ble_eq_true rfl) JJ (fun zu zpc zl zst zM zk zn hj => ?_) ?_
  rotate_left
  · refine ⟨60, ?_⟩
    simp (decide := true) (disch := (first | exact eq_false (by decide) | exact eq_true (by decide) | decide | omega)) only [lX5_openHoles_0, lX5_openHoles_15, lX5_openHoles_55, lX5_openHoles_61, bX5_openHoles_0, bX5_openHoles_15, bX5_openHoles_55, bX5_openHoles_61, (show qX5_openHoles.2.2.2.1 = (some .int) from rfl), am_rok_int, w_alen_38, w_alen_45, w_alen_55, w_alen_67, w_aload_n, w_getfield, w_goto, w_iadd, w_iastore, w_icmp_ge, w_iconst, w_if_lt, w_iinc, w_iload, w_iload_n, w_imul, w_ior, w_ireturn, w_ishl, w_istore, w_isub, w_nop, w_swap, sa_38, sg_37_0, sg_37_3, cI_1, cI_2, am_lk0, am_lk1, am_ld_some, am_isI_i, am_isJ_j, am_isR_r, am_st_eq, am_rmv_nil, am_rmv_t, am_rmv_i, am_rmv_r, sf_SH, sj_SH, sf_eq, sf_nk, sf_na, sf_sf, am_args_i, am_args_r, am_args_n, Nat.reduceAdd, List.cons_append, List.nil_append, Option.toList, List.drop_succ_cons, List.drop_zero, am_RP, am_CP, am_PH, Fin.isValue, Fin.val_zero, Fin.val_one, am_f2, am_f3, true_and, and_true, true_implies, false_implies, not_false_eq_true, ne_eq, nI_clampD, nI_leT, nI_leF, nI_ltT, nI_ltF, nI_eqT, nI_eqF, nI_lt0F, nI_0leT, nI_eq0T, nI_eq0F, nI_0ltT, nI_0ltF, nI_le0T, nI_le0F, nI_m1, nI_m1', m1_m1, m1_lt, m1_le, nI_mul, nI_add, nI_sub, nI_add1, nI_dec, nI_div, nI_mod, vp_inD, sf_nkD, sf_eqD]
    refine w_virtE (c_X7_holesOf_2 g h I J f k hf hk h5) rfl rfl rfl (of_eq_true so_2) rfl (Nat.le_refl _) (Nat.le_refl _) ?_
    have h9 := wI_dec' (i := rk k)
    simp (decide := true) (disch := (first | exact eq_false (by decide) | exact eq_true (by decide) | decide | omega)) only [lX5_openHoles_0, lX5_openHoles_15, lX5_openHoles_55, lX5_openHoles_61, bX5_openHoles_0, bX5_openHoles_15, bX5_openHoles_55, bX5_openHoles_61, (show qX5_openHoles.2.2.2.1 = (some .int) from rfl), am_rok_int, w_alen_38, w_alen_45, w_alen_55, w_alen_67, w_aload_n, w_getfield, w_goto, w_iadd, w_iastore, w_icmp_ge, w_iconst, w_if_lt, w_iinc, w_iload, w_iload_n, w_imul, w_ior, w_ireturn, w_ishl, w_istore, w_isub, w_nop, w_swap, sa_38, sg_37_0, sg_37_3, cI_1, cI_2, am_lk0, am_lk1, am_ld_some, am_isI_i, am_isJ_j, am_isR_r, am_st_eq, am_rmv_nil, am_rmv_t, am_rmv_i, am_rmv_r, sf_SH, sj_SH, sf_eq, sf_nk, sf_na, sf_sf, am_args_i, am_args_r, am_args_n, Nat.reduceAdd, List.cons_append, List.nil_append, Option.toList, List.drop_succ_cons, List.drop_zero, am_RP, am_CP, am_PH, Fin.isValue, Fin.val_zero, Fin.val_one, am_f2, am_f3, true_and, and_true, true_implies, false_implies, not_false_eq_true, ne_eq, nI_clampD, nI_leT, nI_leF, nI_ltT, nI_ltF, nI_eqT, nI_eqF, nI_lt0F, nI_0leT, nI_eq0T, nI_eq0F, nI_0ltT, nI_0ltF, nI_le0T, nI_le0F, nI_m1, nI_m1', m1_m1, m1_lt, m1_le, nI_mul, nI_add, nI_sub, nI_add1, nI_dec, nI_div, nI_mod, vp_inD, sf_nkD, sf_eqD, h9]
    refine ⟨_, _, ?_, mk (rk k) w I ⟨Nat.le_refl _, by omega⟩ (fun _ _ => rfl) (fun _ _ => rfl) (fun i' a1 a2 => by omega)⟩
    · (simp (decide := true) only [am_has, am_lk0, am_lk1, and_self, true_and, and_true] <;> first | rfl | (refine ⟨?_, ?_⟩ <;> rfl) | (refine ⟨?_, ?_, ?_⟩ <;> rfl) | (refine ⟨?_, ?_, ?_, ?_⟩ <;> rfl))
  rw [hJJ] at hj
  clear hJJ
  obtain ⟨i, j, I1, rfl, e1, e2, e3, e4, rfl, rfl, rfl, rfl, rfl, rfl⟩ := hj
  refine ⟨_, 60, rfl, rfl, ?_⟩
  obtain ⟨e1, ej⟩ := e1
  by_cases hi : i = 0
  · have e0 : (wI i < 0) = True := by rw [hi]; decide
    have ej : j = w + rk k := by omega
    subst ej
    simp (decide := true) (disch := (first | exact eq_false (by decide) | exact eq_true (by decide) | decide | omega)) only [lX5_openHoles_0, lX5_openHoles_15, lX5_openHoles_55, lX5_openHoles_61, bX5_openHoles_0, bX5_openHoles_15, bX5_openHoles_55, bX5_openHoles_61, (show qX5_openHoles.2.2.2.1 = (some .int) from rfl), am_rok_int, w_alen_38, w_alen_45, w_alen_55, w_alen_67, w_aload_n, w_getfield, w_goto, w_iadd, w_iastore, w_icmp_ge, w_iconst, w_if_lt, w_iinc, w_iload, w_iload_n, w_imul, w_ior, w_ireturn, w_ishl, w_istore, w_isub, w_nop, w_swap, sa_38, sg_37_0, sg_37_3, cI_1, cI_2, am_lk0, am_lk1, am_ld_some, am_isI_i, am_isJ_j, am_isR_r, am_st_eq, am_rmv_nil, am_rmv_t, am_rmv_i, am_rmv_r, sf_SH, sj_SH, sf_eq, sf_nk, sf_na, sf_sf, am_args_i, am_args_r, am_args_n, Nat.reduceAdd, List.cons_append, List.nil_append, Option.toList, List.drop_succ_cons, List.drop_zero, am_RP, am_CP, am_PH, Fin.isValue, Fin.val_zero, Fin.val_one, am_f2, am_f3, true_and, and_true, true_implies, false_implies, not_false_eq_true, ne_eq, nI_clampD, nI_leT, nI_leF, nI_ltT, nI_ltF, nI_eqT, nI_eqF, nI_lt0F, nI_0leT, nI_eq0T, nI_eq0F, nI_0ltT, nI_0ltF, nI_le0T, nI_le0F, nI_m1, nI_m1', m1_m1, m1_lt, m1_le, nI_mul, nI_add, nI_sub, nI_add1, nI_dec, nI_div, nI_mod, vp_inD, sf_nkD, sf_eqD, e0]
    exact ⟨I1, rfl, e2, e3, fun i' hi' => e4 i' (by omega) hi'⟩
  · have e0 : wI i = nI (i - 1) := wI_p (by omega)
    have e9 := wI_dec (i := i) (by omega)
    rw [e0] at e9
    have ej2 : j < 12 := by omega
    simp (decide := true) (disch := (first | exact eq_false (by decide) | exact eq_true (by decide) | decide | omega)) only [lX5_openHoles_0, lX5_openHoles_15, lX5_openHoles_55, lX5_openHoles_61, bX5_openHoles_0, bX5_openHoles_15, bX5_openHoles_55, bX5_openHoles_61, (show qX5_openHoles.2.2.2.1 = (some .int) from rfl), am_rok_int, w_alen_38, w_alen_45, w_alen_55, w_alen_67, w_aload_n, w_getfield, w_goto, w_iadd, w_iastore, w_icmp_ge, w_iconst, w_if_lt, w_iinc, w_iload, w_iload_n, w_imul, w_ior, w_ireturn, w_ishl, w_istore, w_isub, w_nop, w_swap, sa_38, sg_37_0, sg_37_3, cI_1, cI_2, am_lk0, am_lk1, am_ld_some, am_isI_i, am_isJ_j, am_isR_r, am_st_eq, am_rmv_nil, am_rmv_t, am_rmv_i, am_rmv_r, sf_SH, sj_SH, sf_eq, sf_nk, sf_na, sf_sf, am_args_i, am_args_r, am_args_n, Nat.reduceAdd, List.cons_append, List.nil_append, Option.toList, List.drop_succ_cons, List.drop_zero, am_RP, am_CP, am_PH, Fin.isValue, Fin.val_zero, Fin.val_one, am_f2, am_f3, true_and, and_true, true_implies, false_implies, not_false_eq_true, ne_eq, nI_clampD, nI_leT, nI_leF, nI_ltT, nI_ltF, nI_eqT, nI_eqF, nI_lt0F, nI_0leT, nI_eq0T, nI_eq0F, nI_0ltT, nI_0ltF, nI_le0T, nI_le0F, nI_m1, nI_m1', m1_m1, m1_lt, m1_le, nI_mul, nI_add, nI_sub, nI_add1, nI_dec, nI_div, nI_mod, vp_inD, sf_nkD, sf_eqD, e0, e9]
    refine ⟨_, _, ?_, ?_, mk (i - 1) (j + 1) _ ⟨by omega, by omega⟩ (fun c hc => by rw [sf_naD hc]; exact e2 c hc) (fun j' hj => by rw [sf_nkD (by omega)]; exact e3 j' hj) (fun i' a1 a2 => ?_)⟩
    · omega
    · (simp (decide := true) only [am_has, am_lk0, am_lk1, and_self, true_and, and_true] <;> first | rfl | (refine ⟨?_, ?_⟩ <;> rfl) | (refine ⟨?_, ?_, ?_⟩ <;> rfl) | (refine ⟨?_, ?_, ?_, ?_⟩ <;> rfl))
    by_cases hii : i' = i - 1
    · rw [sf_eqD (by omega), hii]
      refine (hp.add (k := 2 * f + (i - 1)) (by omega)).cg (fun x _ => ⟨fun h0 => h0.elim Or.inr Or.inl, fun h0 => h0.elim Or.inr Or.inl⟩)
    · rw [sf_nkD (by omega)]
      exact e4 i' (by omega) a2
set_option maxRecDepth 100000 in
set_option maxHeartbeats 400000 in
theorem c_X5_welcomeUnder (hS : SN L t fs I) (hG : GC fs cs I) (pw uw ow : Int32) (p u : List Nat) (O : Nat → Prop) (hp : Bp pw (fun x => x ∈ p)) (hu : Bp uw (fun x => x ∈ u)) (ho : Bp ow O) :
    am_Ctr g am_mt 1 (h + 2) 49 [.ref 37, .int pw, .int uw, .int ow] (am_SH, I, J) 0 0 (fun r M => ∃ w, r = some (.int w) ∧ Bp w (fun f => f < fs.length ∧ f ∉ u ∧ ∀ x, wB I fs.length x f = true → O x → x ∈ p) ∧ M = (am_SH, I, J)) := by
  have hn := hS.2.le
  have h1 : I 2 1 = nI fs.length := hS.1.1
  obtain ⟨JJ, hJJ⟩ : ∃ JJ : Nat → am_Cut, JJ = (fun zu zpc zl zst zM zk zn => (∃ (i : Nat) (w : Int32), zu = fs.length - i ∧ (i ≤ fs.length) ∧ (Bp w (fun f => f < i ∧ f ∉ u ∧ ∀ x, wB I fs.length x f = true → O x → x ∈ p)) ∧ zpc = 13 ∧ zl = [(0, .ref 37), (1, .int pw), (2, .int uw), (3, .int ow), (4, .int (ow &&& (pw ^^^ -1))), (5, .int w), (6, .int (nI i))] ∧ zst = [] ∧ zM = (am_SH, I, J) ∧ zk = 0 ∧ zn = 0)) := ⟨_, rfl⟩
  have mk : ∀ (i : Nat) (w : Int32), (i ≤ fs.length) → (Bp w (fun f => f < i ∧ f ∉ u ∧ ∀ x, wB I fs.length x f = true → O x → x ∈ p)) → JJ (fs.length - i) 13 [(0, .ref 37), (1, .int pw), (2, .int uw), (3, .int ow), (4, .int (ow &&& (pw ^^^ -1))), (5, .int w), (6, .int (nI i))] [] (am_SH, I, J) 0 0 := by
    intro i w a0 a1
    rw [hJJ]
    exact ⟨i, w, rfl, a0, a1, rfl, rfl, rfl, rfl, rfl, rfl⟩
  refine am_rule2 (q := qX5_welcomeUnder) (B := am_blk bX5_welcomeUnder) rfl rfl kX5_welcomeUnder nX5_welcomeUnder (Nat.le_of_ble_eq_true rfl) JJ (fun zu zpc zl zst zM zk zn hj => ?_) ?_
  rotate_left
  · refine ⟨60, ?_⟩
    simp (decide := true) (disch := (first | exact eq_false (by decide) | exact eq_true (by decide) | decide | omega)) only [lX5_welcomeUnder_0, lX5_welcomeUnder_13, lX5_welcomeUnder_59, lX5_welcomeUnder_65, bX5_welcomeUnder_0, bX5_welcomeUnder_13, bX5_welcomeUnder_59, bX5_welcomeUnder_65, (show qX5_welcomeUnder.2.2.2.1 = (some .int) from rfl), am_rok_int, w_aload_n, w_getfield, w_goto, w_iaload, w_iand, w_icmp_ge, w_iconst, w_if_ne, w_iinc, w_iload, w_iload_n, w_ior, w_ireturn, w_ishl, w_istore, w_ixor, w_nop, w_swap, sa_34, sg_15_1, sg_29_6, sg_2_1, sg_37_0, sg_37_1, cI_0, cI_1, cI_m1, am_lk0, am_lk1, am_ld_some, am_isI_i, am_isJ_j, am_isR_r, am_st_eq, am_rmv_nil, am_rmv_t, am_rmv_i, am_rmv_r, sf_SH, sj_SH, sf_eq, sf_nk, sf_na, sf_sf, am_args_i, am_args_r, am_args_n, Nat.reduceAdd, List.cons_append, List.nil_append, Option.toList, List.drop_succ_cons, List.drop_zero, am_RP, am_CP, am_PH, Fin.isValue, Fin.val_zero, Fin.val_one, am_f2, am_f3, true_and, and_true, true_implies, false_implies, not_false_eq_true, ne_eq, nI_clampD, nI_leT, nI_leF, nI_ltT, nI_ltF, nI_eqT, nI_eqF, nI_lt0F, nI_0leT, nI_eq0T, nI_eq0F, nI_0ltT, nI_0ltF, nI_le0T, nI_le0F, nI_m1, nI_m1', m1_m1, m1_lt, m1_le, nI_mul, nI_add, nI_sub, nI_add1, nI_dec, nI_div, nI_mod, vp_inD, sf_nkD, sf_eqD]
    refine ⟨_, _, ?_, mk 0 (nI 0) (by omega) (Bp_n0.cg (fun f _ => ⟨False.elim, fun h0 => absurd h0.1 (Nat.not_lt_zero _)⟩))⟩
    · (simp (decide := true) only [am_has, am_lk0, am_lk1, and_self, true_and, and_true] <;> first | rfl | (refine ⟨?_, ?_⟩ <;> rfl) | (refine ⟨?_, ?_, ?_⟩ <;> rfl) | (refine ⟨?_, ?_, ?_, ?_⟩ <;> rfl))
  rw [hJJ] at hj
  clear hJJ
  obtain ⟨i, w, rfl, e1, e2, rfl, rfl, rfl, rfl, rfl, rfl⟩ := hj
  refine ⟨_, 60, rfl, rfl, ?_⟩
  by_cases hib : i = fs.length
  · subst hib
    simp (decide := true) (disch := (first | exact eq_false (by decide) | exact eq_true (by decide) | decide | omega)) only [lX5_welcomeUnder_0, lX5_welcomeUnder_13, lX5_welcomeUnder_59, lX5_welcomeUnder_65, bX5_welcomeUnder_0, bX5_welcomeUnder_13, bX5_welcomeUnder_59, bX5_welcomeUnder_65, (show qX5_welcomeUnder.2.2.2.1 = (some .int) from rfl), am_rok_int, w_aload_n, w_getfield, w_goto, w_iaload, w_iand, w_icmp_ge, w_iconst, w_if_ne, w_iinc, w_iload, w_iload_n, w_ior, w_ireturn, w_ishl, w_istore, w_ixor, w_nop, w_swap, sa_34, sg_15_1, sg_29_6, sg_2_1, sg_37_0, sg_37_1, cI_0, cI_1, cI_m1, am_lk0, am_lk1, am_ld_some, am_isI_i, am_isJ_j, am_isR_r, am_st_eq, am_rmv_nil, am_rmv_t, am_rmv_i, am_rmv_r, sf_SH, sj_SH, sf_eq, sf_nk, sf_na, sf_sf, am_args_i, am_args_r, am_args_n, Nat.reduceAdd, List.cons_append, List.nil_append, Option.toList, List.drop_succ_cons, List.drop_zero, am_RP, am_CP, am_PH, Fin.isValue, Fin.val_zero, Fin.val_one, am_f2, am_f3, true_and, and_true, true_implies, false_implies, not_false_eq_true, ne_eq, nI_clampD, nI_leT, nI_leF, nI_ltT, nI_ltF, nI_eqT, nI_eqF, nI_lt0F, nI_0leT, nI_eq0T, nI_eq0F, nI_0ltT, nI_0ltF, nI_le0T, nI_le0F, nI_m1, nI_m1', m1_m1, m1_lt, m1_le, nI_mul, nI_add, nI_sub, nI_add1, nI_dec, nI_div, nI_mod, vp_inD, sf_nkD, sf_eqD, h1]
    exact ⟨w, rfl, e2⟩
  · have hno : ¬ (i ∉ u ∧ ∀ x, wB I fs.length x i = true → O x → x ∈ p) → Bp w (fun f => f < i + 1 ∧ f ∉ u ∧ ∀ x, wB I fs.length x f = true → O x → x ∈ p) := fun hno => e2.cg (fun f _ => ⟨fun h0 => ⟨by omega, h0.2⟩, fun h0 => ⟨by
      by_cases hfi : f = i
      · rw [hfi] at h0; exact absurd h0.2 hno
      · omega, h0.2⟩⟩)
    have hui := hu i (by omega)
    simp (decide := true) (disch := (first | exact eq_false (by decide) | exact eq_true (by decide) | decide | omega)) only [lX5_welcomeUnder_0, lX5_welcomeUnder_13, lX5_welcomeUnder_59, lX5_welcomeUnder_65, bX5_welcomeUnder_0, bX5_welcomeUnder_13, bX5_welcomeUnder_59, bX5_welcomeUnder_65, (show qX5_welcomeUnder.2.2.2.1 = (some .int) from rfl), am_rok_int, w_aload_n, w_getfield, w_goto, w_iaload, w_iand, w_icmp_ge, w_iconst, w_if_ne, w_iinc, w_iload, w_iload_n, w_ior, w_ireturn, w_ishl, w_istore, w_ixor, w_nop, w_swap, sa_34, sg_15_1, sg_29_6, sg_2_1, sg_37_0, sg_37_1, cI_0, cI_1, cI_m1, am_lk0, am_lk1, am_ld_some, am_isI_i, am_isJ_j, am_isR_r, am_st_eq, am_rmv_nil, am_rmv_t, am_rmv_i, am_rmv_r, sf_SH, sj_SH, sf_eq, sf_nk, sf_na, sf_sf, am_args_i, am_args_r, am_args_n, Nat.reduceAdd, List.cons_append, List.nil_append, Option.toList, List.drop_succ_cons, List.drop_zero, am_RP, am_CP, am_PH, Fin.isValue, Fin.val_zero, Fin.val_one, am_f2, am_f3, true_and, and_true, true_implies, false_implies, not_false_eq_true, ne_eq, nI_clampD, nI_leT, nI_leF, nI_ltT, nI_ltF, nI_eqT, nI_eqF, nI_lt0F, nI_0leT, nI_eq0T, nI_eq0F, nI_0ltT, nI_0ltF, nI_le0T, nI_le0F, nI_m1, nI_m1', m1_m1, m1_lt, m1_le, nI_mul, nI_add, nI_sub, nI_add1, nI_dec, nI_div, nI_mod, vp_inD, sf_nkD, sf_eqD, h1]
    refine w_statE (c_X9_isIn g h I J uw i (by omega)) (by decide) rfl rfl rfl (Nat.le_refl _) (Nat.le_refl _) ?_
    cases hb : ib uw i with
    | true =>
      simp (decide := true) (disch := (first | exact eq_false (by decide) | exact eq_true (by decide) | decide | omega)) only [lX5_welcomeUnder_0, lX5_welcomeUnder_13, lX5_welcomeUnder_59, lX5_welcomeUnder_65, bX5_welcomeUnder_0, bX5_welcomeUnder_13, bX5_welcomeUnder_59, bX5_welcomeUnder_65, (show qX5_welcomeUnder.2.2.2.1 = (some .int) from rfl), am_rok_int, w_aload_n, w_getfield, w_goto, w_iaload, w_iand, w_icmp_ge, w_iconst, w_if_ne, w_iinc, w_iload, w_iload_n, w_ior, w_ireturn, w_ishl, w_istore, w_ixor, w_nop, w_swap, sa_34, sg_15_1, sg_29_6, sg_2_1, sg_37_0, sg_37_1, cI_0, cI_1, cI_m1, am_lk0, am_lk1, am_ld_some, am_isI_i, am_isJ_j, am_isR_r, am_st_eq, am_rmv_nil, am_rmv_t, am_rmv_i, am_rmv_r, sf_SH, sj_SH, sf_eq, sf_nk, sf_na, sf_sf, am_args_i, am_args_r, am_args_n, Nat.reduceAdd, List.cons_append, List.nil_append, Option.toList, List.drop_succ_cons, List.drop_zero, am_RP, am_CP, am_PH, Fin.isValue, Fin.val_zero, Fin.val_one, am_f2, am_f3, true_and, and_true, true_implies, false_implies, not_false_eq_true, ne_eq, nI_clampD, nI_leT, nI_leF, nI_ltT, nI_ltF, nI_eqT, nI_eqF, nI_lt0F, nI_0leT, nI_eq0T, nI_eq0F, nI_0ltT, nI_0ltF, nI_le0T, nI_le0F, nI_m1, nI_m1', m1_m1, m1_lt, m1_le, nI_mul, nI_add, nI_sub, nI_add1, nI_dec, nI_div, nI_mod, vp_inD, sf_nkD, sf_eqD, bI_t]
      refine ⟨_, _, ?_, ?_, mk (i + 1) w (by omega) (hno (fun h0 => h0.1 (hui.mp hb)))⟩
      · omega
      · (simp (decide := true) only [am_has, am_lk0, am_lk1, and_self, true_and, and_true] <;> first | rfl | (refine ⟨?_, ?_⟩ <;> rfl) | (refine ⟨?_, ?_, ?_⟩ <;> rfl) | (refine ⟨?_, ?_, ?_, ?_⟩ <;> rfl))
    | false =>
      have hui' : i ∉ u := fun h0 => by rw [hui.mpr h0] at hb; cases hb
      have hz := ((hG.2 i (by omega)).and (ho.and hp.not)).z
      by_cases hd : I 34 i &&& (ow &&& (pw ^^^ -1)) = 0
      · have hz := hz.mp hd
        have hz' : ∀ x, wB I fs.length x i = true → O x → x ∈ p := fun x hx hox => Classical.byContradiction fun h9 => hz x (by have := (wB_t.mp hx).1; omega) ⟨hx, hox, h9⟩
        simp (decide := true) (disch := (first | exact eq_false (by decide) | exact eq_true (by decide) | decide | omega)) only [lX5_welcomeUnder_0, lX5_welcomeUnder_13, lX5_welcomeUnder_59, lX5_welcomeUnder_65, bX5_welcomeUnder_0, bX5_welcomeUnder_13, bX5_welcomeUnder_59, bX5_welcomeUnder_65, (show qX5_welcomeUnder.2.2.2.1 = (some .int) from rfl), am_rok_int, w_aload_n, w_getfield, w_goto, w_iaload, w_iand, w_icmp_ge, w_iconst, w_if_ne, w_iinc, w_iload, w_iload_n, w_ior, w_ireturn, w_ishl, w_istore, w_ixor, w_nop, w_swap, sa_34, sg_15_1, sg_29_6, sg_2_1, sg_37_0, sg_37_1, cI_0, cI_1, cI_m1, am_lk0, am_lk1, am_ld_some, am_isI_i, am_isJ_j, am_isR_r, am_st_eq, am_rmv_nil, am_rmv_t, am_rmv_i, am_rmv_r, sf_SH, sj_SH, sf_eq, sf_nk, sf_na, sf_sf, am_args_i, am_args_r, am_args_n, Nat.reduceAdd, List.cons_append, List.nil_append, Option.toList, List.drop_succ_cons, List.drop_zero, am_RP, am_CP, am_PH, Fin.isValue, Fin.val_zero, Fin.val_one, am_f2, am_f3, true_and, and_true, true_implies, false_implies, not_false_eq_true, ne_eq, nI_clampD, nI_leT, nI_leF, nI_ltT, nI_ltF, nI_eqT, nI_eqF, nI_lt0F, nI_0leT, nI_eq0T, nI_eq0F, nI_0ltT, nI_0ltF, nI_le0T, nI_le0F, nI_m1, nI_m1', m1_m1, m1_lt, m1_le, nI_mul, nI_add, nI_sub, nI_add1, nI_dec, nI_div, nI_mod, vp_inD, sf_nkD, sf_eqD, bI_f, hd]
        refine ⟨_, _, ?_, ?_, mk (i + 1) _ (by omega) ((e2.add (k := i) (by omega)).cg (fun f _ => ⟨fun h0 => ?_, fun h0 => ?_⟩))⟩
        · omega
        · (simp (decide := true) only [am_has, am_lk0, am_lk1, and_self, true_and, and_true] <;> first | rfl | (refine ⟨?_, ?_⟩ <;> rfl) | (refine ⟨?_, ?_, ?_⟩ <;> rfl) | (refine ⟨?_, ?_, ?_, ?_⟩ <;> rfl))
        · rcases h0 with h0 | h0
          · exact ⟨by omega, h0.2⟩
          · rw [h0]; exact ⟨by omega, hui', hz'⟩
        · by_cases hfi : f = i
          · exact Or.inr hfi
          · exact Or.inl ⟨by omega, h0.2⟩
      · simp (decide := true) (disch := (first | exact eq_false (by decide) | exact eq_true (by decide) | decide | omega)) only [lX5_welcomeUnder_0, lX5_welcomeUnder_13, lX5_welcomeUnder_59, lX5_welcomeUnder_65, bX5_welcomeUnder_0, bX5_welcomeUnder_13, bX5_welcomeUnder_59, bX5_welcomeUnder_65, (show qX5_welcomeUnder.2.2.2.1 = (some .int) from rfl), am_rok_int, w_aload_n, w_getfield, w_goto, w_iaload, w_iand, w_icmp_ge, w_iconst, w_if_ne, w_iinc, w_iload, w_iload_n, w_ior, w_ireturn, w_ishl, w_istore, w_ixor, w_nop, w_swap, sa_34, sg_15_1, sg_29_6, sg_2_1, sg_37_0, sg_37_1, cI_0, cI_1, cI_m1, am_lk0, am_lk1, am_ld_some, am_isI_i, am_isJ_j, am_isR_r, am_st_eq, am_rmv_nil, am_rmv_t, am_rmv_i, am_rmv_r, sf_SH, sj_SH, sf_eq, sf_nk, sf_na, sf_sf, am_args_i, am_args_r, am_args_n, Nat.reduceAdd, List.cons_append, List.nil_append, Option.toList, List.drop_succ_cons, List.drop_zero, am_RP, am_CP, am_PH, Fin.isValue, Fin.val_zero, Fin.val_one, am_f2, am_f3, true_and, and_true, true_implies, false_implies, not_false_eq_true, ne_eq, nI_clampD, nI_leT, nI_leF, nI_ltT, nI_ltF, nI_eqT, nI_eqF, nI_lt0F, nI_0leT, nI_eq0T, nI_eq0F, nI_0ltT, nI_0ltF, nI_le0T, nI_le0F, nI_m1, nI_m1', m1_m1, m1_lt, m1_le, nI_mul, nI_add, nI_sub, nI_add1, nI_dec, nI_div, nI_mod, vp_inD, sf_nkD, sf_eqD, bI_f, hd]
        refine ⟨_, _, ?_, ?_, mk (i + 1) w (by omega) (hno (fun h0 => hd (hz.mpr (fun x _ h9 => h9.2.2 (h0.2 x h9.1 h9.2.1)))))⟩
        · omega
        · (simp (decide := true) only [am_has, am_lk0, am_lk1, and_self, true_and, and_true] <;> first | rfl | (refine ⟨?_, ?_⟩ <;> rfl) | (refine ⟨?_, ?_, ?_⟩ <;> rfl) | (refine ⟨?_, ?_, ?_, ?_⟩ <;> rfl))
set_option maxRecDepth 100000 in
set_option maxHeartbeats 400000 in
theorem c_X5_missingIn (hS : SN L t fs I) (hG : GC fs cs I) (cw uw : Int32) (u : List Nat) (C : Nat → Prop) (hc : Bp cw C) (hu : Bp uw (fun x => x ∈ u)) :
    am_Ctr g am_mt 1 (h + 2) 50 [.ref 37, .int cw, .int uw] (am_SH, I, J) 0 0 (fun r M => ∃ w, r = some (.int w) ∧ Bp w (fun f => f < fs.length ∧ f ∉ u ∧ ∃ x, wB I fs.length x f = true ∧ C x) ∧ M = (am_SH, I, J)) := by
  have hn := hS.2.le
  have h1 : I 2 1 = nI fs.length := hS.1.1
  obtain ⟨JJ, hJJ⟩ : ∃ JJ : Nat → am_Cut, JJ = (fun zu zpc zl zst zM zk zn => (∃ (i : Nat) (w : Int32), zu = fs.length - i ∧ (i ≤ fs.length) ∧ (Bp w (fun f => f < i ∧ f ∉ u ∧ ∃ x, wB I fs.length x f = true ∧ C x)) ∧ zpc = 5 ∧ zl = [(0, .ref 37), (1, .int cw), (2, .int uw), (3, .int w), (4, .int (nI i))] ∧ zst = [] ∧ zM = (am_SH, I, J) ∧ zk = 0 ∧ zn = 0)) := ⟨_, rfl⟩
  have mk : ∀ (i : Nat) (w : Int32), (i ≤ fs.length) → (Bp w (fun f => f < i ∧ f ∉ u ∧ ∃ x, wB I fs.length x f = true ∧ C x)) → JJ (fs.length - i) 5 [(0, .ref 37), (1, .int cw), (2, .int uw), (3, .int w), (4, .int (nI i))] [] (am_SH, I, J) 0 0 := by
    intro i w a0 a1
    rw [hJJ]
    exact ⟨i, w, rfl, a0, a1, rfl, rfl, rfl, rfl, rfl, rfl⟩
  refine am_rule2 (q := qX5_missingIn) (B := am_blk bX5_missingIn) rfl rfl kX5_missingIn nX5_missingIn (Nat.le_of_ble_eq_true rfl) JJ (fun zu zpc zl zst zM zk zn hj => ?_) ?_
  rotate_left
  · refine ⟨60, ?_⟩
    simp (decide := true) (disch := (first | exact eq_false (by decide) | exact eq_true (by decide) | decide | omega)) only [lX5_missingIn_0, lX5_missingIn_5, lX5_missingIn_48, lX5_missingIn_54, bX5_missingIn_0, bX5_missingIn_5, bX5_missingIn_48, bX5_missingIn_54, (show qX5_missingIn.2.2.2.1 = (some .int) from rfl), am_rok_int, w_aload_n, w_getfield, w_goto, w_iaload, w_iand, w_icmp_ge, w_iconst, w_if_eq, w_if_ne, w_iinc, w_iload, w_iload_n, w_ior, w_ireturn, w_ishl, w_istore, w_istore_n, w_nop, w_swap, sa_34, sg_15_1, sg_29_6, sg_2_1, sg_37_0, sg_37_1, cI_0, cI_1, am_lk0, am_lk1, am_ld_some, am_isI_i, am_isJ_j, am_isR_r, am_st_eq, am_rmv_nil, am_rmv_t, am_rmv_i, am_rmv_r, sf_SH, sj_SH, sf_eq, sf_nk, sf_na, sf_sf, am_args_i, am_args_r, am_args_n, Nat.reduceAdd, List.cons_append, List.nil_append, Option.toList, List.drop_succ_cons, List.drop_zero, am_RP, am_CP, am_PH, Fin.isValue, Fin.val_zero, Fin.val_one, am_f2, am_f3, true_and, and_true, true_implies, false_implies, not_false_eq_true, ne_eq, nI_clampD, nI_leT, nI_leF, nI_ltT, nI_ltF, nI_eqT, nI_eqF, nI_lt0F, nI_0leT, nI_eq0T, nI_eq0F, nI_0ltT, nI_0ltF, nI_le0T, nI_le0F, nI_m1, nI_m1', m1_m1, m1_lt, m1_le, nI_mul, nI_add, nI_sub, nI_add1, nI_dec, nI_div, nI_mod, vp_inD, sf_nkD, sf_eqD]
    refine ⟨_, _, ?_, mk 0 (nI 0) (by omega) (Bp_n0.cg (fun f _ => ⟨False.elim, fun h0 => absurd h0.1 (Nat.not_lt_zero _)⟩))⟩
    · (simp (decide := true) only [am_has, am_lk0, am_lk1, and_self, true_and, and_true] <;> first | rfl | (refine ⟨?_, ?_⟩ <;> rfl) | (refine ⟨?_, ?_, ?_⟩ <;> rfl) | (refine ⟨?_, ?_, ?_, ?_⟩ <;> rfl))
  rw [hJJ] at hj
  clear hJJ
  obtain ⟨i, w, rfl, e1, e2, rfl, rfl, rfl, rfl, rfl, rfl⟩ := hj
  refine ⟨_, 60, rfl, rfl, ?_⟩
  by_cases hib : i = fs.length
  · subst hib
    simp (decide := true) (disch := (first | exact eq_false (by decide) | exact eq_true (by decide) | decide | omega)) only [lX5_missingIn_0, lX5_missingIn_5, lX5_missingIn_48, lX5_missingIn_54, bX5_missingIn_0, bX5_missingIn_5, bX5_missingIn_48, bX5_missingIn_54, (show qX5_missingIn.2.2.2.1 = (some .int) from rfl), am_rok_int, w_aload_n, w_getfield, w_goto, w_iaload, w_iand, w_icmp_ge, w_iconst, w_if_eq, w_if_ne, w_iinc, w_iload, w_iload_n, w_ior, w_ireturn, w_ishl, w_istore, w_istore_n, w_nop, w_swap, sa_34, sg_15_1, sg_29_6, sg_2_1, sg_37_0, sg_37_1, cI_0, cI_1, am_lk0, am_lk1, am_ld_some, am_isI_i, am_isJ_j, am_isR_r, am_st_eq, am_rmv_nil, am_rmv_t, am_rmv_i, am_rmv_r, sf_SH, sj_SH, sf_eq, sf_nk, sf_na, sf_sf, am_args_i, am_args_r, am_args_n, Nat.reduceAdd, List.cons_append, List.nil_append, Option.toList, List.drop_succ_cons, List.drop_zero, am_RP, am_CP, am_PH, Fin.isValue, Fin.val_zero, Fin.val_one, am_f2, am_f3, true_and, and_true, true_implies, false_implies, not_false_eq_true, ne_eq, nI_clampD, nI_leT, nI_leF, nI_ltT, nI_ltF, nI_eqT, nI_eqF, nI_lt0F, nI_0leT, nI_eq0T, nI_eq0F, nI_0ltT, nI_0ltF, nI_le0T, nI_le0F, nI_m1, nI_m1', m1_m1, m1_lt, m1_le, nI_mul, nI_add, nI_sub, nI_add1, nI_dec, nI_div, nI_mod, vp_inD, sf_nkD, sf_eqD, h1]
    exact ⟨w, rfl, e2⟩
  · have hno : ¬ (i ∉ u ∧ ∃ x, wB I fs.length x i = true ∧ C x) → Bp w (fun f => f < i + 1 ∧ f ∉ u ∧ ∃ x, wB I fs.length x f = true ∧ C x) := fun hno => e2.cg (fun f _ => ⟨fun h0 => ⟨by omega, h0.2⟩, fun h0 => ⟨by
      by_cases hfi : f = i
      · rw [hfi] at h0; exact absurd h0.2 hno
      · omega, h0.2⟩⟩)
    have hui := hu i (by omega)
    simp (decide := true) (disch := (first | exact eq_false (by decide) | exact eq_true (by decide) | decide | omega)) only [lX5_missingIn_0, lX5_missingIn_5, lX5_missingIn_48, lX5_missingIn_54, bX5_missingIn_0, bX5_missingIn_5, bX5_missingIn_48, bX5_missingIn_54, (show qX5_missingIn.2.2.2.1 = (some .int) from rfl), am_rok_int, w_aload_n, w_getfield, w_goto, w_iaload, w_iand, w_icmp_ge, w_iconst, w_if_eq, w_if_ne, w_iinc, w_iload, w_iload_n, w_ior, w_ireturn, w_ishl, w_istore, w_istore_n, w_nop, w_swap, sa_34, sg_15_1, sg_29_6, sg_2_1, sg_37_0, sg_37_1, cI_0, cI_1, am_lk0, am_lk1, am_ld_some, am_isI_i, am_isJ_j, am_isR_r, am_st_eq, am_rmv_nil, am_rmv_t, am_rmv_i, am_rmv_r, sf_SH, sj_SH, sf_eq, sf_nk, sf_na, sf_sf, am_args_i, am_args_r, am_args_n, Nat.reduceAdd, List.cons_append, List.nil_append, Option.toList, List.drop_succ_cons, List.drop_zero, am_RP, am_CP, am_PH, Fin.isValue, Fin.val_zero, Fin.val_one, am_f2, am_f3, true_and, and_true, true_implies, false_implies, not_false_eq_true, ne_eq, nI_clampD, nI_leT, nI_leF, nI_ltT, nI_ltF, nI_eqT, nI_eqF, nI_lt0F, nI_0leT, nI_eq0T, nI_eq0F, nI_0ltT, nI_0ltF, nI_le0T, nI_le0F, nI_m1, nI_m1', m1_m1, m1_lt, m1_le, nI_mul, nI_add, nI_sub, nI_add1, nI_dec, nI_div, nI_mod, vp_inD, sf_nkD, sf_eqD, h1]
    refine w_statE (c_X9_isIn g h I J uw i (by omega)) (by decide) rfl rfl rfl (Nat.le_refl _) (Nat.le_refl _) ?_
    cases hb : ib uw i with
    | true =>
      simp (decide := true) (disch := (first | exact eq_false (by decide) | exact eq_true (by decide) | decide | omega)) only [lX5_missingIn_0, lX5_missingIn_5, lX5_missingIn_48, lX5_missingIn_54, bX5_missingIn_0, bX5_missingIn_5, bX5_missingIn_48, bX5_missingIn_54, (show qX5_missingIn.2.2.2.1 = (some .int) from rfl), am_rok_int, w_aload_n, w_getfield, w_goto, w_iaload, w_iand, w_icmp_ge, w_iconst, w_if_eq, w_if_ne, w_iinc, w_iload, w_iload_n, w_ior, w_ireturn, w_ishl, w_istore, w_istore_n, w_nop, w_swap, sa_34, sg_15_1, sg_29_6, sg_2_1, sg_37_0, sg_37_1, cI_0, cI_1, am_lk0, am_lk1, am_ld_some, am_isI_i, am_isJ_j, am_isR_r, am_st_eq, am_rmv_nil, am_rmv_t, am_rmv_i, am_rmv_r, sf_SH, sj_SH, sf_eq, sf_nk, sf_na, sf_sf, am_args_i, am_args_r, am_args_n, Nat.reduceAdd, List.cons_append, List.nil_append, Option.toList, List.drop_succ_cons, List.drop_zero, am_RP, am_CP, am_PH, Fin.isValue, Fin.val_zero, Fin.val_one, am_f2, am_f3, true_and, and_true, true_implies, false_implies, not_false_eq_true, ne_eq, nI_clampD, nI_leT, nI_leF, nI_ltT, nI_ltF, nI_eqT, nI_eqF, nI_lt0F, nI_0leT, nI_eq0T, nI_eq0F, nI_0ltT, nI_0ltF, nI_le0T, nI_le0F, nI_m1, nI_m1', m1_m1, m1_lt, m1_le, nI_mul, nI_add, nI_sub, nI_add1, nI_dec, nI_div, nI_mod, vp_inD, sf_nkD, sf_eqD, bI_t]
      refine ⟨_, _, ?_, ?_, mk (i + 1) w (by omega) (hno (fun h0 => h0.1 (hui.mp hb)))⟩
      · omega
      · (simp (decide := true) only [am_has, am_lk0, am_lk1, and_self, true_and, and_true] <;> first | rfl | (refine ⟨?_, ?_⟩ <;> rfl) | (refine ⟨?_, ?_, ?_⟩ <;> rfl) | (refine ⟨?_, ?_, ?_, ?_⟩ <;> rfl))
    | false =>
      have hui' : i ∉ u := fun h0 => by rw [hui.mpr h0] at hb; cases hb
      have hz := ((hG.2 i (by omega)).and hc).z
      by_cases hd : I 34 i &&& cw = 0
      · simp (decide := true) (disch := (first | exact eq_false (by decide) | exact eq_true (by decide) | decide | omega)) only [lX5_missingIn_0, lX5_missingIn_5, lX5_missingIn_48, lX5_missingIn_54, bX5_missingIn_0, bX5_missingIn_5, bX5_missingIn_48, bX5_missingIn_54, (show qX5_missingIn.2.2.2.1 = (some .int) from rfl), am_rok_int, w_aload_n, w_getfield, w_goto, w_iaload, w_iand, w_icmp_ge, w_iconst, w_if_eq, w_if_ne, w_iinc, w_iload, w_iload_n, w_ior, w_ireturn, w_ishl, w_istore, w_istore_n, w_nop, w_swap, sa_34, sg_15_1, sg_29_6, sg_2_1, sg_37_0, sg_37_1, cI_0, cI_1, am_lk0, am_lk1, am_ld_some, am_isI_i, am_isJ_j, am_isR_r, am_st_eq, am_rmv_nil, am_rmv_t, am_rmv_i, am_rmv_r, sf_SH, sj_SH, sf_eq, sf_nk, sf_na, sf_sf, am_args_i, am_args_r, am_args_n, Nat.reduceAdd, List.cons_append, List.nil_append, Option.toList, List.drop_succ_cons, List.drop_zero, am_RP, am_CP, am_PH, Fin.isValue, Fin.val_zero, Fin.val_one, am_f2, am_f3, true_and, and_true, true_implies, false_implies, not_false_eq_true, ne_eq, nI_clampD, nI_leT, nI_leF, nI_ltT, nI_ltF, nI_eqT, nI_eqF, nI_lt0F, nI_0leT, nI_eq0T, nI_eq0F, nI_0ltT, nI_0ltF, nI_le0T, nI_le0F, nI_m1, nI_m1', m1_m1, m1_lt, m1_le, nI_mul, nI_add, nI_sub, nI_add1, nI_dec, nI_div, nI_mod, vp_inD, sf_nkD, sf_eqD, bI_f, hd]
        refine ⟨_, _, ?_, ?_, mk (i + 1) w (by omega) (hno (fun h0 => ?_))⟩
        · omega
        · (simp (decide := true) only [am_has, am_lk0, am_lk1, and_self, true_and, and_true] <;> first | rfl | (refine ⟨?_, ?_⟩ <;> rfl) | (refine ⟨?_, ?_, ?_⟩ <;> rfl) | (refine ⟨?_, ?_, ?_, ?_⟩ <;> rfl))
        obtain ⟨x, hx1, hx2⟩ := h0.2
        exact hz.mp hd x (by have := (wB_t.mp hx1).1; omega) ⟨hx1, hx2⟩
      · have hz' : ∃ x, wB I fs.length x i = true ∧ C x := Classical.byContradiction fun h9 => hd (hz.mpr (fun x _ h8 => h9 ⟨x, h8⟩))
        simp (decide := true) (disch := (first | exact eq_false (by decide) | exact eq_true (by decide) | decide | omega)) only [lX5_missingIn_0, lX5_missingIn_5, lX5_missingIn_48, lX5_missingIn_54, bX5_missingIn_0, bX5_missingIn_5, bX5_missingIn_48, bX5_missingIn_54, (show qX5_missingIn.2.2.2.1 = (some .int) from rfl), am_rok_int, w_aload_n, w_getfield, w_goto, w_iaload, w_iand, w_icmp_ge, w_iconst, w_if_eq, w_if_ne, w_iinc, w_iload, w_iload_n, w_ior, w_ireturn, w_ishl, w_istore, w_istore_n, w_nop, w_swap, sa_34, sg_15_1, sg_29_6, sg_2_1, sg_37_0, sg_37_1, cI_0, cI_1, am_lk0, am_lk1, am_ld_some, am_isI_i, am_isJ_j, am_isR_r, am_st_eq, am_rmv_nil, am_rmv_t, am_rmv_i, am_rmv_r, sf_SH, sj_SH, sf_eq, sf_nk, sf_na, sf_sf, am_args_i, am_args_r, am_args_n, Nat.reduceAdd, List.cons_append, List.nil_append, Option.toList, List.drop_succ_cons, List.drop_zero, am_RP, am_CP, am_PH, Fin.isValue, Fin.val_zero, Fin.val_one, am_f2, am_f3, true_and, and_true, true_implies, false_implies, not_false_eq_true, ne_eq, nI_clampD, nI_leT, nI_leF, nI_ltT, nI_ltF, nI_eqT, nI_eqF, nI_lt0F, nI_0leT, nI_eq0T, nI_eq0F, nI_0ltT, nI_0ltF, nI_le0T, nI_le0F, nI_m1, nI_m1', m1_m1, m1_lt, m1_le, nI_mul, nI_add, nI_sub, nI_add1, nI_dec, nI_div, nI_mod, vp_inD, sf_nkD, sf_eqD, bI_f, hd]
        refine ⟨_, _, ?_, ?_, mk (i + 1) _ (by omega) ((e2.add (k := i) (by omega)).cg (fun f _ => ⟨fun h0 => ?_, fun h0 => ?_⟩))⟩
        · omega
        · (simp (decide := true) only [am_has, am_lk0, am_lk1, and_self, true_and, and_true] <;> first | rfl | (refine ⟨?_, ?_⟩ <;> rfl) | (refine ⟨?_, ?_, ?_⟩ <;> rfl) | (refine ⟨?_, ?_, ?_, ?_⟩ <;> rfl))
        · rcases h0 with h0 | h0
          · exact ⟨by omega, h0.2⟩
          · rw [h0]; exact ⟨by omega, hui', hz'⟩
        · by_cases hfi : f = i
          · exact Or.inr hfi
          · exact Or.inl ⟨by omega, h0.2⟩
set_option maxRecDepth 100000 in
set_option maxHeartbeats 400000 in
theorem c_X5_leavesNoneOut (f k : Nat) (ww mw : Int32) (hf : f < 11) (hk : I 4 f = nI k) (h5 : k < 6) :
    am_Ctr g am_mt 1 (h + 2) 48 [.ref 37, .int (nI f), .int ww, .int mw] (am_SH, I, J) 0 0 (fun r M => ∃ b, r = some (.int (bI b)) ∧ (b = true ↔ if k = 0 then ∀ g, g < 32 → ib mw g = true → g = f else ∀ g, g < 32 → (ib (I 33 (2 * f)) g = true ∨ ib (I 33 (2 * f + 1)) g = true) → ib ww g = true) ∧ M = (am_SH, I, J)) := by
  refine am_rule0 (q := qX5_leavesNoneOut) (B := am_blk bX5_leavesNoneOut) 60 rfl rfl kX5_leavesNoneOut nX5_leavesNoneOut (Nat.le_of_ble_eq_true rfl) ?_
  have es : ∀ i, ib (nI 1 <<< (nI f &&& 31)) i = decide (i = f) := fun i => ib_shl (by omega) i
  by_cases h0 : k = 0
  · subst h0
    have e := ib_nc (x := mw) (y := nI 1 <<< (nI f &&& 31))
    by_cases hz : mw &&& (nI 1 <<< (nI f &&& 31) ^^^ -1) = 0
    · simp (decide := true) (disch := (first | exact eq_false (by decide) | exact eq_true (by decide) | decide | omega)) only [lX5_leavesNoneOut_0, lX5_leavesNoneOut_26, lX5_leavesNoneOut_27, lX5_leavesNoneOut_28, lX5_leavesNoneOut_47, lX5_leavesNoneOut_48, bX5_leavesNoneOut_0, bX5_leavesNoneOut_26, bX5_leavesNoneOut_27, bX5_leavesNoneOut_28, bX5_leavesNoneOut_47, bX5_leavesNoneOut_48, (show qX5_leavesNoneOut.2.2.2.1 = (some .boolean) from rfl), am_rok_bool, w_aload_n, w_getfield, w_goto, w_iaload, w_iand, w_iconst, w_if_ne, w_iload_n, w_ireturn, w_ishl, w_ixor, w_swap, sa_17, sa_4, sg_15_2, sg_2_2, sg_37_0, sg_37_1, cI_0, cI_1, cI_m1, am_lk0, am_lk1, am_ld_some, am_isI_i, am_isJ_j, am_isR_r, am_st_eq, am_rmv_nil, am_rmv_t, am_rmv_i, am_rmv_r, sf_SH, sj_SH, sf_eq, sf_nk, sf_na, sf_sf, am_args_i, am_args_r, am_args_n, Nat.reduceAdd, List.cons_append, List.nil_append, Option.toList, List.drop_succ_cons, List.drop_zero, am_RP, am_CP, am_PH, Fin.isValue, Fin.val_zero, Fin.val_one, am_f2, am_f3, true_and, and_true, true_implies, false_implies, not_false_eq_true, ne_eq, nI_clampD, nI_leT, nI_leF, nI_ltT, nI_ltF, nI_eqT, nI_eqF, nI_lt0F, nI_0leT, nI_eq0T, nI_eq0F, nI_0ltT, nI_0ltF, nI_le0T, nI_le0F, nI_m1, nI_m1', m1_m1, m1_lt, m1_le, nI_mul, nI_add, nI_sub, nI_add1, nI_dec, nI_div, nI_mod, vp_inD, sf_nkD, sf_eqD, hk, hz, nI1_01]
      refine ⟨true, rfl, fun _ => ?_, fun _ => rfl⟩
      rw [if_pos trivial]
      intro g hg hb
      have := e.mp hz g hg hb
      rw [es] at this
      exact of_decide_eq_true this
    · simp (decide := true) (disch := (first | exact eq_false (by decide) | exact eq_true (by decide) | decide | omega)) only [lX5_leavesNoneOut_0, lX5_leavesNoneOut_26, lX5_leavesNoneOut_27, lX5_leavesNoneOut_28, lX5_leavesNoneOut_47, lX5_leavesNoneOut_48, bX5_leavesNoneOut_0, bX5_leavesNoneOut_26, bX5_leavesNoneOut_27, bX5_leavesNoneOut_28, bX5_leavesNoneOut_47, bX5_leavesNoneOut_48, (show qX5_leavesNoneOut.2.2.2.1 = (some .boolean) from rfl), am_rok_bool, w_aload_n, w_getfield, w_goto, w_iaload, w_iand, w_iconst, w_if_ne, w_iload_n, w_ireturn, w_ishl, w_ixor, w_swap, sa_17, sa_4, sg_15_2, sg_2_2, sg_37_0, sg_37_1, cI_0, cI_1, cI_m1, am_lk0, am_lk1, am_ld_some, am_isI_i, am_isJ_j, am_isR_r, am_st_eq, am_rmv_nil, am_rmv_t, am_rmv_i, am_rmv_r, sf_SH, sj_SH, sf_eq, sf_nk, sf_na, sf_sf, am_args_i, am_args_r, am_args_n, Nat.reduceAdd, List.cons_append, List.nil_append, Option.toList, List.drop_succ_cons, List.drop_zero, am_RP, am_CP, am_PH, Fin.isValue, Fin.val_zero, Fin.val_one, am_f2, am_f3, true_and, and_true, true_implies, false_implies, not_false_eq_true, ne_eq, nI_clampD, nI_leT, nI_leF, nI_ltT, nI_ltF, nI_eqT, nI_eqF, nI_lt0F, nI_0leT, nI_eq0T, nI_eq0F, nI_0ltT, nI_0ltF, nI_le0T, nI_le0F, nI_m1, nI_m1', m1_m1, m1_lt, m1_le, nI_mul, nI_add, nI_sub, nI_add1, nI_dec, nI_div, nI_mod, vp_inD, sf_nkD, sf_eqD, hk, hz, nI0_01]
      refine ⟨false, rfl, fun h9 => (by cases h9), fun h9 => ?_⟩
      rw [if_pos trivial] at h9
      exact absurd (e.mpr (fun i hi hb => by rw [es]; exact decide_eq_true (h9 i hi hb))) hz
  · simp (decide := true) (disch := (first | exact eq_false (by decide) | exact eq_true (by decide) | decide | omega)) only [lX5_leavesNoneOut_0, lX5_leavesNoneOut_26, lX5_leavesNoneOut_27, lX5_leavesNoneOut_28, lX5_leavesNoneOut_47, lX5_leavesNoneOut_48, bX5_leavesNoneOut_0, bX5_leavesNoneOut_26, bX5_leavesNoneOut_27, bX5_leavesNoneOut_28, bX5_leavesNoneOut_47, bX5_leavesNoneOut_48, (show qX5_leavesNoneOut.2.2.2.1 = (some .boolean) from rfl), am_rok_bool, w_aload_n, w_getfield, w_goto, w_iaload, w_iand, w_iconst, w_if_ne, w_iload_n, w_ireturn, w_ishl, w_ixor, w_swap, sa_17, sa_4, sg_15_2, sg_2_2, sg_37_0, sg_37_1, cI_0, cI_1, cI_m1, am_lk0, am_lk1, am_ld_some, am_isI_i, am_isJ_j, am_isR_r, am_st_eq, am_rmv_nil, am_rmv_t, am_rmv_i, am_rmv_r, sf_SH, sj_SH, sf_eq, sf_nk, sf_na, sf_sf, am_args_i, am_args_r, am_args_n, Nat.reduceAdd, List.cons_append, List.nil_append, Option.toList, List.drop_succ_cons, List.drop_zero, am_RP, am_CP, am_PH, Fin.isValue, Fin.val_zero, Fin.val_one, am_f2, am_f3, true_and, and_true, true_implies, false_implies, not_false_eq_true, ne_eq, nI_clampD, nI_leT, nI_leF, nI_ltT, nI_ltF, nI_eqT, nI_eqF, nI_lt0F, nI_0leT, nI_eq0T, nI_eq0F, nI_0ltT, nI_0ltF, nI_le0T, nI_le0F, nI_m1, nI_m1', m1_m1, m1_lt, m1_le, nI_mul, nI_add, nI_sub, nI_add1, nI_dec, nI_div, nI_mod, vp_inD, sf_nkD, sf_eqD, hk]
    refine w_virtE (c_X0_wantedUnder g h I J f hf) rfl rfl rfl (of_eq_true so_29) rfl (Nat.le_refl _) (Nat.le_refl _) ?_
    have e := ib_nc (x := I 33 (2 * f) ||| I 33 (2 * f + 1)) (y := ww)
    by_cases hz : (I 33 (2 * f) ||| I 33 (2 * f + 1)) &&& (ww ^^^ -1) = 0
    · simp (decide := true) (disch := (first | exact eq_false (by decide) | exact eq_true (by decide) | decide | omega)) only [lX5_leavesNoneOut_0, lX5_leavesNoneOut_26, lX5_leavesNoneOut_27, lX5_leavesNoneOut_28, lX5_leavesNoneOut_47, lX5_leavesNoneOut_48, bX5_leavesNoneOut_0, bX5_leavesNoneOut_26, bX5_leavesNoneOut_27, bX5_leavesNoneOut_28, bX5_leavesNoneOut_47, bX5_leavesNoneOut_48, (show qX5_leavesNoneOut.2.2.2.1 = (some .boolean) from rfl), am_rok_bool, w_aload_n, w_getfield, w_goto, w_iaload, w_iand, w_iconst, w_if_ne, w_iload_n, w_ireturn, w_ishl, w_ixor, w_swap, sa_17, sa_4, sg_15_2, sg_2_2, sg_37_0, sg_37_1, cI_0, cI_1, cI_m1, am_lk0, am_lk1, am_ld_some, am_isI_i, am_isJ_j, am_isR_r, am_st_eq, am_rmv_nil, am_rmv_t, am_rmv_i, am_rmv_r, sf_SH, sj_SH, sf_eq, sf_nk, sf_na, sf_sf, am_args_i, am_args_r, am_args_n, Nat.reduceAdd, List.cons_append, List.nil_append, Option.toList, List.drop_succ_cons, List.drop_zero, am_RP, am_CP, am_PH, Fin.isValue, Fin.val_zero, Fin.val_one, am_f2, am_f3, true_and, and_true, true_implies, false_implies, not_false_eq_true, ne_eq, nI_clampD, nI_leT, nI_leF, nI_ltT, nI_ltF, nI_eqT, nI_eqF, nI_lt0F, nI_0leT, nI_eq0T, nI_eq0F, nI_0ltT, nI_0ltF, nI_le0T, nI_le0F, nI_m1, nI_m1', m1_m1, m1_lt, m1_le, nI_mul, nI_add, nI_sub, nI_add1, nI_dec, nI_div, nI_mod, vp_inD, sf_nkD, sf_eqD, hz, nI1_01]
      refine ⟨true, rfl, fun _ => ?_, fun _ => rfl⟩
      rw [if_neg h0]
      intro g hg hb
      refine e.mp hz g hg ?_
      rw [ib_or, Bool.or_eq_true]
      exact hb
    · simp (decide := true) (disch := (first | exact eq_false (by decide) | exact eq_true (by decide) | decide | omega)) only [lX5_leavesNoneOut_0, lX5_leavesNoneOut_26, lX5_leavesNoneOut_27, lX5_leavesNoneOut_28, lX5_leavesNoneOut_47, lX5_leavesNoneOut_48, bX5_leavesNoneOut_0, bX5_leavesNoneOut_26, bX5_leavesNoneOut_27, bX5_leavesNoneOut_28, bX5_leavesNoneOut_47, bX5_leavesNoneOut_48, (show qX5_leavesNoneOut.2.2.2.1 = (some .boolean) from rfl), am_rok_bool, w_aload_n, w_getfield, w_goto, w_iaload, w_iand, w_iconst, w_if_ne, w_iload_n, w_ireturn, w_ishl, w_ixor, w_swap, sa_17, sa_4, sg_15_2, sg_2_2, sg_37_0, sg_37_1, cI_0, cI_1, cI_m1, am_lk0, am_lk1, am_ld_some, am_isI_i, am_isJ_j, am_isR_r, am_st_eq, am_rmv_nil, am_rmv_t, am_rmv_i, am_rmv_r, sf_SH, sj_SH, sf_eq, sf_nk, sf_na, sf_sf, am_args_i, am_args_r, am_args_n, Nat.reduceAdd, List.cons_append, List.nil_append, Option.toList, List.drop_succ_cons, List.drop_zero, am_RP, am_CP, am_PH, Fin.isValue, Fin.val_zero, Fin.val_one, am_f2, am_f3, true_and, and_true, true_implies, false_implies, not_false_eq_true, ne_eq, nI_clampD, nI_leT, nI_leF, nI_ltT, nI_ltF, nI_eqT, nI_eqF, nI_lt0F, nI_0leT, nI_eq0T, nI_eq0F, nI_0ltT, nI_0ltF, nI_le0T, nI_le0F, nI_m1, nI_m1', m1_m1, m1_lt, m1_le, nI_mul, nI_add, nI_sub, nI_add1, nI_dec, nI_div, nI_mod, vp_inD, sf_nkD, sf_eqD, hz, nI0_01]
      refine ⟨false, rfl, fun h9 => (by cases h9), fun h9 => ?_⟩
      rw [if_neg h0] at h9
      exact absurd (e.mpr (fun i hi hb => h9 i hi (by rw [ib_or, Bool.or_eq_true] at hb; exact hb))) hz
end FI1
