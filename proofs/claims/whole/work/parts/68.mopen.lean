/-! the reference's search: open holes, what may stand -/
theorem nI_dec1 {a : Nat} (h : 0 < a) : nI a + -1 = nI (a - 1) := by rw [← cI_m1]; exact nI_dec h
theorem wI_dec1 {i : Nat} (h : 0 < i) : nI (i - 1) + -1 = wI (i - 1) := by
  have := wI_dec h
  rw [wI_p h, cI_m1] at this
  exact this
/-- one of the first k values -/
def seen (F : Nat → Nat) (k x : Nat) : Prop := ∃ j, j < k ∧ F j = x
theorem seen_0 (F : Nat → Nat) (x : Nat) : false = true ↔ seen F 0 x := ⟨fun h => (by cases h), fun ⟨j, hj, _⟩ => absurd hj (Nat.not_lt_zero _)⟩
theorem seen_t {F : Nat → Nat} {k x : Nat} {b : Bool} (h : b = true ↔ seen F k x) (hF : F k = x ∨ b = true) : true = true ↔ seen F (k + 1) x := ⟨fun _ => hF.elim (fun h1 => ⟨k, Nat.lt_succ_self k, h1⟩) (fun h1 => (h.mp h1).elim fun j hj => ⟨j, Nat.lt_succ_of_lt hj.1, hj.2⟩), fun _ => rfl⟩
theorem seen_f {F : Nat → Nat} {k x : Nat} (h : false = true ↔ seen F k x) (hF : ¬ F k = x) : false = true ↔ seen F (k + 1) x := ⟨fun h => (by cases h), fun ⟨j, hj, h1⟩ => h.mpr ⟨j, (Nat.lt_succ_iff_lt_or_eq.mp hj).elim id (fun h2 => absurd (h2 ▸ h1) hF), h1⟩⟩
def hdc : List Nat → Nat
  | [] => 0
  | x :: _ => x + 1
def hsd (st : List (List Nat)) : List Nat := st.filterMap List.head?
theorem hsd_n (s : List (List Nat)) : hsd ([] :: s) = hsd s := rfl
theorem hsd_c (x : Nat) (p : List Nat) (s : List (List Nat)) : hsd ((x :: p) :: s) = x :: hsd s := rfl
theorem hsd_le (st : List (List Nat)) : (hsd st).length ≤ st.length := List.length_filterMap_le _ _
/-- the pile, its top first -/
def PLs (xs : List Nat) (I : Nat → Nat → Int32) : Prop := I 60 37 = nI xs.length ∧ ∀ j, j < xs.length → I 83 j = nI (xs.getD (xs.length - 1 - j) 0)
theorem PLs.fr {xs : List Nat} {I I' : Nat → Nat → Int32} (h : PLs xs I) (h1 : I' 60 37 = I 60 37) (h2 : I' 83 = I 83) : PLs xs I' := by
  unfold PLs
  rw [h1, h2]
  exact h
theorem PLs.push {xs : List Nat} {I : Nat → Nat → Int32} (h : PLs xs I) (x : Nat) : PLs (x :: xs) (sf (sf I 83 xs.length (nI x)) 60 37 (nI (xs.length + 1))) := by
  refine ⟨by rw [sf_eq]; rfl, fun j hj => ?_⟩
  rw [List.length_cons] at hj ⊢
  rw [sf_naD (by decide)]
  by_cases hjx : j = xs.length
  · rw [sf_eqD hjx, hjx, show xs.length + 1 - 1 - xs.length = 0 by omega]
    rfl
  · rw [sf_nkD hjx, h.2 j (by omega), show xs.length + 1 - 1 - j = (xs.length - 1 - j) + 1 by omega]
    rfl
theorem PLs.top {x : Nat} {xs : List Nat} {I : Nat → Nat → Int32} (h : PLs (x :: xs) I) : I 83 xs.length = nI x := by
  have := h.2 xs.length (by simp)
  rw [List.length_cons, show xs.length + 1 - 1 - xs.length = 0 by omega] at this
  exact this
theorem PLs.pop {x : Nat} {xs : List Nat} {I : Nat → Nat → Int32} (h : PLs (x :: xs) I) : PLs xs (sf I 60 37 (nI xs.length)) := by
  refine ⟨by rw [sf_eq], fun j hj => ?_⟩
  rw [sf_naD (by decide), h.2 j (by rw [List.length_cons]; omega), List.length_cons, show xs.length + 1 - 1 - j = (xs.length - 1 - j) + 1 by omega]
  rfl
/-- the hole of each fragment, and whether it is placed -/
def HOd (l : List (Nat × List Nat)) (I : Nat → Nat → Int32) : Prop := (∀ q ∈ l, I 81 q.1 = wI (hdc q.2) ∧ I 82 q.1 = nI 1) ∧ ∀ f, f < 11 → f ∉ l.map (·.1) → I 81 f = -1 ∧ I 82 f = nI 0
theorem HOd.fr {l : List (Nat × List Nat)} {I I' : Nat → Nat → Int32} (h : HOd l I) (h1 : I' 81 = I 81) (h2 : I' 82 = I 82) : HOd l I' := by
  unfold HOd
  rw [h1, h2]
  exact h
theorem HOd.add {l : List (Nat × List Nat)} {I I' : Nat → Nat → Int32} (h : HOd l I) {f : Nat} {p : List Nat} (hf : f ∉ l.map (·.1)) (h1 : ∀ j, j ≠ f → I' 81 j = I 81 j ∧ I' 82 j = I 82 j) (h2 : I' 81 f = wI (hdc p)) (h3 : I' 82 f = nI 1) : HOd (l ++ [(f, p)]) I' := by
  refine ⟨fun q hq => ?_, fun j hj hn => ?_⟩
  · rcases List.mem_append.mp hq with hq | hq
    · have hne : q.1 ≠ f := fun h0 => hf (h0 ▸ List.mem_map.mpr ⟨q, hq, rfl⟩)
      rw [(h1 _ hne).1, (h1 _ hne).2]
      exact h.1 q hq
    · rw [List.mem_singleton.mp hq]
      exact ⟨h2, h3⟩
  · rw [List.map_append, List.mem_append] at hn
    have hne : j ≠ f := fun h0 => hn (Or.inr (by rw [h0]; simp))
    rw [(h1 _ hne).1, (h1 _ hne).2]
    exact h.2 j hj (fun h0 => hn (Or.inl h0))
def FrO (I I' : Nat → Nat → Int32) : Prop := (∀ c, c ≠ 60 → c ≠ 81 → c ≠ 82 → c ≠ 83 → I' c = I c) ∧ ∀ k, k ≠ 37 → I' 60 k = I 60 k
theorem FrO.rf (I : Nat → Nat → Int32) : FrO I I := ⟨fun _ _ _ _ _ => rfl, fun _ _ => rfl⟩
theorem FrO.st {I I' : Nat → Nat → Int32} (h : FrO I I') {a k : Nat} {v : Int32} (ha : a = 81 ∨ a = 82 ∨ a = 83 ∨ (a = 60 ∧ k = 37)) : FrO I (sf I' a k v) := by
  refine ⟨fun c d1 d2 d3 d4 => ?_, fun j hj => ?_⟩
  · rw [sf_naD (by omega)]; exact h.1 c d1 d2 d3 d4
  · by_cases ha6 : a = 60
    · subst ha6
      rw [sf_nkD (by omega)]; exact h.2 j hj
    · rw [sf_naD (fun h0 => ha6 h0.symm)]; exact h.2 j hj
theorem take_s {o : List Nat} {k : Nat} (h : k < o.length) : o.take (k + 1) = o.take k ++ [o.getD k 0] := by
  rw [List.take_succ, List.getElem?_eq_getElem h, List.getD_eq_getElem?_getD, List.getElem?_eq_getElem h]
  rfl
/-- runs of the beginnings of an order -/
theorem rrun_take {kd : Nat → Nat} {o : List Nat} {s : List (List Nat)} {l : List (Nat × List Nat)} (h : rrun kd s o = some l) (k : Nat) : ∃ st, rstk kd s (o.take k) = some st ∧ rrun kd s (o.take k) = some (l.take k) ∧ rrun kd st (o.drop k) = some (l.drop k) := by
  have h1 := h
  rw [← List.take_append_drop k o, rrun_app] at h1
  obtain ⟨st, e1, h1⟩ := Option.bind_eq_some_iff.mp h1
  obtain ⟨l1, e2, h1⟩ := Option.bind_eq_some_iff.mp h1
  obtain ⟨l2, e3, h1⟩ := Option.map_eq_some_iff.mp h1
  have hl1 := congrArg List.length (rrun_fst kd _ _ _ e2)
  have hl := congrArg List.length (rrun_fst kd _ _ _ h)
  rw [List.length_map] at hl1 hl
  rw [List.length_take] at hl1
  by_cases hk : k ≤ o.length
  · have e4 : l1 = l.take k := by rw [← h1, List.take_append_of_le_length (by omega), List.take_of_length_le (by omega)]
    have e5 : l2 = l.drop k := by
      have hk1 : k = l1.length := by omega
      rw [← h1, hk1, List.drop_left]
    exact ⟨st, e1, by rw [e2, e4], by rw [e3, e5]⟩
  · have hd : o.drop k = [] := List.drop_eq_nil_of_le (by omega)
    rw [hd] at e3
    simp only [rrun, Option.some.injEq] at e3
    subst e3
    rw [List.append_nil] at h1
    subst h1
    exact ⟨st, e1, by rw [e2, List.take_of_length_le (by omega)], by rw [hd, List.drop_eq_nil_of_le (by omega)]; rfl⟩
/-- the next place of a run -/
theorem rrun_next {kd : Nat → Nat} {o : List Nat} {s : List (List Nat)} {l : List (Nat × List Nat)} (h : rrun kd s o = some l) {k : Nat} (hk : k < o.length) : ∃ p r, rstk kd s (o.take k) = some (p :: r) ∧ rrun kd s (o.take k) = some (l.take k) ∧ rrun kd s (o.take (k + 1)) = some (l.take k ++ [(o.getD k 0, p)]) ∧ rstk kd s (o.take (k + 1)) = some (rp kd (o.getD k 0) p ++ r) ∧ l.take (k + 1) = l.take k ++ [(o.getD k 0, p)] := by
  obtain ⟨st, e1, e2, e3⟩ := rrun_take h k
  have hd : o.drop k = o.getD k 0 :: o.drop (k + 1) := by
    rw [List.getD_eq_getElem?_getD, List.getElem?_eq_getElem hk]
    exact List.drop_eq_getElem_cons hk
  cases st with
  | nil => rw [hd] at e3; simp [rrun] at e3
  | cons p r =>
    have e5 := rstk_snoc kd (o.getD k 0) (o.take k) s p r e1
    rw [← take_s hk] at e5
    have e6 : rrun kd s (o.take (k + 1)) = some (l.take k ++ [(o.getD k 0, p)]) := by
      rw [take_s hk, rrun_app, e1, e2]
      rfl
    obtain ⟨st', -, f2, -⟩ := rrun_take h (k + 1)
    refine ⟨p, r, e1, e2, e6, e5, ?_⟩
    rw [e6] at f2
    exact (Option.some.inj f2).symm
theorem rstk_len (kd : Nat → Nat) : ∀ (o : List Nat) (s s1 : List (List Nat)), rstk kd s o = some s1 → s1.length ≤ s.length + o.length
  | [], s, s1, h => by
    simp only [rstk, Option.some.injEq] at h
    subst h
    simp
  | f :: o, [], s1, h => by simp [rstk] at h
  | f :: o, p :: s, s1, h => by
    have h1 := rstk_len kd o _ s1 h
    have h2 := rh_le kd f
    rw [List.length_append, rp_len] at h1
    simp only [List.length_cons]
    omega
theorem rpre_ne {kd : Nat → Nat} {o : List Nat} (ho : o ≠ []) {st : List (List Nat)} (h : rstk kd [[]] o = some st) : ∀ q ∈ st, q ≠ [] := by
  cases o with
  | nil => exact absurd rfl ho
  | cons a b =>
    refine rstk_ne kd b (rp kd a [] ++ []) _ h (fun r hr => ?_)
    rw [List.append_nil] at hr
    obtain ⟨i, hi, rfl⟩ := rp_mem hr
    exact fun h9 => by cases h9
theorem hsd_rp (kd : Nat → Nat) (f : Nat) (p : List Nat) (s : List (List Nat)) : hsd (rp kd f p ++ s) = (List.range' 0 (rh kd f)).map (fun i => 2 * f + i) ++ hsd s := by
  unfold hsd
  rw [List.filterMap_append]
  congr 1
  unfold rp
  rw [List.filterMap_map, ← List.range_eq_range']
  induction List.range (rh kd f) with
  | nil => rfl
  | cons a r ih =>
    rw [List.filterMap_cons]
    simp only [Function.comp, List.head?_cons, List.map_cons]
    congr 1
section MO1
variable (g : am_G) (h : Nat) (I : Nat → Nat → Int32) (J : Nat → Nat → Int64) {L : Nat → Nat} {t : Nat} {fs : List Fg} {cs : List (Nat × Nat)}
/-- an order stands in the reference's work row -/
def OCd (o : List Nat) (I : Nat → Nat → Int32) : Prop := ∀ k, k < o.length → I 80 k = nI (o.getD k 0)
set_option maxRecDepth 100000 in
set_option maxHeartbeats 8000000 in
theorem c_X10_opens (hS : SMd L t fs I) (hG : Good L t fs) (o : List Nat) (l : List (Nat × List Nat)) (st : List (List Nat)) (hO : OCd o I) (hl : rrun (kdF fs) [[]] o = some l) (hst : rstk (kdF fs) [[]] o = some st) (hnd : o.Nodup) (hb : ∀ f ∈ o, f < fs.length) (hol : o.length ≤ fs.length) :
    am_Ctr g am_mt 1 (h + 2) 163 [.ref 60, .int (nI o.length)] (am_SH, I, J) 0 0 (fun r M => r = none ∧ ∃ I', M = (am_SH, I', J) ∧ FrO I I' ∧ HOd l I' ∧ (0 < o.length → PLs (hsd st) I')) := by
  have hn := hG.le
  have hget : ∀ k, k < o.length → o.getD k 0 < fs.length ∧ o.getD k 0 ∉ o.take k := fun k hk => by
    rw [List.getD_eq_getElem?_getD, List.getElem?_eq_getElem hk]
    refine ⟨hb _ (List.getElem_mem _), fun h0 => ?_⟩
    have h9 := hnd
    rw [← List.take_append_drop k o, List.nodup_append] at h9
    refine h9.2.2 _ h0 _ ?_ rfl
    rw [List.drop_eq_getElem_cons hk]
    exact List.mem_cons_self
  have hlt : ∀ {k s1}, rstk (kdF fs) [[]] (o.take k) = some s1 → s1.length ≤ 12 := fun {k s1} h0 => by
    have h9 := rstk_len _ _ _ _ h0
    rw [List.length_take] at h9
    simp only [List.length_cons, List.length_nil] at h9
    omega
  obtain ⟨JJ, hJJ⟩ : ∃ JJ : Nat → am_Cut, JJ = (fun zu zpc zl zst zM zk zn => (∃ (i : Nat) (I1 : Nat → Nat → Int32), zu = 10000 + (11 - i) ∧ (i ≤ 11) ∧ (FrO I I1) ∧ (I1 60 37 = nI 0) ∧ (∀ j, j < i → I1 81 j = -1 ∧ I1 82 j = nI 0) ∧ zpc = 7 ∧ zl = [(0, .ref 60), (1, .int (nI o.length)), (2, .int (nI i))] ∧ zst = [] ∧ zM = (am_SH, I1, J) ∧ zk = 0 ∧ zn = 0) ∨ (∃ (k : Nat) (sk : List (List Nat)) (I1 : Nat → Nat → Int32), zu = 100 * (o.length - k) ∧ (k ≤ o.length) ∧ (FrO I I1) ∧ (HOd (l.take k) I1) ∧ (rstk (kdF fs) [[]] (o.take k) = some sk) ∧ (PLs (hsd sk) I1) ∧ zpc = 35 ∧ zl = [(0, .ref 60), (1, .int (nI o.length)), (2, .int (nI k))] ∧ zst = [] ∧ zM = (am_SH, I1, J) ∧ zk = 0 ∧ zn = 0) ∨ (∃ (k i : Nat) (p : List Nat) (sk : List (List Nat)) (I1 : Nat → Nat → Int32), zu = 100 * (o.length - k - 1) + 1 + i ∧ (k < o.length) ∧ (FrO I I1) ∧ (HOd (l.take (k + 1)) I1) ∧ (rstk (kdF fs) [[]] (o.take k) = some (p :: sk)) ∧ (i ≤ rk (kF (nF fs (o.getD k 0)))) ∧ (PLs ((List.range' i (rk (kF (nF fs (o.getD k 0))) - i)).map (fun i => 2 * (o.getD k 0) + i) ++ hsd sk) I1) ∧ zpc = 92 ∧ zl = [(0, .ref 60), (1, .int (nI o.length)), (2, .int (nI k)), (3, .int (nI (o.getD k 0))), (4, .int (wI i))] ∧ zst = [] ∧ zM = (am_SH, I1, J) ∧ zk = 0 ∧ zn = 0)) := ⟨_, rfl⟩
  have mk1 : ∀ (i : Nat) (I1 : Nat → Nat → Int32), (i ≤ 11) → (FrO I I1) → (I1 60 37 = nI 0) → (∀ j, j < i → I1 81 j = -1 ∧ I1 82 j = nI 0) → JJ (10000 + (11 - i)) 7 [(0, .ref 60), (1, .int (nI o.length)), (2, .int (nI i))] [] (am_SH, I1, J) 0 0 := by
    intro i I1 a0 a1 a2 a3
    rw [hJJ]
    exact Or.inl ⟨i, I1, rfl, a0, a1, a2, a3, rfl, rfl, rfl, rfl, rfl, rfl⟩
  have mk2 : ∀ (k : Nat) (sk : List (List Nat)) (I1 : Nat → Nat → Int32), (k ≤ o.length) → (FrO I I1) → (HOd (l.take k) I1) → (rstk (kdF fs) [[]] (o.take k) = some sk) → (PLs (hsd sk) I1) → JJ (100 * (o.length - k)) 35 [(0, .ref 60), (1, .int (nI o.length)), (2, .int (nI k))] [] (am_SH, I1, J) 0 0 := by
    intro k sk I1 a0 a1 a2 a3 a4
    rw [hJJ]
    exact Or.inr (Or.inl ⟨k, sk, I1, rfl, a0, a1, a2, a3, a4, rfl, rfl, rfl, rfl, rfl, rfl⟩)
  have mk3 : ∀ (k i : Nat) (p : List Nat) (sk : List (List Nat)) (I1 : Nat → Nat → Int32), (k < o.length) → (FrO I I1) → (HOd (l.take (k + 1)) I1) → (rstk (kdF fs) [[]] (o.take k) = some (p :: sk)) → (i ≤ rk (kF (nF fs (o.getD k 0)))) → (PLs ((List.range' i (rk (kF (nF fs (o.getD k 0))) - i)).map (fun i => 2 * (o.getD k 0) + i) ++ hsd sk) I1) → JJ (100 * (o.length - k - 1) + 1 + i) 92 [(0, .ref 60), (1, .int (nI o.length)), (2, .int (nI k)), (3, .int (nI (o.getD k 0))), (4, .int (wI i))] [] (am_SH, I1, J) 0 0 := by
    intro k i p sk I1 a0 a1 a2 a3 a4 a5
    rw [hJJ]
    exact Or.inr (Or.inr (⟨k, i, p, sk, I1, rfl, a0, a1, a2, a3, a4, a5, rfl, rfl, rfl, rfl, rfl, rfl⟩))
  refine am_rule2 (q := qX10_opens) (B := am_blk bX10_opens) rfl rfl kX10_opens nX10_opens (Nat.le_of_ble_eq_true rfl) JJ (fun zu zpc zl zst zM zk zn hj => ?_) ?_
  rotate_left
  · refine ⟨60, ?_⟩
    simp (decide := true) (disch := (first | exact eq_false (by decide) | exact eq_true (by decide) | decide | omega)) only [lX10_opens_0, lX10_opens_7, lX10_opens_33, lX10_opens_35, lX10_opens_83, lX10_opens_92, lX10_opens_128, lX10_opens_134, bX10_opens_0, bX10_opens_7, bX10_opens_33, bX10_opens_35, bX10_opens_83, bX10_opens_92, bX10_opens_128, bX10_opens_134, (show qX10_opens.2.2.2.1 = none from rfl), am_rok_none, w_aload_n, w_bastore, w_bipush, w_dup, w_getfield, w_goto, w_iadd, w_iaload, w_iastore, w_icmp_ge, w_iconst, w_if_le, w_if_lt, w_iinc, w_iload, w_iload_n, w_imul, w_istore, w_istore_n, w_isub, w_nop, w_puti, w_return, w_swap, sa_80, sa_81, sa_82, sa_83, sg_60_33, sg_60_34, sg_60_35, sg_60_36, sg_60_37, sp_60_37, cB_11, cI_0, cI_1, cI_2, cI_m1, am_lk0, am_lk1, am_ld_some, am_isI_i, am_isJ_j, am_isR_r, am_st_eq, am_rmv_nil, am_rmv_t, am_rmv_i, am_rmv_r, sf_SH, sj_SH, sf_eq, sf_nk, sf_na, sf_sf, am_args_i, am_args_r, am_args_n, Nat.reduceAdd, List.cons_append, List.nil_append, Option.toList, List.drop_succ_cons, List.drop_zero, am_RP, am_CP, am_PH, Fin.isValue, Fin.val_zero, Fin.val_one, am_f2, am_f3, true_and, and_true, true_implies, false_implies, not_false_eq_true, ne_eq, nI_clampD, nI_leT, nI_leF, nI_ltT, nI_ltF, nI_eqT, nI_eqF, nI_lt0F, nI_0leT, nI_eq0T, nI_eq0F, nI_0ltT, nI_0ltF, nI_le0T, nI_le0F, nI_m1, nI_m1', m1_m1, m1_lt, m1_le, nI_mul, nI_add, nI_sub, nI_add1, nI_dec, nI_div, nI_mod, vp_inD, sf_nkD, sf_eqD]
    refine ⟨_, _, ?_, mk1 0 _ (by omega) ((FrO.rf I).st (Or.inr (Or.inr (Or.inr ⟨rfl, rfl⟩)))) (by rw [sf_eq]) (fun j hj => absurd hj (Nat.not_lt_zero _))⟩
    · (simp (decide := true) only [am_has, am_lk0, am_lk1, and_self, true_and, and_true] <;> first | rfl | (refine ⟨?_, ?_⟩ <;> rfl) | (refine ⟨?_, ?_, ?_⟩ <;> rfl) | (refine ⟨?_, ?_, ?_, ?_⟩ <;> rfl))
  rw [hJJ] at hj
  clear hJJ
  rcases hj with ⟨i, I1, rfl, e1, e2, e3, e4, rfl, rfl, rfl, rfl, rfl, rfl⟩ | ⟨k, sk, I1, rfl, e1, e2, e3, e4, e5, rfl, rfl, rfl, rfl, rfl, rfl⟩ | ⟨k, i, p, sk, I1, rfl, e1, e2, e3, e4, e5, e6, rfl, rfl, rfl, rfl, rfl, rfl⟩
  · refine ⟨_, 60, rfl, rfl, ?_⟩
    by_cases hi : i = 11
    · subst hi
      simp (decide := true) (disch := (first | exact eq_false (by decide) | exact eq_true (by decide) | decide | omega)) only [lX10_opens_0, lX10_opens_7, lX10_opens_33, lX10_opens_35, lX10_opens_83, lX10_opens_92, lX10_opens_128, lX10_opens_134, bX10_opens_0, bX10_opens_7, bX10_opens_33, bX10_opens_35, bX10_opens_83, bX10_opens_92, bX10_opens_128, bX10_opens_134, (show qX10_opens.2.2.2.1 = none from rfl), am_rok_none, w_aload_n, w_bastore, w_bipush, w_dup, w_getfield, w_goto, w_iadd, w_iaload, w_iastore, w_icmp_ge, w_iconst, w_if_le, w_if_lt, w_iinc, w_iload, w_iload_n, w_imul, w_istore, w_istore_n, w_isub, w_nop, w_puti, w_return, w_swap, sa_80, sa_81, sa_82, sa_83, sg_60_33, sg_60_34, sg_60_35, sg_60_36, sg_60_37, sp_60_37, cB_11, cI_0, cI_1, cI_2, cI_m1, am_lk0, am_lk1, am_ld_some, am_isI_i, am_isJ_j, am_isR_r, am_st_eq, am_rmv_nil, am_rmv_t, am_rmv_i, am_rmv_r, sf_SH, sj_SH, sf_eq, sf_nk, sf_na, sf_sf, am_args_i, am_args_r, am_args_n, Nat.reduceAdd, List.cons_append, List.nil_append, Option.toList, List.drop_succ_cons, List.drop_zero, am_RP, am_CP, am_PH, Fin.isValue, Fin.val_zero, Fin.val_one, am_f2, am_f3, true_and, and_true, true_implies, false_implies, not_false_eq_true, ne_eq, nI_clampD, nI_leT, nI_leF, nI_ltT, nI_ltF, nI_eqT, nI_eqF, nI_lt0F, nI_0leT, nI_eq0T, nI_eq0F, nI_0ltT, nI_0ltF, nI_le0T, nI_le0F, nI_m1, nI_m1', m1_m1, m1_lt, m1_le, nI_mul, nI_add, nI_sub, nI_add1, nI_dec, nI_div, nI_mod, vp_inD, sf_nkD, sf_eqD]
      refine ⟨_, _, ?_, ?_, mk2 0 [[]] I1 (by omega) e2 ⟨fun q hq => (by simp at hq), fun f hf _ => e4 f hf⟩ rfl ⟨e3, fun j hj => absurd hj (Nat.not_lt_zero _)⟩⟩
      · omega
      · (simp (decide := true) only [am_has, am_lk0, am_lk1, and_self, true_and, and_true] <;> first | rfl | (refine ⟨?_, ?_⟩ <;> rfl) | (refine ⟨?_, ?_, ?_⟩ <;> rfl) | (refine ⟨?_, ?_, ?_, ?_⟩ <;> rfl))
    · simp (decide := true) (disch := (first | exact eq_false (by decide) | exact eq_true (by decide) | decide | omega)) only [lX10_opens_0, lX10_opens_7, lX10_opens_33, lX10_opens_35, lX10_opens_83, lX10_opens_92, lX10_opens_128, lX10_opens_134, bX10_opens_0, bX10_opens_7, bX10_opens_33, bX10_opens_35, bX10_opens_83, bX10_opens_92, bX10_opens_128, bX10_opens_134, (show qX10_opens.2.2.2.1 = none from rfl), am_rok_none, w_aload_n, w_bastore, w_bipush, w_dup, w_getfield, w_goto, w_iadd, w_iaload, w_iastore, w_icmp_ge, w_iconst, w_if_le, w_if_lt, w_iinc, w_iload, w_iload_n, w_imul, w_istore, w_istore_n, w_isub, w_nop, w_puti, w_return, w_swap, sa_80, sa_81, sa_82, sa_83, sg_60_33, sg_60_34, sg_60_35, sg_60_36, sg_60_37, sp_60_37, cB_11, cI_0, cI_1, cI_2, cI_m1, am_lk0, am_lk1, am_ld_some, am_isI_i, am_isJ_j, am_isR_r, am_st_eq, am_rmv_nil, am_rmv_t, am_rmv_i, am_rmv_r, sf_SH, sj_SH, sf_eq, sf_nk, sf_na, sf_sf, am_args_i, am_args_r, am_args_n, Nat.reduceAdd, List.cons_append, List.nil_append, Option.toList, List.drop_succ_cons, List.drop_zero, am_RP, am_CP, am_PH, Fin.isValue, Fin.val_zero, Fin.val_one, am_f2, am_f3, true_and, and_true, true_implies, false_implies, not_false_eq_true, ne_eq, nI_clampD, nI_leT, nI_leF, nI_ltT, nI_ltF, nI_eqT, nI_eqF, nI_lt0F, nI_0leT, nI_eq0T, nI_eq0F, nI_0ltT, nI_0ltF, nI_le0T, nI_le0F, nI_m1, nI_m1', m1_m1, m1_lt, m1_le, nI_mul, nI_add, nI_sub, nI_add1, nI_dec, nI_div, nI_mod, vp_inD, sf_nkD, sf_eqD, nI0_01]
      refine ⟨_, _, ?_, ?_, mk1 (i + 1) _ (by omega) ((e2.st (Or.inr (Or.inl rfl))).st (Or.inl rfl)) ?_ (fun j hj => ?_)⟩
      · omega
      · (simp (decide := true) only [am_has, am_lk0, am_lk1, and_self, true_and, and_true] <;> first | rfl | (refine ⟨?_, ?_⟩ <;> rfl) | (refine ⟨?_, ?_, ?_⟩ <;> rfl) | (refine ⟨?_, ?_, ?_, ?_⟩ <;> rfl))
      · rw [sf_naD (by decide), sf_naD (by decide)]; exact e3
      · by_cases hji : j = i
        · rw [sf_eqD hji, sf_naD (by decide), sf_eqD hji]; exact ⟨rfl, rfl⟩
        · rw [sf_nkD hji, sf_naD (by decide), sf_naD (by decide), sf_nkD hji]; exact e4 j (by omega)
  · refine ⟨_, 60, rfl, rfl, ?_⟩
    by_cases hk : k = o.length
    · subst hk
      rw [List.take_length] at e4
      have e9 : l.take o.length = l := List.take_of_length_le (by have := congrArg List.length (rrun_fst _ _ _ _ hl); rw [List.length_map] at this; omega)
      rw [e9] at e3
      rw [hst] at e4
      have e4 := Option.some.inj e4
      subst e4
      simp (decide := true) (disch := (first | exact eq_false (by decide) | exact eq_true (by decide) | decide | omega)) only [lX10_opens_0, lX10_opens_7, lX10_opens_33, lX10_opens_35, lX10_opens_83, lX10_opens_92, lX10_opens_128, lX10_opens_134, bX10_opens_0, bX10_opens_7, bX10_opens_33, bX10_opens_35, bX10_opens_83, bX10_opens_92, bX10_opens_128, bX10_opens_134, (show qX10_opens.2.2.2.1 = none from rfl), am_rok_none, w_aload_n, w_bastore, w_bipush, w_dup, w_getfield, w_goto, w_iadd, w_iaload, w_iastore, w_icmp_ge, w_iconst, w_if_le, w_if_lt, w_iinc, w_iload, w_iload_n, w_imul, w_istore, w_istore_n, w_isub, w_nop, w_puti, w_return, w_swap, sa_80, sa_81, sa_82, sa_83, sg_60_33, sg_60_34, sg_60_35, sg_60_36, sg_60_37, sp_60_37, cB_11, cI_0, cI_1, cI_2, cI_m1, am_lk0, am_lk1, am_ld_some, am_isI_i, am_isJ_j, am_isR_r, am_st_eq, am_rmv_nil, am_rmv_t, am_rmv_i, am_rmv_r, sf_SH, sj_SH, sf_eq, sf_nk, sf_na, sf_sf, am_args_i, am_args_r, am_args_n, Nat.reduceAdd, List.cons_append, List.nil_append, Option.toList, List.drop_succ_cons, List.drop_zero, am_RP, am_CP, am_PH, Fin.isValue, Fin.val_zero, Fin.val_one, am_f2, am_f3, true_and, and_true, true_implies, false_implies, not_false_eq_true, ne_eq, nI_clampD, nI_leT, nI_leF, nI_ltT, nI_ltF, nI_eqT, nI_eqF, nI_lt0F, nI_0leT, nI_eq0T, nI_eq0F, nI_0ltT, nI_0ltF, nI_le0T, nI_le0F, nI_m1, nI_m1', m1_m1, m1_lt, m1_le, nI_mul, nI_add, nI_sub, nI_add1, nI_dec, nI_div, nI_mod, vp_inD, sf_nkD, sf_eqD]
      exact ⟨I1, rfl, e2, e3, fun _ => e5⟩
    · obtain ⟨p, r, n1, n2, n3, n4, n5⟩ := rrun_next hl (k := k) (by omega)
      rw [e4] at n1
      have n1 := Option.some.inj n1
      subst n1
      have hg := hget k (by omega)
      have hord : I1 80 k = nI (o.getD k 0) := by rw [e2.1 80 (by decide) (by decide) (by decide) (by decide)]; exact hO k (by omega)
      have hk68 : I 68 (o.getD k 0) = nI (kF (nF fs (o.getD k 0))) := (hS.2.1 _ hg.1).1
      have hk6 := hG.k6 hg.1
      have hnm : o.getD k 0 ∉ (l.take k).map (·.1) := by
        rw [List.map_take, rrun_fst _ _ _ _ hl]
        exact hg.2
      have hd' := wI_dec' (i := rk (kF (nF fs (o.getD k 0))))
      have hr2 := rk_le (kF (nF fs (o.getD k 0)))
      have hlen := hlt e4
      have hl2 := hsd_le (p :: r)
      by_cases hk0 : k = 0
      · subst hk0
        have hp0 : p = [] := by
          simp only [List.take_zero, rstk, Option.some.injEq, List.cons.injEq] at e4
          exact e4.1.symm
        subst hp0
        simp (decide := true) (disch := (first | exact eq_false (by decide) | exact eq_true (by decide) | decide | omega)) only [lX10_opens_0, lX10_opens_7, lX10_opens_33, lX10_opens_35, lX10_opens_83, lX10_opens_92, lX10_opens_128, lX10_opens_134, bX10_opens_0, bX10_opens_7, bX10_opens_33, bX10_opens_35, bX10_opens_83, bX10_opens_92, bX10_opens_128, bX10_opens_134, (show qX10_opens.2.2.2.1 = none from rfl), am_rok_none, w_aload_n, w_bastore, w_bipush, w_dup, w_getfield, w_goto, w_iadd, w_iaload, w_iastore, w_icmp_ge, w_iconst, w_if_le, w_if_lt, w_iinc, w_iload, w_iload_n, w_imul, w_istore, w_istore_n, w_isub, w_nop, w_puti, w_return, w_swap, sa_80, sa_81, sa_82, sa_83, sg_60_33, sg_60_34, sg_60_35, sg_60_36, sg_60_37, sp_60_37, cB_11, cI_0, cI_1, cI_2, cI_m1, am_lk0, am_lk1, am_ld_some, am_isI_i, am_isJ_j, am_isR_r, am_st_eq, am_rmv_nil, am_rmv_t, am_rmv_i, am_rmv_r, sf_SH, sj_SH, sf_eq, sf_nk, sf_na, sf_sf, am_args_i, am_args_r, am_args_n, Nat.reduceAdd, List.cons_append, List.nil_append, Option.toList, List.drop_succ_cons, List.drop_zero, am_RP, am_CP, am_PH, Fin.isValue, Fin.val_zero, Fin.val_one, am_f2, am_f3, true_and, and_true, true_implies, false_implies, not_false_eq_true, ne_eq, nI_clampD, nI_leT, nI_leF, nI_ltT, nI_ltF, nI_eqT, nI_eqF, nI_lt0F, nI_0leT, nI_eq0T, nI_eq0F, nI_0ltT, nI_0ltF, nI_le0T, nI_le0F, nI_m1, nI_m1', m1_m1, m1_lt, m1_le, nI_mul, nI_add, nI_sub, nI_add1, nI_dec, nI_div, nI_mod, vp_inD, sf_nkD, sf_eqD, hord, nI1_01]
        have k68 : ∀ v, sf I1 82 (o.getD 0 0) v 68 (o.getD 0 0) = nI (kF (nF fs (o.getD 0 0))) := fun v => by rw [sf_naD (by decide), e2.1 68 (by decide) (by decide) (by decide) (by decide)]; exact hk68
        refine w_virtE (c_X10_holesOf g h _ J (o.getD 0 0) (kF (nF fs (o.getD 0 0))) (by omega) (k68 _) hk6) rfl rfl rfl (of_eq_true so_60) rfl (Nat.le_refl _) (Nat.le_refl _) ?_
        simp (decide := true) (disch := (first | exact eq_false (by decide) | exact eq_true (by decide) | decide | omega)) only [lX10_opens_0, lX10_opens_7, lX10_opens_33, lX10_opens_35, lX10_opens_83, lX10_opens_92, lX10_opens_128, lX10_opens_134, bX10_opens_0, bX10_opens_7, bX10_opens_33, bX10_opens_35, bX10_opens_83, bX10_opens_92, bX10_opens_128, bX10_opens_134, (show qX10_opens.2.2.2.1 = none from rfl), am_rok_none, w_aload_n, w_bastore, w_bipush, w_dup, w_getfield, w_goto, w_iadd, w_iaload, w_iastore, w_icmp_ge, w_iconst, w_if_le, w_if_lt, w_iinc, w_iload, w_iload_n, w_imul, w_istore, w_istore_n, w_isub, w_nop, w_puti, w_return, w_swap, sa_80, sa_81, sa_82, sa_83, sg_60_33, sg_60_34, sg_60_35, sg_60_36, sg_60_37, sp_60_37, cB_11, cI_0, cI_1, cI_2, cI_m1, am_lk0, am_lk1, am_ld_some, am_isI_i, am_isJ_j, am_isR_r, am_st_eq, am_rmv_nil, am_rmv_t, am_rmv_i, am_rmv_r, sf_SH, sj_SH, sf_eq, sf_nk, sf_na, sf_sf, am_args_i, am_args_r, am_args_n, Nat.reduceAdd, List.cons_append, List.nil_append, Option.toList, List.drop_succ_cons, List.drop_zero, am_RP, am_CP, am_PH, Fin.isValue, Fin.val_zero, Fin.val_one, am_f2, am_f3, true_and, and_true, true_implies, false_implies, not_false_eq_true, ne_eq, nI_clampD, nI_leT, nI_leF, nI_ltT, nI_ltF, nI_eqT, nI_eqF, nI_lt0F, nI_0leT, nI_eq0T, nI_eq0F, nI_0ltT, nI_0ltF, nI_le0T, nI_le0F, nI_m1, nI_m1', m1_m1, m1_lt, m1_le, nI_mul, nI_add, nI_sub, nI_add1, nI_dec, nI_div, nI_mod, vp_inD, sf_nkD, sf_eqD, hd']
        refine ⟨_, _, ?_, ?_, mk3 0 (rk (kF (nF fs (o.getD 0 0)))) [] r _ (by omega) (e2.st (Or.inr (Or.inl rfl))) ?_ e4 (Nat.le_refl _) ?_⟩
        · omega
        · (simp (decide := true) only [am_has, am_lk0, am_lk1, and_self, true_and, and_true] <;> first | rfl | (refine ⟨?_, ?_⟩ <;> rfl) | (refine ⟨?_, ?_, ?_⟩ <;> rfl) | (refine ⟨?_, ?_, ?_, ?_⟩ <;> rfl))
        · rw [n5]
          refine e3.add hnm (fun j hj => ⟨by rw [sf_naD (by decide)], by rw [sf_nkD hj]⟩) ?_ (by rw [sf_eq])
          rw [sf_naD (by decide), (e3.2 _ (by omega) hnm).1]
          rfl
        · rw [Nat.sub_self]
          exact PLs.fr (I := I1) e5 (by rw [sf_naD (by decide)]) (by rw [sf_naD (by decide)])
      · have hpn : p ≠ [] := rpre_ne (kd := kdF fs) (o := o.take k) (fun h0 => by
          have h9 : 0 < (o.take k).length := by rw [List.length_take]; omega
          rw [h0] at h9
          exact absurd h9 (Nat.not_lt_zero _)) e4 p List.mem_cons_self
        cases p with
        | nil => exact absurd rfl hpn
        | cons x p =>
          rw [hsd_c] at e5 hl2
          have h37 : I1 60 37 = nI ((hsd r).length + 1) := e5.1
          have htop := e5.top
          rw [List.length_cons, List.length_cons] at hl2
          rw [List.length_cons] at hlen
          simp (decide := true) (disch := (first | exact eq_false (by decide) | exact eq_true (by decide) | decide | omega)) only [lX10_opens_0, lX10_opens_7, lX10_opens_33, lX10_opens_35, lX10_opens_83, lX10_opens_92, lX10_opens_128, lX10_opens_134, bX10_opens_0, bX10_opens_7, bX10_opens_33, bX10_opens_35, bX10_opens_83, bX10_opens_92, bX10_opens_128, bX10_opens_134, (show qX10_opens.2.2.2.1 = none from rfl), am_rok_none, w_aload_n, w_bastore, w_bipush, w_dup, w_getfield, w_goto, w_iadd, w_iaload, w_iastore, w_icmp_ge, w_iconst, w_if_le, w_if_lt, w_iinc, w_iload, w_iload_n, w_imul, w_istore, w_istore_n, w_isub, w_nop, w_puti, w_return, w_swap, sa_80, sa_81, sa_82, sa_83, sg_60_33, sg_60_34, sg_60_35, sg_60_36, sg_60_37, sp_60_37, cB_11, cI_0, cI_1, cI_2, cI_m1, am_lk0, am_lk1, am_ld_some, am_isI_i, am_isJ_j, am_isR_r, am_st_eq, am_rmv_nil, am_rmv_t, am_rmv_i, am_rmv_r, sf_SH, sj_SH, sf_eq, sf_nk, sf_na, sf_sf, am_args_i, am_args_r, am_args_n, Nat.reduceAdd, List.cons_append, List.nil_append, Option.toList, List.drop_succ_cons, List.drop_zero, am_RP, am_CP, am_PH, Fin.isValue, Fin.val_zero, Fin.val_one, am_f2, am_f3, true_and, and_true, true_implies, false_implies, not_false_eq_true, ne_eq, nI_clampD, nI_leT, nI_leF, nI_ltT, nI_ltF, nI_eqT, nI_eqF, nI_lt0F, nI_0leT, nI_eq0T, nI_eq0F, nI_0ltT, nI_0ltF, nI_le0T, nI_le0F, nI_m1, nI_m1', m1_m1, m1_lt, m1_le, nI_mul, nI_add, nI_sub, nI_add1, nI_dec, nI_div, nI_mod, vp_inD, sf_nkD, sf_eqD, hord, nI1_01, h37, htop, Nat.add_sub_cancel]
          have k68 : ∀ v w u, sf (sf (sf I1 82 (o.getD k 0) v) 60 37 w) 81 (o.getD k 0) u 68 (o.getD k 0) = nI (kF (nF fs (o.getD k 0))) := fun v w u => by rw [sf_naD (by decide), sf_naD (by decide), sf_naD (by decide), e2.1 68 (by decide) (by decide) (by decide) (by decide)]; exact hk68
          refine w_virtE (c_X10_holesOf g h _ J (o.getD k 0) (kF (nF fs (o.getD k 0))) (by omega) (k68 _ _ _) hk6) rfl rfl rfl (of_eq_true so_60) rfl (Nat.le_refl _) (Nat.le_refl _) ?_
          simp (decide := true) (disch := (first | exact eq_false (by decide) | exact eq_true (by decide) | decide | omega)) only [lX10_opens_0, lX10_opens_7, lX10_opens_33, lX10_opens_35, lX10_opens_83, lX10_opens_92, lX10_opens_128, lX10_opens_134, bX10_opens_0, bX10_opens_7, bX10_opens_33, bX10_opens_35, bX10_opens_83, bX10_opens_92, bX10_opens_128, bX10_opens_134, (show qX10_opens.2.2.2.1 = none from rfl), am_rok_none, w_aload_n, w_bastore, w_bipush, w_dup, w_getfield, w_goto, w_iadd, w_iaload, w_iastore, w_icmp_ge, w_iconst, w_if_le, w_if_lt, w_iinc, w_iload, w_iload_n, w_imul, w_istore, w_istore_n, w_isub, w_nop, w_puti, w_return, w_swap, sa_80, sa_81, sa_82, sa_83, sg_60_33, sg_60_34, sg_60_35, sg_60_36, sg_60_37, sp_60_37, cB_11, cI_0, cI_1, cI_2, cI_m1, am_lk0, am_lk1, am_ld_some, am_isI_i, am_isJ_j, am_isR_r, am_st_eq, am_rmv_nil, am_rmv_t, am_rmv_i, am_rmv_r, sf_SH, sj_SH, sf_eq, sf_nk, sf_na, sf_sf, am_args_i, am_args_r, am_args_n, Nat.reduceAdd, List.cons_append, List.nil_append, Option.toList, List.drop_succ_cons, List.drop_zero, am_RP, am_CP, am_PH, Fin.isValue, Fin.val_zero, Fin.val_one, am_f2, am_f3, true_and, and_true, true_implies, false_implies, not_false_eq_true, ne_eq, nI_clampD, nI_leT, nI_leF, nI_ltT, nI_ltF, nI_eqT, nI_eqF, nI_lt0F, nI_0leT, nI_eq0T, nI_eq0F, nI_0ltT, nI_0ltF, nI_le0T, nI_le0F, nI_m1, nI_m1', m1_m1, m1_lt, m1_le, nI_mul, nI_add, nI_sub, nI_add1, nI_dec, nI_div, nI_mod, vp_inD, sf_nkD, sf_eqD, hd']
          refine ⟨_, _, ?_, ?_, mk3 k (rk (kF (nF fs (o.getD k 0)))) (x :: p) r _ (by omega) (((e2.st (Or.inr (Or.inl rfl))).st (Or.inr (Or.inr (Or.inr ⟨rfl, rfl⟩)))).st (Or.inl rfl)) ?_ e4 (Nat.le_refl _) ?_⟩
          · omega
          · (simp (decide := true) only [am_has, am_lk0, am_lk1, and_self, true_and, and_true] <;> first | rfl | (refine ⟨?_, ?_⟩ <;> rfl) | (refine ⟨?_, ?_, ?_⟩ <;> rfl) | (refine ⟨?_, ?_, ?_, ?_⟩ <;> rfl))
          · rw [n5]
            refine e3.add hnm (fun j hj => ⟨by rw [sf_nkD hj, sf_naD (by decide), sf_naD (by decide)], by rw [sf_naD (by decide), sf_naD (by decide), sf_nkD hj]⟩) ?_ ?_
            · rw [sf_eq]; rfl
            · rw [sf_naD (by decide), sf_naD (by decide), sf_eq]
          · rw [Nat.sub_self]
            refine PLs.fr e5.pop ?_ ?_
            · rw [sf_naD (by decide), sf_eq, sf_eq]
            · rw [sf_naD (by decide), sf_naD (by decide), sf_naD (by decide), sf_naD (by decide)]
  · refine ⟨_, 60, rfl, rfl, ?_⟩
    obtain ⟨p', r', n1, n2, n3, n4, n5⟩ := rrun_next hl e1
    rw [e4] at n1
    have n1 := Option.some.inj n1
    have n1a := (List.cons.inj n1).1
    have n1b := (List.cons.inj n1).2
    subst n1a
    subst n1b
    have hg := hget k e1
    have hr2 := rk_le (kF (nF fs (o.getD k 0)))
    by_cases hi : i = 0
    · have e0 : (wI i < 0) = True := by rw [hi]; decide
      simp (decide := true) (disch := (first | exact eq_false (by decide) | exact eq_true (by decide) | decide | omega)) only [lX10_opens_0, lX10_opens_7, lX10_opens_33, lX10_opens_35, lX10_opens_83, lX10_opens_92, lX10_opens_128, lX10_opens_134, bX10_opens_0, bX10_opens_7, bX10_opens_33, bX10_opens_35, bX10_opens_83, bX10_opens_92, bX10_opens_128, bX10_opens_134, (show qX10_opens.2.2.2.1 = none from rfl), am_rok_none, w_aload_n, w_bastore, w_bipush, w_dup, w_getfield, w_goto, w_iadd, w_iaload, w_iastore, w_icmp_ge, w_iconst, w_if_le, w_if_lt, w_iinc, w_iload, w_iload_n, w_imul, w_istore, w_istore_n, w_isub, w_nop, w_puti, w_return, w_swap, sa_80, sa_81, sa_82, sa_83, sg_60_33, sg_60_34, sg_60_35, sg_60_36, sg_60_37, sp_60_37, cB_11, cI_0, cI_1, cI_2, cI_m1, am_lk0, am_lk1, am_ld_some, am_isI_i, am_isJ_j, am_isR_r, am_st_eq, am_rmv_nil, am_rmv_t, am_rmv_i, am_rmv_r, sf_SH, sj_SH, sf_eq, sf_nk, sf_na, sf_sf, am_args_i, am_args_r, am_args_n, Nat.reduceAdd, List.cons_append, List.nil_append, Option.toList, List.drop_succ_cons, List.drop_zero, am_RP, am_CP, am_PH, Fin.isValue, Fin.val_zero, Fin.val_one, am_f2, am_f3, true_and, and_true, true_implies, false_implies, not_false_eq_true, ne_eq, nI_clampD, nI_leT, nI_leF, nI_ltT, nI_ltF, nI_eqT, nI_eqF, nI_lt0F, nI_0leT, nI_eq0T, nI_eq0F, nI_0ltT, nI_0ltF, nI_le0T, nI_le0F, nI_m1, nI_m1', m1_m1, m1_lt, m1_le, nI_mul, nI_add, nI_sub, nI_add1, nI_dec, nI_div, nI_mod, vp_inD, sf_nkD, sf_eqD, e0]
      refine ⟨_, _, ?_, ?_, mk2 (k + 1) _ I1 (by omega) e2 e3 n4 ?_⟩
      · omega
      · (simp (decide := true) only [am_has, am_lk0, am_lk1, and_self, true_and, and_true] <;> first | rfl | (refine ⟨?_, ?_⟩ <;> rfl) | (refine ⟨?_, ?_, ?_⟩ <;> rfl) | (refine ⟨?_, ?_, ?_, ?_⟩ <;> rfl))
      rw [hsd_rp, rk_rh]
      rw [hi] at e6
      exact e6
    · have e0 : wI i = nI (i - 1) := wI_p (by omega)
      have e9 := wI_dec1 (i := i) (by omega)
      have hl37 := e6.1
      have hlen := hlt e4
      have hl2 := hsd_le sk
      rw [List.length_cons] at hlen
      have hxl : ((List.range' i (rk (kF (nF fs (o.getD k 0))) - i)).map (fun i => 2 * (o.getD k 0) + i) ++ hsd sk).length = rk (kF (nF fs (o.getD k 0))) - i + (hsd sk).length := by
        rw [List.length_append, List.length_map, List.length_range']
      have hpush := e6.push (2 * o.getD k 0 + (i - 1))
      rw [hxl] at hl37 hpush
      simp (decide := true) (disch := (first | exact eq_false (by decide) | exact eq_true (by decide) | decide | omega)) only [lX10_opens_0, lX10_opens_7, lX10_opens_33, lX10_opens_35, lX10_opens_83, lX10_opens_92, lX10_opens_128, lX10_opens_134, bX10_opens_0, bX10_opens_7, bX10_opens_33, bX10_opens_35, bX10_opens_83, bX10_opens_92, bX10_opens_128, bX10_opens_134, (show qX10_opens.2.2.2.1 = none from rfl), am_rok_none, w_aload_n, w_bastore, w_bipush, w_dup, w_getfield, w_goto, w_iadd, w_iaload, w_iastore, w_icmp_ge, w_iconst, w_if_le, w_if_lt, w_iinc, w_iload, w_iload_n, w_imul, w_istore, w_istore_n, w_isub, w_nop, w_puti, w_return, w_swap, sa_80, sa_81, sa_82, sa_83, sg_60_33, sg_60_34, sg_60_35, sg_60_36, sg_60_37, sp_60_37, cB_11, cI_0, cI_1, cI_2, cI_m1, am_lk0, am_lk1, am_ld_some, am_isI_i, am_isJ_j, am_isR_r, am_st_eq, am_rmv_nil, am_rmv_t, am_rmv_i, am_rmv_r, sf_SH, sj_SH, sf_eq, sf_nk, sf_na, sf_sf, am_args_i, am_args_r, am_args_n, Nat.reduceAdd, List.cons_append, List.nil_append, Option.toList, List.drop_succ_cons, List.drop_zero, am_RP, am_CP, am_PH, Fin.isValue, Fin.val_zero, Fin.val_one, am_f2, am_f3, true_and, and_true, true_implies, false_implies, not_false_eq_true, ne_eq, nI_clampD, nI_leT, nI_leF, nI_ltT, nI_ltF, nI_eqT, nI_eqF, nI_lt0F, nI_0leT, nI_eq0T, nI_eq0F, nI_0ltT, nI_0ltF, nI_le0T, nI_le0F, nI_m1, nI_m1', m1_m1, m1_lt, m1_le, nI_mul, nI_add, nI_sub, nI_add1, nI_dec, nI_div, nI_mod, vp_inD, sf_nkD, sf_eqD, e0, e9, hl37]
      refine ⟨_, _, ?_, ?_, mk3 k (i - 1) p sk _ e1 ((e2.st (Or.inr (Or.inr (Or.inl rfl)))).st (Or.inr (Or.inr (Or.inr ⟨rfl, rfl⟩)))) (e3.fr (by rw [sf_naD (by decide), sf_naD (by decide)]) (by rw [sf_naD (by decide), sf_naD (by decide)])) e4 (by omega) ?_⟩
      · omega
      · (simp (decide := true) only [am_has, am_lk0, am_lk1, and_self, true_and, and_true] <;> first | rfl | (refine ⟨?_, ?_⟩ <;> rfl) | (refine ⟨?_, ?_, ?_⟩ <;> rfl) | (refine ⟨?_, ?_, ?_, ?_⟩ <;> rfl))
      rw [show rk (kF (nF fs (o.getD k 0))) - (i - 1) = (rk (kF (nF fs (o.getD k 0))) - i) + 1 by omega, List.range'_succ, List.map_cons, show i - 1 + 1 = i by omega]
      exact hpush
set_option maxRecDepth 100000 in
set_option maxHeartbeats 400000 in
theorem c_X10_isAbove (l : List (Nat × List Nat)) (q : List Nat) (x : Nat) (hH : HOd l I) (hg : rgood l q) (hq : q.length ≤ 11) (hb : ∀ y ∈ q, y < 22) (hx : x < 22) :
    am_Ctr g am_mt 1 (h + 1) 164 [.ref 60, .int (nI x), .int (wI (hdc q))] (am_SH, I, J) 0 0 (fun r M => r = some (.int (bI (decide (x ∈ q)))) ∧ M = (am_SH, I, J)) := by
  obtain ⟨JJ, hJJ⟩ : ∃ JJ : Nat → am_Cut, JJ = (fun zu zpc zl zst zM zk zn => (∃ (k : Nat) (q1 : List Nat), zu = q1.length ∧ (k + q1.length = q.length) ∧ (rgood l q1) ∧ (x ∈ q ↔ x ∈ q1) ∧ (∀ y ∈ q1, y < 22) ∧ zpc = 5 ∧ zl = [(0, .ref 60), (1, .int (nI x)), (3, .int (wI (hdc q1))), (4, .int (nI k))] ∧ zst = [] ∧ zM = (am_SH, I, J) ∧ zk = 0 ∧ zn = 0)) := ⟨_, rfl⟩
  have mk : ∀ (k : Nat) (q1 : List Nat), (k + q1.length = q.length) → (rgood l q1) → (x ∈ q ↔ x ∈ q1) → (∀ y ∈ q1, y < 22) → JJ (q1.length) 5 [(0, .ref 60), (1, .int (nI x)), (3, .int (wI (hdc q1))), (4, .int (nI k))] [] (am_SH, I, J) 0 0 := by
    intro k q1 a0 a1 a2 a3
    rw [hJJ]
    exact ⟨k, q1, rfl, a0, a1, a2, a3, rfl, rfl, rfl, rfl, rfl, rfl⟩
  refine am_rule2 (q := qX10_isAbove) (B := am_blk bX10_isAbove) rfl rfl kX10_isAbove nX10_isAbove (Nat.le_of_ble_eq_true rfl) JJ (fun zu zpc zl zst zM zk zn hj => ?_) ?_
  rotate_left
  · refine ⟨60, ?_⟩
    simp (decide := true) (disch := (first | exact eq_false (by decide) | exact eq_true (by decide) | decide | omega)) only [lX10_isAbove_0, lX10_isAbove_5, lX10_isAbove_23, lX10_isAbove_38, bX10_isAbove_0, bX10_isAbove_5, bX10_isAbove_23, bX10_isAbove_38, (show qX10_isAbove.2.2.2.1 = (some .boolean) from rfl), am_rok_bool, w_aload_n, w_bipush, w_getfield, w_goto, w_iaload, w_icmp_ge, w_icmp_ne, w_iconst, w_idiv, w_if_lt, w_iinc, w_iload, w_iload_n, w_ireturn, w_istore, w_istore_n, w_nop, w_swap, sa_81, sg_60_34, cB_11, cI_0, cI_1, cI_2, am_lk0, am_lk1, am_ld_some, am_isI_i, am_isJ_j, am_isR_r, am_st_eq, am_rmv_nil, am_rmv_t, am_rmv_i, am_rmv_r, sf_SH, sj_SH, sf_eq, sf_nk, sf_na, sf_sf, am_args_i, am_args_r, am_args_n, Nat.reduceAdd, List.cons_append, List.nil_append, Option.toList, List.drop_succ_cons, List.drop_zero, am_RP, am_CP, am_PH, Fin.isValue, Fin.val_zero, Fin.val_one, am_f2, am_f3, true_and, and_true, true_implies, false_implies, not_false_eq_true, ne_eq, nI_clampD, nI_leT, nI_leF, nI_ltT, nI_ltF, nI_eqT, nI_eqF, nI_lt0F, nI_0leT, nI_eq0T, nI_eq0F, nI_0ltT, nI_0ltF, nI_le0T, nI_le0F, nI_m1, nI_m1', m1_m1, m1_lt, m1_le, nI_mul, nI_add, nI_sub, nI_add1, nI_dec, nI_div, nI_mod, vp_inD, sf_nkD, sf_eqD]
    refine ⟨_, _, ?_, mk 0 q (by omega) hg Iff.rfl hb⟩
    · (simp (decide := true) only [am_has, am_lk0, am_lk1, and_self, true_and, and_true] <;> first | rfl | (refine ⟨?_, ?_⟩ <;> rfl) | (refine ⟨?_, ?_, ?_⟩ <;> rfl) | (refine ⟨?_, ?_, ?_, ?_⟩ <;> rfl))
  rw [hJJ] at hj
  clear hJJ
  obtain ⟨k, q1, rfl, e1, e2, e3, e4, rfl, rfl, rfl, rfl, rfl, rfl⟩ := hj
  refine ⟨_, 60, rfl, rfl, ?_⟩
  by_cases hq1 : q1 = []
  · have e0 : (wI (hdc q1) < 0) = True := by rw [hq1]; decide
    rw [decide_eq_false (fun h0 => by have := e3.mp h0; rw [hq1] at this; cases this)]
    by_cases hk : 11 ≤ k
    · simp (decide := true) (disch := (first | exact eq_false (by decide) | exact eq_true (by decide) | decide | omega)) only [lX10_isAbove_0, lX10_isAbove_5, lX10_isAbove_23, lX10_isAbove_38, bX10_isAbove_0, bX10_isAbove_5, bX10_isAbove_23, bX10_isAbove_38, (show qX10_isAbove.2.2.2.1 = (some .boolean) from rfl), am_rok_bool, w_aload_n, w_bipush, w_getfield, w_goto, w_iaload, w_icmp_ge, w_icmp_ne, w_iconst, w_idiv, w_if_lt, w_iinc, w_iload, w_iload_n, w_ireturn, w_istore, w_istore_n, w_nop, w_swap, sa_81, sg_60_34, cB_11, cI_0, cI_1, cI_2, am_lk0, am_lk1, am_ld_some, am_isI_i, am_isJ_j, am_isR_r, am_st_eq, am_rmv_nil, am_rmv_t, am_rmv_i, am_rmv_r, sf_SH, sj_SH, sf_eq, sf_nk, sf_na, sf_sf, am_args_i, am_args_r, am_args_n, Nat.reduceAdd, List.cons_append, List.nil_append, Option.toList, List.drop_succ_cons, List.drop_zero, am_RP, am_CP, am_PH, Fin.isValue, Fin.val_zero, Fin.val_one, am_f2, am_f3, true_and, and_true, true_implies, false_implies, not_false_eq_true, ne_eq, nI_clampD, nI_leT, nI_leF, nI_ltT, nI_ltF, nI_eqT, nI_eqF, nI_lt0F, nI_0leT, nI_eq0T, nI_eq0F, nI_0ltT, nI_0ltF, nI_le0T, nI_le0F, nI_m1, nI_m1', m1_m1, m1_lt, m1_le, nI_mul, nI_add, nI_sub, nI_add1, nI_dec, nI_div, nI_mod, vp_inD, sf_nkD, sf_eqD, nI0_01, bI_f]
    · simp (decide := true) (disch := (first | exact eq_false (by decide) | exact eq_true (by decide) | decide | omega)) only [lX10_isAbove_0, lX10_isAbove_5, lX10_isAbove_23, lX10_isAbove_38, bX10_isAbove_0, bX10_isAbove_5, bX10_isAbove_23, bX10_isAbove_38, (show qX10_isAbove.2.2.2.1 = (some .boolean) from rfl), am_rok_bool, w_aload_n, w_bipush, w_getfield, w_goto, w_iaload, w_icmp_ge, w_icmp_ne, w_iconst, w_idiv, w_if_lt, w_iinc, w_iload, w_iload_n, w_ireturn, w_istore, w_istore_n, w_nop, w_swap, sa_81, sg_60_34, cB_11, cI_0, cI_1, cI_2, am_lk0, am_lk1, am_ld_some, am_isI_i, am_isJ_j, am_isR_r, am_st_eq, am_rmv_nil, am_rmv_t, am_rmv_i, am_rmv_r, sf_SH, sj_SH, sf_eq, sf_nk, sf_na, sf_sf, am_args_i, am_args_r, am_args_n, Nat.reduceAdd, List.cons_append, List.nil_append, Option.toList, List.drop_succ_cons, List.drop_zero, am_RP, am_CP, am_PH, Fin.isValue, Fin.val_zero, Fin.val_one, am_f2, am_f3, true_and, and_true, true_implies, false_implies, not_false_eq_true, ne_eq, nI_clampD, nI_leT, nI_leF, nI_ltT, nI_ltF, nI_eqT, nI_eqF, nI_lt0F, nI_0leT, nI_eq0T, nI_eq0F, nI_0ltT, nI_0ltF, nI_le0T, nI_le0F, nI_m1, nI_m1', m1_m1, m1_lt, m1_le, nI_mul, nI_add, nI_sub, nI_add1, nI_dec, nI_div, nI_mod, vp_inD, sf_nkD, sf_eqD, e0, nI0_01, bI_f]
  · obtain ⟨y, q2, rfl⟩ := List.exists_cons_of_ne_nil hq1
    have hy := e4 y List.mem_cons_self
    rw [List.length_cons] at e1
    have hl9 : (y :: q2).length = q2.length + 1 := rfl
    have e0 : wI (hdc (y :: q2)) = nI y := rfl
    by_cases hyx : y = x
    · rw [decide_eq_true (e3.mpr (by rw [hyx]; exact List.mem_cons_self))]
      simp (decide := true) (disch := (first | exact eq_false (by decide) | exact eq_true (by decide) | decide | omega)) only [lX10_isAbove_0, lX10_isAbove_5, lX10_isAbove_23, lX10_isAbove_38, bX10_isAbove_0, bX10_isAbove_5, bX10_isAbove_23, bX10_isAbove_38, (show qX10_isAbove.2.2.2.1 = (some .boolean) from rfl), am_rok_bool, w_aload_n, w_bipush, w_getfield, w_goto, w_iaload, w_icmp_ge, w_icmp_ne, w_iconst, w_idiv, w_if_lt, w_iinc, w_iload, w_iload_n, w_ireturn, w_istore, w_istore_n, w_nop, w_swap, sa_81, sg_60_34, cB_11, cI_0, cI_1, cI_2, am_lk0, am_lk1, am_ld_some, am_isI_i, am_isJ_j, am_isR_r, am_st_eq, am_rmv_nil, am_rmv_t, am_rmv_i, am_rmv_r, sf_SH, sj_SH, sf_eq, sf_nk, sf_na, sf_sf, am_args_i, am_args_r, am_args_n, Nat.reduceAdd, List.cons_append, List.nil_append, Option.toList, List.drop_succ_cons, List.drop_zero, am_RP, am_CP, am_PH, Fin.isValue, Fin.val_zero, Fin.val_one, am_f2, am_f3, true_and, and_true, true_implies, false_implies, not_false_eq_true, ne_eq, nI_clampD, nI_leT, nI_leF, nI_ltT, nI_ltF, nI_eqT, nI_eqF, nI_lt0F, nI_0leT, nI_eq0T, nI_eq0F, nI_0ltT, nI_0ltF, nI_le0T, nI_le0F, nI_m1, nI_m1', m1_m1, m1_lt, m1_le, nI_mul, nI_add, nI_sub, nI_add1, nI_dec, nI_div, nI_mod, vp_inD, sf_nkD, sf_eqD, e0, nI1_01, bI_t]
    · have hho := (hH.1 _ e2.1).1
      have hho : I 81 (y / 2) = wI (hdc q2) := hho
      simp (decide := true) (disch := (first | exact eq_false (by decide) | exact eq_true (by decide) | decide | omega)) only [lX10_isAbove_0, lX10_isAbove_5, lX10_isAbove_23, lX10_isAbove_38, bX10_isAbove_0, bX10_isAbove_5, bX10_isAbove_23, bX10_isAbove_38, (show qX10_isAbove.2.2.2.1 = (some .boolean) from rfl), am_rok_bool, w_aload_n, w_bipush, w_getfield, w_goto, w_iaload, w_icmp_ge, w_icmp_ne, w_iconst, w_idiv, w_if_lt, w_iinc, w_iload, w_iload_n, w_ireturn, w_istore, w_istore_n, w_nop, w_swap, sa_81, sg_60_34, cB_11, cI_0, cI_1, cI_2, am_lk0, am_lk1, am_ld_some, am_isI_i, am_isJ_j, am_isR_r, am_st_eq, am_rmv_nil, am_rmv_t, am_rmv_i, am_rmv_r, sf_SH, sj_SH, sf_eq, sf_nk, sf_na, sf_sf, am_args_i, am_args_r, am_args_n, Nat.reduceAdd, List.cons_append, List.nil_append, Option.toList, List.drop_succ_cons, List.drop_zero, am_RP, am_CP, am_PH, Fin.isValue, Fin.val_zero, Fin.val_one, am_f2, am_f3, true_and, and_true, true_implies, false_implies, not_false_eq_true, ne_eq, nI_clampD, nI_leT, nI_leF, nI_ltT, nI_ltF, nI_eqT, nI_eqF, nI_lt0F, nI_0leT, nI_eq0T, nI_eq0F, nI_0ltT, nI_0ltF, nI_le0T, nI_le0F, nI_m1, nI_m1', m1_m1, m1_lt, m1_le, nI_mul, nI_add, nI_sub, nI_add1, nI_dec, nI_div, nI_mod, vp_inD, sf_nkD, sf_eqD, e0, hho]
      refine ⟨_, _, ?_, ?_, mk (k + 1) q2 (by omega) e2.2 (e3.trans ⟨fun h0 => (List.mem_cons.mp h0).elim (fun h9 => absurd h9.symm hyx) id, fun h0 => List.mem_cons_of_mem _ h0⟩) (fun z hz => e4 z (List.mem_cons_of_mem _ hz))⟩
      · omega
      · (simp (decide := true) only [am_has, am_lk0, am_lk1, and_self, true_and, and_true] <;> first | rfl | (refine ⟨?_, ?_⟩ <;> rfl) | (refine ⟨?_, ?_, ?_⟩ <;> rfl) | (refine ⟨?_, ?_, ?_, ?_⟩ <;> rfl))
set_option maxRecDepth 100000 in
set_option maxHeartbeats 400000 in
theorem c_X10_isOnPile (xs : List Nat) (x : Nat) (hP : PLs xs I) (hl : xs.length ≤ 24) (hb : ∀ y ∈ xs, y < 22) (hx : x < 22) :
    am_Ctr g am_mt 1 (h + 1) 165 [.ref 60, .int (nI x)] (am_SH, I, J) 0 0 (fun r M => r = some (.int (bI (decide (x ∈ xs)))) ∧ M = (am_SH, I, J)) := by
  have h37 := hP.1
  have hgd : ∀ j, j < xs.length → xs.getD (xs.length - 1 - j) 0 < 22 := fun j hj => by
    rw [List.getD_eq_getElem?_getD, List.getElem?_eq_getElem (by omega)]
    exact hb _ (List.getElem_mem _)
  obtain ⟨JJ, hJJ⟩ : ∃ JJ : Nat → am_Cut, JJ = (fun zu zpc zl zst zM zk zn => (∃ (k : Nat) (b : Bool), zu = xs.length - k ∧ (k ≤ xs.length) ∧ (b = true ↔ seen (fun j => xs.getD (xs.length - 1 - j) 0) k x) ∧ zpc = 4 ∧ zl = [(0, .ref 60), (1, .int (nI x)), (2, .int (bI b)), (3, .int (nI k))] ∧ zst = [] ∧ zM = (am_SH, I, J) ∧ zk = 0 ∧ zn = 0)) := ⟨_, rfl⟩
  have mk : ∀ (k : Nat) (b : Bool), (k ≤ xs.length) → (b = true ↔ seen (fun j => xs.getD (xs.length - 1 - j) 0) k x) → JJ (xs.length - k) 4 [(0, .ref 60), (1, .int (nI x)), (2, .int (bI b)), (3, .int (nI k))] [] (am_SH, I, J) 0 0 := by
    intro k b a0 a1
    rw [hJJ]
    exact ⟨k, b, rfl, a0, a1, rfl, rfl, rfl, rfl, rfl, rfl⟩
  refine am_rule2 (q := qX10_isOnPile) (B := am_blk bX10_isOnPile) rfl rfl kX10_isOnPile nX10_isOnPile (Nat.le_of_ble_eq_true rfl) JJ (fun zu zpc zl zst zM zk zn hj => ?_) ?_
  rotate_left
  · refine ⟨60, ?_⟩
    simp (decide := true) (disch := (first | exact eq_false (by decide) | exact eq_true (by decide) | decide | omega)) only [lX10_isOnPile_0, lX10_isOnPile_4, lX10_isOnPile_26, lX10_isOnPile_30, lX10_isOnPile_31, lX10_isOnPile_38, bX10_isOnPile_0, bX10_isOnPile_4, bX10_isOnPile_26, bX10_isOnPile_30, bX10_isOnPile_31, bX10_isOnPile_38, (show qX10_isOnPile.2.2.2.1 = (some .boolean) from rfl), am_rok_bool, w_aload_n, w_getfield, w_goto, w_iaload, w_icmp_ge, w_icmp_ne, w_iconst, w_if_ne, w_iinc, w_iload_n, w_ireturn, w_istore_n, w_nop, w_swap, sa_83, sg_60_36, sg_60_37, cI_0, cI_1, am_lk0, am_lk1, am_ld_some, am_isI_i, am_isJ_j, am_isR_r, am_st_eq, am_rmv_nil, am_rmv_t, am_rmv_i, am_rmv_r, sf_SH, sj_SH, sf_eq, sf_nk, sf_na, sf_sf, am_args_i, am_args_r, am_args_n, Nat.reduceAdd, List.cons_append, List.nil_append, Option.toList, List.drop_succ_cons, List.drop_zero, am_RP, am_CP, am_PH, Fin.isValue, Fin.val_zero, Fin.val_one, am_f2, am_f3, true_and, and_true, true_implies, false_implies, not_false_eq_true, ne_eq, nI_clampD, nI_leT, nI_leF, nI_ltT, nI_ltF, nI_eqT, nI_eqF, nI_lt0F, nI_0leT, nI_eq0T, nI_eq0F, nI_0ltT, nI_0ltF, nI_le0T, nI_le0F, nI_m1, nI_m1', m1_m1, m1_lt, m1_le, nI_mul, nI_add, nI_sub, nI_add1, nI_dec, nI_div, nI_mod, vp_inD, sf_nkD, sf_eqD]
    refine ⟨_, _, ?_, mk 0 false (by omega) (seen_0 _ _)⟩
    · (simp (decide := true) only [am_has, am_lk0, am_lk1, and_self, true_and, and_true] <;> first | rfl | (refine ⟨?_, ?_⟩ <;> rfl) | (refine ⟨?_, ?_, ?_⟩ <;> rfl) | (refine ⟨?_, ?_, ?_, ?_⟩ <;> rfl))
  rw [hJJ] at hj
  clear hJJ
  obtain ⟨k, b, rfl, e1, e2, rfl, rfl, rfl, rfl, rfl, rfl⟩ := hj
  refine ⟨_, 60, rfl, rfl, ?_⟩
  by_cases hk : k = xs.length
  · subst hk
    have hbd : b = decide (x ∈ xs) := by
      rw [Bool.eq_iff_iff, e2, decide_eq_true_iff]
      constructor
      · rintro ⟨j, hj, h0⟩
        have h0 : xs.getD (xs.length - 1 - j) 0 = x := h0
        rw [← h0, List.getD_eq_getElem?_getD, List.getElem?_eq_getElem (by omega)]
        exact List.getElem_mem _
      · intro h0
        obtain ⟨j, hj, h1⟩ := List.getElem_of_mem h0
        refine ⟨xs.length - 1 - j, by omega, ?_⟩
        show xs.getD (xs.length - 1 - (xs.length - 1 - j)) 0 = x
        rw [show xs.length - 1 - (xs.length - 1 - j) = j by omega, List.getD_eq_getElem?_getD, List.getElem?_eq_getElem hj, h1]
        rfl
    rw [hbd]
    simp (decide := true) (disch := (first | exact eq_false (by decide) | exact eq_true (by decide) | decide | omega)) only [lX10_isOnPile_0, lX10_isOnPile_4, lX10_isOnPile_26, lX10_isOnPile_30, lX10_isOnPile_31, lX10_isOnPile_38, bX10_isOnPile_0, bX10_isOnPile_4, bX10_isOnPile_26, bX10_isOnPile_30, bX10_isOnPile_31, bX10_isOnPile_38, (show qX10_isOnPile.2.2.2.1 = (some .boolean) from rfl), am_rok_bool, w_aload_n, w_getfield, w_goto, w_iaload, w_icmp_ge, w_icmp_ne, w_iconst, w_if_ne, w_iinc, w_iload_n, w_ireturn, w_istore_n, w_nop, w_swap, sa_83, sg_60_36, sg_60_37, cI_0, cI_1, am_lk0, am_lk1, am_ld_some, am_isI_i, am_isJ_j, am_isR_r, am_st_eq, am_rmv_nil, am_rmv_t, am_rmv_i, am_rmv_r, sf_SH, sj_SH, sf_eq, sf_nk, sf_na, sf_sf, am_args_i, am_args_r, am_args_n, Nat.reduceAdd, List.cons_append, List.nil_append, Option.toList, List.drop_succ_cons, List.drop_zero, am_RP, am_CP, am_PH, Fin.isValue, Fin.val_zero, Fin.val_one, am_f2, am_f3, true_and, and_true, true_implies, false_implies, not_false_eq_true, ne_eq, nI_clampD, nI_leT, nI_leF, nI_ltT, nI_ltF, nI_eqT, nI_eqF, nI_lt0F, nI_0leT, nI_eq0T, nI_eq0F, nI_0ltT, nI_0ltF, nI_le0T, nI_le0F, nI_m1, nI_m1', m1_m1, m1_lt, m1_le, nI_mul, nI_add, nI_sub, nI_add1, nI_dec, nI_div, nI_mod, vp_inD, sf_nkD, sf_eqD, h37, bI_01]
  · have hp := hP.2 k (by omega)
    have hg2 := hgd k (by omega)
    cases b with
    | true =>
      simp (decide := true) (disch := (first | exact eq_false (by decide) | exact eq_true (by decide) | decide | omega)) only [lX10_isOnPile_0, lX10_isOnPile_4, lX10_isOnPile_26, lX10_isOnPile_30, lX10_isOnPile_31, lX10_isOnPile_38, bX10_isOnPile_0, bX10_isOnPile_4, bX10_isOnPile_26, bX10_isOnPile_30, bX10_isOnPile_31, bX10_isOnPile_38, (show qX10_isOnPile.2.2.2.1 = (some .boolean) from rfl), am_rok_bool, w_aload_n, w_getfield, w_goto, w_iaload, w_icmp_ge, w_icmp_ne, w_iconst, w_if_ne, w_iinc, w_iload_n, w_ireturn, w_istore_n, w_nop, w_swap, sa_83, sg_60_36, sg_60_37, cI_0, cI_1, am_lk0, am_lk1, am_ld_some, am_isI_i, am_isJ_j, am_isR_r, am_st_eq, am_rmv_nil, am_rmv_t, am_rmv_i, am_rmv_r, sf_SH, sj_SH, sf_eq, sf_nk, sf_na, sf_sf, am_args_i, am_args_r, am_args_n, Nat.reduceAdd, List.cons_append, List.nil_append, Option.toList, List.drop_succ_cons, List.drop_zero, am_RP, am_CP, am_PH, Fin.isValue, Fin.val_zero, Fin.val_one, am_f2, am_f3, true_and, and_true, true_implies, false_implies, not_false_eq_true, ne_eq, nI_clampD, nI_leT, nI_leF, nI_ltT, nI_ltF, nI_eqT, nI_eqF, nI_lt0F, nI_0leT, nI_eq0T, nI_eq0F, nI_0ltT, nI_0ltF, nI_le0T, nI_le0F, nI_m1, nI_m1', m1_m1, m1_lt, m1_le, nI_mul, nI_add, nI_sub, nI_add1, nI_dec, nI_div, nI_mod, vp_inD, sf_nkD, sf_eqD, h37, bI_t]
      refine ⟨_, _, ?_, ?_, mk (k + 1) true (by omega) (seen_t e2 (Or.inr rfl))⟩
      · omega
      · (simp (decide := true) only [am_has, am_lk0, am_lk1, and_self, true_and, and_true] <;> first | rfl | (refine ⟨?_, ?_⟩ <;> rfl) | (refine ⟨?_, ?_, ?_⟩ <;> rfl) | (refine ⟨?_, ?_, ?_, ?_⟩ <;> rfl))
    | false =>
      by_cases hc : xs.getD (xs.length - 1 - k) 0 = x
      · simp (decide := true) (disch := (first | exact eq_false (by decide) | exact eq_true (by decide) | decide | omega)) only [lX10_isOnPile_0, lX10_isOnPile_4, lX10_isOnPile_26, lX10_isOnPile_30, lX10_isOnPile_31, lX10_isOnPile_38, bX10_isOnPile_0, bX10_isOnPile_4, bX10_isOnPile_26, bX10_isOnPile_30, bX10_isOnPile_31, bX10_isOnPile_38, (show qX10_isOnPile.2.2.2.1 = (some .boolean) from rfl), am_rok_bool, w_aload_n, w_getfield, w_goto, w_iaload, w_icmp_ge, w_icmp_ne, w_iconst, w_if_ne, w_iinc, w_iload_n, w_ireturn, w_istore_n, w_nop, w_swap, sa_83, sg_60_36, sg_60_37, cI_0, cI_1, am_lk0, am_lk1, am_ld_some, am_isI_i, am_isJ_j, am_isR_r, am_st_eq, am_rmv_nil, am_rmv_t, am_rmv_i, am_rmv_r, sf_SH, sj_SH, sf_eq, sf_nk, sf_na, sf_sf, am_args_i, am_args_r, am_args_n, Nat.reduceAdd, List.cons_append, List.nil_append, Option.toList, List.drop_succ_cons, List.drop_zero, am_RP, am_CP, am_PH, Fin.isValue, Fin.val_zero, Fin.val_one, am_f2, am_f3, true_and, and_true, true_implies, false_implies, not_false_eq_true, ne_eq, nI_clampD, nI_leT, nI_leF, nI_ltT, nI_ltF, nI_eqT, nI_eqF, nI_lt0F, nI_0leT, nI_eq0T, nI_eq0F, nI_0ltT, nI_0ltF, nI_le0T, nI_le0F, nI_m1, nI_m1', m1_m1, m1_lt, m1_le, nI_mul, nI_add, nI_sub, nI_add1, nI_dec, nI_div, nI_mod, vp_inD, sf_nkD, sf_eqD, h37, bI_f, hp, hc]
        refine ⟨_, _, ?_, ?_, mk (k + 1) true (by omega) (seen_t e2 (Or.inl hc))⟩
        · omega
        · (simp (decide := true) only [am_has, am_lk0, am_lk1, and_self, true_and, and_true] <;> first | rfl | (refine ⟨?_, ?_⟩ <;> rfl) | (refine ⟨?_, ?_, ?_⟩ <;> rfl) | (refine ⟨?_, ?_, ?_, ?_⟩ <;> rfl))
      · have hk2 : (nI xs.length ≤ nI k) = False := nI_leF (by omega) (by omega)
        have hk3 : vp_in (nI k) 24 = True := vp_inD (by omega) (by omega)
        have hk4 : (nI (xs.getD (xs.length - 1 - k) 0) = nI x) = False := nI_eqF hc (by omega) (by omega)
        simp (decide := true) (disch := (first | exact eq_false (by decide) | exact eq_true (by decide) | decide | omega)) only [lX10_isOnPile_0, lX10_isOnPile_4, lX10_isOnPile_26, lX10_isOnPile_30, lX10_isOnPile_31, lX10_isOnPile_38, bX10_isOnPile_0, bX10_isOnPile_4, bX10_isOnPile_26, bX10_isOnPile_30, bX10_isOnPile_31, bX10_isOnPile_38, (show qX10_isOnPile.2.2.2.1 = (some .boolean) from rfl), am_rok_bool, w_aload_n, w_getfield, w_goto, w_iaload, w_icmp_ge, w_icmp_ne, w_iconst, w_if_ne, w_iinc, w_iload_n, w_ireturn, w_istore_n, w_nop, w_swap, sa_83, sg_60_36, sg_60_37, cI_0, cI_1, am_lk0, am_lk1, am_ld_some, am_isI_i, am_isJ_j, am_isR_r, am_st_eq, am_rmv_nil, am_rmv_t, am_rmv_i, am_rmv_r, sf_SH, sj_SH, sf_eq, sf_nk, sf_na, sf_sf, am_args_i, am_args_r, am_args_n, Nat.reduceAdd, List.cons_append, List.nil_append, Option.toList, List.drop_succ_cons, List.drop_zero, am_RP, am_CP, am_PH, Fin.isValue, Fin.val_zero, Fin.val_one, am_f2, am_f3, true_and, and_true, true_implies, false_implies, not_false_eq_true, ne_eq, nI_clampD, nI_leT, nI_leF, nI_ltT, nI_ltF, nI_eqT, nI_eqF, nI_lt0F, nI_0leT, nI_eq0T, nI_eq0F, nI_0ltT, nI_0ltF, nI_le0T, nI_le0F, nI_m1, nI_m1', m1_m1, m1_lt, m1_le, nI_mul, nI_add, nI_sub, nI_add1, nI_dec, nI_div, nI_mod, vp_inD, sf_nkD, sf_eqD, h37, bI_f, hp, hk2, hk3, hk4]
        refine ⟨_, _, ?_, ?_, mk (k + 1) false (by omega) (seen_f e2 hc)⟩
        · omega
        · (simp (decide := true) only [am_has, am_lk0, am_lk1, and_self, true_and, and_true] <;> first | rfl | (refine ⟨?_, ?_⟩ <;> rfl) | (refine ⟨?_, ?_, ?_⟩ <;> rfl) | (refine ⟨?_, ?_, ?_, ?_⟩ <;> rfl))
end MO1
