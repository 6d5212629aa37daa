/-- an array of which the first places are filled -/
def fl (I : Nat → Nat → Int32) (a i : Nat) (v : Int32) : Nat → Nat → Int32 := am_rs I a (fun j => if j < i then v else I a j)
theorem fl_app (I : Nat → Nat → Int32) (a i : Nat) (v : Int32) (b j : Nat) : fl I a i v b j = if b = a ∧ j < i then v else I b j := by
  unfold fl am_rs
  by_cases hb : b = a
  · subst hb
    by_cases hj : j < i
    · simp [hj]
    · simp [hj]
  · simp [hb]
theorem fl_0 (I : Nat → Nat → Int32) (a : Nat) (v : Int32) : fl I a 0 v = I := by
  funext b j
  rw [fl_app, if_neg (fun h => absurd h.2 (Nat.not_lt_zero j))]
theorem fl_s (I : Nat → Nat → Int32) (a i : Nat) (v : Int32) : sf (fl I a i v) a i v = fl I a (i + 1) v := by
  funext b j
  rw [sf_app, fl_app, fl_app]
  by_cases hb : b = a
  · by_cases hj : j = i
    · rw [if_pos ⟨hb, hj⟩, if_pos ⟨hb, by omega⟩]
    · rw [if_neg (fun h => hj h.2)]
      by_cases hl : j < i
      · rw [if_pos ⟨hb, hl⟩, if_pos ⟨hb, by omega⟩]
      · rw [if_neg (fun h => hl h.2), if_neg (fun h => absurd h.2 (by omega))]
  · rw [if_neg (fun h => hb h.1), if_neg (fun h => hb h.1), if_neg (fun h => hb h.1)]
theorem am_ar_h {I : Nat → Nat → Int32} {J : Nat → Nat → Int64} {a t n : Nat} (h : am_SH[a]? = some (.inl (t, n))) (P : Nat → Prop) : am_ar (am_SH, I, J) a t P = P n := by
  simp only [am_ar, h, true_and]
theorem nI_add1 (n : Nat) : nI n + Int32.ofInt 1 = nI (n + 1) := by
  rw [show Int32.ofInt 1 = 1 from by decide +kernel, nI_1]
section LP1
variable (g : am_G) (h : Nat) (I : Nat → Nat → Int32) (J : Nat → Nat → Int64)
set_option maxRecDepth 100000 in
set_option maxHeartbeats 400000 in
theorem c_fill (a n : Nat) (v : Int32) (hn : n < 2 ^ 31) (hs : am_SH[a]? = some (.inl (0, n))) (h9 : (a = 999) = False) :
    am_Ctr g am_mt 1 (h + 1) 246 [.ref a, .int v] (am_SH, I, J) 0 0 (fun r M => r = none ∧ M = (am_SH, fl I a n v, J)) := by
  have har : ∀ (I : Nat → Nat → Int32) P, am_ar (am_SH, I, J) a 0 P = P n := fun I P => am_ar_h hs P
  refine am_rule2 (q := qJ7_fill_53178) (B := am_blk bJ7_fill_53178) rfl rfl kJ7_fill_53178 nJ7_fill_53178 (Nat.le_of_ble_eq_true rfl) (fun u pc l st M k n' => ∃ i, u = n - i ∧ i ≤ n ∧ pc = 5 ∧ l = [(0, .ref a), (1, .int v), (2, .int (nI i)), (3, .int (nI n))] ∧ st = [] ∧ M = (am_SH, fl I a i v, J) ∧ k = 0 ∧ n' = 0) ?_ ?_
  · rintro u pc l st M k n' ⟨i, rfl, hi, rfl, rfl, rfl, rfl, rfl, rfl⟩
    refine ⟨_, 30, rfl, rfl, ?_⟩
    have hle : (nI n ≤ nI i) = (n ≤ i) := propext (nI_leI hn (by omega))
    have hcl : (nI i).toNatClampNeg = i := nI_clamp (by omega)
    simp (decide := true) only [lJ7_fill_53178_0, lJ7_fill_53178_5, lJ7_fill_53178_20, bJ7_fill_53178_0, bJ7_fill_53178_5, bJ7_fill_53178_20, (show qJ7_fill_53178.2.2.2.1 = none from rfl), am_rok_none, w_aload_n, w_arraylength, w_goto, w_iastore, w_icmp_ge, w_iconst, w_iinc, w_iload_n, w_istore_n, w_nop, w_return, w_swap, cI_0, am_lk0, am_lk1, am_ld_some, am_isI_i, am_isJ_j, am_isR_r, am_st_eq, am_rmv_nil, am_rmv_t, am_rmv_i, am_rmv_r, sf_SH, sj_SH, sf_eq, sf_nk, sf_na, sf_sf, am_args_i, am_args_r, am_args_n, Nat.reduceAdd, List.cons_append, List.nil_append, Option.toList, List.drop_succ_cons, List.drop_zero, am_RP, am_CP, am_PH, Fin.isValue, Fin.val_zero, Fin.val_one, am_f2, am_f3, true_and, and_true, true_implies, false_implies, not_false_eq_true, ne_eq, har, hle, hcl, h9, fl_s, nI_add1]
    refine ⟨fun h1 => by rw [show i = n by omega], fun h1 => ⟨vp_in_nI (by omega) hn, n - (i + 1), _, by omega, ?_, i + 1, rfl, by omega, rfl, rfl⟩⟩
    simp (decide := true) only [am_has, am_lk0, am_lk1, and_self, true_and, and_true]
  · refine ⟨30, ?_⟩
    simp (decide := true) only [lJ7_fill_53178_0, lJ7_fill_53178_5, lJ7_fill_53178_20, bJ7_fill_53178_0, bJ7_fill_53178_5, bJ7_fill_53178_20, (show qJ7_fill_53178.2.2.2.1 = none from rfl), am_rok_none, w_aload_n, w_arraylength, w_goto, w_iastore, w_icmp_ge, w_iconst, w_iinc, w_iload_n, w_istore_n, w_nop, w_return, w_swap, cI_0, am_lk0, am_lk1, am_ld_some, am_isI_i, am_isJ_j, am_isR_r, am_st_eq, am_rmv_nil, am_rmv_t, am_rmv_i, am_rmv_r, sf_SH, sj_SH, sf_eq, sf_nk, sf_na, sf_sf, am_args_i, am_args_r, am_args_n, Nat.reduceAdd, List.cons_append, List.nil_append, Option.toList, List.drop_succ_cons, List.drop_zero, am_RP, am_CP, am_PH, Fin.isValue, Fin.val_zero, Fin.val_one, am_f2, am_f3, true_and, and_true, true_implies, false_implies, not_false_eq_true, ne_eq, har, h9, hs]
    refine ⟨n - 0, _, ?_, 0, rfl, by omega, rfl, by rw [fl_0]⟩
    simp (decide := true) only [am_has, am_lk0, am_lk1, and_self, true_and, and_true]
    rfl
end LP1
