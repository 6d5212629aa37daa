/-! the law's walk out of an invariant of its loop -/
def am_envL (g : am_G) (ph L : Nat) (xs : Nat → Int32) (C : am_Cut) : am_Env :=
  (C, fun r _ c s => r = some (.int 1) ∧ c ≤ 601024 ∧ s ≤ 7293034, fun _ _ _ _ => False, am_Ctr g am_mt ph 1000, fun _ _ _ _ _ _ _ => False, ph, (601024, 7293034), some (L, xs), fun _ _ => none)
theorem am_S01 {p : Program} {g : am_G} {e : Env} {R : Room} {s : State} {m : MethodId} {args : Array Value} {below : List Frame} {meth : Method} {c : Code} {Q : State → Prop} {nL pc : Nat} {lv : am_L} {st : List Value} {M : am_M} {k n : Nat} (h : am_S p g e R s m args below meth c Q 1 nL pc lv st M k n) : am_S p g e R s m args below meth c Q 0 nL pc lv st M k n :=
  fun ls H locs hl hW hS => h ls H locs hl ⟨hW.1, hW.2.1, fun h0 => (by cases h0), hW.2.2.2⟩ hS
section WPN
variable {E : am_Env} {df : Nat → List (Option (Option Nat))} {B : Nat → List am_I} {n pc e1 e2 e3 : Nat} {r : List am_I} {lv : am_L} {st : List Value} {M : am_M} {c s : Nat}
theorem w_new {i a : Nat} {M1 : am_M} (ha : M.1.length = a) (hM : am_new M (.inr (e1, df e1)) = M1) (h1 : E.2.2.2.2.2.1 = 0) (h2 : a + 1 < 900) (h3 : c + 1 ≤ E.2.2.2.2.2.2.1.1) (h4 : s + (df e1).length ≤ E.2.2.2.2.2.2.1.2) (kk : am_wp E df B n r lv (.ref a :: st) M1 (c + 1) (s + (df e1).length)) : am_wp E df B (n + 1) ((pc, .new i, e1, 0, e3) :: r) lv st M c s := by
  show am_stp E df pc (.new i) e1 0 e3 lv st M c s (am_wp E df B n r) (fun t => am_wp E df B n (B t))
  simp only [am_stp, if_true]
  subst ha; subst hM
  exact ⟨h1, h2, h3, h4, kk⟩
theorem w_newa {b : ArrayType} {v : Int32} {a k : Nat} {M1 : am_M} (hk : v.toNatClampNeg = k) (ha : M.1.length = a) (hM : am_new M (.inl (e1, k)) = M1) (h1 : E.2.2.2.2.2.1 = 0) (h2 : a + 1 < 900) (h5 : ¬ v < 0) (h6 : k ≤ 1000000) (h3 : c + 1 ≤ E.2.2.2.2.2.2.1.1) (h4 : s + k ≤ E.2.2.2.2.2.2.1.2) (kk : am_wp E df B n r lv (.ref a :: st) M1 (c + 1) (s + k)) : am_wp E df B (n + 1) ((pc, .newarray b, e1, e2, e3) :: r) lv (.int v :: st) M c s := by
  subst hk; subst ha; subst hM
  exact ⟨h1, h2, h5, h6, h3, h4, kk⟩
theorem w_spec {i a : Nat} {av : List Value} {mc ms : Nat} {M1 : am_M} (he : e1 ≠ 900) (hC : E.2.2.2.1 e1 (.ref a :: av) M mc ms (fun r M' => r = none ∧ M' = M1)) (hst : (st.take e2).reverse = .ref a :: av) (hlen : Nat.ble e2 st.length = true) (hsum : Nat.ble (am_sum (st.drop e2)) 8 = true) (h1 : c + mc ≤ E.2.2.2.2.2.2.1.1) (h2 : s + ms ≤ E.2.2.2.2.2.2.1.2)
    (kk : am_wp E df B n r lv (st.drop e2) M1 (c + mc) (s + ms)) : am_wp E df B (n + 1) ((pc, .invokespecial i, e1, e2, e3) :: r) lv st M c s := by
  show am_stp E df pc (.invokespecial i) e1 e2 e3 lv st M c s (am_wp E df B n r) (fun t => am_wp E df B n (B t))
  simp only [am_stp, if_neg he, hst]
  refine ⟨Nat.le_of_ble_eq_true hlen, Nat.le_of_ble_eq_true hsum, mc, ms, _, hC, h1, h2, ?_⟩
  rintro r' M' ⟨rfl, rfl⟩
  exact kk
end WPN
/-- the memory at the loop's first turn -/
def am_M0 : am_M := (am_SH, am_aI am_al2, am_zJ)
def am_l0 (i : Int32) : am_L := [(0, .ref 999), (1, .ref 0), (2, .ref 60), (3, .ref 95), (4, .int i)]
theorem am_sh0 : am_SH.take 95 ++ [.inl (1, 1)] = am_SH := rfl
theorem am_len60 : (am_SH.take 60).length = 60 := rfl
theorem am_len95 : (am_SH.take 95).length = 95 := rfl
theorem am_df9 : (am_df 9).length = 13 := rfl
theorem am_df10 : (am_df 10).length = 51 := rfl
set_option maxRecDepth 100000 in
set_option maxHeartbeats 1000000 in
theorem am_law0 (g : am_G) (L : Nat) (xs : Nat → Int32) (C : am_Cut) (hC : ∀ lv, am_has lv (am_l0 (nI 0)) → C 23 lv [] am_M0 96 53379) :
    am_wp (am_envL g 0 L xs C) am_df (am_blk bL_law) 40 bL_law_0 [(0, .ref 999)] [] (am_cM ([], [])) 0 0 := by
  have k1 : am_Ctr g am_mt 0 1000 89 [.ref 0] (am_cM ([.inr (9, am_df 9)], [])) 59 10268 (fun r M => r = none ∧ M = am_cM (am_SH.take 60, am_al1)) := am_ct_ok g 997 3 89 _ _ _ _ _ am_run1
  have k2 : am_Ctr g am_mt 0 1000 130 [.ref 60] (am_cM (am_SH.take 60 ++ [.inr (10, am_df 10)], am_al1)) 34 43046 (fun r M => r = none ∧ M = am_cM (am_SH.take 95, am_al2)) := am_ct_ok g 997 3 130 _ _ _ _ _ am_run2
  have n1 : am_new (am_cM ([], [])) (.inr (9, am_df 9)) = am_cM ([.inr (9, am_df 9)], []) := am_new_z (S := ([], [])) rfl
  have n2 : am_new (am_cM (am_SH.take 60, am_al1)) (.inr (10, am_df 10)) = am_cM (am_SH.take 60 ++ [.inr (10, am_df 10)], am_al1) := am_new_z (S := (am_SH.take 60, am_al1)) (by decide +kernel)
  have n3 : am_new (am_cM (am_SH.take 95, am_al2)) (.inl (1, 1)) = am_M0 := (am_new_z (S := (am_SH.take 95, am_al2)) (by decide +kernel)).trans (by
    unfold am_cM am_M0
    rw [am_sh0])
  have a1 : (am_cM ([], [])).1.length = 0 := rfl
  have a2 : (am_cM (am_SH.take 60, am_al1)).1.length = 60 := am_len60
  have a3 : (am_cM (am_SH.take 95, am_al2)).1.length = 95 := am_len95
  generalize am_cM ([], []) = m0 at *
  generalize am_cM ([.inr (9, am_df 9)], []) = m1 at *
  generalize am_cM (am_SH.take 60, am_al1) = m2 at *
  generalize am_cM (am_SH.take 60 ++ [.inr (10, am_df 10)], am_al1) = m3 at *
  generalize am_cM (am_SH.take 95, am_al2) = m4 at *
  generalize am_M0 = m5 at *
  unfold bL_law_0
  refine w_new a1 n1 rfl (by decide) (Nat.le_of_ble_eq_true rfl) (Nat.le_of_ble_eq_true rfl) ?_
  rw [w_dup]
  refine ⟨rfl, ?_⟩
  refine w_spec (by decide) k1 rfl rfl rfl (Nat.le_of_ble_eq_true rfl) (Nat.le_of_ble_eq_true rfl) ?_
  refine Eq.mpr w_astore_n ?_
  refine w_new a2 n2 rfl (by decide) (Nat.le_of_ble_eq_true rfl) (Nat.le_of_ble_eq_true rfl) ?_
  rw [w_dup]
  refine ⟨rfl, ?_⟩
  refine w_spec (by decide) k2 rfl rfl rfl (Nat.le_of_ble_eq_true rfl) (Nat.le_of_ble_eq_true rfl) ?_
  refine Eq.mpr w_astore_n ?_
  rw [w_iconst]
  refine w_newa (k := 1) (by decide) a3 n3 rfl (by decide) (by decide) (by decide) (Nat.le_of_ble_eq_true rfl) (Nat.le_of_ble_eq_true rfl) ?_
  refine Eq.mpr w_astore_n ?_
  rw [w_iconst]
  refine Eq.mpr w_istore ?_
  rw [w_swap, lL_law_23]
  unfold bL_law_23
  rw [w_nop]
  exact hC _ ⟨rfl, rfl, rfl, rfl, rfl, trivial⟩
