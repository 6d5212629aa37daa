/-! calls that may throw -/
section WPX
variable {E : am_Env} {df : Nat → List (Option (Option Nat))} {B : Nat → List am_I} {n pc e1 e2 e3 : Nat} {r : List am_I} {lv : am_L} {st : List Value} {M : am_M} {c s : Nat}
theorem w_virtX {i a mc ms : Nat} {av : List Value} {P : Option Value → am_M → Prop} {X : Nat → am_M → Prop} (hC : E.2.2.2.2.1 e1 (.ref a :: av) M mc ms P X) (hst : (st.take e2).reverse = .ref a :: av) (hlen : Nat.ble e2 st.length = true) (hsum : Nat.ble (am_sum (st.drop e2)) 8 = true) (hr : am_rcv M (e3 % 100) a) (hk : ¬ e3 / 100 % 10 = 0) (h1 : c + mc ≤ E.2.2.2.2.2.2.1.1) (h2 : s + ms ≤ E.2.2.2.2.2.2.1.2)
    (kk : ∀ R M1, P R M1 → am_wp E df B n r lv (R.toList ++ st.drop e2) M1 (c + mc) (s + ms))
    (kx : ∀ x M1, X x M1 → match E.2.2.2.2.2.2.2.2 pc x with
        | some q => am_wp E df B n (B q.2) (am_rm q.1 lv) [] M1 (c + mc) (s + ms)
        | none => E.2.2.1 x M1 (c + mc) (s + ms)) : am_wp E df B (n + 1) ((pc, .invokevirtual i, e1, e2, e3) :: r) lv st M c s := by
  show am_stp E df pc (.invokevirtual i) e1 e2 e3 lv st M c s (am_wp E df B n r) (fun t => am_wp E df B n (B t))
  simp only [am_stp, hst]
  refine ⟨Nat.le_of_ble_eq_true hlen, Nat.le_of_ble_eq_true hsum, hr, ?_⟩
  rw [if_neg hk]
  exact ⟨mc, ms, P, X, hC, h1, h2, kk, kx⟩
/-- a call that is known to return -/
theorem w_virtOk {i a : Nat} {av : List Value} {P : Option Value → am_M → Prop} (hC : E.2.2.2.2.1 e1 (.ref a :: av) M 0 0 P (fun _ _ => False)) (hst : (st.take e2).reverse = .ref a :: av) (hlen : Nat.ble e2 st.length = true) (hsum : Nat.ble (am_sum (st.drop e2)) 8 = true) (hr : am_rcv M (e3 % 100) a) (hk : ¬ e3 / 100 % 10 = 0) (h1 : c ≤ E.2.2.2.2.2.2.1.1) (h2 : s ≤ E.2.2.2.2.2.2.1.2)
    (kk : ∀ R M1, P R M1 → am_wp E df B n r lv (R.toList ++ st.drop e2) M1 c s) : am_wp E df B (n + 1) ((pc, .invokevirtual i, e1, e2, e3) :: r) lv st M c s :=
  w_virtX hC hst hlen hsum hr hk h1 h2 kk (fun _ _ h => h.elim)
/-- a call that is known to throw, where nothing catches -/
theorem w_virtNo {i a : Nat} {av : List Value} {X : Nat → am_M → Prop} (hC : E.2.2.2.2.1 e1 (.ref a :: av) M 1 6 (fun _ _ => False) X) (hst : (st.take e2).reverse = .ref a :: av) (hlen : Nat.ble e2 st.length = true) (hsum : Nat.ble (am_sum (st.drop e2)) 8 = true) (hr : am_rcv M (e3 % 100) a) (hk : ¬ e3 / 100 % 10 = 0) (hh : ∀ x, E.2.2.2.2.2.2.2.2 pc x = none) (h1 : c + 1 ≤ E.2.2.2.2.2.2.1.1) (h2 : s + 6 ≤ E.2.2.2.2.2.2.1.2)
    (kx : ∀ x M1, X x M1 → E.2.2.1 x M1 (c + 1) (s + 6)) : am_wp E df B (n + 1) ((pc, .invokevirtual i, e1, e2, e3) :: r) lv st M c s :=
  w_virtX hC hst hlen hsum hr hk h1 h2 (fun _ _ h => h.elim) (fun x M1 hx => by rw [hh x]; exact kx x M1 hx)
theorem w_throw {i : Nat} : am_wp E df B (n + 1) ((pc, .new i, e1, 1, e3) :: r) lv st M c s = (am_sum st ≤ 8 ∧ E.2.2.2.2.2.1 = 1 ∧ c + 1 ≤ E.2.2.2.2.2.2.1.1 ∧ s + 6 ≤ E.2.2.2.2.2.2.1.2 ∧ E.2.2.1 e1 M (c + 1) (s + 6)) := rfl
end WPX
section ENVX
variable (g : am_G) (mt : List am_MI) (ph h MC MS : Nat) (ret : Option FieldType) (P : Option Value → am_M → Prop) (Xp : Nat → am_M → Prop) (C : am_Cut) (hd : Nat → Nat → Option (Nat × Nat))
theorem am_RPX (r : Option Value) (M : am_M) (c s : Nat) : (am_envX g mt ph h MC MS ret P Xp C).2.1 r M c s = (am_rok ret r ∧ c ≤ MC ∧ s ≤ MS ∧ P r M) := rfl
theorem am_XPX (x : Nat) (M : am_M) (c s : Nat) : (am_envX g mt ph h MC MS ret P Xp C).2.2.1 x M c s = (c ≤ MC ∧ s ≤ MS ∧ Xp x M) := rfl
theorem am_CPX (pc : Nat) (l : am_L) (st : List Value) (M : am_M) (c s : Nat) : (am_envX g mt ph h MC MS ret P Xp C).1 pc l st M c s = C pc l st M c s := rfl
theorem am_PHX : (am_envX g mt ph h MC MS ret P Xp C).2.2.2.2.2.1 = ph := rfl
theorem am_MCX : (am_envX g mt ph h MC MS ret P Xp C).2.2.2.2.2.2.1.1 = MC := rfl
theorem am_MSX : (am_envX g mt ph h MC MS ret P Xp C).2.2.2.2.2.2.1.2 = MS := rfl
theorem am_RPH (r : Option Value) (M : am_M) (c s : Nat) : (am_envH g mt h MC MS ret P hd).2.1 r M c s = (am_rok ret r ∧ c ≤ MC ∧ s ≤ MS ∧ P r M) := rfl
theorem am_PHH : (am_envH g mt h MC MS ret P hd).2.2.2.2.2.1 = 1 := rfl
theorem am_MCH : (am_envH g mt h MC MS ret P hd).2.2.2.2.2.2.1.1 = MC := rfl
theorem am_MSH : (am_envH g mt h MC MS ret P hd).2.2.2.2.2.2.1.2 = MS := rfl
end ENVX
theorem am_LE0 (n : Nat) : (n ≤ n) = True := eq_true (Nat.le_refl n)
section AMX0
variable {g : am_G} {mt : List am_MI} {df : Nat → List (Option (Option Nat))} {h mi MC MS : Nat} {P : Option Value → am_M → Prop} {Xp : Nat → am_M → Prop} {av : List Value} {M : am_M}
theorem am_ruleX0 {q : am_MI} {B : Nat → List am_I} (f : Nat) (hq : mt[mi]? = some q) (hh : q.2.2.2.2 = []) (hc : am_Code mt df q B) (hth : ∀ t, ∀ x ∈ B t, am_thr q.1.cls q.2.1 x) (hav : (lg_sl av).length ≤ q.2.2.1)
    (h0 : am_wp (am_envX g mt 1 h MC MS q.2.2.2.1 P Xp (fun _ _ _ _ _ _ => False)) df B f (B 0) (lv_args 0 av) [] M 0 0) : am_CtrX g mt 1 (h + 1) mi av M MC MS P Xp :=
  am_ruleX hq hh hc hth hav (fun _ _ _ _ _ _ _ => False) (fun _ _ _ _ _ _ _ h => h.elim) ⟨f, by
    have e : (fun (pc : Nat) (lv : am_L) (st : List Value) (M : am_M) (k n : Nat) => ∃ (_ : Nat) (l : am_L), am_has lv l ∧ False) = fun _ _ _ _ _ _ => False := by
      funext pc lv st M k n
      exact eq_false (fun ⟨_, _, _, h⟩ => h)
    rw [e]
    exact h0⟩
end AMX0
section IMP
variable {g : am_G} {mt : List am_MI} {ph k mi mc ms : Nat} {av : List Value} {M : am_M}
theorem am_Ctr.imp {P P' : Option Value → am_M → Prop} (h : am_Ctr g mt ph k mi av M mc ms P) (hp : ∀ r M, P r M → P' r M) : am_Ctr g mt ph k mi av M mc ms P' := by
  obtain ⟨q, hq, hm⟩ := h
  refine ⟨q, hq, ?_⟩
  intro p e ha hc hk s m args below hf happ hP hK
  obtain ⟨n, o, h1, h2, h3, h4⟩ := hm p e ha hc hk s m args below hf happ hP hK
  obtain ⟨⟨⟨r, M', z1, z2, z3⟩, z4⟩, z5⟩ := h4
  exact ⟨n, o, h1, h2, h3, ⟨⟨r, M', z1, hp _ _ z2, z3⟩, z4⟩, z5⟩
end IMP
