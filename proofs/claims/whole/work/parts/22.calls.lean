section WPC
variable {E : am_Env} {df : Nat → List (Option (Option Nat))} {B : Nat → List am_I} {n pc e1 e2 e3 : Nat} {r : List am_I} {lv : am_L} {st : List Value} {M : am_M} {c s : Nat}
/-- a call whose answer and memory are known -/
theorem w_virtE {i : Nat} {a : Nat} {av : List Value} {R : Option Value} {M1 : am_M} (hC : E.2.2.2.1 e1 (.ref a :: av) M 0 0 (fun r M' => r = R ∧ M' = M1)) (hst : (st.take e2).reverse = .ref a :: av) (hlen : Nat.ble e2 st.length = true) (hsum : Nat.ble (am_sum (st.drop e2)) 8 = true) (hr : am_rcv M (e3 % 100) a) (hk : e3 / 100 % 10 = 0) (h1 : c ≤ E.2.2.2.2.2.2.1.1) (h2 : s ≤ E.2.2.2.2.2.2.1.2)
    (kk : am_wp E df B n r lv (R.toList ++ st.drop e2) M1 c s) : am_wp E df B (n + 1) ((pc, .invokevirtual i, e1, e2, e3) :: r) lv st M c s :=
  w_virt (rest := []) hst (Nat.le_of_ble_eq_true hlen) (Nat.le_of_ble_eq_true hsum) hr hk hC h1 h2 (fun r' M' ⟨h3, h4⟩ => by subst h3; subst h4; exact kk)
theorem w_statE {i : Nat} {av : List Value} {R : Option Value} {M1 : am_M} (hC : E.2.2.2.1 e1 av M 0 0 (fun r M' => r = R ∧ M' = M1)) (he : e1 ≠ 901) (hst : (st.take e2).reverse = av) (hlen : Nat.ble e2 st.length = true) (hsum : Nat.ble (am_sum (st.drop e2)) 8 = true) (h1 : c ≤ E.2.2.2.2.2.2.1.1) (h2 : s ≤ E.2.2.2.2.2.2.1.2)
    (kk : am_wp E df B n r lv (R.toList ++ st.drop e2) M1 c s) : am_wp E df B (n + 1) ((pc, .invokestatic i, e1, e2, e3) :: r) lv st M c s :=
  w_stat he hst (Nat.le_of_ble_eq_true hlen) (Nat.le_of_ble_eq_true hsum) hC h1 h2 (fun r' M' ⟨h3, h4⟩ => by subst h3; subst h4; exact kk)
/-- the memory's answer is known only by what holds of it -/
theorem w_virtP {i : Nat} {a : Nat} {av : List Value} {P : Option Value → am_M → Prop} (hC : E.2.2.2.1 e1 (.ref a :: av) M 0 0 P) (hst : (st.take e2).reverse = .ref a :: av) (hlen : Nat.ble e2 st.length = true) (hsum : Nat.ble (am_sum (st.drop e2)) 8 = true) (hr : am_rcv M (e3 % 100) a) (hk : e3 / 100 % 10 = 0) (h1 : c ≤ E.2.2.2.2.2.2.1.1) (h2 : s ≤ E.2.2.2.2.2.2.1.2)
    (kk : ∀ R M1, P R M1 → am_wp E df B n r lv (R.toList ++ st.drop e2) M1 c s) : am_wp E df B (n + 1) ((pc, .invokevirtual i, e1, e2, e3) :: r) lv st M c s :=
  w_virt (rest := []) hst (Nat.le_of_ble_eq_true hlen) (Nat.le_of_ble_eq_true hsum) hr hk hC h1 h2 kk
theorem w_statP {i : Nat} {av : List Value} {P : Option Value → am_M → Prop} (hC : E.2.2.2.1 e1 av M 0 0 P) (he : e1 ≠ 901) (hst : (st.take e2).reverse = av) (hlen : Nat.ble e2 st.length = true) (hsum : Nat.ble (am_sum (st.drop e2)) 8 = true) (h1 : c ≤ E.2.2.2.2.2.2.1.1) (h2 : s ≤ E.2.2.2.2.2.2.1.2)
    (kk : ∀ R M1, P R M1 → am_wp E df B n r lv (R.toList ++ st.drop e2) M1 c s) : am_wp E df B (n + 1) ((pc, .invokestatic i, e1, e2, e3) :: r) lv st M c s :=
  w_stat he hst (Nat.le_of_ble_eq_true hlen) (Nat.le_of_ble_eq_true hsum) hC h1 h2 kk
end WPC
theorem am_RP (g : am_G) (mt : List am_MI) (ph h MC MS : Nat) (ret : Option FieldType) (P : Option Value → am_M → Prop) (C : am_Cut) (r : Option Value) (M : am_M) (c s : Nat) : (am_env g mt ph h MC MS ret P C).2.1 r M c s = (am_rok ret r ∧ c ≤ MC ∧ s ≤ MS ∧ P r M) := rfl
theorem am_CP (g : am_G) (mt : List am_MI) (ph h MC MS : Nat) (ret : Option FieldType) (P : Option Value → am_M → Prop) (C : am_Cut) (pc : Nat) (l : am_L) (st : List Value) (M : am_M) (c s : Nat) : (am_env g mt ph h MC MS ret P C).1 pc l st M c s = C pc l st M c s := rfl
theorem am_PH (g : am_G) (mt : List am_MI) (ph h MC MS : Nat) (ret : Option FieldType) (P : Option Value → am_M → Prop) (C : am_Cut) : (am_env g mt ph h MC MS ret P C).2.2.2.2.2.1 = ph := rfl
theorem am_rok_int (v : Int32) : am_rok (some .int) (some (.int v)) = True := rfl
theorem am_rok_bool (v : Int32) : am_rok (some .boolean) (some (.int v)) = (v = 0 ∨ v = 1) := rfl
theorem am_rok_long (v : Int64) : am_rok (some .long) (some (.long v)) = True := rfl
theorem am_rok_none : am_rok none none = True := rfl
theorem am_rok_ref (n : String) (v : Nat) : am_rok (some (.object n)) (some (.ref v)) = True := rfl
