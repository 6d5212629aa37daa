/-! the constructors, run by a program: am_cx runs straight code over concrete cells; what it finds is a contract -/
def am_aI : List (Nat × Nat × Int32) → Nat → Nat → Int32
  | [] => fun _ _ => 0
  | q :: r => sf (am_aI r) q.1 q.2.1 q.2.2
abbrev am_cS : Type := List am_Sh × List (Nat × Nat × Int32)
def am_zJ : Nat → Nat → Int64 := fun _ _ => 0
def am_cM (S : am_cS) : am_M := (S.1, am_aI S.2, am_zJ)
theorem am_aI_row : ∀ (l : List (Nat × Nat × Int32)) (n : Nat), l.all (fun q => decide (q.1 < n)) = true → ∀ b, n ≤ b → am_aI l b = fun _ => 0
  | [], _, _, _, _ => rfl
  | q :: r, n, h, b, hb => by
    simp only [List.all_cons, Bool.and_eq_true, decide_eq_true_eq] at h
    show sf (am_aI r) q.1 q.2.1 q.2.2 b = _
    rw [sf_na (eq_false (by omega))]
    exact am_aI_row r n h.2 b hb
theorem am_new_z {S : am_cS} {x : am_Sh} (h : S.2.all (fun q => decide (q.1 < S.1.length)) = true) : am_new (am_cM S) x = am_cM (S.1 ++ [x], S.2) := by
  unfold am_new am_cM
  have h1 := am_aI_row S.2 S.1.length h S.1.length (Nat.le_refl _)
  have e1 : am_rs (am_aI S.2) S.1.length (fun _ => 0) = am_aI S.2 := by
    funext b
    unfold am_rs
    by_cases hb : b = S.1.length
    · rw [if_pos hb, hb, h1]
    · rw [if_neg hb]
  have e2 : am_rs am_zJ S.1.length (fun _ => 0) = am_zJ := by
    funext b
    unfold am_rs
    by_cases hb : b = S.1.length
    · rw [if_pos hb]; rfl
    · rw [if_neg hb]
  show (S.1 ++ [x], am_rs (am_aI S.2) S.1.length (fun _ => 0), am_rs am_zJ S.1.length (fun _ => 0)) = _
  rw [e1, e2]
/-- a step over concrete cells; a call is answered by cl: the cells then, the room it takes -/
def am_cx (cl : Nat → List Value → am_cS → Option (am_cS × Nat × Nat)) (df : Nat → List (Option (Option Nat))) (MC MS : Nat) : Nat → List am_I → am_L → List Value → am_cS → Nat → Nat → Option (am_cS × Nat × Nat)
  | 0, _, _, _, _, _, _ => none
  | _ + 1, [], _, _, _, _, _ => none
  | n + 1, (pc, ins, e1, e2, e3) :: r, lv, st, S, c, s => match ins with
    | .iconst i => am_cx cl df MC MS n r lv (.int (Int32.ofInt i) :: st) S c s
    | .bipush i => am_cx cl df MC MS n r lv (.int (Int8.ofInt i).toInt32 :: st) S c s
    | .sipush i => am_cx cl df MC MS n r lv (.int (Int16.ofInt i).toInt32 :: st) S c s
    | .aload_n i => match am_lk lv i with
      | some (.ref a) => am_cx cl df MC MS n r lv (.ref a :: st) S c s
      | _ => none
    | .dup => match st with
      | .ref a :: st => am_cx cl df MC MS n r lv (.ref a :: .ref a :: st) S c s
      | _ => none
    | .getfield _ => match st with
      | .ref a :: st => match S.1[a]? with
        | some (.inr (ci, fl)) => if ci = e1 then (match fl[e2]? with
          | some (some (some b)) => am_cx cl df MC MS n r lv (.ref b :: st) S c s
          | _ => none) else none
        | _ => none
      | _ => none
    | .putfield _ => match st with
      | .int v :: .ref a :: st => match S.1[a]? with
        | some (.inr (ci, fl)) => if ci = e1 ∧ fl[e2]? = some none ∧ e3 = 0 then am_cx cl df MC MS n r lv st (S.1, (a, e2, v) :: S.2) c s else none
        | _ => none
      | .ref b :: .ref a :: st => match S.1[a]? with
        | some (.inr (ci, fl)) => if ci = e1 ∧ e2 < fl.length ∧ e3 / 10 = 2 then am_cx cl df MC MS n r lv st ((am_putr (S.1, fun _ _ => 0, fun _ _ => 0) a e2 b).1, S.2) c s else none
        | _ => none
      | _ => none
    | .castore => match st with
      | .int x :: .int i :: .ref a :: st => match S.1[a]? with
        | some (.inl (t, k)) => if t = 3 ∧ vp_nar .char x = x ∧ ¬ i < 0 ∧ ¬ k ≤ i.toNatClampNeg then am_cx cl df MC MS n r lv st (S.1, (a, i.toNatClampNeg, x) :: S.2) c s else none
        | _ => none
      | _ => none
    | .newarray _ => match st with
      | .int k :: st => if S.1.length + 1 < 900 ∧ ¬ k < 0 ∧ k.toNatClampNeg ≤ 1000000 ∧ c + 1 ≤ MC ∧ s + k.toNatClampNeg ≤ MS ∧ S.2.all (fun q => decide (q.1 < S.1.length)) = true then am_cx cl df MC MS n r lv (.ref S.1.length :: st) (S.1 ++ [.inl (e1, k.toNatClampNeg)], S.2) (c + 1) (s + k.toNatClampNeg) else none
      | _ => none
    | .new _ => if e2 = 0 ∧ S.1.length + 1 < 900 ∧ c + 1 ≤ MC ∧ s + (df e1).length ≤ MS ∧ S.2.all (fun q => decide (q.1 < S.1.length)) = true then am_cx cl df MC MS n r lv (.ref S.1.length :: st) (S.1 ++ [.inr (e1, df e1)], S.2) (c + 1) (s + (df e1).length) else none
    | .invokespecial _ => if e1 = 900 then (match st with
        | .ref _ :: st => if am_sum st ≤ 8 then am_cx cl df MC MS n r lv st S c s else none
        | _ => none) else match (st.take e2).reverse with
        | .ref a :: av => match cl e1 (.ref a :: av) S with
          | some (S', mc, ms) => if e2 ≤ st.length ∧ am_sum (st.drop e2) ≤ 8 ∧ c + mc ≤ MC ∧ s + ms ≤ MS then am_cx cl df MC MS n r lv (st.drop e2) S' (c + mc) (s + ms) else none
          | none => none
        | _ => none
    | .return_ => match st with
      | [] => some (S, c, s)
      | _ => none
    | _ => none
theorem am_cx_wp {g : am_G} {mt : List am_MI} {h MC MS : Nat} {cl : Nat → List Value → am_cS → Option (am_cS × Nat × Nat)} {df : Nat → List (Option (Option Nat))} {B : Nat → List am_I} {C : am_Cut} (hcl : ∀ mi av S S' mc ms, cl mi av S = some (S', mc, ms) → am_Ctr g mt 0 h mi av (am_cM S) mc ms (fun r M => r = none ∧ M = am_cM S')) (F : am_cS × Nat × Nat) (hF : F.2.1 ≤ MC ∧ F.2.2 ≤ MS) :
    ∀ (n : Nat) (r : List am_I) (lv : am_L) (st : List Value) (S : am_cS) (c s : Nat), am_cx cl df MC MS n r lv st S c s = some F → am_wp (am_env g mt 0 h MC MS none (fun r M => r = none ∧ M = am_cM F.1) C) df B n r lv st (am_cM S) c s := by
  intro n
  induction n with
  | zero => intro r lv st S c s h0; simp [am_cx] at h0
  | succ n ih =>
    intro r lv st S c s h0
    cases r with
    | nil => simp [am_cx] at h0
    | cons q r =>
      obtain ⟨pc, ins, e1, e2, e3⟩ := q
      show am_stp _ df pc ins e1 e2 e3 lv st (am_cM S) c s (am_wp _ df B n r) (fun t => am_wp _ df B n (B t))
      cases ins with
      | iconst i => exact ih r _ _ _ _ _ h0
      | bipush i => exact ih r _ _ _ _ _ h0
      | sipush i => exact ih r _ _ _ _ _ h0
      | aload_n i =>
        simp only [am_cx] at h0
        split at h0
        · rename_i a ha
          simp only [am_stp, ha, am_ld, am_isR, true_and]
          exact ih r _ _ _ _ _ h0
        · cases h0
      | dup =>
        simp only [am_cx] at h0
        split at h0
        · exact ⟨rfl, ih r _ _ _ _ _ h0⟩
        · cases h0
      | getfield i =>
        simp only [am_cx] at h0
        split at h0
        · split at h0
          · rename_i ci fl hS
            split at h0
            · rename_i hci
              split at h0
              · rename_i b hb
                have hS' : (am_cM S).1[_]? = some (Sum.inr (ci, fl)) := hS
                simp only [am_stp, am_gf, hS', hb]
                exact ⟨hci, ih r _ _ _ _ _ h0⟩
              · cases h0
            · cases h0
          · cases h0
        · cases h0
      | putfield i =>
        simp only [am_cx] at h0
        split at h0
        · rename_i v a st
          split at h0
          · rename_i ci fl hS
            split at h0
            · rename_i hc
              obtain ⟨rfl, h2, rfl⟩ := hc
              exact ⟨⟨fl, hS, h2⟩, fun h9 => absurd h9 (by decide), fun h9 => absurd h9 (by decide), by decide, ih r _ _ _ _ _ h0⟩
            · cases h0
          · cases h0
        · rename_i b a st
          split at h0
          · rename_i ci fl hS
            split at h0
            · rename_i hc
              obtain ⟨rfl, h2, h3⟩ := hc
              exact ⟨h3, ⟨fl, hS, h2⟩, ih r _ _ _ _ _ h0⟩
            · cases h0
          · cases h0
        · cases h0
      | castore =>
        simp only [am_cx] at h0
        split at h0
        · rename_i x i a st
          split at h0
          · rename_i t k hS
            split at h0
            · rename_i hc
              obtain ⟨rfl, h2, h3, h4⟩ := hc
              have hS' : (am_cM S).1[a]? = some (Sum.inl (3, k)) := hS
              simp only [am_stp, am_ar, hS', true_and]
              exact ⟨h2, fun h9 => h9.elim h3 h4, ih r _ _ _ _ _ h0⟩
            · cases h0
          · cases h0
        · cases h0
      | newarray a =>
        simp only [am_cx] at h0
        split at h0
        · rename_i k st
          split at h0
          · rename_i hc
            obtain ⟨h1, h2, h3, h4, h5, h6⟩ := hc
            have e1' := am_new_z (x := .inl (e1, k.toNatClampNeg)) h6
            refine ⟨rfl, h1, h2, h3, h4, h5, ?_⟩
            rw [e1']
            exact ih r _ _ _ _ _ h0
          · cases h0
        · cases h0
      | new i =>
        simp only [am_cx] at h0
        split at h0
        · rename_i hc
          obtain ⟨rfl, h1, h4, h5, h6⟩ := hc
          have e1' := am_new_z (x := .inr (e1, df e1)) h6
          simp only [am_stp, if_true]
          refine ⟨rfl, h1, h4, h5, ?_⟩
          rw [e1']
          exact ih r _ _ _ _ _ h0
        · cases h0
      | invokespecial i =>
        simp only [am_cx] at h0
        split at h0
        · rename_i he
          split at h0
          · split at h0
            · rename_i hs9
              simp only [am_stp, if_pos he]
              exact ⟨hs9, ih r _ _ _ _ _ h0⟩
            · cases h0
          · cases h0
        · rename_i he
          split at h0
          · rename_i a av hst
            split at h0
            · rename_i S' mc ms hcl9
              split at h0
              · rename_i hc
                obtain ⟨h1, h2, h3, h4⟩ := hc
                simp only [am_stp, if_neg he, hst]
                refine ⟨h1, h2, mc, ms, _, hcl _ _ _ _ _ _ hcl9, h3, h4, ?_⟩
                rintro r' M' ⟨rfl, rfl⟩
                exact ih r _ _ _ _ _ h0
              · cases h0
            · cases h0
          · cases h0
      | return_ =>
        simp only [am_cx] at h0
        split at h0
        · cases h0
          exact ⟨trivial, hF.1, hF.2, rfl, rfl⟩
        · cases h0
      | _ => simp [am_cx] at h0
