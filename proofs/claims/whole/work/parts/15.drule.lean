/-- some locals are known -/
def am_has (lv : am_L) : am_L → Prop
  | [] => True
  | q :: r => am_lk lv q.1 = some q.2 ∧ am_has lv r
theorem am_has_mem {lv : am_L} : ∀ {l : am_L}, am_has lv l → ∀ q ∈ l, (q.1, q.2) ∈ lv
  | [], _, q, hq => by cases hq
  | a :: r, h, q, hq => (List.mem_cons.mp hq).elim (fun e => by rw [e]; exact am_lk_mem h.1) (fun hq => am_has_mem h.2 q hq)
theorem am_has_lv {g : am_G} {ls : Array Slot} {nL : Nat} {lv l : am_L} (h : am_has lv l) (hl : lv_has ls nL (am_vl g lv)) : lv_has ls nL (am_vl g l) := by
  refine ⟨hl.1, hl.2.1, fun q hq => ?_⟩
  obtain ⟨q0, h0, rfl⟩ := List.mem_map.mp hq
  exact hl.2.2 _ (List.mem_map.mpr ⟨q0, am_has_mem h q0 h0, rfl⟩)
def am_rmv (i : Nat) : am_L → am_L
  | [] => []
  | q :: r => if q.1 = i then am_rmv i r else if q.1 + 1 = i ∧ q.2.category = 2 then am_rmv i r else q :: am_rmv i r
theorem am_filter_rmv (i : Nat) : ∀ lv : am_L, lv.filter (fun q => !(q.1 == i) && !(q.1 + 1 == i && q.2.category == 2)) = am_rmv i lv
  | [] => rfl
  | q :: r => by
    rw [List.filter_cons]
    simp only [am_rmv, am_filter_rmv i r]
    by_cases h1 : q.1 = i
    · simp [h1]
    · by_cases h2 : q.1 + 1 = i ∧ q.2.category = 2
      · simp [h1, h2]
      · have h3 : ¬ (q.1 + 1 = i ∧ q.2.category = 2) := h2
        simp only [h1, h2, if_false]
        have : (!(q.1 == i) && !(q.1 + 1 == i && q.2.category == 2)) = true := by
          simp only [Bool.and_eq_true, Bool.not_eq_true', beq_eq_false_iff_ne, ne_eq, Bool.and_eq_false_iff]
          refine ⟨h1, ?_⟩
          by_cases h4 : q.1 + 1 = i
          · exact Or.inr (fun h5 => h3 ⟨h4, h5⟩)
          · exact Or.inl h4
        rw [this]
        rfl
theorem am_st_eq (i : Nat) (v : Value) (lv : am_L) : am_st i v lv = (i, v) :: am_rmv i lv := by rw [am_st, am_filter_rmv]
theorem am_rm_eq (i : Nat) (lv : am_L) : am_rm i lv = am_rmv i lv := by rw [am_rm, am_filter_rmv]
theorem am_rmv_nil (i : Nat) : am_rmv i [] = [] := rfl
theorem am_rmv_t {i j : Nat} {v : Value} {r : am_L} (h : (j = i) = True) : am_rmv i ((j, v) :: r) = am_rmv i r := if_pos (of_eq_true h)
theorem am_rmv_f {i j : Nat} {v : Value} {r : am_L} (h : (j = i) = False) (h2 : (j + 1 = i) = False) : am_rmv i ((j, v) :: r) = (j, v) :: am_rmv i r := by
  show (if j = i then _ else _) = _
  rw [if_neg (of_eq_false h), if_neg (fun h0 => of_eq_false h2 h0.1)]
theorem am_rmv_i {i j : Nat} {v : Int32} {r : am_L} (h : (j = i) = False) : am_rmv i ((j, .int v) :: r) = (j, .int v) :: am_rmv i r := by
  show (if j = i then _ else _) = _
  rw [if_neg (of_eq_false h), if_neg (fun h0 => by have := h0.2; simp [Value.category] at this)]
theorem am_rmv_r {i j : Nat} {v : Nat} {r : am_L} (h : (j = i) = False) : am_rmv i ((j, .ref v) :: r) = (j, .ref v) :: am_rmv i r := by
  show (if j = i then _ else _) = _
  rw [if_neg (of_eq_false h), if_neg (fun h0 => by have := h0.2; simp [Value.category] at this)]
def am_rmv2 (i : Nat) (lv : am_L) : am_L := am_rmv i (am_rmv (i + 1) lv)
theorem am_has_of_eq {lv l : am_L} (h : ∀ q ∈ l, am_lk lv q.1 = some q.2) : am_has lv l := by
  induction l with
  | nil => trivial
  | cons q r ih => exact ⟨h q List.mem_cons_self, ih (fun q hq => h q (List.mem_cons_of_mem _ hq))⟩
section AMR2
variable {g : am_G} {ph : Nat} {mt : List am_MI} {df : Nat → List (Option (Option Nat))} {h mi MC MS : Nat} {P : Option Value → am_M → Prop} {av : List Value} {M : am_M}
/-- the rule with the locals in a fixed order at the cuts -/
theorem am_rule2 {q : am_MI} {B : Nat → List am_I} (hq : mt[mi]? = some q) (hh : q.2.2.2.2 = []) (hc : am_Code mt df q B) (hnt : am_noT B) (hav : (lg_sl av).length ≤ q.2.2.1) (J : Nat → am_Cut)
    (hJ : ∀ u pc l st M k n, J u pc l st M k n → ∃ r f, B pc = (pc, .nop, 0, 0, 0) :: r ∧ am_pc r = pc ∧ am_wp (am_env g mt ph h MC MS q.2.2.2.1 P (fun pc lv st M k n => ∃ w l, w < u ∧ am_has lv l ∧ J w pc l st M k n)) df B f r l st M k n)
    (h0 : ∃ f, am_wp (am_env g mt ph h MC MS q.2.2.2.1 P (fun pc lv st M k n => ∃ w l, am_has lv l ∧ J w pc l st M k n)) df B f (B 0) (lv_args 0 av) [] M 0 0) :
    am_Ctr g mt ph (h + 1) mi av M MC MS P := by
  refine ⟨q, hq, ?_⟩
  have hwd : am_wd q = Cond.code q.1 q.2.1 q.2.2.1 q.2.2.2.1 := by simp only [am_wd, hh]
  rw [hwd]
  refine Met.ofW (cc := q.2.1) (maxL := q.2.2.1) (ret := q.2.2.2.1) hc.1 rfl ?_
  intro p e s m args below meth c s₁ Bd hml hv
  obtain ⟨rfl, hE, hbs, hW⟩ := hv
  have hts := atoms_spec (ws := Cond.code q.1 q.2.1 q.2.2.1 q.2.2.2.1 :: am_T) Bd.pre
  have X : am_X p g s m (av.map (am_v g)).toArray meth c q.1.cls q.2.1 q.2.2.1 := ⟨Bd.exec, Bd.bytes, hml, findClass_of_methodNamed Bd.named, fun w hw => hts w (List.mem_cons_of_mem _ hw), hE, hbs, Bd.notSynchronized⟩
  have hin : q.1.name = "<init>" → meth.name = "<init>" := fun h9 => ((name_of_methodNamed Bd.named Bd.method).1).trans h9
  have env : ∀ C : am_Cut, (∀ pc lv st M k n, C pc lv st M k n → am_S p g e (am_R (h + 1) MC MS) s m (av.map (am_v g)).toArray below meth c (MQ below (am_Q g ph P) (av.map (am_v g)).toArray s MC MS (am_A g)) ph q.2.2.1 pc lv st M k n) →
      am_HE p g e (am_R (h + 1) MC MS) s m (av.map (am_v g)).toArray below meth c (MQ below (am_Q g ph P) (av.map (am_v g)).toArray s MC MS (am_A g)) q.2.2.1 h q.2.1 mt (am_env g mt ph h MC MS q.2.2.2.1 P C) := by
    intro C hC
    refine ⟨hC, fun pc lv r M k n hr hd => am_ret X Bd.returns hr hd, fun _ _ _ _ _ _ _ _ h9 => h9.elim, fun _ _ _ _ _ _ _ _ h9 => (by cases h9), fun _ _ _ _ _ _ h9 => h9, fun _ _ _ _ _ _ _ h9 => h9.elim, ⟨rfl, rfl, ?_, ?_⟩, fun _ h9 => (by cases h9)⟩
    · show h + 7 ≤ h + 1 + 6; omega
    · exact Nat.le_refl _
  have hT : ∀ (E : am_Env) (t : Nat), ∀ x ∈ B t, am_HT p g e (am_R (h + 1) MC MS) s m (av.map (am_v g)).toArray below meth c (MQ below (am_Q g ph P) (av.map (am_v g)).toArray s MC MS (am_A g)) q.2.2.1 E x := fun E t x hx i hi hne => absurd (hnt t x hx i hi) hne
  have cuts : ∀ u pc lv st M k n, J u pc lv st M k n → am_S p g e (am_R (h + 1) MC MS) s m (av.map (am_v g)).toArray below meth c (MQ below (am_Q g ph P) (av.map (am_v g)).toArray s MC MS (am_A g)) ph q.2.2.1 pc lv st M k n := by
    intro u
    induction u using Nat.strongRecOn with
    | _ u ih =>
      intro pc lv st M k n hj
      obtain ⟨r, f, hb, hpc, hw⟩ := hJ u pc lv st M k n hj
      have hs := am_sound X (env (fun pc lv st M k n => ∃ w l, w < u ∧ am_has lv l ∧ J w pc l st M k n) (fun pc lv st M k n ⟨w, l, hwu, hhl, hjw⟩ => fun ls H locs hl => ih w hwu pc l st M k n hjw ls H locs (am_has_lv hhl hl))) hin B (fun t => ⟨(hc.2 t).1, (hc.2 t).2, hT _ t⟩) f r (by have := (hc.2 pc).1; rw [hb] at this; exact this.2) (fun x hx => hT _ pc x (by rw [hb]; exact List.mem_cons_of_mem _ hx)) lv st M k n hw
      rw [hpc] at hs
      exact hs
  obtain ⟨f, hw⟩ := h0
  have hs := am_sound X (env (fun pc lv st M k n => ∃ w l, am_has lv l ∧ J w pc l st M k n) (fun pc lv st M k n ⟨w, l, hhl, hjw⟩ => fun ls H locs hl => cuts w pc l st M k n hjw ls H locs (am_has_lv hhl hl))) hin B (fun t => ⟨(hc.2 t).1, (hc.2 t).2, hT _ t⟩) f (B 0) (hc.2 0).1 (hT _ 0) _ _ _ _ _ hw
  have hne : B 0 ≠ [] := fun h9 => by
    rw [h9] at hw
    cases f <;> exact hw.elim
  rw [(hc.2 0).2 hne] at hs
  rw [lg_entry_eq]
  refine hs _ s.heap [] ?_ hW va_S.rf
  have hle := lv_entry (av.map (am_v g)) (n := q.2.2.1) (by rw [am_sl_len]; exact hav)
  rw [am_args_vl] at hle
  exact hle
/-- the rule for a method without cuts -/
theorem am_rule0 {q : am_MI} {B : Nat → List am_I} (f : Nat) (hq : mt[mi]? = some q) (hh : q.2.2.2.2 = []) (hc : am_Code mt df q B) (hnt : am_noT B) (hav : (lg_sl av).length ≤ q.2.2.1)
    (h0 : am_wp (am_env g mt ph h MC MS q.2.2.2.1 P (fun _ _ _ _ _ _ => False)) df B f (B 0) (lv_args 0 av) [] M 0 0) : am_Ctr g mt ph (h + 1) mi av M MC MS P :=
  am_rule2 hq hh hc hnt hav (fun _ _ _ _ _ _ _ => False) (fun _ _ _ _ _ _ _ h => h.elim) ⟨f, by
    have e : (fun (pc : Nat) (lv : am_L) (st : List Value) (M : am_M) (k n : Nat) => ∃ (_ : Nat) (l : am_L), am_has lv l ∧ False) = fun _ _ _ _ _ _ => False := by
      funext pc lv st M k n
      exact eq_false (fun ⟨_, _, _, h⟩ => h)
    rw [e]
    exact h0⟩
end AMR2
