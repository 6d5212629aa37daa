/-- an answer is as the method's type says -/
def am_rok (ret : Option FieldType) (r : Option Value) : Prop := match ret, r with
  | some .int, some (.int _) => True
  | some .boolean, some (.int v) => v = 0 ∨ v = 1
  | some .long, some (.long _) => True
  | some (.object _), some (.ref _) => True
  | none, none => True
  | _, _ => False
/-- what a method's stretches lean on -/
def am_env (g : am_G) (mt : List am_MI) (ph h MC MS : Nat) (ret : Option FieldType) (P : Option Value → am_M → Prop) (C : am_Cut) : am_Env :=
  (C, fun r M c s => am_rok ret r ∧ c ≤ MC ∧ s ≤ MS ∧ P r M, fun _ _ _ _ => False, am_Ctr g mt ph h, fun _ _ _ _ _ _ _ => False, ph, (MC, MS), none, fun _ _ => none)
theorem am_args_vl (g : am_G) : ∀ (av : List Value) (i : Nat), lv_args i (av.map (am_v g)) = am_vl g (lv_args i av)
  | [], _ => rfl
  | v :: r, i => by
    simp only [List.map_cons, lv_args, am_v_cat, am_vl]
    rw [am_args_vl g r]
    rfl
theorem am_sl_len (g : am_G) (av : List Value) : (lg_sl (av.map (am_v g))).length = (lg_sl av).length := by
  induction av with
  | nil => rfl
  | cons v r ih =>
    simp only [lg_sl, List.map_cons, List.flatMap_cons, List.length_append, am_v_cat] at ih ⊢
    rw [ih]
    split <;> rfl
section AMR
variable {p : Program} {g : am_G} {e : Env} {R : Room} {s : State} {m : MethodId} {args : Array Value} {below : List Frame} {meth : Method} {c : Code} {ph nL : Nat} {cc : ByteArray} {own : String} {mt : List am_MI} {df : Nat → List (Option (Option Nat))} {h mi MC MS : Nat} {P : Option Value → am_M → Prop} {av : List Value} {M : am_M}
/-- the ends of a method -/
theorem am_ret (X : am_X p g s m args meth c own cc nL) {ret : Option FieldType} (hr : meth.sig.returnType = ret) {pc : Nat} {lv : am_L} {r : Option Value} {M : am_M} {k n : Nat} (hok : am_rok ret r ∧ k ≤ MC ∧ n ≤ MS ∧ P r M)
    (hd : (∃ v, r = some (.int v) ∧ decode cc pc = .ok (.ireturn, 1)) ∨ (∃ v, r = some (.long v) ∧ decode cc pc = .ok (.lreturn, 1)) ∨ (∃ v, r = some (.ref v) ∧ decode cc pc = .ok (.areturn, 1)) ∨ (r = none ∧ decode cc pc = .ok (.return_, 1))) :
    am_S p g e R s m args below meth c (MQ below (am_Q g ph P) args s MC MS (am_A g)) ph nL pc lv r.toList M k n := by
  intro ls H locs hl hW hS
  obtain ⟨hx, hb, hml, hown, hts, hE, hbs, hlk⟩ := X
  obtain ⟨h1, h2, h3, h4⟩ := hok
  refine W.widen h2 h3 ?_
  have hq : ∀ t : State, t.heap = H → s.WarmedH t.vm → am_Q g ph P args s (.returned (r.map (am_v g))) t := fun t ht _ => ⟨⟨r, M, rfl, h4, by rw [ht]; exact hW⟩, hS.F ht⟩
  rcases hd with ⟨v, rfl, hd⟩ | ⟨v, rfl, hd⟩ | ⟨v, rfl, hd⟩ | ⟨rfl, hd⟩
  · unfold am_rok at h1
    split at h1
    · rename_i v' hrr hv
      exact W.iret hx hb hr hq hS.2.2 hd hlk
    · rename_i v' hrr hv
      cases hv
      refine W.zret hx hb hr ?_ hq hS.2.2 hd hlk
      rcases h1 with rfl | rfl <;> rfl
    · rename_i hv; cases hv
    · rename_i hv; cases hv
    · rename_i hv; cases hv
    · exact h1.elim
  · unfold am_rok at h1
    split at h1
    · rename_i hv; cases hv
    · rename_i hv; cases hv
    · exact W.lret hx hb hr hq hS.2.2 hd hlk
    · rename_i hv; cases hv
    · rename_i hv; cases hv
    · exact h1.elim
  · unfold am_rok at h1
    split at h1
    · rename_i hv; cases hv
    · rename_i hv; cases hv
    · rename_i hv; cases hv
    · exact W.aret hx hb hr (Or.inl ⟨_, rfl⟩) (Or.inr ⟨_, rfl⟩) hq hS.2.2 hd hlk
    · rename_i hv; cases hv
    · exact h1.elim
  · unfold am_rok at h1
    split at h1
    · rename_i hv; cases hv
    · rename_i hv; cases hv
    · rename_i hv; cases hv
    · rename_i hv; cases hv
    · exact W.vret hx hb hr hq hS.2.2 hd hlk
    · exact h1.elim
/-- a method of the class: its blocks are as they are told, and throw nothing of their own -/
def am_Code (mt : List am_MI) (df : Nat → List (Option (Option Nat))) (q : am_MI) (B : Nat → List am_I) : Prop :=
  plainName q.1.cls = true ∧ (∀ t, am_okP q.1.cls q.2.1 q.2.2.1 mt df (q.1.name = "<init>") (B t) ∧ (B t ≠ [] → am_pc (B t) = t))
def am_noT (B : Nat → List am_I) : Prop := ∀ t, ∀ x ∈ B t, ∀ i, x.2.1 = .new i → x.2.2.2.1 = 0
/-- THE RULE: invariants at the cuts, with a number that falls, make a contract -/
theorem am_rule {q : am_MI} {B : Nat → List am_I} (hq : mt[mi]? = some q) (hh : q.2.2.2.2 = []) (hc : am_Code mt df q B) (hnt : am_noT B) (hav : (lg_sl av).length ≤ q.2.2.1) (J : Nat → am_Cut)
    (hJ : ∀ u pc lv st M k n, J u pc lv st M k n → ∃ r f, B pc = (pc, .nop, 0, 0, 0) :: r ∧ am_pc r = pc ∧ am_wp (am_env g mt ph h MC MS q.2.2.2.1 P (fun pc lv st M k n => ∃ w, w < u ∧ J w pc lv st M k n)) df B f r lv st M k n)
    (h0 : ∃ f, am_wp (am_env g mt ph h MC MS q.2.2.2.1 P (fun pc lv st M k n => ∃ w, J w pc lv st M k n)) df B f (B 0) (lv_args 0 av) [] M 0 0) :
    am_Ctr g mt ph (h + 1) mi av M MC MS P := by
  refine ⟨q, hq, ?_⟩
  have hwd : am_wd q = Cond.code q.1 q.2.1 q.2.2.1 q.2.2.2.1 := by simp only [am_wd, hh]
  rw [hwd]
  refine Met.ofW (cc := q.2.1) (maxL := q.2.2.1) (ret := q.2.2.2.1) hc.1 rfl ?_
  intro p e s m args below meth c s₁ Bd hml hv
  obtain ⟨rfl, hE, hbs, hW⟩ := hv
  have hts := atoms_spec (ws := Cond.code q.1 q.2.1 q.2.2.1 q.2.2.2.1 :: am_T) Bd.pre
  have X : am_X p g s m (av.map (am_v g)).toArray meth c q.1.cls q.2.1 q.2.2.1 := ⟨Bd.exec, Bd.bytes, hml, findClass_of_methodNamed Bd.named, fun w hw => hts w (List.mem_cons_of_mem _ hw), hE, hbs, Bd.notSynchronized⟩
  have hin : q.1.name = "<init>" → meth.name = "<init>" := fun h9 => ((name_of_methodNamed Bd.named Bd.method).1).trans h9
  have env : ∀ C : am_Cut, (∀ pc lv st M k n, C pc lv st M k n → am_S p g e (am_R (h + 1) MC MS) s m (av.map (am_v g)).toArray below meth c (MQ below (am_Q g ph P) (av.map (am_v g)).toArray s MC MS (am_A g)) ph q.2.2.1 pc lv st M k n) →
      am_HE p g e (am_R (h + 1) MC MS) s m (av.map (am_v g)).toArray below meth c (MQ below (am_Q g ph P) (av.map (am_v g)).toArray s MC MS (am_A g)) q.2.2.1 h q.2.1 mt (am_env g mt ph h MC MS q.2.2.2.1 P C) := by
    intro C hC
    refine ⟨hC, fun pc lv r M k n hr hd => am_ret X Bd.returns hr hd, fun _ _ _ _ _ _ _ _ h9 => h9.elim, fun _ _ _ _ _ _ _ _ h9 => (by cases h9), fun _ _ _ _ _ _ h9 => h9, fun _ _ _ _ _ _ _ h9 => h9.elim, ⟨rfl, rfl, ?_, ?_⟩, fun _ h9 => (by cases h9)⟩
    · show h + 7 ≤ h + 1 + 6; omega
    · exact Nat.le_refl _
  have hT : ∀ (E : am_Env) (t : Nat), ∀ x ∈ B t, am_HT p g e (am_R (h + 1) MC MS) s m (av.map (am_v g)).toArray below meth c (MQ below (am_Q g ph P) (av.map (am_v g)).toArray s MC MS (am_A g)) q.2.2.1 E x := fun E t x hx i hi hne => absurd (hnt t x hx i hi) hne
  have cuts : ∀ u pc lv st M k n, J u pc lv st M k n → am_S p g e (am_R (h + 1) MC MS) s m (av.map (am_v g)).toArray below meth c (MQ below (am_Q g ph P) (av.map (am_v g)).toArray s MC MS (am_A g)) ph q.2.2.1 pc lv st M k n := by
    intro u
    induction u using Nat.strongRecOn with
    | _ u ih =>
      intro pc lv st M k n hj
      obtain ⟨r, f, hb, hpc, hw⟩ := hJ u pc lv st M k n hj
      have hs := am_sound X (env (fun pc lv st M k n => ∃ w, w < u ∧ J w pc lv st M k n) (fun pc lv st M k n ⟨w, hwu, hjw⟩ => ih w hwu pc lv st M k n hjw)) hin B (fun t => ⟨(hc.2 t).1, (hc.2 t).2, hT _ t⟩) f r (by have := (hc.2 pc).1; rw [hb] at this; exact this.2) (fun x hx => hT _ pc x (by rw [hb]; exact List.mem_cons_of_mem _ hx)) lv st M k n hw
      rw [hpc] at hs
      exact hs
  obtain ⟨f, hw⟩ := h0
  have hs := am_sound X (env (fun pc lv st M k n => ∃ w, J w pc lv st M k n) (fun pc lv st M k n ⟨w, hjw⟩ => cuts w pc lv st M k n hjw)) hin B (fun t => ⟨(hc.2 t).1, (hc.2 t).2, hT _ t⟩) f (B 0) (hc.2 0).1 (hT _ 0) _ _ _ _ _ hw
  have hne : B 0 ≠ [] := fun h9 => by
    rw [h9] at hw
    cases f <;> exact hw.elim
  rw [(hc.2 0).2 hne] at hs
  rw [lg_entry_eq]
  refine hs _ s.heap [] ?_ hW va_S.rf
  have hle := lv_entry (av.map (am_v g)) (n := q.2.2.1) (by rw [am_sl_len]; exact hav)
  rw [am_args_vl] at hle
  exact hle
end AMR
