/-! the law's calls of the class: they catch -/
def am_hd (hh : List (Nat × Nat × Nat × Nat)) (cx : Nat → Nat) (ks : Nat → Nat × Nat) (pc x : Nat) : Option (Nat × Nat) := (hh.find? (fun z => decide (z.1 ≤ pc) && decide (pc < z.2.1) && decide (cx z.2.2.2 = x))).map (fun z => ks z.2.2.1)
def am_envH (g : am_G) (mt : List am_MI) (h MC MS : Nat) (ret : Option FieldType) (P : Option Value → am_M → Prop) (hd : Nat → Nat → Option (Nat × Nat)) : am_Env :=
  (fun _ _ _ _ _ _ => False, fun r M c s => am_rok ret r ∧ c ≤ MC ∧ s ≤ MS ∧ P r M, fun _ _ _ _ => False, am_Ctr g mt 1 h, am_CtrX g mt 1 h, 1, (MC, MS), none, hd)
/-- a handler: its class by number, the local that takes what was thrown, the place behind -/
def am_hok (own : String) (cc : ByteArray) (nL : Nat) (cx : Nat → Nat) (ks : Nat → Nat × Nat) (z : Nat × Nat × Nat × Nat) : Prop :=
  z.2.2.2 ≠ 0 ∧ cx z.2.2.2 < 3 ∧ Cond.classLink own z.2.2.2 (am_xn (cx z.2.2.2)) ∈ am_T ∧ Cond.castable (am_xn (cx z.2.2.2)) (am_xn (cx z.2.2.2)) ∈ am_N ∧ (ks z.2.2.1).1 < nL ∧
  ((∃ k : Fin 4, decode cc z.2.2.1 = .ok (.astore_n k, 1) ∧ (k : Nat) = (ks z.2.2.1).1 ∧ (ks z.2.2.1).2 = z.2.2.1 + 1) ∨ (decode cc z.2.2.1 = .ok (.astore (ks z.2.2.1).1, 2) ∧ (ks z.2.2.1).2 = z.2.2.1 + 2))
theorem am_find_split {α : Type} (f : α → Bool) : ∀ (l : List α) (z : α), l.find? f = some z → ∃ pre suf, l = pre ++ z :: suf ∧ f z = true ∧ ∀ y ∈ pre, f y = false
  | [], z, h => by cases h
  | a :: r, z, h => by
    rw [List.find?_cons] at h
    cases hf : f a with
    | true =>
      rw [hf] at h
      cases h
      exact ⟨[], r, rfl, hf, fun y hy => by cases hy⟩
    | false =>
      rw [hf] at h
      obtain ⟨pre, suf, h1, h2, h3⟩ := am_find_split f r z h
      refine ⟨a :: pre, suf, by rw [h1]; rfl, h2, fun y hy => ?_⟩
      rcases List.mem_cons.mp hy with rfl | hy
      · exact hf
      · exact h3 y hy
section AMHD
variable {g : am_G} {h mi MC MS : Nat} {mt : List am_MI} {df : Nat → List (Option (Option Nat))} {P : Option Value → am_M → Prop} {av : List Value} {M : am_M}
theorem am_ruleH {q : am_MI} {B : Nat → List am_I} (f : Nat) (cx : Nat → Nat) (ks : Nat → Nat × Nat) (hq : mt[mi]? = some q) (hne : q.2.2.2.2 ≠ []) (hc : am_Code mt df q B) (hnt : am_noT B) (hav : (lg_sl av).length ≤ q.2.2.1) (hz : ∀ z ∈ q.2.2.2.2, am_hok q.1.cls q.2.1 q.2.2.1 cx ks z) (hx3 : ∀ pc x, am_hd q.2.2.2.2 cx ks pc x ≠ none → x < 3)
    (h0 : am_wp (am_envH g mt h MC MS q.2.2.2.1 P (am_hd q.2.2.2.2 cx ks)) df B f (B 0) (lv_args 0 av) [] M 0 0) : am_Ctr g mt 1 (h + 1) mi av M MC MS P := by
  refine ⟨q, hq, ?_⟩
  have hwd : am_wd q = Cond.codeWith q.1 q.2.1 q.2.2.1 q.2.2.2.1 q.2.2.2.2 := by
    unfold am_wd
    split
    · rename_i h9; exact absurd h9 hne
    · rfl
  rw [hwd]
  refine va_MetW (cc := q.2.1) (maxL := q.2.2.1) (ret := q.2.2.2.1) (hh := q.2.2.2.2) hc.1 rfl ?_
  intro p e s m args below meth c s₁ Bd hml hv
  obtain ⟨rfl, hE, hbs, hW⟩ := hv
  have hts := atoms_spec (ws := Cond.codeWith q.1 q.2.1 q.2.2.1 q.2.2.2.1 q.2.2.2.2 :: am_T) Bd.pre
  have htab := vx_table (x := q.1) Bd (hts _ List.mem_cons_self)
  have X : am_X p g s m (av.map (am_v g)).toArray meth c q.1.cls q.2.1 q.2.2.1 := ⟨Bd.exec, Bd.bytes, hml, findClass_of_methodNamed Bd.named, fun w hw => hts w (List.mem_cons_of_mem _ hw), hE, hbs, Bd.notSynchronized⟩
  have hin : q.1.name = "<init>" → meth.name = "<init>" := fun h9 => ((name_of_methodNamed Bd.named Bd.method).1).trans h9
  have env : am_HE p g e (am_R (h + 1) MC MS) s m (av.map (am_v g)).toArray below meth c (MQ below (am_Q g 1 P) (av.map (am_v g)).toArray s MC MS (am_A g)) q.2.2.1 h q.2.1 mt (am_envH g mt h MC MS q.2.2.2.1 P (am_hd q.2.2.2.2 cx ks)) := by
    refine ⟨fun _ _ _ _ _ _ h9 => h9.elim, fun pc lv r M k n hr hd => am_ret X Bd.returns hr hd, fun _ _ _ _ _ _ _ _ h9 => h9.elim, fun pc lv rest x qh M k n hqh hk => ?_, fun _ _ _ _ _ _ h9 => h9, fun _ _ _ _ _ _ _ h9 => h9, ⟨rfl, rfl, ?_, ?_⟩, fun _ h9 => (by cases h9)⟩
    · intro ls H locs qa ce hl hW hS hce hcv hcl
      have hqh : am_hd q.2.2.2.2 cx ks pc x = some qh := hqh
      have hx9 : x < 3 := hx3 pc x (by rw [hqh]; exact fun h9 => by cases h9)
      obtain ⟨z, hfz, hzq⟩ := Option.map_eq_some_iff.mp hqh
      obtain ⟨pre, suf, hsp, hfz, hpre⟩ := am_find_split _ _ _ hfz
      simp only [Bool.and_eq_true, decide_eq_true_eq] at hfz
      obtain ⟨⟨z1, z2⟩, z3⟩ := hfz
      obtain ⟨o1, o2, o3, o4, o5, o6⟩ := hz z (by rw [hsp]; exact List.mem_append_right _ List.mem_cons_self)
      obtain ⟨hx, hb, hml9, hown, htsT, hE9, hbs9, hlk⟩ := X
      have hNe := hE9.2.2.2.2.2.2.2.1
      have hNc := hE9.2.2.2.2.2.2.2.2.2
      refine vx_catch (E := am_xn x) (name := am_xn (cx z.2.2.2)) hown (pre.map fun y => ⟨y.1, y.2.1, y.2.2.1, y.2.2.2⟩) ⟨z.1, z.2.1, z.2.2.1, z.2.2.2⟩ (suf.map fun y => ⟨y.1, y.2.1, y.2.2.1, y.2.2.2⟩) (by rw [htab, hsp]; simp [tableOf]) ?_ ?_ o1 (htsT _ o3) ?_ hce hcv hcl ?_
      · intro y hy
        obtain ⟨y0, hy0, rfl⟩ := List.mem_map.mp hy
        have hf0 := hpre y0 hy0
        obtain ⟨p1, p2, p3, p4, p5, p6⟩ := hz y0 (by rw [hsp]; exact List.mem_append_left _ hy0)
        by_cases hcv0 : covers ⟨y0.1, y0.2.1, y0.2.2.1, y0.2.2.2⟩ pc = true
        · refine Or.inr ⟨p1, am_xn (cx y0.2.2.2), htsT _ p3, hNc x (cx y0.2.2.2) hx9 p2 (fun h9 => ?_)⟩
          simp only [covers, Bool.and_eq_true, decide_eq_true_eq] at hcv0
          simp only [hcv0.1, hcv0.2, h9] at hf0
          simp at hf0
        · exact Or.inl (by simpa using hcv0)
      · simp [covers, z1, z2]
      · rw [z3]
        rw [z3] at o4
        exact va_Nw.use rfl (hNe _ o4)
      · rw [← hzq] at hk
        have fin : ∀ ls' : Array Slot, lv_has ls' q.2.2.1 (((ks z.2.2.1).1, Value.ref qa) :: (am_vl g lv).filter (fun y => !(y.1 == (ks z.2.2.1).1) && !(y.1 + 1 == (ks z.2.2.1).1 && y.2.category == 2))) → W p g.1 e (am_R (h + 1) MC MS) s m (av.map (am_v g)).toArray below meth c H locs k n (MQ below (am_Q g 1 P) (av.map (am_v g)).toArray s MC MS (am_A g)) (F0 m (ks z.2.2.1).2 ls' []) := by
          intro ls' hl'
          refine hk ls' H locs ⟨hl'.1, hl'.2.1, fun y hy => hl'.2.2 y (List.mem_cons_of_mem _ ?_)⟩ hW hS
          rw [am_rm_vl]
          exact hy
        rcases o6 with ⟨kf, d1, d2, d3⟩ | ⟨d1, d3⟩
        · rw [d3] at fin
          rw [← d2] at fin
          exact lv_astore_n hx hb d1 rfl hl (by rw [d2]; exact o5) rfl (fun ls' hl' => fin ls' hl')
        · rw [d3] at fin
          exact lv_astore hx hb d1 hl o5 rfl (fun ls' hl' => fin ls' hl')
    · show h + 7 ≤ h + 1 + 6; omega
    · exact Nat.le_refl _
  have hT : ∀ (E : am_Env) (t : Nat), ∀ x ∈ B t, am_HT p g e (am_R (h + 1) MC MS) s m (av.map (am_v g)).toArray below meth c (MQ below (am_Q g 1 P) (av.map (am_v g)).toArray s MC MS (am_A g)) q.2.2.1 E x := fun E t x hx i hi hne => absurd (hnt t x hx i hi) hne
  have hs := am_sound X env hin B (fun t => ⟨(hc.2 t).1, (hc.2 t).2, hT _ t⟩) f (B 0) (hc.2 0).1 (hT _ 0) _ _ _ _ _ h0
  have hne : B 0 ≠ [] := fun h9 => by
    rw [h9] at h0
    cases f <;> exact h0.elim
  rw [(hc.2 0).2 hne] at hs
  rw [lg_entry_eq]
  refine hs _ s.heap [] ?_ hW va_S.rf
  have hle := lv_entry (av.map (am_v g)) (n := q.2.2.1) (by rw [am_sl_len]; exact hav)
  rw [am_args_vl] at hle
  exact hle
end AMHD
