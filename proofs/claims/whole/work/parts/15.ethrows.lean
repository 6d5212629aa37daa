/-! methods that throw -/
def am_xs : List String := ["java/lang/RuntimeException", "java/lang/Exception"]
/-- what a method that throws leans on -/
def am_envX (g : am_G) (mt : List am_MI) (ph h MC MS : Nat) (ret : Option FieldType) (P : Option Value → am_M → Prop) (Xp : Nat → am_M → Prop) (C : am_Cut) : am_Env :=
  (C, fun r M c s => am_rok ret r ∧ c ≤ MC ∧ s ≤ MS ∧ P r M, fun x M c s => c ≤ MC ∧ s ≤ MS ∧ Xp x M, am_Ctr g mt ph h, am_CtrX g mt ph h, ph, (MC, MS), none, fun _ _ => none)
/-- a place where the method itself throws -/
def am_thr (own : String) (cc : ByteArray) (x : am_I) : Prop := ∀ ik, x.2.1 = .new ik → x.2.2.2.1 ≠ 0 → ∃ (is ic : Nat) (text : String), am_strs[x.2.2.2.2]? = some (own, is, text) ∧ decode cc x.1 = .ok (.new ik, 3) ∧ decode cc (x.1 + 3) = .ok (.dup, 1) ∧
  ((decode cc (x.1 + 4) = .ok (.ldc is, 2) ∧ decode cc (x.1 + 6) = .ok (.invokespecial ic, 3) ∧ decode cc (x.1 + 9) = .ok (.athrow, 1)) ∨ (decode cc (x.1 + 4) = .ok (.ldc_w is, 3) ∧ decode cc (x.1 + 7) = .ok (.invokespecial ic, 3) ∧ decode cc (x.1 + 10) = .ok (.athrow, 1))) ∧
  Bundle.fit (am_xn x.2.2.1) = true ∧ Cond.classLink own ik (am_xn x.2.2.1) ∈ am_T ∧ Cond.initialized (am_xn x.2.2.1) ∈ am_T ∧ ∀ w ∈ vx_atS own ic (am_xn x.2.2.1) am_xs, w ∈ am_T ∨ w ∈ am_N
theorem am_ot {w : Cond} (h : w ∈ am_T ∨ w ∈ am_N) : vx_ot w = true := by
  rcases h with h | h
  · simp [vx_ot, (List.mem_filter.mp h).2]
  · have h1 := (List.mem_filter.mp h).2
    cases w <;> first | rfl | (simp [am_nst] at h1)
theorem am_onT {w : Cond} (h : w ∈ am_N) : w.onTables = true := by
  have h1 := (List.mem_filter.mp h).2
  cases w <;> first | rfl | (simp [am_nst] at h1)
section AMTH
variable {p : Program} {g : am_G} {e : Env} {R : Room} {s : State} {m : MethodId} {args : Array Value} {below : List Frame} {meth : Method} {c : Code} {nL h mi MC MS : Nat} {cc : ByteArray} {own : String} {mt : List am_MI} {df : Nat → List (Option (Option Nat))} {P : Option Value → am_M → Prop} {Xp : Nat → am_M → Prop} {av : List Value} {M : am_M}
theorem am_grow {M : am_M} {H H1 : Heap} (hW : am_W g 1 M H) (hz : H.size ≤ H1.size) (hk : ∀ q : Nat, q < H.size → H1[q]? = H[q]?) : am_W g 1 M H1 :=
  ⟨hW.1.kept (fun k q hq => hk q.1 ((hW.1 k q hq).lt)), Nat.le_trans hW.2.1 hz, fun h0 => (by cases h0), hW.2.2.2⟩
theorem am_s_throw (X : am_X p g s m args meth c own cc nL) (hno : ∀ x ∈ c.exceptionTable.toList, False) {x : am_I} (hth : am_thr own cc x) {i : Nat} (hi : x.2.1 = .new i) (h0 : x.2.2.2.1 ≠ 0) {lv : am_L} {st : List Value} {M : am_M} {k n : Nat} (hst : am_sum st ≤ 8) (hRc : k + 1 ≤ R.cells) (hRs : n + 6 ≤ R.slots) (hfr : 6 ≤ R.frames) (hlo : 480 ≤ R.locals) (hmc : k + 1 ≤ MC) (hms : n + 6 ≤ MS) (hX : Xp x.2.2.1 M) :
    am_S p g e R s m args below meth c (vx_MQ below (am_Q g 1 P) (am_XC g 1 am_xn Xp) args s MC MS (am_A g)) 1 nL x.1 lv st M k n := by
  intro ls H locs hl hW hS
  obtain ⟨hx, hb, hml, hown, hts, hE, hbs, hlk⟩ := X
  obtain ⟨is, ic, text, hs1, d0, d3, hd, hfit, hk1, hi1, hat⟩ := hth i hi h0
  obtain ⟨hK, hR9, hVS, hZ, hZq, hU, hN, hNe, htr, hNc⟩ := hE
  have hat' : ∀ w ∈ vx_atS own ic (am_xn x.2.2.1) am_xs, w.before args s = true := fun w hw => (hat w hw).elim (fun h9 => hts w h9) (fun h9 => va_Nw.use (am_onT h9) (hNe w h9))
  have hgd : ∀ w ∈ Cond.classLink own i (am_xn x.2.2.1) :: Cond.initialized (am_xn x.2.2.1) :: vx_atS own ic (am_xn x.2.2.1) am_xs, vx_ot w = true := by
    intro w hw
    rcases List.mem_cons.mp hw with rfl | hw
    · exact am_ot (Or.inl hk1)
    · rcases List.mem_cons.mp hw with rfl | hw
      · exact am_ot (Or.inl hi1)
      · exact am_ot (hat w hw)
  have hnm : ∀ z ∈ am_xs, Bundle.fit z = true := by decide +kernel
  have h8 : ((st.map (am_v g)).map fun v => v.category).sum ≤ 8 := by
    have := am_sum_v g st
    unfold am_sum at this hst
    omega
  have hxc : ∀ t : State, s.vm.Alike t.vm → H.size ≤ t.heap.size → (∀ q : Nat, q < H.size → t.heap[q]? = H[q]?) → am_XC g 1 am_xn Xp (am_xn x.2.2.1) s t := by
    intro t _ hz hk
    refine ⟨⟨x.2.2.1, M, rfl, hX, am_grow hW hz hk⟩, Nat.le_trans hS.1 hz, fun q h1 h2 => ?_⟩
    rw [hk q (Nat.lt_of_lt_of_le h1 hS.1)]
    exact hS.2.1 q h1 h2
  have hlen : am_xs.length = 2 := rfl
  rcases hd with ⟨d4, d6, d9⟩ | ⟨d4, d7, d10⟩
  · exact vx_throwS (names := am_xs) hx hb htr hown hfit hnm (hts _ hk1) (hts _ hi1) (hR9 _ _ hs1) hat' hgd hU hN hS (by rw [hml]; exact hl.1) d0 d3 d4 d6 d9 (fun z hz => (hno z hz).elim) (by rw [hlen]; omega) (by rw [hlen]; omega) hRc hRs hlk hxc hS.2.2 hmc hms
  · exact vx_throwSW (names := am_xs) hx hb htr hown hfit hnm (hts _ hk1) (hts _ hi1) (hR9 _ _ hs1) hat' hgd hU hN hS (by rw [hml]; exact hl.1) d0 d3 d4 d7 d10 (fun z hz => (hno z hz).elim) (by rw [hlen]; omega) (by rw [hlen]; omega) hRc hRs hlk hxc hS.2.2 hmc hms
/-- THE RULE for a method that returns or throws -/
theorem am_ruleX {q : am_MI} {B : Nat → List am_I} (hq : mt[mi]? = some q) (hh : q.2.2.2.2 = []) (hc : am_Code mt df q B) (hth : ∀ t, ∀ x ∈ B t, am_thr q.1.cls q.2.1 x) (hav : (lg_sl av).length ≤ q.2.2.1) (J : Nat → am_Cut)
    (hJ : ∀ u pc l st M k n, J u pc l st M k n → ∃ r f, B pc = (pc, .nop, 0, 0, 0) :: r ∧ am_pc r = pc ∧ am_wp (am_envX g mt 1 h MC MS q.2.2.2.1 P Xp (fun pc lv st M k n => ∃ w l, w < u ∧ am_has lv l ∧ J w pc l st M k n)) df B f r l st M k n)
    (h0 : ∃ f, am_wp (am_envX g mt 1 h MC MS q.2.2.2.1 P Xp (fun pc lv st M k n => ∃ w l, am_has lv l ∧ J w pc l st M k n)) df B f (B 0) (lv_args 0 av) [] M 0 0) :
    am_CtrX g mt 1 (h + 1) mi av M MC MS P Xp := by
  refine ⟨q, hq, ?_⟩
  have hwd : am_wd q = Cond.code q.1 q.2.1 q.2.2.1 q.2.2.2.1 := by simp only [am_wd, hh]
  rw [hwd]
  refine vx_ofW (cc := q.2.1) (maxL := q.2.2.1) (ret := q.2.2.2.1) hc.1 rfl ?_
  intro p e s m args below meth c s₁ Bd hml hno hv
  obtain ⟨rfl, hE, hbs, hW⟩ := hv
  have hts := atoms_spec (ws := Cond.code q.1 q.2.1 q.2.2.1 q.2.2.2.1 :: am_T) Bd.pre
  have X : am_X p g s m (av.map (am_v g)).toArray meth c q.1.cls q.2.1 q.2.2.1 := ⟨Bd.exec, Bd.bytes, hml, findClass_of_methodNamed Bd.named, fun w hw => hts w (List.mem_cons_of_mem _ hw), hE, hbs, Bd.notSynchronized⟩
  have hin : q.1.name = "<init>" → meth.name = "<init>" := fun h9 => ((name_of_methodNamed Bd.named Bd.method).1).trans h9
  have env : ∀ C : am_Cut, (∀ pc lv st M k n, C pc lv st M k n → am_S p g e (am_R (h + 1) MC MS) s m (av.map (am_v g)).toArray below meth c (vx_MQ below (am_Q g 1 P) (am_XC g 1 am_xn Xp) (av.map (am_v g)).toArray s MC MS (am_A g)) 1 q.2.2.1 pc lv st M k n) →
      am_HE p g e (am_R (h + 1) MC MS) s m (av.map (am_v g)).toArray below meth c (vx_MQ below (am_Q g 1 P) (am_XC g 1 am_xn Xp) (av.map (am_v g)).toArray s MC MS (am_A g)) q.2.2.1 h q.2.1 mt (am_envX g mt 1 h MC MS q.2.2.2.1 P Xp C) := by
    intro C hC
    refine ⟨hC, fun pc lv r M k n hr hd => fun ls H locs hl hW hS => vx_ret (am_ret X Bd.returns hr hd ls H locs hl hW hS), fun pc lv rest x M k n _ h9 => ?_, fun _ _ _ _ _ _ _ _ h9 => (by cases h9), fun _ _ _ _ _ _ h9 => h9, fun _ _ _ _ _ _ _ h9 => h9, ⟨rfl, rfl, ?_, ?_⟩, fun _ h9 => (by cases h9)⟩
    · intro ls H locs qa ce hl hW hS hce hcv hcl
      obtain ⟨k1, k2, k3⟩ := h9
      refine vx_out (fun z hz => (hno z hz).elim) X.2.2.2.2.2.2.2 hce hcv hcl (fun t ht _ => ⟨⟨x, M, rfl, k3, by rw [ht]; exact hW⟩, hS.F ht⟩) hS.2.2 k1 k2
    · show h + 7 ≤ h + 1 + 6; omega
    · exact Nat.le_refl _
  have hT : ∀ (C : am_Cut) (t : Nat), ∀ x ∈ B t, am_HT p g e (am_R (h + 1) MC MS) s m (av.map (am_v g)).toArray below meth c (vx_MQ below (am_Q g 1 P) (am_XC g 1 am_xn Xp) (av.map (am_v g)).toArray s MC MS (am_A g)) q.2.2.1 (am_envX g mt 1 h MC MS q.2.2.2.1 P Xp C) x := by
    intro C t x hx i hi hne lv st M k n hst _ hk1 hn1 hxp
    exact am_s_throw X hno (hth t x hx) hi hne hst hk1 hn1 (by show 6 ≤ h + 1 + 6; omega) (by show 480 ≤ 80 * (h + 1) + 480; omega) hxp.1 hxp.2.1 hxp.2.2
  have cuts : ∀ u pc lv st M k n, J u pc lv st M k n → am_S p g e (am_R (h + 1) MC MS) s m (av.map (am_v g)).toArray below meth c (vx_MQ below (am_Q g 1 P) (am_XC g 1 am_xn Xp) (av.map (am_v g)).toArray s MC MS (am_A g)) 1 q.2.2.1 pc lv st M k n := by
    intro u
    induction u using Nat.strongRecOn with
    | _ u ih =>
      intro pc lv st M k n hj
      obtain ⟨r, f, hb, hpc, hw⟩ := hJ u pc lv st M k n hj
      have hs := am_sound X (env (fun pc lv st M k n => ∃ w l, w < u ∧ am_has lv l ∧ J w pc l st M k n) (fun pc lv st M k n ⟨w, l, hwu, hhl, hjw⟩ => fun ls H locs hl => ih w hwu pc l st M k n hjw ls H locs (am_has_lv hhl hl))) hin B (fun t => ⟨(hc.2 t).1, (hc.2 t).2, hT _ t⟩) f r (by have := (hc.2 pc).1; rw [hb] at this; exact this.2) (fun x hx => hT _ pc x (by rw [hb]; exact List.mem_cons_of_mem _ hx)) lv st M k n hw
      rw [hpc] at hs
      exact hs
  obtain ⟨f, hw⟩ := h0
  have hs := am_sound X (env (fun pc lv st M k n => ∃ w l, am_has lv l ∧ J w pc l st M k n) (fun pc lv st M k n ⟨w, l, hhl, hjw⟩ => fun ls H locs hl => cuts w pc l st M k n hjw ls H locs (am_has_lv hhl hl))) hin B (fun t => ⟨(hc.2 t).1, (hc.2 t).2, hT _ t⟩) f (B 0) (hc.2 0).1 (hT _ 0) _ _ _ _ _ hw
  have hne : B 0 ≠ [] := fun h9 => by
    rw [h9] at hw
    cases f <;> exact hw.elim
  rw [(hc.2 0).2 hne] at hs
  rw [lg_entry_eq]
  refine hs _ s.heap [] ?_ hW va_S.rf
  have hle := lv_entry (av.map (am_v g)) (n := q.2.2.1) (by rw [am_sl_len]; exact hav)
  rw [am_args_vl] at hle
  exact hle
end AMTH
