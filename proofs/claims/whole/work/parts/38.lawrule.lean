set_option maxHeartbeats 1000000 in
/-- THE LAW out of an invariant of its loop: J u locals stack memory cells slots at the loop's head, u falling -/
theorem am_lawW {p : Program} {e : Env} {s : State} {m : MethodId} {below : List Frame} {meth : Method} {c : Code} (l : Launch) (hflags : l.flags = flags0) {b L : Nat} {xs : Nat → Int32} (C0 : lw_At p s m meth c b L xs) (J : am_G → Nat → am_K)
    (hJ : ∀ g u lv st M k n, J g u lv st M k n → ∃ f, am_wp (am_envL g 1 L xs (fun pc lv st M k n => pc = 23 ∧ ∃ w l, w < u ∧ am_has lv l ∧ J g w l st M k n)) am_df (am_blk bL_law) f bL_law_23.tail lv st M k n)
    (h0 : ∀ g, ∃ u, J g u (am_l0 (nI 0)) [] am_M0 96 53379) :
    W p l e room_1 s m #[Value.ref b] below meth c s.heap [] 0 0 (lw_Z below #[Value.ref b] s) (entryFrame m ([Value.ref b] : List Value).toArray 7) := by
  obtain ⟨g, hg1, hg2, hg3, X⟩ := am_start l hflags C0
  subst hg1
  obtain ⟨hx, hb, hr, hml, hown, hts, hX, hbl, hlk, hgv⟩ := C0
  have hcode := kL_law
  have hB : ∀ t, am_okP R_law code 7 am_mt am_df False (am_blk bL_law t) ∧ (am_blk bL_law t ≠ [] → am_pc (am_blk bL_law t) = t) := by
    intro t
    have h1 := hcode.2 t
    have e1 : (qL_law.1.name = "<init>") = False := eq_false (by decide)
    rw [e1] at h1
    exact h1
  have hnt : am_noT (am_blk bL_law) := nL_law
  have hsc : va_X g.2.2.2.1 L xs s s.heap ∧ g.2.2.2.1 < s.heap.size ∧ ¬ am_A g g.2.2.2.1 := by
    rw [hg3]
    refine ⟨hX, hbl, fun h9 => ?_⟩
    have h9 : g.2.1 ≤ b := h9
    omega
  have env : ∀ (ph : Nat) (C : am_Cut), (∀ pc lv st M k n, C pc lv st M k n → am_S p g e room_1 s m #[Value.ref b] below meth c (lw_Z below #[Value.ref b] s) ph 7 pc lv st M k n) →
      am_HE p g e room_1 s m #[Value.ref b] below meth c (lw_Z below #[Value.ref b] s) 7 1000 code am_mt (am_envL g ph L xs C) := by
    intro ph C hC
    refine ⟨hC, fun pc lv r M k n hrr hd => ?_, fun _ _ _ _ _ _ _ _ h9 => h9.elim, fun _ _ _ _ _ _ _ _ h9 => (by cases h9), fun _ _ _ _ _ _ h9 => h9, fun _ _ _ _ _ _ _ h9 => h9.elim, ⟨rfl, rfl, by decide, by decide⟩, fun q h9 => ?_⟩
    · obtain ⟨rfl, h1, h2⟩ := hrr
      intro ls H locs hl hW hS
      rcases hd with ⟨v, hv, hd⟩ | ⟨v, hv, -⟩ | ⟨v, hv, -⟩ | ⟨hv, -⟩
      · refine va_forget (fun q hq => ?_) (W.widen h1 h2 (lw_ret hx hb hr hlk hd))
        have h9 : g.2.1 ≤ q.base := hS.2.2 q hq
        omega
      · cases hv
      · cases hv
      · cases hv
    · cases h9
      exact hsc
  have hT : ∀ (E : am_Env) (t : Nat), ∀ x ∈ am_blk bL_law t, am_HT p g e room_1 s m #[Value.ref b] below meth c (lw_Z below #[Value.ref b] s) 7 E x := fun E t x hx i hi hne => absurd (hnt t x hx i hi) hne
  have hin : False → meth.name = "<init>" := False.elim
  have h23 : am_blk bL_law 23 = (23, .nop, 0, 0, 0) :: bL_law_23.tail := rfl
  have cuts : ∀ u lv st M k n, J g u lv st M k n → am_S p g e room_1 s m #[Value.ref b] below meth c (lw_Z below #[Value.ref b] s) 1 7 23 lv st M k n := by
    intro u
    induction u using Nat.strongRecOn with
    | _ u ih =>
      intro lv st M k n hj
      obtain ⟨f, hw⟩ := hJ g u lv st M k n hj
      have hs := am_sound X (env 1 (fun pc lv st M k n => pc = 23 ∧ ∃ w l, w < u ∧ am_has lv l ∧ J g w l st M k n) (fun pc lv st M k n ⟨hpc, w, l9, hwu, hhl, hjw⟩ => by
        subst hpc
        exact fun ls H locs hl => ih w hwu l9 st M k n hjw ls H locs (am_has_lv hhl hl))) hin (am_blk bL_law) (fun t => ⟨(hB t).1, (hB t).2, hT _ t⟩) f bL_law_23.tail (by have := (hB 23).1; rw [h23] at this; exact this.2) (fun x hx => hT _ 23 x (by rw [h23]; exact List.mem_cons_of_mem _ hx)) lv st M k n hw
      exact hs
  have w0 := am_law0 g L xs (fun pc lv st M k n => pc = 23 ∧ ∃ w l, am_has lv l ∧ J g w l st M k n) (fun lv hlv => by
    obtain ⟨u, hu⟩ := h0 g
    exact ⟨rfl, u, am_l0 (nI 0), hlv, hu⟩)
  have hs := am_sound X (env 0 (fun pc lv st M k n => pc = 23 ∧ ∃ w l, am_has lv l ∧ J g w l st M k n) (fun pc lv st M k n ⟨hpc, w, l9, hhl, hjw⟩ => by
    subst hpc
    exact fun ls H locs hl hW hS => am_S01 (cuts w l9 st M k n hjw) ls H locs (am_has_lv hhl hl) hW hS)) hin (am_blk bL_law) (fun t => ⟨(hB t).1, (hB t).2, hT _ t⟩) 40 bL_law_0 (hB 0).1 (hT _ 0) _ _ _ _ _ w0
  rw [lg_entry_eq]
  refine hs _ s.heap [] ?_ ⟨fun k q hq => by simp [am_img, am_cM] at hq, ?_, fun _ => ?_, by decide⟩ va_S.rf
  · have hle := lv_entry ([Value.ref b] : List Value) (n := 7) (Nat.le_of_ble_eq_true rfl)
    have e1 : am_vl g [(0, Value.ref 999)] = [(0, Value.ref b)] := by
      simp only [am_vl, List.map_cons, List.map_nil, am_v, am_ad]
      rw [if_neg (by decide), if_true, hg3]
    rw [e1]
    exact hle
  · show g.2.1 + 0 ≤ s.heap.size
    omega
  · show s.heap.size = g.2.1 + 0
    omega
