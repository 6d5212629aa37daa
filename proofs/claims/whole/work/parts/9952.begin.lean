/-! the world behind the constructors -/
theorem i0_na {c : Nat} (h0 : c ≠ 0) (h1 : c ≠ 54) (h2 : c ≠ 60) (h3 : c ≠ 67) (k : Nat) : am_aI am_al2 c k = 0 := by
  simp (disch := omega) only [am_aI, am_al2, sf_naD]
theorem i0_60 {k : Nat} (h : k ≠ 48) : am_aI am_al2 60 k = 0 := by
  simp only [am_aI, am_al2]
  rw [sf_nkD h]
  simp (disch := decide) only [sf_naD]
theorem i0_6048 : am_aI am_al2 60 48 = nI 2 := by decide +kernel
theorem i0_543 : am_aI am_al2 54 3 = nI 2 := by decide +kernel
theorem i0_01 : am_aI am_al2 0 1 = nI 0 := by decide +kernel
theorem i0_02 : am_aI am_al2 0 2 = nI 0 := by decide +kernel
theorem i0_67 : ∀ k, k < 23 → am_aI am_al2 67 k = nI (wdl.getD k 0) := by decide +kernel
theorem n0 {c : Nat} (h0 : c ≠ 0) (h1 : c ≠ 54) (h2 : c ≠ 60) (h3 : c ≠ 67) (k : Nat) : am_aI am_al2 c k = nI 0 := by rw [nI_0]; exact i0_na h0 h1 h2 h3 k
theorem n60 {k : Nat} (h : k ≠ 48) : am_aI am_al2 60 k = nI 0 := by rw [nI_0]; exact i0_60 h
theorem SE_nil {x g : Nat} : ¬ SE [] x g := fun h => absurd h.1 (Nat.not_lt_zero _)
theorem EP_nil {x g : Nat} : ¬ EP [] [] x g := fun h => h.elim SE_nil (fun h9 => absurd h9 List.not_mem_nil)
theorem Wld_0 : Wld 0 (am_aI am_al2) am_zJ := by
  refine ⟨0, Nat.le_refl _, L0, 0, 0, 2, fun _ => false, L0, 0, [], [], [], ⟨⟨TX_0 _ _, i0_01, i0_02⟩, ⟨i0_543, by decide, by decide, fun k _ => n0 (by decide) (by decide) (by decide) (by decide) k, fun v _ => n0 (by decide) (by decide) (by decide) (by decide) v⟩, ⟨n0 (by decide) (by decide) (by decide) (by decide) _, fun x _ => ⟨⟨0, Nat.le_refl _, n0 (by decide) (by decide) (by decide) (by decide) x⟩, 0, Nat.le_refl _, n0 (by decide) (by decide) (by decide) (by decide) x⟩⟩, ⟨?_, TX_0 _ _, ⟨fun x _ => ?_, n0 (by decide) (by decide) (by decide) (by decide) _, fun k hk => absurd hk (Nat.not_lt_zero _)⟩, n0 (by decide) (by decide) (by decide) (by decide) _⟩, Or.inl ⟨rfl, rfl, rfl, false, n0 (by decide) (by decide) (by decide) (by decide) _⟩⟩, ⟨⟨TX_0 _ _, n60 (by decide), n60 (by decide), i0_67⟩, ⟨i0_6048, by decide, by decide, fun k _ => n0 (by decide) (by decide) (by decide) (by decide) k⟩, ⟨⟨n60 (by decide), fun f hf => absurd hf (Nat.not_lt_zero _), n60 (by decide), fun p hp => absurd hp (Nat.not_lt_zero _), fun k hk => absurd hk (Nat.not_lt_zero _)⟩, ⟨n60 (by decide), fun k hk => absurd hk (Nat.not_lt_zero _)⟩, fun x g _ _ => ⟨fun h9 => absurd h9 EP_nil, fun _ => n0 (by decide) (by decide) (by decide) (by decide) _⟩, ⟨n60 (by decide), fun r hr => absurd hr (Nat.not_lt_zero _)⟩⟩, Or.inl ⟨rfl, rfl, rfl, false, n60 (by decide)⟩⟩⟩
  · exact ⟨n0 (by decide) (by decide) (by decide) (by decide) _, n0 (by decide) (by decide) (by decide) (by decide) _, fun f hf => absurd hf (Nat.not_lt_zero _), fun f hf => absurd hf (Nat.not_lt_zero _), fun f hf => absurd hf (Nat.not_lt_zero _), fun f hf => absurd hf (Nat.not_lt_zero _)⟩
  · rw [i0_na (by decide) (by decide) (by decide) (by decide)]
    exact Bp_0.cg (fun i _ => ⟨False.elim, SE_nil⟩)
theorem Wld.mono {S S' : Nat} {I : Nat → Nat → Int32} {J : Nat → Nat → Int64} (h : Wld S I J) (hS : S ≤ S') : Wld S' I J := by
  obtain ⟨s, h1, h2⟩ := h
  exact ⟨s, Nat.le_trans h1 hS, h2⟩
theorem am_tsw_all {x : Int32} {jp : Nat → Prop} {pc : Nat} {d : Int} (h0 : jp ((pc : Int) + d).toNat) : ∀ (l : List Int) (lo : Int), (∀ o ∈ l, jp ((pc : Int) + o).toNat) → am_tsw x jp pc d lo l
  | [], _, _ => h0
  | o :: r, lo, h => ⟨fun _ => h o List.mem_cons_self, fun _ => am_tsw_all h0 r (lo + 1) (fun o' ho => h o' (List.mem_cons_of_mem _ ho))⟩
theorem slt5 : ∀ L, L < 5 → nI L - nI 5 < 0 := by decide +kernel
