/-! printed by wip/whole/gen5.py: the constructors, run -/
abbrev am_cE : Type := Nat × am_MI × List (Nat × List am_I) × Nat × Nat
def am_ctab : List am_cE := [(57, qX7_init, bX7_init, 12, 209), (76, qX8_init, bX8_init, 0, 0), (0, qX0_init, bX0_init, 5, 67), (53, qX6_init, bX6_init, 1, 720), (45, qX5_init, bX5_init, 1, 12), (16, qX2_init, bX2_init, 6, 78), (24, qX3_init, bX3_init, 7, 7920), (35, qX4_init, bX4_init, 3, 771), (10, qX1_init, bX1_init, 1, 106), (89, qX9_init, bX9_init, 59, 10268), (130, qX10_init, bX10_init, 34, 43046)]
theorem am_ctab_ok : ∀ x ∈ am_ctab, am_mt[x.1]? = some x.2.1 ∧ am_Code am_mt am_df x.2.1 (am_blk x.2.2.1) ∧ am_noT (am_blk x.2.2.1) := by
  intro x hx
  simp only [am_ctab, List.mem_cons, List.not_mem_nil, or_false] at hx
  rcases hx with rfl | rfl | rfl | rfl | rfl | rfl | rfl | rfl | rfl | rfl | rfl
  · exact ⟨rfl, kX7_init, nX7_init⟩
  · exact ⟨rfl, kX8_init, nX8_init⟩
  · exact ⟨rfl, kX0_init, nX0_init⟩
  · exact ⟨rfl, kX6_init, nX6_init⟩
  · exact ⟨rfl, kX5_init, nX5_init⟩
  · exact ⟨rfl, kX2_init, nX2_init⟩
  · exact ⟨rfl, kX3_init, nX3_init⟩
  · exact ⟨rfl, kX4_init, nX4_init⟩
  · exact ⟨rfl, kX1_init, nX1_init⟩
  · exact ⟨rfl, kX9_init, nX9_init⟩
  · exact ⟨rfl, kX10_init, nX10_init⟩
/-- a constructor, run over concrete cells to some depth of calls -/
def am_ct : Nat → Nat → List Value → am_cS → Option (am_cS × Nat × Nat)
  | 0, _, _, _ => none
  | d + 1, mi, av, S => match am_ctab.find? (fun x => x.1 == mi) with
    | some x => match am_cx (am_ct d) am_df x.2.2.2.1 x.2.2.2.2 400 (am_blk x.2.2.1 0) (lv_args 0 av) [] S 0 0 with
      | some F => if F.2.1 ≤ x.2.2.2.1 ∧ F.2.2 ≤ x.2.2.2.2 ∧ x.2.1.2.2.2.2.isEmpty = true ∧ x.2.1.2.2.2.1 = none ∧ (lg_sl av).length ≤ x.2.1.2.2.1 then some (F.1, x.2.2.2.1, x.2.2.2.2) else none
      | none => none
    | none => none
theorem am_ct_ok (g : am_G) (h : Nat) : ∀ (d mi : Nat) (av : List Value) (S S' : am_cS) (mc ms : Nat), am_ct d mi av S = some (S', mc, ms) → am_Ctr g am_mt 0 (h + d) mi av (am_cM S) mc ms (fun r M => r = none ∧ M = am_cM S')
  | 0, mi, av, S, S', mc, ms, h0 => by simp [am_ct] at h0
  | d + 1, mi, av, S, S', mc, ms, h0 => by
    simp only [am_ct] at h0
    split at h0
    · rename_i x hx
      have hm := List.mem_of_find?_eq_some hx
      have hmi := List.find?_some hx
      simp only [beq_iff_eq] at hmi
      obtain ⟨h1, h2, h3⟩ := am_ctab_ok x hm
      split at h0
      · rename_i F hF
        split at h0
        · rename_i hc
          obtain ⟨c1, c2, c3, c4, c5⟩ := hc
          cases h0
          rw [hmi] at h1
          refine am_rule0 400 h1 (List.isEmpty_iff.mp c3) h2 h3 c5 ?_
          rw [c4]
          exact am_cx_wp (fun mi av S S' mc ms h9 => am_ct_ok g h d mi av S S' mc ms h9) F ⟨c1, c2⟩ 400 _ _ _ _ _ _ hF
        · cases h0
      · cases h0
    · cases h0
def am_dq1 : DecidableEq am_Sh := inferInstance
def am_dq2 : DecidableEq (List (Nat × Nat × Int32)) := inferInstance
def am_dqs : DecidableEq (List am_Sh) := inferInstance
def am_isF (o : Option (am_cS × Nat × Nat)) (a : List am_Sh) (b : List (Nat × Nat × Int32)) (c d : Nat) : Bool := match o with
  | some F => (@decide (F.1.1 = a) (am_dqs F.1.1 a)) && (@decide (F.1.2 = b) (am_dq2 F.1.2 b)) && decide (F.2.1 = c) && decide (F.2.2 = d)
  | none => false
theorem am_isF_eq {o : Option (am_cS × Nat × Nat)} {a : List am_Sh} {b : List (Nat × Nat × Int32)} {c d : Nat} (h : am_isF o a b c d = true) : o = some ((a, b), c, d) := by
  unfold am_isF at h
  split at h
  · rename_i F
    simp only [Bool.and_eq_true, decide_eq_true_eq] at h
    obtain ⟨⟨⟨h1, h2⟩, h3⟩, h4⟩ := h
    obtain ⟨⟨a', b'⟩, c', d'⟩ := F
    simp only at h1 h2 h3 h4
    rw [h1, h2, h3, h4]
  · cases h
def am_al1 : List (Nat × Nat × Int32) := [(0, 2, 0), (0, 1, 0), (54, 3, 2)]
def am_al2 : List (Nat × Nat × Int32) := [(60, 48, 2), (67, 22, 59), (67, 21, 116), (67, 20, 111), (67, 19, 110), (67, 18, 59), (67, 17, 116), (67, 16, 115), (67, 15, 111), (67, 14, 109), (67, 13, 59), (67, 12, 111), (67, 11, 110), (67, 10, 59), (67, 9, 101), (67, 8, 109), (67, 7, 111), (67, 6, 115), (67, 5, 59), (67, 4, 121), (67, 3, 114), (67, 2, 101), (67, 1, 118), (67, 0, 101), (0, 2, 0), (0, 1, 0), (54, 3, 2)]
set_option maxRecDepth 100000 in
theorem am_run1 : am_ct 3 89 [.ref 0] ([.inr (9, am_df 9)], []) = some ((am_SH.take 60, am_al1), 59, 10268) := am_isF_eq (by decide +kernel)
set_option maxRecDepth 100000 in
theorem am_run2 : am_ct 3 130 [.ref 60] (am_SH.take 60 ++ [.inr (10, am_df 10)], am_al1) = some ((am_SH.take 95, am_al2), 34, 43046) := am_isF_eq (by decide +kernel)
