/-! printed by wip/whole/gen9.py: where the class throws, and where the law catches -/
theorem am_thr_of {own : String} {cc : ByteArray} {BL : List (Nat × List am_I)} (TS : List am_I) (h1 : ∀ x ∈ TS, am_thr own cc x) (h2 : BL.all (fun b => b.2.all (fun x => match x.2.1 with
    | .new _ => decide (x.2.2.2.1 = 0) || TS.any (fun y => decide (y = x))
    | _ => true)) = true) : ∀ t, ∀ x ∈ am_blk BL t, am_thr own cc x := by
  intro t x hx ik hik hne
  have hm := am_blk_mem (BL := BL) (t := t) (fun h0 => by rw [h0] at hx; cases hx)
  have h3 := List.all_eq_true.mp (List.all_eq_true.mp h2 _ hm) x hx
  rw [hik] at h3
  simp only [Bool.or_eq_true, decide_eq_true_eq, List.any_eq_true] at h3
  rcases h3 with h3 | ⟨y, hy, rfl⟩
  · exact absurd h3 hne
  · exact h1 y hy ik hik hne
theorem am_at0_98 : ∀ w ∈ vx_atS RX9 98 (am_xn 0) am_xs, w ∈ am_T ∨ w ∈ am_N := by
  have h : ∀ w ∈ vx_atS RX9 98 (am_xn 0) am_xs, w ∈ lw_tbl ∧ (goodWord w = true ∨ am_nst w = true) := by decide +kernel
  exact fun w hw => (h w hw).2.elim (fun h1 => Or.inl (List.mem_filter.mpr ⟨(h w hw).1, h1⟩)) (fun h1 => Or.inr (List.mem_filter.mpr ⟨(h w hw).1, h1⟩))
theorem am_at1_105 : ∀ w ∈ vx_atS RX9 105 (am_xn 1) am_xs, w ∈ am_T ∨ w ∈ am_N := by
  have h : ∀ w ∈ vx_atS RX9 105 (am_xn 1) am_xs, w ∈ lw_tbl ∧ (goodWord w = true ∨ am_nst w = true) := by decide +kernel
  exact fun w hw => (h w hw).2.elim (fun h1 => Or.inl (List.mem_filter.mpr ⟨(h w hw).1, h1⟩)) (fun h1 => Or.inr (List.mem_filter.mpr ⟨(h w hw).1, h1⟩))
theorem am_at2_174 : ∀ w ∈ vx_atS RX9 174 (am_xn 2) am_xs, w ∈ am_T ∨ w ∈ am_N := by
  have h : ∀ w ∈ vx_atS RX9 174 (am_xn 2) am_xs, w ∈ lw_tbl ∧ (goodWord w = true ∨ am_nst w = true) := by decide +kernel
  exact fun w hw => (h w hw).2.elim (fun h1 => Or.inl (List.mem_filter.mpr ⟨(h w hw).1, h1⟩)) (fun h1 => Or.inr (List.mem_filter.mpr ⟨(h w hw).1, h1⟩))
theorem am_ix0 : Cond.initialized (am_xn 0) ∈ am_T := (am_T_in (i := 147) (by decide +kernel) rfl)
theorem am_ix1 : Cond.initialized (am_xn 1) ∈ am_T := (am_T_in (i := 148) (by decide +kernel) rfl)
theorem am_ix2 : Cond.initialized (am_xn 2) ∈ am_T := (am_T_in (i := 155) (by decide +kernel) rfl)
theorem am_cl94 : Cond.classLink RX9 94 (am_xn 0) ∈ am_T := (am_T_in (i := 888) (by decide +kernel) rfl)
theorem thX9_type_12 : am_thr RX9 cX9_type (12, .new 94, 0, 1, 7) := by
  intro ik hik _
  cases hik
  exact ⟨96, 98, _, rfl, by decide +kernel, by decide +kernel, Or.inl ⟨by decide +kernel, by decide +kernel, by decide +kernel⟩, by decide +kernel, am_cl94, am_ix0, am_at0_98⟩
theorem am_cl101 : Cond.classLink RX9 101 (am_xn 1) ∈ am_T := (am_T_in (i := 955) (by decide +kernel) rfl)
theorem thX9_type_31 : am_thr RX9 cX9_type (31, .new 101, 1, 1, 8) := by
  intro ik hik _
  cases hik
  exact ⟨103, 105, _, rfl, by decide +kernel, by decide +kernel, Or.inl ⟨by decide +kernel, by decide +kernel, by decide +kernel⟩, by decide +kernel, am_cl101, am_ix1, am_at1_105⟩
theorem thX9_type : ∀ t, ∀ x ∈ am_blk bX9_type t, am_thr RX9 cX9_type x := am_thr_of [(12, .new 94, 0, 1, 7), (31, .new 101, 1, 1, 8)] (List.forall_mem_cons.mpr ⟨thX9_type_12, List.forall_mem_cons.mpr ⟨thX9_type_31, fun _ h => absurd h List.not_mem_nil⟩⟩) (by decide +kernel)
theorem thX9_constrain_23 : am_thr RX9 cX9_constrain (23, .new 101, 1, 1, 11) := by
  intro ik hik _
  cases hik
  exact ⟨151, 105, _, rfl, by decide +kernel, by decide +kernel, Or.inl ⟨by decide +kernel, by decide +kernel, by decide +kernel⟩, by decide +kernel, am_cl101, am_ix1, am_at1_105⟩
theorem thX9_constrain : ∀ t, ∀ x ∈ am_blk bX9_constrain t, am_thr RX9 cX9_constrain x := am_thr_of [(23, .new 101, 1, 1, 11)] (List.forall_mem_cons.mpr ⟨thX9_constrain_23, fun _ h => absurd h List.not_mem_nil⟩) (by decide +kernel)
theorem thX9_release_10 : am_thr RX9 cX9_release (10, .new 101, 1, 1, 12) := by
  intro ik hik _
  cases hik
  exact ⟨159, 105, _, rfl, by decide +kernel, by decide +kernel, Or.inl ⟨by decide +kernel, by decide +kernel, by decide +kernel⟩, by decide +kernel, am_cl101, am_ix1, am_at1_105⟩
theorem thX9_release : ∀ t, ∀ x ∈ am_blk bX9_release t, am_thr RX9 cX9_release x := am_thr_of [(10, .new 101, 1, 1, 12)] (List.forall_mem_cons.mpr ⟨thX9_release_10, fun _ h => absurd h List.not_mem_nil⟩) (by decide +kernel)
theorem am_cl170 : Cond.classLink RX9 170 (am_xn 2) ∈ am_T := (am_T_in (i := 983) (by decide +kernel) rfl)
theorem thX9_place_20 : am_thr RX9 cX9_place (20, .new 170, 2, 1, 15) := by
  intro ik hik _
  cases hik
  exact ⟨172, 174, _, rfl, by decide +kernel, by decide +kernel, Or.inl ⟨by decide +kernel, by decide +kernel, by decide +kernel⟩, by decide +kernel, am_cl170, am_ix2, am_at2_174⟩
theorem thX9_place : ∀ t, ∀ x ∈ am_blk bX9_place t, am_thr RX9 cX9_place x := am_thr_of [(20, .new 170, 2, 1, 15)] (List.forall_mem_cons.mpr ⟨thX9_place_20, fun _ h => absurd h List.not_mem_nil⟩) (by decide +kernel)
theorem thX9_formulaChar_9 : am_thr RX9 cX9_formulaChar (9, .new 170, 2, 1, 17) := by
  intro ik hik _
  cases hik
  exact ⟨201, 174, _, rfl, by decide +kernel, by decide +kernel, Or.inl ⟨by decide +kernel, by decide +kernel, by decide +kernel⟩, by decide +kernel, am_cl170, am_ix2, am_at2_174⟩
theorem thX9_formulaChar : ∀ t, ∀ x ∈ am_blk bX9_formulaChar t, am_thr RX9 cX9_formulaChar x := am_thr_of [(9, .new 170, 2, 1, 17)] (List.forall_mem_cons.mpr ⟨thX9_formulaChar_9, fun _ h => absurd h List.not_mem_nil⟩) (by decide +kernel)
theorem thX9_setDomain_10 : am_thr RX9 cX9_setDomain (10, .new 94, 0, 1, 18) := by
  intro ik hik _
  cases hik
  exact ⟨232, 98, _, rfl, by decide +kernel, by decide +kernel, Or.inl ⟨by decide +kernel, by decide +kernel, by decide +kernel⟩, by decide +kernel, am_cl94, am_ix0, am_at0_98⟩
theorem thX9_setDomain : ∀ t, ∀ x ∈ am_blk bX9_setDomain t, am_thr RX9 cX9_setDomain x := am_thr_of [(10, .new 94, 0, 1, 18)] (List.forall_mem_cons.mpr ⟨thX9_setDomain_10, fun _ h => absurd h List.not_mem_nil⟩) (by decide +kernel)
theorem thX9_setFact_56 : am_thr RX9 cX9_setFact (56, .new 94, 0, 1, 20) := by
  intro ik hik _
  cases hik
  exact ⟨246, 98, _, rfl, by decide +kernel, by decide +kernel, Or.inl ⟨by decide +kernel, by decide +kernel, by decide +kernel⟩, by decide +kernel, am_cl94, am_ix0, am_at0_98⟩
theorem thX9_setFact : ∀ t, ∀ x ∈ am_blk bX9_setFact t, am_thr RX9 cX9_setFact x := am_thr_of [(56, .new 94, 0, 1, 20)] (List.forall_mem_cons.mpr ⟨thX9_setFact_56, fun _ h => absurd h List.not_mem_nil⟩) (by decide +kernel)
theorem thX9_needSentence_10 : am_thr RX9 cX9_needSentence (10, .new 101, 1, 1, 13) := by
  intro ik hik _
  cases hik
  exact ⟨269, 105, _, rfl, by decide +kernel, by decide +kernel, Or.inr ⟨by decide +kernel, by decide +kernel, by decide +kernel⟩, by decide +kernel, am_cl101, am_ix1, am_at1_105⟩
theorem thX9_needSentence : ∀ t, ∀ x ∈ am_blk bX9_needSentence t, am_thr RX9 cX9_needSentence x := am_thr_of [(10, .new 101, 1, 1, 13)] (List.forall_mem_cons.mpr ⟨thX9_needSentence_10, fun _ h => absurd h List.not_mem_nil⟩) (by decide +kernel)
theorem thX9_needFragment_15 : am_thr RX9 cX9_needFragment (15, .new 170, 2, 1, 9) := by
  intro ik hik _
  cases hik
  exact ⟨271, 174, _, rfl, by decide +kernel, by decide +kernel, Or.inr ⟨by decide +kernel, by decide +kernel, by decide +kernel⟩, by decide +kernel, am_cl170, am_ix2, am_at2_174⟩
theorem thX9_needFragment : ∀ t, ∀ x ∈ am_blk bX9_needFragment t, am_thr RX9 cX9_needFragment x := am_thr_of [(15, .new 170, 2, 1, 9)] (List.forall_mem_cons.mpr ⟨thX9_needFragment_15, fun _ h => absurd h List.not_mem_nil⟩) (by decide +kernel)
theorem thX9_needHole_21 : am_thr RX9 cX9_needHole (21, .new 170, 2, 1, 10) := by
  intro ik hik _
  cases hik
  exact ⟨276, 174, _, rfl, by decide +kernel, by decide +kernel, Or.inr ⟨by decide +kernel, by decide +kernel, by decide +kernel⟩, by decide +kernel, am_cl170, am_ix2, am_at2_174⟩
theorem thX9_needHole : ∀ t, ∀ x ∈ am_blk bX9_needHole t, am_thr RX9 cX9_needHole x := am_thr_of [(21, .new 170, 2, 1, 10)] (List.forall_mem_cons.mpr ⟨thX9_needHole_21, fun _ h => absurd h List.not_mem_nil⟩) (by decide +kernel)
theorem thX9_needReading_15 : am_thr RX9 cX9_needReading (15, .new 170, 2, 1, 14) := by
  intro ik hik _
  cases hik
  exact ⟨278, 174, _, rfl, by decide +kernel, by decide +kernel, Or.inr ⟨by decide +kernel, by decide +kernel, by decide +kernel⟩, by decide +kernel, am_cl170, am_ix2, am_at2_174⟩
theorem thX9_needReading : ∀ t, ∀ x ∈ am_blk bX9_needReading t, am_thr RX9 cX9_needReading x := am_thr_of [(15, .new 170, 2, 1, 14)] (List.forall_mem_cons.mpr ⟨thX9_needReading_15, fun _ h => absurd h List.not_mem_nil⟩) (by decide +kernel)
theorem thX9_needPredicate_15 : am_thr RX9 cX9_needPredicate (15, .new 170, 2, 1, 19) := by
  intro ik hik _
  cases hik
  exact ⟨280, 174, _, rfl, by decide +kernel, by decide +kernel, Or.inr ⟨by decide +kernel, by decide +kernel, by decide +kernel⟩, by decide +kernel, am_cl170, am_ix2, am_at2_174⟩
theorem thX9_needPredicate : ∀ t, ∀ x ∈ am_blk bX9_needPredicate t, am_thr RX9 cX9_needPredicate x := am_thr_of [(15, .new 170, 2, 1, 19)] (List.forall_mem_cons.mpr ⟨thX9_needPredicate_15, fun _ h => absurd h List.not_mem_nil⟩) (by decide +kernel)
theorem thX9_needStart_4 : am_thr RX9 cX9_needStart (4, .new 170, 2, 1, 16) := by
  intro ik hik _
  cases hik
  exact ⟨282, 174, _, rfl, by decide +kernel, by decide +kernel, Or.inr ⟨by decide +kernel, by decide +kernel, by decide +kernel⟩, by decide +kernel, am_cl170, am_ix2, am_at2_174⟩
theorem thX9_needStart : ∀ t, ∀ x ∈ am_blk bX9_needStart t, am_thr RX9 cX9_needStart x := am_thr_of [(4, .new 170, 2, 1, 16)] (List.forall_mem_cons.mpr ⟨thX9_needStart_4, fun _ h => absurd h List.not_mem_nil⟩) (by decide +kernel)
theorem thX9_kindOf : ∀ t, ∀ x ∈ am_blk bX9_kindOf t, am_thr RX9 cX9_kindOf x := am_thr_of [] (fun _ h => absurd h List.not_mem_nil) (by decide +kernel)
theorem thX9_hasEdge : ∀ t, ∀ x ∈ am_blk bX9_hasEdge t, am_thr RX9 cX9_hasEdge x := am_thr_of [] (fun _ h => absurd h List.not_mem_nil) (by decide +kernel)
theorem thX9_readings : ∀ t, ∀ x ∈ am_blk bX9_readings t, am_thr RX9 cX9_readings x := am_thr_of [] (fun _ h => absurd h List.not_mem_nil) (by decide +kernel)
theorem thX9_plug : ∀ t, ∀ x ∈ am_blk bX9_plug t, am_thr RX9 cX9_plug x := am_thr_of [] (fun _ h => absurd h List.not_mem_nil) (by decide +kernel)
theorem thX9_above : ∀ t, ∀ x ∈ am_blk bX9_above t, am_thr RX9 cX9_above x := am_thr_of [] (fun _ h => absurd h List.not_mem_nil) (by decide +kernel)
theorem thX9_polarity : ∀ t, ∀ x ∈ am_blk bX9_polarity t, am_thr RX9 cX9_polarity x := am_thr_of [] (fun _ h => absurd h List.not_mem_nil) (by decide +kernel)
theorem thX9_countBelow : ∀ t, ∀ x ∈ am_blk bX9_countBelow t, am_thr RX9 cX9_countBelow x := am_thr_of [] (fun _ h => absurd h List.not_mem_nil) (by decide +kernel)
theorem thX9_nextBelow : ∀ t, ∀ x ∈ am_blk bX9_nextBelow t, am_thr RX9 cX9_nextBelow x := am_thr_of [] (fun _ h => absurd h List.not_mem_nil) (by decide +kernel)
theorem thX9_entails : ∀ t, ∀ x ∈ am_blk bX9_entails t, am_thr RX9 cX9_entails x := am_thr_of [] (fun _ h => absurd h List.not_mem_nil) (by decide +kernel)
theorem thX9_classOf : ∀ t, ∀ x ∈ am_blk bX9_classOf t, am_thr RX9 cX9_classOf x := am_thr_of [] (fun _ h => absurd h List.not_mem_nil) (by decide +kernel)
theorem thX9_classes : ∀ t, ∀ x ∈ am_blk bX9_classes t, am_thr RX9 cX9_classes x := am_thr_of [] (fun _ h => absurd h List.not_mem_nil) (by decide +kernel)
theorem thX9_isWeak : ∀ t, ∀ x ∈ am_blk bX9_isWeak t, am_thr RX9 cX9_isWeak x := am_thr_of [] (fun _ h => absurd h List.not_mem_nil) (by decide +kernel)
theorem thX9_strongest : ∀ t, ∀ x ∈ am_blk bX9_strongest t, am_thr RX9 cX9_strongest x := am_thr_of [] (fun _ h => absurd h List.not_mem_nil) (by decide +kernel)
theorem thX9_arity : ∀ t, ∀ x ∈ am_blk bX9_arity t, am_thr RX9 cX9_arity x := am_thr_of [] (fun _ h => absurd h List.not_mem_nil) (by decide +kernel)
theorem thX9_truth : ∀ t, ∀ x ∈ am_blk bX9_truth t, am_thr RX9 cX9_truth x := am_thr_of [] (fun _ h => absurd h List.not_mem_nil) (by decide +kernel)
theorem thX9_trueReadings : ∀ t, ∀ x ∈ am_blk bX9_trueReadings t, am_thr RX9 cX9_trueReadings x := am_thr_of [] (fun _ h => absurd h List.not_mem_nil) (by decide +kernel)
theorem thX9_nextDifferent : ∀ t, ∀ x ∈ am_blk bX9_nextDifferent t, am_thr RX9 cX9_nextDifferent x := am_thr_of [] (fun _ h => absurd h List.not_mem_nil) (by decide +kernel)
theorem thX9_layOut : ∀ t, ∀ x ∈ am_blk bX9_layOut t, am_thr RX9 cX9_layOut x := am_thr_of [] (fun _ h => absurd h List.not_mem_nil) (by decide +kernel)
def am_cx9 : Nat → Nat := fun n => match n with
  | 13 => 0
  | 15 => 1
  | 20 => 2
  | _ => 3
theorem am_lc13 : Cond.classLink RL 13 (am_xn 0) ∈ am_T := (am_T_in (i := 882) (by decide +kernel) rfl)
theorem am_lc15 : Cond.classLink RL 15 (am_xn 1) ∈ am_T := (am_T_in (i := 883) (by decide +kernel) rfl)
theorem am_lc20 : Cond.classLink RL 20 (am_xn 2) ∈ am_T := (am_T_in (i := 974) (by decide +kernel) rfl)
theorem am_ca0 : Cond.castable (am_xn 0) (am_xn 0) ∈ am_N := (am_N_in (i := 890) (by decide +kernel) rfl)
theorem am_ca1 : Cond.castable (am_xn 1) (am_xn 1) ∈ am_N := (am_N_in (i := 957) (by decide +kernel) rfl)
theorem am_ca2 : Cond.castable (am_xn 2) (am_xn 2) ∈ am_N := (am_N_in (i := 985) (by decide +kernel) rfl)
def ksL_type : Nat → Nat × Nat := fun n => match n with
  | 12 => (3, 13)
  | 15 => (3, 16)
  | _ => (0, 0)
theorem hkL_type : ∀ z ∈ qL_type.2.2.2.2, am_hok RL cL_type 4 am_cx9 ksL_type z := by
  intro z hz
  have hz : z ∈ [(0, 9, 12, 13), (0, 9, 15, 15)] := hz
  simp only [List.mem_cons, List.not_mem_nil, or_false] at hz
  rcases hz with rfl | rfl
  · exact ⟨by decide, by decide, am_lc13, am_ca0, by decide, Or.inl ⟨3, by decide +kernel, rfl, rfl⟩⟩
  · exact ⟨by decide, by decide, am_lc15, am_ca1, by decide, Or.inl ⟨3, by decide +kernel, rfl, rfl⟩⟩
def ksL_kindOf : Nat → Nat × Nat := fun n => match n with
  | 12 => (3, 13)
  | _ => (0, 0)
theorem hkL_kindOf : ∀ z ∈ qL_kindOf.2.2.2.2, am_hok RL cL_kindOf 4 am_cx9 ksL_kindOf z := by
  intro z hz
  have hz : z ∈ [(0, 9, 12, 20)] := hz
  simp only [List.mem_cons, List.not_mem_nil, or_false] at hz
  rcases hz with rfl
  · exact ⟨by decide, by decide, am_lc20, am_ca2, by decide, Or.inl ⟨3, by decide +kernel, rfl, rfl⟩⟩
def ksL_hasEdge : Nat → Nat × Nat := fun n => match n with
  | 22 => (5, 24)
  | _ => (0, 0)
theorem hkL_hasEdge : ∀ z ∈ qL_hasEdge.2.2.2.2, am_hok RL cL_hasEdge 6 am_cx9 ksL_hasEdge z := by
  intro z hz
  have hz : z ∈ [(0, 19, 22, 20)] := hz
  simp only [List.mem_cons, List.not_mem_nil, or_false] at hz
  rcases hz with rfl
  · exact ⟨by decide, by decide, am_lc20, am_ca2, by decide, Or.inr ⟨by decide +kernel, rfl⟩⟩
def ksL_constrain : Nat → Nat × Nat := fun n => match n with
  | 15 => (5, 17)
  | 19 => (5, 21)
  | _ => (0, 0)
theorem hkL_constrain : ∀ z ∈ qL_constrain.2.2.2.2, am_hok RL cL_constrain 6 am_cx9 ksL_constrain z := by
  intro z hz
  have hz : z ∈ [(0, 12, 15, 20), (0, 12, 19, 15)] := hz
  simp only [List.mem_cons, List.not_mem_nil, or_false] at hz
  rcases hz with rfl | rfl
  · exact ⟨by decide, by decide, am_lc20, am_ca2, by decide, Or.inr ⟨by decide +kernel, rfl⟩⟩
  · exact ⟨by decide, by decide, am_lc15, am_ca1, by decide, Or.inr ⟨by decide +kernel, rfl⟩⟩
def ksL_release : Nat → Nat × Nat := fun n => match n with
  | 11 => (2, 12)
  | _ => (0, 0)
theorem hkL_release : ∀ z ∈ qL_release.2.2.2.2, am_hok RL cL_release 3 am_cx9 ksL_release z := by
  intro z hz
  have hz : z ∈ [(0, 8, 11, 15)] := hz
  simp only [List.mem_cons, List.not_mem_nil, or_false] at hz
  rcases hz with rfl
  · exact ⟨by decide, by decide, am_lc15, am_ca1, by decide, Or.inl ⟨2, by decide +kernel, rfl, rfl⟩⟩
def ksL_readings : Nat → Nat × Nat := fun n => match n with
  | 11 => (2, 12)
  | _ => (0, 0)
theorem hkL_readings : ∀ z ∈ qL_readings.2.2.2.2, am_hok RL cL_readings 3 am_cx9 ksL_readings z := by
  intro z hz
  have hz : z ∈ [(0, 8, 11, 15)] := hz
  simp only [List.mem_cons, List.not_mem_nil, or_false] at hz
  rcases hz with rfl
  · exact ⟨by decide, by decide, am_lc15, am_ca1, by decide, Or.inl ⟨2, by decide +kernel, rfl, rfl⟩⟩
def ksL_place : Nat → Nat × Nat := fun n => match n with
  | 13 => (4, 15)
  | _ => (0, 0)
theorem hkL_place : ∀ z ∈ qL_place.2.2.2.2, am_hok RL cL_place 5 am_cx9 ksL_place z := by
  intro z hz
  have hz : z ∈ [(0, 10, 13, 20)] := hz
  simp only [List.mem_cons, List.not_mem_nil, or_false] at hz
  rcases hz with rfl
  · exact ⟨by decide, by decide, am_lc20, am_ca2, by decide, Or.inr ⟨by decide +kernel, rfl⟩⟩
def ksL_plug : Nat → Nat × Nat := fun n => match n with
  | 15 => (5, 17)
  | _ => (0, 0)
theorem hkL_plug : ∀ z ∈ qL_plug.2.2.2.2, am_hok RL cL_plug 6 am_cx9 ksL_plug z := by
  intro z hz
  have hz : z ∈ [(0, 12, 15, 20)] := hz
  simp only [List.mem_cons, List.not_mem_nil, or_false] at hz
  rcases hz with rfl
  · exact ⟨by decide, by decide, am_lc20, am_ca2, by decide, Or.inr ⟨by decide +kernel, rfl⟩⟩
def ksL_above : Nat → Nat × Nat := fun n => match n with
  | 13 => (4, 15)
  | _ => (0, 0)
theorem hkL_above : ∀ z ∈ qL_above.2.2.2.2, am_hok RL cL_above 5 am_cx9 ksL_above z := by
  intro z hz
  have hz : z ∈ [(0, 10, 13, 20)] := hz
  simp only [List.mem_cons, List.not_mem_nil, or_false] at hz
  rcases hz with rfl
  · exact ⟨by decide, by decide, am_lc20, am_ca2, by decide, Or.inr ⟨by decide +kernel, rfl⟩⟩
def ksL_polarity : Nat → Nat × Nat := fun n => match n with
  | 13 => (4, 15)
  | _ => (0, 0)
theorem hkL_polarity : ∀ z ∈ qL_polarity.2.2.2.2, am_hok RL cL_polarity 5 am_cx9 ksL_polarity z := by
  intro z hz
  have hz : z ∈ [(0, 10, 13, 20)] := hz
  simp only [List.mem_cons, List.not_mem_nil, or_false] at hz
  rcases hz with rfl
  · exact ⟨by decide, by decide, am_lc20, am_ca2, by decide, Or.inr ⟨by decide +kernel, rfl⟩⟩
def ksL_countBelow : Nat → Nat × Nat := fun n => match n with
  | 13 => (4, 15)
  | _ => (0, 0)
theorem hkL_countBelow : ∀ z ∈ qL_countBelow.2.2.2.2, am_hok RL cL_countBelow 5 am_cx9 ksL_countBelow z := by
  intro z hz
  have hz : z ∈ [(0, 10, 13, 20)] := hz
  simp only [List.mem_cons, List.not_mem_nil, or_false] at hz
  rcases hz with rfl
  · exact ⟨by decide, by decide, am_lc20, am_ca2, by decide, Or.inr ⟨by decide +kernel, rfl⟩⟩
def ksL_nextBelow : Nat → Nat × Nat := fun n => match n with
  | 15 => (5, 17)
  | _ => (0, 0)
theorem hkL_nextBelow : ∀ z ∈ qL_nextBelow.2.2.2.2, am_hok RL cL_nextBelow 6 am_cx9 ksL_nextBelow z := by
  intro z hz
  have hz : z ∈ [(0, 12, 15, 20)] := hz
  simp only [List.mem_cons, List.not_mem_nil, or_false] at hz
  rcases hz with rfl
  · exact ⟨by decide, by decide, am_lc20, am_ca2, by decide, Or.inr ⟨by decide +kernel, rfl⟩⟩
def ksL_formulaChar : Nat → Nat × Nat := fun n => match n with
  | 13 => (4, 15)
  | _ => (0, 0)
theorem hkL_formulaChar : ∀ z ∈ qL_formulaChar.2.2.2.2, am_hok RL cL_formulaChar 5 am_cx9 ksL_formulaChar z := by
  intro z hz
  have hz : z ∈ [(0, 10, 13, 20)] := hz
  simp only [List.mem_cons, List.not_mem_nil, or_false] at hz
  rcases hz with rfl
  · exact ⟨by decide, by decide, am_lc20, am_ca2, by decide, Or.inr ⟨by decide +kernel, rfl⟩⟩
def ksL_entails : Nat → Nat × Nat := fun n => match n with
  | 20 => (4, 22)
  | _ => (0, 0)
theorem hkL_entails : ∀ z ∈ qL_entails.2.2.2.2, am_hok RL cL_entails 5 am_cx9 ksL_entails z := by
  intro z hz
  have hz : z ∈ [(0, 17, 20, 20)] := hz
  simp only [List.mem_cons, List.not_mem_nil, or_false] at hz
  rcases hz with rfl
  · exact ⟨by decide, by decide, am_lc20, am_ca2, by decide, Or.inr ⟨by decide +kernel, rfl⟩⟩
def ksL_classOf : Nat → Nat × Nat := fun n => match n with
  | 12 => (3, 13)
  | _ => (0, 0)
theorem hkL_classOf : ∀ z ∈ qL_classOf.2.2.2.2, am_hok RL cL_classOf 4 am_cx9 ksL_classOf z := by
  intro z hz
  have hz : z ∈ [(0, 9, 12, 20)] := hz
  simp only [List.mem_cons, List.not_mem_nil, or_false] at hz
  rcases hz with rfl
  · exact ⟨by decide, by decide, am_lc20, am_ca2, by decide, Or.inl ⟨3, by decide +kernel, rfl, rfl⟩⟩
def ksL_classes : Nat → Nat × Nat := fun n => match n with
  | 11 => (2, 12)
  | _ => (0, 0)
theorem hkL_classes : ∀ z ∈ qL_classes.2.2.2.2, am_hok RL cL_classes 3 am_cx9 ksL_classes z := by
  intro z hz
  have hz : z ∈ [(0, 8, 11, 15)] := hz
  simp only [List.mem_cons, List.not_mem_nil, or_false] at hz
  rcases hz with rfl
  · exact ⟨by decide, by decide, am_lc15, am_ca1, by decide, Or.inl ⟨2, by decide +kernel, rfl, rfl⟩⟩
def ksL_isWeak : Nat → Nat × Nat := fun n => match n with
  | 19 => (3, 20)
  | _ => (0, 0)
theorem hkL_isWeak : ∀ z ∈ qL_isWeak.2.2.2.2, am_hok RL cL_isWeak 4 am_cx9 ksL_isWeak z := by
  intro z hz
  have hz : z ∈ [(0, 16, 19, 20)] := hz
  simp only [List.mem_cons, List.not_mem_nil, or_false] at hz
  rcases hz with rfl
  · exact ⟨by decide, by decide, am_lc20, am_ca2, by decide, Or.inl ⟨3, by decide +kernel, rfl, rfl⟩⟩
def ksL_strongest : Nat → Nat × Nat := fun n => match n with
  | 11 => (2, 12)
  | _ => (0, 0)
theorem hkL_strongest : ∀ z ∈ qL_strongest.2.2.2.2, am_hok RL cL_strongest 3 am_cx9 ksL_strongest z := by
  intro z hz
  have hz : z ∈ [(0, 8, 11, 15)] := hz
  simp only [List.mem_cons, List.not_mem_nil, or_false] at hz
  rcases hz with rfl
  · exact ⟨by decide, by decide, am_lc15, am_ca1, by decide, Or.inl ⟨2, by decide +kernel, rfl, rfl⟩⟩
def ksL_setDomain : Nat → Nat × Nat := fun n => match n with
  | 12 => (3, 13)
  | _ => (0, 0)
theorem hkL_setDomain : ∀ z ∈ qL_setDomain.2.2.2.2, am_hok RL cL_setDomain 4 am_cx9 ksL_setDomain z := by
  intro z hz
  have hz : z ∈ [(0, 9, 12, 13)] := hz
  simp only [List.mem_cons, List.not_mem_nil, or_false] at hz
  rcases hz with rfl
  · exact ⟨by decide, by decide, am_lc13, am_ca0, by decide, Or.inl ⟨3, by decide +kernel, rfl, rfl⟩⟩
def ksL_arity : Nat → Nat × Nat := fun n => match n with
  | 12 => (3, 13)
  | _ => (0, 0)
theorem hkL_arity : ∀ z ∈ qL_arity.2.2.2.2, am_hok RL cL_arity 4 am_cx9 ksL_arity z := by
  intro z hz
  have hz : z ∈ [(0, 9, 12, 20)] := hz
  simp only [List.mem_cons, List.not_mem_nil, or_false] at hz
  rcases hz with rfl
  · exact ⟨by decide, by decide, am_lc20, am_ca2, by decide, Or.inl ⟨3, by decide +kernel, rfl, rfl⟩⟩
def ksL_setFact : Nat → Nat × Nat := fun n => match n with
  | 24 => (6, 26)
  | 28 => (6, 30)
  | _ => (0, 0)
theorem hkL_setFact : ∀ z ∈ qL_setFact.2.2.2.2, am_hok RL cL_setFact 7 am_cx9 ksL_setFact z := by
  intro z hz
  have hz : z ∈ [(0, 21, 24, 20), (0, 21, 28, 13)] := hz
  simp only [List.mem_cons, List.not_mem_nil, or_false] at hz
  rcases hz with rfl | rfl
  · exact ⟨by decide, by decide, am_lc20, am_ca2, by decide, Or.inr ⟨by decide +kernel, rfl⟩⟩
  · exact ⟨by decide, by decide, am_lc13, am_ca0, by decide, Or.inr ⟨by decide +kernel, rfl⟩⟩
def ksL_truth : Nat → Nat × Nat := fun n => match n with
  | 19 => (3, 20)
  | _ => (0, 0)
theorem hkL_truth : ∀ z ∈ qL_truth.2.2.2.2, am_hok RL cL_truth 4 am_cx9 ksL_truth z := by
  intro z hz
  have hz : z ∈ [(0, 16, 19, 20)] := hz
  simp only [List.mem_cons, List.not_mem_nil, or_false] at hz
  rcases hz with rfl
  · exact ⟨by decide, by decide, am_lc20, am_ca2, by decide, Or.inl ⟨3, by decide +kernel, rfl, rfl⟩⟩
def ksL_trueReadings : Nat → Nat × Nat := fun n => match n with
  | 11 => (2, 12)
  | _ => (0, 0)
theorem hkL_trueReadings : ∀ z ∈ qL_trueReadings.2.2.2.2, am_hok RL cL_trueReadings 3 am_cx9 ksL_trueReadings z := by
  intro z hz
  have hz : z ∈ [(0, 8, 11, 15)] := hz
  simp only [List.mem_cons, List.not_mem_nil, or_false] at hz
  rcases hz with rfl
  · exact ⟨by decide, by decide, am_lc15, am_ca1, by decide, Or.inl ⟨2, by decide +kernel, rfl, rfl⟩⟩
def ksL_nextDifferent : Nat → Nat × Nat := fun n => match n with
  | 12 => (3, 13)
  | 15 => (3, 16)
  | _ => (0, 0)
theorem hkL_nextDifferent : ∀ z ∈ qL_nextDifferent.2.2.2.2, am_hok RL cL_nextDifferent 4 am_cx9 ksL_nextDifferent z := by
  intro z hz
  have hz : z ∈ [(0, 9, 12, 15), (0, 9, 15, 20)] := hz
  simp only [List.mem_cons, List.not_mem_nil, or_false] at hz
  rcases hz with rfl | rfl
  · exact ⟨by decide, by decide, am_lc15, am_ca1, by decide, Or.inl ⟨3, by decide +kernel, rfl, rfl⟩⟩
  · exact ⟨by decide, by decide, am_lc20, am_ca2, by decide, Or.inl ⟨3, by decide +kernel, rfl, rfl⟩⟩
theorem am_hd3 {hh : List (Nat × Nat × Nat × Nat)} {ks : Nat → Nat × Nat} (h : hh.all (fun z => decide (am_cx9 z.2.2.2 < 3)) = true) : ∀ pc x, am_hd hh am_cx9 ks pc x ≠ none → x < 3 := by
  intro pc x hne
  unfold am_hd at hne
  cases hf : hh.find? (fun z => decide (z.1 ≤ pc) && decide (pc < z.2.1) && decide (am_cx9 z.2.2.2 = x)) with
  | none => rw [hf] at hne; exact absurd rfl hne
  | some z =>
    have h1 := List.find?_some hf
    simp only [Bool.and_eq_true, decide_eq_true_eq] at h1
    have h2 := List.all_eq_true.mp h z (List.mem_of_find?_eq_some hf)
    rw [← h1.2]
    exact of_decide_eq_true h2
