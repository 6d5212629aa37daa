/-! a program's check of the code: decode, lengths, jumps; what the tables say of links comes beside it -/
def am_isL : Instr → Bool
  | .getfield _ => true
  | .putfield _ => true
  | .ldc _ => true
  | .ldc_w _ => true
  | .ldc2_w _ => true
  | .newarray _ => true
  | .new _ => true
  | .invokevirtual _ => true
  | .invokespecial _ => true
  | .invokestatic _ => true
  | _ => false
def am_dkX (nL pc : Nat) (ins : Instr) (e1 : Nat) : Bool := match ins with
  | .istore i => decide (i < nL)
  | .istore_n i => decide ((i : Nat) < nL)
  | .lstore i => decide (i + 1 < nL)
  | .lstore_n i => decide ((i : Nat) + 1 < nL)
  | .astore i => decide (i < nL)
  | .astore_n i => decide ((i : Nat) < nL)
  | .iinc i _ => decide (i < nL)
  | .ifCond _ o => decide ((pc : Int) + o = (e1 : Int))
  | .if_icmp _ o => decide ((pc : Int) + o = (e1 : Int))
  | .goto o => decide ((pc : Int) + o = (e1 : Int))
  | .tableswitch d lo hi offs => decide (hi + 1 = lo + offs.size) && (List.range offs.size).all (fun j => decide ((Int32.ofInt (lo + j)).toInt = lo + j)) && decide (0 ≤ (pc : Int) + d) && offs.toList.all (fun o => decide (0 ≤ (pc : Int) + o))
  | .lookupswitch d ps => (ps.toList.zip (ps.toList.drop 1)).all (fun (a, next) => a.1 < next.1) && ps.toList.all (fun q => decide ((Int32.ofInt q.1).toInt = q.1)) && decide (0 ≤ (pc : Int) + d) && ps.toList.all (fun q => decide (0 ≤ (pc : Int) + q.2))
  | _ => true
def am_dk (cc : ByteArray) (nL : Nat) : List am_I → Bool
  | [] => true
  | q :: r => (match q.2.1 with
    | .nop => true
    | .swap => true
    | i => (match decode cc q.1 with
      | .ok x => decide (x.1 = i) && decide (x.2 = am_ln i q.2.2.2.2)
      | .error _ => false) && (!(am_seq i q.2.2.2.1) || decide (am_pc r = q.1 + am_ln i q.2.2.2.2)) && am_dkX nL q.1 i q.2.2.1) && am_dk cc nL r
def am_lks (own : String) (nL : Nat) (mt : List am_MI) (df : Nat → List (Option (Option Nat))) (init : Prop) : List am_I → Prop
  | [] => True
  | q :: r => match am_isL q.2.1 with
    | true => am_okX own nL mt df init q.1 q.2.1 q.2.2.1 q.2.2.2.1 q.2.2.2.2 ∧ am_lks own nL mt df init r
    | false => am_lks own nL mt df init r
theorem am_lsw_pos {pc : Nat} {d : Int} (hd : 0 ≤ (pc : Int) + d) : ∀ (l : List (Int × Int)), (∀ q ∈ l, 0 ≤ (pc : Int) + q.2) → ∀ z : Int, 0 ≤ (pc : Int) + Op.lookupswitch.offset l d z
  | [], _, _ => hd
  | (a, o) :: r, h, z => by
    simp only [Op.lookupswitch.offset]
    split
    · exact h _ List.mem_cons_self
    · exact am_lsw_pos hd r (fun q hq => h q (List.mem_cons_of_mem _ hq)) z
theorem am_dkX_ok {own : String} {nL : Nat} {mt : List am_MI} {df : Nat → List (Option (Option Nat))} {init : Prop} {pc : Nat} {i : Instr} {e1 e2 e3 : Nat} (h : am_dkX nL pc i e1 = true) (hl : am_isL i = false) : am_okX own nL mt df init pc i e1 e2 e3 := by
  cases i with
  | getfield _ => cases hl
  | putfield _ => cases hl
  | ldc _ => cases hl
  | ldc_w _ => cases hl
  | ldc2_w _ => cases hl
  | newarray _ => cases hl
  | new _ => cases hl
  | invokevirtual _ => cases hl
  | invokespecial _ => cases hl
  | invokestatic _ => cases hl
  | istore i => simp only [am_dkX, decide_eq_true_eq] at h; exact h
  | istore_n i => simp only [am_dkX, decide_eq_true_eq] at h; exact h
  | lstore i => simp only [am_dkX, decide_eq_true_eq] at h; exact h
  | lstore_n i => simp only [am_dkX, decide_eq_true_eq] at h; exact h
  | astore i => simp only [am_dkX, decide_eq_true_eq] at h; exact h
  | astore_n i => simp only [am_dkX, decide_eq_true_eq] at h; exact h
  | iinc i _ => simp only [am_dkX, decide_eq_true_eq] at h; exact h
  | ifCond _ o => simp only [am_dkX, decide_eq_true_eq] at h; exact h
  | if_icmp _ o => simp only [am_dkX, decide_eq_true_eq] at h; exact h
  | goto o => simp only [am_dkX, decide_eq_true_eq] at h; exact h
  | tableswitch d lo hi offs =>
    simp only [am_dkX, Bool.and_eq_true, decide_eq_true_eq, List.all_eq_true, List.mem_range] at h
    obtain ⟨⟨⟨h1, h2⟩, h3⟩, h4⟩ := h
    exact ⟨h1, h2, h3, h4⟩
  | lookupswitch d ps =>
    simp only [am_dkX, Bool.and_eq_true] at h
    obtain ⟨⟨⟨h1, h2⟩, h3⟩, h4⟩ := h
    exact ⟨h1, fun q hq => of_decide_eq_true (List.all_eq_true.mp h2 q hq), am_lsw_pos (of_decide_eq_true h3) _ (fun q hq => of_decide_eq_true (List.all_eq_true.mp h4 q hq))⟩
  | _ => exact trivial
theorem am_ok_of {own : String} {cc : ByteArray} {nL : Nat} {mt : List am_MI} {df : Nat → List (Option (Option Nat))} {init : Prop} : ∀ (r : List am_I), am_dk cc nL r = true → am_lks own nL mt df init r → am_okP own cc nL mt df init r
  | [], _, _ => trivial
  | q :: r, h, hl => by
    simp only [am_dk, Bool.and_eq_true] at h
    obtain ⟨h1, h2⟩ := h
    have hlr : am_lks own nL mt df init r := by
      simp only [am_lks] at hl
      split at hl
      · exact hl.2
      · exact hl
    refine ⟨?_, am_ok_of r h2 hlr⟩
    split at h1
    · rename_i h0; exact Or.inl h0
    · rename_i h0; exact Or.inr (Or.inl h0)
    · refine Or.inr (Or.inr ?_)
      simp only [Bool.and_eq_true] at h1
      obtain ⟨⟨h3, h4⟩, h5⟩ := h1
      refine ⟨?_, fun hs => ?_, ?_⟩
      · split at h3
        · rename_i x hx
          simp only [Bool.and_eq_true, decide_eq_true_eq] at h3
          obtain ⟨x1, x2⟩ := x
          obtain ⟨e1, e2⟩ := h3
          have e1 : x1 = q.2.1 := e1
          have e2 : x2 = am_ln q.2.1 q.2.2.2.2 := e2
          rw [hx, e1, e2]
        · cases h3
      · rw [hs] at h4
        simpa using h4
      · simp only [am_lks] at hl
        split at hl
        · exact hl.1
        · rename_i hi
          exact am_dkX_ok h5 hi
def am_blk (BL : List (Nat × List am_I)) (t : Nat) : List am_I := (BL.lookup t).getD []
theorem am_blk_mem {BL : List (Nat × List am_I)} {t : Nat} (h : am_blk BL t ≠ []) : (t, am_blk BL t) ∈ BL := by
  unfold am_blk at h ⊢
  cases hl : BL.lookup t with
  | none => rw [hl] at h; exact absurd rfl h
  | some x =>
    clear h
    induction BL with
    | nil => cases hl
    | cons y ys ih =>
      obtain ⟨a, b⟩ := y
      rw [List.lookup_cons] at hl
      by_cases hta : t = a
      · subst hta
        simp at hl
        subst hl
        exact List.mem_cons_self
      · have : (t == a) = false := by simp [hta]
        rw [this] at hl
        exact List.mem_cons_of_mem _ (ih hl)
def am_lkB (own : String) (nL : Nat) (mt : List am_MI) (df : Nat → List (Option (Option Nat))) (init : Prop) : List (Nat × List am_I) → Prop
  | [] => True
  | b :: r => am_lks own nL mt df init b.2 ∧ am_lkB own nL mt df init r
theorem am_lkB_mem {own : String} {nL : Nat} {mt : List am_MI} {df : Nat → List (Option (Option Nat))} {init : Prop} : ∀ {BL : List (Nat × List am_I)}, am_lkB own nL mt df init BL → ∀ b ∈ BL, am_lks own nL mt df init b.2
  | [], _, b, hb => by cases hb
  | c :: r, h, b, hb => (List.mem_cons.mp hb).elim (fun e => by rw [e]; exact h.1) (fun hb => am_lkB_mem h.2 b hb)
theorem am_code_of {mt : List am_MI} {df : Nat → List (Option (Option Nat))} {q : am_MI} {BL : List (Nat × List am_I)} (hp : plainName q.1.cls = true) (hd : BL.all (fun b => decide (am_pc b.2 = b.1) && am_dk q.2.1 q.2.2.1 b.2) = true) (hl : am_lkB q.1.cls q.2.2.1 mt df (q.1.name = "<init>") BL) : am_Code mt df q (am_blk BL) := by
  refine ⟨hp, fun t => ?_⟩
  by_cases h : am_blk BL t = []
  · rw [h]
    exact ⟨trivial, fun h0 => absurd rfl h0⟩
  · have hm := am_blk_mem h
    have h1 := List.all_eq_true.mp hd _ hm
    simp only [Bool.and_eq_true, decide_eq_true_eq] at h1
    exact ⟨am_ok_of _ h1.2 (am_lkB_mem hl _ hm), fun _ => h1.1⟩
def am_nTb (BL : List (Nat × List am_I)) : Bool := BL.all (fun b => b.2.all (fun x => match x.2.1 with
  | .new _ => decide (x.2.2.2.1 = 0)
  | _ => true))
theorem am_noT_of {BL : List (Nat × List am_I)} (h : am_nTb BL = true) : am_noT (am_blk BL) := by
  intro t x hx i hi
  have hm := am_blk_mem (BL := BL) (t := t) (fun h0 => by rw [h0] at hx; cases hx)
  have h1 := List.all_eq_true.mp (List.all_eq_true.mp h _ hm) x hx
  rw [hi] at h1
  exact of_decide_eq_true h1
