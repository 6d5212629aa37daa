/-! THE CLAIM OUT OF ONE WALK OF THE LAW'S BODY. Your part is whole_start (and what it stands on); all else here is the same for every law, but numbers. -/
def R_law : String := "ScopeListerLaw"
def lw_P (b : Addr) (xs : List Int32) (args : Array Value) (s : State) : Prop := args = #[.ref b] ∧ s.IntsAt b xs ∧ xs.length ≤ 2560 ∧ (Jvm.Cond.and given_1 narrow_1).before args s = true
def lw_Q (_ : Array Value) (s : State) (o : Outcome) (t : State) : Prop := o = .returned (some (.int 1)) ∧ Framed s o t [] 601024 7293034
def lw_Z (below : List Frame) (a : Array Value) (s : State) : State → Prop := fun t => ∃ o, t.status = .running ∧ Ended t below o ∧ lw_Q a s o t
/-- the law's own end, with 1 on the stack, nothing written that was there before, its room as the claim has it -/
theorem lw_ret {p : Program} {l : Launch} {e : Env} {s : State} {m : MethodId} {below : List Frame} {meth : Method} {c : Code} {b : Nat} (hx : p.tables.exec = Jvm.exec) (hb : c.code = code) (hr : meth.sig.returnType = ret) (hlocks : meth.locks = false) {pc : Nat} {H : Heap} {ls : Array Slot} (hdg : decode code pc = .ok (.ireturn, 1)) : W p l e room_1 s m #[Value.ref b] below meth c H [] 601024 7293034 (lw_Z below #[Value.ref b] s) (F0 m pc ls [.int 1]) := by
  intro T hT X
  obtain ⟨fs, hret, hrun, hended, hW, hframe⟩ := X.leave (v := some (.int 1)) (hlocks := hlocks) (fun h => by rw [hr] at h; cases h)
  have hmeth' : T.vm.method? m = some meth := X.method'
  refine ⟨T.setFrames fs, ?_, .returned (some (.int 1)), hrun, hended, rfl, ⟨_, rfl⟩, hW, hframe⟩
  jvm_step X.here [X.here.top, hx, hb, hdg, hmeth', hr, ret, narrow_b1]
  (try refine ⟨rfl, ?_⟩); (try refine ⟨rfl, ?_⟩)
  first | (intro acts; rw [hret _ acts rfl rfl rfl]) | rw [hret _ _ rfl rfl rfl]
  exact Steps.refl _
/-- what holds at the law's entry: the machine, the code, the tables' words (any of lw_tbl by 'hts w (by decide +kernel)'), the script of L ints xs at the cell b, what the Statement gives of the start (any of its parts by flat_of_before) -/
def lw_At (p : Program) (s : State) (m : MethodId) (meth : Method) (c : Code) (b L : Nat) (xs : Nat → Int32) : Prop :=
  p.tables.exec = Jvm.exec ∧ c.code = code ∧ meth.sig.returnType = ret ∧ c.maxLocals = 7 ∧ s.vm.findClass R_law = some m.cls ∧ (∀ w ∈ lw_tbl, w.before #[Value.ref b] s = true) ∧ va_X b L xs s s.heap ∧ b < s.heap.size ∧ meth.locks = false ∧ (Jvm.Cond.and given_1 narrow_1).before #[Value.ref b] s = true
theorem am_inst_all : ∀ (ci : Nat) (q : vw_C), vwCl[ci]? = some q → Cond.instantiable q.1 q.2.2 ∈ am_T := by
  intro ci q h
  match ci, h with
  | 0, h => cases h; exact (am_T_in (i := 261) (by decide +kernel) rfl)
  | 1, h => cases h; exact (am_T_in (i := 442) (by decide +kernel) rfl)
  | 2, h => cases h; exact (am_T_in (i := 330) (by decide +kernel) rfl)
  | 3, h => cases h; exact (am_T_in (i := 367) (by decide +kernel) rfl)
  | 4, h => cases h; exact (am_T_in (i := 413) (by decide +kernel) rfl)
  | 5, h => cases h; exact (am_T_in (i := 311) (by decide +kernel) rfl)
  | 6, h => cases h; exact (am_T_in (i := 291) (by decide +kernel) rfl)
  | 7, h => cases h; exact (am_T_in (i := 165) (by decide +kernel) rfl)
  | 8, h => cases h; exact (am_T_in (i := 239) (by decide +kernel) rfl)
  | 9, h => cases h; exact (am_T_in (i := 157) (by decide +kernel) rfl)
  | 10, h => cases h; exact (am_T_in (i := 1246) (by decide +kernel) rfl)
  | n + 11, h => simp at h
theorem am_arr0 : Cond.arrayClass (am_ty 0) ∈ am_T := (am_T_in (i := 237) (by decide +kernel) rfl)
theorem am_arr1 : Cond.arrayClass (am_ty 1) ∈ am_T := (am_T_in (i := 309) (by decide +kernel) rfl)
theorem am_arr2 : Cond.arrayClass (am_ty 2) ∈ am_T := (am_T_in (i := 411) (by decide +kernel) rfl)
theorem am_arr3 : Cond.arrayClass (am_ty 3) ∈ am_T := (am_T_in (i := 1405) (by decide +kernel) rfl)
def am_tm (i : Nat) : Term := match am_strs[i]? with
  | some t => .string t.1 t.2.1
  | none => .string "" 0
theorem am_tm_of {i : Nat} {t : String × Nat × String} (h : am_strs[i]? = some t) : am_tm i = .string t.1 t.2.1 := by simp only [am_tm, h]
def am_fC : List Cond := flatC (Jvm.Cond.and given_1 narrow_1)
theorem am_f1 : ∀ i, i < 7 → Cond.exactly (am_tm i) "java/lang/String" ∈ am_fC := by decide +kernel
theorem am_f2' : ∀ i, i < 7 → Cond.eq (.field (am_tm i) "java/lang/String" "coder" "B") (.int 0) ∈ am_fC := by decide +kernel
theorem am_f3' : ∀ i, i < 7 → Cond.arrayOf (.field (am_tm i) "java/lang/String" "value" "[B") .byte ∈ am_fC := by decide +kernel
theorem am_f4 : ∀ i, i < 7 → Cond.eq (.length (.field (am_tm i) "java/lang/String" "value" "[B")) (.int (Int32.ofNat (am_len.getD i 0))) ∈ am_fC := by decide +kernel
theorem am_f5 : ∀ i, i < 7 → ∀ j, j < am_len.getD i 0 → Cond.eq (.elem (.field (am_tm i) "java/lang/String" "value" "[B") (.int (Int32.ofNat j))) (.int ((am_byt.getD i []).getD j 0)) ∈ am_fC := by decide +kernel
theorem am_f6 : ∀ i, i < 7 → ∀ j, j < 7 → i ≠ j → Cond.not (Cond.eq (am_tm i) (am_tm j)) ∈ am_fC ∨ Cond.not (Cond.eq (am_tm j) (am_tm i)) ∈ am_fC := by decide +kernel
theorem am_f7 : ∀ x, x < 3 → ∀ y, y < 3 → x ≠ y → Cond.not (Cond.castable (am_xn x) (am_xn y)) ∈ am_fC := by decide +kernel
theorem am_f8 : Cond.eq (.static "java/lang/String" "COMPACT_STRINGS" "Z") (.int 1) ∈ am_fC ∧ Cond.isRef (.static "jdk/internal/util/Preconditions" "SIOOBE_FORMATTER" "Ljava/util/function/BiFunction;") ∈ am_fC ∧ Cond.isRef (.static Bundle.tN "UNASSIGNED_STACK" Bundle.steD) ∈ am_fC ∧ Cond.isRef (.static Bundle.tN "SUPPRESSED_SENTINEL" Bundle.listD) ∈ am_fC := by decide +kernel
theorem am_f9 : Cond.laysStatic "java/lang/String" "COMPACT_STRINGS" "Z" ∈ lw_tbl ∧ Cond.initialized "java/lang/String" ∈ lw_tbl ∧ Cond.laysStatic "jdk/internal/util/Preconditions" "SIOOBE_FORMATTER" "Ljava/util/function/BiFunction;" ∈ lw_tbl ∧ Cond.initialized "jdk/internal/util/Preconditions" ∈ lw_tbl ∧ Cond.laysStatic Bundle.tN "UNASSIGNED_STACK" Bundle.steD ∈ lw_tbl ∧ Cond.laysStatic Bundle.tN "SUPPRESSED_SENTINEL" Bundle.listD ∈ lw_tbl ∧ Cond.initialized Bundle.tN ∈ lw_tbl := by decide +kernel
theorem am_f10 : ∀ t ∈ am_strs, Cond.stringRef t.1 t.2.1 t.2.2 ∈ lw_tbl ∧ Cond.initialized t.1 ∈ lw_tbl := by decide +kernel
theorem am_find_ini {args : Array Value} {s : State} {C : String} (h : (Cond.initialized C).before args s = true) : ∃ c, s.vm.findClass C = some c := by
  cases hc : s.vm.findClass C with
  | some c => exact ⟨c, rfl⟩
  | none => simp [Cond.before, Cond.holds, Cond.value, hc] at h
set_option maxHeartbeats 4000000 in
theorem am_start {p : Program} {s : State} {m : MethodId} {meth : Method} {c : Code} {b L : Nat} {xs : Nat → Int32} (l : Launch) (hflags : l.flags = flags0) (C0 : lw_At p s m meth c b L xs) :
    ∃ g : am_G, g.1 = l ∧ g.2.1 = s.heap.size ∧ g.2.2.2.1 = b ∧ am_X p g s m #[Value.ref b] meth c R_law code 7 := by
  obtain ⟨hx, hb, hr, hml, hown, hts, hX, hbl, hlk, hgv⟩ := C0
  have hf := flat_of_before _ hgv
  have hT : ∀ w ∈ am_T, w.before #[Value.ref b] s = true := fun w hw => hts w (List.mem_filter.mp hw).1
  have hA : ∀ a : Nat, a < s.heap.size → ¬ (fun q => s.heap.size ≤ q) a := fun a h1 h2 => absurd h2 (by show ¬ s.heap.size ≤ a; omega)
  have hD : ∀ ci : Nat, ∃ x : ClassId × (Nat → Nat), ∀ q : vw_C, vwCl[ci]? = some q → u_Kn s q.1 q.2.1 q.2.2 x.1 x.2 := by
    intro ci
    cases hq : vwCl[ci]? with
    | none => exact ⟨(0, fun _ => 0), fun q h => by cases h⟩
    | some q =>
      obtain ⟨cC, iS, hk⟩ := u_known hT (am_cls_all ci q hq).1 (hT _ (am_inst_all ci q hq))
      exact ⟨(cC, iS), fun q' h => by cases h; exact hk⟩
  have hC : ∀ t : Nat, ∃ cA : ClassId, t < 4 → ArrOfT s cA (am_ty t) ∧ va_RA s cA (am_ty t) := by
    intro t
    by_cases ht : t < 4
    · have hm : Cond.arrayClass (am_ty t) ∈ am_T := by
        match t, ht with
        | 0, _ => exact am_arr0
        | 1, _ => exact am_arr1
        | 2, _ => exact am_arr2
        | 3, _ => exact am_arr3
      obtain ⟨cA, kA, comp, h1, h2, h3⟩ := Cond.arrayClass_spec (hT _ hm)
      refine ⟨cA, fun _ => ⟨fun n z => ⟨fun k h => (by cases h), kA, h2, comp, h3⟩, ?_⟩⟩
      match t, ht with
      | 0, _ => exact h1
      | 1, _ => exact h1
      | 2, _ => exact h1
      | 3, _ => exact h1
    · exact ⟨0, fun h => absurd h ht⟩
  obtain ⟨adK, adV, hS, hev⟩ := vk_Sof (args := #[Value.ref b]) (s := s) (N := 7) (tm := am_tm) (len := am_len) (byt := am_byt) (A := fun q => s.heap.size ≤ q) (by decide) (fun i hi => hf _ (am_f1 i hi)) (fun i hi => hf _ (am_f2' i hi)) (fun i hi => hf _ (am_f3' i hi)) (fun i hi => hf _ (am_f4 i hi)) (fun i hi j hj => hf _ (am_f5 i hi j hj)) (fun i j hi hj hne => (am_f6 i hi j hj hne).elim (fun h => Or.inl (hf _ h)) (fun h => Or.inr (hf _ h))) hA
  have hR : ∀ i : Nat, ∃ a : Nat, ∀ t, am_strs[i]? = some t → vk_R t.1 t.2.1 t.2.2 a s := by
    intro i
    cases ht : am_strs[i]? with
    | none => exact ⟨0, fun t h => by cases h⟩
    | some t =>
      obtain ⟨w1, w2⟩ := am_f10 t (List.mem_of_getElem? ht)
      obtain ⟨cc, hcc⟩ := am_find_ini (hts _ w2)
      obtain ⟨_, _, _, a, -, -, -, -, -, hev9⟩ := Cond.stringRef_spec hcc (hts _ w1)
      exact ⟨a, fun t' h => by cases h; exact vk_R.of (hts _ w1) hev9⟩
  let adA : Nat → Nat := fun i => if i < 7 then adK i else if 100 ≤ i then adV (i - 100) else Classical.choose (hR i)
  let g : am_G := (l, s.heap.size, adA, b, (fun ci => (Classical.choose (hD ci)).1, fun ci => (Classical.choose (hD ci)).2), fun t => Classical.choose (hC t))
  obtain ⟨z1, z2, z3, z4⟩ := am_f8
  obtain ⟨y1, y2, y3, y4, y5, y6, y7⟩ := am_f9
  refine ⟨g, rfl, rfl, rfl, hx, hb, hml, hown, hT, ⟨⟨fun ci q hq => Classical.choose_spec (hD ci) q hq, ?_⟩, ?_, ?_, ?_, ?_, ?_, ?_, ?_, ?_, ?_⟩, Nat.le_refl _, hlk⟩
  · intro k q hq
    match k, hq with
    | 0, hq => cases hq; exact Classical.choose_spec (hC 0) (by decide)
    | 1, hq => cases hq; exact Classical.choose_spec (hC 1) (by decide)
    | 2, hq => cases hq; exact Classical.choose_spec (hC 2) (by decide)
    | 3, hq => cases hq; exact Classical.choose_spec (hC 3) (by decide)
    | n + 4, hq => simp [am_tys] at hq
  · intro i t ht
    show vk_R t.1 t.2.1 t.2.2 (adA i) s
    by_cases hi : i < 7
    · have e1 : adA i = adK i := by simp only [adA, if_pos hi]
      rw [e1]
      obtain ⟨w1, w2⟩ := am_f10 t (List.mem_of_getElem? ht)
      have h9 := hev i hi
      rw [am_tm_of ht] at h9
      exact vk_R.of (hts _ w1) h9
    · have hlt : i < 21 := (List.getElem?_eq_some_iff.mp ht).1
      have e1 : adA i = Classical.choose (hR i) := by simp only [adA, if_neg hi]; rw [if_neg (by omega)]
      rw [e1]
      exact Classical.choose_spec (hR i) t ht
  · refine ⟨fun i hi => ?_, fun i j hi hj h => ?_⟩
    · have e1 : adA i = adK i := by simp only [adA, if_pos hi]
      have e2 : adA (100 + i) = adV i := by
        simp only [adA]
        rw [if_neg (by omega), if_pos (by omega), Nat.add_sub_cancel_left]
      show va_O _ (adA i) _ _ _ ∧ va_OF _ _ _ _ (adA i) _ _ _ ∧ va_OF _ _ _ (.ref (adA (100 + i))) (adA i) _ _ _ ∧ va_T _ (adA (100 + i)) _ _ _ _ _
      rw [e1, e2]
      exact hS.1 i hi
    · have e1 : adA i = adK i := by simp only [adA, if_pos hi]
      have e2 : adA j = adK j := by simp only [adA, if_pos hj]
      have h : adA i = adA j := h
      rw [e1, e2] at h
      exact hS.2 i j hi hj h
  · exact va_Zof (hts _ y1) (hts _ y2) (va_eqv (hf _ z1) rfl) hA
  · exact va_Zqof (hts _ y3) (hts _ y4) (hf _ z2) hA
  · exact vx_Zqof (hts _ y5) (hts _ y7) (hf _ z3) hA
  · exact vx_Zqof (hts _ y6) (hts _ y7) (hf _ z4) hA
  · exact fun w hw => va_Nw.of (am_onT hw) (hts w (List.mem_filter.mp hw).1)
  · show l.stackTraces = false
    unfold Launch.stackTraces
    rw [hflags]
    decide +kernel
  · exact fun x y hx hy hne => va_Nc.of (hf _ (am_f7 x hx y hy hne))
