/-- the length of an instruction -/
def am_ln (ins : Instr) (e3 : Nat) : Nat := match ins with
  | .bipush _ => 2
  | .sipush _ => 3
  | .ldc _ => 2
  | .ldc_w _ => 3
  | .ldc2_w _ => 3
  | .iload _ => 2
  | .lload _ => 2
  | .aload _ => 2
  | .istore _ => 2
  | .lstore _ => 2
  | .astore _ => 2
  | .iinc _ _ => 3
  | .ifCond _ _ => 3
  | .if_icmp _ _ => 3
  | .goto _ => 3
  | .getfield _ => 3
  | .putfield _ => 3
  | .invokevirtual _ => 3
  | .invokestatic _ => 3
  | .invokespecial _ => 3
  | .new _ => 3
  | .newarray _ => 2
  | .tableswitch _ _ _ _ => e3
  | .lookupswitch _ _ => e3
  | _ => 1
def am_seq (ins : Instr) (e2 : Nat) : Bool := match ins with
  | .goto _ => false
  | .tableswitch _ _ _ _ => false
  | .lookupswitch _ _ => false
  | .ireturn => false
  | .lreturn => false
  | .areturn => false
  | .return_ => false
  | .new _ => e2 == 0
  | _ => true
/-- what the tables must say of an instruction -/
def am_okX (own : String) (nL : Nat) (mt : List am_MI) (df : Nat → List (Option (Option Nat))) (init : Prop) (pc : Nat) (ins : Instr) (e1 e2 e3 : Nat) : Prop := match ins with
  | .istore i => i < nL
  | .istore_n i => (i : Nat) < nL
  | .lstore i => i + 1 < nL
  | .lstore_n i => (i : Nat) + 1 < nL
  | .astore i => i < nL
  | .astore_n i => (i : Nat) < nL
  | .iinc i _ => i < nL
  | .ifCond _ o => (pc : Int) + o = (e1 : Int)
  | .if_icmp _ o => (pc : Int) + o = (e1 : Int)
  | .goto o => (pc : Int) + o = (e1 : Int)
  | .tableswitch d lo hi offs => hi + 1 = lo + offs.size ∧ (∀ j : Nat, j < offs.size → (Int32.ofInt (lo + j)).toInt = lo + j) ∧ 0 ≤ (pc : Int) + d ∧ ∀ o ∈ offs.toList, 0 ≤ (pc : Int) + o
  | .lookupswitch d ps => (ps.toList.zip (ps.toList.drop 1)).all (fun (a, next) => a.1 < next.1) = true ∧ (∀ q ∈ ps.toList, (Int32.ofInt q.1).toInt = q.1) ∧ ∀ z : Int, 0 ≤ (pc : Int) + Op.lookupswitch.offset ps.toList d z
  | .getfield i => am_fl own i e1 e2
  | .putfield i => am_pf own i e1 e2 e3 ∧ (e3 / 10 = 2 → init)
  | .ldc i => ∃ tx, am_strs[e1]? = some (own, i, tx)
  | .ldc_w i => ∃ tx, am_strs[e1]? = some (own, i, tx)
  | .ldc2_w i => Cond.constantLong own i (Int64.ofNat e1) ∈ am_T
  | .newarray a => e1 < 4 ∧ newarray.typeOf a = am_ty e1 ∧ Cond.arrayClass (am_ty e1) ∈ am_T
  | .new i => e2 = 0 → ∃ (C : String) (T : u_T) (N : Nat), vwCl[e1]? = some (C, T, N) ∧ am_dfk (C, T, N) (df e1) = true ∧ Cond.classLink own i C ∈ am_T ∧ Cond.instantiable C N ∈ am_T ∧ Cond.initialized C ∈ am_T
  | .invokevirtual i => ∃ (q : am_MI) (n : Nat), mt[e1]? = some q ∧ am_mok q n ∧ e2 = n + 1 ∧ am_lnk own i q (e3 / 1000) ∧ (e3 / 1000 = 0 ∨ e3 / 1000 = 1) ∧ (e3 / 100 % 10 ≠ 0 → e3 / 1000 = 0) ∧ (if e3 % 100 = 99 then q.1.cls = "java/lang/String" else ∃ r : vw_C, vwCl[e3 % 100]? = some r ∧ r.1 = q.1.cls)
  | .invokespecial i => if e1 = 900 then Cond.methodLink own i objectInit ∈ am_T ∧ Cond.instanceMethod objectInit ∈ am_T ∧ Cond.code objectInit ⟨#[0xb1]⟩ 1 none ∈ am_T else ∃ (q : am_MI) (n : Nat), mt[e1]? = some q ∧ am_mok q n ∧ e2 = n + 1 ∧ am_lnk own i q (e3 / 1000) ∧ (e3 / 1000 = 4 ∨ e3 / 1000 = 5)
  | .invokestatic i => if e1 = 901 then Cond.methodLink own i arraycopyName ∈ am_T ∧ Cond.native arraycopyName ∈ am_T ∧ Cond.static arraycopyName ∈ am_T ∧ Cond.initialized "java/lang/System" ∈ am_T else ∃ (q : am_MI) (n : Nat), mt[e1]? = some q ∧ am_mok q n ∧ e2 = n ∧ am_lnk own i q (e3 / 1000) ∧ (e3 / 1000 = 2 ∨ e3 / 1000 = 3 ∨ e3 / 1000 = 6)
  | _ => True
def am_pc : List am_I → Nat
  | [] => 0
  | q :: _ => q.1
/-- the code is as it is told -/
def am_okP (own : String) (cc : ByteArray) (nL : Nat) (mt : List am_MI) (df : Nat → List (Option (Option Nat))) (init : Prop) : List am_I → Prop
  | [] => True
  | q :: r => (q.2.1 = .nop ∨ q.2.1 = .swap ∨ (decode cc q.1 = .ok (q.2.1, am_ln q.2.1 q.2.2.2.2) ∧ (am_seq q.2.1 q.2.2.2.1 = true → am_pc r = q.1 + am_ln q.2.1 q.2.2.2.2) ∧ am_okX own nL mt df init q.1 q.2.1 q.2.2.1 q.2.2.2.1 q.2.2.2.2)) ∧ am_okP own cc nL mt df init r
section AMZ
variable {p : Program} {g : am_G} {e : Env} {R : Room} {s : State} {m : MethodId} {args : Array Value} {below : List Frame} {meth : Method} {c : Code} {Q : State → Prop} {nL h : Nat} {cc : ByteArray} {own : String} {mt : List am_MI} {df : Nat → List (Option (Option Nat))} {E : am_Env}
/-- what the stretch leans on is right -/
def am_HE (p : Program) (g : am_G) (e : Env) (R : Room) (s : State) (m : MethodId) (args : Array Value) (below : List Frame) (meth : Method) (c : Code) (Q : State → Prop) (nL h : Nat) (cc : ByteArray) (mt : List am_MI) (E : am_Env) : Prop :=
  (∀ pc lv st M k n, E.1 pc lv st M k n → am_S p g e R s m args below meth c Q E.2.2.2.2.2.1 nL pc lv st M k n) ∧
  (∀ pc lv r M k n, E.2.1 r M k n → ((∃ v, r = some (.int v) ∧ decode cc pc = .ok (.ireturn, 1)) ∨ (∃ v, r = some (.long v) ∧ decode cc pc = .ok (.lreturn, 1)) ∨ (∃ v, r = some (.ref v) ∧ decode cc pc = .ok (.areturn, 1)) ∨ (r = none ∧ decode cc pc = .ok (.return_, 1))) → am_S p g e R s m args below meth c Q E.2.2.2.2.2.1 nL pc lv r.toList M k n) ∧
  (∀ pc lv rest x M k n, E.2.2.2.2.2.2.2.2 pc x = none → E.2.2.1 x M k n → am_SX p g e R s m args below meth c Q E.2.2.2.2.2.1 nL pc lv rest x M k n) ∧
  (∀ pc lv rest x q M k n, E.2.2.2.2.2.2.2.2 pc x = some q → am_S p g e R s m args below meth c Q E.2.2.2.2.2.1 nL q.2 (am_rm q.1 lv) [] M k n → am_SX p g e R s m args below meth c Q E.2.2.2.2.2.1 nL pc lv rest x M k n) ∧
  (∀ mi av M mc ms P, E.2.2.2.1 mi av M mc ms P → am_Ctr g mt E.2.2.2.2.2.1 h mi av M mc ms P) ∧
  (∀ mi av M mc ms P X, E.2.2.2.2.1 mi av M mc ms P X → am_CtrX g mt E.2.2.2.2.2.1 h mi av M mc ms P X) ∧
  (R.cells = E.2.2.2.2.2.2.1.1 ∧ R.slots = E.2.2.2.2.2.2.1.2 ∧ h + 7 ≤ R.frames ∧ 80 * (h + 1) + 480 ≤ R.locals) ∧
  (∀ q, E.2.2.2.2.2.2.2.1 = some q → va_X g.2.2.2.1 q.1 q.2 s s.heap ∧ g.2.2.2.1 < s.heap.size ∧ ¬ am_A g g.2.2.2.1)
/-- throws of the method's own -/
def am_HT (p : Program) (g : am_G) (e : Env) (R : Room) (s : State) (m : MethodId) (args : Array Value) (below : List Frame) (meth : Method) (c : Code) (Q : State → Prop) (nL : Nat) (E : am_Env) (q : am_I) : Prop :=
  ∀ i, q.2.1 = .new i → q.2.2.2.1 ≠ 0 → ∀ lv st M k n, am_sum st ≤ 8 → E.2.2.2.2.2.1 = 1 → k + 1 ≤ E.2.2.2.2.2.2.1.1 → n + 6 ≤ E.2.2.2.2.2.2.1.2 → E.2.2.1 q.2.2.1 M (k + 1) (n + 6) → am_S p g e R s m args below meth c Q E.2.2.2.2.2.1 nL q.1 lv st M k n
theorem am_isI_of {v : Value} (h : am_isI v) : ∃ x, v = .int x := by cases v <;> first | exact ⟨_, rfl⟩ | exact h.elim
theorem am_isJ_of {v : Value} (h : am_isJ v) : ∃ x, v = .long x := by cases v <;> first | exact ⟨_, rfl⟩ | exact h.elim
theorem am_isR_of {v : Value} (h : am_isR v) : ∃ x, v = .ref x := by cases v <;> first | exact ⟨_, rfl⟩ | exact h.elim
theorem am_ld_of {o : Option Value} {P : Value → Prop} (h : am_ld o P) : ∃ v, o = some v ∧ P v := by
  cases o with
  | none => exact h.elim
  | some v => exact ⟨v, rfl, h⟩
theorem am_rcv_of (X : am_X p g s m args meth c own cc nL) {ph ci a : Nat} {M : am_M} {cls : String} (h : am_rcv M ci a) (hc : if ci = 99 then cls = "java/lang/String" else ∃ r : vw_C, vwCl[ci]? = some r ∧ r.1 = cls) : ∀ H locs, am_W g ph M H → va_S (am_A g) s.heap H locs → ∃ cell : Cell, H[am_ad g a]? = some cell ∧ cell.vm.isStatics = false ∧ s.vm.findClass cls = some cell.cls := by
  intro H locs hW hS
  obtain ⟨hx, hb, hml, hown, hts, hE, hbs, hlk⟩ := X
  unfold am_rcv at h
  by_cases h99 : ci = 99
  · rw [if_pos h99] at h hc
    obtain ⟨cell, g1, g2, g3⟩ := vk_recv (i := a - 1000) hE.2.2.1 (by omega) hS
    refine ⟨cell, ?_, g2, by rw [hc]; exact g3⟩
    have : am_ad g a = g.2.2.1 (a - 1000) := by
      simp only [am_ad]
      rw [if_neg (by omega), if_neg (by omega)]
    rw [this]
    exact g1
  · rw [if_neg h99] at h hc
    obtain ⟨fl, hM⟩ := h
    obtain ⟨r, hr, rfl⟩ := hc
    rw [am_ad_lt (hW.lt hM)]
    exact va_recv hE.1 hW.1 hr (am_img_at hM)

theorem am_one (X : am_X p g s m args meth c own cc nL) (hE : am_HE p g e R s m args below meth c Q nL h cc mt E) {init : Prop} (hinit : init → meth.name = "<init>") {pc nxt : Nat} {ins : Instr} {e1 e2 e3 : Nat}
    (hd : decode cc pc = .ok (ins, am_ln ins e3)) (hnx : am_seq ins e2 = true → nxt = pc + am_ln ins e3) (hok : am_okX own nL mt df init pc ins e1 e2 e3) (hT : am_HT p g e R s m args below meth c Q nL E (pc, ins, e1, e2, e3))
    {lv : am_L} {st : List Value} {M : am_M} {k n : Nat} {nx : am_K} {jp : am_Cut} (hnop : ins ≠ .nop ∧ ins ≠ .swap)
    (kn : ∀ lv st M k n, nx lv st M k n → am_S p g e R s m args below meth c Q E.2.2.2.2.2.1 nL nxt lv st M k n) (kj : ∀ t lv st M k n, jp t lv st M k n → am_S p g e R s m args below meth c Q E.2.2.2.2.2.1 nL t lv st M k n)
    (hs : am_stp E df pc ins e1 e2 e3 lv st M k n nx jp) : am_S p g e R s m args below meth c Q E.2.2.2.2.2.1 nL pc lv st M k n := by
  obtain ⟨hC, hRP, hXP, hHd, hKC, hKX, ⟨hR1, hR2, hR3, hR4⟩, hScr⟩ := hE
  have hx := X.1
  have hb := X.2.1
  cases ins with
  | nop => exact absurd rfl hnop.1
  | swap => exact absurd rfl hnop.2
  | iconst i =>
    have hnx := hnx rfl
    subst hnx
    exact am_s_iconst hx hb hd (kn _ _ _ _ _ hs)
  | bipush i =>
    have hnx := hnx rfl
    subst hnx
    exact am_s_bipush hx hb hd (kn _ _ _ _ _ hs)
  | sipush i =>
    have hnx := hnx rfl
    subst hnx
    exact am_s_sipush hx hb hd (kn _ _ _ _ _ hs)
  | lconst i =>
    have hnx := hnx rfl
    subst hnx
    exact am_s_lconst hx hb hd (kn _ _ _ _ _ hs)
  | ldc i =>
    have hnx := hnx rfl
    subst hnx
    obtain ⟨tx, htx⟩ := hok
    exact am_s_ldc X hd htx (kn _ _ _ _ _ hs)
  | ldc_w i =>
    have hnx := hnx rfl
    subst hnx
    obtain ⟨tx, htx⟩ := hok
    exact am_s_ldcw X hd htx (kn _ _ _ _ _ hs)
  | ldc2_w i =>
    have hnx := hnx rfl
    subst hnx
    exact am_s_ldc2 X hd hok (kn _ _ _ _ _ hs)
  | iload i =>
    have hnx := hnx rfl
    subst hnx
    obtain ⟨v, hv, h1, h2⟩ := am_ld_of hs
    obtain ⟨x, rfl⟩ := am_isI_of h1
    exact am_s_iload hx hb hd hv (kn _ _ _ _ _ h2)
  | iload_n i =>
    have hnx := hnx rfl
    subst hnx
    obtain ⟨v, hv, h1, h2⟩ := am_ld_of hs
    obtain ⟨x, rfl⟩ := am_isI_of h1
    exact am_s_iload_n hx hb hd hv (kn _ _ _ _ _ h2)
  | lload i =>
    have hnx := hnx rfl
    subst hnx
    obtain ⟨v, hv, h1, h2⟩ := am_ld_of hs
    obtain ⟨x, rfl⟩ := am_isJ_of h1
    exact am_s_lload hx hb hd hv (kn _ _ _ _ _ h2)
  | lload_n i =>
    have hnx := hnx rfl
    subst hnx
    obtain ⟨v, hv, h1, h2⟩ := am_ld_of hs
    obtain ⟨x, rfl⟩ := am_isJ_of h1
    exact am_s_lload_n hx hb hd hv (kn _ _ _ _ _ h2)
  | aload i =>
    have hnx := hnx rfl
    subst hnx
    obtain ⟨v, hv, h1, h2⟩ := am_ld_of hs
    obtain ⟨x, rfl⟩ := am_isR_of h1
    exact am_s_aload hx hb hd hv (kn _ _ _ _ _ h2)
  | aload_n i =>
    have hnx := hnx rfl
    subst hnx
    obtain ⟨v, hv, h1, h2⟩ := am_ld_of hs
    obtain ⟨x, rfl⟩ := am_isR_of h1
    exact am_s_aload_n hx hb hd hv (kn _ _ _ _ _ h2)
  | istore i =>
    have hnx := hnx rfl
    subst hnx
    simp only [am_stp] at hs
    split at hs
    · exact am_s_istore hx hb hd hok (kn _ _ _ _ _ hs)
    · exact hs.elim
  | istore_n i =>
    have hnx := hnx rfl
    subst hnx
    simp only [am_stp] at hs
    split at hs
    · exact am_s_istore_n hx hb hd hok (kn _ _ _ _ _ hs)
    · exact hs.elim
  | lstore i =>
    have hnx := hnx rfl
    subst hnx
    simp only [am_stp] at hs
    split at hs
    · exact am_s_lstore hx hb hd hok (kn _ _ _ _ _ hs)
    · exact hs.elim
  | lstore_n i =>
    have hnx := hnx rfl
    subst hnx
    simp only [am_stp] at hs
    split at hs
    · exact am_s_lstore_n hx hb hd hok (kn _ _ _ _ _ hs)
    · exact hs.elim
  | astore i =>
    have hnx := hnx rfl
    subst hnx
    simp only [am_stp] at hs
    split at hs
    · exact am_s_astore hx hb hd hok (kn _ _ _ _ _ hs)
    · exact hs.elim
  | astore_n i =>
    have hnx := hnx rfl
    subst hnx
    simp only [am_stp] at hs
    split at hs
    · exact am_s_astore_n hx hb hd hok (kn _ _ _ _ _ hs)
    · exact hs.elim
  | iinc i d =>
    have hnx := hnx rfl
    subst hnx
    simp only [am_stp] at hs
    split at hs
    · rename_i x hx9
      exact am_s_iinc hx hb hd hok hx9 (kn _ _ _ _ _ hs)
    · exact hs.elim
  | iadd =>
    have hnx := hnx rfl
    subst hnx
    simp only [am_stp] at hs
    split at hs
    · exact am_s_iadd hx hb hd (kn _ _ _ _ _ hs)
    · exact hs.elim
  | isub =>
    have hnx := hnx rfl
    subst hnx
    simp only [am_stp] at hs
    split at hs
    · exact am_s_isub hx hb hd (kn _ _ _ _ _ hs)
    · exact hs.elim
  | imul =>
    have hnx := hnx rfl
    subst hnx
    simp only [am_stp] at hs
    split at hs
    · exact am_s_imul hx hb hd (kn _ _ _ _ _ hs)
    · exact hs.elim
  | iand =>
    have hnx := hnx rfl
    subst hnx
    simp only [am_stp] at hs
    split at hs
    · exact am_s_iand hx hb hd (kn _ _ _ _ _ hs)
    · exact hs.elim
  | ior =>
    have hnx := hnx rfl
    subst hnx
    simp only [am_stp] at hs
    split at hs
    · exact am_s_ior hx hb hd (kn _ _ _ _ _ hs)
    · exact hs.elim
  | ixor =>
    have hnx := hnx rfl
    subst hnx
    simp only [am_stp] at hs
    split at hs
    · exact am_s_ixor hx hb hd (kn _ _ _ _ _ hs)
    · exact hs.elim
  | ishl =>
    have hnx := hnx rfl
    subst hnx
    simp only [am_stp] at hs
    split at hs
    · exact am_s_ishl hx hb hd (kn _ _ _ _ _ hs)
    · exact hs.elim
  | ishr =>
    have hnx := hnx rfl
    subst hnx
    simp only [am_stp] at hs
    split at hs
    · exact am_s_ishr hx hb hd (kn _ _ _ _ _ hs)
    · exact hs.elim
  | ladd =>
    have hnx := hnx rfl
    subst hnx
    simp only [am_stp] at hs
    split at hs
    · exact am_s_ladd hx hb hd (kn _ _ _ _ _ hs)
    · exact hs.elim
  | lmul =>
    have hnx := hnx rfl
    subst hnx
    simp only [am_stp] at hs
    split at hs
    · exact am_s_lmul hx hb hd (kn _ _ _ _ _ hs)
    · exact hs.elim
  | lor =>
    have hnx := hnx rfl
    subst hnx
    simp only [am_stp] at hs
    split at hs
    · exact am_s_lor hx hb hd (kn _ _ _ _ _ hs)
    · exact hs.elim
  | lshl =>
    have hnx := hnx rfl
    subst hnx
    simp only [am_stp] at hs
    split at hs
    · exact am_s_lshl hx hb hd (kn _ _ _ _ _ hs)
    · exact hs.elim
  | lshr =>
    have hnx := hnx rfl
    subst hnx
    simp only [am_stp] at hs
    split at hs
    · exact am_s_lshr hx hb hd (kn _ _ _ _ _ hs)
    · exact hs.elim
  | i2l =>
    have hnx := hnx rfl
    subst hnx
    simp only [am_stp] at hs
    split at hs
    · exact am_s_i2l hx hb hd (kn _ _ _ _ _ hs)
    · exact hs.elim
  | l2i =>
    have hnx := hnx rfl
    subst hnx
    simp only [am_stp] at hs
    split at hs
    · exact am_s_l2i hx hb hd (kn _ _ _ _ _ hs)
    · exact hs.elim
  | lcmp =>
    have hnx := hnx rfl
    subst hnx
    simp only [am_stp] at hs
    split at hs
    · exact am_s_lcmp hx hb hd (kn _ _ _ _ _ hs)
    · exact hs.elim
  | ineg =>
    have hnx := hnx rfl
    subst hnx
    simp only [am_stp] at hs
    split at hs
    · exact am_s_ineg hx hb hd (kn _ _ _ _ _ hs)
    · exact hs.elim
  | idiv =>
    have hnx := hnx rfl
    subst hnx
    simp only [am_stp] at hs
    split at hs
    · exact am_s_idiv hx hb hd hs.1 (kn _ _ _ _ _ hs.2)
    · exact hs.elim
  | irem =>
    have hnx := hnx rfl
    subst hnx
    simp only [am_stp] at hs
    split at hs
    · exact am_s_irem hx hb hd hs.1 (kn _ _ _ _ _ hs.2)
    · exact hs.elim
  | dup =>
    have hnx := hnx rfl
    subst hnx
    simp only [am_stp] at hs
    split at hs
    · exact am_s_dup hx hb hd hs.1 (kn _ _ _ _ _ hs.2)
    · exact hs.elim
  | pop =>
    have hnx := hnx rfl
    subst hnx
    simp only [am_stp] at hs
    split at hs
    · exact am_s_pop hx hb hd hs.1 (kn _ _ _ _ _ hs.2)
    · exact hs.elim
  | dup2 =>
    have hnx := hnx rfl
    subst hnx
    simp only [am_stp] at hs
    split at hs
    · exact am_s_dup2 hx hb hd hs.1 hs.2.1 (kn _ _ _ _ _ hs.2.2)
    · exact hs.elim
  | ifCond cd o =>
    have hnx := hnx rfl
    subst hnx
    cases cd with
    | eq =>
      simp only [am_stp] at hs
      split at hs
      · exact am_s_if_eq hx hb hd hok (fun h0 => kj _ _ _ _ _ _ (hs.1 h0)) (fun h0 => kn _ _ _ _ _ (hs.2 h0))
      · exact hs.elim
    | ne =>
      simp only [am_stp] at hs
      split at hs
      · exact am_s_if_ne hx hb hd hok (fun h0 => kj _ _ _ _ _ _ (hs.1 h0)) (fun h0 => kn _ _ _ _ _ (hs.2 h0))
      · exact hs.elim
    | lt =>
      simp only [am_stp] at hs
      split at hs
      · exact am_s_if_lt hx hb hd hok (fun h0 => kj _ _ _ _ _ _ (hs.1 h0)) (fun h0 => kn _ _ _ _ _ (hs.2 h0))
      · exact hs.elim
    | ge =>
      simp only [am_stp] at hs
      split at hs
      · exact am_s_if_ge hx hb hd hok (fun h0 => kj _ _ _ _ _ _ (hs.1 h0)) (fun h0 => kn _ _ _ _ _ (hs.2 h0))
      · exact hs.elim
    | gt =>
      simp only [am_stp] at hs
      split at hs
      · exact am_s_if_gt hx hb hd hok (fun h0 => kj _ _ _ _ _ _ (hs.1 h0)) (fun h0 => kn _ _ _ _ _ (hs.2 h0))
      · exact hs.elim
    | le =>
      simp only [am_stp] at hs
      split at hs
      · exact am_s_if_le hx hb hd hok (fun h0 => kj _ _ _ _ _ _ (hs.1 h0)) (fun h0 => kn _ _ _ _ _ (hs.2 h0))
      · exact hs.elim
  | if_icmp cd o =>
    have hnx := hnx rfl
    subst hnx
    cases cd with
    | eq =>
      simp only [am_stp] at hs
      split at hs
      · exact am_s_icmp_eq hx hb hd hok (fun h0 => kj _ _ _ _ _ _ (hs.1 h0)) (fun h0 => kn _ _ _ _ _ (hs.2 h0))
      · exact hs.elim
    | ne =>
      simp only [am_stp] at hs
      split at hs
      · exact am_s_icmp_ne hx hb hd hok (fun h0 => kj _ _ _ _ _ _ (hs.1 h0)) (fun h0 => kn _ _ _ _ _ (hs.2 h0))
      · exact hs.elim
    | lt =>
      simp only [am_stp] at hs
      split at hs
      · exact am_s_icmp_lt hx hb hd hok (fun h0 => kj _ _ _ _ _ _ (hs.1 h0)) (fun h0 => kn _ _ _ _ _ (hs.2 h0))
      · exact hs.elim
    | ge =>
      simp only [am_stp] at hs
      split at hs
      · exact am_s_icmp_ge hx hb hd hok (fun h0 => kj _ _ _ _ _ _ (hs.1 h0)) (fun h0 => kn _ _ _ _ _ (hs.2 h0))
      · exact hs.elim
    | gt =>
      simp only [am_stp] at hs
      split at hs
      · exact am_s_icmp_gt hx hb hd hok (fun h0 => kj _ _ _ _ _ _ (hs.1 h0)) (fun h0 => kn _ _ _ _ _ (hs.2 h0))
      · exact hs.elim
    | le =>
      simp only [am_stp] at hs
      split at hs
      · exact am_s_icmp_le hx hb hd hok (fun h0 => kj _ _ _ _ _ _ (hs.1 h0)) (fun h0 => kn _ _ _ _ _ (hs.2 h0))
      · exact hs.elim
  | goto o =>
    exact am_s_goto hx hb hd hok (kj _ _ _ _ _ _ hs)
  | tableswitch d lo hi offs =>
    simp only [am_stp] at hs
    split at hs
    · refine am_s_tsw X hd hok.1 hok.2.1 hok.2.2.1 hok.2.2.2 ?_
      have mono : ∀ {x : Int32} (l : List Int) (z : Int) {P1 P2 : Nat → Prop}, (∀ t, P1 t → P2 t) → am_tsw x P1 pc d z l → am_tsw x P2 pc d z l := by
        intro x l
        induction l with
        | nil => intro z P1 P2 hp h0; exact hp _ h0
        | cons o r ih => intro z P1 P2 hp h0; exact ⟨fun h9 => hp _ (h0.1 h9), fun h9 => ih _ hp (h0.2 h9)⟩
      exact mono _ _ (fun t h0 => kj _ _ _ _ _ _ h0) hs
    · exact hs.elim
  | lookupswitch d ps =>
    simp only [am_stp] at hs
    split at hs
    · refine am_s_lsw X hd hok.1 hok.2.1 hok.2.2 ?_
      have mono : ∀ {x : Int32} (l : List (Int × Int)) {P1 P2 : Nat → Prop}, (∀ t, P1 t → P2 t) → am_lsw x P1 pc d l → am_lsw x P2 pc d l := by
        intro x l
        induction l with
        | nil => intro P1 P2 hp h0; exact hp _ h0
        | cons o r ih => intro P1 P2 hp h0; exact ⟨fun h9 => hp _ (h0.1 h9), fun h9 => ih hp (h0.2 h9)⟩
      exact mono _ (fun t h0 => kj _ _ _ _ _ _ h0) hs
    · exact hs.elim
  | getfield i =>
    have hnx := hnx rfl
    subst hnx
    simp only [am_stp] at hs
    split at hs
    · refine am_s_get X hd hok ?_
      unfold am_gf at hs ⊢
      split at hs
      · refine ⟨hs.1, ?_⟩
        have hs := hs.2
        split at hs
        · exact kn _ _ _ _ _ hs
        · exact kn _ _ _ _ _ hs
        · exact hs.elim
      · exact hs.elim
    · exact hs.elim
  | putfield i =>
    have hnx := hnx rfl
    subst hnx
    simp only [am_stp] at hs
    split at hs
    · exact am_s_puti X hd hok.1 hs.1 hs.2.1 hs.2.2.1 hs.2.2.2.1 (kn _ _ _ _ _ hs.2.2.2.2)
    · exact am_s_putr X (hinit (hok.2 hs.1)) hd hok.1 hs.1 hs.2.1 (kn _ _ _ _ _ hs.2.2)
    · exact hs.elim
  | iaload =>
    have hnx := hnx rfl
    subst hnx
    simp only [am_stp] at hs
    split at hs
    · split at hs
      · rename_i ha
        subst ha
        split at hs
        · rename_i q hq
          obtain ⟨s1, s2, s3⟩ := hScr q hq
          exact am_s_sld X s1 s2 s3 hd hs.1 (kn _ _ _ _ _ hs.2)
        · exact hs.elim
      · obtain ⟨n0, hM, h1, h2⟩ := am_ar_of hs
        refine am_s_iald X hd ?_
        simp only [am_ar, hM]
        exact ⟨trivial, h1, kn _ _ _ _ _ h2⟩
    · exact hs.elim
  | baload =>
    have hnx := hnx rfl
    subst hnx
    simp only [am_stp] at hs
    split at hs
    · obtain ⟨n0, hM, h1, h2⟩ := am_ar_of hs
      refine am_s_bald X hd ?_
      simp only [am_ar, hM]
      exact ⟨trivial, h1, kn _ _ _ _ _ h2⟩
    · exact hs.elim
  | caload =>
    have hnx := hnx rfl
    subst hnx
    simp only [am_stp] at hs
    split at hs
    · obtain ⟨n0, hM, h1, h2⟩ := am_ar_of hs
      refine am_s_cald X hd ?_
      simp only [am_ar, hM]
      exact ⟨trivial, h1, kn _ _ _ _ _ h2⟩
    · exact hs.elim
  | laload =>
    have hnx := hnx rfl
    subst hnx
    simp only [am_stp] at hs
    split at hs
    · obtain ⟨n0, hM, h1, h2⟩ := am_ar_of hs
      refine am_s_lald X hd ?_
      simp only [am_ar, hM]
      exact ⟨trivial, h1, kn _ _ _ _ _ h2⟩
    · exact hs.elim
  | iastore =>
    have hnx := hnx rfl
    subst hnx
    simp only [am_stp] at hs
    split at hs
    · obtain ⟨n0, hM, h1, h2⟩ := am_ar_of hs.2
      refine am_s_iast X hd hs.1 ?_
      simp only [am_ar, hM]
      exact ⟨trivial, h1, kn _ _ _ _ _ h2⟩
    · exact hs.elim
  | bastore =>
    have hnx := hnx rfl
    subst hnx
    simp only [am_stp] at hs
    split at hs
    · obtain ⟨n0, hM, h1, h2⟩ := am_ar_of hs.2.2
      refine am_s_bast X hd hs.1 hs.2.1 ?_
      simp only [am_ar, hM]
      exact ⟨trivial, h1, kn _ _ _ _ _ h2⟩
    · exact hs.elim
  | castore =>
    have hnx := hnx rfl
    subst hnx
    simp only [am_stp] at hs
    split at hs
    · obtain ⟨n0, hM, h1, h2⟩ := am_ar_of hs.2
      refine am_s_cast X hd hs.1 ?_
      simp only [am_ar, hM]
      exact ⟨trivial, h1, kn _ _ _ _ _ h2⟩
    · exact hs.elim
  | lastore =>
    have hnx := hnx rfl
    subst hnx
    simp only [am_stp] at hs
    split at hs
    · obtain ⟨n0, hM, h1, h2⟩ := am_ar_of hs.2
      refine am_s_last X hd hs.1 ?_
      simp only [am_ar, hM]
      exact ⟨trivial, h1, kn _ _ _ _ _ h2⟩
    · exact hs.elim
  | arraylength =>
    have hnx := hnx rfl
    subst hnx
    simp only [am_stp] at hs
    split at hs
    · split at hs
      · rename_i ha
        subst ha
        split at hs
        · rename_i q hq
          obtain ⟨s1, s2, s3⟩ := hScr q hq
          exact am_s_slen X s1 s2 s3 hd (kn _ _ _ _ _ hs)
        · exact hs.elim
      · split at hs
        · rename_i t0 n0 hM
          exact am_s_alen X hM hs.1 hd (kn _ _ _ _ _ hs.2)
        · exact hs.elim
    · exact hs.elim
  | newarray a =>
    have hnx := hnx rfl
    subst hnx
    simp only [am_stp] at hs
    split at hs
    · obtain ⟨h1, h2, h3, h4, h5, h6, h7⟩ := hs
      exact am_s_newa X hd h1 hok.1 hok.2.1 hok.2.2 h2 h3 h4 (by rw [hR1]; exact h5) (by rw [hR2]; exact h6) (kn _ _ _ _ _ h7)
    · exact hs.elim
  | new i =>
    simp only [am_stp] at hs
    split at hs
    · rename_i h0
      have hnx := hnx (by simp [am_seq, h0])
      subst hnx
      obtain ⟨C, T, N, o1, o2, o3, o4, o5⟩ := hok h0
      obtain ⟨h1, h2, h5, h6, h7⟩ := hs
      exact am_s_new X hd h1 o1 o2 o3 o4 o5 h2 (by rw [hR1]; exact h5) (by rw [hR2]; exact h6) (kn _ _ _ _ _ h7)
    · rename_i h0
      obtain ⟨h1, h2, h3, h4, h5⟩ := hs
      exact hT i rfl h0 lv st M k n h1 h2 h3 h4 h5
  | invokevirtual i =>
    have hnx := hnx rfl
    subst hnx
    obtain ⟨q, n0, o1, o2, o3, o4, o5, o6, o7⟩ := hok
    simp only [am_stp] at hs
    split at hs
    · rename_i a As hst
      obtain ⟨h1, h2, h3, h4⟩ := hs
      have hlen : ((st.take e2).reverse).length = e2 := by rw [List.length_reverse, List.length_take]; omega
      have hAs : As.length = n0 := by
        rw [hst] at hlen
        simp at hlen
        omega
      have hstk : st = (st.take e2).reverse.reverse ++ st.drop e2 := by rw [List.reverse_reverse, List.take_append_drop]
      have hrc := am_rcv_of X (ph := E.2.2.2.2.2.1) h3 o7
      rw [hstk]
      split at h4
      · obtain ⟨mc, ms, P, c1, c2, c3, c4⟩ := h4
        exact am_call (kind := e3 / 1000) X hd (Or.inl ⟨rfl, o5⟩) o1 o2 o4 (hKC _ _ _ _ _ _ c1) ⟨hR3, hR4⟩ ⟨by rw [hR1]; exact c2, by rw [hR2]; exact c3⟩ (Or.inr ⟨by omega, a, As, hst, hAs, fun _ => ⟨default, hrc⟩⟩) h2 (fun r M' hP => kn _ _ _ _ _ (c4 r M' hP))
      · rename_i hthr
        obtain ⟨mc, ms, P, Xp, c1, c2, c3, c4, c5⟩ := h4
        have hk0 := o6 hthr
        rw [hk0] at o4
        refine am_callX X hd o1 o2 o4 (hKX _ _ _ _ _ _ _ c1) ⟨hR3, hR4⟩ ⟨by rw [hR1]; exact c2, by rw [hR2]; exact c3⟩ ⟨a, As, hst, hAs, hrc⟩ h2 (fun r M' hP => kn _ _ _ _ _ (c4 r M' hP)) (fun x M' hP => ?_)
        have c6 := c5 x M' hP
        split at c6
        · rename_i qh hqh
          exact hHd _ _ _ _ _ _ _ _ hqh (kj _ _ _ _ _ _ c6)
        · rename_i hqh
          exact hXP _ _ _ _ _ _ _ hqh c6
    · exact hs.elim
  | invokespecial i =>
    have hnx := hnx rfl
    subst hnx
    simp only [am_stp] at hs
    simp only [am_okX] at hok
    split at hs
    · rename_i h0
      rw [if_pos h0] at hok
      split at hs
      · exact am_s_objInit X hd hok.1 hok.2.1 hok.2.2 (by omega) (by omega) hs.1 (kn _ _ _ _ _ hs.2)
      · exact hs.elim
    · rename_i h0
      rw [if_neg h0] at hok
      obtain ⟨q, n0, o1, o2, o3, o4, o5⟩ := hok
      split at hs
      · rename_i a As hst
        obtain ⟨h1, h2, mc, ms, P, c1, c2, c3, c4⟩ := hs
        have hlen : ((st.take e2).reverse).length = e2 := by rw [List.length_reverse, List.length_take]; omega
        have hAs : As.length = n0 := by
          rw [hst] at hlen
          simp at hlen
          omega
        have hstk : st = (st.take e2).reverse.reverse ++ st.drop e2 := by rw [List.reverse_reverse, List.take_append_drop]
        rw [hstk]
        exact am_call (kind := e3 / 1000) X hd (Or.inr (Or.inr ⟨rfl, o5⟩)) o1 o2 o4 (hKC _ _ _ _ _ _ c1) ⟨hR3, hR4⟩ ⟨by rw [hR1]; exact c2, by rw [hR2]; exact c3⟩ (Or.inr ⟨by omega, a, As, hst, hAs, fun h9 => by omega⟩) h2 (fun r M' hP => kn _ _ _ _ _ (c4 r M' hP))
      · exact hs.elim
  | invokestatic i =>
    have hnx := hnx rfl
    subst hnx
    simp only [am_stp] at hs
    simp only [am_okX] at hok
    split at hs
    · rename_i h0
      rw [if_pos h0] at hok
      split at hs
      · obtain ⟨h1, h2, h3, h4, h5, h6⟩ := hs
        obtain ⟨n0, hMb, h7⟩ := am_ar_of h6
        obtain ⟨n1, hMa, h8, h9, h10⟩ := am_ar_of h7
        refine am_s_copy X hd h1 hok.1 hok.2.1 hok.2.2.1 hok.2.2.2 (by omega) (by omega) h2 h3 h4 h5 ?_
        simp only [am_ar, hMb, hMa]
        exact ⟨trivial, trivial, h8, h9, kn _ _ _ _ _ h10⟩
      · exact hs.elim
    · rename_i h0
      rw [if_neg h0] at hok
      obtain ⟨q, n0, o1, o2, o3, o4, o5⟩ := hok
      obtain ⟨h1, h2, mc, ms, P, c1, c2, c3, c4⟩ := hs
      have hlen : ((st.take e2).reverse).length = n0 := by rw [List.length_reverse, List.length_take]; omega
      have hstk : st = (st.take e2).reverse.reverse ++ st.drop e2 := by rw [List.reverse_reverse, List.take_append_drop]
      rw [hstk]
      exact am_call (kind := e3 / 1000) X hd (Or.inr (Or.inl ⟨rfl, o5⟩)) o1 o2 o4 (hKC _ _ _ _ _ _ c1) ⟨hR3, hR4⟩ ⟨by rw [hR1]; exact c2, by rw [hR2]; exact c3⟩ (Or.inl ⟨by omega, hlen⟩) h2 (fun r M' hP => kn _ _ _ _ _ (c4 r M' hP))
  | ireturn =>
    simp only [am_stp] at hs
    split at hs
    · exact hRP _ _ _ _ _ _ hs (Or.inl ⟨_, rfl, hd⟩)
    · exact hs.elim
  | lreturn =>
    simp only [am_stp] at hs
    split at hs
    · exact hRP _ _ _ _ _ _ hs (Or.inr (Or.inl ⟨_, rfl, hd⟩))
    · exact hs.elim
  | areturn =>
    simp only [am_stp] at hs
    split at hs
    · exact hRP _ _ _ _ _ _ hs (Or.inr (Or.inr (Or.inl ⟨_, rfl, hd⟩)))
    · exact hs.elim
  | return_ =>
    simp only [am_stp] at hs
    split at hs
    · exact hRP _ _ _ _ _ _ hs (Or.inr (Or.inr (Or.inr ⟨rfl, hd⟩)))
    · exact hs.elim
  | _ => exact hs.elim
/-- THE STRETCH: what must hold ahead of it makes the machine come through -/
theorem am_sound (X : am_X p g s m args meth c own cc nL) (hE : am_HE p g e R s m args below meth c Q nL h cc mt E) {init : Prop} (hinit : init → meth.name = "<init>") (B : Nat → List am_I) (hB : ∀ t, am_okP own cc nL mt df init (B t) ∧ (B t ≠ [] → am_pc (B t) = t) ∧ ∀ q ∈ B t, am_HT p g e R s m args below meth c Q nL E q) :
    ∀ (n : Nat) (r : List am_I), am_okP own cc nL mt df init r → (∀ q ∈ r, am_HT p g e R s m args below meth c Q nL E q) → ∀ lv st M k j, am_wp E df B n r lv st M k j → am_S p g e R s m args below meth c Q E.2.2.2.2.2.1 nL (am_pc r) lv st M k j := by
  intro n
  induction n with
  | zero => intro r _ _ lv st M k j h; exact h.elim
  | succ n ih =>
    intro r hok hT lv st M k j hw
    cases r with
    | nil => exact hw.elim
    | cons q r =>
      obtain ⟨pc, ins, e1, e2, e3⟩ := q
      have kj : ∀ t lv st M k j, am_wp E df B n (B t) lv st M k j → am_S p g e R s m args below meth c Q E.2.2.2.2.2.1 nL t lv st M k j := by
        intro t lv st M k j h0
        by_cases hb : B t = []
        · rw [hb] at h0
          cases n <;> exact h0.elim
        · have h1 := ih (B t) (hB t).1 (hB t).2.2 lv st M k j h0
          rw [(hB t).2.1 hb] at h1
          exact h1
      obtain ⟨hq, hr⟩ := hok
      rcases hq with hq | hq | ⟨hd, hnx, hx⟩
      · have hq : ins = .nop := hq
        subst hq
        exact hE.1 _ _ _ _ _ _ hw
      · have hq : ins = .swap := hq
        subst hq
        exact kj _ _ _ _ _ _ hw
      · by_cases h1 : ins = .nop
        · subst h1
          exact hE.1 _ _ _ _ _ _ hw
        · by_cases h2 : ins = .swap
          · subst h2
            exact kj _ _ _ _ _ _ hw
          · exact am_one (df := df) (nxt := am_pc r) X hE hinit hd hnx hx (hT _ List.mem_cons_self) ⟨h1, h2⟩ (fun lv st M k j h0 => ih r hr (fun q hq => hT q (List.mem_cons_of_mem _ hq)) lv st M k j h0) kj hw
end AMZ
