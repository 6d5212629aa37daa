/-- a method: its name, its code, its locals, what it returns, its handlers -/
abbrev am_MI : Type := MethodName × ByteArray × Nat × Option FieldType × List (Nat × Nat × Nat × Nat)
def am_wd (q : am_MI) : Cond := match q.2.2.2.2 with
  | [] => .code q.1 q.2.1 q.2.2.1 q.2.2.2.1
  | hh => .codeWith q.1 q.2.1 q.2.2.1 q.2.2.2.1 hh
def am_R (h mc ms : Nat) : Room := { frames := h + 6, cells := mc, slots := ms, locals := 80 * h + 480 }
/-- the world at a method's start -/
def am_B (g : am_G) (ph : Nat) (M : am_M) (U : State) : Prop := am_E g U ∧ g.2.1 ≤ U.heap.size ∧ am_W g ph M U.heap
/-- a method's end with an answer -/
def am_Q (g : am_G) (ph : Nat) (P : Option Value → am_M → Prop) : Array Value → State → Outcome → State → Prop := fun _ st oc t => (∃ r M', oc = .returned (r.map (am_v g)) ∧ P r M' ∧ am_W g ph M' t.heap) ∧ va_F (am_A g) st t
/-- a method's end with a throw -/
def am_XC (g : am_G) (ph : Nat) (xn : Nat → String) (X : Nat → am_M → Prop) : String → State → State → Prop := fun E st t => (∃ x M', E = xn x ∧ X x M' ∧ am_W g ph M' t.heap) ∧ va_F (am_A g) st t
/-- a contract: from these arguments and this memory the method returns, and P holds of its answer and the memory then -/
def am_Ctr (g : am_G) (mt : List am_MI) (ph h mi : Nat) (av : List Value) (M : am_M) (mc ms : Nat) (P : Option Value → am_M → Prop) : Prop :=
  ∃ q : am_MI, mt[mi]? = some q ∧ Met g.1 q.1 (am_wd q :: am_T) (am_R h mc ms) (va_Pc (av.map (am_v g)) (am_B g ph M)) (am_Q g ph P) mc ms (am_A g)
/-- a contract of a method that returns or throws -/
def am_CtrX (g : am_G) (mt : List am_MI) (ph h mi : Nat) (av : List Value) (M : am_M) (mc ms : Nat) (P : Option Value → am_M → Prop) (X : Nat → am_M → Prop) : Prop :=
  ∃ q : am_MI, mt[mi]? = some q ∧ vx_Met g.1 q.1 (am_wd q :: am_T) (am_R h mc ms) (va_Pc (av.map (am_v g)) (am_B g ph M)) (am_Q g ph P) (am_XC g ph am_xn X) mc ms (am_A g)
/-- what the tables say of a method -/
def am_mok (q : am_MI) (n : Nat) : Prop := am_wd q ∈ am_T ∧ Cond.initialized q.1.cls ∈ am_T ∧ (q.1.cls ≠ "java/lang/invoke/MethodHandle" ∧ q.1.cls ≠ "java/lang/invoke/VarHandle" ∧ (parseMethodDescriptor q.1.desc).map (fun d => d.parameters.length) = some n) ∧ q.2.2.1 ≤ 40
/-- what the tables say of a call, by its kind -/
def am_lnk (own : String) (index : Nat) (q : am_MI) (kind : Nat) : Prop :=
  (kind = 0 ∧ q.2.2.2.2 = [] ∧ Cond.methodLink own index q.1 ∈ am_T ∧ Cond.instanceMethod q.1 ∈ am_T ∧ Cond.selects q.1.cls q.1 q.1 ∈ am_T) ∨
  (kind = 1 ∧ q.2.2.2.2 = [] ∧ (∃ host, Cond.methodLinkNest own index q.1 host ∈ am_N) ∧ Cond.instanceMethod q.1 ∈ am_T ∧ Cond.selects q.1.cls q.1 q.1 ∈ am_T) ∨
  (kind = 2 ∧ q.2.2.2.2 = [] ∧ Cond.methodLink own index q.1 ∈ am_T ∧ Cond.static q.1 ∈ am_T) ∨
  (kind = 3 ∧ q.2.2.2.2 = [] ∧ (∃ host, Cond.methodLinkNest own index q.1 host ∈ am_N) ∧ Cond.static q.1 ∈ am_T) ∨
  (kind = 4 ∧ q.2.2.2.2 = [] ∧ q.2.2.2.1 = none ∧ Cond.methodLink own index q.1 ∈ am_T ∧ q.1.name = "<init>" ∧ Cond.instanceMethod q.1 ∈ am_T) ∨
  (kind = 5 ∧ q.2.2.2.2 = [] ∧ q.2.2.2.1 = none ∧ (∃ host, Cond.methodLinkNest own index q.1 host ∈ am_N) ∧ q.1.name = "<init>" ∧ Cond.instanceMethod q.1 ∈ am_T) ∨
  (kind = 6 ∧ q.2.2.2.2 ≠ [] ∧ Cond.methodLink own index q.1 ∈ am_T ∧ Cond.static q.1 ∈ am_T)
theorem am_good {q : am_MI} (h : am_wd q ∈ am_T) : GoodIn am_T (am_wd q :: am_T) := by
  intro w hw
  have hm : w ∈ am_T := (List.mem_cons.mp hw).elim (fun e => by rw [e]; exact h) id
  exact ⟨hm, good_of_word (List.mem_filter.mp hm).2⟩
theorem am_blind {g : am_G} {ph : Nat} {M : am_M} {av : List Value} : FrameBlind (va_Pc av (am_B g ph M)) := by
  intro a U gf mk ⟨h1, h2, h3, h4⟩
  exact ⟨h1, h2.at (State.WarmedH.refl U) va_S.rf, h3, h4⟩
section AMC
variable {p : Program} {g : am_G} {e : Env} {R : Room} {s : State} {m : MethodId} {args : Array Value} {below : List Frame} {meth : Method} {c : Code} {Q : State → Prop} {ph nL pc : Nat} {lv : am_L} {st : List Value} {M : am_M} {cells slots : Nat} {cc : ByteArray} {own : String} {mt : List am_MI} {h mi mc ms index n kind : Nat} {P : Option Value → am_M → Prop} {av rest : List Value} {H : Heap} {locs : List Loc} {ls : Array Slot}
theorem am_pre (X : am_X p g s m args meth c own cc nL) (hW : am_W g ph M H) (hS : va_S (am_A g) s.heap H locs) : ∀ U : State, U.heap = H → s.WarmedH U.vm → va_Pc (av.map (am_v g)) (am_B g ph M) (av.map (am_v g)).toArray U := by
  intro U hU hWm
  obtain ⟨hx, hb, hml, hown, hts, hE, hbs, -⟩ := X
  subst hU
  exact ⟨rfl, hE.at hWm hS, Nat.le_trans hbs hS.1, hW⟩
theorem am_after {a : Array Value} {st0 : List Value} (hr : va_Run p g.1 e R s m args below meth c H locs cells slots mc ms (F0 m pc ls st0) (rest.map (am_v g)) (am_Q g ph P a) (am_A g)) (hl : lv_has ls nL (am_vl g lv)) (hS : va_S (am_A g) s.heap H locs)
    (kk : ∀ r M', P r M' → am_S p g e R s m args below meth c Q ph nL (pc + 3) lv (r.toList ++ rest) M' (cells + mc) (slots + ms)) : W p g.1 e R s m args below meth c H locs cells slots Q (F0 m pc ls st0) := by
  intro T hT Y
  obtain ⟨v, st₀, t, T', L, h0, X', hL, e1, e2, ⟨⟨r, M', hv, hp, hw⟩, hz, hk⟩, stp⟩ := hr T hT Y
  cases hv
  rw [h0] at hz hk
  have hS1 : va_S (am_A g) s.heap T'.heap (locs ++ L) := by
    refine ⟨Nat.le_trans hS.1 (by rw [e1]; exact hz), fun q h1 h2 => ?_, fun q hq => ?_⟩
    · rw [e1, hk q (Nat.lt_of_lt_of_le h1 hS.1) h2]
      exact hS.2.1 q h1 h2
    · rcases List.mem_append.mp hq with h | h
      · exact hS.2.2 q h
      · exact hL q h
  have k1 := kk r M' hp ls T'.heap (locs ++ L) hl (by rw [e1]; exact hw) hS1 T' rfl X'
  obtain ⟨t2, a1, b1⟩ := k1
  refine ⟨t2, stp t2 ?_, b1⟩
  have : (r.map (am_v g)).toList ++ rest.map (am_v g) = (r.toList ++ rest).map (am_v g) := by
    cases r <;> simp
  rw [this]
  exact a1
theorem am_mon (hst : am_sum rest ≤ 8) {st0 : List Value} : 2 * (F0 m pc ls st0).monitorRoom + ((rest.map (am_v g)).map fun v => v.category).sum ≤ 8 := lv_room (by
  have := am_sum_v g rest
  unfold am_sum at this hst
  omega)
theorem am_call (X : am_X p g s m args meth c own cc nL) {ins : Instr} (hd : decode cc pc = .ok (ins, 3)) (hins : (ins = .invokevirtual index ∧ (kind = 0 ∨ kind = 1)) ∨ (ins = .invokestatic index ∧ (kind = 2 ∨ kind = 3 ∨ kind = 6)) ∨ (ins = .invokespecial index ∧ (kind = 4 ∨ kind = 5)))
    {q : am_MI} (hq : mt[mi]? = some q) (hmok : am_mok q n) (hlnk : am_lnk own index q kind) (hC : am_Ctr g mt ph h mi av M mc ms P) (hR : h + 7 ≤ R.frames ∧ 80 * (h + 1) + 480 ≤ R.locals) (hf : cells + mc ≤ R.cells ∧ slots + ms ≤ R.slots)
    (hav : (kind = 2 ∨ kind = 3 ∨ kind = 6) ∧ av.length = n ∨ ¬ (kind = 2 ∨ kind = 3 ∨ kind = 6) ∧ ∃ a As, av = .ref a :: As ∧ As.length = n ∧ (kind = 0 ∨ kind = 1 → ∃ cell : Cell, ∀ H locs, am_W g ph M H → va_S (am_A g) s.heap H locs → ∃ cell : Cell, H[am_ad g a]? = some cell ∧ cell.vm.isStatics = false ∧ s.vm.findClass q.1.cls = some cell.cls)) (hst : am_sum rest ≤ 8)
    (kk : ∀ r M', P r M' → am_S p g e R s m args below meth c Q ph nL (pc + 3) lv (r.toList ++ rest) M' (cells + mc) (slots + ms)) : am_S p g e R s m args below meth c Q ph nL pc lv (av.reverse ++ rest) M cells slots := by
  intro ls H locs hl hW hS
  obtain ⟨q9, hq9, hM⟩ := hC
  cases Option.some.inj (hq9.symm.trans hq)
  obtain ⟨w1, w2, w3, w4⟩ := hmok
  have hX := X
  obtain ⟨hx, hb, hml, hown, hts, hE, hbs, hlk⟩ := X
  have hsz : ls.size = nL := hl.1
  have hG := am_good w1
  have hRR : (am_R h mc ms).frames + 1 ≤ R.frames ∧ 8 + (q.2.2.1 + 11) + (am_R h mc ms).locals ≤ R.locals := by
    constructor
    · show h + 6 + 1 ≤ R.frames; omega
    · show 8 + (q.2.2.1 + 11) + (80 * h + 480) ≤ R.locals; omega
  have hFix : CallFix p m c cc nL s args am_T own := ⟨hx, hb, hml, hown, hts⟩
  have hini := hts _ w2
  have stk : (av.reverse ++ rest).map (am_v g) = (av.map (am_v g)).reverse ++ rest.map (am_v g) := by rw [List.map_append, List.map_reverse]
  rw [stk]
  have hwc : q.2.2.2.2 = [] → am_wd q :: am_T = Cond.code q.1 q.2.1 q.2.2.1 q.2.2.2.1 :: am_T := by
    intro h0
    simp only [am_wd, h0]
  have pre := am_pre (av := av) hX hW hS
  rcases hlnk with ⟨hk, hh, h1, h2, h3⟩ | ⟨hk, hh, ⟨host, h1⟩, h2, h3⟩ | ⟨hk, hh, h1, h2⟩ | ⟨hk, hh, ⟨host, h1⟩, h2⟩ | ⟨hk, hh, hr, h1, h2, h3⟩ | ⟨hk, hh, hr, ⟨host, h1⟩, h2, h3⟩ | ⟨hk, hh, h1, h2⟩
  · subst hk
    rcases hav with ⟨h0, -⟩ | ⟨-, a, As, rfl, hlen, hrc⟩
    · omega
    · obtain ⟨cell0, hrc⟩ := hrc (Or.inl rfl)
      have hi : ins = .invokevirtual index := by
        rcases hins with ⟨h0, -⟩ | ⟨-, h0⟩ | ⟨-, h0⟩
        · exact h0
        · omega
        · omega
      subst hi
      refine am_after (va_runV (C := q.1.cls) (As := As.map (am_v g)) (b := am_ad g a) hFix hM ⟨callB_of n hts hG (hwc hh) rfl rfl hini (hts _ h1) w3 hRR, hts _ h2, hts _ h3⟩ ⟨am_blind, hrc H locs hW hS, pre⟩ rfl (by rw [List.length_map]; exact hlen) hsz ?_ (am_mon hst) hd hf) hl hS kk
      simp [am_v]
  · subst hk
    rcases hav with ⟨h0, -⟩ | ⟨-, a, As, rfl, hlen, hrc⟩
    · omega
    · obtain ⟨cell0, hrc⟩ := hrc (Or.inr rfl)
      have hi : ins = .invokevirtual index := by
        rcases hins with ⟨h0, -⟩ | ⟨-, h0⟩ | ⟨-, h0⟩
        · exact h0
        · omega
        · omega
      subst hi
      refine am_after (va_runVN (C := q.1.cls) (As := As.map (am_v g)) (b := am_ad g a) hFix hM ⟨va_cnB n hts hG (hwc hh) rfl rfl (hE.2.2.2.2.2.2.2.1 _ h1) hini w3 hRR, hts _ h2, hts _ h3⟩ ⟨am_blind, hrc H locs hW hS, pre⟩ rfl (by rw [List.length_map]; exact hlen) hsz ?_ (am_mon hst) hd hf) hl hS kk
      simp [am_v]
  · subst hk
    rcases hav with ⟨-, hlen⟩ | ⟨h0, -⟩
    · have hi : ins = .invokestatic index := by
        rcases hins with ⟨-, h0⟩ | ⟨h0, -⟩ | ⟨-, h0⟩
        · omega
        · exact h0
        · omega
      subst hi
      exact am_after (va_runS (As := av.map (am_v g)) hFix hM ⟨callB_of n hts hG (hwc hh) rfl rfl hini (hts _ h1) w3 hRR, hts _ h2⟩ ⟨am_blind, pre⟩ rfl (by rw [List.length_map]; exact hlen) hsz rfl (am_mon hst) hd hf) hl hS kk
    · omega
  · subst hk
    rcases hav with ⟨-, hlen⟩ | ⟨h0, -⟩
    · have hi : ins = .invokestatic index := by
        rcases hins with ⟨-, h0⟩ | ⟨h0, -⟩ | ⟨-, h0⟩
        · omega
        · exact h0
        · omega
      subst hi
      exact am_after (va_runSN (As := av.map (am_v g)) hFix hM ⟨va_cnB n hts hG (hwc hh) rfl rfl (hE.2.2.2.2.2.2.2.1 _ h1) hini w3 hRR, hts _ h2, trivial⟩ ⟨am_blind, pre⟩ rfl (by rw [List.length_map]; exact hlen) hsz rfl (am_mon hst) hd hf) hl hS kk
    · omega
  · subst hk
    rcases hav with ⟨h0, -⟩ | ⟨-, a, As, rfl, hlen, -⟩
    · omega
    · have hi : ins = .invokespecial index := by
        rcases hins with ⟨-, h0⟩ | ⟨-, h0⟩ | ⟨h0, -⟩
        · omega
        · omega
        · exact h0
      subst hi
      obtain ⟨y, by9, n9, r9, hh9⟩ := q
      have hr : r9 = none := hr
      subst hr
      refine am_after (va_runI (As := As.map (am_v g)) (b := am_ad g a) hFix hM ⟨callB_of n hts hG (hwc hh) rfl rfl hini (hts _ h1) w3 hRR, h2, hts _ h3⟩ ⟨am_blind, pre⟩ rfl (by rw [List.length_map]; exact hlen) hsz ?_ (am_mon hst) hd hf) hl hS kk
      simp [am_v]
  · subst hk
    rcases hav with ⟨h0, -⟩ | ⟨-, a, As, rfl, hlen, -⟩
    · omega
    · have hi : ins = .invokespecial index := by
        rcases hins with ⟨-, h0⟩ | ⟨-, h0⟩ | ⟨h0, -⟩
        · omega
        · omega
        · exact h0
      subst hi
      obtain ⟨y, by9, n9, r9, hh9⟩ := q
      have hr : r9 = none := hr
      subst hr
      refine am_after (va_runIN (As := As.map (am_v g)) (b := am_ad g a) hFix hM ⟨va_cnB n hts hG (hwc hh) rfl rfl (hE.2.2.2.2.2.2.2.1 _ h1) hini w3 hRR, h2, hts _ h3⟩ ⟨am_blind, pre⟩ rfl (by rw [List.length_map]; exact hlen) hsz ?_ (am_mon hst) hd hf) hl hS kk
      simp [am_v]
  · subst hk
    rcases hav with ⟨-, hlen⟩ | ⟨h0, -⟩
    · have hi : ins = .invokestatic index := by
        rcases hins with ⟨-, h0⟩ | ⟨h0, -⟩ | ⟨-, h0⟩
        · omega
        · exact h0
        · omega
      subst hi
      obtain ⟨y, by9, n9, r9, hh9⟩ := q
      have hwd : am_wd (y, by9, n9, r9, hh9) = Cond.codeWith y by9 n9 r9 hh9 := by
        cases hh9 with
        | nil => exact absurd rfl hh
        | cons a b => rfl
      rw [hwd] at hG hM w1
      refine am_after (vx_runSW (n := n) (As := av.map (am_v g)) hFix hM ⟨⟨rfl, rfl, hRR.1, hRR.2, pay_in hts hG, List.mem_cons_self⟩, hts _ w1, hini, ⟨w3.1, w3.2.1⟩, fun sig h5 => ?_, hts _ h1, hts _ h2⟩ ⟨am_blind, pre⟩ rfl (by rw [List.length_map]; exact hlen) hsz rfl (am_mon hst) hd hf) hl hS kk
      have h6 := w3.2.2
      rw [h5] at h6
      exact (Option.some.inj h6).symm
    · omega
/-- where x was thrown over a frame -/
def am_SX (p : Program) (g : am_G) (e : Env) (R : Room) (s : State) (m : MethodId) (args : Array Value) (below : List Frame) (meth : Method) (c : Code) (Q : State → Prop) (ph nL pc : Nat) (lv : am_L) (rest : List Value) (x : Nat) (M : am_M) (cells slots : Nat) : Prop :=
  ∀ (ls : Array Slot) (H : Heap) (locs : List Loc) (q : Nat) (ce : Cell), lv_has ls nL (am_vl g lv) → am_W g ph M H → va_S (am_A g) s.heap H locs → H[q]? = some ce → ce.vm = .none → s.vm.findClass (am_xn x) = some ce.cls → vx_W p g.1 e R s m args below meth c H locs cells slots Q (F0 m pc ls (rest.map (am_v g))) q
theorem am_callX (X : am_X p g s m args meth c own cc nL) {Xp : Nat → am_M → Prop} (hd : decode cc pc = .ok (.invokevirtual index, 3))
    {q : am_MI} (hq : mt[mi]? = some q) (hmok : am_mok q n) (hlnk : am_lnk own index q 0) (hC : am_CtrX g mt ph h mi av M mc ms P Xp) (hR : h + 7 ≤ R.frames ∧ 80 * (h + 1) + 480 ≤ R.locals) (hf : cells + mc ≤ R.cells ∧ slots + ms ≤ R.slots)
    (hav : ∃ a As, av = .ref a :: As ∧ As.length = n ∧ ∀ H locs, am_W g ph M H → va_S (am_A g) s.heap H locs → ∃ cell : Cell, H[am_ad g a]? = some cell ∧ cell.vm.isStatics = false ∧ s.vm.findClass q.1.cls = some cell.cls) (hst : am_sum rest ≤ 8)
    (kk : ∀ r M', P r M' → am_S p g e R s m args below meth c Q ph nL (pc + 3) lv (r.toList ++ rest) M' (cells + mc) (slots + ms))
    (kx : ∀ x M', Xp x M' → am_SX p g e R s m args below meth c Q ph nL pc lv rest x M' (cells + mc) (slots + ms)) : am_S p g e R s m args below meth c Q ph nL pc lv (av.reverse ++ rest) M cells slots := by
  intro ls H locs hl hW hS
  obtain ⟨q9, hq9, hM⟩ := hC
  cases Option.some.inj (hq9.symm.trans hq)
  obtain ⟨w1, w2, w3, w4⟩ := hmok
  have hX := X
  obtain ⟨hx, hb, hml, hown, hts, hE, hbs, hlk⟩ := X
  have hsz : ls.size = nL := hl.1
  have hG := am_good w1
  have hRR : (am_R h mc ms).frames + 1 ≤ R.frames ∧ 8 + (q.2.2.1 + 11) + (am_R h mc ms).locals ≤ R.locals := by
    constructor
    · show h + 6 + 1 ≤ R.frames; omega
    · show 8 + (q.2.2.1 + 11) + (80 * h + 480) ≤ R.locals; omega
  have hFix : CallFix p m c cc nL s args am_T own := ⟨hx, hb, hml, hown, hts⟩
  have hini := hts _ w2
  have stk : (av.reverse ++ rest).map (am_v g) = (av.map (am_v g)).reverse ++ rest.map (am_v g) := by rw [List.map_append, List.map_reverse]
  rw [stk]
  have pre := am_pre (av := av) hX hW hS
  rcases hlnk with ⟨hk, hh, h1, h2, h3⟩ | ⟨hk, -⟩ | ⟨hk, -⟩ | ⟨hk, -⟩ | ⟨hk, -⟩ | ⟨hk, -⟩ | ⟨hk, -⟩
  · obtain ⟨a, As, rfl, hlen, hrc⟩ := hav
    have hwc : am_wd q :: am_T = Cond.code q.1 q.2.1 q.2.2.1 q.2.2.2.1 :: am_T := by
      simp only [am_wd, hh]
    have hrun := vx_runV (p := p) (e := e) (R := R) (below := below) (meth := meth) (locs := locs) (cells := cells) (slots := slots) (g := F0 m pc ls (((Value.ref a :: As).map (am_v g)).reverse ++ rest.map (am_v g))) (rest := rest.map (am_v g)) (C := q.1.cls) (As := As.map (am_v g)) (b := am_ad g a) hFix hM ⟨callB_of n hts hG hwc rfl rfl hini (hts _ h1) w3 hRR, hts _ h2, hts _ h3⟩ ⟨am_blind, hrc H locs hW hS, pre⟩ rfl (by rw [List.length_map]; exact hlen) hsz (by simp [am_v]) (am_mon hst) hd hf
    intro T hT Y
    rcases hrun T hT Y with ⟨v, st₀, t, T', L, h0, X', hL, e1, e2, ⟨⟨r, M', hv, hp, hw⟩, hz, hk9⟩, stp⟩ | ⟨qa, st₀, t, T', L, E9, ce, h0, X', hL, e1, e2, ⟨⟨x, M', hE9, hp, hw⟩, hz, hk9⟩, hce, hcv, hcl, stp⟩
    · cases hv
      rw [h0] at hz hk9
      have hS1 : va_S (am_A g) s.heap T'.heap (locs ++ L) := by
        refine ⟨Nat.le_trans hS.1 (by rw [e1]; exact hz), fun q h1 h2 => ?_, fun q hq => ?_⟩
        · rw [e1, hk9 q (Nat.lt_of_lt_of_le h1 hS.1) h2]
          exact hS.2.1 q h1 h2
        · rcases List.mem_append.mp hq with h | h
          · exact hS.2.2 q h
          · exact hL q h
      have k1 := kk r M' hp ls T'.heap (locs ++ L) hl (by rw [e1]; exact hw) hS1 T' rfl X'
      obtain ⟨t2, a1, b1⟩ := k1
      refine ⟨t2, stp t2 ?_, b1⟩
      have : (r.map (am_v g)).toList ++ rest.map (am_v g) = (r.toList ++ rest).map (am_v g) := by
        cases r <;> simp
      rw [this]
      exact a1
    · rw [h0] at hz hk9
      have hS1 : va_S (am_A g) s.heap T'.heap (locs ++ L) := by
        refine ⟨Nat.le_trans hS.1 (by rw [e1]; exact hz), fun q h1 h2 => ?_, fun q hq => ?_⟩
        · rw [e1, hk9 q (Nat.lt_of_lt_of_le h1 hS.1) h2]
          exact hS.2.1 q h1 h2
        · rcases List.mem_append.mp hq with h | h
          · exact hS.2.2 q h
          · exact hL q h
      subst hE9
      have k1 := kx x M' hp ls T'.heap (locs ++ L) qa ce hl (by rw [e1]; exact hw) hS1 (by rw [e1]; exact hce) hcv hcl T' rfl X'
      obtain ⟨t2, a1, b1⟩ := k1
      exact ⟨t2, stp.trans a1, b1⟩
  · omega
  · omega
  · omega
  · omega
  · omega
  · omega
end AMC
