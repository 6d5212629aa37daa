/-! readings as trees: all holes are filled; segments; two neighbours change places -/
theorem rstk_sum (kd : Nat → Nat) : ∀ (o : List Nat) (s s1 : List (List Nat)), rstk kd s o = some s1 → s1.length + o.length = s.length + (o.map (rh kd)).sum
  | [], s, s1, h => by
    simp only [rstk, Option.some.injEq] at h
    subst h
    simp
  | f :: o, [], s1, h => by simp [rstk] at h
  | f :: o, p :: s, s1, h => by
    have h1 := rstk_sum kd o _ s1 h
    rw [List.length_append, rp_len] at h1
    simp only [List.length_cons, List.map_cons, List.sum_cons]
    omega
theorem rrun_stk (kd : Nat → Nat) : ∀ (o : List Nat) (s : List (List Nat)) (l : List (Nat × List Nat)), rrun kd s o = some l → ∃ s1, rstk kd s o = some s1
  | [], s, _, _ => ⟨s, rfl⟩
  | f :: o, [], l, h => by simp [rrun] at h
  | f :: o, p :: s, l, h => by
    simp only [rrun, Option.map_eq_some_iff] at h
    obtain ⟨l', h4, rfl⟩ := h
    exact rrun_stk kd o _ l' h4
theorem rstk_run (kd : Nat → Nat) : ∀ (o : List Nat) (s s1 : List (List Nat)), rstk kd s o = some s1 → ∃ l, rrun kd s o = some l
  | [], s, _, _ => ⟨[], rfl⟩
  | f :: o, [], s1, h => by simp [rstk] at h
  | f :: o, p :: s, s1, h => by
    obtain ⟨l, hl⟩ := rstk_run kd o _ s1 h
    exact ⟨(f, p) :: l, by simp [rrun, hl]⟩
theorem rfill (kd : Nat → Nat) : ∀ (o : List Nat) (s : List (List Nat)) (l : List (Nat × List Nat)) (s1 : List (List Nat)), rrun kd s o = some l → rstk kd s o = some s1 → (∀ q ∈ s, (∃ f, (f, q) ∈ l) ∨ q ∈ s1) ∧ ∀ f p, (f, p) ∈ l → ∀ i, i < rh kd f → (∃ g, (g, (2 * f + i) :: p) ∈ l) ∨ (2 * f + i) :: p ∈ s1
  | [], s, l, s1, h, h1 => by
    simp only [rrun, Option.some.injEq] at h
    simp only [rstk, Option.some.injEq] at h1
    subst h
    subst h1
    exact ⟨fun q hq => Or.inr hq, fun f p hf => (by cases hf)⟩
  | f :: o, [], l, s1, h, h1 => by simp [rrun] at h
  | f :: o, p :: s, l, s1, h, h1 => by
    simp only [rrun, Option.map_eq_some_iff] at h
    obtain ⟨l', h4, rfl⟩ := h
    obtain ⟨g1, g2⟩ := rfill kd o (rp kd f p ++ s) l' s1 h4 h1
    refine ⟨fun q hq => ?_, fun f' p' hf i hi => ?_⟩
    · rcases List.mem_cons.mp hq with rfl | hq
      · exact Or.inl ⟨f, List.mem_cons_self⟩
      · rcases g1 q (List.mem_append_right _ hq) with ⟨f', h9⟩ | h9
        · exact Or.inl ⟨f', List.mem_cons_of_mem _ h9⟩
        · exact Or.inr h9
    · rcases List.mem_cons.mp hf with hf | hf
      · obtain ⟨rfl, rfl⟩ := Prod.mk.inj hf
        have hm : (2 * f' + i) :: p' ∈ rp kd f' p' := by
          unfold rp
          exact List.mem_map.mpr ⟨i, List.mem_range.mpr hi, rfl⟩
        rcases g1 _ (List.mem_append_left _ hm) with ⟨f2, h9⟩ | h9
        · exact Or.inl ⟨f2, List.mem_cons_of_mem _ h9⟩
        · exact Or.inr h9
      · rcases g2 f' p' hf i hi with ⟨f2, h9⟩ | h9
        · exact Or.inl ⟨f2, List.mem_cons_of_mem _ h9⟩
        · exact Or.inr h9
theorem perm_sum {F : Nat → Nat} {l1 l2 : List Nat} (h : l1.Perm l2) : (l1.map F).sum = (l2.map F).sum := by
  induction h with
  | nil => rfl
  | cons x _ ih => rw [List.map_cons, List.map_cons, List.sum_cons, List.sum_cons, ih]
  | swap x y l => simp only [List.map_cons, List.sum_cons]; omega
  | trans _ _ ih1 ih2 => exact ih1.trans ih2
theorem perm_rng {n : Nat} {o : List Nat} (hn : o.Nodup) (hl : o.length = n) (hb : ∀ f ∈ o, f < n) : o.Perm (List.range n) := by
  rw [List.perm_ext_iff_of_nodup hn List.nodup_range]
  intro a
  rw [List.mem_range]
  exact ⟨hb a, rfull n o hn hl hb a⟩
theorem rk_sum : ∀ l : List Fg, (l.map (fun x => rk (kF x))).sum = 2 * l.countP (fun x => decide (rk (kF x) = 2)) + l.countP (fun x => decide (kF x = 5))
  | [] => rfl
  | a :: r => by
    rw [List.map_cons, List.sum_cons, rk_sum r, List.countP_cons, List.countP_cons]
    have : rk (kF a) = 2 * (if decide (rk (kF a) = 2) = true then 1 else 0) + (if decide (kF a = 5) = true then 1 else 0) := by
      unfold rk
      by_cases h0 : kF a = 0
      · simp [h0]
      · by_cases h5 : kF a = 5
        · simp [h5]
        · simp [h0, h5]
    omega
/-- all holes are open once, and filled at the end -/
def rcnt (kd : Nat → Nat) (n : Nat) : Prop := ((List.range n).map (rh kd)).sum + 1 = n
theorem Good.cnt {L : Nat → Nat} {t : Nat} {fs : List Fg} (hG : Good L t fs) : rcnt (kdF fs) fs.length := by
  unfold rcnt
  have e : (List.range fs.length).map (rh (kdF fs)) = fs.map (fun x => rk (kF x)) := by
    conv => rhs; rw [← nF_map fs, List.map_map]
    rfl
  rw [e, rk_sum]
  have h5 := hG.2.1
  unfold cQ cN at h5
  omega
theorem rval_end {kd : Nat → Nat} {n : Nat} (hc : rcnt kd n) {o : List Nat} {l : List (Nat × List Nat)} (h : rrun kd [[]] o = some l) (hn : o.Nodup) (hl : o.length = n) (hb : ∀ f ∈ o, f < n) : rstk kd [[]] o = some [] := by
  obtain ⟨s1, h1⟩ := rrun_stk kd o _ l h
  have h2 := rstk_sum kd o _ s1 h1
  rw [perm_sum (perm_rng hn hl hb)] at h2
  unfold rcnt at hc
  rw [List.length_singleton] at h2
  have : s1.length = 0 := by omega
  rw [h1, List.length_eq_zero_iff.mp this]
theorem rval_fill {kd : Nat → Nat} {n : Nat} (hc : rcnt kd n) {o : List Nat} {l : List (Nat × List Nat)} (h : rrun kd [[]] o = some l) (hn : o.Nodup) (hl : o.length = n) (hb : ∀ f ∈ o, f < n) {f : Nat} {p : List Nat} (hf : (f, p) ∈ l) {i : Nat} (hi : i < rh kd f) : ∃ g, (g, (2 * f + i) :: p) ∈ l := by
  rcases (rfill kd o _ l [] h (rval_end hc h hn hl hb)).2 f p hf i hi with h9 | h9
  · exact h9
  · cases h9
/-- a run needs no more of the stack than it takes -/
theorem rframe (kd : Nat → Nat) : ∀ (B : List Nat) (T T1 s : List (List Nat)) (l : List (Nat × List Nat)), rrun kd T B = some l → rstk kd T B = some T1 → rrun kd (T ++ s) B = some l ∧ rstk kd (T ++ s) B = some (T1 ++ s)
  | [], T, T1, s, l, h, h1 => by
    simp only [rrun, Option.some.injEq] at h
    simp only [rstk, Option.some.injEq] at h1
    subst h
    subst h1
    exact ⟨rfl, rfl⟩
  | f :: B, [], T1, s, l, h, h1 => by simp [rrun] at h
  | f :: B, p :: T, T1, s, l, h, h1 => by
    simp only [rrun, Option.map_eq_some_iff] at h
    obtain ⟨l', h4, rfl⟩ := h
    have h1 : rstk kd (rp kd f p ++ T) B = some T1 := h1
    obtain ⟨g1, g2⟩ := rframe kd B (rp kd f p ++ T) T1 s l' h4 h1
    rw [List.append_assoc] at g1 g2
    refine ⟨?_, g2⟩
    show (rrun kd (rp kd f p ++ (T ++ s)) B).map (fun l => (f, p) :: l) = _
    rw [g1]
    rfl
/-- where a path of the stack is taken, all above it is done -/
theorem rsplit (kd : Nat → Nat) (f : Nat) (X : List Nat) (s : List (List Nat)) : ∀ (o : List Nat) (T : List (List Nat)) (l : List (Nat × List Nat)), rrun kd (T ++ X :: s) o = some l → (∀ g, (g, X) ∈ l → g = f) → (f, X) ∈ l → X ∉ T → (∀ x, X.head? = some x → x / 2 ∉ o) → X ≠ [] → ∃ B D, o = B ++ f :: D ∧ rstk kd T B = some []
  | [], T, l, h, _, hf, _, _, _ => by
    simp only [rrun, Option.some.injEq] at h
    subst h
    cases hf
  | f0 :: o, [], l, h, hu, hf, _, _, _ => by
    simp only [List.nil_append, rrun, Option.map_eq_some_iff] at h
    obtain ⟨l', h4, rfl⟩ := h
    have := hu f0 List.mem_cons_self
    subst this
    exact ⟨[], o, rfl, rfl⟩
  | f0 :: o, t :: T, l, h, hu, hf, hX, hh, hne => by
    rw [List.cons_append] at h
    simp only [rrun, Option.map_eq_some_iff] at h
    obtain ⟨l', h4, rfl⟩ := h
    have hXt : X ≠ t := fun h9 => hX (h9 ▸ List.mem_cons_self)
    have hf' : (f, X) ∈ l' := by
      rcases List.mem_cons.mp hf with h9 | h9
      · exact absurd (Prod.mk.inj h9).2 hXt
      · exact h9
    rw [← List.append_assoc] at h4
    obtain ⟨B, D, e1, e2⟩ := rsplit kd f X s o (rp kd f0 t ++ T) l' h4 (fun g hg => hu g (List.mem_cons_of_mem _ hg)) hf' (fun h9 => by
      rcases List.mem_append.mp h9 with h9 | h9
      · obtain ⟨i, hi, rfl⟩ := rp_mem h9
        have h2 := rh_le kd f0
        refine hh _ rfl ?_
        rw [rhalf (by omega)]
        exact List.mem_cons_self
      · exact hX (List.mem_cons_of_mem _ h9)) (fun x hx h9 => hh x hx (List.mem_cons_of_mem _ h9)) hne
    exact ⟨f0 :: B, D, by rw [e1]; rfl, e2⟩
/-- paths that differ at their ends -/
def Rnn (b b' p p' : List Nat) : Prop := p = p' ∨ ∃ new, p = new ++ b ∧ p' = new ++ b'
theorem Rnn.c {b b' p p' : List Nat} (h : Rnn b b' p p') (x : Nat) : Rnn b b' (x :: p) (x :: p') := by
  rcases h with h | ⟨new, h1, h2⟩
  · exact Or.inl (by rw [h])
  · exact Or.inr ⟨x :: new, by rw [h1]; rfl, by rw [h2]; rfl⟩
theorem rren (kd : Nat → Nat) (b b' : List Nat) : ∀ (o : List Nat) (z : List (List Nat × List Nat)) (l : List (Nat × List Nat)), (∀ e ∈ z, Rnn b b' e.1 e.2) → rrun kd (z.map (·.1)) o = some l →
    ∃ w : List (Nat × List Nat × List Nat), l = w.map (fun e => (e.1, e.2.1)) ∧ rrun kd (z.map (·.2)) o = some (w.map (fun e => (e.1, e.2.2))) ∧ (∀ e ∈ w, Rnn b b' e.2.1 e.2.2) ∧ ∀ s1, rstk kd (z.map (·.1)) o = some s1 → ∃ z1 : List (List Nat × List Nat), s1 = z1.map (·.1) ∧ rstk kd (z.map (·.2)) o = some (z1.map (·.2)) ∧ ∀ e ∈ z1, Rnn b b' e.1 e.2
  | [], z, l, hz, h => by
    simp only [rrun, Option.some.injEq] at h
    subst h
    refine ⟨[], rfl, rfl, fun e he => (by cases he), fun s1 h1 => ⟨z, ?_, rfl, hz⟩⟩
    simp only [rstk, Option.some.injEq] at h1
    exact h1.symm
  | f :: o, [], l, hz, h => by simp [rrun] at h
  | f :: o, e0 :: z, l, hz, h => by
    simp only [List.map_cons, rrun, Option.map_eq_some_iff] at h
    obtain ⟨l', h4, rfl⟩ := h
    have h0 := hz e0 List.mem_cons_self
    let z2 : List (List Nat × List Nat) := (List.range (rh kd f)).map (fun i => ((2 * f + i) :: e0.1, (2 * f + i) :: e0.2)) ++ z
    have e1 : z2.map (·.1) = rp kd f e0.1 ++ z.map (·.1) := by
      simp only [z2, List.map_append, List.map_map]
      rfl
    have e2 : z2.map (·.2) = rp kd f e0.2 ++ z.map (·.2) := by
      simp only [z2, List.map_append, List.map_map]
      rfl
    have hz2 : ∀ e ∈ z2, Rnn b b' e.1 e.2 := by
      intro e he
      rcases List.mem_append.mp he with he | he
      · obtain ⟨i, hi, rfl⟩ := List.mem_map.mp he
        exact h0.c _
      · exact hz e (List.mem_cons_of_mem _ he)
    rw [← e1] at h4
    obtain ⟨w, w1, w2, w3, w4⟩ := rren kd b b' o z2 l' hz2 h4
    refine ⟨(f, e0) :: w, by rw [w1]; rfl, ?_, fun e he => ?_, fun s1 h1 => ?_⟩
    · show (rrun kd (rp kd f e0.2 ++ z.map (·.2)) o).map (fun l => (f, e0.2) :: l) = _
      rw [← e2, w2]
      rfl
    · rcases List.mem_cons.mp he with rfl | he
      · exact h0
      · exact w3 e he
    · have h1 : rstk kd (rp kd f e0.1 ++ z.map (·.1)) o = some s1 := h1
      rw [← e1] at h1
      obtain ⟨z1, g1, g2, g3⟩ := w4 s1 h1
      refine ⟨z1, g1, ?_, g3⟩
      show rstk kd (rp kd f e0.2 ++ z.map (·.2)) o = _
      rw [← e2]
      exact g2
/-- the paths of a run go on from those of the stack -/
theorem rrun_ext (kd : Nat → Nat) : ∀ (o : List Nat) (s : List (List Nat)) (l : List (Nat × List Nat)), rrun kd s o = some l → ∀ q ∈ l, ∃ r ∈ s, ∃ new, q.2 = new ++ r
  | [], s, l, h, q, hq => by
    simp only [rrun, Option.some.injEq] at h
    subst h
    cases hq
  | f :: o, [], l, h, q, hq => by simp [rrun] at h
  | f :: o, p :: s, l, h, q, hq => by
    simp only [rrun, Option.map_eq_some_iff] at h
    obtain ⟨l', h4, rfl⟩ := h
    rcases List.mem_cons.mp hq with rfl | hq
    · exact ⟨p, List.mem_cons_self, [], rfl⟩
    · obtain ⟨r, hr, new, hnew⟩ := rrun_ext kd o _ l' h4 q hq
      rcases List.mem_append.mp hr with hr | hr
      · obtain ⟨i, hi, rfl⟩ := rp_mem hr
        exact ⟨p, List.mem_cons_self, new ++ [2 * f + i], by rw [hnew]; simp⟩
      · exact ⟨r, List.mem_cons_of_mem _ hr, new, hnew⟩
theorem rp_2 {kd : Nat → Nat} {f : Nat} (h : rh kd f = 2) (p : List Nat) : rp kd f p = [(2 * f) :: p, (2 * f + 1) :: p] := by
  unfold rp
  rw [h]
  rfl
/-- a part of a run that takes one path alone, under another path -/
theorem rmove {kd : Nat → Nat} {B : List Nat} {x : Nat} {p p' : List Nat} {s : List (List Nat)} (h : rstk kd [x :: p] B = some []) : ∃ l l', rrun kd ((x :: p) :: s) B = some l ∧ rrun kd ((x :: p') :: s) B = some l' ∧ rstk kd ((x :: p') :: s) B = some s ∧ rstk kd ((x :: p) :: s) B = some s ∧ ∀ f q, (f, q) ∈ l → ∃ q', (f, q') ∈ l' ∧ q'.head? = q.head? := by
  obtain ⟨l, hl⟩ := rstk_run kd B _ _ h
  obtain ⟨w, w1, w2, w3, w4⟩ := rren kd p p' B [(x :: p, x :: p')] l (fun e he => by rw [List.mem_singleton.mp he]; exact Or.inr ⟨[x], rfl, rfl⟩) hl
  obtain ⟨z1, g1, g2, g3⟩ := w4 [] h
  have hz1 : z1 = [] := List.map_eq_nil_iff.mp g1.symm
  subst hz1
  obtain ⟨a1, a2⟩ := rframe kd B [x :: p] [] s l hl h
  obtain ⟨b1, b2⟩ := rframe kd B [x :: p'] [] s _ w2 g2
  refine ⟨l, _, a1, b1, b2, a2, fun f q hq => ?_⟩
  rw [w1] at hq
  obtain ⟨e, he, h9⟩ := List.mem_map.mp hq
  obtain ⟨rfl, rfl⟩ := Prod.mk.inj h9
  refine ⟨e.2.2, List.mem_map.mpr ⟨e, he, rfl⟩, ?_⟩
  have hne : ∀ y ∈ l, y.2 ≠ p := by
    intro y hy h8
    have hb := (rrun_ext kd B [x :: p] l hl) y hy
    obtain ⟨r, hr, new, hnew⟩ := hb
    rw [List.mem_singleton.mp hr] at hnew
    rw [h8] at hnew
    have := congrArg List.length hnew
    simp at this
    omega
  rcases w3 e he with h8 | ⟨new, h8, h7⟩
  · rw [h8]
  · cases new with
    | nil =>
      exfalso
      exact hne (e.1, e.2.1) (by rw [w1]; exact List.mem_map.mpr ⟨e, he, rfl⟩) h8
    | cons y new => rw [h8, h7]; rfl
