/-! readings as trees: all holes are filled; segments; two neighbours change places -/
theorem rstk_sum (kd : Nat → Nat) : ∀ (o : List Nat) (s s1 : List (List Nat)), rstk kd s o = some s1 → s1.length + o.length = s.length + (o.map (rh kd)).sum
  | [], s, s1, h => by
    simp only [rstk, Option.some.injEq] at h
    subst h
    simp
  | f :: o, [], s1, h => by simp [rstk] at h
  | f :: o, p :: s, s1, h => by
    have h1 := rstk_sum kd o _ s1 h
    rw [List.length_append, rp_len] at h1
    simp only [List.length_cons, List.map_cons, List.sum_cons]
    omega
theorem rrun_stk (kd : Nat → Nat) : ∀ (o : List Nat) (s : List (List Nat)) (l : List (Nat × List Nat)), rrun kd s o = some l → ∃ s1, rstk kd s o = some s1
  | [], s, _, _ => ⟨s, rfl⟩
  | f :: o, [], l, h => by simp [rrun] at h
  | f :: o, p :: s, l, h => by
    simp only [rrun, Option.map_eq_some_iff] at h
    obtain ⟨l', h4, rfl⟩ := h
    exact rrun_stk kd o _ l' h4
theorem rstk_run (kd : Nat → Nat) : ∀ (o : List Nat) (s s1 : List (List Nat)), rstk kd s o = some s1 → ∃ l, rrun kd s o = some l
  | [], s, _, _ => ⟨[], rfl⟩
  | f :: o, [], s1, h => by simp [rstk] at h
  | f :: o, p :: s, s1, h => by
    obtain ⟨l, hl⟩ := rstk_run kd o _ s1 h
    exact ⟨(f, p) :: l, by simp [rrun, hl]⟩
theorem rfill (kd : Nat → Nat) : ∀ (o : List Nat) (s : List (List Nat)) (l : List (Nat × List Nat)) (s1 : List (List Nat)), rrun kd s o = some l → rstk kd s o = some s1 → (∀ q ∈ s, (∃ f, (f, q) ∈ l) ∨ q ∈ s1) ∧ ∀ f p, (f, p) ∈ l → ∀ i, i < rh kd f → (∃ g, (g, (2 * f + i) :: p) ∈ l) ∨ (2 * f + i) :: p ∈ s1
  | [], s, l, s1, h, h1 => by
    simp only [rrun, Option.some.injEq] at h
    simp only [rstk, Option.some.injEq] at h1
    subst h
    subst h1
    exact ⟨fun q hq => Or.inr hq, fun f p hf => (by cases hf)⟩
  | f :: o, [], l, s1, h, h1 => by simp [rrun] at h
  | f :: o, p :: s, l, s1, h, h1 => by
    simp only [rrun, Option.map_eq_some_iff] at h
    obtain ⟨l', h4, rfl⟩ := h
    obtain ⟨g1, g2⟩ := rfill kd o (rp kd f p ++ s) l' s1 h4 h1
    refine ⟨fun q hq => ?_, fun f' p' hf i hi => ?_⟩
    · rcases List.mem_cons.mp hq with rfl | hq
      · exact Or.inl ⟨f, List.mem_cons_self⟩
      · rcases g1 q (List.mem_append_right _ hq) with ⟨f', h9⟩ | h9
        · exact Or.inl ⟨f', List.mem_cons_of_mem _ h9⟩
        · exact Or.inr h9
    · rcases List.mem_cons.mp hf with hf | hf
      · obtain ⟨rfl, rfl⟩ := Prod.mk.inj hf
        have hm : (2 * f' + i) :: p' ∈ rp kd f' p' := by
          unfold rp
          exact List.mem_map.mpr ⟨i, List.mem_range.mpr hi, rfl⟩
        rcases g1 _ (List.mem_append_left _ hm) with ⟨f2, h9⟩ | h9
        · exact Or.inl ⟨f2, List.mem_cons_of_mem _ h9⟩
        · exact Or.inr h9
      · rcases g2 f' p' hf i hi with ⟨f2, h9⟩ | h9
        · exact Or.inl ⟨f2, List.mem_cons_of_mem _ h9⟩
        · exact Or.inr h9
theorem perm_sum {F : Nat → Nat} {l1 l2 : List Nat} (h : l1.Perm l2) : (l1.map F).sum = (l2.map F).sum := by
  induction h with
  | nil => rfl
  | cons x _ ih => rw [List.map_cons, List.map_cons, List.sum_cons, List.sum_cons, ih]
  | swap x y l => simp only [List.map_cons, List.sum_cons]; omega
  | trans _ _ ih1 ih2 => exact ih1.trans ih2
theorem perm_rng {n : Nat} {o : List Nat} (hn : o.Nodup) (hl : o.length = n) (hb : ∀ f ∈ o, f < n) : o.Perm (List.range n) := by
  rw [List.perm_ext_iff_of_nodup hn List.nodup_range]
  intro a
  rw [List.mem_range]
  exact ⟨hb a, rfull n o hn hl hb a⟩
theorem rk_sum : ∀ l : List Fg, (l.map (fun x => rk (kF x))).sum = 2 * l.countP (fun x => decide (rk (kF x) = 2)) + l.countP (fun x => decide (kF x = 5))
  | [] => rfl
  | a :: r => by
    rw [List.map_cons, List.sum_cons, rk_sum r, List.countP_cons, List.countP_cons]
    have : rk (kF a) = 2 * (if decide (rk (kF a) = 2) = true then 1 else 0) + (if decide (kF a = 5) = true then 1 else 0) := by
      unfold rk
      by_cases h0 : kF a = 0
      · simp [h0]
      · by_cases h5 : kF a = 5
        · simp [h5]
        · simp [h0, h5]
    omega
/-- all holes are open once, and filled at the end -/
def rcnt (kd : Nat → Nat) (n : Nat) : Prop := ((List.range n).map (rh kd)).sum + 1 = n
theorem Good.cnt {L : Nat → Nat} {t : Nat} {fs : List Fg} (hG : Good L t fs) : rcnt (kdF fs) fs.length := by
  unfold rcnt
  have e : (List.range fs.length).map (rh (kdF fs)) = fs.map (fun x => rk (kF x)) := by
    conv => rhs; rw [← nF_map fs, List.map_map]
    rfl
  rw [e, rk_sum]
  have h5 := hG.2.1
  unfold cQ cN at h5
  omega
theorem rval_end {kd : Nat → Nat} {n : Nat} (hc : rcnt kd n) {o : List Nat} {l : List (Nat × List Nat)} (h : rrun kd [[]] o = some l) (hn : o.Nodup) (hl : o.length = n) (hb : ∀ f ∈ o, f < n) : rstk kd [[]] o = some [] := by
  obtain ⟨s1, h1⟩ := rrun_stk kd o _ l h
  have h2 := rstk_sum kd o _ s1 h1
  rw [perm_sum (perm_rng hn hl hb)] at h2
  unfold rcnt at hc
  rw [List.length_singleton] at h2
  have : s1.length = 0 := by omega
  rw [h1, List.length_eq_zero_iff.mp this]
theorem rval_fill {kd : Nat → Nat} {n : Nat} (hc : rcnt kd n) {o : List Nat} {l : List (Nat × List Nat)} (h : rrun kd [[]] o = some l) (hn : o.Nodup) (hl : o.length = n) (hb : ∀ f ∈ o, f < n) {f : Nat} {p : List Nat} (hf : (f, p) ∈ l) {i : Nat} (hi : i < rh kd f) : ∃ g, (g, (2 * f + i) :: p) ∈ l := by
  rcases (rfill kd o _ l [] h (rval_end hc h hn hl hb)).2 f p hf i hi with h9 | h9
  · exact h9
  · cases h9
/-- a run needs no more of the stack than it takes -/
theorem rframe (kd : Nat → Nat) : ∀ (B : List Nat) (T T1 s : List (List Nat)) (l : List (Nat × List Nat)), rrun kd T B = some l → rstk kd T B = some T1 → rrun kd (T ++ s) B = some l ∧ rstk kd (T ++ s) B = some (T1 ++ s)
  | [], T, T1, s, l, h, h1 => by
    simp only [rrun, Option.some.injEq] at h
    simp only [rstk, Option.some.injEq] at h1
    subst h
    subst h1
    exact ⟨rfl, rfl⟩
  | f :: B, [], T1, s, l, h, h1 => by simp [rrun] at h
  | f :: B, p :: T, T1, s, l, h, h1 => by
    simp only [rrun, Option.map_eq_some_iff] at h
    obtain ⟨l', h4, rfl⟩ := h
    have h1 : rstk kd (rp kd f p ++ T) B = some T1 := h1
    obtain ⟨g1, g2⟩ := rframe kd B (rp kd f p ++ T) T1 s l' h4 h1
    rw [List.append_assoc] at g1 g2
    refine ⟨?_, g2⟩
    show (rrun kd (rp kd f p ++ (T ++ s)) B).map (fun l => (f, p) :: l) = _
    rw [g1]
    rfl
/-- where a path of the stack is taken, all above it is done -/
theorem rsplit (kd : Nat → Nat) (f : Nat) (X : List Nat) (s : List (List Nat)) : ∀ (o : List Nat) (T : List (List Nat)) (l : List (Nat × List Nat)), rrun kd (T ++ X :: s) o = some l → (∀ g, (g, X) ∈ l → g = f) → (f, X) ∈ l → X ∉ T → (∀ x, X.head? = some x → x / 2 ∉ o) → X ≠ [] → ∃ B D, o = B ++ f :: D ∧ rstk kd T B = some []
  | [], T, l, h, _, hf, _, _, _ => by
    simp only [rrun, Option.some.injEq] at h
    subst h
    cases hf
  | f0 :: o, [], l, h, hu, hf, _, _, _ => by
    simp only [List.nil_append, rrun, Option.map_eq_some_iff] at h
    obtain ⟨l', h4, rfl⟩ := h
    have := hu f0 List.mem_cons_self
    subst this
    exact ⟨[], o, rfl, rfl⟩
  | f0 :: o, t :: T, l, h, hu, hf, hX, hh, hne => by
    rw [List.cons_append] at h
    simp only [rrun, Option.map_eq_some_iff] at h
    obtain ⟨l', h4, rfl⟩ := h
    have hXt : X ≠ t := fun h9 => hX (h9 ▸ List.mem_cons_self)
    have hf' : (f, X) ∈ l' := by
      rcases List.mem_cons.mp hf with h9 | h9
      · exact absurd (Prod.mk.inj h9).2 hXt
      · exact h9
    rw [← List.append_assoc] at h4
    obtain ⟨B, D, e1, e2⟩ := rsplit kd f X s o (rp kd f0 t ++ T) l' h4 (fun g hg => hu g (List.mem_cons_of_mem _ hg)) hf' (fun h9 => by
      rcases List.mem_append.mp h9 with h9 | h9
      · obtain ⟨i, hi, rfl⟩ := rp_mem h9
        have h2 := rh_le kd f0
        refine hh _ rfl ?_
        rw [rhalf (by omega)]
        exact List.mem_cons_self
      · exact hX (List.mem_cons_of_mem _ h9)) (fun x hx h9 => hh x hx (List.mem_cons_of_mem _ h9)) hne
    exact ⟨f0 :: B, D, by rw [e1]; rfl, e2⟩
/-- paths that differ at their ends -/
def Rnn (b b' p p' : List Nat) : Prop := p = p' ∨ ∃ new, p = new ++ b ∧ p' = new ++ b'
theorem Rnn.c {b b' p p' : List Nat} (h : Rnn b b' p p') (x : Nat) : Rnn b b' (x :: p) (x :: p') := by
  rcases h with h | ⟨new, h1, h2⟩
  · exact Or.inl (by rw [h])
  · exact Or.inr ⟨x :: new, by rw [h1]; rfl, by rw [h2]; rfl⟩
theorem rren (kd : Nat → Nat) (b b' : List Nat) : ∀ (o : List Nat) (z : List (List Nat × List Nat)) (l : List (Nat × List Nat)), (∀ e ∈ z, Rnn b b' e.1 e.2) → rrun kd (z.map (·.1)) o = some l →
    ∃ w : List (Nat × List Nat × List Nat), l = w.map (fun e => (e.1, e.2.1)) ∧ rrun kd (z.map (·.2)) o = some (w.map (fun e => (e.1, e.2.2))) ∧ (∀ e ∈ w, Rnn b b' e.2.1 e.2.2) ∧ ∀ s1, rstk kd (z.map (·.1)) o = some s1 → ∃ z1 : List (List Nat × List Nat), s1 = z1.map (·.1) ∧ rstk kd (z.map (·.2)) o = some (z1.map (·.2)) ∧ ∀ e ∈ z1, Rnn b b' e.1 e.2
  | [], z, l, hz, h => by
    simp only [rrun, Option.some.injEq] at h
    subst h
    refine ⟨[], rfl, rfl, fun e he => (by cases he), fun s1 h1 => ⟨z, ?_, rfl, hz⟩⟩
    simp only [rstk, Option.some.injEq] at h1
    exact h1.symm
  | f :: o, [], l, hz, h => by simp [rrun] at h
  | f :: o, e0 :: z, l, hz, h => by
    simp only [List.map_cons, rrun, Option.map_eq_some_iff] at h
    obtain ⟨l', h4, rfl⟩ := h
    have h0 := hz e0 List.mem_cons_self
    let z2 : List (List Nat × List Nat) := (List.range (rh kd f)).map (fun i => ((2 * f + i) :: e0.1, (2 * f + i) :: e0.2)) ++ z
    have e1 : z2.map (·.1) = rp kd f e0.1 ++ z.map (·.1) := by
      simp only [z2, List.map_append, List.map_map]
      rfl
    have e2 : z2.map (·.2) = rp kd f e0.2 ++ z.map (·.2) := by
      simp only [z2, List.map_append, List.map_map]
      rfl
    have hz2 : ∀ e ∈ z2, Rnn b b' e.1 e.2 := by
      intro e he
      rcases List.mem_append.mp he with he | he
      · obtain ⟨i, hi, rfl⟩ := List.mem_map.mp he
        exact h0.c _
      · exact hz e (List.mem_cons_of_mem _ he)
    rw [← e1] at h4
    obtain ⟨w, w1, w2, w3, w4⟩ := rren kd b b' o z2 l' hz2 h4
    refine ⟨(f, e0) :: w, by rw [w1]; rfl, ?_, fun e he => ?_, fun s1 h1 => ?_⟩
    · show (rrun kd (rp kd f e0.2 ++ z.map (·.2)) o).map (fun l => (f, e0.2) :: l) = _
      rw [← e2, w2]
      rfl
    · rcases List.mem_cons.mp he with rfl | he
      · exact h0
      · exact w3 e he
    · have h1 : rstk kd (rp kd f e0.1 ++ z.map (·.1)) o = some s1 := h1
      rw [← e1] at h1
      obtain ⟨z1, g1, g2, g3⟩ := w4 s1 h1
      refine ⟨z1, g1, ?_, g3⟩
      show rstk kd (rp kd f e0.2 ++ z.map (·.2)) o = _
      rw [← e2]
      exact g2
/-- the paths of a run go on from those of the stack -/
theorem rrun_ext (kd : Nat → Nat) : ∀ (o : List Nat) (s : List (List Nat)) (l : List (Nat × List Nat)), rrun kd s o = some l → ∀ q ∈ l, ∃ r ∈ s, ∃ new, q.2 = new ++ r
  | [], s, l, h, q, hq => by
    simp only [rrun, Option.some.injEq] at h
    subst h
    cases hq
  | f :: o, [], l, h, q, hq => by simp [rrun] at h
  | f :: o, p :: s, l, h, q, hq => by
    simp only [rrun, Option.map_eq_some_iff] at h
    obtain ⟨l', h4, rfl⟩ := h
    rcases List.mem_cons.mp hq with rfl | hq
    · exact ⟨p, List.mem_cons_self, [], rfl⟩
    · obtain ⟨r, hr, new, hnew⟩ := rrun_ext kd o _ l' h4 q hq
      rcases List.mem_append.mp hr with hr | hr
      · obtain ⟨i, hi, rfl⟩ := rp_mem hr
        exact ⟨p, List.mem_cons_self, new ++ [2 * f + i], by rw [hnew]; simp⟩
      · exact ⟨r, List.mem_cons_of_mem _ hr, new, hnew⟩
theorem rp_2 {kd : Nat → Nat} {f : Nat} (h : rh kd f = 2) (p : List Nat) : rp kd f p = [(2 * f) :: p, (2 * f + 1) :: p] := by
  unfold rp
  rw [h]
  rfl
/-- a part of a run that takes one path alone, under another path -/
theorem rmove {kd : Nat → Nat} {B : List Nat} {x : Nat} {p p' : List Nat} {s : List (List Nat)} (h : rstk kd [x :: p] B = some []) : ∃ l l', rrun kd ((x :: p) :: s) B = some l ∧ rrun kd ((x :: p') :: s) B = some l' ∧ rstk kd ((x :: p') :: s) B = some s ∧ rstk kd ((x :: p) :: s) B = some s ∧ ∀ f q, (f, q) ∈ l → ∃ q', (f, q') ∈ l' ∧ q'.head? = q.head? := by
  obtain ⟨l, hl⟩ := rstk_run kd B _ _ h
  obtain ⟨w, w1, w2, w3, w4⟩ := rren kd p p' B [(x :: p, x :: p')] l (fun e he => by rw [List.mem_singleton.mp he]; exact Or.inr ⟨[x], rfl, rfl⟩) hl
  obtain ⟨z1, g1, g2, g3⟩ := w4 [] h
  have hz1 : z1 = [] := List.map_eq_nil_iff.mp g1.symm
  subst hz1
  obtain ⟨a1, a2⟩ := rframe kd B [x :: p] [] s l hl h
  obtain ⟨b1, b2⟩ := rframe kd B [x :: p'] [] s _ w2 g2
  refine ⟨l, _, a1, b1, b2, a2, fun f q hq => ?_⟩
  rw [w1] at hq
  obtain ⟨e, he, h9⟩ := List.mem_map.mp hq
  obtain ⟨rfl, rfl⟩ := Prod.mk.inj h9
  refine ⟨e.2.2, List.mem_map.mpr ⟨e, he, rfl⟩, ?_⟩
  have hne : ∀ y ∈ l, y.2 ≠ p := by
    intro y hy h8
    have hb := (rrun_ext kd B [x :: p] l hl) y hy
    obtain ⟨r, hr, new, hnew⟩ := hb
    rw [List.mem_singleton.mp hr] at hnew
    rw [h8] at hnew
    have := congrArg List.length hnew
    simp at this
    omega
  rcases w3 e he with h8 | ⟨new, h8, h7⟩
  · rw [h8]
  · cases new with
    | nil =>
      exfalso
      exact hne (e.1, e.2.1) (by rw [w1]; exact List.mem_map.mpr ⟨e, he, rfl⟩) h8
    | cons y new => rw [h8, h7]; rfl
/-- two quantifiers, the lower one in hole 1 of the upper one, change places -/
theorem rswap {kd : Nat → Nat} {o : List Nat} {l : List (Nat × List Nat)} (h : rrun kd [[]] o = some l) (hn : o.Nodup) {q r c : Nat} {pq : List Nat} (hq : (q, pq) ∈ l) (hr : (r, (2 * q + 1) :: pq) ∈ l) (hc : (c, (2 * r + 1) :: (2 * q + 1) :: pq) ∈ l) (h2q : rh kd q = 2) (h2r : rh kd r = 2) :
    ∃ A B C D l', o = A ++ q :: (B ++ r :: (C ++ c :: D)) ∧ rrun kd [[]] (A ++ r :: (C ++ q :: (B ++ c :: D))) = some l' ∧ (r, pq) ∈ l' ∧ (q, (2 * r + 1) :: pq) ∈ l' ∧ (c, (2 * q + 1) :: (2 * r + 1) :: pq) ∈ l' ∧ ∀ f p, (f, p) ∈ l → f ≠ q → f ≠ r → f ≠ c → ∃ p', (f, p') ∈ l' ∧ p'.head? = p.head? := by
  have hfst := rrun_fst kd _ _ _ h
  have hlnd : (l.map (·.1)).Nodup := by rw [hfst]; exact hn
  -- the place of q
  have hqo : q ∈ o := by rw [← hfst]; exact List.mem_map.mpr ⟨_, hq, rfl⟩
  obtain ⟨k, hk, hkq⟩ := gD_of hqo
  obtain ⟨p0, s, n1, n2, n3, n4, n5⟩ := rrun_next h hk
  rw [hkq] at n3 n4 n5
  have hp0 : p0 = pq := by
    have h9 : (q, p0) ∈ l := by
      have : (q, p0) ∈ l.take (k + 1) := by rw [n5]; exact List.mem_append_right _ List.mem_cons_self
      exact List.mem_of_mem_take this
    exact nodup_uniq hlnd h9 hq
  subst hp0
  obtain ⟨st2, m1, m2, m3⟩ := rrun_take h (k + 1)
  rw [n4] at m1
  have m1 := Option.some.inj m1
  subst m1
  rw [rp_2 h2q] at m3
  have hoA : o = o.take k ++ q :: o.drop (k + 1) := by
    conv => lhs; rw [← List.take_append_drop (k + 1) o, take_s hk, hkq]
    simp
  generalize hA : o.take k = A at *
  generalize ho2 : o.drop (k + 1) = o2 at *
  have hl2 : ∀ y ∈ l.drop (k + 1), y ∈ l := fun y hy => List.mem_of_mem_drop hy
  have hnd := hn
  rw [hoA, List.nodup_append] at hnd
  have hnd2 := List.nodup_cons.mp hnd.2.1
  -- r and c come behind q
  have later : ∀ f p, (f, p) ∈ l → (∃ x ∈ p, x / 2 = q) → (f, p) ∈ l.drop (k + 1) := by
    intro f p hf ⟨x, hx, hxq⟩
    rw [← List.take_append_drop (k + 1) l] at hf
    rcases List.mem_append.mp hf with h9 | h9
    · exfalso
      rw [n5] at h9
      have hin : ∀ y, y ∈ p0 → y / 2 ∈ A := fun y hy => by
        have hg := rval_good (o := A ++ [q]) (l := l.take k ++ [(q, p0)]) (by rw [← n3, take_s hk, hkq, hA]) (l1 := l.take k) (g := q) (pg := p0) (l2 := []) rfl
        obtain ⟨new, pm, -, e2, -⟩ := rgood_mem hg hy
        have : y / 2 ∈ (l.take k).map (·.1) := List.mem_map.mpr ⟨_, e2, rfl⟩
        rw [rrun_fst kd _ _ _ n2] at this
        exact this
      rcases List.mem_append.mp h9 with h9 | h9
      · have hg := rval_good' n2 h9
        obtain ⟨new, pm, -, e2, -⟩ := rgood_mem hg hx
        have : x / 2 ∈ (l.take k).map (·.1) := List.mem_map.mpr ⟨_, e2, rfl⟩
        rw [rrun_fst kd _ _ _ n2, hxq] at this
        exact hnd.2.2 q this q List.mem_cons_self rfl
      · have h9 := List.mem_singleton.mp h9
        obtain ⟨rfl, rfl⟩ := Prod.mk.inj h9
        have := hin x hx
        rw [hxq] at this
        exact hnd.2.2 f this f List.mem_cons_self rfl
    · exact h9
  have hr2 := later r _ hr ⟨2 * q + 1, List.mem_cons_self, by omega⟩
  have hc2 := later c _ hc ⟨2 * q + 1, List.mem_cons_of_mem _ List.mem_cons_self, by omega⟩
  -- B
  obtain ⟨B, o3, hB, hBs⟩ := rsplit kd r ((2 * q + 1) :: p0) s o2 [(2 * q) :: p0] _ m3 (fun g hg => rval_inj h hn (hl2 _ hg) hr) hr2 (by simp) (fun x hx => by
    have hx : 2 * q + 1 = x := Option.some.inj hx
    rw [← hx, show (2 * q + 1) / 2 = q by omega]
    exact hnd2.1) (fun h9 => by cases h9)
  obtain ⟨lB, lB', b1, b2, b3, b4, b5⟩ := rmove (kd := kd) (p' := (2 * r + 1) :: p0) (s := ((2 * q + 1) :: p0) :: s) hBs
  subst hB
  have r1 : rrun kd (((2 * q) :: p0) :: ((2 * q + 1) :: p0) :: s) (B ++ r :: o3) = some (l.drop (k + 1)) := m3
  rw [rrun_app, b4, b1] at r1
  simp only [Option.bind_some] at r1
  obtain ⟨l3', r2, r3⟩ := Option.map_eq_some_iff.mp r1
  simp only [rrun, Option.map_eq_some_iff] at r2
  obtain ⟨l3, r2, r4⟩ := r2
  subst r4
  rw [rp_2 h2r] at r2
  -- C
  have hnd3 := hnd2.2
  rw [List.nodup_append] at hnd3
  have hnd4 := List.nodup_cons.mp hnd3.2.1
  have hl3 : ∀ y ∈ l3, y ∈ l := fun y hy => hl2 _ (by rw [← r3]; exact List.mem_append_right _ (List.mem_cons_of_mem _ hy))
  have hrB : r ∉ B := fun h9 => hnd3.2.2 r h9 r List.mem_cons_self rfl
  have hbf := rrun_fst kd _ _ _ b1
  have hrne : r ≠ q := fun h9 => hnd2.1 (by rw [← h9]; exact List.mem_append_right _ List.mem_cons_self)
  have hc3 : (c, (2 * r + 1) :: (2 * q + 1) :: p0) ∈ l3 := by
    rw [← r3] at hc2
    rcases List.mem_append.mp hc2 with h9 | h9
    · exfalso
      obtain ⟨y, hy, new, hnew⟩ := rrun_ext kd B [(2 * q) :: p0] lB (by
        obtain ⟨lx, hlx⟩ := rstk_run kd B _ _ hBs
        have := (rframe kd B _ _ (((2 * q + 1) :: p0) :: s) lx hlx hBs).1
        rw [List.singleton_append, b1] at this
        rw [hlx, Option.some.inj this]) _ h9
      rw [List.mem_singleton.mp hy] at hnew
      have hnew : (2 * r + 1) :: (2 * q + 1) :: p0 = new ++ (2 * q) :: p0 := hnew
      have hlen := congrArg List.length hnew
      simp only [List.length_cons, List.length_append] at hlen
      cases new with
      | nil => simp at hlen
      | cons a new =>
        cases new with
        | nil =>
          simp only [List.singleton_append, List.cons.injEq] at hnew
          omega
        | cons a2 new => simp only [List.length_cons] at hlen; omega
    · rcases List.mem_cons.mp h9 with h9 | h9
      · have := (Prod.mk.inj h9).2
        have hlen := congrArg List.length this
        simp at hlen
      · exact h9
  obtain ⟨C, D, hC, hCs⟩ := rsplit kd c ((2 * r + 1) :: (2 * q + 1) :: p0) s o3 [(2 * r) :: (2 * q + 1) :: p0] l3 r2 (fun g hg => rval_inj h hn (hl3 _ hg) hc) hc3 (by simp) (fun x hx => by
    have hx : 2 * r + 1 = x := Option.some.inj hx
    rw [← hx, show (2 * r + 1) / 2 = r by omega]
    exact hnd4.1) (fun h9 => by cases h9)
  obtain ⟨lC, lC', c1, c2, c3, c4, c5⟩ := rmove (kd := kd) (p' := p0) (s := ((2 * r + 1) :: (2 * q + 1) :: p0) :: s) hCs
  subst hC
  have t1 : rrun kd (((2 * r) :: (2 * q + 1) :: p0) :: ((2 * r + 1) :: (2 * q + 1) :: p0) :: s) (C ++ c :: D) = some l3 := r2
  rw [rrun_app, c4, c1] at t1
  simp only [Option.bind_some] at t1
  obtain ⟨l4', t2, t3⟩ := Option.map_eq_some_iff.mp t1
  simp only [rrun, Option.map_eq_some_iff] at t2
  obtain ⟨l4, t2, t4⟩ := t2
  subst t4
  -- D under the other path
  obtain ⟨w, w1, w2, w3, -⟩ := rren kd ((2 * r + 1) :: (2 * q + 1) :: p0) ((2 * q + 1) :: (2 * r + 1) :: p0) D ((rp kd c ((2 * r + 1) :: (2 * q + 1) :: p0)).map (fun x => (x, x.headD 0 :: (2 * q + 1) :: (2 * r + 1) :: p0)) ++ s.map (fun x => (x, x))) l4 (fun e he => by
    rcases List.mem_append.mp he with he | he
    · obtain ⟨x, hx, rfl⟩ := List.mem_map.mp he
      obtain ⟨i, hi, rfl⟩ := rp_mem hx
      exact Or.inr ⟨[2 * c + i], rfl, rfl⟩
    · obtain ⟨x, hx, rfl⟩ := List.mem_map.mp he
      exact Or.inl rfl) (by
    rw [List.map_append, List.map_map, List.map_map]
    have e1 : (rp kd c ((2 * r + 1) :: (2 * q + 1) :: p0)).map ((fun x : List Nat × List Nat => x.1) ∘ fun x => (x, x.headD 0 :: (2 * q + 1) :: (2 * r + 1) :: p0)) = rp kd c ((2 * r + 1) :: (2 * q + 1) :: p0) := by
      conv => rhs; rw [← List.map_id (rp kd c ((2 * r + 1) :: (2 * q + 1) :: p0))]
      rfl
    have e2 : s.map ((fun x : List Nat × List Nat => x.1) ∘ fun x => (x, x)) = s := by
      conv => rhs; rw [← List.map_id s]
      rfl
    rw [e1, e2]
    exact t2)
  rw [List.map_append, List.map_map, List.map_map] at w2
  have e3 : (rp kd c ((2 * r + 1) :: (2 * q + 1) :: p0)).map ((fun x : List Nat × List Nat => x.2) ∘ fun x => (x, x.headD 0 :: (2 * q + 1) :: (2 * r + 1) :: p0)) = rp kd c ((2 * q + 1) :: (2 * r + 1) :: p0) := by
    unfold rp
    rw [List.map_map]
    rfl
  have e4 : s.map ((fun x : List Nat × List Nat => x.2) ∘ fun x => (x, x)) = s := by
    conv => rhs; rw [← List.map_id s]
    rfl
  rw [e3, e4] at w2
  -- the run of the new order
  obtain ⟨lx, hlx⟩ := rstk_run kd B _ _ hBs
  have hBs' : rstk kd [(2 * q) :: (2 * r + 1) :: p0] B = some [] := by
    obtain ⟨w', v1, v2, v3, v4⟩ := rren kd p0 ((2 * r + 1) :: p0) B [((2 * q) :: p0, (2 * q) :: (2 * r + 1) :: p0)] lx (fun e he => by rw [List.mem_singleton.mp he]; exact Or.inr ⟨[2 * q], rfl, rfl⟩) hlx
    obtain ⟨z1, g1, g2, -⟩ := v4 [] hBs
    have hz1 : z1 = [] := List.map_eq_nil_iff.mp g1.symm
    subst hz1
    exact g2
  obtain ⟨lB2, lB3, x1, x2, x3, x4, x5⟩ := rmove (kd := kd) (p' := p0) (s := ((2 * q + 1) :: (2 * r + 1) :: p0) :: s) hBs'
  obtain ⟨lyC, hlyC⟩ := rstk_run kd C _ _ hCs
  have hCs' : rstk kd [(2 * r) :: p0] C = some [] := by
    obtain ⟨w', v1, v2, v3, v4⟩ := rren kd ((2 * q + 1) :: p0) p0 C [((2 * r) :: (2 * q + 1) :: p0, (2 * r) :: p0)] lyC (fun e he => by rw [List.mem_singleton.mp he]; exact Or.inr ⟨[2 * r], rfl, rfl⟩) hlyC
    obtain ⟨z1, g1, g2, -⟩ := v4 [] hCs
    have hz1 : z1 = [] := List.map_eq_nil_iff.mp g1.symm
    subst hz1
    exact g2
  obtain ⟨lC2, lC3, y1, y2, y3, y4, y5⟩ := rmove (kd := kd) (p' := (2 * q + 1) :: p0) (s := ((2 * r + 1) :: p0) :: s) hCs'
  -- heads of B and C in both runs
  have headB : ∀ f p, (f, p) ∈ lB → ∃ p', (f, p') ∈ lB2 ∧ p'.head? = p.head? := by
    intro f p hf
    have hb : rrun kd [(2 * q) :: p0] B = some lB := by
      have := (rframe kd B _ _ (((2 * q + 1) :: p0) :: s) lx hlx hBs).1
      rw [List.singleton_append, b1] at this
      rw [hlx, Option.some.inj this]
    obtain ⟨l5, l6, z1, z2, z3, z4, z5⟩ := rmove (kd := kd) (p' := (2 * r + 1) :: p0) (s := ([] : List (List Nat))) hBs
    rw [hb] at z1
    have z1 := Option.some.inj z1
    subst z1
    have := (rframe kd B _ _ (((2 * q + 1) :: (2 * r + 1) :: p0) :: s) l6 z2 hBs').1
    rw [List.singleton_append, x1] at this
    have := Option.some.inj this
    subst this
    exact z5 f p hf
  have headC : ∀ f p, (f, p) ∈ lC → ∃ p', (f, p') ∈ lC2 ∧ p'.head? = p.head? := by
    intro f p hf
    have hb : rrun kd [(2 * r) :: (2 * q + 1) :: p0] C = some lC := by
      have := (rframe kd C _ _ (((2 * r + 1) :: (2 * q + 1) :: p0) :: s) lyC hlyC hCs).1
      rw [List.singleton_append, c1] at this
      rw [hlyC, Option.some.inj this]
    obtain ⟨l5, l6, z1, z2, z3, z4, z5⟩ := rmove (kd := kd) (p' := p0) (s := ([] : List (List Nat))) hCs
    rw [hb] at z1
    have z1 := Option.some.inj z1
    subst z1
    have := (rframe kd C _ _ (((2 * r + 1) :: p0) :: s) l6 z2 hCs').1
    rw [List.singleton_append, y1] at this
    have := Option.some.inj this
    subst this
    exact z5 f p hf
  have run5 : rrun kd (((2 * q + 1) :: (2 * r + 1) :: p0) :: s) (c :: D) = some ((c, (2 * q + 1) :: (2 * r + 1) :: p0) :: w.map (fun e => (e.1, e.2.2))) := by
    show (rrun kd (rp kd c ((2 * q + 1) :: (2 * r + 1) :: p0) ++ s) D).map _ = _
    rw [w2]
    rfl
  have run4 : rrun kd (((2 * r + 1) :: p0) :: s) (q :: (B ++ c :: D)) = some ((q, (2 * r + 1) :: p0) :: (lB2 ++ (c, (2 * q + 1) :: (2 * r + 1) :: p0) :: w.map (fun e => (e.1, e.2.2)))) := by
    show (rrun kd (rp kd q ((2 * r + 1) :: p0) ++ s) (B ++ c :: D)).map _ = _
    rw [rp_2 h2q]
    show (rrun kd (((2 * q) :: (2 * r + 1) :: p0) :: ((2 * q + 1) :: (2 * r + 1) :: p0) :: s) (B ++ c :: D)).map _ = _
    rw [rrun_app, x4, x1]
    simp only [Option.bind_some]
    rw [run5]
    rfl
  have run3 : rrun kd (p0 :: s) (r :: (C ++ q :: (B ++ c :: D))) = some ((r, p0) :: (lC2 ++ (q, (2 * r + 1) :: p0) :: (lB2 ++ (c, (2 * q + 1) :: (2 * r + 1) :: p0) :: w.map (fun e => (e.1, e.2.2))))) := by
    show (rrun kd (rp kd r p0 ++ s) (C ++ q :: (B ++ c :: D))).map _ = _
    rw [rp_2 h2r]
    show (rrun kd (((2 * r) :: p0) :: ((2 * r + 1) :: p0) :: s) (C ++ q :: (B ++ c :: D))).map _ = _
    rw [rrun_app, y4, y1]
    simp only [Option.bind_some]
    rw [run4]
    rfl
  refine ⟨A, B, C, D, l.take k ++ (r, p0) :: (lC2 ++ (q, (2 * r + 1) :: p0) :: (lB2 ++ (c, (2 * q + 1) :: (2 * r + 1) :: p0) :: w.map (fun e => (e.1, e.2.2)))), hoA, ?_, ?_, ?_, ?_, ?_⟩
  · rw [rrun_app, n1, n2]
    simp only [Option.bind_some]
    rw [run3]
    rfl
  · exact List.mem_append_right _ List.mem_cons_self
  · exact List.mem_append_right _ (List.mem_cons_of_mem _ (List.mem_append_right _ List.mem_cons_self))
  · exact List.mem_append_right _ (List.mem_cons_of_mem _ (List.mem_append_right _ (List.mem_cons_of_mem _ (List.mem_append_right _ List.mem_cons_self))))
  · intro f p hf d1 d2 d3
    have hdec : l = l.take k ++ (q, p0) :: (lB ++ (r, (2 * q + 1) :: p0) :: (lC ++ (c, (2 * r + 1) :: (2 * q + 1) :: p0) :: l4)) := by
      conv => lhs; rw [← List.take_append_drop (k + 1) l, n5, ← r3, ← t3]
      simp
    have hfl := hf
    rw [hdec] at hf
    rcases List.mem_append.mp hf with h9 | h9
    · exact ⟨p, List.mem_append_left _ h9, rfl⟩
    · rcases List.mem_cons.mp h9 with h9 | h9
      · exact absurd (Prod.mk.inj h9).1 d1
      · rcases List.mem_append.mp h9 with h9 | h9
        · obtain ⟨p', e1, e2⟩ := headB f p h9
          exact ⟨p', List.mem_append_right _ (List.mem_cons_of_mem _ (List.mem_append_right _ (List.mem_cons_of_mem _ (List.mem_append_left _ e1)))), e2⟩
        · rcases List.mem_cons.mp h9 with h9 | h9
          · exact absurd (Prod.mk.inj h9).1 d2
          · rcases List.mem_append.mp h9 with h9 | h9
            · obtain ⟨p', e1, e2⟩ := headC f p h9
              exact ⟨p', List.mem_append_right _ (List.mem_cons_of_mem _ (List.mem_append_left _ e1)), e2⟩
            · rcases List.mem_cons.mp h9 with h9 | h9
              · exact absurd (Prod.mk.inj h9).1 d3
              · rw [w1] at h9
                obtain ⟨e, he, h8⟩ := List.mem_map.mp h9
                obtain ⟨rfl, rfl⟩ := Prod.mk.inj h8
                refine ⟨e.2.2, List.mem_append_right _ (List.mem_cons_of_mem _ (List.mem_append_right _ (List.mem_cons_of_mem _ (List.mem_append_right _ (List.mem_cons_of_mem _ (List.mem_map.mpr ⟨e, he, rfl⟩)))))), ?_⟩
                rcases w3 e he with h7 | ⟨new, h7, h6⟩
                · rw [h7]
                · cases new with
                  | nil =>
                    exfalso
                    rw [List.nil_append] at h7
                    rw [h7] at hfl
                    exact d3 (rval_inj h hn hfl hc)
                  | cons a new => rw [h7, h6]; rfl
/-- what is in which hole makes the order clear -/
theorem rdet0 (kd : Nat → Nat) : ∀ (o1 o2 : List Nat) (s : List (List Nat)) (l1 l2 : List (Nat × List Nat)), rrun kd s o1 = some l1 → rrun kd s o2 = some l2 → o1.length = o2.length → (∀ q ∈ s, q ≠ []) → (∀ x f1 f2 p1 p2, (f1, x :: p1) ∈ l1 → (f2, x :: p2) ∈ l2 → f1 = f2) → o1 = o2
  | [], [], _, _, _, _, _, _, _, _ => rfl
  | [], _ :: _, _, _, _, _, _, hl, _, _ => by cases hl
  | _ :: _, [], _, _, _, _, _, hl, _, _ => by cases hl
  | f1 :: o1, f2 :: o2, [], _, _, h1, _, _, _, _ => by simp [rrun] at h1
  | f1 :: o1, f2 :: o2, p :: s, l1, l2, h1, h2, hl, hs, ha => by
    simp only [rrun, Option.map_eq_some_iff] at h1 h2
    obtain ⟨l1', h1, rfl⟩ := h1
    obtain ⟨l2', h2, rfl⟩ := h2
    have hp := hs p List.mem_cons_self
    obtain ⟨x, p', rfl⟩ := List.exists_cons_of_ne_nil hp
    have hf := ha x f1 f2 p' p' List.mem_cons_self List.mem_cons_self
    subst hf
    rw [rdet0 kd o1 o2 _ l1' l2' h1 h2 (by simpa using hl) (fun q hq => by
      rcases List.mem_append.mp hq with hq | hq
      · obtain ⟨i, hi, rfl⟩ := rp_mem hq
        exact fun h9 => by cases h9
      · exact hs q (List.mem_cons_of_mem _ hq)) (fun x f1 f2 p1 p2 q1 q2 => ha x f1 f2 p1 p2 (List.mem_cons_of_mem _ q1) (List.mem_cons_of_mem _ q2))]
theorem rdet {kd : Nat → Nat} {n : Nat} (hc : rcnt kd n) {o1 o2 : List Nat} {l1 l2 : List (Nat × List Nat)} (h1 : rrun kd [[]] o1 = some l1) (h2 : rrun kd [[]] o2 = some l2) (n1 : o1.Nodup) (n2 : o2.Nodup) (e1 : o1.length = n) (e2 : o2.length = n) (b1 : ∀ f ∈ o1, f < n) (b2 : ∀ f ∈ o2, f < n) (ha : ∀ x f1 f2 p1 p2, (f1, x :: p1) ∈ l1 → (f2, x :: p2) ∈ l2 → f1 = f2) : o1 = o2 := by
  cases o1 with
  | nil => exact (List.length_eq_zero_iff.mp (e2.trans e1.symm)).symm
  | cons f1 o1 =>
    cases o2 with
    | nil => rw [← e2] at e1; cases e1
    | cons f2 o2 =>
      have hh1 := h1
      have hh2 := h2
      simp only [rrun, Option.map_eq_some_iff] at h1 h2
      obtain ⟨l1', h1, rfl⟩ := h1
      obtain ⟨l2', h2, rfl⟩ := h2
      have hff : f1 = f2 := by
        apply Classical.byContradiction
        intro hne
        -- f1 is in a hole in the second
        have hf1 : f1 ∈ f2 :: o2 := rfull n _ n2 e2 b2 f1 (b1 f1 List.mem_cons_self)
        rw [← rrun_fst kd _ _ _ hh2] at hf1
        obtain ⟨y, hy, hy1⟩ := List.mem_map.mp hf1
        have hy' : (f1, y.2) ∈ (f2, []) :: l2' := by rw [← hy1]; exact hy
        have hy2 : (f1, y.2) ∈ l2' := by
          rcases List.mem_cons.mp hy' with h9 | h9
          · exact absurd (Prod.mk.inj h9).1 hne
          · exact h9
        have hyn : y.2 ≠ [] := rrun_ne kd o2 _ l2' h2 (fun q hq => by
          rw [List.append_nil] at hq
          obtain ⟨i, hi, rfl⟩ := rp_mem hq
          exact fun h9 => by cases h9) (f1, y.2) hy2
        obtain ⟨x, p', hxp⟩ := List.exists_cons_of_ne_nil hyn
        rw [hxp] at hy'
        have hx := (rval_heads hh2 n2).2 _ hy' x rfl
        -- the hole x is filled in the first
        have hx1 : x / 2 ∈ f1 :: o1 := rfull n _ n1 e1 b1 (x / 2) (b2 _ hx.1)
        rw [← rrun_fst kd _ _ _ hh1] at hx1
        obtain ⟨z, hz, hz1⟩ := List.mem_map.mp hx1
        have hz' : (x / 2, z.2) ∈ (f1, []) :: l1' := by rw [← hz1]; exact hz
        obtain ⟨g, hg⟩ := rval_fill hc hh1 n1 e1 b1 hz' hx.2
        rw [show 2 * (x / 2) + x % 2 = x by omega] at hg
        have := ha x g f1 _ _ hg hy'
        subst this
        have hnd : (((g, []) :: l1').map (·.1)).Nodup := by rw [rrun_fst kd _ _ _ hh1]; exact n1
        have h9 := nodup_uniq hnd hg List.mem_cons_self
        cases h9
      subst hff
      rw [rdet0 kd o1 o2 _ l1' l2' h1 h2 (by rw [← e2] at e1; simpa using e1) (fun q hq => by
        rw [List.append_nil] at hq
        obtain ⟨i, hi, rfl⟩ := rp_mem hq
        exact fun h9 => by cases h9) (fun x f1 f2 p1 p2 q1 q2 => ha x f1 f2 p1 p2 (List.mem_cons_of_mem _ q1) (List.mem_cons_of_mem _ q2))]
