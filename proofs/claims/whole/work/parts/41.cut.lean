/-! searches that cut: the class' and the reference's conditions lose no reading -/
def rval (kd : Nat → Nat) (E : Nat → Nat → Bool) (n : Nat) (o : List Nat) (l : List (Nat × List Nat)) : Prop := rrun kd [[]] o = some l ∧ o.Nodup ∧ o.length = n ∧ (∀ f ∈ o, f < n) ∧ ∀ q ∈ l, rok E q.1 q.2
/-- edges that hold in all readings -/
def rsnd (kd : Nat → Nat) (E : Nat → Nat → Bool) (n : Nat) (W : Nat → Nat → Bool) : Prop := ∀ o l, rval kd E n o l → ∀ q ∈ l, rok W q.1 q.2
theorem rsnd_E (kd : Nat → Nat) (E : Nat → Nat → Bool) (n : Nat) : rsnd kd E n E := fun _ _ h => h.2.2.2.2
theorem nodup_uniq {l : List (Nat × List Nat)} (h : (l.map (·.1)).Nodup) : ∀ {f : Nat} {p q : List Nat}, (f, p) ∈ l → (f, q) ∈ l → p = q := by
  induction l with
  | nil => intro f p q hp; cases hp
  | cons y r ih =>
    intro f p q hp hq
    simp only [List.map_cons, List.nodup_cons] at h
    rcases List.mem_cons.mp hp with hp | hp
    · rcases List.mem_cons.mp hq with hq | hq
      · have := hp.trans hq.symm
        simp only [Prod.mk.injEq] at this
        exact this.2
      · exact absurd (List.mem_map.mpr ⟨(f, q), hq, by rw [← hp]⟩) h.1
    · rcases List.mem_cons.mp hq with hq | hq
      · exact absurd (List.mem_map.mpr ⟨(f, p), hp, by rw [← hq]⟩) h.1
      · exact ih h.2 hp hq
theorem rval_good {kd : Nat → Nat} {o : List Nat} {l : List (Nat × List Nat)} (h : rrun kd [[]] o = some l) {l1 l2 : List (Nat × List Nat)} {g : Nat} {pg : List Nat} (hl : l = l1 ++ (g, pg) :: l2) : rgood l1 pg := by
  have h1 := (rrun_good kd o [[]] [] l (fun q hq => by rw [List.mem_singleton.mp hq]; trivial) h).1 l1 g pg l2 hl
  rw [List.nil_append] at h1
  exact h1
theorem rval_good' {kd : Nat → Nat} {o : List Nat} {l : List (Nat × List Nat)} (h : rrun kd [[]] o = some l) {g : Nat} {pg : List Nat} (hl : (g, pg) ∈ l) : rgood l pg := by
  obtain ⟨l1, l2, rfl⟩ := List.append_of_mem hl
  exact rgood_mono (fun y hy => List.mem_append_left _ hy) (rval_good h rfl)
/-- what is wanted under what is wanted is wanted -/
theorem rsnd_step {kd : Nat → Nat} {E : Nat → Nat → Bool} {n : Nat} {W : Nat → Nat → Bool} (h : rsnd kd E n W) {W' : Nat → Nat → Bool} (hW : ∀ x g, W' x g = true → W x g = true ∨ ∃ m i, i < 2 ∧ W x m = true ∧ W (2 * m + i) g = true) : rsnd kd E n W' := by
  intro o l hv q hq x hx
  rcases hW x q.1 hx with hx | ⟨m, i, hi, h1, h2⟩
  · exact h o l hv q hq x hx
  · have h3 := h o l hv q hq _ h2
    obtain ⟨new, pm, e1, e2, -⟩ := rgood_mem (rval_good' hv.1 hq) h3
    rw [rhalf hi] at e2
    rw [e1]
    exact List.mem_append_right _ (List.mem_cons_of_mem _ (h o l hv (m, pm) e2 x h1))
/-- a list of different numbers below n, as long as n, holds them all -/
theorem rfull : ∀ (n : Nat) (o : List Nat), o.Nodup → o.length = n → (∀ f ∈ o, f < n) → ∀ g, g < n → g ∈ o
  | 0, _, _, _, _, g, hg => by omega
  | n + 1, o, hn, hl, hb, g, hg => by
    by_cases hm : n ∈ o
    · have h1 := rfull n (o.erase n) (hn.erase n) (by rw [List.length_erase_of_mem hm, hl]; rfl) (fun f hf => by
        have h2 := (List.Nodup.mem_erase_iff hn).mp hf
        have h3 := hb f h2.2
        have h4 := h2.1
        omega)
      by_cases hgn : g = n
      · rw [hgn]; exact hm
      · exact List.mem_of_mem_erase (h1 g (by omega))
    · exfalso
      have h5 : ∀ f ∈ o, f < n := fun f hf => by
        have h6 := hb f hf
        have h7 : f ≠ n := fun h8 => hm (h8 ▸ hf)
        omega
      have key : ∀ (k : Nat) (l : List Nat), l.Nodup → (∀ f ∈ l, f < k) → l.length ≤ k := by
        intro k
        induction k with
        | zero => intro l _ hb; cases l with
          | nil => exact Nat.le_refl _
          | cons a r => exact absurd (hb a List.mem_cons_self) (Nat.not_lt_zero _)
        | succ k ih =>
          intro l hn hb
          by_cases hk : k ∈ l
          · have h1 := ih (l.erase k) (hn.erase k) (fun f hf => by
              have h2 := (List.Nodup.mem_erase_iff hn).mp hf
              have h3 := hb f h2.2
              have h4 := h2.1
              omega)
            rw [List.length_erase_of_mem hk] at h1
            omega
          · have h1 := ih l hn (fun f hf => by
              have h3 := hb f hf
              have h4 : f ≠ k := fun h8 => hk (h8 ▸ hf)
              omega)
            omega
      have := key n o hn h5
      omega
/-- later paths: from the stack, or of what comes later -/
theorem rrun_in (kd : Nat → Nat) : ∀ (o : List Nat) (s : List (List Nat)) (l : List (Nat × List Nat)), rrun kd s o = some l → ∀ q ∈ l, ∀ x ∈ q.2, (∃ r ∈ s, x ∈ r) ∨ x / 2 ∈ o
  | [], s, l, h, q, hq, x, hx => by
    simp only [rrun, Option.some.injEq] at h
    subst h
    cases hq
  | f :: o, [], l, h, q, hq, x, hx => by simp [rrun] at h
  | f :: o, p :: s, l, h, q, hq, x, hx => by
    simp only [rrun, Option.map_eq_some_iff] at h
    obtain ⟨l', h1, rfl⟩ := h
    rcases List.mem_cons.mp hq with rfl | hq
    · exact Or.inl ⟨p, List.mem_cons_self, hx⟩
    · rcases rrun_in kd o _ l' h1 q hq x hx with ⟨r, hr, hxr⟩ | h2
      · rcases List.mem_append.mp hr with hr | hr
        · obtain ⟨i, hi, rfl⟩ := rp_mem hr
          have h2 := rh_le kd f
          rcases List.mem_cons.mp hxr with rfl | hxr
          · exact Or.inr (by rw [rhalf (by omega)]; exact List.mem_cons_self)
          · exact Or.inl ⟨p, List.mem_cons_self, hxr⟩
        · exact Or.inl ⟨r, List.mem_cons_of_mem _ hr, hxr⟩
      · exact Or.inr (List.mem_cons_of_mem _ h2)
/-- where a search stands: behind an order that kept the edges -/
def rinv (kd : Nat → Nat) (E : Nat → Nat → Bool) (n m : Nat) (s : List (List Nat)) (u : List Nat) : Prop :=
  ∃ pre l, rstk kd [[]] pre = some s ∧ rrun kd [[]] pre = some l ∧ u = pre.reverse ∧ pre.length + m = n ∧ pre.Nodup ∧ (∀ f ∈ pre, f < n) ∧ (∀ q ∈ l, rok E q.1 q.2) ∧ rmeet s
theorem rinv_0 (kd : Nat → Nat) (E : Nat → Nat → Bool) (n : Nat) : rinv kd E n n [[]] [] :=
  ⟨[], [], rfl, rfl, rfl, by simp, List.nodup_nil, fun f hf => (by cases hf), fun q hq => (by cases hq), ⟨fun r hr => (by cases hr), trivial⟩⟩
theorem rstk_snoc (kd : Nat → Nat) (f : Nat) : ∀ (o : List Nat) (s0 : List (List Nat)) (p : List Nat) (s : List (List Nat)), rstk kd s0 o = some (p :: s) → rstk kd s0 (o ++ [f]) = some (rp kd f p ++ s)
  | [], s0, p, s, h => by
    simp only [rstk, Option.some.injEq] at h
    subst h
    rfl
  | g :: o, [], p, s, h => by simp [rstk] at h
  | g :: o, q :: s0, p, s, h => rstk_snoc kd f o (rp kd g q ++ s0) p s h
theorem rinv_s {kd : Nat → Nat} {E : Nat → Nat → Bool} {n m : Nat} {p : List Nat} {s : List (List Nat)} {u : List Nat} {f : Nat} (h : rinv kd E n (m + 1) (p :: s) u) (hf : f < n) (hu : f ∉ u) (hok : rok E f p) : rinv kd E n m (rp kd f p ++ s) (f :: u) := by
  obtain ⟨pre, l, h1, h2, rfl, h4, h5, h6, h7, h8⟩ := h
  have hfp : f ∉ pre := fun h9 => hu (List.mem_reverse.mpr h9)
  have hrun : rrun kd [[]] (pre ++ [f]) = some (l ++ [(f, p)]) := by
    rw [rrun_app, h1, h2]
    rfl
  refine ⟨pre ++ [f], l ++ [(f, p)], rstk_snoc kd f pre [[]] p s h1, hrun, by simp, by simp; omega, ?_, ?_, ?_, ?_⟩
  · rw [List.nodup_append]
    exact ⟨h5, by simp, fun a ha b hb => by rw [List.mem_singleton.mp hb]; exact fun h9 => hfp (h9 ▸ ha)⟩
  · intro x hx
    rcases List.mem_append.mp hx with hx | hx
    · exact h6 x hx
    · rw [List.mem_singleton.mp hx]; exact hf
  · intro q hq
    rcases List.mem_append.mp hq with hq | hq
    · exact h7 q hq
    · rw [List.mem_singleton.mp hq]; exact hok
  · refine rmeet_rp h8 (fun r hr i hi h9 => ?_)
    have hg := (rrun_good kd pre [[]] [] l (fun q hq => by rw [List.mem_singleton.mp hq]; trivial) h2).2 _ h1 r (List.mem_cons_of_mem _ hr)
    rw [List.nil_append] at hg
    obtain ⟨new, pm, -, e2, -⟩ := rgood_mem hg h9
    rw [rhalf hi] at e2
    have h10 : f ∈ l.map (·.1) := List.mem_map.mpr ⟨(f, pm), e2, rfl⟩
    rw [rrun_fst kd pre _ l h2] at h10
    exact hfp h10
