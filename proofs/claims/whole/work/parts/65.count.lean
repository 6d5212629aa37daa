/-! holes are filled once; a leaf leaves no choice; at most 720 readings -/
theorem nodup_inj {α β : Type} {F : α → β} {l : List α} (h : (l.map F).Nodup) : ∀ {x y : α}, x ∈ l → y ∈ l → F x = F y → x = y := by
  induction l with
  | nil => intro x y hx; cases hx
  | cons a r ih =>
    intro x y hx hy he
    rw [List.map_cons, List.nodup_cons] at h
    rcases List.mem_cons.mp hx with h1 | h1
    · rcases List.mem_cons.mp hy with h2 | h2
      · rw [h1, h2]
      · exact absurd (List.mem_map.mpr ⟨y, h2, by rw [← he, h1]⟩) h.1
    · rcases List.mem_cons.mp hy with h2 | h2
      · exact absurd (List.mem_map.mpr ⟨x, h1, by rw [he, h2]⟩) h.1
      · exact ih h.2 h1 h2 he
theorem rrun_heads (kd : Nat → Nat) : ∀ (o : List Nat) (s : List (List Nat)) (l : List (Nat × List Nat)), rrun kd s o = some l → (s.map List.head?).Nodup → o.Nodup → (∀ q ∈ s, ∀ x, q.head? = some x → x / 2 ∉ o) →
    (l.map (fun q => q.2.head?)).Nodup ∧ ∀ q ∈ l, q.2.head? ∈ s.map List.head? ∨ ∃ x, q.2.head? = some x ∧ x / 2 ∈ o ∧ x % 2 < rh kd (x / 2)
  | [], s, l, h, _, _, _ => by
    simp only [rrun, Option.some.injEq] at h
    subst h
    exact ⟨List.nodup_nil, fun q hq => by cases hq⟩
  | f :: o, [], l, h, _, _, _ => by simp [rrun] at h
  | f :: o, p :: s, l, h, h1, h2, h3 => by
    simp only [rrun, Option.map_eq_some_iff] at h
    obtain ⟨l', h4, rfl⟩ := h
    rw [List.map_cons, List.nodup_cons] at h1
    rw [List.nodup_cons] at h2
    have hr := rh_le kd f
    have hrp : ∀ q ∈ rp kd f p, ∃ i, i < rh kd f ∧ q.head? = some (2 * f + i) := fun q hq => by
      obtain ⟨i, hi, rfl⟩ := rp_mem hq
      exact ⟨i, hi, rfl⟩
    have n1 : ((rp kd f p ++ s).map List.head?).Nodup := by
      rw [List.map_append, List.nodup_append]
      refine ⟨?_, h1.2, fun a ha b hb => ?_⟩
      · have e : (rp kd f p).map List.head? = (List.range (rh kd f)).map (fun i => some (2 * f + i)) := by
          unfold rp
          rw [List.map_map]
          rfl
        rw [e]
        match hk : rh kd f, hr with
        | 0, _ => simp
        | 1, _ => simp
        | 2, _ => simp [List.range_succ]
      · obtain ⟨q, hq, rfl⟩ := List.mem_map.mp ha
        obtain ⟨r, hr2, rfl⟩ := List.mem_map.mp hb
        obtain ⟨i, hi, e1⟩ := hrp q hq
        rw [e1]
        intro h9
        refine h3 r (List.mem_cons_of_mem _ hr2) _ h9.symm ?_
        rw [rhalf (by omega)]
        exact List.mem_cons_self
    have n2 : ∀ q ∈ rp kd f p ++ s, ∀ x, q.head? = some x → x / 2 ∉ o := by
      intro q hq x hx
      rcases List.mem_append.mp hq with hq | hq
      · obtain ⟨i, hi, e1⟩ := hrp q hq
        rw [e1] at hx
        have hx := Option.some.inj hx
        rw [← hx, rhalf (by omega)]
        exact h2.1
      · exact fun h9 => h3 q (List.mem_cons_of_mem _ hq) x hx (List.mem_cons_of_mem _ h9)
    obtain ⟨g1, g2⟩ := rrun_heads kd o (rp kd f p ++ s) l' h4 n1 h2.2 n2
    have g3 : ∀ q ∈ l', q.2.head? ∈ s.map List.head? ∨ ∃ x, q.2.head? = some x ∧ x / 2 ∈ f :: o ∧ x % 2 < rh kd (x / 2) := by
      intro q hq
      rcases g2 q hq with h9 | ⟨x, e1, e2, e3⟩
      · rw [List.map_append] at h9
        rcases List.mem_append.mp h9 with h9 | h9
        · obtain ⟨r, hr2, e1⟩ := List.mem_map.mp h9
          obtain ⟨i, hi, e2⟩ := hrp r hr2
          rw [e2] at e1
          refine Or.inr ⟨2 * f + i, e1.symm, ?_, ?_⟩
          · rw [rhalf (by omega)]; exact List.mem_cons_self
          · rw [rhalf (by omega)]; omega
        · exact Or.inl h9
      · exact Or.inr ⟨x, e1, List.mem_cons_of_mem _ e2, e3⟩
    refine ⟨?_, fun q hq => ?_⟩
    · rw [List.map_cons, List.nodup_cons]
      refine ⟨fun h9 => ?_, g1⟩
      obtain ⟨q, hq, e1⟩ := List.mem_map.mp h9
      have e1 : q.2.head? = p.head? := e1
      rcases g3 q hq with h8 | ⟨x, e2, e3, -⟩
      · rw [e1] at h8; exact h1.1 h8
      · rw [e1] at e2
        exact h3 p List.mem_cons_self x e2 e3
    · rcases List.mem_cons.mp hq with rfl | hq
      · exact Or.inl (by rw [List.map_cons]; exact List.mem_cons_self)
      · rcases g3 q hq with h8 | h8
        · exact Or.inl (by rw [List.map_cons]; exact List.mem_cons_of_mem _ h8)
        · exact Or.inr h8
theorem rval_heads {kd : Nat → Nat} {o : List Nat} {l : List (Nat × List Nat)} (h : rrun kd [[]] o = some l) (hn : o.Nodup) : (l.map (fun q => q.2.head?)).Nodup ∧ ∀ q ∈ l, ∀ x, q.2.head? = some x → x / 2 ∈ o ∧ x % 2 < rh kd (x / 2) := by
  obtain ⟨h1, h2⟩ := rrun_heads kd o [[]] l h (by simp) hn (fun q hq x hx => by rw [List.mem_singleton.mp hq] at hx; cases hx)
  refine ⟨h1, fun q hq x hx => ?_⟩
  rcases h2 q hq with h9 | ⟨y, e1, e2, e3⟩
  · rw [hx] at h9; simp at h9
  · rw [hx] at e1
    cases e1
    exact ⟨e2, e3⟩
theorem rval_inj {kd : Nat → Nat} {o : List Nat} {l : List (Nat × List Nat)} (h : rrun kd [[]] o = some l) (hn : o.Nodup) {f g z : Nat} {p q : List Nat} (h1 : (f, z :: p) ∈ l) (h2 : (g, z :: q) ∈ l) : f = g := by
  have := nodup_inj (rval_heads h hn).1 h1 h2 rfl
  exact (Prod.mk.inj this).1
theorem rpath_at {l : List (Nat × List Nat)} : ∀ {q : List Nat} {f : Nat}, rgood l q → (f, q) ∈ l → ∀ x ∈ q, ∃ w pm, (w, x :: pm) ∈ l ∧ (w = f ∨ ∃ y ∈ q, w = y / 2)
  | [], f, _, _, x, hx => by cases hx
  | y :: q, f, hg, hf, x, hx => by
    rcases List.mem_cons.mp hx with rfl | hx
    · exact ⟨f, q, hf, Or.inl rfl⟩
    · obtain ⟨w, pm, e1, e2⟩ := rpath_at hg.2 hg.1 x hx
      refine ⟨w, pm, e1, Or.inr ?_⟩
      rcases e2 with e2 | ⟨y', e2, e3⟩
      · exact ⟨y, List.mem_cons_self, e2⟩
      · exact ⟨y', List.mem_cons_of_mem _ e2, e3⟩
theorem rval_hole {kd : Nat → Nat} {o : List Nat} {l : List (Nat × List Nat)} (h : rrun kd [[]] o = some l) (hn : o.Nodup) {f x : Nat} {p : List Nat} (h1 : (f, p) ∈ l) (hx : x ∈ p) : x / 2 ∈ o ∧ x % 2 < rh kd (x / 2) := by
  obtain ⟨w, pm, e1, -⟩ := rpath_at (rval_good' h h1) h1 x hx
  exact (rval_heads h hn).2 _ e1 x rfl
theorem rval_get {kd : Nat → Nat} {E : Nat → Nat → Bool} {n : Nat} {o : List Nat} {l : List (Nat × List Nat)} (h : rval kd E n o l) {g : Nat} (hg : g < n) : ∃ pg, (g, pg) ∈ l := by
  have h9 := rfull n _ h.2.1 h.2.2.1 h.2.2.2.1 g hg
  rw [← rrun_fst kd _ _ _ h.1] at h9
  obtain ⟨q, hq, rfl⟩ := List.mem_map.mp h9
  exact ⟨q.2, hq⟩
/-- each hole has an edge -/
def rhe (kd : Nat → Nat) (E : Nat → Nat → Bool) (n : Nat) : Prop := ∀ x, x / 2 < n → x % 2 < rh kd (x / 2) → ∃ g, g < n ∧ E x g = true
/-- a leaf has an edge from the hole in which it is -/
theorem rleaf {kd : Nat → Nat} {E : Nat → Nat → Bool} {n : Nat} (hE : rhe kd E n) {o : List Nat} {l : List (Nat × List Nat)} (h : rval kd E n o l) {x z : Nat} {pz : List Nat} (hx : (x, z :: pz) ∈ l) (hk : kd x = 0) : E z x = true := by
  obtain ⟨h1, h2, h3, h4, h5⟩ := h
  have hz := rval_hole h1 h2 hx List.mem_cons_self
  obtain ⟨g, hg, he⟩ := hE z (h4 _ hz.1) hz.2
  obtain ⟨pg, hpg⟩ := rval_get ⟨h1, h2, h3, h4, h5⟩ hg
  have hzg := h5 _ hpg z he
  obtain ⟨w, pm, e1, e2⟩ := rpath_at (rval_good' h1 hpg) hpg z hzg
  have hw := rval_inj h1 h2 e1 hx
  rcases e2 with e2 | ⟨y, e2, e3⟩
  · rw [← hw, e2]; exact he
  · exfalso
    have := (rval_hole h1 h2 hpg e2).2
    rw [← e3, hw] at this
    unfold rh at this
    rw [if_pos hk] at this
    exact absurd this (Nat.not_lt_zero _)
theorem rrun_ne (kd : Nat → Nat) : ∀ (o : List Nat) (s : List (List Nat)) (l : List (Nat × List Nat)), rrun kd s o = some l → (∀ q ∈ s, q ≠ []) → ∀ q ∈ l, q.2 ≠ []
  | [], s, l, h, _, q, hq => by
    simp only [rrun, Option.some.injEq] at h
    subst h
    cases hq
  | f :: o, [], l, h, _, _, _ => by simp [rrun] at h
  | f :: o, p :: s, l, h, h1, q, hq => by
    simp only [rrun, Option.map_eq_some_iff] at h
    obtain ⟨l', h4, rfl⟩ := h
    rcases List.mem_cons.mp hq with rfl | hq
    · exact h1 p List.mem_cons_self
    · refine rrun_ne kd o _ l' h4 (fun r hr => ?_) q hq
      rcases List.mem_append.mp hr with hr | hr
      · obtain ⟨i, hi, rfl⟩ := rp_mem hr
        exact fun h9 => by cases h9
      · exact h1 r (List.mem_cons_of_mem _ hr)
theorem rstk_ne (kd : Nat → Nat) : ∀ (o : List Nat) (s s1 : List (List Nat)), rstk kd s o = some s1 → (∀ q ∈ s, q ≠ []) → ∀ q ∈ s1, q ≠ []
  | [], s, s1, h, h1 => by
    simp only [rstk, Option.some.injEq] at h
    subst h
    exact h1
  | f :: o, [], s1, h, _ => by simp [rstk] at h
  | f :: o, p :: s, s1, h, h1 => by
    refine rstk_ne kd o _ s1 h (fun r hr => ?_)
    rcases List.mem_append.mp hr with hr | hr
    · obtain ⟨i, hi, rfl⟩ := rp_mem hr
      exact fun h9 => by cases h9
    · exact h1 r (List.mem_cons_of_mem _ hr)
/-- where a leaf may stand, nothing else may -/
theorem rone {kd : Nat → Nat} {E : Nat → Nat → Bool} {n m : Nat} (hE : rhe kd E n) {p : List Nat} {s : List (List Nat)} {u : List Nat} {x y : Nat} (hi : rinv kd E n (m + 1) (p :: s) u) (hx : x < n) (hxu : x ∉ u) (hxo : rok E x p) (hxn : rsp kd E n m (rp kd x p ++ s) (x :: u) ≠ []) (hk : kd x = 0) (hy : y < n) (hyu : y ∉ u) (hyo : rok E y p) (hyn : rsp kd E n m (rp kd y p ++ s) (y :: u) ≠ []) : y = x := by
  obtain ⟨pre, l, o1, l1, hu1, a1, a2, a3, hv1, -⟩ := rinv_ext hi hx hxu hxo hxn
  obtain ⟨pre2, l2, o2, l3, hu2, b1, b2, b3, hv2, -⟩ := rinv_ext hi hy hyu hyo hyn
  have e1 : pre2 = pre := by rw [hu1] at hu2; exact (List.reverse_inj.mp hu2).symm
  subst e1
  rw [a2] at b2
  have b2 := Option.some.inj b2
  subst b2
  apply Classical.byContradiction
  intro hyx
  have hxpre : x ∉ pre2 := fun h9 => hxu (by rw [hu1]; exact List.mem_reverse.mpr h9)
  obtain ⟨px, hpx⟩ := rval_get hv2 hx
  cases hpre : pre2 with
  | nil =>
    rw [hpre] at a1 hv1
    simp only [rstk, Option.some.injEq, List.cons.injEq] at a1
    obtain ⟨rfl, rfl⟩ := a1
    have hrp : rp kd x [] ++ ([] : List (List Nat)) = [] := by
      unfold rp rh
      rw [if_pos hk]
      rfl
    rw [hrp] at a3
    have ho1 : o1 = [] := by
      cases o1 with
      | nil => rfl
      | cons a b => simp [rrun] at a3
    have := hv1.2.2.1
    rw [ho1] at this
    simp at this
    omega
  | cons a b =>
    have hpn : ∀ q ∈ p :: s, q ≠ [] := by
      rw [hpre] at a1
      refine rstk_ne kd b (rp kd a [] ++ []) _ a1 (fun r hr => ?_)
      rw [List.append_nil] at hr
      obtain ⟨i, hi, rfl⟩ := rp_mem hr
      exact fun h9 => by cases h9
    have hx3 : (x, px) ∈ l3 := by
      rcases List.mem_append.mp hpx with h9 | h9
      · exfalso
        have : x ∈ l.map (·.1) := List.mem_map.mpr ⟨_, h9, rfl⟩
        rw [rrun_fst kd _ _ _ a2] at this
        exact hxpre this
      · rcases List.mem_cons.mp h9 with h9 | h9
        · exact absurd (Prod.mk.inj h9).1.symm hyx
        · exact h9
    have hpxn : px ≠ [] := rrun_ne kd o2 _ l3 b3 (fun q hq => by
      rcases List.mem_append.mp hq with hq | hq
      · obtain ⟨i, hi, rfl⟩ := rp_mem hq
        exact fun h9 => by cases h9
      · exact hpn q (List.mem_cons_of_mem _ hq)) _ hx3
    cases px with
    | nil => exact hpxn rfl
    | cons z pz =>
      have hEz := rleaf hE hv2 hpx hk
      have hzp : z ∈ p := hxo z hEz
      have hyl : (y, p) ∈ l ++ (y, p) :: l3 := List.mem_append_right _ List.mem_cons_self
      obtain ⟨w, pm, c1, c2⟩ := rpath_at (rval_good' hv2.1 hyl) hyl z hzp
      have hw := rval_inj hv2.1 hv2.2.1 c1 hpx
      rcases c2 with c2 | ⟨v, c2, c3⟩
      · exact hyx (by rw [← c2, hw])
      · have hg : rgood l p := rval_good hv2.1 rfl
        obtain ⟨new, pm2, -, d2, -⟩ := rgood_mem hg c2
        apply hxpre
        rw [← rrun_fst kd _ _ _ a2, ← hw, c3]
        exact List.mem_map.mpr ⟨_, d2, rfl⟩
def fct : Nat → Nat
  | 0 => 1
  | k + 1 => (k + 1) * fct k
theorem fct_pos : ∀ k, 1 ≤ fct k
  | 0 => Nat.le_refl _
  | k + 1 => by
    have := fct_pos k
    have h2 : 1 * 1 ≤ (k + 1) * fct k := Nat.mul_le_mul (by omega) this
    exact h2
theorem fct_mono {a : Nat} : ∀ {b : Nat}, a ≤ b → fct a ≤ fct b
  | 0, h => by rw [show a = 0 by omega]; exact Nat.le_refl _
  | b + 1, h => by
    by_cases hab : a = b + 1
    · rw [hab]; exact Nat.le_refl _
    · have h1 := fct_mono (a := a) (b := b) (by omega)
      have h2 : 1 * fct b ≤ (b + 1) * fct b := Nat.mul_le_mul (by omega) (Nat.le_refl _)
      rw [Nat.one_mul] at h2
      exact Nat.le_trans h1 h2
theorem fm_le {α : Type} {F : Nat → List α} {P : Nat → Bool} {b : Nat} : ∀ l : List Nat, (∀ f ∈ l, F f = [] ∨ (P f = true ∧ (F f).length ≤ b)) → (l.flatMap F).length ≤ (l.filter P).length * b
  | [], _ => by simp
  | a :: l, h => by
    have h1 := fm_le l (fun f hf => h f (List.mem_cons_of_mem _ hf))
    rw [List.flatMap_cons, List.length_append]
    rcases h a List.mem_cons_self with h2 | ⟨h2, h3⟩
    · rw [h2, List.length_nil, Nat.zero_add]
      refine Nat.le_trans h1 (Nat.mul_le_mul ?_ (Nat.le_refl _))
      rw [List.filter_cons]
      split
      · simp
      · exact Nat.le_refl _
    · rw [List.filter_cons, if_pos h2, List.length_cons, Nat.add_mul, Nat.one_mul]
      omega
/-- operators that are not placed -/
def rops (kd : Nat → Nat) (n : Nat) (u : List Nat) : Nat := ((List.range n).filter (fun f => decide (f ∉ u ∧ kd f ≠ 0))).length
theorem flt_one {n x : Nat} : ((List.range n).filter (fun f => decide (f = x))).length ≤ 1 := by
  have key : ∀ l : List Nat, l.Nodup → (l.filter (fun f => decide (f = x))).length ≤ 1 := by
    intro l
    induction l with
    | nil => intro _; simp
    | cons a r ih =>
      intro h
      rw [List.nodup_cons] at h
      rw [List.filter_cons]
      split
      · rename_i h1
        have h1 := of_decide_eq_true h1
        subst h1
        have : r.filter (fun f => decide (f = a)) = [] := by
          rw [List.filter_eq_nil_iff]
          intro y hy h2
          exact h.1 (of_decide_eq_true h2 ▸ hy)
        rw [this]
        simp
      · exact ih h.2
  exact key _ List.nodup_range
theorem rops_leaf {kd : Nat → Nat} {n : Nat} {u : List Nat} {x : Nat} (hk : kd x = 0) : rops kd n (x :: u) = rops kd n u := by
  unfold rops
  congr 1
  apply List.filter_congr
  intro f _
  by_cases hf : f = x
  · subst hf; simp [hk]
  · simp [hf]
theorem rops_op {kd : Nat → Nat} {n : Nat} {u : List Nat} {x : Nat} (hx : x < n) (hu : x ∉ u) (hk : kd x ≠ 0) : rops kd n (x :: u) + 1 = rops kd n u := by
  unfold rops
  have key : ∀ l : List Nat, l.Nodup → x ∈ l → (l.filter (fun f => decide (f ∉ x :: u ∧ kd f ≠ 0))).length + 1 = (l.filter (fun f => decide (f ∉ u ∧ kd f ≠ 0))).length := by
    intro l
    induction l with
    | nil => intro _ h; cases h
    | cons a r ih =>
      intro h hm
      rw [List.nodup_cons] at h
      rw [List.filter_cons, List.filter_cons]
      by_cases ha : a = x
      · subst ha
        rw [if_neg (by simp), if_pos (by simp [hu, hk])]
        rw [List.length_cons]
        congr 2
        apply List.filter_congr
        intro f hf
        have : f ≠ a := fun h9 => h.1 (h9 ▸ hf)
        simp [this]
      · have hm' : x ∈ r := by
          rcases List.mem_cons.mp hm with h9 | h9
          · exact absurd h9.symm ha
          · exact h9
        have ih := ih h.2 hm'
        by_cases hc : a ∉ u ∧ kd a ≠ 0
        · rw [if_pos (by simp [ha, hc.1, hc.2]), if_pos (by simp [hc.1, hc.2]), List.length_cons, List.length_cons]
          omega
        · rw [if_neg (by simp only [decide_eq_true_iff]; exact fun h9 => hc ⟨fun h8 => h9.1 (List.mem_cons_of_mem _ h8), h9.2⟩), if_neg (by simp only [decide_eq_true_iff]; exact hc)]
          exact ih
  exact key _ List.nodup_range (List.mem_range.mpr hx)
theorem rcount {kd : Nat → Nat} {E : Nat → Nat → Bool} {n : Nat} (hE : rhe kd E n) : ∀ (m : Nat) (s : List (List Nat)) (u : List Nat), rinv kd E n m s u → (rsp kd E n m s u).length ≤ fct (rops kd n u)
  | 0, s, u, _ => by
    simp only [rsp, List.length_cons, List.length_nil]
    exact fct_pos _
  | m + 1, [], u, _ => by
    simp only [rsp, List.length_nil]
    exact Nat.zero_le _
  | m + 1, p :: s, u, hi => by
    have ih := rcount hE m
    have lem : ∀ f, f < n → f ∉ u ∧ rok E f p → (rsp kd E n m (rp kd f p ++ s) (f :: u)).length ≤ fct (rops kd n (f :: u)) := fun f hf hc => ih _ _ (rinv_s hi hf hc.1 hc.2)
    simp only [rsp]
    by_cases hx : ∃ x, x < n ∧ (x ∉ u ∧ rok E x p) ∧ rsp kd E n m (rp kd x p ++ s) (x :: u) ≠ [] ∧ kd x = 0
    · obtain ⟨x, hx, hc, hne, hk⟩ := hx
      refine Nat.le_trans (fm_le (P := fun f => decide (f = x)) (b := fct (rops kd n u)) _ (fun f hf => ?_)) ?_
      · have hf := List.mem_range.mp hf
        by_cases hcf : f ∉ u ∧ rok E f p
        · rw [if_pos hcf]
          by_cases hnf : rsp kd E n m (rp kd f p ++ s) (f :: u) = []
          · rw [hnf]; exact Or.inl rfl
          · have hfx := rone hE hi hx hc.1 hc.2 hne hk hf hcf.1 hcf.2 hnf
            refine Or.inr ⟨decide_eq_true hfx, ?_⟩
            rw [List.length_map]
            have := lem f hf hcf
            rw [hfx] at this ⊢
            rw [rops_leaf hk] at this
            exact this
        · rw [if_neg hcf]; exact Or.inl rfl
      · have := Nat.mul_le_mul (flt_one (n := n) (x := x)) (Nat.le_refl (fct (rops kd n u)))
        rw [Nat.one_mul] at this
        exact this
    · refine Nat.le_trans (fm_le (P := fun f => decide (f ∉ u ∧ kd f ≠ 0)) (b := fct (rops kd n u - 1)) _ (fun f hf => ?_)) ?_
      · have hf := List.mem_range.mp hf
        by_cases hcf : f ∉ u ∧ rok E f p
        · rw [if_pos hcf]
          by_cases hnf : rsp kd E n m (rp kd f p ++ s) (f :: u) = []
          · rw [hnf]; exact Or.inl rfl
          · have hk : kd f ≠ 0 := fun h9 => hx ⟨f, hf, hcf, hnf, h9⟩
            refine Or.inr ⟨decide_eq_true ⟨hcf.1, hk⟩, ?_⟩
            rw [List.length_map]
            have := lem f hf hcf
            have h2 := rops_op hf hcf.1 hk
            rw [show rops kd n u - 1 = rops kd n (f :: u) by omega]
            exact this
        · rw [if_neg hcf]; exact Or.inl rfl
      · show rops kd n u * fct (rops kd n u - 1) ≤ fct (rops kd n u)
        cases rops kd n u with
        | zero => simp
        | succ k => exact Nat.le_refl _
theorem nF_map (fs : List Fg) : (List.range fs.length).map (nF fs) = fs := by
  apply List.ext_getElem?
  intro i
  rw [List.getElem?_map]
  by_cases hi : i < fs.length
  · rw [List.getElem?_range hi, List.getElem?_eq_getElem hi]
    simp [nF, List.getD_eq_getElem?_getD, hi]
  · rw [List.getElem?_eq_none (by simp; omega), List.getElem?_eq_none (by omega)]
    rfl
section CN1
variable {L : Nat → Nat} {t : Nat} {fs : List Fg} {cs : List (Nat × Nat)}
theorem rops_le (hG : Good L t fs) : rops (kdF fs) fs.length [] ≤ 6 := by
  have e : rops (kdF fs) fs.length [] = fs.countP (fun x => decide (kF x ≠ 0)) := by
    unfold rops
    conv => rhs; rw [← nF_map fs, List.countP_map]
    rw [List.countP_eq_length_filter]
    congr 1
    apply List.filter_congr
    intro f _
    simp [kdF]
  have h2 : ∀ l : List Fg, l.countP (fun x => decide (kF x ≠ 0)) ≤ l.countP (fun x => decide (rk (kF x) = 2)) + l.countP (fun x => decide (kF x = 5)) := by
    intro l
    induction l with
    | nil => simp
    | cons a r ih =>
      rw [List.countP_cons, List.countP_cons, List.countP_cons]
      have : (if decide (kF a ≠ 0) = true then 1 else 0) ≤ (if decide (rk (kF a) = 2) = true then 1 else 0) + (if decide (kF a = 5) = true then 1 else 0) := by
        unfold rk
        by_cases h0 : kF a = 0
        · simp [h0]
        · by_cases h5 : kF a = 5
          · simp [h5]
          · simp [h0, h5]
      omega
  have h3 := h2 fs
  have h4 := hG.2.2.1
  have h5 := hG.2.2.2.1
  unfold cQ at h4
  unfold cN at h5
  omega
theorem SE_hole (hG : Good L t fs) {x : Nat} (hx : x / 2 < fs.length) (hr : x % 2 < rk (kF (nF fs (x / 2)))) : ∃ g, g < fs.length ∧ SE fs x g := by
  have h0 := hG.1
  have h1 := hG.2.2.2.2.2.1 (x / 2) hx
  unfold SE
  rcases h1 with h1 | h1 | h1
  · rw [h1.1] at hr; exact absurd hr (Nat.not_lt_zero _)
  · have hq : rk (kF (nF fs (x / 2))) = 2 := by unfold rk; rw [if_neg (by omega), if_neg (by omega)]
    by_cases h2 : x % 2 = 0
    · exact ⟨x / 2 + 1, by omega, hx, by omega, Or.inl ⟨hq, Or.inl ⟨h2, rfl⟩⟩⟩
    · by_cases h3 : ∃ g', SC fs (x / 2) g'
      · obtain ⟨g', h3⟩ := h3
        exact ⟨g', h3.1, hx, h3.1, Or.inl ⟨hq, Or.inr ⟨by omega, Or.inl h3⟩⟩⟩
      · exact ⟨fs.length - 1, by omega, hx, by omega, Or.inl ⟨hq, Or.inr ⟨by omega, Or.inr ⟨fun g' h9 => h3 ⟨g', h9⟩, rfl⟩⟩⟩⟩
  · rw [h1.1] at hr
    have hr : x % 2 < 1 := hr
    exact ⟨fs.length - 1, by omega, hx, by omega, Or.inr ⟨h1.1, by omega, rfl⟩⟩
theorem rhe_E (hG : Good L t fs) : rhe (kdF fs) (eE fs cs) fs.length := by
  intro x hx hr
  obtain ⟨g, hg, h1⟩ := SE_hole hG hx hr
  exact ⟨g, hg, eE_t.mpr (Or.inl h1)⟩
/-- the readings -/
noncomputable def RLs (fs : List Fg) (cs : List (Nat × Nat)) : List (List Nat) := rsp (kdF fs) (eE fs cs) fs.length fs.length [[]] []
theorem RLs_le (hG : Good L t fs) : (RLs fs cs).length ≤ 720 := by
  have h1 := rcount (rhe_E (cs := cs) hG) fs.length [[]] [] (rinv_0 _ _ _)
  exact Nat.le_trans h1 (fct_mono (rops_le hG))
end CN1
