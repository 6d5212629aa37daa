/-! the reference's search -/
def rtl : List (List Nat) → Prop
  | [] => True
  | p :: s => (∀ q ∈ s, ∀ x ∈ q.tail, x ∈ p) ∧ rtl s
theorem rtl_rp {kd : Nat → Nat} {f : Nat} {p : List Nat} {s : List (List Nat)} (h : rtl (p :: s)) : rtl (rp kd f p ++ s) := by
  have key : ∀ y, rtl ((y :: p) :: s) := fun y => ⟨fun q hq x hx => List.mem_cons_of_mem _ (h.1 q hq x hx), h.2⟩
  have h2 := rh_le kd f
  unfold rp
  match hk : rh kd f, h2 with
  | 0, _ => exact h.2
  | 1, _ => exact key _
  | 2, _ =>
    show rtl (((2 * f + 0) :: p) :: ((2 * f + 1) :: p) :: s)
    refine ⟨fun q hq x hx => ?_, key _⟩
    rcases List.mem_cons.mp hq with rfl | hq
    · exact List.mem_cons_of_mem _ hx
    · exact List.mem_cons_of_mem _ (h.1 q hq x hx)
theorem rtl_top {p : List Nat} {s : List (List Nat)} (h : rtl (p :: s)) {q : List Nat} (hq : q ∈ p :: s) {x : Nat} (hx : x ∈ q) : q.head? = some x ∨ x ∈ p := by
  rcases List.mem_cons.mp hq with rfl | hq
  · exact Or.inr hx
  · cases q with
    | nil => cases hx
    | cons y q =>
      rcases List.mem_cons.mp hx with rfl | hx
      · exact Or.inl rfl
      · exact Or.inr (h.1 _ hq x hx)
/-- the reference's condition, once f stands: what mayStand looks at -/
def rref (kd : Nat → Nat) (E : Nat → Nat → Bool) (n : Nat) (st : List (List Nat)) (u : List Nat) (f : Nat) : Prop :=
  f ∉ u ∧ ∃ l st', rrun kd [[]] (f :: u).reverse = some l ∧ rstk kd [[]] (f :: u).reverse = some st' ∧ (u.length + 1 < n → st' ≠ []) ∧ ∀ x g, E x g = true → g < n →
    (x / 2 ∈ f :: u → g ∈ f :: u → ∃ pg, (g, pg) ∈ l ∧ x ∈ pg) ∧ (x / 2 ∈ f :: u → g ∉ f :: u → (∃ q ∈ st', q.head? = some x) ∨ ∃ q, st'.head? = some q ∧ x ∈ q) ∧ (x / 2 ∉ f :: u → g ∉ f :: u)
def rinv2 (kd : Nat → Nat) (E : Nat → Nat → Bool) (n m : Nat) (s : List (List Nat)) (u : List Nat) : Prop := rinv kd E n m s u ∧ rtl s
theorem rref_ok {kd : Nat → Nat} {E : Nat → Nat → Bool} {n m : Nat} {p : List Nat} {s : List (List Nat)} {u : List Nat} {f : Nat} (h : rinv kd E n (m + 1) (p :: s) u) (hf : f < n) (hc : rref kd E n (p :: s) u f) : f ∉ u ∧ rok E f p := by
  obtain ⟨pre, l0, h1, h2, rfl, h4, h5, h6, h7, h8⟩ := h
  obtain ⟨hu, l, st', e1, e2, e3, e4⟩ := hc
  refine ⟨hu, fun x hx => ?_⟩
  have hrev : (f :: pre.reverse).reverse = pre ++ [f] := by simp
  have hrun : rrun kd [[]] (pre ++ [f]) = some (l0 ++ [(f, p)]) := by
    rw [rrun_app, h1, h2]
    rfl
  rw [hrev, hrun] at e1
  have e1 := Option.some.inj e1
  subst e1
  obtain ⟨q1, -, q3⟩ := e4 x f hx hf
  have hin : x / 2 ∈ f :: pre.reverse := Classical.byContradiction fun h9 => q3 h9 List.mem_cons_self
  obtain ⟨pg, hp1, hp2⟩ := q1 hin List.mem_cons_self
  have hfst := rrun_fst kd _ _ _ hrun
  have hfp : f ∉ pre := fun h9 => hu (List.mem_reverse.mpr h9)
  have hnd : ((l0 ++ [(f, p)]).map (·.1)).Nodup := by
    rw [hfst, List.nodup_append]
    exact ⟨h5, by simp, fun a ha b hb => by rw [List.mem_singleton.mp hb]; exact fun h9 => hfp (h9 ▸ ha)⟩
  have e9 := nodup_uniq hnd hp1 (List.mem_append_right _ List.mem_cons_self : (f, p) ∈ _)
  rw [e9] at hp2
  exact hp2
theorem rref_need {kd : Nat → Nat} {E : Nat → Nat → Bool} {n m : Nat} {p : List Nat} {s : List (List Nat)} {u : List Nat} {f : Nat} (h : rinv kd E n (m + 1) (p :: s) u) (ht : rtl (p :: s)) (hf : f < n) (hu : f ∉ u) (hok : rok E f p) (hne : rsp kd E n m (rp kd f p ++ s) (f :: u) ≠ []) : rref kd E n (p :: s) u f := by
  obtain ⟨pre, l, o', l', rfl, h1, h2, h3, hv, hm⟩ := rinv_ext h hf hu hok hne
  have hrev : (f :: pre.reverse).reverse = pre ++ [f] := by simp
  have hrun : rrun kd [[]] (pre ++ [f]) = some (l ++ [(f, p)]) := by
    rw [rrun_app, h1, h2]
    rfl
  have hst := rstk_snoc kd f pre [[]] p s h1
  have hall := rfull n _ hv.2.1 hv.2.2.1 hv.2.2.2.1
  have hfst := rrun_fst kd _ _ _ hv.1
  have hfst2 := rrun_fst kd _ _ _ hrun
  have hl'o := rrun_fst kd _ _ _ h3
  have hv5 := hv.2.2.2.2
  have hnd2 := hv.2.1
  have memU : ∀ y, y ∈ f :: pre.reverse ↔ y ∈ pre ++ [f] := by
    intro y
    rw [← hrev, List.mem_reverse]
  refine ⟨hu, l ++ [(f, p)], rp kd f p ++ s, by rw [hrev]; exact hrun, by rw [hrev]; exact hst, fun hlt h9 => ?_, fun x g hE hg => ⟨fun hx hgu => ?_, fun hx hgu => ?_, fun hx hgu => ?_⟩⟩
  · have hlen := hv.2.2.1
    simp only [List.length_append, List.length_cons] at hlen
    rw [List.length_reverse] at hlt
    cases o' with
    | nil => simp at hlen; omega
    | cons a b =>
      rw [h9] at h3
      simp [rrun] at h3
  · rw [memU, ← hfst2] at hgu
    obtain ⟨q, hq, rfl⟩ := List.mem_map.mp hgu
    refine ⟨q.2, hq, hv5 q ?_ x hE⟩
    rcases List.mem_append.mp hq with h9 | h9
    · exact List.mem_append_left _ h9
    · rw [List.mem_singleton.mp h9]
      exact List.mem_append_right _ List.mem_cons_self
  · have hg9 := hall g hg
    rw [← hfst] at hg9
    obtain ⟨q, hq, rfl⟩ := List.mem_map.mp hg9
    have hq' : q ∈ l' := by
      rcases List.mem_append.mp hq with h9 | h9
      · exfalso
        apply hgu
        rw [memU, ← hfst2]
        exact List.mem_map.mpr ⟨q, List.mem_append_left _ h9, rfl⟩
      · rcases List.mem_cons.mp h9 with h9 | h9
        · exfalso
          apply hgu
          rw [h9]
          exact List.mem_cons_self
        · exact h9
    have hxq := hv5 q hq x hE
    rcases rrun_in kd o' _ l' h3 q hq' x hxq with ⟨r, hr, hxr⟩ | h9
    · have ht2 := rtl_rp (kd := kd) (f := f) ht
      cases hst9 : rp kd f p ++ s with
      | nil => rw [hst9] at hr; cases hr
      | cons a b =>
        rw [hst9] at hr ht2
        rcases rtl_top ht2 hr hxr with h10 | h10
        · exact Or.inl ⟨r, hr, h10⟩
        · exact Or.inr ⟨a, rfl, h10⟩
    · exfalso
      rw [memU] at hx
      rw [show pre ++ f :: o' = (pre ++ [f]) ++ o' by simp, List.nodup_append] at hnd2
      exact hnd2.2.2 _ hx _ h9 rfl
  · rw [memU, ← hfst2] at hgu
    obtain ⟨q, hq, rfl⟩ := List.mem_map.mp hgu
    apply hx
    have hq' : q ∈ l ++ (f, p) :: l' := by
      rcases List.mem_append.mp hq with h9 | h9
      · exact List.mem_append_left _ h9
      · rw [List.mem_singleton.mp h9]
        exact List.mem_append_right _ List.mem_cons_self
    have hxq := hv5 q hq' x hE
    obtain ⟨new, pm, -, e2, -⟩ := rgood_mem (rval_good' hrun hq) hxq
    rw [memU, ← hfst2]
    exact List.mem_map.mpr ⟨_, e2, rfl⟩
/-- THE REFERENCE'S SEARCH lists what is to be listed -/
theorem rref_eq {kd : Nat → Nat} {E : Nat → Nat → Bool} {n : Nat} : rdf kd n (rref kd E n) n [[]] [] = rsp kd E n n [[]] [] := by
  refine rdf_eq (rinv2 kd E n) (fun m p s u f hi hf hc => rref_ok hi.1 hf hc) (fun m p s u f hi hf hu hok hne => rref_need hi.1 hi.2 hf hu hok hne) (fun m p s u f hi hf hc => ?_) n [[]] [] ⟨rinv_0 kd E n, ⟨fun q hq => (by cases hq), trivial⟩⟩
  have h1 := rref_ok hi.1 hf hc
  exact ⟨rinv_s hi.1 hf h1.1 h1.2, rtl_rp hi.2⟩
