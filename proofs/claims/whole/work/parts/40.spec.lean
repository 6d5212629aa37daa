/-! THE SPEC of readings, free of any machine: a stack of paths (a path: the holes from an open hole upwards; hole i of fragment f is 2 * f + i) -/
def rh (kd : Nat → Nat) (f : Nat) : Nat := if kd f = 0 then 0 else if kd f = 5 then 1 else 2
/-- the paths that a fragment opens, the first hole first -/
def rp (kd : Nat → Nat) (f : Nat) (p : List Nat) : List (List Nat) := (List.range (rh kd f)).map (fun i => (2 * f + i) :: p)
/-- fragment f may stand under path p: each edge that leads to it comes from a hole of the path -/
def rok (E : Nat → Nat → Bool) (f : Nat) (p : List Nat) : Prop := ∀ x, E x f = true → x ∈ p
/-- all ways to go on: m fragments are still to be placed, of those below n that are not used -/
noncomputable def rsp (kd : Nat → Nat) (E : Nat → Nat → Bool) (n : Nat) : Nat → List (List Nat) → List Nat → List (List Nat)
  | 0, _, _ => [[]]
  | _ + 1, [], _ => []
  | m + 1, p :: s, u => (List.range n).flatMap (fun f => haveI := Classical.propDecidable (f ∉ u ∧ rok E f p); if f ∉ u ∧ rok E f p then (rsp kd E n m (rp kd f p ++ s) (f :: u)).map (f :: ·) else [])
/-- an order that goes on from a stack, each fragment with its path -/
def rrun (kd : Nat → Nat) : List (List Nat) → List Nat → Option (List (Nat × List Nat))
  | _, [] => some []
  | [], _ :: _ => none
  | p :: s, f :: o => (rrun kd (rp kd f p ++ s) o).map (fun l => (f, p) :: l)
/-- what rsp lists -/
theorem rsp_mem (kd : Nat → Nat) (E : Nat → Nat → Bool) (n : Nat) : ∀ (m : Nat) (s : List (List Nat)) (u o : List Nat), o ∈ rsp kd E n m s u ↔ o.length = m ∧ o.Nodup ∧ (∀ f ∈ o, f < n ∧ f ∉ u) ∧ ∃ l, rrun kd s o = some l ∧ ∀ q ∈ l, rok E q.1 q.2
  | 0, s, u, o => by
    cases o with
    | nil => simp [rsp, rrun]
    | cons f o => simp [rsp]
  | m + 1, [], u, o => by
    cases o with
    | nil => simp [rsp]
    | cons f o => simp [rsp, rrun]
  | m + 1, p :: s, u, o => by
    have ih := fun f => rsp_mem kd E n m (rp kd f p ++ s) (f :: u)
    simp only [rsp, List.mem_flatMap, List.mem_range]
    constructor
    · rintro ⟨f, hf, ho⟩
      split at ho
      · rename_i hc
        obtain ⟨o', ho', rfl⟩ := List.mem_map.mp ho
        obtain ⟨h1, h2, h3, l, h4, h5⟩ := (ih f o').mp ho'
        refine ⟨by simp [h1], List.nodup_cons.mpr ⟨fun h0 => (h3 f h0).2 List.mem_cons_self, h2⟩, ?_, (f, p) :: l, by simp [rrun, h4], ?_⟩
        · intro x hx
          rcases List.mem_cons.mp hx with rfl | hx
          · exact ⟨hf, hc.1⟩
          · exact ⟨(h3 x hx).1, fun h0 => (h3 x hx).2 (List.mem_cons_of_mem _ h0)⟩
        · intro q hq
          rcases List.mem_cons.mp hq with rfl | hq
          · exact hc.2
          · exact h5 q hq
      · cases ho
    · rintro ⟨h1, h2, h3, l, h4, h5⟩
      cases o with
      | nil => simp at h1
      | cons f o =>
        simp only [rrun, Option.map_eq_some_iff] at h4
        obtain ⟨l', h4, rfl⟩ := h4
        have hf := h3 f List.mem_cons_self
        have hok : rok E f p := h5 (f, p) List.mem_cons_self
        refine ⟨f, hf.1, ?_⟩
        rw [if_pos ⟨hf.2, hok⟩]
        refine List.mem_map.mpr ⟨o, (ih f o).mpr ⟨by simpa using h1, (List.nodup_cons.mp h2).2, fun x hx => ⟨(h3 x (List.mem_cons_of_mem _ hx)).1, fun h0 => ?_⟩, l', h4, fun q hq => h5 q (List.mem_cons_of_mem _ hq)⟩, rfl⟩
        rcases List.mem_cons.mp h0 with rfl | h0
        · exact (List.nodup_cons.mp h2).1 hx
        · exact (h3 x (List.mem_cons_of_mem _ hx)).2 h0
/-- a search that cuts dead ends only -/
noncomputable def rdf (kd : Nat → Nat) (n : Nat) (c : List (List Nat) → List Nat → Nat → Prop) : Nat → List (List Nat) → List Nat → List (List Nat)
  | 0, _, _ => [[]]
  | _ + 1, [], _ => []
  | m + 1, p :: s, u => (List.range n).flatMap (fun f => haveI := Classical.propDecidable (c (p :: s) u f); if c (p :: s) u f then (rdf kd n c m (rp kd f p ++ s) (f :: u)).map (f :: ·) else [])
theorem rdf_eq {kd : Nat → Nat} {E : Nat → Nat → Bool} {n : Nat} {c : List (List Nat) → List Nat → Nat → Prop} (Inv : Nat → List (List Nat) → List Nat → Prop)
    (h1 : ∀ m p s u f, Inv (m + 1) (p :: s) u → f < n → c (p :: s) u f → f ∉ u ∧ rok E f p)
    (h2 : ∀ m p s u f, Inv (m + 1) (p :: s) u → f < n → f ∉ u → rok E f p → rsp kd E n m (rp kd f p ++ s) (f :: u) ≠ [] → c (p :: s) u f)
    (h3 : ∀ m p s u f, Inv (m + 1) (p :: s) u → f < n → c (p :: s) u f → Inv m (rp kd f p ++ s) (f :: u)) :
    ∀ (m : Nat) (s : List (List Nat)) (u : List Nat), Inv m s u → rdf kd n c m s u = rsp kd E n m s u
  | 0, _, _, _ => rfl
  | m + 1, [], _, _ => rfl
  | m + 1, p :: s, u, hi => by
    simp only [rdf, rsp]
    have e : ∀ f ∈ List.range n, (haveI := Classical.propDecidable (c (p :: s) u f); if c (p :: s) u f then (rdf kd n c m (rp kd f p ++ s) (f :: u)).map (f :: ·) else []) = (haveI := Classical.propDecidable (f ∉ u ∧ rok E f p); if f ∉ u ∧ rok E f p then (rsp kd E n m (rp kd f p ++ s) (f :: u)).map (f :: ·) else []) := by
      intro f hf
      have hf := List.mem_range.mp hf
      by_cases hc : c (p :: s) u f
      · rw [if_pos hc, if_pos (h1 m p s u f hi hf hc), rdf_eq Inv h1 h2 h3 m _ _ (h3 m p s u f hi hf hc)]
      · rw [if_neg hc]
        by_cases hl : f ∉ u ∧ rok E f p
        · rw [if_pos hl]
          by_cases he : rsp kd E n m (rp kd f p ++ s) (f :: u) = []
          · rw [he]; rfl
          · exact absurd (h2 m p s u f hi hf hl.1 hl.2 he) hc
        · rw [if_neg hl]
    have : ∀ (l : List Nat) (F G : Nat → List (List Nat)), (∀ f ∈ l, F f = G f) → l.flatMap F = l.flatMap G := by
      intro l F G hFG
      induction l with
      | nil => rfl
      | cons a r ih => rw [List.flatMap_cons, List.flatMap_cons, hFG a List.mem_cons_self, ih (fun f hf => hFG f (List.mem_cons_of_mem _ hf))]
    exact this _ _ _ e
/-- a path is a chain of placements -/
def rgood (d : List (Nat × List Nat)) : List Nat → Prop
  | [] => True
  | x :: q => (x / 2, q) ∈ d ∧ rgood d q
theorem rgood_mono {d d' : List (Nat × List Nat)} (h : ∀ y ∈ d, y ∈ d') : ∀ {q : List Nat}, rgood d q → rgood d' q
  | [], _ => trivial
  | _ :: _, hq => ⟨h _ hq.1, rgood_mono h hq.2⟩
theorem rgood_mem {d : List (Nat × List Nat)} : ∀ {q : List Nat} {x : Nat}, rgood d q → x ∈ q → ∃ new pm, q = new ++ x :: pm ∧ (x / 2, pm) ∈ d ∧ rgood d pm
  | [], x, _, hx => by cases hx
  | y :: q, x, h, hx => by
    rcases List.mem_cons.mp hx with rfl | hx
    · exact ⟨[], q, rfl, h.1, h.2⟩
    · obtain ⟨new, pm, h1, h2, h3⟩ := rgood_mem h.2 hx
      exact ⟨y :: new, pm, by rw [h1]; rfl, h2, h3⟩
theorem rp_mem {kd : Nat → Nat} {f : Nat} {p q : List Nat} (h : q ∈ rp kd f p) : ∃ i, i < rh kd f ∧ q = (2 * f + i) :: p := by
  unfold rp at h
  obtain ⟨i, hi, rfl⟩ := List.mem_map.mp h
  exact ⟨i, List.mem_range.mp hi, rfl⟩
theorem rh_le (kd : Nat → Nat) (f : Nat) : rh kd f ≤ 2 := by
  unfold rh
  split
  · exact Nat.zero_le _
  · split <;> decide
theorem rhalf {f i : Nat} (h : i < 2) : (2 * f + i) / 2 = f := by omega
/-- the stack behind an order -/
def rstk (kd : Nat → Nat) : List (List Nat) → List Nat → Option (List (List Nat))
  | s, [] => some s
  | [], _ :: _ => none
  | p :: s, f :: o => rstk kd (rp kd f p ++ s) o
theorem rrun_app (kd : Nat → Nat) : ∀ (o1 o2 : List Nat) (s : List (List Nat)), rrun kd s (o1 ++ o2) = (rstk kd s o1).bind (fun s1 => (rrun kd s o1).bind (fun l1 => (rrun kd s1 o2).map (fun l2 => l1 ++ l2)))
  | [], o2, s => by
    simp only [List.nil_append, rstk, rrun, Option.bind_some]
    cases rrun kd s o2 <;> rfl
  | f :: o1, o2, [] => rfl
  | f :: o1, o2, p :: s => by
    simp only [List.cons_append, rrun, rstk, rrun_app kd o1 o2]
    cases rstk kd (rp kd f p ++ s) o1 with
    | none => rfl
    | some s1 =>
      simp only [Option.bind_some]
      cases rrun kd (rp kd f p ++ s) o1 with
      | none => rfl
      | some l1 =>
        simp only [Option.bind_some, Option.map_some]
        cases rrun kd s1 o2 <;> rfl
theorem rrun_fst (kd : Nat → Nat) : ∀ (o : List Nat) (s : List (List Nat)) (l : List (Nat × List Nat)), rrun kd s o = some l → l.map (·.1) = o
  | [], s, l, h => by
    simp only [rrun, Option.some.injEq] at h
    subst h
    rfl
  | f :: o, [], l, h => by simp [rrun] at h
  | f :: o, p :: s, l, h => by
    simp only [rrun, Option.map_eq_some_iff] at h
    obtain ⟨l', h1, rfl⟩ := h
    simp only [List.map_cons, rrun_fst kd o _ l' h1]
/-- in a run each path is a chain of what was placed before, and so are the paths of the stack -/
theorem rrun_good (kd : Nat → Nat) : ∀ (o : List Nat) (s : List (List Nat)) (d l : List (Nat × List Nat)), (∀ q ∈ s, rgood d q) → rrun kd s o = some l → (∀ l1 g pg l2, l = l1 ++ (g, pg) :: l2 → rgood (d ++ l1) pg) ∧ ∀ s1, rstk kd s o = some s1 → ∀ q ∈ s1, rgood (d ++ l) q
  | [], s, d, l, hs, h => by
    simp only [rrun, Option.some.injEq] at h
    subst h
    refine ⟨fun l1 g pg l2 h0 => by simp at h0, fun s1 h1 q hq => ?_⟩
    simp only [rstk, Option.some.injEq] at h1
    subst h1
    rw [List.append_nil]
    exact hs q hq
  | f :: o, [], d, l, hs, h => by simp [rrun] at h
  | f :: o, p :: s, d, l, hs, h => by
    simp only [rrun, Option.map_eq_some_iff] at h
    obtain ⟨l', h1, rfl⟩ := h
    have hp := hs p List.mem_cons_self
    have hst : ∀ q ∈ rp kd f p ++ s, rgood (d ++ [(f, p)]) q := by
      intro q hq
      rcases List.mem_append.mp hq with hq | hq
      · obtain ⟨i, hi, rfl⟩ := rp_mem hq
        have h2 := rh_le kd f
        refine ⟨?_, rgood_mono (fun y hy => List.mem_append_left _ hy) hp⟩
        rw [rhalf (by omega)]
        exact List.mem_append_right _ List.mem_cons_self
      · exact rgood_mono (fun y hy => List.mem_append_left _ hy) (hs q (List.mem_cons_of_mem _ hq))
    obtain ⟨g1, g2⟩ := rrun_good kd o (rp kd f p ++ s) (d ++ [(f, p)]) l' hst h1
    refine ⟨fun l1 g pg l2 h0 => ?_, fun s1 h3 q hq => ?_⟩
    · cases l1 with
      | nil =>
        simp only [List.nil_append, List.cons.injEq, Prod.mk.injEq] at h0
        obtain ⟨⟨rfl, rfl⟩, rfl⟩ := h0
        rw [List.append_nil]
        exact hp
      | cons y l1 =>
        simp only [List.cons_append, List.cons.injEq] at h0
        obtain ⟨rfl, rfl⟩ := h0
        have h5 := g1 l1 g pg l2 rfl
        rw [List.append_assoc] at h5
        exact h5
    · have h5 := g2 s1 h3 q hq
      rw [List.append_assoc] at h5
      exact h5
/-- the paths of a stack meet only in what the next one has -/
def rmeet : List (List Nat) → Prop
  | [] => True
  | p :: s => (∀ r ∈ s, ∀ x ∈ p, x ∈ r → ∀ q, s.head? = some q → x ∈ q) ∧ rmeet s
theorem rmeet_rp {kd : Nat → Nat} {f : Nat} {p : List Nat} {s : List (List Nat)} (h : rmeet (p :: s)) (hf : ∀ r ∈ s, ∀ i, i < 2 → 2 * f + i ∉ r) : rmeet (rp kd f p ++ s) := by
  have h2 := rh_le kd f
  have key : ∀ i, i < 2 → rmeet (((2 * f + i) :: p) :: s) := by
    intro i hi
    refine ⟨fun r hr x hx hxr q hq => ?_, h.2⟩
    rcases List.mem_cons.mp hx with rfl | hx
    · exact absurd hxr (hf r hr i hi)
    · exact h.1 r hr x hx hxr q hq
  unfold rp
  match hk : rh kd f, h2 with
  | 0, _ => exact h.2
  | 1, _ => exact key 0 (by decide)
  | 2, _ =>
    show rmeet (((2 * f + 0) :: p) :: ((2 * f + 1) :: p) :: s)
    refine ⟨fun r hr x hx hxr q hq => ?_, key 1 (by decide)⟩
    have hq : (2 * f + 1) :: p = q := Option.some.inj hq
    subst hq
    rcases List.mem_cons.mp hr with rfl | hr
    · exact hxr
    · rcases List.mem_cons.mp hx with rfl | hx
      · exact absurd hxr (hf r hr 0 (by decide))
      · exact List.mem_cons_of_mem _ hx
