/-! steps between readings -/
def EVk (fs : List Fg) (f : Nat) : Prop := kF (nF fs f) = 1 ∨ kF (nF fs f) = 2
theorem EVk.rh {fs : List Fg} {f : Nat} (h : EVk fs f) : rh (kdF fs) f = 2 := by
  rw [rk_rh]
  unfold rk
  rcases h with h | h <;> rw [h] <;> rfl
/-- an order that the run goes through -/
def Ordr (fs : List Fg) (o : List Nat) (l : List (Nat × List Nat)) : Prop := rrun (kdF fs) [[]] o = some l ∧ o.Nodup ∧ o.length = fs.length ∧ ∀ f ∈ o, f < fs.length
theorem Ordr.get {fs : List Fg} {o : List Nat} {l : List (Nat × List Nat)} (h : Ordr fs o l) {f : Nat} (hf : f < fs.length) : ∃ p, (f, p) ∈ l := by
  have h9 := rfull _ o h.2.1 h.2.2.1 h.2.2.2 f hf
  rw [← rrun_fst _ _ _ _ h.1] at h9
  obtain ⟨q, hq, rfl⟩ := List.mem_map.mp h9
  exact ⟨q.2, hq⟩
theorem Ordr.mem {fs : List Fg} {o : List Nat} {l : List (Nat × List Nat)} (h : Ordr fs o l) {f : Nat} {p : List Nat} (hf : (f, p) ∈ l) : f < fs.length := by
  refine h.2.2.2 f ?_
  rw [← rrun_fst _ _ _ _ h.1]
  exact List.mem_map.mpr ⟨_, hf, rfl⟩
theorem Ordr.uniq {fs : List Fg} {o : List Nat} {l : List (Nat × List Nat)} (h : Ordr fs o l) {f : Nat} {p q : List Nat} (h1 : (f, p) ∈ l) (h2 : (f, q) ∈ l) : p = q := by
  have hnd : (l.map (·.1)).Nodup := by rw [rrun_fst _ _ _ _ h.1]; exact h.2.1
  exact nodup_uniq hnd h1 h2
theorem Ordr.fill {fs : List Fg} {o : List Nat} {l : List (Nat × List Nat)} (h : Ordr fs o l) (hc : rcnt (kdF fs) fs.length) {f : Nat} {p : List Nat} (hf : (f, p) ∈ l) {i : Nat} (hi : i < rh (kdF fs) f) : ∃ g, (g, (2 * f + i) :: p) ∈ l := rval_fill hc h.1 h.2.1 h.2.2.1 h.2.2.2 hf hi
theorem Ordr.hole {fs : List Fg} {o : List Nat} {l : List (Nat × List Nat)} (h : Ordr fs o l) (hc : rcnt (kdF fs) fs.length) {x : Nat} (hx : x / 2 < fs.length) (hr : x % 2 < rk (kF (nF fs (x / 2)))) : ∃ f p, (f, x :: p) ∈ l ∧ (x / 2, p) ∈ l := by
  obtain ⟨p, hp⟩ := h.get hx
  obtain ⟨f, hf⟩ := h.fill hc hp hr
  rw [show 2 * (x / 2) + x % 2 = x by omega] at hf
  exact ⟨f, p, hf, hp⟩
def SwR (fs : List Fg) (o : List Nat) (q r : Nat) (o' pq : List Nat) : Prop := ∃ l A B C D c, rrun (kdF fs) [[]] o = some l ∧ (q, pq) ∈ l ∧ (r, (2 * q + 1) :: pq) ∈ l ∧ (c, (2 * r + 1) :: (2 * q + 1) :: pq) ∈ l ∧ o = A ++ q :: (B ++ r :: (C ++ c :: D)) ∧ o' = A ++ r :: (C ++ q :: (B ++ c :: D))
theorem split_uniq {q : Nat} : ∀ {A A' X X' : List Nat}, (A ++ q :: X).Nodup → A ++ q :: X = A' ++ q :: X' → A = A' ∧ X = X'
  | [], [], X, X', _, h => ⟨rfl, (List.cons.inj h).2⟩
  | [], b :: A', X, X', hn, h => by
    have h1 := List.cons.inj h
    exfalso
    rw [List.nil_append, List.nodup_cons] at hn
    apply hn.1
    rw [h1.2]
    exact List.mem_append_right _ List.mem_cons_self
  | a :: A, [], X, X', hn, h => by
    have h1 := List.cons.inj h
    exfalso
    rw [List.cons_append, List.nodup_cons] at hn
    apply hn.1
    rw [h1.1]
    exact List.mem_append_right _ List.mem_cons_self
  | a :: A, b :: A', X, X', hn, h => by
    have h1 := List.cons.inj h
    rw [List.cons_append, List.nodup_cons] at hn
    have h2 := split_uniq hn.2 h1.2
    exact ⟨by rw [h1.1, h2.1], h2.2⟩
section SP1
variable {L : Nat → Nat} {t : Nat} {fs : List Fg} {cs : List (Nat × Nat)} {o o' : List Nat} {l : List (Nat × List Nat)} {q r : Nat} {pq : List Nat}
theorem SwR_uniq {o1 o2 p1 p2 : List Nat} (hn : o.Nodup) (h1 : SwR fs o q r o1 p1) (h2 : SwR fs o q r o2 p2) : o1 = o2 := by
  obtain ⟨l, A, B, C, D, c, a1, a2, a3, a4, a5, a6⟩ := h1
  obtain ⟨l', A', B', C', D', c', b1, b2, b3, b4, b5, b6⟩ := h2
  rw [a1] at b1
  have b1 := Option.some.inj b1
  subst b1
  have hnd : (l.map (·.1)).Nodup := by rw [rrun_fst _ _ _ _ a1]; exact hn
  have hp := nodup_uniq hnd a2 b2
  subst hp
  have hc := rval_inj a1 hn a4 b4
  subst hc
  have e := a5.symm.trans b5
  have n1 := hn
  rw [a5] at n1
  obtain ⟨e1, e2⟩ := split_uniq n1 e
  rw [List.nodup_append] at n1
  have n2 := (List.nodup_cons.mp n1.2.1).2
  obtain ⟨e3, e4⟩ := split_uniq n2 e2
  rw [List.nodup_append] at n2
  have n3 := (List.nodup_cons.mp n2.2.1).2
  obtain ⟨e5, e6⟩ := split_uniq n3 e4
  rw [a6, b6, e1, e3, e5, e6]
theorem swap_perm (A B C D : List Nat) (q r c : Nat) : (A ++ q :: (B ++ r :: (C ++ c :: D))).Perm (A ++ r :: (C ++ q :: (B ++ c :: D))) := by
  rw [List.perm_iff_count]
  intro a
  simp only [List.count_append, List.count_cons]
  omega
theorem SwR_ord (hO : Ordr fs o l) (hq : EVk fs q) (hr : EVk fs r) (h : SwR fs o q r o' pq) : ∃ l', Ordr fs o' l' ∧ (r, pq) ∈ l' ∧ (q, (2 * r + 1) :: pq) ∈ l' ∧ (∃ c, (c, (2 * r + 1) :: (2 * q + 1) :: pq) ∈ l ∧ (c, (2 * q + 1) :: (2 * r + 1) :: pq) ∈ l' ∧ ∀ f p, (f, p) ∈ l → f ≠ q → f ≠ r → f ≠ c → ∃ p', (f, p') ∈ l' ∧ p'.head? = p.head?) ∧ SwR fs o' r q o pq := by
  obtain ⟨l0, A, B, C, D, c, a1, a2, a3, a4, a5, a6⟩ := h
  rw [hO.1] at a1
  have a1 := Option.some.inj a1
  subst a1
  obtain ⟨A', B', C', D', l', b1, b2, b3, b4, b5, b6⟩ := rswap hO.1 hO.2.1 a2 a3 a4 hq.rh hr.rh
  have e := a5.symm.trans b1
  have n1 := hO.2.1
  rw [a5] at n1
  obtain ⟨e1, e2⟩ := split_uniq n1 e
  have n0 := n1
  rw [List.nodup_append] at n1
  have n2 := (List.nodup_cons.mp n1.2.1).2
  obtain ⟨e3, e4⟩ := split_uniq n2 e2
  rw [List.nodup_append] at n2
  have n3 := (List.nodup_cons.mp n2.2.1).2
  obtain ⟨e5, e6⟩ := split_uniq n3 e4
  subst e1 e3 e5 e6
  rw [← a6] at b2
  have hperm : o.Perm o' := by rw [a5, a6]; exact swap_perm A B C D q r c
  have hO' : Ordr fs o' l' := ⟨b2, hperm.nodup hO.2.1, by rw [← hperm.length_eq]; exact hO.2.2.1, fun f hf => hO.2.2.2 f (hperm.mem_iff.mpr hf)⟩
  exact ⟨l', hO', b3, b4, ⟨c, a4, b5, b6⟩, l', A, C, B, D, c, b2, b3, b4, b5, a6, a5⟩
theorem SwR_ex (hO : Ordr fs o l) (hc : rcnt (kdF fs) fs.length) (hq : EVk fs q) (hr : EVk fs r) (h1 : (q, pq) ∈ l) (h2 : (r, (2 * q + 1) :: pq) ∈ l) : ∃ o', SwR fs o q r o' pq := by
  obtain ⟨c, h3⟩ := hO.fill hc h2 (i := 1) (by rw [hr.rh]; decide)
  obtain ⟨A, B, C, D, l', b1, -⟩ := rswap hO.1 hO.2.1 h1 h2 h3 hq.rh hr.rh
  exact ⟨_, l, A, B, C, D, c, hO.1, h1, h2, h3, b1, rfl⟩
theorem RLs_ord {k : Nat} (hk : k < (RLs fs cs).length) : ∃ l, Ordr fs ((RLs fs cs).getD k []) l := by
  obtain ⟨h1, h2, h3, l, h4, -⟩ := RLs_mem (RLs_get hk)
  exact ⟨l, h4, h2, h1, h3⟩
/-- whether the upper one of two may change places with the lower one -/
def cnd (k k' : Nat) (s : Int32) : Prop := k = k' ∨ (s = nI 1 ∧ k = 2) ∨ (s = -1 ∧ k = 1)
/-- a step from one order to another -/
def Stpo (fs : List Fg) (o o' : List Nat) : Prop := ∃ q r pq, EVk fs q ∧ EVk fs r ∧ SwR fs o q r o' pq ∧ cnd (kF (nF fs q)) (kF (nF fs r)) (po (kdF fs) pq)
theorem Stpo_rev {l' : List (Nat × List Nat)} (hO : Ordr fs o l) (hO' : Ordr fs o' l') : Stpo fs o' o ↔ ∃ q r pq, EVk fs q ∧ EVk fs r ∧ SwR fs o q r o' pq ∧ cnd (kF (nF fs r)) (kF (nF fs q)) (po (kdF fs) pq) := by
  constructor
  · rintro ⟨q, r, pq, h1, h2, h3, h4⟩
    obtain ⟨l2, -, -, -, -, h5⟩ := SwR_ord hO' h1 h2 h3
    exact ⟨r, q, pq, h2, h1, h5, h4⟩
  · rintro ⟨q, r, pq, h1, h2, h3, h4⟩
    obtain ⟨l2, -, -, -, -, h5⟩ := SwR_ord hO h1 h2 h3
    exact ⟨r, q, pq, h2, h1, h5, h4⟩
/-- the places of a swap -/
theorem swO_eq (hO : Ordr fs o l) (h : SwR fs o q r o' pq) : ∃ a b c c0, o.getD a 0 = q ∧ o.getD b 0 = r ∧ o.getD c 0 = c0 ∧ a < b ∧ b < c ∧ c < o.length ∧ (c0, (2 * r + 1) :: (2 * q + 1) :: pq) ∈ l ∧ swO o a b c = o' := by
  obtain ⟨l0, A, B, C, D, c0, a1, a2, a3, a4, a5, a6⟩ := h
  rw [hO.1] at a1
  have a1 := Option.some.inj a1
  subst a1
  refine ⟨A.length, A.length + (B.length + 1), A.length + (B.length + 1 + (C.length + 1)), c0, ?_, ?_, ?_, by omega, by omega, ?_, a4, ?_⟩
  · rw [a5]; simp [List.getD_eq_getElem?_getD]
  · rw [a5]; simp [List.getD_eq_getElem?_getD, List.getElem?_append_right]
  · rw [a5, List.getD_eq_getElem?_getD, List.getElem?_append_right (by omega), show A.length + (B.length + 1 + (C.length + 1)) - A.length = (B.length + (C.length + 1)) + 1 by omega, List.getElem?_cons_succ, List.getElem?_append_right (by omega), show B.length + (C.length + 1) - B.length = C.length + 1 by omega, List.getElem?_cons_succ, List.getElem?_append_right (Nat.le_refl _), Nat.sub_self]
    rfl
  · rw [a5]; simp only [List.length_append, List.length_cons]; omega
  · have d1 : o.drop A.length = q :: (B ++ r :: (C ++ c0 :: D)) := by rw [a5, List.drop_left]
    have d2 : o.drop (A.length + (B.length + 1)) = r :: (C ++ c0 :: D) := by
      rw [← List.drop_drop, d1]
      show (B ++ r :: (C ++ c0 :: D)).drop B.length = _
      rw [List.drop_left]
    have d3 : o.drop (A.length + (B.length + 1 + (C.length + 1))) = c0 :: D := by
      rw [show A.length + (B.length + 1 + (C.length + 1)) = (A.length + (B.length + 1)) + (C.length + 1) by omega, ← List.drop_drop, d2]
      show (C ++ c0 :: D).drop C.length = _
      rw [List.drop_left]
    have t1 : o.take A.length = A := by rw [a5, List.take_left]
    unfold swO
    rw [t1, d1, d2, d3, a6, show A.length + (B.length + 1 + (C.length + 1)) - (A.length + (B.length + 1)) = C.length + 1 by omega, show A.length + (B.length + 1) - A.length = B.length + 1 by omega, List.take_succ_cons, List.take_succ_cons, List.take_left, List.take_left]
    simp
end SP1
