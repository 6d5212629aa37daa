/-! rows of steps; the class' rows -/
def RowT (a b w cnt : Nat) (T : Nat → Prop) (I : Nat → Nat → Int32) : Prop := (∀ k, k < w → I a (b + k) = -1 ∨ ∃ j, j < cnt ∧ I a (b + k) = nI j) ∧ ∀ j, j < cnt → ((∃ k, k < w ∧ I a (b + k) = nI j) ↔ T j)
theorem RowT.cg {a b w cnt : Nat} {T T' : Nat → Prop} {I : Nat → Nat → Int32} (h : RowT a b w cnt T I) (hT : ∀ j, j < cnt → (T j ↔ T' j)) : RowT a b w cnt T' I := ⟨h.1, fun j hj => (h.2 j hj).trans (hT j hj)⟩
theorem RowT.fr {a b w cnt : Nat} {T : Nat → Prop} {I I' : Nat → Nat → Int32} (h : RowT a b w cnt T I) (h2 : ∀ k, k < w → I' a (b + k) = I a (b + k)) : RowT a b w cnt T I' := by
  refine ⟨fun k hk => by rw [h2 k hk]; exact h.1 k hk, fun j hj => ⟨fun ⟨k, hk, h9⟩ => (h.2 j hj).mp ⟨k, hk, by rw [← h2 k hk]; exact h9⟩, fun h9 => ?_⟩⟩
  obtain ⟨k, hk, h8⟩ := (h.2 j hj).mpr h9
  exact ⟨k, hk, by rw [h2 k hk]; exact h8⟩
theorem RowT.e {a b w cnt : Nat} {I : Nat → Nat → Int32} (hc : cnt ≤ 1000) (h : ∀ k, k < w → I a (b + k) = -1) : RowT a b w cnt (fun _ => False) I := ⟨fun k hk => Or.inl (h k hk), fun j hj => ⟨fun ⟨k, hk, h9⟩ => by
  rw [h k hk] at h9
  exact of_eq_false (nI_m1' (by omega)) h9, False.elim⟩⟩
theorem RowT.put {a b w cnt k0 w0 : Nat} {T T' : Nat → Prop} {I I' : Nat → Nat → Int32} (hc : cnt ≤ 1000) (h : RowT a b w cnt T I) (hk : k0 < w) (h0 : I a (b + k0) = -1) (h1 : I' a (b + k0) = wI w0) (h2 : ∀ k, k < w → k ≠ k0 → I' a (b + k) = I a (b + k)) (hw : w0 ≤ cnt) (hT : ∀ j, j < cnt → (T' j ↔ T j ∨ j + 1 = w0)) : RowT a b w cnt T' I' := by
  refine ⟨fun k hk => ?_, fun j hj => (Iff.trans ?_ (hT j hj).symm)⟩
  · by_cases hkk : k = k0
    · rw [hkk, h1]
      by_cases hw0 : w0 = 0
      · left; rw [hw0]; rfl
      · right; exact ⟨w0 - 1, by omega, wI_p (by omega)⟩
    · rw [h2 k hk hkk]; exact h.1 k hk
  · constructor
    · rintro ⟨k, hk, h9⟩
      by_cases hkk : k = k0
      · rw [hkk, h1] at h9
        right
        by_cases hw0 : w0 = 0
        · rw [hw0] at h9
          exact absurd h9 (of_eq_false (nI_m1' (by omega)))
        · rw [wI_p (by omega)] at h9
          have := (nI_eq (by omega) (by omega)).mp h9
          omega
      · rw [h2 k hk hkk] at h9
        exact Or.inl ((h.2 j hj).mp ⟨k, hk, h9⟩)
    · rintro (h9 | h9)
      · obtain ⟨k, hk, h8⟩ := (h.2 j hj).mpr h9
        refine ⟨k, hk, ?_⟩
        by_cases hkk : k = k0
        · exfalso
          rw [hkk, h0] at h8
          exact of_eq_false (nI_m1' (by omega)) h8
        · rw [h2 k hk hkk]; exact h8
      · exact ⟨k0, hk, by rw [h1, ← h9]; exact if_neg (by omega)⟩
/-- a quantifier with one in its scope -/
def PRq (fs : List Fg) (l : List (Nat × List Nat)) (q : Nat) : Prop := EVk fs q ∧ ∃ r pq, (q, pq) ∈ l ∧ (r, (2 * q + 1) :: pq) ∈ l ∧ EVk fs r
noncomputable def nPR (fs : List Fg) (l : List (Nat × List Nat)) (n : Nat) : Nat := (List.range n).countP (fun q => @decide (PRq fs l q) (Classical.propDecidable _))
theorem nPR_t {fs : List Fg} {l : List (Nat × List Nat)} {q : Nat} (h : PRq fs l q) : nPR fs l (q + 1) = nPR fs l q + 1 := by
  unfold nPR
  rw [List.range_succ, List.countP_append, List.countP_singleton, if_pos (by exact @decide_eq_true _ (Classical.propDecidable _) h)]
theorem nPR_f {fs : List Fg} {l : List (Nat × List Nat)} {q : Nat} (h : ¬ PRq fs l q) : nPR fs l (q + 1) = nPR fs l q := by
  unfold nPR
  rw [List.range_succ, List.countP_append, List.countP_singleton, if_neg (by intro h9; exact h (@of_decide_eq_true _ (Classical.propDecidable _) h9)), Nat.add_zero]
theorem nPR_mono {fs : List Fg} {l : List (Nat × List Nat)} {a : Nat} : ∀ {b : Nat}, a ≤ b → nPR fs l a ≤ nPR fs l b
  | 0, h => by rw [show a = 0 by omega]; exact Nat.le_refl _
  | b + 1, h => by
    by_cases hab : a = b + 1
    · rw [hab]; exact Nat.le_refl _
    · have h1 := nPR_mono (fs := fs) (l := l) (a := a) (b := b) (by omega)
      by_cases hp : PRq fs l b
      · rw [nPR_t hp]; omega
      · rw [nPR_f hp]; exact h1
section RW1
variable {L : Nat → Nat} {t : Nat} {fs : List Fg} {cs : List (Nat × Nat)} {o o' : List Nat} {l : List (Nat × List Nat)}
/-- what is under a fragment comes behind it -/
theorem Ordr.later (hO : Ordr fs o l) {q r : Nat} {x : Nat} {p : List Nat} (h1 : (r, x :: p) ∈ l) (hx : x / 2 = q) {a b : Nat} (ha : a < o.length) (hb : b < o.length) (haq : o.getD a 0 = q) (hbr : o.getD b 0 = r) : a < b := by
  obtain ⟨p0, s, n1, n2, n3, n4, n5⟩ := rrun_next hO.1 hb
  have hnew : (r, p0) ∈ l := List.mem_of_mem_take (i := b + 1) (by rw [n5, hbr]; exact List.mem_append_right _ List.mem_cons_self)
  have hp := hO.uniq hnew h1
  subst hp
  have hg : rgood (l.take b) (x :: p) := rval_good (l1 := l.take b) (l2 := []) (g := o.getD b 0) n3 rfl
  have h8 : q ∈ (l.take b).map (·.1) := List.mem_map.mpr ⟨_, hg.1, hx⟩
  rw [rrun_fst _ _ _ _ n2] at h8
  obtain ⟨k, hk, hkq⟩ := gD_of h8
  rw [List.length_take] at hk
  have hko : (o.take b).getD k 0 = o.getD k 0 := by
    simp only [List.getD_eq_getElem?_getD, List.getElem?_take]
    rw [if_pos (by omega)]
  rw [hko, ← haq] at hkq
  have := gD_inj hO.2.1 (by omega) ha hkq
  omega
theorem PR_last (hO : Ordr fs o l) : ∀ (m k : Nat), k < o.length → o.length - k ≤ m → EVk fs (o.getD k 0) → ∃ z, z < fs.length ∧ EVk fs z ∧ ¬ PRq fs l z
  | 0, k, hk, hm, _ => by omega
  | m + 1, k, hk, hm, he => by
    by_cases hp : PRq fs l (o.getD k 0)
    · obtain ⟨-, r, pq, h1, h2, h3⟩ := hp
      have hr : r ∈ o := by rw [← rrun_fst _ _ _ _ hO.1]; exact List.mem_map.mpr ⟨_, h2, rfl⟩
      obtain ⟨b, hb, hbr⟩ := gD_of hr
      have hlt := hO.later h2 (q := o.getD k 0) (by omega) hk hb rfl hbr
      exact PR_last hO m b hb (by omega) (by rw [hbr]; exact h3)
    · exact ⟨_, gD_lt hO.2.2.2 hk, he, hp⟩
theorem nPR_3 (hG : Good L t fs) (hO : Ordr fs o l) : nPR fs l fs.length ≤ 3 := by
  let kd' : Nat → Nat := fun f => if rk (kF (nF fs f)) = 2 then 1 else 0
  have hcq : rops kd' fs.length [] ≤ 4 := by
    have e : rops kd' fs.length [] = fs.countP (fun x => decide (rk (kF x) = 2)) := by
      unfold rops
      conv => rhs; rw [← nF_map fs, List.countP_map]
      rw [List.countP_eq_length_filter]
      congr 1
      apply List.filter_congr
      intro f _
      by_cases hq : rk (kF (nF fs f)) = 2
      · simp [kd', hq]
      · simp [kd', hq]
    have h4 := hG.2.2.1
    unfold cQ at h4
    omega
  have hsub : ∀ u, (∀ q, q < fs.length → PRq fs l q → q ∉ u) → nPR fs l fs.length ≤ rops kd' fs.length u := by
    intro u hu
    unfold nPR rops
    rw [← List.countP_eq_length_filter]
    apply List.countP_mono_left
    intro q hq h9
    have h9 := @of_decide_eq_true _ (Classical.propDecidable _) h9
    have hk : kd' q ≠ 0 := by
      have := h9.1.rh
      rw [rk_rh] at this
      simp only [kd', this, if_true]
      decide
    exact decide_eq_true ⟨hu q (List.mem_range.mp hq) h9, hk⟩
  by_cases hex : ∃ q, q < fs.length ∧ PRq fs l q
  · obtain ⟨q, hq, hp⟩ := hex
    have hqo := rfull _ o hO.2.1 hO.2.2.1 hO.2.2.2 q hq
    obtain ⟨k, hk, hkq⟩ := gD_of hqo
    obtain ⟨z, hz, hze, hzn⟩ := PR_last hO _ k hk (Nat.le_refl _) (by rw [hkq]; exact hp.1)
    have h1 := hsub [z] (fun q' _ hq' h9 => hzn (List.mem_singleton.mp h9 ▸ hq'))
    have hkz : kd' z ≠ 0 := by
      have := hze.rh
      rw [rk_rh] at this
      simp only [kd', this, if_true]
      decide
    have h2 := rops_op (kd := kd') (u := []) hz (by simp) hkz
    omega
  · have : nPR fs l fs.length = 0 := by
      unfold nPR
      rw [List.countP_eq_zero]
      intro q hq h9
      exact hex ⟨q, List.mem_range.mp hq, @of_decide_eq_true _ (Classical.propDecidable _) h9⟩
    omega
end RW1
