/-! the reference tells a reading -/
theorem fm_st {L : Nat → Nat} {fs : List Fg} {o : List Nat} {l : List (Nat × List Nat)} (hO : Ordr fs o l) (hc : rcnt (kdF fs) fs.length) : ∀ (m m' j : Nat), j < o.length → o.length - j ≤ m → o.length - j ≤ m' → fmT L fs (plg l) m (o.getD j 0) = fmT L fs (plg l) m' (o.getD j 0)
  | 0, _, j, hj, h1, _ => by omega
  | _ + 1, 0, j, hj, _, h2 => by omega
  | m + 1, m' + 1, j, hj, h1, h2 => by
    have hf := gD_lt hO.2.2.2 hj
    have child : ∀ i, i < rk (kF (nF fs (o.getD j 0))) → i < 2 → fmT L fs (plg l) m (plg l (2 * o.getD j 0 + i)) = fmT L fs (plg l) m' (plg l (2 * o.getD j 0 + i)) := by
      intro i hi hi2
      obtain ⟨p, hp⟩ := hO.get hf
      obtain ⟨c, hcm⟩ := hO.fill hc hp (i := i) hi
      rw [plg_eq hO hcm]
      have hco : c ∈ o := by rw [← rrun_fst _ _ _ _ hO.1]; exact List.mem_map.mpr ⟨_, hcm, rfl⟩
      obtain ⟨j', hj', hjc⟩ := gD_of hco
      have hlt := hO.later hcm (q := o.getD j 0) (by omega) hj hj' rfl hjc
      rw [← hjc]
      exact fm_st hO hc m m' j' hj' (by omega) (by omega)
    unfold fmT
    by_cases h0 : kF (nF fs (o.getD j 0)) = 0
    · rw [if_pos h0, if_pos h0]
    · rw [if_neg h0, if_neg h0]
      by_cases h5 : kF (nF fs (o.getD j 0)) = 5
      · rw [if_pos h5, if_pos h5]
        have : fmT L fs (plg l) m (plg l (2 * o.getD j 0)) = fmT L fs (plg l) m' (plg l (2 * o.getD j 0)) := child 0 (by rw [h5]; decide) (by decide)
        rw [this]
      · rw [if_neg h5, if_neg h5]
        have hr : rk (kF (nF fs (o.getD j 0))) = 2 := by unfold rk; rw [if_neg h0, if_neg h5]
        have c0 : fmT L fs (plg l) m (plg l (2 * o.getD j 0)) = fmT L fs (plg l) m' (plg l (2 * o.getD j 0)) := child 0 (by omega) (by decide)
        rw [c0, child 1 (by omega) (by decide)]
def fmA (L : Nat → Nat) (fs : List Fg) (l : List (Nat × List Nat)) (f : Nat) : List Nat := fmT L fs (plg l) 11 f
def kds (L : Nat → Nat) (fs : List Fg) (l : List (Nat × List Nat)) (g k : Nat) : List Nat := if rk (kF (nF fs g)) ≤ k then [] else if rk (kF (nF fs g)) = 2 ∧ k = 0 then fmA L fs l (plg l (2 * g)) ++ 44 :: fmA L fs l (plg l (2 * g + 1)) else fmA L fs l (plg l (2 * g + k))
def clo (fs : List Fg) (g : Nat) : List Nat := if rk (kF (nF fs g)) = 0 then [] else [41]
def cma (fs : List Fg) (g k : Nat) : List Nat := if rk (kF (nF fs g)) = 2 ∧ k = 0 then [44] else []
def AFTb (L : Nat → Nat) (fs : List Fg) (l : List (Nat × List Nat)) : List (Nat × Nat) → List Nat
  | [] => []
  | q :: S => cma fs q.1 q.2 ++ (kds L fs l q.1 (q.2 + 1) ++ (clo fs q.1 ++ AFTb L fs l S))
def RSTf (L : Nat → Nat) (fs : List Fg) (l : List (Nat × List Nat)) : List (Nat × Nat) → List Nat
  | [] => []
  | q :: S => kds L fs l q.1 q.2 ++ (clo fs q.1 ++ AFTb L fs l S)
theorem kds_s {L : Nat → Nat} {fs : List Fg} {l : List (Nat × List Nat)} {g k : Nat} (hk : k < rk (kF (nF fs g))) : kds L fs l g k = fmA L fs l (plg l (2 * g + k)) ++ (cma fs g k ++ kds L fs l g (k + 1)) := by
  have h2 := rk_le (kF (nF fs g))
  unfold kds cma
  rw [if_neg (by omega)]
  by_cases h9 : rk (kF (nF fs g)) = 2 ∧ k = 0
  · rw [if_pos h9, if_pos h9, if_neg (by omega), if_neg (by omega), h9.2]
    rfl
  · rw [if_neg h9, if_neg h9, if_pos (by omega)]
    simp
theorem fm_hd {L : Nat → Nat} {t : Nat} {fs : List Fg} {o : List Nat} {l : List (Nat × List Nat)} (hO : Ordr fs o l) (hG : Good L t fs) {f : Nat} (hf : f < fs.length) : fmA L fs l f = hdT L fs f ++ (kds L fs l f 0 ++ clo fs f) := by
  have hn := hG.le
  have hol := hO.2.2.1
  have hfo := rfull _ o hO.2.1 hO.2.2.1 hO.2.2.2 f hf
  obtain ⟨j, hj, hjf⟩ := gD_of hfo
  have child : ∀ i, i < rk (kF (nF fs f)) → i < 2 → fmT L fs (plg l) 10 (plg l (2 * f + i)) = fmA L fs l (plg l (2 * f + i)) := by
    intro i hi hi2
    obtain ⟨p, hp⟩ := hO.get hf
    obtain ⟨c, hcm⟩ := hO.fill hG.cnt hp (i := i) hi
    rw [plg_eq hO hcm]
    have hco : c ∈ o := by rw [← rrun_fst _ _ _ _ hO.1]; exact List.mem_map.mpr ⟨_, hcm, rfl⟩
    obtain ⟨j', hj', hjc⟩ := gD_of hco
    have hlt := hO.later hcm (q := f) (by omega) hj hj' hjf hjc
    rw [← hjc]
    exact fm_st hO hG.cnt 10 11 j' hj' (by omega) (by omega)
  unfold fmA
  conv => lhs; unfold fmT
  unfold hdT kds clo
  by_cases h0 : kF (nF fs f) = 0
  · have hr : rk (kF (nF fs f)) = 0 := by rw [h0]; rfl
    rw [if_pos h0, if_pos h0, hr, if_pos (Nat.le_refl _), if_pos rfl]
    simp
  · rw [if_neg h0, if_neg h0]
    by_cases h5 : kF (nF fs f) = 5
    · have hr : rk (kF (nF fs f)) = 1 := by rw [h5]; rfl
      have c0 : fmT L fs (plg l) 10 (plg l (2 * f)) = fmA L fs l (plg l (2 * f)) := child 0 (by omega) (by decide)
      rw [if_pos h5, if_pos h5, hr, if_neg (by omega), if_neg (by omega), if_neg (by omega), c0]
      simp
    · have hr : rk (kF (nF fs f)) = 2 := by unfold rk; rw [if_neg h0, if_neg h5]
      have c0 : fmT L fs (plg l) 10 (plg l (2 * f)) = fmA L fs l (plg l (2 * f)) := child 0 (by omega) (by decide)
      rw [if_neg h5, if_neg h5, hr, if_neg (by omega), if_pos ⟨rfl, rfl⟩, if_neg (by omega), c0, child 1 (by omega) (by decide)]
      simp
/-- holes that wait -/
def pnd (fs : List Fg) (g k : Nat) : List Nat := (List.range' k (rk (kF (nF fs g)) - k)).map (fun i => 2 * g + i)
def FHb (fs : List Fg) : List (Nat × Nat) → List Nat
  | [] => []
  | q :: S => pnd fs q.1 (q.2 + 1) ++ FHb fs S
def FHf (fs : List Fg) : List (Nat × Nat) → List Nat
  | [] => []
  | q :: S => pnd fs q.1 q.2 ++ FHb fs S
theorem pnd_s {fs : List Fg} {g k : Nat} (hk : k < rk (kF (nF fs g))) : pnd fs g k = (2 * g + k) :: pnd fs g (k + 1) := by
  unfold pnd
  rw [show rk (kF (nF fs g)) - k = (rk (kF (nF fs g)) - (k + 1)) + 1 by omega, List.range'_succ]
  rfl
theorem pnd_e {fs : List Fg} {g k : Nat} (hk : rk (kF (nF fs g)) ≤ k) : pnd fs g k = [] := by
  unfold pnd
  rw [show rk (kF (nF fs g)) - k = 0 by omega]
  rfl
/-- frames in the reference, the top first -/
def FRM (S : List (Nat × Nat)) (I : Nat → Nat → Int32) : Prop := ∀ i, i < S.length → I 85 i = nI (S.getD (S.length - 1 - i) (0, 0)).1 ∧ I 86 i = nI (S.getD (S.length - 1 - i) (0, 0)).2
theorem FRM.fr {S : List (Nat × Nat)} {I I' : Nat → Nat → Int32} (h : FRM S I) (h1 : I' 85 = I 85) (h2 : I' 86 = I 86) : FRM S I' := fun i hi => by rw [h1, h2]; exact h i hi
theorem FRM.top {q : Nat × Nat} {S : List (Nat × Nat)} {I : Nat → Nat → Int32} (h : FRM (q :: S) I) : I 85 S.length = nI q.1 ∧ I 86 S.length = nI q.2 := by
  have := h S.length (by simp)
  rw [List.length_cons, show S.length + 1 - 1 - S.length = 0 by omega] at this
  exact this
theorem FRM.pop {q : Nat × Nat} {S : List (Nat × Nat)} {I : Nat → Nat → Int32} (h : FRM (q :: S) I) : FRM S I := fun i hi => by
  have := h i (by rw [List.length_cons]; omega)
  rw [List.length_cons, show S.length + 1 - 1 - i = (S.length - 1 - i) + 1 by omega] at this
  exact this
theorem FRM.put {S : List (Nat × Nat)} {I I' : Nat → Nat → Int32} (h : FRM S I) {q : Nat × Nat} (h1 : I' 85 S.length = nI q.1) (h2 : I' 86 S.length = nI q.2) (h3 : ∀ i, i < S.length → I' 85 i = I 85 i ∧ I' 86 i = I 86 i) : FRM (q :: S) I' := by
  intro i hi
  rw [List.length_cons] at hi ⊢
  by_cases his : i = S.length
  · rw [his, show S.length + 1 - 1 - S.length = 0 by omega]; exact ⟨h1, h2⟩
  · rw [show S.length + 1 - 1 - i = (S.length - 1 - i) + 1 by omega, (h3 i (by omega)).1, (h3 i (by omega)).2]
    exact h i (by omega)
