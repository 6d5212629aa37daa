/-! what a parsed sentence is like -/
def LFt (L : Nat → Nat) (t : Nat) (x : Fg) : Prop := aF x < bF x ∧ bF x ≤ aF x + 5 ∧ (∀ k, aF x ≤ k → k < bF x → isl (L k) = true) ∧ L (bF x) = 40 ∧ L (bF x + 1) = vF x + 117 ∧ vF x < 6 ∧ ((wF x = 0 ∧ cF x = bF x + 3 ∧ L (bF x + 2) = 41) ∨ (0 < wF x ∧ wF x < 7 ∧ cF x = bF x + 5 ∧ L (bF x + 2) = 44 ∧ L (bF x + 3) = wF x + 116 ∧ L (bF x + 4) = 41)) ∧ cF x ≤ t
def enF (x : Fg) : Nat := if kF x = 0 then cF x else aF x + 1
def cQ (fs : List Fg) : Nat := fs.countP (fun x => decide (rk (kF x) = 2))
def cN (fs : List Fg) : Nat := fs.countP (fun x => decide (kF x = 5))
/-- the fragments so far, ahead of an item -/
def SG (L : Nat → Nat) (t a : Nat) (fs : List Fg) (q ng : Nat) : Prop := fs.length = 2 * q + ng ∧ q ≤ 4 ∧ ng ≤ 2 ∧ cQ fs = q ∧ cN fs = ng ∧
  (∀ f, f < fs.length → (kF (nF fs f) = 0 ∧ LFt L t (nF fs f) ∧ 0 < f ∧ rk (kF (nF fs (f - 1))) = 2) ∨ (1 ≤ kF (nF fs f) ∧ kF (nF fs f) ≤ 4 ∧ vF (nF fs f) < 6 ∧ f + 1 < fs.length ∧ kF (nF fs (f + 1)) = 0) ∨ kF (nF fs f) = 5) ∧
  (∀ f g, f < g → g < fs.length → kF (nF fs f) ≠ 5 → kF (nF fs g) ≠ 5 → enF (nF fs f) ≤ aF (nF fs g)) ∧ (∀ f, f < fs.length → kF (nF fs f) ≠ 5 → enF (nF fs f) ≤ a) ∧ a ≤ t
/-- a sentence -/
def Good (L : Nat → Nat) (t : Nat) (fs : List Fg) : Prop := 0 < fs.length ∧ fs.length = 2 * cQ fs + cN fs + 1 ∧ cQ fs ≤ 4 ∧ cN fs ≤ 2 ∧ kF (nF fs (fs.length - 1)) = 0 ∧
  (∀ f, f < fs.length → (kF (nF fs f) = 0 ∧ LFt L t (nF fs f) ∧ (f + 1 = fs.length ∨ 0 < f ∧ rk (kF (nF fs (f - 1))) = 2)) ∨ (1 ≤ kF (nF fs f) ∧ kF (nF fs f) ≤ 4 ∧ vF (nF fs f) < 6 ∧ f + 2 < fs.length ∧ kF (nF fs (f + 1)) = 0) ∨ (kF (nF fs f) = 5 ∧ f + 1 < fs.length)) ∧
  (∀ f g, f < g → g < fs.length → kF (nF fs f) ≠ 5 → kF (nF fs g) ≠ 5 → enF (nF fs f) ≤ aF (nF fs g)) ∧ t ≤ 100
theorem nF_app1 (fs : List Fg) (x y : Fg) : nF (fs ++ [x] ++ [y]) fs.length = x := by
  rw [nF_app (by simp), nF_new]
theorem nF_app2 (fs : List Fg) (x y : Fg) : nF (fs ++ [x] ++ [y]) (fs.length + 1) = y := by
  have := nF_new (fs ++ [x]) y
  rw [List.length_append, List.length_singleton] at this
  exact this
theorem nF_app0 {fs : List Fg} {x y : Fg} {f : Nat} (h : f < fs.length) : nF (fs ++ [x] ++ [y]) f = nF fs f := by
  rw [nF_app (by simp; omega), nF_app h]
theorem SG_neg {L : Nat → Nat} {t a e : Nat} {fs : List Fg} {q ng : Nat} (h : SG L t a fs q ng) (hn : ng < 2) (he : a ≤ e) (het : e ≤ t) : SG L t e (fs ++ [(5, 0, 0, 0, 0, 0)]) q (ng + 1) := by
  obtain ⟨h1, h2, h3, h4, h5, h6, h7, h8, h9⟩ := h
  have hl : (fs ++ [((5, 0, 0, 0, 0, 0) : Fg)]).length = fs.length + 1 := by simp
  refine ⟨by rw [hl]; omega, h2, by omega, ?_, ?_, fun f hf => ?_, fun f g hfg hg h10 h11 => ?_, fun f hf h10 => ?_, het⟩
  · unfold cQ at h4 ⊢
    rw [List.countP_append, h4]; rfl
  · unfold cN at h5 ⊢
    rw [List.countP_append, h5]; rfl
  · rw [hl] at hf ⊢
    by_cases hn : f = fs.length
    · subst hn
      rw [nF_new]; exact Or.inr (Or.inr rfl)
    · rw [nF_app (by omega)]
      rcases h6 f (by omega) with c | c | c
      · rw [nF_app (by omega)]; exact Or.inl c
      · rw [nF_app c.2.2.2.1]; exact Or.inr (Or.inl ⟨c.1, c.2.1, c.2.2.1, by omega, c.2.2.2.2⟩)
      · exact Or.inr (Or.inr c)
  · rw [hl] at hg
    by_cases hn : g = fs.length
    · subst hn
      rw [nF_new] at h11; exact absurd rfl h11
    · rw [nF_app (by omega)] at h10 h11 ⊢
      rw [nF_app (by omega)]
      exact h7 f g hfg (by omega) h10 h11
  · rw [hl] at hf
    by_cases hn : f = fs.length
    · subst hn
      rw [nF_new] at h10; exact absurd rfl h10
    · rw [nF_app (by omega)] at h10 ⊢
      exact Nat.le_trans (h8 f (by omega) h10) he
theorem SG_quant {L : Nat → Nat} {t a e : Nat} {fs : List Fg} {q ng : Nat} {x y : Fg} (h : SG L t a fs q ng) (hq : q < 4) (hx : 1 ≤ kF x ∧ kF x ≤ 4 ∧ vF x < 6) (hy : kF y = 0 ∧ LFt L t y) (p1 : a ≤ aF x) (p2 : aF x + 1 ≤ aF y) (p3 : cF y ≤ e) (het : e ≤ t) : SG L t e (fs ++ [x] ++ [y]) (q + 1) ng := by
  obtain ⟨h1, h2, h3, h4, h5, h6, h7, h8, h9⟩ := h
  have hl : (fs ++ [x] ++ [y]).length = fs.length + 2 := by simp
  have rkx : rk (kF x) = 2 := by unfold rk; rw [if_neg (by omega), if_neg (by omega)]
  have ex : enF x = aF x + 1 := if_neg (by omega)
  have ey : enF y = cF y := if_pos hy.1
  have hay : aF y < cF y := by have := hy.2; unfold LFt at this; omega
  refine ⟨by rw [hl]; omega, by omega, h3, ?_, ?_, fun f hf => ?_, fun f g hfg hg h10 h11 => ?_, fun f hf h10 => ?_, het⟩
  · unfold cQ at h4 ⊢
    rw [List.countP_append, List.countP_append, h4, List.countP_singleton, List.countP_singleton, rkx, hy.1]; rfl
  · unfold cN at h5 ⊢
    rw [List.countP_append, List.countP_append, h5, List.countP_singleton, List.countP_singleton, decide_eq_false (show ¬ kF x = 5 by omega), decide_eq_false (show ¬ kF y = 5 by omega)]; rfl
  · rw [hl] at hf ⊢
    by_cases hn : f = fs.length
    · subst hn
      rw [nF_app1, nF_app2]; exact Or.inr (Or.inl ⟨hx.1, hx.2.1, hx.2.2, by omega, hy.1⟩)
    · by_cases hn1 : f = fs.length + 1
      · subst hn1
        rw [nF_app2, Nat.add_sub_cancel, nF_app1]
        exact Or.inl ⟨hy.1, hy.2, by omega, rkx⟩
      · rw [nF_app0 (by omega)]
        rcases h6 f (by omega) with c | c | c
        · rw [nF_app0 (by omega)]; exact Or.inl c
        · rw [nF_app0 c.2.2.2.1]; exact Or.inr (Or.inl ⟨c.1, c.2.1, c.2.2.1, by omega, c.2.2.2.2⟩)
        · exact Or.inr (Or.inr c)
  · rw [hl] at hg
    by_cases hg1 : g = fs.length + 1
    · subst hg1
      rw [nF_app2]
      by_cases hf1 : f = fs.length
      · subst hf1
        rw [nF_app1, ex]; exact p2
      · rw [nF_app0 (by omega)] at h10 ⊢
        have := h8 f (by omega) h10
        omega
    · by_cases hg2 : g = fs.length
      · subst hg2
        rw [nF_app1, nF_app0 (by omega)]
        rw [nF_app0 (by omega)] at h10
        have := h8 f (by omega) h10
        omega
      · rw [nF_app0 (by omega)] at h10 h11 ⊢
        rw [nF_app0 (by omega)]
        exact h7 f g hfg (by omega) h10 h11
  · rw [hl] at hf
    by_cases hn : f = fs.length
    · subst hn
      rw [nF_app1, ex]; omega
    · by_cases hn1 : f = fs.length + 1
      · subst hn1
        rw [nF_app2, ey]; exact p3
      · rw [nF_app0 (by omega)] at h10 ⊢
        have := h8 f (by omega) h10
        omega
theorem SG_last {L : Nat → Nat} {t a : Nat} {fs : List Fg} {q ng : Nat} {y : Fg} (h : SG L t a fs q ng) (hy : kF y = 0 ∧ LFt L t y) (p1 : a ≤ aF y) (ht : t ≤ 100) : Good L t (fs ++ [y]) := by
  obtain ⟨h1, h2, h3, h4, h5, h6, h7, h8, h9⟩ := h
  have hl : (fs ++ [y]).length = fs.length + 1 := by simp
  have e1 : cQ (fs ++ [y]) = q := by
    unfold cQ at h4 ⊢
    rw [List.countP_append, h4, List.countP_singleton, hy.1]; rfl
  have e2 : cN (fs ++ [y]) = ng := by
    unfold cN at h5 ⊢
    rw [List.countP_append, h5, List.countP_singleton, hy.1]; rfl
  refine ⟨by rw [hl]; omega, by rw [hl, e1, e2]; omega, by omega, by omega, by rw [hl, Nat.add_sub_cancel, nF_new]; exact hy.1, fun f hf => ?_, fun f g hfg hg h10 h11 => ?_, ht⟩
  · rw [hl] at hf ⊢
    by_cases hn : f = fs.length
    · subst hn
      rw [nF_new]; exact Or.inl ⟨hy.1, hy.2, Or.inl rfl⟩
    · rw [nF_app (by omega)]
      rcases h6 f (by omega) with c | c | c
      · rw [nF_app (by omega)]; exact Or.inl ⟨c.1, c.2.1, Or.inr c.2.2⟩
      · rw [nF_app c.2.2.2.1]; exact Or.inr (Or.inl ⟨c.1, c.2.1, c.2.2.1, by omega, c.2.2.2.2⟩)
      · exact Or.inr (Or.inr ⟨c, by omega⟩)
  · rw [hl] at hg
    by_cases hn : g = fs.length
    · subst hn
      rw [nF_new]
      rw [nF_app (by omega)] at h10 ⊢
      exact Nat.le_trans (h8 f (by omega) h10) p1
    · rw [nF_app (by omega)] at h10 h11 ⊢
      rw [nF_app (by omega)]
      exact h7 f g hfg (by omega) h10 h11
theorem arg_LFt {L : Nat → Nat} {t s e : Nat} (hz : ∀ k, t ≤ k → L k = 0) (hs : nm L s 5 = e) (hse : s < e) (h : (arg L e).1 = true) : LFt L t (lfF L s e) := by
  have hn := nm_le L 5 s
  refine ⟨hse, by show e ≤ s + 5; omega, fun k h1 h2 => nm_isl L 5 s k h1 (by rw [hs]; exact h2), ?_⟩
  show L e = 40 ∧ L (e + 1) = (arg L e).2.2.1 + 117 ∧ (arg L e).2.2.1 < 6 ∧ (((arg L e).2.2.2 = 0 ∧ (arg L e).2.1 = e + 3 ∧ L (e + 2) = 41) ∨ (0 < (arg L e).2.2.2 ∧ (arg L e).2.2.2 < 7 ∧ (arg L e).2.1 = e + 5 ∧ L (e + 2) = 44 ∧ L (e + 3) = (arg L e).2.2.2 + 116 ∧ L (e + 4) = 41)) ∧ (arg L e).2.1 ≤ t
  have P : ∀ k, 0 < L k → k < t := fun k hk => Classical.byContradiction (fun h0 => by rw [hz k (by omega)] at hk; omega)
  unfold arg at h ⊢
  by_cases h1 : L e ≠ 40
  · rw [if_pos h1] at h; cases h
  · rw [if_neg h1] at h ⊢
    by_cases h2 : (!isv (L (e + 1))) = true
    · rw [if_pos h2] at h; cases h
    · rw [if_neg h2] at h ⊢
      have h2 := isv_pos (by simpa using h2 : isv (L (e + 1)) = true)
      by_cases h3 : L (e + 2) = 44
      · rw [if_pos h3] at h ⊢
        by_cases h4 : (!isv (L (e + 3))) = true
        · rw [if_pos h4] at h; cases h
        · rw [if_neg h4] at h ⊢
          have h4 := isv_pos (by simpa using h4 : isv (L (e + 3)) = true)
          by_cases h5 : L (e + 4) ≠ 41
          · rw [if_pos h5] at h; cases h
          · rw [if_neg h5]
            have := P (e + 4) (by omega)
            refine ⟨by omega, ?_, ?_, Or.inr ⟨?_, ?_, rfl, h3, ?_, by omega⟩, ?_⟩ <;> simp only <;> omega
      · rw [if_neg h3] at h ⊢
        by_cases h5 : L (e + 2) ≠ 41
        · rw [if_pos h5] at h; cases h
        · rw [if_neg h5]
          have := P (e + 2) (by omega)
          simp only [true_and]
          omega
theorem itm_SG {L : Nat → Nat} {t a : Nat} {fs : List Fg} {q ng : Nat} (hz : ∀ k, t ≤ k → L k = 0) (ht : t ≤ 100) (h : SG L t a fs q ng) : ((itm L t a fs q ng).1 = 1 → SG L t (itm L t a fs q ng).2.1 (itm L t a fs q ng).2.2.1 (itm L t a fs q ng).2.2.2.1 (itm L t a fs q ng).2.2.2.2) ∧ ((itm L t a fs q ng).1 = 2 → Good L t (itm L t a fs q ng).2.2.1) := by
  have hP : ∀ k, 0 < L k → k < t := fun k hk => Classical.byContradiction (fun h0 => by rw [hz k (by omega)] at hk; omega)
  have hnm := nm_le L 5 a
  rw [itm_def]
  generalize he : nm L a 5 = e at *
  by_cases h1 : e = a
  · rw [if_pos h1]; exact ⟨fun h0 => (by cases h0), fun h0 => (by cases h0)⟩
  · rw [if_neg h1]
    by_cases h2 : L e = 40
    · rw [if_pos h2]
      by_cases h3 : (arg L e).1 = true ∧ (arg L e).2.1 = t
      · rw [if_pos h3]
        exact ⟨fun h0 => (by cases h0), fun _ => SG_last h ⟨rfl, arg_LFt hz he (by omega) h3.1⟩ (Nat.le_refl a) ht⟩
      · rw [if_neg h3]; exact ⟨fun h0 => (by cases h0), fun h0 => (by cases h0)⟩
    · rw [if_neg h2]
      have hwk := wk_le L a e
      generalize wk L a e = w at *
      by_cases h3 : w = 0
      · rw [if_pos h3]; exact ⟨fun h0 => (by cases h0), fun h0 => (by cases h0)⟩
      · rw [if_neg h3]
        by_cases h4 : w = 5
        · rw [if_pos h4]
          by_cases h5 : 2 ≤ ng ∨ L e ≠ 59
          · rw [if_pos h5]; exact ⟨fun h0 => (by cases h0), fun h0 => (by cases h0)⟩
          · rw [if_neg h5]
            have := hP e (by omega)
            exact ⟨fun _ => SG_neg h (by omega) (show a ≤ e + 1 by omega) (show e + 1 ≤ t by omega), fun h0 => (by cases h0)⟩
        · rw [if_neg h4]
          unfold itq
          by_cases z1 : 4 ≤ q ∨ L e ≠ 32
          · rw [if_pos z1]; exact ⟨fun h0 => (by cases h0), fun h0 => (by cases h0)⟩
          · rw [if_neg z1]
            by_cases z2 : isv (L (e + 1)) = false
            · rw [if_pos z2]; exact ⟨fun h0 => (by cases h0), fun h0 => (by cases h0)⟩
            · rw [if_neg z2]
              have z2 := isv_pos (by simpa using z2 : isv (L (e + 1)) = true)
              by_cases z3 : L (e + 2) ≠ 58
              · rw [if_pos z3]; exact ⟨fun h0 => (by cases h0), fun h0 => (by cases h0)⟩
              · rw [if_neg z3]
                have hnm' := nm_le L 5 (e + 3)
                generalize he' : nm L (e + 3) 5 = e' at *
                by_cases z4 : e' = e + 3
                · rw [if_pos z4]; exact ⟨fun h0 => (by cases h0), fun h0 => (by cases h0)⟩
                · rw [if_neg z4]
                  by_cases z5 : (arg L e').1 = false
                  · rw [if_pos z5]; exact ⟨fun h0 => (by cases h0), fun h0 => (by cases h0)⟩
                  · rw [if_neg z5]
                    have z5 : (arg L e').1 = true := by simpa using z5
                    by_cases z6 : L (arg L e').2.1 ≠ 59
                    · rw [if_pos z6]; exact ⟨fun h0 => (by cases h0), fun h0 => (by cases h0)⟩
                    · rw [if_neg z6]
                      have hlt := hP (arg L e').2.1 (by omega)
                      refine ⟨fun _ => SG_quant h (by omega) ⟨?_, ?_, ?_⟩ ⟨rfl, arg_LFt hz he' (by omega) z5⟩ ?_ ?_ ?_ hlt, fun h0 => (by cases h0)⟩
                      · show 1 ≤ w; omega
                      · show w ≤ 4; omega
                      · show L (e + 1) - 117 < 6; omega
                      · show a ≤ e + 1; omega
                      · show e + 1 + 1 ≤ e + 3; omega
                      · show (arg L e').2.1 ≤ (arg L e').2.1 + 1; omega
theorem SG_0 (L : Nat → Nat) (t : Nat) : SG L t 0 [] 0 0 := ⟨rfl, by omega, by omega, rfl, rfl, fun f hf => absurd hf (Nat.not_lt_zero _), fun f g _ hg => absurd hg (Nat.not_lt_zero _), fun f hf => absurd hf (Nat.not_lt_zero _), Nat.zero_le _⟩
theorem frm_good {L : Nat → Nat} {t : Nat} (hz : ∀ k, t ≤ k → L k = 0) (ht : t ≤ 100) : ∀ (k a : Nat) (fs : List Fg) (q ng : Nat), SG L t a fs q ng → (frm L t k (a, fs, q, ng)).1 = 2 → Good L t (frm L t k (a, fs, q, ng)).2.2.1
  | 0, a, fs, q, ng, h, h2 => by cases h2
  | k + 1, a, fs, q, ng, h, h2 => by
    have hs := itm_SG hz ht h
    unfold frm at h2 ⊢
    simp only at h2 ⊢
    by_cases hc : (itm L t a fs q ng).1 = 1
    · rw [if_pos hc] at h2 ⊢
      exact frm_good hz ht k _ _ _ _ (hs.1 hc) h2
    · rw [if_neg hc] at h2 ⊢
      exact hs.2 h2
theorem frm_fuel {L : Nat → Nat} {t : Nat} (hz : ∀ k, t ≤ k → L k = 0) (ht : t ≤ 100) : ∀ (k a : Nat) (fs : List Fg) (q ng : Nat), SG L t a fs q ng → 7 ≤ q + ng + k → frm L t (k + 1) (a, fs, q, ng) = frm L t k (a, fs, q, ng)
  | 0, a, fs, q, ng, h, h7 => by
    have h1 := h.2.1
    have h2 := h.2.2.1
    omega
  | k + 1, a, fs, q, ng, h, h7 => by
    have hs := itm_SG hz ht h
    have hc2 := (itm_012 L t a fs q ng).2
    have e1 : ∀ j, frm L t (j + 1) (a, fs, q, ng) = if (itm L t a fs q ng).1 = 1 then frm L t j (itm L t a fs q ng).2 else itm L t a fs q ng := fun j => rfl
    rw [e1, e1]
    by_cases hc : (itm L t a fs q ng).1 = 1
    · rw [if_pos hc, if_pos hc]
      exact frm_fuel hz ht k _ _ _ _ (hs.1 hc) (by rw [hc2 hc]; omega)
    · rw [if_neg hc, if_neg hc]
theorem frm_87 {L : Nat → Nat} {t : Nat} (hz : ∀ k, t ≤ k → L k = 0) (ht : t ≤ 100) : frm L t 8 Ps0 = frm L t 7 Ps0 := frm_fuel hz ht 7 0 [] 0 0 (SG_0 L t) (by omega)
theorem frm_7good {L : Nat → Nat} {t : Nat} (hz : ∀ k, t ≤ k → L k = 0) (ht : t ≤ 100) (h : (frm L t 7 Ps0).1 = 2) : Good L t (frm L t 7 Ps0).2.2.1 := frm_good hz ht 7 0 [] 0 0 (SG_0 L t) h
