/-! formulas are short: the text's signs are counted -/
def lnF (x : Fg) : Nat := if kF x = 0 then cF x - aF x else if kF x = 5 then 4 else am_len.getD (kF x) 0 + 4
def smL (fs : List Fg) : Nat := (fs.map lnF).sum
theorem smL_app (fs gs : List Fg) : smL (fs ++ gs) = smL fs + smL gs := by
  unfold smL
  rw [List.map_append, List.sum_append]
theorem weq_ln {L : Nat → Nat} {a b : Nat} {w : List Nat} (h : weq L a b w = true) : b - a = w.length := by
  unfold weq at h
  rw [Bool.and_eq_true] at h
  exact of_decide_eq_true h.1
theorem wk_ln {L : Nat → Nat} {a b : Nat} (h : wk L a b ≠ 0) : b - a = am_len.getD (wk L a b) 0 := by
  unfold wk at h ⊢
  by_cases h1 : weq L a b [101, 118, 101, 114, 121] = true
  · rw [if_pos h1]; exact weq_ln h1
  · rw [if_neg h1] at h ⊢
    by_cases h2 : weq L a b [115, 111, 109, 101] = true
    · rw [if_pos h2]; exact weq_ln h2
    · rw [if_neg h2] at h ⊢
      by_cases h3 : weq L a b [110, 111] = true
      · rw [if_pos h3]; exact weq_ln h3
      · rw [if_neg h3] at h ⊢
        by_cases h4 : weq L a b [109, 111, 115, 116] = true
        · rw [if_pos h4]; exact weq_ln h4
        · rw [if_neg h4] at h ⊢
          by_cases h5 : weq L a b [110, 111, 116] = true
          · rw [if_pos h5]; exact weq_ln h5
          · rw [if_neg h5] at h; exact absurd rfl h
theorem arg_ge (L : Nat → Nat) (e : Nat) : e ≤ (arg L e).2.1 := by
  unfold arg
  split
  · exact Nat.le_refl _
  · split
    · show e ≤ e + 1; omega
    · split
      · split
        · show e ≤ e + 3; omega
        · split
          · show e ≤ e + 4; omega
          · show e ≤ e + 5; omega
      · split
        · show e ≤ e + 2; omega
        · show e ≤ e + 3; omega
theorem itm_ln {L : Nat → Nat} {t a : Nat} {fs : List Fg} {q ng : Nat} (h : smL fs ≤ a) : ((itm L t a fs q ng).1 = 1 → smL (itm L t a fs q ng).2.2.1 ≤ (itm L t a fs q ng).2.1) ∧ ((itm L t a fs q ng).1 = 2 → smL (itm L t a fs q ng).2.2.1 ≤ t) := by
  have hnm := nm_le L 5 a
  unfold itm
  generalize he : nm L a 5 = e at *
  by_cases h1 : e = a
  · rw [if_pos h1]; exact ⟨fun h0 => (by cases h0), fun h0 => (by cases h0)⟩
  · rw [if_neg h1]
    by_cases h2 : L e = 40
    · rw [if_pos h2]
      have hag := arg_ge L e
      by_cases h3 : (arg L e).1 = true ∧ (arg L e).2.1 = t
      · rw [if_pos h3]
        refine ⟨fun h0 => (by cases h0), fun _ => ?_⟩
        show smL (fs ++ [lfF L a e]) ≤ t
        rw [smL_app]
        have : smL [lfF L a e] = (arg L e).2.1 - a := by
          unfold smL
          simp only [List.map_cons, List.map_nil, List.sum_cons, List.sum_nil, Nat.add_zero]
          rfl
        rw [this]
        omega
      · rw [if_neg h3]; exact ⟨fun h0 => (by cases h0), fun h0 => (by cases h0)⟩
    · rw [if_neg h2]
      by_cases h3 : wk L a e = 0
      · rw [if_pos h3]; exact ⟨fun h0 => (by cases h0), fun h0 => (by cases h0)⟩
      · rw [if_neg h3]
        have hwl := wk_ln h3
        by_cases h4 : wk L a e = 5
        · rw [if_pos h4]
          have h44 : am_len.getD (wk L a e) 0 = 3 := by rw [h4]; rfl
          by_cases h5 : 2 ≤ ng ∨ L e ≠ 59
          · rw [if_pos h5]; exact ⟨fun h0 => (by cases h0), fun h0 => (by cases h0)⟩
          · rw [if_neg h5]
            refine ⟨fun _ => ?_, fun h0 => (by cases h0)⟩
            show smL (fs ++ [(5, 0, 0, 0, 0, 0)]) ≤ e + 1
            rw [smL_app]
            have : smL [((5, 0, 0, 0, 0, 0) : Fg)] = 4 := rfl
            rw [this]
            omega
        · rw [if_neg h4]
          have hwk5 := wk_le L a e
          unfold itq
          by_cases z1 : 4 ≤ q ∨ L e ≠ 32
          · rw [if_pos z1]; exact ⟨fun h0 => (by cases h0), fun h0 => (by cases h0)⟩
          · rw [if_neg z1]
            by_cases z2 : isv (L (e + 1)) = false
            · rw [if_pos z2]; exact ⟨fun h0 => (by cases h0), fun h0 => (by cases h0)⟩
            · rw [if_neg z2]
              by_cases z3 : L (e + 2) ≠ 58
              · rw [if_pos z3]; exact ⟨fun h0 => (by cases h0), fun h0 => (by cases h0)⟩
              · rw [if_neg z3]
                have hnm' := nm_le L 5 (e + 3)
                generalize he' : nm L (e + 3) 5 = e' at *
                have hag := arg_ge L e'
                by_cases z4 : e' = e + 3
                · rw [if_pos z4]; exact ⟨fun h0 => (by cases h0), fun h0 => (by cases h0)⟩
                · rw [if_neg z4]
                  by_cases z5 : (arg L e').1 = false
                  · rw [if_pos z5]; exact ⟨fun h0 => (by cases h0), fun h0 => (by cases h0)⟩
                  · rw [if_neg z5]
                    by_cases z6 : L (arg L e').2.1 ≠ 59
                    · rw [if_pos z6]; exact ⟨fun h0 => (by cases h0), fun h0 => (by cases h0)⟩
                    · rw [if_neg z6]
                      refine ⟨fun _ => ?_, fun h0 => (by cases h0)⟩
                      show smL (fs ++ [(wk L a e, L (e + 1) - 117, 0, e + 1, 0, 0)] ++ [lfF L (e + 3) e']) ≤ (arg L e').2.1 + 1
                      rw [smL_app, smL_app]
                      have s1 : smL [((wk L a e, L (e + 1) - 117, 0, e + 1, 0, 0) : Fg)] = am_len.getD (wk L a e) 0 + 4 := by
                        unfold smL
                        simp only [List.map_cons, List.map_nil, List.sum_cons, List.sum_nil, Nat.add_zero]
                        unfold lnF
                        rw [if_neg (show ¬ kF ((wk L a e, L (e + 1) - 117, 0, e + 1, 0, 0) : Fg) = 0 from h3), if_neg (show ¬ kF ((wk L a e, L (e + 1) - 117, 0, e + 1, 0, 0) : Fg) = 5 from h4)]
                      have s2 : smL [lfF L (e + 3) e'] = (arg L e').2.1 - (e + 3) := by
                        unfold smL
                        simp only [List.map_cons, List.map_nil, List.sum_cons, List.sum_nil, Nat.add_zero]
                        rfl
                      rw [s1, s2]
                      omega
theorem frm_ln {L : Nat → Nat} {t : Nat} : ∀ (k a : Nat) (fs : List Fg) (q ng : Nat), smL fs ≤ a → (frm L t k (a, fs, q, ng)).1 = 2 → smL (frm L t k (a, fs, q, ng)).2.2.1 ≤ t
  | 0, a, fs, q, ng, h, h2 => by cases h2
  | k + 1, a, fs, q, ng, h, h2 => by
    have hs := itm_ln (L := L) (t := t) (q := q) (ng := ng) h
    unfold frm at h2 ⊢
    simp only at h2 ⊢
    by_cases hc : (itm L t a fs q ng).1 = 1
    · rw [if_pos hc] at h2 ⊢
      exact frm_ln k _ _ _ _ (hs.1 hc) h2
    · rw [if_neg hc] at h2 ⊢
      exact hs.2 h2
