/-! errors of use: both sides find the same -/
theorem smN_refl (L : Nat → Nat) (x : Fg) : smN L x x = true := smN_t rfl (fun _ _ => rfl)
theorem smN_symm {L : Nat → Nat} {x y : Fg} (h : smN L x y = true) : smN L y x = true := by
  have h := smN_iff.mp h
  exact smN_t h.1.symm (fun k hk => (h.2 k (by omega)).symm)
theorem smN_trans {L : Nat → Nat} {x y z : Fg} (h1 : smN L x y = true) (h2 : smN L y z = true) : smN L x z = true := by
  have h1 := smN_iff.mp h1
  have h2 := smN_iff.mp h2
  exact smN_t (h1.1.trans h2.1) (fun k hk => (h1.2 k hk).trans (h2.2 k (by omega)))
theorem pls_s (L : Nat → Nat) (fs : List Fg) (n : Nat) : pls L fs (n + 1) = if kF (nF fs n) = 0 ∧ (pls L fs n).all (fun g => !smN L (nF fs g) (nF fs n)) = true then pls L fs n ++ [n] else pls L fs n := rfl
theorem qof_s (fs : List Fg) (v b : Nat) : qof fs v (b + 1) = if qof fs v b ≠ 0 then qof fs v b else if rk (kF (nF fs b)) = 2 ∧ vF (nF fs b) = v then b + 1 else 0 := rfl
theorem pls_pre (L : Nat → Nat) (fs : List Fg) (m : Nat) : ∀ n, m ≤ n → ∃ r, pls L fs n = pls L fs m ++ r
  | 0, h => ⟨[], by rw [show m = 0 by omega]; rfl⟩
  | n + 1, h => by
    by_cases hm : m = n + 1
    · exact ⟨[], by rw [hm, List.append_nil]⟩
    · obtain ⟨r, hr⟩ := pls_pre L fs m n (by omega)
      rw [pls_s]
      split
      · exact ⟨r ++ [n], by rw [hr, List.append_assoc]⟩
      · exact ⟨r, hr⟩
theorem findIdx_getD {p : Nat → Bool} {l : List Nat} (h : l.findIdx p < l.length) : p (l.getD (l.findIdx p) 0) = true := by
  have := List.findIdx_getElem (w := h)
  rw [List.getD_eq_getElem?_getD, List.getElem?_eq_getElem h]
  exact this
theorem prd_spec (L : Nat → Nat) (fs : List Fg) {f : Nat} (hf : f < fs.length) (hk : kF (nF fs f) = 0) : prd L fs f < (pls L fs fs.length).length ∧ (pls L fs fs.length).getD (prd L fs f) 0 ≤ f ∧ kF (nF fs ((pls L fs fs.length).getD (prd L fs f) 0)) = 0 ∧ smN L (nF fs ((pls L fs fs.length).getD (prd L fs f) 0)) (nF fs f) = true := by
  obtain ⟨r, hr⟩ := pls_pre L fs (f + 1) fs.length (by omega)
  obtain ⟨r', hr'⟩ := pls_pre L fs f fs.length (by omega)
  have es : pls L fs (f + 1) = if kF (nF fs f) = 0 ∧ (pls L fs f).all (fun g => !smN L (nF fs g) (nF fs f)) = true then pls L fs f ++ [f] else pls L fs f := rfl
  simp only [any_findIdx (p := fun g => smN L (nF fs g) (nF fs f))] at es
  by_cases hc : (pls L fs f).findIdx (fun g => smN L (nF fs g) (nF fs f)) < (pls L fs f).length
  · have h1 := findIdx_getD hc
    have h2 := pls_lt L fs f _ (getD_mem hc)
    unfold prd
    rw [hr', getD_app1 hc]
    refine ⟨by rw [List.length_append]; omega, by omega, h2.2, h1⟩
  · have h1 : (pls L fs f).findIdx (fun g => smN L (nF fs g) (nF fs f)) = (pls L fs f).length := Nat.le_antisymm List.findIdx_le_length (by omega)
    rw [if_pos ⟨hk, hc⟩] at es
    unfold prd
    rw [h1, hr, es]
    have e2 : (pls L fs f ++ [f] ++ r).getD (pls L fs f).length 0 = f := by
      rw [List.append_assoc]
      simp [List.getD_eq_getElem?_getD]
    rw [e2]
    refine ⟨by simp, Nat.le_refl _, hk, smN_refl L _⟩
theorem pls_pair (L : Nat → Nat) (fs : List Fg) : ∀ n i j, i < j → j < (pls L fs n).length → smN L (nF fs ((pls L fs n).getD i 0)) (nF fs ((pls L fs n).getD j 0)) = false
  | 0, i, j, _, h => by simp [pls] at h
  | n + 1, i, j, hij, h => by
    have ih := pls_pair L fs n
    unfold pls at h ⊢
    split at h
    · rename_i hc
      rw [if_pos hc]
      rw [List.length_append, List.length_singleton] at h
      by_cases hj : j = (pls L fs n).length
      · subst hj
        rw [getD_app2, getD_app1 hij]
        have := List.all_eq_true.mp hc.2 _ (getD_mem hij)
        simpa using this
      · rw [getD_app1 (by omega), getD_app1 (by omega)]
        exact ih i j hij (by omega)
    · rename_i hc
      rw [if_neg hc]
      exact ih i j hij h
theorem prd_congr (L : Nat → Nat) (fs : List Fg) {f g : Nat} (hf : f < fs.length) (hg : g < fs.length) (hk : kF (nF fs f) = 0) (hk' : kF (nF fs g) = 0) (hs : smN L (nF fs f) (nF fs g) = true) : prd L fs f = prd L fs g := by
  have h1 := prd_spec L fs hf hk
  have h2 := prd_spec L fs hg hk'
  have h3 := smN_trans (smN_trans h1.2.2.2 hs) (smN_symm h2.2.2.2)
  rcases Nat.lt_trichotomy (prd L fs f) (prd L fs g) with h | h | h
  · have := pls_pair L fs fs.length _ _ h h2.1
    rw [this] at h3; cases h3
  · exact h
  · have := pls_pair L fs fs.length _ _ h h1.1
    rw [smN_symm h3] at this; cases this
/-- the least of some places, and 1; 0: none -/
def isMin (m : Nat) (P : Nat → Prop) : Prop := (m = 0 ∧ ∀ p, ¬ P p) ∨ (0 < m ∧ P (m - 1) ∧ ∀ p, P p → m ≤ p + 1)
theorem isMin_uniq {m m' : Nat} {P : Nat → Prop} (h : isMin m P) (h' : isMin m' P) : m = m' := by
  rcases h with ⟨a1, a2⟩ | ⟨a1, a2, a3⟩
  · rcases h' with ⟨b1, b2⟩ | ⟨b1, b2, b3⟩
    · omega
    · exact absurd b2 (a2 _)
  · rcases h' with ⟨b1, b2⟩ | ⟨b1, b2, b3⟩
    · exact absurd a2 (b2 _)
    · have := a3 _ b2
      have := b3 _ a2
      omega
theorem isMin_congr {m : Nat} {P Q : Nat → Prop} (h : isMin m P) (hPQ : ∀ p, P p ↔ Q p) : isMin m Q := by
  have : P = Q := funext fun p => propext (hPQ p)
  rw [← this]; exact h
theorem fnd_min {m : Nat} {P : Nat → Prop} (h : isMin m P) (b : Bool) (q : Nat) : isMin (fnd m b q) (fun p => P p ∨ (b = true ∧ p = q)) := by
  unfold fnd
  by_cases hc : b = true ∧ (m = 0 ∨ q + 1 < m)
  · rw [if_pos hc]
    refine Or.inr ⟨by omega, Or.inr ⟨hc.1, rfl⟩, fun p hp => ?_⟩
    rcases hp with hp | hp
    · rcases h with ⟨a1, a2⟩ | ⟨a1, a2, a3⟩
      · exact absurd hp (a2 p)
      · have := a3 p hp
        omega
    · omega
  · rw [if_neg hc]
    rcases h with ⟨a1, a2⟩ | ⟨a1, a2, a3⟩
    · refine Or.inl ⟨a1, fun p hp => ?_⟩
      rcases hp with hp | hp
      · exact a2 p hp
      · exact hc ⟨hp.1, Or.inl a1⟩
    · refine Or.inr ⟨a1, Or.inl a2, fun p hp => ?_⟩
      rcases hp with hp | hp
      · exact a3 p hp
      · apply Classical.byContradiction
        intro h9
        exact hc ⟨hp.1, Or.inr (by omega)⟩
def bdA (L : Nat → Nat) (fs : List Fg) (f g : Nat) : Prop := kF (nF fs g) = 0 ∧ smN L (nF fs f) (nF fs g) = true ∧ arF (nF fs f) ≠ arF (nF fs g)
/-- the places of errors that the reference looks at, at a fragment -/
def Bd (L : Nat → Nat) (fs : List Fg) (f p : Nat) : Prop :=
  (rk (kF (nF fs f)) = 2 ∧ ((qof fs (vF (nF fs f)) fs.length ≠ f + 1 ∧ p = aF (nF fs f)) ∨ (cnt1 (nF fs (f + 1)) (vF (nF fs f)) = false ∧ p = aF (nF fs (f + 1))))) ∨
  (kF (nF fs f) = 0 ∧ ((qof fs (vF (nF fs f)) fs.length = 0 ∧ p = bF (nF fs f) + 1) ∨ (0 < wF (nF fs f) ∧ qof fs (wF (nF fs f) - 1) fs.length = 0 ∧ p = bF (nF fs f) + 3) ∨ (∃ g, g < f ∧ bdA L fs f g ∧ p = aF (nF fs f))))
theorem rin_min {L : Nat → Nat} {fs : List Fg} {f m : Nat} {P : Nat → Prop} (h : isMin m P) : ∀ k, isMin (rin L fs f m k) (fun p => P p ∨ ∃ g, g < k ∧ bdA L fs f g ∧ p = aF (nF fs f))
  | 0 => isMin_congr h (fun p => ⟨Or.inl, fun h9 => h9.elim id (fun ⟨g, hg, _⟩ => absurd hg (Nat.not_lt_zero _))⟩)
  | k + 1 => by
    refine isMin_congr (fnd_min (rin_min h k) _ _) (fun p => ?_)
    have hb : (decide (kF (nF fs k) = 0) && smN L (nF fs f) (nF fs k) && decide (arF (nF fs f) ≠ arF (nF fs k))) = true ↔ bdA L fs f k := by
      rw [Bool.and_eq_true, Bool.and_eq_true, decide_eq_true_iff, decide_eq_true_iff]
      exact ⟨fun h => ⟨h.1.1, h.1.2, h.2⟩, fun h => ⟨⟨h.1, h.2.1⟩, h.2.2⟩⟩
    rw [hb]
    constructor
    · rintro ((h1 | ⟨g, h1, h2⟩) | h1)
      · exact Or.inl h1
      · exact Or.inr ⟨g, by omega, h2⟩
      · exact Or.inr ⟨k, by omega, h1⟩
    · rintro (h1 | ⟨g, h1, h2⟩)
      · exact Or.inl (Or.inl h1)
      · by_cases hg : g = k
        · rw [hg] at h2; exact Or.inr h2
        · exact Or.inl (Or.inr ⟨g, by omega, h2⟩)
theorem rst_min {L : Nat → Nat} {fs : List Fg} {f m : Nat} {P : Nat → Prop} (h : isMin m P) : isMin (rst L fs f m) (fun p => P p ∨ Bd L fs f p) := by
  unfold rst
  by_cases h1 : rk (kF (nF fs f)) = 2
  · rw [if_pos h1]
    have h0 : ¬ kF (nF fs f) = 0 := fun h9 => by rw [h9] at h1; cases h1
    refine isMin_congr (fnd_min (fnd_min h _ _) _ _) (fun p => ?_)
    unfold Bd
    rw [decide_eq_true_iff, Bool.not_eq_true']
    constructor
    · rintro ((a | a) | a)
      · exact Or.inl a
      · exact Or.inr (Or.inl ⟨h1, Or.inl a⟩)
      · exact Or.inr (Or.inl ⟨h1, Or.inr a⟩)
    · rintro (a | ⟨_, a | a⟩ | ⟨a, _⟩)
      · exact Or.inl (Or.inl a)
      · exact Or.inl (Or.inr a)
      · exact Or.inr a
      · exact absurd a h0
  · rw [if_neg h1]
    by_cases h0 : kF (nF fs f) = 0
    · rw [if_pos h0]
      refine isMin_congr (rin_min (fnd_min (fnd_min h _ _) _ _) f) (fun p => ?_)
      unfold Bd
      rw [decide_eq_true_iff, decide_eq_true_iff]
      constructor
      · rintro (((a | a) | a) | a)
        · exact Or.inl a
        · exact Or.inr (Or.inr ⟨h0, Or.inl a⟩)
        · exact Or.inr (Or.inr ⟨h0, Or.inr (Or.inl ⟨a.1.1, a.1.2, a.2⟩)⟩)
        · exact Or.inr (Or.inr ⟨h0, Or.inr (Or.inr a)⟩)
      · rintro (a | ⟨a, _⟩ | ⟨_, a | a | a⟩)
        · exact Or.inl (Or.inl (Or.inl a))
        · exact absurd a h1
        · exact Or.inl (Or.inl (Or.inr a))
        · exact Or.inl (Or.inr ⟨⟨a.1, a.2.1⟩, a.2.2⟩)
        · exact Or.inr a
    · rw [if_neg h0]
      refine isMin_congr h (fun p => ⟨Or.inl, ?_⟩)
      rintro (a | ⟨a, _⟩ | ⟨a, _⟩)
      · exact a
      · exact absurd a h1
      · exact absurd a h0
theorem rer_min (L : Nat → Nat) (fs : List Fg) : ∀ k, isMin (rer L fs k) (fun p => ∃ f, f < k ∧ Bd L fs f p)
  | 0 => Or.inl ⟨rfl, fun p ⟨f, hf, _⟩ => absurd hf (Nat.not_lt_zero _)⟩
  | k + 1 => by
    refine isMin_congr (rst_min (rer_min L fs k)) (fun p => ?_)
    constructor
    · rintro (⟨f, h1, h2⟩ | h1)
      · exact ⟨f, by omega, h2⟩
      · exact ⟨k, by omega, h1⟩
    · rintro ⟨f, h1, h2⟩
      by_cases hf : f = k
      · rw [hf] at h2; exact Or.inr h2
      · exact Or.inl ⟨f, by omega, h2⟩
theorem qof_first {fs : List Fg} {v f : Nat} (h1 : rk (kF (nF fs f)) = 2) (h2 : vF (nF fs f) = v) : ∀ n, f < n → (qof fs v n = f + 1 ↔ qof fs v f = 0)
  | 0, h => by omega
  | n + 1, h => by
    by_cases hn : f = n
    · subst hn
      rw [qof_s]
      by_cases hq : qof fs v f = 0
      · rw [if_neg (fun h9 => h9 hq), if_pos ⟨h1, h2⟩]
        exact ⟨fun _ => hq, fun _ => rfl⟩
      · have := qof_le fs v f
        rw [if_pos hq]
        constructor
        · intro h9; omega
        · intro h9; exact absurd h9 hq
    · have ih := qof_first h1 h2 n (by omega)
      have key : qof fs v n ≠ 0 := by
        have mono : ∀ m, f + 1 ≤ m → qof fs v m ≠ 0 := by
          intro m
          induction m with
          | zero => intro h9; omega
          | succ m ihm =>
            intro h9
            unfold qof
            by_cases hq : qof fs v m = 0
            · rw [if_neg (by omega)]
              have : m = f := Classical.byContradiction fun h8 => ihm (by omega) hq
              rw [this, if_pos ⟨h1, h2⟩]
              omega
            · rw [if_pos hq]; exact hq
        exact mono n (by omega)
      have e : qof fs v (n + 1) = qof fs v n := if_pos key
      rw [e]; exact ih
theorem uer_spec (L : Nat → Nat) (fs : List Fg) : ∀ n, (uer L fs n = 0 ∧ ∀ f, f < n → erF L fs f = 0) ∨ (0 < uer L fs n ∧ ∃ f, f < n ∧ erF L fs f = uer L fs n ∧ ∀ g, g < f → erF L fs g = 0)
  | 0 => Or.inl ⟨rfl, fun f hf => absurd hf (Nat.not_lt_zero _)⟩
  | n + 1 => by
    unfold uer
    rcases uer_spec L fs n with ⟨h1, h2⟩ | ⟨h1, f, h2, h3, h4⟩
    · rw [if_neg (by omega)]
      by_cases he : erF L fs n = 0
      · refine Or.inl ⟨he, fun f hf => ?_⟩
        by_cases hfn : f = n
        · rw [hfn]; exact he
        · exact h2 f (by omega)
      · exact Or.inr ⟨by omega, n, by omega, rfl, fun g hg => h2 g hg⟩
    · rw [if_pos (by omega)]
      exact Or.inr ⟨h1, f, by omega, h3, h4⟩
section SA1
variable {L : Nat → Nat} {t : Nat} {fs : List Fg}
/-- no error at some leaves: leaves of one name have one arity -/
theorem er_arity (f : Nat) (hf : f < fs.length) (hk : kF (nF fs f) = 0) (he : arF (nF fs ((pls L fs fs.length).getD (prd L fs f) 0)) = arF (nF fs f)) (g : Nat) (hg : g < fs.length) (hb : bdA L fs f g) (heg : erF L fs g = 0) : False := by
  have e1 := prd_congr L fs hf hg hk hb.1 hb.2.1
  have e2 : arF (nF fs ((pls L fs fs.length).getD (prd L fs g) 0)) = arF (nF fs g) := by
    apply Classical.byContradiction
    intro h9
    unfold erF at heg
    rw [if_neg (by rw [hb.1]; decide), if_pos hb.1] at heg
    rw [show ∀ a b : Nat, (if arF (nF fs ((pls L fs fs.length).getD (prd L fs g) 0)) ≠ arF (nF fs g) then a else b) = a from fun a b => if_pos h9] at heg
    split at heg <;> omega
  rw [← e1, he] at e2
  exact hb.2.2 e2
theorem er_none (hG : Good L t fs) (k : Nat) (hk : k ≤ fs.length) (he : ∀ f, f < k → erF L fs f = 0) (f : Nat) (hf : f < k) (hfn : rk (kF (nF fs f)) = 2 → f + 1 < k ∨ cnt1 (nF fs (f + 1)) (vF (nF fs f)) = true) (p : Nat) : ¬ Bd L fs f p := by
  intro hB
  have hef := he f hf
  unfold Bd at hB
  rcases hB with ⟨h1, hB⟩ | ⟨h0, hB⟩
  · have hq := hG.quant (by omega) h1
    rcases hB with ⟨hB, -⟩ | ⟨hB, -⟩
    · unfold erF at hef
      rw [if_pos h1] at hef
      by_cases hz : qof fs (vF (nF fs f)) f = 0
      · exact hB ((qof_first h1 rfl fs.length (by omega)).mpr hz)
      · rw [if_pos hz] at hef
        omega
    · rcases hfn h1 with h2 | h2
      · have h3 := he (f + 1) h2
        unfold erF at h3
        rw [if_neg (by rw [hq.2.2.2.2]; decide), if_pos hq.2.2.2.2, Nat.add_sub_cancel, if_pos ⟨⟨by omega, h1⟩, hB⟩] at h3
        omega
      · rw [h2] at hB; cases hB
  · unfold erF at hef
    rw [if_neg (by rw [h0]; decide), if_pos h0] at hef
    split at hef
    · omega
    · split at hef
      · omega
      · rename_i c2
        split at hef
        · omega
        · rename_i c3
          split at hef
          · omega
          · rename_i c4
            rcases hB with hB | hB | ⟨g, hg, hB, -⟩
            · exact c3 hB.1
            · refine c4 ⟨?_, hB.2.1⟩
              unfold arF
              rw [if_neg (by omega)]
            · exact er_arity f (by omega) h0 (Classical.byContradiction c2) g (by omega) hB (he g (by omega))
theorem rer_uer (hG : Good L t fs) : rer L fs fs.length = uer L fs fs.length := by
  refine isMin_uniq (rer_min L fs fs.length) ?_
  rcases uer_spec L fs fs.length with ⟨h1, h2⟩ | ⟨h1, f, h2, h3, h4⟩
  · refine Or.inl ⟨h1, fun p ⟨f, hf, hB⟩ => er_none hG fs.length (Nat.le_refl _) h2 f hf (fun h9 => Or.inl ?_) p hB⟩
    have := hG.quant hf h9
    omega
  · have hlow : ∀ g p, g < fs.length → Bd L fs g p → aF (nF fs g) ≤ p := by
      intro g p hg hB
      unfold Bd at hB
      rcases hB with ⟨c1, hB⟩ | ⟨c1, hB⟩
      · have hq := hG.quant hg c1
        rcases hB with hB | hB
        · omega
        · have := hG.2.2.2.2.2.2.1 g (g + 1) (by omega) (by omega) (by omega) (by omega)
          unfold enF at this
          rw [if_neg (by omega)] at this
          omega
      · have hl := hG.leaf hg c1
        unfold LFt at hl
        rcases hB with hB | hB | ⟨_, _, _, hB⟩ <;> omega
    have hpos : ∀ g, f < g → g < fs.length → ∀ p, kF (nF fs g) ≠ 5 → Bd L fs g p → uer L fs fs.length ≤ p + 1 := by
      intro g hfg hg p h5 hB
      have h6 := hlow g p hg hB
      have hf5 : kF (nF fs f) ≠ 5 := by
        intro h9
        unfold erF at h3
        rw [if_neg (by rw [h9]; decide), if_neg (by rw [h9]; decide)] at h3
        omega
      have h7 := hG.2.2.2.2.2.2.1 f g hfg hg hf5 h5
      have h8 : uer L fs fs.length ≤ enF (nF fs f) := by
        rw [← h3]
        unfold erF enF
        by_cases c1 : rk (kF (nF fs f)) = 2
        · have c9 : ¬ kF (nF fs f) = 0 := fun h9 => by rw [h9] at c1; cases c1
          rw [if_pos c1, if_neg c9]
          split <;> omega
        · rw [if_neg c1]
          by_cases c0 : kF (nF fs f) = 0
          · rw [if_pos c0, if_pos c0]
            have hl := hG.leaf h2 c0
            unfold LFt at hl
            split
            · omega
            · split
              · omega
              · split
                · omega
                · split
                  · rename_i c4
                    have : wF (nF fs f) ≠ 0 := fun h9 => by
                      have := c4.1
                      unfold arF at this
                      rw [if_pos h9] at this
                      cases this
                    omega
                  · omega
          · rw [if_neg c0]; omega
      omega
    have hB5 : ∀ g p, Bd L fs g p → kF (nF fs g) ≠ 5 := by
      intro g p hB h9
      unfold Bd at hB
      rcases hB with ⟨c1, _⟩ | ⟨c1, _⟩
      · rw [h9] at c1; cases c1
      · omega
    refine Or.inr ⟨h1, ?_, fun p ⟨g, hg, hB⟩ => ?_⟩
    · -- the place is one that the reference looks at
      rw [← h3] at h1 ⊢
      unfold erF at h1 ⊢
      by_cases c1 : rk (kF (nF fs f)) = 2
      · rw [if_pos c1] at h1 ⊢
        by_cases c2 : qof fs (vF (nF fs f)) f ≠ 0
        · rw [if_pos c2]
          exact ⟨f, h2, Or.inl ⟨c1, Or.inl ⟨fun h9 => c2 ((qof_first c1 rfl fs.length h2).mp h9), by omega⟩⟩⟩
        · rw [if_neg c2] at h1; omega
      · rw [if_neg c1] at h1 ⊢
        by_cases c0 : kF (nF fs f) = 0
        · rw [if_pos c0] at h1 ⊢
          by_cases c2 : (0 < f ∧ rk (kF (nF fs (f - 1))) = 2) ∧ cnt1 (nF fs f) (vF (nF fs (f - 1))) = false
          · rw [if_pos c2]
            refine ⟨f - 1, by omega, Or.inl ⟨c2.1.2, Or.inr ?_⟩⟩
            rw [show f - 1 + 1 = f by omega]
            exact ⟨c2.2, by omega⟩
          · rw [if_neg c2] at h1 ⊢
            by_cases c3 : arF (nF fs ((pls L fs fs.length).getD (prd L fs f) 0)) ≠ arF (nF fs f)
            · rw [if_pos c3]
              have hp := prd_spec L fs h2 c0
              refine ⟨f, h2, Or.inr ⟨c0, Or.inr (Or.inr ⟨_, ?_, ⟨hp.2.2.1, smN_symm hp.2.2.2, fun h9 => c3 h9.symm⟩, by omega⟩)⟩⟩
              have : (pls L fs fs.length).getD (prd L fs f) 0 ≠ f := fun h9 => c3 (by rw [h9])
              omega
            · rw [if_neg c3] at h1 ⊢
              by_cases c4 : qof fs (vF (nF fs f)) fs.length = 0
              · rw [if_pos c4]
                exact ⟨f, h2, Or.inr ⟨c0, Or.inl ⟨c4, by omega⟩⟩⟩
              · rw [if_neg c4] at h1 ⊢
                by_cases c5 : arF (nF fs f) = 2 ∧ qof fs (wF (nF fs f) - 1) fs.length = 0
                · rw [if_pos c5]
                  have : wF (nF fs f) ≠ 0 := fun h9 => by
                    have := c5.1
                    unfold arF at this
                    rw [if_pos h9] at this
                    cases this
                  exact ⟨f, h2, Or.inr ⟨c0, Or.inr (Or.inl ⟨by omega, c5.2, by omega⟩)⟩⟩
                · rw [if_neg c5] at h1; omega
        · rw [if_neg c0] at h1; omega
    · rcases Nat.lt_trichotomy g f with hgf | hgf | hgf
      · -- ahead of the first error there is nothing, but a restriction's at the error itself
        by_cases c1 : rk (kF (nF fs g)) = 2 ∧ g + 1 = f ∧ cnt1 (nF fs (g + 1)) (vF (nF fs g)) = false
        · have hq := hG.quant hg c1.1
          have h6 : erF L fs f = aF (nF fs f) + 1 := by
            unfold erF
            rw [← c1.2.1, if_neg (by rw [hq.2.2.2.2]; decide), if_pos hq.2.2.2.2, Nat.add_sub_cancel, if_pos ⟨⟨by omega, c1.1⟩, c1.2.2⟩]
          have h7 := hlow g p hg hB
          unfold Bd at hB
          rcases hB with ⟨_, hB⟩ | ⟨c0, _⟩
          · rcases hB with ⟨hB, -⟩ | ⟨-, hB⟩
            · exfalso
              have h8 := h4 g hgf
              unfold erF at h8
              rw [if_pos c1.1] at h8
              by_cases hz : qof fs (vF (nF fs g)) g = 0
              · exact hB ((qof_first c1.1 rfl fs.length hg).mpr hz)
              · rw [if_pos hz] at h8
                omega
            · rw [← h3, h6, hB, c1.2.1]
              exact Nat.le_refl _
          · have := c1.1
            rw [c0] at this; cases this
        · exfalso
          refine er_none hG f (by omega) h4 g hgf (fun h9 => ?_) p hB
          by_cases h10 : g + 1 < f
          · exact Or.inl h10
          · refine Or.inr ?_
            cases h11 : cnt1 (nF fs (g + 1)) (vF (nF fs g)) with
            | true => rfl
            | false => exact absurd ⟨h9, by omega, h11⟩ c1
      · subst hgf
        have h6 := hlow g p hg hB
        rw [← h3]
        unfold erF
        by_cases c1 : rk (kF (nF fs g)) = 2
        · rw [if_pos c1]
          split <;> omega
        · rw [if_neg c1]
          by_cases c0 : kF (nF fs g) = 0
          · rw [if_pos c0]
            split
            · omega
            · split
              · omega
              · rename_i c3
                unfold Bd at hB
                rcases hB with ⟨c9, _⟩ | ⟨_, hB⟩
                · exact absurd c9 c1
                · rcases hB with hB | hB | ⟨g', hg', hB, -⟩
                  · rw [if_pos hB.1]
                    omega
                  · split
                    · omega
                    · split <;> omega
                  · exact (er_arity g hg c0 (Classical.byContradiction c3) g' (by omega) hB (h4 g' hg')).elim
          · rw [if_neg c0]; omega
      · exact hpos g hgf hg p (hB5 g p hB) hB
end SA1
