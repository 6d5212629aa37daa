/-! THE SPEC of truth -/
def plg (l : List (Nat × List Nat)) (x : Nat) : Nat := ((l.find? (fun q => q.2.head? == some x)).map (·.1)).getD 0
theorem plg_eq {fs : List Fg} {o : List Nat} {l : List (Nat × List Nat)} (hO : Ordr fs o l) {f x : Nat} {p : List Nat} (h : (f, x :: p) ∈ l) : plg l x = f := by
  unfold plg
  cases hf : l.find? (fun q => q.2.head? == some x) with
  | none =>
    exfalso
    have := List.find?_eq_none.mp hf _ h
    simp at this
  | some q =>
    have h1 := List.mem_of_find?_eq_some hf
    have h2 := List.find?_some hf
    have h2 : q.2.head? = some x := by simpa using h2
    obtain ⟨a, b⟩ := q
    cases b with
    | nil => cases h2
    | cons y b =>
      have : y = x := Option.some.inj h2
      subst this
      exact rval_inj hO.1 hO.2.1 h1 h
def enuf (k a b : Nat) : Bool := if k = 1 then decide (b = a) else if k = 2 then decide (0 < b) else if k = 3 then decide (b = 0) else decide (a < 2 * b)
def cD : Nat → (Nat → Bool) → Nat
  | 0, _ => 0
  | d + 1, P => cD d P + (if P d = true then 1 else 0)
theorem cD_le : ∀ (d : Nat) (P : Nat → Bool), cD d P ≤ d
  | 0, _ => Nat.le_refl _
  | d + 1, P => by
    have := cD_le d P
    unfold cD
    split <;> omega
theorem cD_cg : ∀ {d : Nat} {P Q : Nat → Bool}, (∀ x, x < d → P x = Q x) → cD d P = cD d Q
  | 0, _, _, _ => rfl
  | d + 1, P, Q, h => by
    unfold cD
    rw [cD_cg (fun x hx => h x (by omega)), h d (by omega)]
def upE (e : Nat → Nat) (v d : Nat) : Nat → Nat := fun u => if u = v then d else e u
def tvF (L : Nat → Nat) (fs : List Fg) (fc : Nat → Bool) (f : Nat) (e : Nat → Nat) : Bool := fc (9 * prd L fs f + 3 * e (vF (nF fs f)) + (if wF (nF fs f) = 0 then 0 else e (wF (nF fs f) - 1)))
def tv (L : Nat → Nat) (fs : List Fg) (pl : Nat → Nat) (fc : Nat → Bool) (dm : Nat) : Nat → Nat → (Nat → Nat) → Bool
  | 0, _, _ => false
  | m + 1, f, e => if kF (nF fs f) = 0 then tvF L fs fc f e else if kF (nF fs f) = 5 then !tv L fs pl fc dm m (pl (2 * f)) e else
    enuf (kF (nF fs f)) (cD dm (fun d => tv L fs pl fc dm m (pl (2 * f)) (upE e (vF (nF fs f)) d))) (cD dm (fun d => tv L fs pl fc dm m (pl (2 * f)) (upE e (vF (nF fs f)) d) && tv L fs pl fc dm m (pl (2 * f + 1)) (upE e (vF (nF fs f)) d)))
/-- no errors of use -/
def Usd (L : Nat → Nat) (fs : List Fg) : Prop := (∀ q q', q < fs.length → q' < fs.length → rk (kF (nF fs q)) = 2 → rk (kF (nF fs q')) = 2 → vF (nF fs q) = vF (nF fs q') → q = q') ∧ ∀ f, f < fs.length → kF (nF fs f) = 0 → (∃ q, q < fs.length ∧ rk (kF (nF fs q)) = 2 ∧ vF (nF fs q) = vF (nF fs f)) ∧ (wF (nF fs f) ≠ 0 → ∃ q, q < fs.length ∧ rk (kF (nF fs q)) = 2 ∧ vF (nF fs q) = wF (nF fs f) - 1)
theorem qof_some {fs : List Fg} {v : Nat} : ∀ {n : Nat}, qof fs v n ≠ 0 → ∃ q, q < n ∧ rk (kF (nF fs q)) = 2 ∧ vF (nF fs q) = v
  | 0, h => absurd rfl h
  | n + 1, h => by
    rw [qof_s] at h
    by_cases h1 : qof fs v n ≠ 0
    · obtain ⟨q, hq, h2⟩ := qof_some h1
      exact ⟨q, by omega, h2⟩
    · rw [if_neg h1] at h
      by_cases h2 : rk (kF (nF fs n)) = 2 ∧ vF (nF fs n) = v
      · exact ⟨n, by omega, h2⟩
      · rw [if_neg h2] at h; exact absurd rfl h
theorem qof_none {fs : List Fg} {v : Nat} : ∀ {n : Nat}, qof fs v n = 0 → ∀ q, q < n → rk (kF (nF fs q)) = 2 → vF (nF fs q) ≠ v
  | 0, _, q, hq, _ => absurd hq (Nat.not_lt_zero _)
  | n + 1, h, q, hq, hk => by
    rw [qof_s] at h
    by_cases h1 : qof fs v n ≠ 0
    · rw [if_pos h1] at h; exact absurd h h1
    · rw [if_neg h1] at h
      by_cases hqn : q = n
      · subst hqn
        intro h9
        rw [if_pos ⟨hk, h9⟩] at h
        omega
      · exact qof_none (n := n) (Classical.byContradiction h1) q (by omega) hk
theorem Usd_of {L : Nat → Nat} {t : Nat} {fs : List Fg} (hG : Good L t fs) (h : uer L fs fs.length = 0) : Usd L fs := by
  have he : ∀ f, f < fs.length → erF L fs f = 0 := by
    rcases uer_spec L fs fs.length with ⟨-, h9⟩ | ⟨h9, -⟩
    · exact h9
    · omega
  refine ⟨?_, fun f hf hk => ?_⟩
  · have key : ∀ q q', q < q' → q' < fs.length → rk (kF (nF fs q)) = 2 → rk (kF (nF fs q')) = 2 → vF (nF fs q) ≠ vF (nF fs q') := by
      intro q q' hqq hq' k1 k2
      have h1 := he q' hq'
      unfold erF at h1
      rw [if_pos k2] at h1
      by_cases h2 : qof fs (vF (nF fs q')) q' ≠ 0
      · rw [if_pos h2] at h1; omega
      · exact qof_none (by omega) q hqq k1
    intro q q' hq hq' k1 k2 hv
    rcases Nat.lt_trichotomy q q' with h9 | h9 | h9
    · exact absurd hv (key q q' h9 hq' k1 k2)
    · exact h9
    · exact absurd hv.symm (key q' q h9 hq k2 k1)
  · have h1 := he f hf
    unfold erF at h1
    rw [if_neg (by rw [hk]; decide), if_pos hk] at h1
    split at h1
    · omega
    · split at h1
      · omega
      · split at h1
        · omega
        · rename_i h4
          refine ⟨qof_some h4, fun hw => ?_⟩
          split at h1
          · omega
          · rename_i h5
            have h6 : arF (nF fs f) = 2 := if_neg hw
            exact qof_some (fun h9 => h5 ⟨h6, h9⟩)
section TS1
variable {L : Nat → Nat} {t : Nat} {fs : List Fg} {o : List Nat} {l : List (Nat × List Nat)} {fc : Nat → Bool} {dm : Nat}
/-- variables that have a quantifier -/
def bdV (fs : List Fg) (v : Nat) : Prop := ∃ q, q < fs.length ∧ rk (kF (nF fs q)) = 2 ∧ vF (nF fs q) = v
theorem tv_cg (hU : Usd L fs) (pl : Nat → Nat) (hpl : ∀ x, pl x < fs.length ∨ ¬ (x / 2 < fs.length ∧ x % 2 < rk (kF (nF fs (x / 2))))) : ∀ (m f : Nat) (e e' : Nat → Nat), f < fs.length → (∀ v, bdV fs v → e v = e' v) → tv L fs pl fc dm m f e = tv L fs pl fc dm m f e'
  | 0, _, _, _, _, _ => rfl
  | m + 1, f, e, e', hf, he => by
    have ih := tv_cg hU pl hpl m
    have hp : ∀ i, i < rk (kF (nF fs f)) → i < 2 → pl (2 * f + i) < fs.length := fun i hi h2 => by
      rcases hpl (2 * f + i) with h9 | h9
      · exact h9
      · exfalso
        apply h9
        rw [show (2 * f + i) / 2 = f by omega]
        exact ⟨hf, by omega⟩
    unfold tv
    by_cases h0 : kF (nF fs f) = 0
    · rw [if_pos h0, if_pos h0]
      unfold tvF
      have hv := hU.2 f hf h0
      rw [he _ hv.1]
      by_cases hw : wF (nF fs f) = 0
      · rw [if_pos hw, if_pos hw]
      · rw [if_neg hw, if_neg hw, he _ (hv.2 hw)]
    · rw [if_neg h0, if_neg h0]
      by_cases h5 : kF (nF fs f) = 5
      · rw [if_pos h5, if_pos h5]
        have : pl (2 * f) < fs.length := hp 0 (by rw [h5]; decide) (by decide)
        rw [ih _ e e' this he]
      · rw [if_neg h5, if_neg h5]
        have hr : rk (kF (nF fs f)) = 2 := by unfold rk; rw [if_neg h0, if_neg h5]
        have p0 : pl (2 * f) < fs.length := hp 0 (by omega) (by decide)
        have p1 := hp 1 (by omega) (by decide)
        have hup : ∀ d v, bdV fs v → upE e (vF (nF fs f)) d v = upE e' (vF (nF fs f)) d v := fun d v hv => by
          unfold upE
          by_cases h9 : v = vF (nF fs f)
          · rw [if_pos h9, if_pos h9]
          · rw [if_neg h9, if_neg h9]; exact he v hv
        congr 1
        · exact cD_cg (fun d _ => ih _ _ _ p0 (hup d))
        · exact cD_cg (fun d _ => by rw [ih _ _ _ p0 (hup d), ih _ _ _ p1 (hup d)])
/-- enough steps: the value is steady -/
theorem tv_st (hO : Ordr fs o l) (hc : rcnt (kdF fs) fs.length) : ∀ (m m' j : Nat) (e : Nat → Nat), j < o.length → o.length - j ≤ m → o.length - j ≤ m' → tv L fs (plg l) fc dm m (o.getD j 0) e = tv L fs (plg l) fc dm m' (o.getD j 0) e
  | 0, _, j, _, hj, h1, _ => by omega
  | _ + 1, 0, j, _, hj, _, h2 => by omega
  | m + 1, m' + 1, j, e, hj, h1, h2 => by
    have hf := gD_lt hO.2.2.2 hj
    have child : ∀ i, i < rk (kF (nF fs (o.getD j 0))) → i < 2 → ∀ e, tv L fs (plg l) fc dm m (plg l (2 * o.getD j 0 + i)) e = tv L fs (plg l) fc dm m' (plg l (2 * o.getD j 0 + i)) e := by
      intro i hi hi2 e
      obtain ⟨p, hp⟩ := hO.get hf
      obtain ⟨c, hcm⟩ := hO.fill hc hp (i := i) hi
      rw [plg_eq hO hcm]
      have hco : c ∈ o := by rw [← rrun_fst _ _ _ _ hO.1]; exact List.mem_map.mpr ⟨_, hcm, rfl⟩
      obtain ⟨j', hj', hjc⟩ := gD_of hco
      have hlt := hO.later hcm (q := o.getD j 0) (by omega) hj hj' rfl hjc
      rw [← hjc]
      exact tv_st hO hc m m' j' e hj' (by omega) (by omega)
    unfold tv
    by_cases h0 : kF (nF fs (o.getD j 0)) = 0
    · rw [if_pos h0, if_pos h0]
    · rw [if_neg h0, if_neg h0]
      by_cases h5 : kF (nF fs (o.getD j 0)) = 5
      · rw [if_pos h5, if_pos h5]
        have := child 0 (by rw [h5]; decide) (by decide) e
        rw [Nat.add_zero] at this
        rw [this]
      · rw [if_neg h5, if_neg h5]
        have hr : rk (kF (nF fs (o.getD j 0))) = 2 := by unfold rk; rw [if_neg h0, if_neg h5]
        have c0 : ∀ e, tv L fs (plg l) fc dm m (plg l (2 * o.getD j 0)) e = tv L fs (plg l) fc dm m' (plg l (2 * o.getD j 0)) e := fun e => by
          have := child 0 (by omega) (by decide) e
          rw [Nat.add_zero] at this
          exact this
        have c1 := child 1 (by omega) (by decide)
        congr 1
        · exact cD_cg (fun d _ => c0 _)
        · exact cD_cg (fun d _ => by rw [c0, c1])
end TS1
