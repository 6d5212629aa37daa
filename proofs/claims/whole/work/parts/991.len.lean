/-! formulas are short: at most 106 signs -/
def wTf (L : Nat → Nat) (fs : List Fg) (f : Nat) : Nat := (hdT L fs f).length + rk (kF (nF fs f))
def lnX (L : Nat → Nat) (fs : List Fg) (l : List (Nat × List Nat)) (xs : List Nat) : Nat := (xs.map (fun x => (fmA L fs l (plg l x)).length)).sum
theorem lnX_app (L : Nat → Nat) (fs : List Fg) (l : List (Nat × List Nat)) (xs ys : List Nat) : lnX L fs l (xs ++ ys) = lnX L fs l xs + lnX L fs l ys := by
  unfold lnX
  rw [List.map_append, List.sum_append]
section LN1
variable {L : Nat → Nat} {t : Nat} {fs : List Fg} {o : List Nat} {l : List (Nat × List Nat)}
theorem fm_ln (hO : Ordr fs o l) (hG : Good L t fs) {f : Nat} (hf : f < fs.length) : (fmA L fs l f).length = wTf L fs f + lnX L fs l (pnd fs f 0) := by
  rw [fm_hd hO hG hf]
  unfold wTf kds clo pnd lnX
  have h2 := rk_le (kF (nF fs f))
  rw [List.length_append, List.length_append]
  have hr : rk (kF (nF fs f)) = 0 ∨ rk (kF (nF fs f)) = 1 ∨ rk (kF (nF fs f)) = 2 := by omega
  rcases hr with hr | hr | hr
  · rw [hr, if_pos (Nat.le_refl _), if_pos rfl]
    simp
  · rw [hr, if_neg (by omega), if_neg (by omega), if_neg (by omega)]
    simp [List.range'_succ]
    omega
  · rw [hr, if_neg (by omega), if_pos ⟨rfl, rfl⟩, if_neg (by omega)]
    simp [List.range'_succ]
    omega
theorem fm_sum (hO : Ordr fs o l) (hG : Good L t fs) : ∀ k, k < o.length → ∃ st, rstk (kdF fs) [[]] (o.take (k + 1)) = some st ∧ ((o.take (k + 1)).map (wTf L fs)).sum + lnX L fs l (hsd st) = (fmA L fs l (o.getD 0 0)).length
  | 0, hk => by
    obtain ⟨p, r, n1, n2, n3, n4, n5⟩ := rrun_next hO.1 hk
    have hp0 : p :: r = [[]] := by
      have : rstk (kdF fs) [[]] (o.take 0) = some [[]] := rfl
      rw [n1] at this
      exact Option.some.inj this
    refine ⟨_, n4, ?_⟩
    rw [(List.cons.inj hp0).2, hsd_rp, take_s hk, rk_rh, fm_ln hO hG (gD_lt hO.2.2.2 hk)]
    have e1 : hsd ([] : List (List Nat)) = [] := rfl
    have e2 : (List.range' 0 (rk (kF (nF fs (o.getD 0 0))))).map (fun i => 2 * o.getD 0 0 + i) = pnd fs (o.getD 0 0) 0 := by unfold pnd; rw [Nat.sub_zero]
    rw [e1, e2, List.append_nil]
    simp
  | k + 1, hk => by
    obtain ⟨st, s1, s2⟩ := fm_sum hO hG k (by omega)
    obtain ⟨p, r, n1, n2, n3, n4, n5⟩ := rrun_next hO.1 hk
    rw [s1] at n1
    have n1 := Option.some.inj n1
    subst n1
    refine ⟨_, n4, ?_⟩
    have hnew : (o.getD (k + 1) 0, p) ∈ l := List.mem_of_mem_take (i := k + 2) (by rw [n5]; exact List.mem_append_right _ List.mem_cons_self)
    have hpne : p ≠ [] := rpre_ne (kd := kdF fs) (o := o.take (k + 1)) (fun h0 => by
      have h9 : 0 < (o.take (k + 1)).length := by rw [List.length_take]; omega
      rw [h0] at h9
      exact absurd h9 (Nat.not_lt_zero _)) s1 p List.mem_cons_self
    obtain ⟨x, p', rfl⟩ := List.exists_cons_of_ne_nil hpne
    have hpl : plg l x = o.getD (k + 1) 0 := plg_eq hO hnew
    have e2 : (List.range' 0 (rk (kF (nF fs (o.getD (k + 1) 0))))).map (fun i => 2 * o.getD (k + 1) 0 + i) = pnd fs (o.getD (k + 1) 0) 0 := by unfold pnd; rw [Nat.sub_zero]
    have e3 : hsd ((x :: p') :: r) = [x] ++ hsd r := rfl
    have e4 : lnX L fs l [x] = (fmA L fs l (o.getD (k + 1) 0)).length := by
      unfold lnX
      simp [hpl]
    rw [e3, lnX_app, e4, fm_ln hO hG (gD_lt hO.2.2.2 hk)] at s2
    rw [hsd_rp, take_s hk, rk_rh, e2, lnX_app, List.map_append, List.sum_append]
    simp only [List.map_cons, List.map_nil, List.sum_cons, List.sum_nil, Nat.add_zero]
    omega
theorem wT_eq {f : Nat} (hk6 : kF (nF fs f) < 6) : wTf L fs f = lnF (nF fs f) + (if decide (kF (nF fs f) ≠ 0) = true then 1 else 0) := by
  unfold wTf hdT lnF
  have hk : kF (nF fs f) = 0 ∨ kF (nF fs f) = 1 ∨ kF (nF fs f) = 2 ∨ kF (nF fs f) = 3 ∨ kF (nF fs f) = 4 ∨ kF (nF fs f) = 5 := by omega
  rcases hk with h | h | h | h | h | h <;> rw [h]
  · rw [if_pos rfl, if_pos rfl, List.length_map, List.length_range']
    rfl
  · rfl
  · rfl
  · rfl
  · rfl
  · rfl
theorem sum_add (F G : Nat → Nat) : ∀ r : List Nat, (r.map (fun f => F f + G f)).sum = (r.map F).sum + (r.map G).sum
  | [] => rfl
  | a :: r => by
    simp only [List.map_cons, List.sum_cons, sum_add F G r]
    omega
theorem sum_cnt (P : Nat → Bool) : ∀ r : List Nat, (r.map (fun f => if P f = true then 1 else 0)).sum = (r.filter P).length
  | [] => rfl
  | a :: r => by
    rw [List.map_cons, List.sum_cons, sum_cnt P r, List.filter_cons]
    by_cases h : P a = true
    · rw [if_pos h, if_pos h, List.length_cons]; omega
    · rw [if_neg h, if_neg h]; omega
theorem sum_cg {F G : Nat → Nat} : ∀ {r : List Nat}, (∀ f ∈ r, F f = G f) → (r.map F).sum = (r.map G).sum := fun {r} h => by
  rw [List.map_congr_left h]
theorem fm_106 (hO : Ordr fs o l) (hG : Good L t fs) (hs : smL fs ≤ t) : (fmA L fs l (o.getD 0 0)).length ≤ 106 := by
  have hol := hO.2.2.1
  have hn0 := hG.1
  obtain ⟨st, s1, s2⟩ := fm_sum hO hG (o.length - 1) (by omega)
  rw [show o.length - 1 + 1 = o.length by omega, List.take_length] at s1 s2
  rw [rval_end hG.cnt hO.1 hO.2.1 hol hO.2.2.2] at s1
  have s1 := Option.some.inj s1
  subst s1
  have e1 : lnX L fs l (hsd []) = 0 := rfl
  rw [e1, Nat.add_zero, perm_sum (perm_rng hO.2.1 hol hO.2.2.2), sum_cg (fun f hf => wT_eq (L := L) (hG.k6 (List.mem_range.mp hf))), sum_add, sum_cnt (fun f => decide (kF (nF fs f) ≠ 0))] at s2
  have e2 : ((List.range fs.length).map (fun f => lnF (nF fs f))).sum = smL fs := by
    unfold smL
    conv => rhs; rw [← nF_map fs, List.map_map]
    rfl
  have e3 : ((List.range fs.length).filter (fun f => decide (kF (nF fs f) ≠ 0))).length = rops (kdF fs) fs.length [] := by
    unfold rops
    congr 1
    apply List.filter_congr
    intro f _
    simp [kdF]
  have h6 := rops_le hG
  have ht : t ≤ 100 := hG.2.2.2.2.2.2.2
  rw [e2, e3] at s2
  omega
end LN1
