/-- a hole that has been opened -/
def ropen (kd : Nat → Nat) (u : List Nat) (x : Nat) : Prop := x / 2 ∈ u ∧ x % 2 < rh kd (x / 2)
/-- the class' condition: W are the edges with what follows from them -/
def rcls (kd : Nat → Nat) (W : Nat → Nat → Bool) (n : Nat) (st : List (List Nat)) (u : List Nat) (f : Nat) : Prop := match st with
  | [] => False
  | p :: s => f ∉ u ∧ (∀ x, W x f = true → x ∈ p) ∧ (if kd f = 0 then ∀ g, g < n → g ∉ u → (∃ x, W x g = true ∧ x ∈ p ∧ ∀ q, s.head? = some q → x ∉ q) → g = f else ∀ g, g < n → (W (2 * f) g = true ∨ W (2 * f + 1) g = true) → g ∉ u ∧ ∀ x, W x g = true → ropen kd u x → x ∈ p)
theorem rinv_ext {kd : Nat → Nat} {E : Nat → Nat → Bool} {n m : Nat} {p : List Nat} {s : List (List Nat)} {u : List Nat} {f : Nat} (h : rinv kd E n (m + 1) (p :: s) u) (hf : f < n) (hu : f ∉ u) (hok : rok E f p) (hne : rsp kd E n m (rp kd f p ++ s) (f :: u) ≠ []) :
    ∃ pre l o' l', u = pre.reverse ∧ rstk kd [[]] pre = some (p :: s) ∧ rrun kd [[]] pre = some l ∧ rrun kd (rp kd f p ++ s) o' = some l' ∧ rval kd E n (pre ++ f :: o') (l ++ (f, p) :: l') ∧ rmeet (p :: s) := by
  obtain ⟨pre, l, h1, h2, rfl, h4, h5, h6, h7, h8⟩ := h
  obtain ⟨o', ho'⟩ := List.exists_mem_of_ne_nil _ hne
  obtain ⟨e1, e2, e3, l', e4, e5⟩ := (rsp_mem kd E n m _ _ o').mp ho'
  have hfp : f ∉ pre := fun h9 => hu (List.mem_reverse.mpr h9)
  refine ⟨pre, l, o', l', rfl, h1, h2, e4, ⟨?_, ?_, ?_, ?_, ?_⟩, h8⟩
  · rw [rrun_app, h1, h2]
    simp only [Option.bind_some, rrun, e4, Option.map_some]
  · rw [List.nodup_append]
    refine ⟨h5, List.nodup_cons.mpr ⟨fun h9 => (e3 f h9).2 List.mem_cons_self, e2⟩, fun a ha b hb => ?_⟩
    rcases List.mem_cons.mp hb with rfl | hb
    · exact fun h9 => hfp (h9 ▸ ha)
    · exact fun h9 => (e3 b hb).2 (List.mem_cons_of_mem _ (List.mem_reverse.mpr (h9 ▸ ha)))
  · simp only [List.length_append, List.length_cons, e1]
    omega
  · intro x hx
    rcases List.mem_append.mp hx with hx | hx
    · exact h6 x hx
    · rcases List.mem_cons.mp hx with rfl | hx
      · exact hf
      · exact (e3 x hx).1
  · intro q hq
    rcases List.mem_append.mp hq with hq | hq
    · exact h7 q hq
    · rcases List.mem_cons.mp hq with rfl | hq
      · exact hok
      · exact e5 q hq
theorem rcls_need {kd : Nat → Nat} {E W : Nat → Nat → Bool} {n m : Nat} {p : List Nat} {s : List (List Nat)} {u : List Nat} {f : Nat} (hW : rsnd kd E n W) (h : rinv kd E n (m + 1) (p :: s) u) (hf : f < n) (hu : f ∉ u) (hok : rok E f p) (hne : rsp kd E n m (rp kd f p ++ s) (f :: u) ≠ []) : rcls kd W n (p :: s) u f := by
  obtain ⟨pre, l, o', l', rfl, h1, h2, h3, hv, hm⟩ := rinv_ext h hf hu hok hne
  have hWv := hW _ _ hv
  have hfp : f ∉ pre := fun h9 => hu (List.mem_reverse.mpr h9)
  have hall := rfull n _ hv.2.1 hv.2.2.1 hv.2.2.2.1
  have hfst := rrun_fst kd _ _ _ hv.1
  have hnd : ((l ++ (f, p) :: l').map (·.1)).Nodup := by rw [hfst]; exact hv.2.1
  have hlpre := rrun_fst kd _ _ _ h2
  have hl'o := rrun_fst kd _ _ _ h3
  have hgp : rgood l p := rval_good hv.1 rfl
  have inPre : ∀ {x : Nat} {q : List Nat}, rgood l q → x ∈ q → x / 2 ∈ pre := by
    intro x q hq hx
    obtain ⟨new, pm, -, e2, -⟩ := rgood_mem hq hx
    have : x / 2 ∈ l.map (·.1) := List.mem_map.mpr ⟨_, e2, rfl⟩
    rw [hlpre] at this
    exact this
  have getP : ∀ g, g < n → ∃ pg, (g, pg) ∈ l ++ (f, p) :: l' := by
    intro g hg
    have h9 := hall g hg
    rw [← hfst] at h9
    obtain ⟨q, hq, rfl⟩ := List.mem_map.mp h9
    exact ⟨q.2, hq⟩
  -- a placed fragment's path holds no hole of f
  have noF : ∀ {g : Nat} {pg : List Nat} {i : Nat}, i < 2 → (g, pg) ∈ l → 2 * f + i ∉ pg := by
    intro g pg i hi hg hx
    have h9 := inPre (rval_good' h2 hg) hx
    rw [rhalf hi] at h9
    exact hfp h9
  refine ⟨hu, fun x hx => hWv (f, p) (List.mem_append_right _ List.mem_cons_self) x hx, ?_⟩
  split
  · rename_i hk
    intro g hg hgu ⟨x, hx1, hx2, hx3⟩
    apply Classical.byContradiction
    intro hgf
    obtain ⟨pg, hpg⟩ := getP g hg
    have hxg := hWv (g, pg) hpg x hx1
    have hgp' : g ∉ pre := fun h9 => hgu (List.mem_reverse.mpr h9)
    have hpg' : (g, pg) ∈ l' := by
      rcases List.mem_append.mp hpg with h9 | h9
      · exfalso
        have : g ∈ l.map (·.1) := List.mem_map.mpr ⟨_, h9, rfl⟩
        rw [hlpre] at this
        exact hgp' this
      · rcases List.mem_cons.mp h9 with h9 | h9
        · exact absurd (Prod.mk.inj h9).1 hgf
        · exact h9
    have hrp : rp kd f p ++ s = s := by
      unfold rp rh
      rw [if_pos hk]
      rfl
    rw [hrp] at h3
    have hxpre := inPre hgp hx2
    rcases rrun_in kd o' s l' h3 (g, pg) hpg' x hxg with ⟨r, hr, hxr⟩ | h9
    · cases s with
      | nil => cases hr
      | cons q s' => exact hx3 q rfl (hm.1 r hr x hx2 hxr q rfl)
    · have hnd2 := hv.2.1
      rw [List.nodup_append] at hnd2
      exact hnd2.2.2 _ hxpre _ (List.mem_cons_of_mem _ h9) rfl
  · intro g hg hgw
    have hex : ∃ i, i < 2 ∧ W (2 * f + i) g = true := hgw.elim (fun h9 => ⟨0, by decide, h9⟩) (fun h9 => ⟨1, by decide, h9⟩)
    obtain ⟨i, hi, hw⟩ := hex
    obtain ⟨pg, hpg⟩ := getP g hg
    have hin := hWv (g, pg) hpg _ hw
    have hgu : g ∉ pre := by
      intro h9
      rw [← hlpre] at h9
      obtain ⟨q, hq, rfl⟩ := List.mem_map.mp h9
      have e9 := nodup_uniq hnd hpg (List.mem_append_left _ hq : (q.1, q.2) ∈ _)
      rw [e9] at hin
      exact noF hi hq hin
    refine ⟨fun h9 => hgu (List.mem_reverse.mp h9), fun x hx ho => ?_⟩
    have hxg := hWv (g, pg) hpg x hx
    obtain ⟨new, pm, e1, e2, -⟩ := rgood_mem (rval_good' hv.1 hpg) hin
    rw [rhalf hi] at e2
    have e3 := nodup_uniq hnd e2 (List.mem_append_right _ List.mem_cons_self : (f, p) ∈ _)
    subst e3
    rw [e1] at hxg
    have hxu : x / 2 ∈ pre := List.mem_reverse.mp ho.1
    rcases List.mem_append.mp hxg with hxn | hxr
    · exfalso
      have hgx : x ∈ pg := by rw [e1]; exact List.mem_append_left _ hxn
      obtain ⟨n1, n2, rfl⟩ := List.append_of_mem hxn
      -- the fragment of x has a path with the hole of f
      have hg2 : rgood (l ++ (f, pm) :: l') (x :: (n2 ++ (2 * f + i) :: pm)) := by
        have h10 := rval_good' hv.1 hpg
        rw [e1] at h10
        have drop : ∀ (a b : List Nat), rgood (l ++ (f, pm) :: l') (a ++ b) → rgood (l ++ (f, pm) :: l') b := by
          intro a
          induction a with
          | nil => intro b hb; exact hb
          | cons y a ih => intro b hb; exact ih b hb.2
        have h11 := drop n1 (x :: n2 ++ (2 * f + i) :: pm) (by simpa using h10)
        exact h11
      have hmem := hg2.1
      rw [← hlpre] at hxu
      obtain ⟨q, hq, hq1⟩ := List.mem_map.mp hxu
      have hq' : (x / 2, q.2) ∈ l := by rw [← hq1]; exact hq
      have e9 := nodup_uniq hnd hmem (List.mem_append_left _ hq')
      refine noF hi hq' ?_
      rw [← e9]
      exact List.mem_append_right _ List.mem_cons_self
    · rcases List.mem_cons.mp hxr with rfl | hxp
      · exfalso
        rw [rhalf hi] at hxu
        exact hfp hxu
      · exact hxp
/-- THE CLASS' SEARCH lists what is to be listed -/
theorem rcls_eq {kd : Nat → Nat} {E W : Nat → Nat → Bool} {n : Nat} (hEW : ∀ x g, E x g = true → W x g = true) (hW : rsnd kd E n W) : rdf kd n (rcls kd W n) n [[]] [] = rsp kd E n n [[]] [] := by
  refine rdf_eq (rinv kd E n) (fun m p s u f _ _ hc => ⟨hc.1, fun x hx => hc.2.1 x (hEW x f hx)⟩) (fun m p s u f hi hf hu hok hne => rcls_need hW hi hf hu hok hne) (fun m p s u f hi hf hc => rinv_s hi hf hc.1 (fun x hx => hc.2.1 x (hEW x f hx))) n [[]] [] (rinv_0 kd E n)
/-- a fragment that wants itself, or the same in both holes: no reading -/
theorem rcon {kd : Nat → Nat} {E W : Nat → Nat → Bool} {n : Nat} (hW : rsnd kd E n W) {f g i : Nat} (hf : f < n) (hg : g < n) (hi : i < 2) (h : W (2 * f + i) f = true ∨ (W (2 * f) g = true ∧ W (2 * f + 1) g = true)) : rsp kd E n n [[]] [] = [] := by
  apply Classical.byContradiction
  intro hne
  obtain ⟨o, ho⟩ := List.exists_mem_of_ne_nil _ hne
  obtain ⟨e1, e2, e3, l, e4, e5⟩ := (rsp_mem kd E n n _ _ o).mp ho
  have hv : rval kd E n o l := ⟨e4, e2, e1, fun x hx => (e3 x hx).1, e5⟩
  have hWv := hW _ _ hv
  have hall := rfull n _ e2 e1 (fun x hx => (e3 x hx).1)
  have hfst := rrun_fst kd _ _ _ e4
  have hnd : (l.map (·.1)).Nodup := by rw [hfst]; exact e2
  have getP : ∀ g, g < n → ∃ pg, (g, pg) ∈ l := by
    intro g hg
    have h9 := hall g hg
    rw [← hfst] at h9
    obtain ⟨q, hq, rfl⟩ := List.mem_map.mp h9
    exact ⟨q.2, hq⟩
  -- no path holds a hole of its own fragment
  have own : ∀ {f : Nat} {p : List Nat} {i : Nat}, i < 2 → (f, p) ∈ l → 2 * f + i ∉ p := by
    intro f p i hi hp hx
    obtain ⟨l1, l2, rfl⟩ := List.append_of_mem hp
    obtain ⟨new, pm, -, h2, -⟩ := rgood_mem (rval_good e4 rfl) hx
    rw [rhalf hi] at h2
    have h3 := hnd
    rw [List.map_append, List.nodup_append] at h3
    exact h3.2.2 f (List.mem_map.mpr ⟨_, h2, rfl⟩) f (List.mem_map.mpr ⟨_, List.mem_cons_self, rfl⟩) rfl
  rcases h with h | ⟨h0, h1⟩
  · obtain ⟨p, hp⟩ := getP f hf
    exact own hi hp (hWv (f, p) hp _ h)
  · obtain ⟨pg, hpg⟩ := getP g hg
    obtain ⟨pf, hpf⟩ := getP f hf
    have m0 := hWv (g, pg) hpg _ h0
    have m1 := hWv (g, pg) hpg _ h1
    have two : ∀ {q : List Nat}, rgood l q → 2 * f + 0 ∈ q → 2 * f + 1 ∈ q → False := by
      intro q
      induction q with
      | nil => intro _ h0 _; cases h0
      | cons y q ih =>
        intro hq h0 h1
        rcases List.mem_cons.mp h0 with h0 | h0
        · rcases List.mem_cons.mp h1 with h1 | h1
          · omega
          · have e9 : (y / 2, q) ∈ l := hq.1
            rw [← h0, rhalf (by decide)] at e9
            exact own (by decide) e9 h1
        · rcases List.mem_cons.mp h1 with h1 | h1
          · have e9 : (y / 2, q) ∈ l := hq.1
            rw [← h1, rhalf (by decide)] at e9
            exact own (by decide) e9 h0
          · exact ih hq.2 h0 h1
    exact two (rval_good' e4 hpg) m0 m1
