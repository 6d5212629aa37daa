/-! the memory after a store -/
def sf (I : Nat → Nat → Int32) (a k : Nat) (v : Int32) : Nat → Nat → Int32 := am_rs I a (upd (I a) k v)
def sj (J : Nat → Nat → Int64) (a k : Nat) (v : Int64) : Nat → Nat → Int64 := am_rs J a (vp_updL (J a) k v)
theorem sf_SH (I : Nat → Nat → Int32) (J : Nat → Nat → Int64) (a k : Nat) (v : Int32) : am_puti (am_SH, I, J) a k v = (am_SH, sf I a k v, J) := rfl
theorem sj_SH (I : Nat → Nat → Int32) (J : Nat → Nat → Int64) (a k : Nat) (v : Int64) : am_putj (am_SH, I, J) a k v = (am_SH, I, sj J a k v) := rfl
theorem sf_app (I : Nat → Nat → Int32) (a k : Nat) (v : Int32) (b j : Nat) : sf I a k v b j = if b = a ∧ j = k then v else I b j := by
  unfold sf am_rs upd
  by_cases hb : b = a
  · subst hb
    by_cases hj : j = k
    · simp [hj]
    · simp [hj]
  · simp [hb]
theorem sf_eq (I : Nat → Nat → Int32) (a k : Nat) (v : Int32) : sf I a k v a k = v := by rw [sf_app, if_pos ⟨rfl, rfl⟩]
theorem sf_nk {I : Nat → Nat → Int32} {a k : Nat} {v : Int32} {j : Nat} (h : (j = k) = False) : sf I a k v a j = I a j := by rw [sf_app, if_neg (fun h0 => of_eq_false h h0.2)]
theorem sf_na {I : Nat → Nat → Int32} {a k : Nat} {v : Int32} {b : Nat} (h : (b = a) = False) : sf I a k v b = I b := by
  funext j
  rw [sf_app, if_neg (fun h0 => of_eq_false h h0.1)]
theorem sf_sf (I : Nat → Nat → Int32) (a k : Nat) (v w : Int32) : sf (sf I a k v) a k w = sf I a k w := by
  funext b j
  rw [sf_app, sf_app, sf_app]
  by_cases h : b = a ∧ j = k
  · rw [if_pos h, if_pos h]
  · rw [if_neg h, if_neg h, if_neg h]
theorem sf_self (I : Nat → Nat → Int32) (a k : Nat) : sf I a k (I a k) = I := by
  funext b j
  rw [sf_app]
  by_cases h : b = a ∧ j = k
  · rw [if_pos h, h.1, h.2]
  · rw [if_neg h]
theorem sj_app (J : Nat → Nat → Int64) (a k : Nat) (v : Int64) (b j : Nat) : sj J a k v b j = if b = a ∧ j = k then v else J b j := by
  unfold sj am_rs vp_updL
  by_cases hb : b = a
  · subst hb
    by_cases hj : j = k
    · simp [hj]
    · simp [hj]
  · simp [hb]
theorem am_args_n (i : Nat) : lv_args i [] = [] := rfl
theorem am_args_i (i : Nat) (x : Int32) (r : List Value) : lv_args i (.int x :: r) = (i, .int x) :: lv_args (i + 1) r := rfl
theorem am_args_r (i : Nat) (x : Nat) (r : List Value) : lv_args i (.ref x :: r) = (i, .ref x) :: lv_args (i + 1) r := rfl
theorem am_args_j (i : Nat) (x : Int64) (r : List Value) : lv_args i (.long x :: r) = (i, .long x) :: lv_args (i + 2) r := rfl
def bI (b : Bool) : Int32 := if b then nI 1 else nI 0
theorem bI_t : bI true = nI 1 := rfl
theorem bI_f : bI false = nI 0 := rfl
theorem bI_01 (b : Bool) : bI b = 0 ∨ bI b = 1 := by cases b <;> decide +kernel
theorem bI_eq0 (b : Bool) : (bI b = 0) = (b = false) := by cases b <;> (apply propext; decide +kernel)
theorem nI1_01 : (nI 1 = 0 ∨ nI 1 = 1) = True := eq_true (Or.inr (by decide +kernel))
theorem nI0_01 : (nI 0 = 0 ∨ nI 0 = 1) = True := eq_true (Or.inl (by decide +kernel))
theorem nI_eq0 {n : Nat} (h : n < 2 ^ 31) : (nI n = 0) = (n = 0) := propext ⟨fun h0 => (nI_eq h (by decide)).mp (by rw [h0, nI_0]), fun h0 => by rw [h0, nI_0]⟩
theorem nI_lt0 {n : Nat} (h : n < 2 ^ 31) : (nI n < 0) = False := eq_false (nI_pos h)
theorem nI_0le {n : Nat} (h : n < 2 ^ 31) : (0 ≤ nI n) = True := eq_true (nI_pos' h)
theorem nI_clampS {n N : Nat} (h : n < N) (hN : N < 2 ^ 31) : (nI n).toNatClampNeg = n := nI_clamp (Nat.lt_trans h hN)
theorem m1_clamp (x : Int32) (n : Nat) : vp_in x n → ∃ k, k < n ∧ x.toNatClampNeg = k := fun h => ⟨_, Nat.not_le.mp fun q => h (Or.inr q), rfl⟩
