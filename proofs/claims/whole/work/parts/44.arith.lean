/-! arithmetic of small ints, side goals by omega -/
theorem nI_clampD {n : Nat} (h : n < 2147483648) : (nI n).toNatClampNeg = n := nI_clamp h
theorem nI_leT {a b : Nat} (h : a ≤ b) (hb : b < 2147483648) : (nI a ≤ nI b) = True := eq_true (nI_le h hb)
theorem nI_leF {a b : Nat} (h : b < a) (hb : a < 2147483648) : (nI a ≤ nI b) = False := eq_false (nI_ge h hb)
theorem nI_ltT {a b : Nat} (h : a < b) (hb : b < 2147483648) : (nI a < nI b) = True := eq_true (nI_lt h hb)
theorem nI_ltF {a b : Nat} (h : b ≤ a) (hb : a < 2147483648) : (nI a < nI b) = False := eq_false (nI_nlt h hb)
theorem nI_eqT {a b : Nat} (h : a = b) : (nI a = nI b) = True := eq_true (by rw [h])
theorem nI_eqF {a b : Nat} (h : a ≠ b) (ha : a < 2147483648) (hb : b < 2147483648) : (nI a = nI b) = False := eq_false (fun h0 => h ((nI_eq ha hb).mp h0))
theorem nI_lt0F {n : Nat} (h : n < 2147483648) : (nI n < 0) = False := eq_false (nI_pos h)
theorem nI_0leT {n : Nat} (h : n < 2147483648) : (0 ≤ nI n) = True := eq_true (nI_pos' h)
theorem nI_eq0T {n : Nat} (h : n = 0) : (nI n = 0) = True := eq_true (by rw [h, nI_0])
theorem nI_eq0F {n : Nat} (h0 : 0 < n) (h : n < 2147483648) : (nI n = 0) = False := eq_false (nI_ne0 h0 h)
theorem nI_0ltT {n : Nat} (h0 : 0 < n) (h : n < 2147483648) : (0 < nI n) = True := eq_true (by rw [← nI_0]; exact nI_lt h0 h)
theorem nI_0ltF {n : Nat} (h0 : n = 0) : (0 < nI n) = False := eq_false (by rw [h0, nI_0]; decide)
theorem nI_le0T {n : Nat} (h0 : n = 0) : (nI n ≤ 0) = True := eq_true (by rw [h0, nI_0]; decide)
theorem nI_le0F {n : Nat} (h0 : 0 < n) (h : n < 2147483648) : (nI n ≤ 0) = False := eq_false (nI_nle h0 h)
theorem nI_m1 {n : Nat} (h : n < 2147483648) : (nI n = -1) = False := eq_false (fun h0 => by
  have h1 := nI_pos' (n := n) h
  rw [h0] at h1
  exact absurd h1 (by decide))
theorem nI_m1' {n : Nat} (h : n < 2147483648) : (-1 = nI n) = False := eq_false (fun h0 => of_eq_false (nI_m1 h) h0.symm)
theorem m1_m1 : ((-1 : Int32) = -1) = True := eq_self _
theorem m1_lt : ((-1 : Int32) < 0) = True := by decide
theorem m1_le : ((0 : Int32) ≤ -1) = False := by decide
theorem nI_mul (a b : Nat) : nI a * nI b = nI (a * b) := (Int32.ofNat_mul a b).symm
theorem nI_sub {a b : Nat} (h : b ≤ a) : nI a - nI b = nI (a - b) := by
  have h1 : nI (a - b) + nI b = nI a := by rw [nI_add, Nat.sub_add_cancel h]
  rw [← h1]
  exact Int32.add_sub_cancel _ _
theorem nI_dec {a : Nat} (h : 0 < a) : nI a + Int32.ofInt (-1) = nI (a - 1) := by
  have h1 : nI (a - 1) + nI 1 = nI a := by rw [nI_add, Nat.sub_add_cancel h]
  rw [← h1, Int32.add_assoc, show nI 1 + Int32.ofInt (-1) = 0 by decide, Int32.add_zero]
theorem nI_div {a b : Nat} (ha : a < 2147483648) (hb : b < 2147483648) : nI a / nI b = nI (a / b) := by
  apply Int32.toInt_inj.mp
  rw [Int32.toInt_div_of_ne_left, nI_toInt ha, nI_toInt hb, nI_toInt (Nat.lt_of_le_of_lt (Nat.div_le_self _ _) ha)]
  · rw [Int.ofNat_tdiv]
  · intro h0
    have h1 := nI_pos' (n := a) ha
    rw [h0] at h1
    exact absurd h1 (by decide)
theorem nI_mod {a b : Nat} (ha : a < 2147483648) (hb : b < 2147483648) : nI a - nI a / nI b * nI b = nI (a % b) := by
  have h2 : a / b * b ≤ a := Nat.div_mul_le_self a b
  rw [nI_div ha hb, nI_mul, nI_sub h2]
  congr 1
  have := Nat.div_add_mod a b
  rw [Nat.mul_comm] at this
  omega
theorem vp_inD {k n : Nat} (h : k < n) (hn : n < 2147483648) : vp_in (nI k) n = True := eq_true (vp_in_nI h hn)
theorem sf_nkD {I : Nat → Nat → Int32} {a k : Nat} {v : Int32} {j : Nat} (h : j ≠ k) : sf I a k v a j = I a j := sf_nk (eq_false h)
theorem sf_eqD {I : Nat → Nat → Int32} {a k : Nat} {v : Int32} {j : Nat} (h : j = k) : sf I a k v a j = v := by rw [h, sf_eq]
theorem sf_naD {I : Nat → Nat → Int32} {a k : Nat} {v : Int32} {b : Nat} (h : b ≠ a) : sf I a k v b = I b := sf_na (eq_false h)
/-- one bit of an int -/
def ib (x : Int32) (i : Nat) : Bool := x.toBitVec.getLsbD i
theorem ib_or (x y : Int32) (i : Nat) : ib (x ||| y) i = (ib x i || ib y i) := by simp [ib]
theorem ib_and (x y : Int32) (i : Nat) : ib (x &&& y) i = (ib x i && ib y i) := by simp [ib]
theorem ib_xm (x : Int32) {i : Nat} (h : i < 32) : ib (x ^^^ -1) i = !(ib x i) := by
  have e : (-1 : Int32).toBitVec = BitVec.allOnes 32 := by decide
  simp [ib, e, h]
theorem ib_0 (i : Nat) : ib 0 i = false := by simp [ib]
theorem ib_ext {x y : Int32} (h : ∀ i, i < 32 → ib x i = ib y i) : x = y := by
  apply Int32.toBitVec_inj.mp
  apply BitVec.eq_of_getLsbD_eq
  intro i hi
  exact h i hi
theorem ib_shl {k : Nat} (hk : k < 31) (i : Nat) : ib (nI 1 <<< (nI k &&& 31)) i = decide (i = k) := by
  have : ∀ k, k < 31 → (nI 1 <<< (nI k &&& 31)).toBitVec = BitVec.twoPow 32 k := by decide +kernel
  unfold ib
  rw [this k hk, BitVec.getLsbD_twoPow]
  by_cases h : i = k
  · subst h; simp; omega
  · simp [h]
    exact fun _ h0 => h h0.symm
theorem ib_shr {k : Nat} (hk : k < 31) (x : Int32) : ((x >>> (nI k &&& 31)) &&& nI 1 = 0) = (ib x k = false) := by
  have hb : ∀ k, k < 31 → ((nI k &&& 31).toBitVec.smod 32).toNat = k := by decide +kernel
  have hone : ∀ i, i < 32 → ib (nI 1) i = decide (i = 0) := by decide +kernel
  have hs : ib (x >>> (nI k &&& 31)) 0 = ib x k := by
    unfold ib
    rw [Int32.toBitVec_shiftRight]
    rw [BitVec.sshiftRight_eq', hb k hk, BitVec.getLsbD_sshiftRight]
    simp
    omega
  apply propext
  constructor
  · intro h
    have h1 := congrArg (fun z => ib z 0) h
    simp only [ib_and, ib_0, hs, hone 0 (by decide)] at h1
    simpa using h1
  · intro h
    apply ib_ext
    intro i hi
    rw [ib_and, ib_0, hone i hi]
    by_cases h0 : i = 0
    · subst h0; rw [hs, h]; rfl
    · simp [h0]
theorem ib_nc {x y : Int32} : (x &&& (y ^^^ -1) = 0) = ∀ i, i < 32 → ib x i = true → ib y i = true := by
  apply propext
  constructor
  · intro h i hi hx
    have h1 := congrArg (fun z => ib z i) h
    simp only [ib_and, ib_0, ib_xm y hi, hx] at h1
    simpa using h1
  · intro h
    apply ib_ext
    intro i hi
    rw [ib_and, ib_0, ib_xm y hi]
    cases hx : ib x i
    · rfl
    · rw [h i hi hx]; rfl
theorem ib_an {x y : Int32} : (x &&& y = 0) = ∀ i, i < 32 → ib x i = true → ib y i = false := by
  apply propext
  constructor
  · intro h i hi hx
    have h1 := congrArg (fun z => ib z i) h
    simp only [ib_and, ib_0, hx] at h1
    simpa using h1
  · intro h
    apply ib_ext
    intro i hi
    rw [ib_and, ib_0]
    cases hx : ib x i
    · rfl
    · rw [h i hi hx]; rfl
