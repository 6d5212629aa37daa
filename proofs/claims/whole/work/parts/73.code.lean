/-! orders as numbers -/
def n16 : Nat → List Nat → Nat
  | a, [] => a
  | a, f :: o => n16 (16 * a + f) o
theorem n16_app : ∀ (o o' : List Nat) (a : Nat), n16 a (o ++ o') = n16 (n16 a o) o'
  | [], _, _ => rfl
  | f :: o, o', a => n16_app o o' (16 * a + f)
theorem n16_eq : ∀ (o : List Nat) (a : Nat), n16 a o = a * 16 ^ o.length + n16 0 o
  | [], a => by simp [n16]
  | f :: o, a => by
    show n16 (16 * a + f) o = a * 16 ^ (o.length + 1) + n16 (16 * 0 + f) o
    rw [n16_eq o (16 * a + f), n16_eq o (16 * 0 + f), Nat.pow_succ, Nat.add_mul, Nat.add_mul, Nat.mul_zero, Nat.zero_mul, Nat.zero_add, Nat.mul_comm 16 a, Nat.mul_assoc, Nat.mul_comm 16, Nat.add_assoc]
theorem n16_lt : ∀ (o : List Nat), (∀ f ∈ o, f < 16) → n16 0 o < 16 ^ o.length
  | [], _ => by simp [n16]
  | f :: o, h => by
    show n16 (16 * 0 + f) o < 16 ^ (o.length + 1)
    have h1 := n16_lt o (fun g hg => h g (List.mem_cons_of_mem _ hg))
    have h2 := h f List.mem_cons_self
    rw [n16_eq o (16 * 0 + f), Nat.pow_succ, Nat.mul_zero, Nat.zero_add]
    have h3 : f * 16 ^ o.length ≤ 15 * 16 ^ o.length := Nat.mul_le_mul (by omega) (Nat.le_refl _)
    omega
theorem n16_lt' {o : List Nat} (h : ∀ f ∈ o, f < 16) (hl : o.length ≤ 11) : n16 0 o < 17592186044416 := by
  have h1 := n16_lt o h
  have h2 : 16 ^ o.length ≤ 16 ^ 11 := Nat.pow_le_pow_right (by decide) hl
  have h3 : (16 : Nat) ^ 11 = 17592186044416 := by decide
  omega
/-- the figure at a place -/
theorem n16_at (o1 o2 : List Nat) (f : Nat) (h2 : ∀ g ∈ o2, g < 16) (hf : f < 16) : n16 0 (o1 ++ f :: o2) / 16 ^ o2.length % 16 = f := by
  rw [n16_app]
  show n16 (16 * n16 0 o1 + f) o2 / 16 ^ o2.length % 16 = f
  rw [n16_eq o2]
  have h1 := n16_lt o2 h2
  have hp : 0 < 16 ^ o2.length := Nat.pow_pos (by decide)
  rw [Nat.mul_comm, Nat.mul_add_div hp, Nat.div_eq_of_lt h1, Nat.add_zero]
  omega
theorem ex_n {a f : Nat} (ha : a < 72057594037927936) (hf : f < 16) : ex (Int64.ofNat a) f = Int64.ofNat (16 * a + f) := by
  have h1 : ∀ f, f < 16 → (nI f).toInt64.toBitVec = BitVec.ofNat 64 f := by decide +kernel
  have h2 : (((nI 4).toInt64 &&& 63).toBitVec.smod 64).toNat = 4 := by decide +kernel
  unfold ex
  apply Int64.toBitVec_inj.mp
  rw [Int64.toBitVec_or, Int64.toBitVec_shiftLeft, h1 f hf, BitVec.shiftLeft_eq', h2]
  apply BitVec.eq_of_toNat_eq
  rw [BitVec.toNat_or, BitVec.toNat_shiftLeft]
  have e1 : (Int64.ofNat a).toBitVec = BitVec.ofNat 64 a := rfl
  have e2 : (Int64.ofNat (16 * a + f)).toBitVec = BitVec.ofNat 64 (16 * a + f) := rfl
  rw [e1, e2, BitVec.toNat_ofNat, BitVec.toNat_ofNat, BitVec.toNat_ofNat]
  rw [Nat.mod_eq_of_lt (show a < 2 ^ 64 by omega), Nat.mod_eq_of_lt (show f < 2 ^ 64 by omega), Nat.mod_eq_of_lt (show 16 * a + f < 2 ^ 64 by omega)]
  have e3 : a <<< 4 = 16 * a := by rw [Nat.shiftLeft_eq]; omega
  rw [Nat.mod_eq_of_lt (by rw [e3]; omega), ← Nat.shiftLeft_add_eq_or_of_lt (show f < 2 ^ 4 by omega), e3]
theorem cd_n : ∀ (o : List Nat) (a k : Nat), (∀ f ∈ o, f < 16) → a < 16 ^ k → k + o.length ≤ 14 → cd (Int64.ofNat a) o = Int64.ofNat (n16 a o)
  | [], _, _, _, _, _ => rfl
  | f :: o, a, k, h, ha, hk => by
    rw [List.length_cons] at hk
    have h3 : (16 : Nat) ^ k ≤ 16 ^ 14 := Nat.pow_le_pow_right (by decide) (by omega)
    have h4 : (16 : Nat) ^ 14 = 72057594037927936 := by decide
    have hf := h f List.mem_cons_self
    show cd (ex (Int64.ofNat a) f) o = Int64.ofNat (n16 (16 * a + f) o)
    rw [ex_n (by omega) hf]
    refine cd_n o (16 * a + f) (k + 1) (fun g hg => h g (List.mem_cons_of_mem _ hg)) ?_ (by omega)
    rw [Nat.pow_succ]
    omega
theorem cd_0 {o : List Nat} (h : ∀ f ∈ o, f < 16) (hl : o.length ≤ 11) : cd (Int64.ofNat 0) o = Int64.ofNat (n16 0 o) := cd_n o 0 0 h (by decide) (by omega)
theorem shr_n {v s : Nat} (hv : v < 1152921504606846976) (hs : s < 63) : Int64.ofNat v >>> ((nI s).toInt64 &&& 63) = Int64.ofNat (v / 2 ^ s) := by
  have h1 : ∀ s, s < 63 → (((nI s).toInt64 &&& 63).toBitVec.smod 64).toNat = s := by decide +kernel
  apply Int64.toBitVec_inj.mp
  rw [Int64.toBitVec_shiftRight, BitVec.sshiftRight_eq', h1 s hs]
  have e1 : (Int64.ofNat v).toBitVec = BitVec.ofNat 64 v := rfl
  have e2 : (Int64.ofNat (v / 2 ^ s)).toBitVec = BitVec.ofNat 64 (v / 2 ^ s) := rfl
  have e3 : (BitVec.ofNat 64 v).toNat = v := by rw [BitVec.toNat_ofNat, Nat.mod_eq_of_lt (by omega)]
  rw [e1, e2, BitVec.sshiftRight_eq_of_msb_false (BitVec.msb_eq_false_iff_two_mul_lt.mpr (by rw [e3]; omega))]
  apply BitVec.eq_of_toNat_eq
  have hle : v / 2 ^ s ≤ v := Nat.div_le_self _ _
  rw [BitVec.toNat_ushiftRight, e3, Nat.shiftRight_eq_div_pow, BitVec.toNat_ofNat, Nat.mod_eq_of_lt (by omega)]
theorem and15_n {v : Nat} : (Int64.ofNat v).toInt32 &&& nI 15 = nI (v % 16) := by
  rw [Int64.toInt32_ofNat']
  apply Int32.toBitVec_inj.mp
  rw [Int32.toBitVec_and]
  have e1 : (Int32.ofNat v).toBitVec = BitVec.ofNat 32 v := rfl
  have e2 : (nI (v % 16)).toBitVec = BitVec.ofNat 32 (v % 16) := rfl
  have e3 : (nI 15).toBitVec = BitVec.ofNat 32 15 := rfl
  rw [e1, e2, e3]
  apply BitVec.eq_of_toNat_eq
  rw [BitVec.toNat_and, BitVec.toNat_ofNat, BitVec.toNat_ofNat, BitVec.toNat_ofNat]
  have h15 : 15 % 2 ^ 32 = 2 ^ 4 - 1 := by decide
  rw [h15, Nat.and_two_pow_sub_one_eq_mod, Nat.mod_eq_of_lt (show v % 16 < 2 ^ 32 by omega)]
  omega
/-- the class takes an order apart -/
theorem lay_n {o : List Nat} (h : ∀ f ∈ o, f < 11) (hl : o.length ≤ 11) {k : Nat} (hk : k < o.length) : (cd (Int64.ofNat 0) o >>> ((nI (4 * (o.length - 1 - k))).toInt64 &&& 63)).toInt32 &&& nI 15 = nI (o.getD k 0) := by
  have h16 : ∀ f ∈ o, f < 16 := fun f hf => by have := h f hf; omega
  have hb := n16_lt' h16 hl
  rw [cd_0 h16 hl, shr_n (by omega) (by omega), and15_n]
  congr 1
  have hd : o = o.take k ++ o.getD k 0 :: o.drop (k + 1) := by
    rw [List.getD_eq_getElem?_getD, List.getElem?_eq_getElem hk]
    exact (by rw [Option.getD_some, ← List.drop_eq_getElem_cons hk, List.take_append_drop])
  have hlen : (o.drop (k + 1)).length = o.length - 1 - k := by rw [List.length_drop]; omega
  have h1 := n16_at (o.take k) (o.drop (k + 1)) (o.getD k 0) (fun g hg => h16 g (List.mem_of_mem_drop hg)) (h16 _ (gD_mem hk))
  rw [← hd, hlen] at h1
  rw [Nat.pow_mul]
  exact h1
/-- orders of one length: the first difference decides -/
theorem n16_lex {a f f' : Nat} {o o' : List Nat} (hl : o.length = o'.length) (hf : f < f') (h : ∀ g ∈ o, g < 16) : n16 a (f :: o) < n16 a (f' :: o') := by
  show n16 (16 * a + f) o < n16 (16 * a + f') o'
  rw [n16_eq o, n16_eq o', hl]
  have h1 := n16_lt o h
  rw [hl] at h1
  have h2 : (16 * a + f + 1) * 16 ^ o'.length ≤ (16 * a + f') * 16 ^ o'.length := Nat.mul_le_mul (by omega) (Nat.le_refl _)
  rw [Nat.add_mul (16 * a + f) 1, Nat.one_mul] at h2
  omega
theorem n16_inj : ∀ {o o' : List Nat} (a : Nat), o.length = o'.length → (∀ f ∈ o, f < 16) → (∀ f ∈ o', f < 16) → n16 a o = n16 a o' → o = o'
  | [], [], _, _, _, _, _ => rfl
  | [], _ :: _, _, hl, _, _, _ => by cases hl
  | _ :: _, [], _, hl, _, _, _ => by cases hl
  | f :: o, f' :: o', a, hl0, h, h', he => by
    have hl : o.length = o'.length := Nat.succ.inj hl0
    clear hl0
    have hff : f = f' := by
      rcases Nat.lt_trichotomy f f' with h9 | h9 | h9
      · have := n16_lex (a := a) hl h9 (fun g hg => h g (List.mem_cons_of_mem _ hg)); omega
      · exact h9
      · have := n16_lex (a := a) hl.symm h9 (fun g hg => h' g (List.mem_cons_of_mem _ hg)); omega
    subst hff
    rw [n16_inj (16 * a + f) hl (fun g hg => h g (List.mem_cons_of_mem _ hg)) (fun g hg => h' g (List.mem_cons_of_mem _ hg)) he]
/-- the readings are sorted -/
theorem rsp_sort (kd : Nat → Nat) (E : Nat → Nat → Bool) (n : Nat) (hn : n ≤ 16) : ∀ (m : Nat) (s : List (List Nat)) (u : List Nat) (a : Nat), (rsp kd E n m s u).Pairwise (fun o o' => n16 a o < n16 a o')
  | 0, _, _, _ => by simp [rsp]
  | m + 1, [], _, _ => by simp [rsp]
  | m + 1, p :: s, u, a => by
    have ih := fun f => rsp_sort kd E n hn m (rp kd f p ++ s) (f :: u)
    have hmem := fun f o => (rsp_mem kd E n m (rp kd f p ++ s) (f :: u) o).mp
    simp only [rsp]
    rw [List.pairwise_flatMap]
    refine ⟨fun f _ => ?_, List.pairwise_lt_range.imp (fun {f f'} hff o ho o' ho' => ?_)⟩
    · split
      · rw [List.pairwise_map]
        exact ih f (16 * a + f)
      · exact List.Pairwise.nil
    · split at ho
      · split at ho'
        · obtain ⟨o1, h1, rfl⟩ := List.mem_map.mp ho
          obtain ⟨o2, h2, rfl⟩ := List.mem_map.mp ho'
          have g1 := hmem f o1 h1
          have g2 := hmem f' o2 h2
          exact n16_lex (by rw [g1.1, g2.1]) hff (fun g hg => by have := (g1.2.2.1 g hg).1; omega)
        · cases ho'
      · cases ho
section CO1
variable {L : Nat → Nat} {t : Nat} {fs : List Fg} {cs : List (Nat × Nat)}
theorem RLs_mem {o : List Nat} (h : o ∈ RLs fs cs) : o.length = fs.length ∧ o.Nodup ∧ (∀ f ∈ o, f < fs.length) ∧ ∃ l, rrun (kdF fs) [[]] o = some l ∧ rval (kdF fs) (eE fs cs) fs.length o l := by
  obtain ⟨h1, h2, h3, l, h4, h5⟩ := (rsp_mem _ _ _ _ _ _ o).mp h
  exact ⟨h1, h2, fun f hf => (h3 f hf).1, l, h4, h4, h2, h1, fun f hf => (h3 f hf).1, h5⟩
theorem RLs_of {o : List Nat} {l : List (Nat × List Nat)} (h : rval (kdF fs) (eE fs cs) fs.length o l) : o ∈ RLs fs cs := (rsp_mem _ _ _ _ _ _ o).mpr ⟨h.2.2.1, h.2.1, fun f hf => ⟨h.2.2.2.1 f hf, fun h0 => (by cases h0)⟩, l, h.1, h.2.2.2.2⟩
theorem RLs_get {k : Nat} (hk : k < (RLs fs cs).length) : (RLs fs cs).getD k [] ∈ RLs fs cs := by
  rw [List.getD_eq_getElem?_getD, List.getElem?_eq_getElem hk]
  exact List.getElem_mem _
theorem RLs_lt (hn : fs.length ≤ 11) {i j : Nat} (hij : i < j) (hj : j < (RLs fs cs).length) : n16 0 ((RLs fs cs).getD i []) < n16 0 ((RLs fs cs).getD j []) := by
  have h1 := List.pairwise_iff_getElem.mp (rsp_sort (kdF fs) (eE fs cs) fs.length (by omega) fs.length [[]] [] 0) i j (by show i < (RLs fs cs).length; omega) hj hij
  rw [List.getD_eq_getElem?_getD, List.getD_eq_getElem?_getD, List.getElem?_eq_getElem hj, List.getElem?_eq_getElem (show i < (RLs fs cs).length by omega)]
  exact h1
theorem RLs_inj (hn : fs.length ≤ 11) {i j : Nat} (hi : i < (RLs fs cs).length) (hj : j < (RLs fs cs).length) (h : (RLs fs cs).getD i [] = (RLs fs cs).getD j []) : i = j := by
  rcases Nat.lt_trichotomy i j with h9 | h9 | h9
  · have := RLs_lt hn h9 hj; rw [h] at this; omega
  · exact h9
  · have := RLs_lt hn h9 hi; rw [h] at this; omega
end CO1
