/-! THE SPEC of the text's form -/
/-- a fragment: kind, variable (of a leaf: its first one), second variable of a leaf and 1 (0: none), place of the variable or of the name, the name's end, the atom's end -/
abbrev Fg : Type := Nat × Nat × Nat × Nat × Nat × Nat
abbrev kF (x : Fg) : Nat := x.1
abbrev vF (x : Fg) : Nat := x.2.1
abbrev wF (x : Fg) : Nat := x.2.2.1
abbrev aF (x : Fg) : Nat := x.2.2.2.1
abbrev bF (x : Fg) : Nat := x.2.2.2.2.1
abbrev cF (x : Fg) : Nat := x.2.2.2.2.2
def Fz : Fg := (0, 0, 0, 0, 0, 0)
/-- where the reader is, the fragments, quantifiers, negations -/
abbrev Ps : Type := Nat × List Fg × Nat × Nat
/-- 0: wrong, the place alone counts; 1: goes on; 2: the last item -/
abbrev Rs : Type := Nat × Ps
def rbad (a : Nat) : Rs := (0, a, [], 0, 0)
def isl (c : Nat) : Bool := decide (97 ≤ c ∧ c ≤ 122)
def isv (c : Nat) : Bool := decide (117 ≤ c ∧ c ≤ 122)
/-- the place behind the letters, at most so many -/
def nm (L : Nat → Nat) : Nat → Nat → Nat
  | a, 0 => a
  | a, k + 1 => if isl (L a) then nm L (a + 1) k else a
def weq (L : Nat → Nat) (a b : Nat) (l : List Nat) : Bool := decide (b - a = l.length) && (List.range l.length).all (fun k => decide (L (a + k) = l.getD k 0))
def wds : List (List Nat) := [[101, 118, 101, 114, 121], [115, 111, 109, 101], [110, 111], [109, 111, 115, 116], [110, 111, 116]]
def wk (L : Nat → Nat) (a b : Nat) : Nat := if weq L a b [101, 118, 101, 114, 121] then 1 else if weq L a b [115, 111, 109, 101] then 2 else if weq L a b [110, 111] then 3 else if weq L a b [109, 111, 115, 116] then 4 else if weq L a b [110, 111, 116] then 5 else 0
/-- the arguments behind a name: where it ends, whether it is right, and the variables -/
def arg (L : Nat → Nat) (a : Nat) : Bool × Nat × Nat × Nat :=
  if L a ≠ 40 then (false, a, 0, 0) else if !isv (L (a + 1)) then (false, a + 1, 0, 0) else
  if L (a + 2) = 44 then (if !isv (L (a + 3)) then (false, a + 3, 0, 0) else if L (a + 4) ≠ 41 then (false, a + 4, 0, 0) else (true, a + 5, L (a + 1) - 117, L (a + 3) - 116))
  else if L (a + 2) ≠ 41 then (false, a + 2, 0, 0) else (true, a + 3, L (a + 1) - 117, 0)
def lfF (L : Nat → Nat) (s e : Nat) : Fg := (0, (arg L e).2.2.1, (arg L e).2.2.2, s, e, (arg L e).2.1)
def itq (L : Nat → Nat) (pa : Nat) (fs : List Fg) (q ng k e : Nat) : Rs :=
  if 4 ≤ q ∨ L e ≠ 32 then rbad e else if isv (L (e + 1)) = false then rbad (e + 1) else if L (e + 2) ≠ 58 then rbad (e + 2) else
  if nm L (e + 3) 5 = e + 3 then rbad (e + 3) else if (arg L (nm L (e + 3) 5)).1 = false then rbad (arg L (nm L (e + 3) 5)).2.1 else if L (arg L (nm L (e + 3) 5)).2.1 ≠ 59 then rbad (arg L (nm L (e + 3) 5)).2.1 else
  (1, (arg L (nm L (e + 3) 5)).2.1 + 1, fs ++ [(k, L (e + 1) - 117, 0, e + 1, 0, 0)] ++ [lfF L (e + 3) (nm L (e + 3) 5)], q + 1, ng)
def itm (L : Nat → Nat) (t pa : Nat) (fs : List Fg) (q ng : Nat) : Rs :=
  if nm L pa 5 = pa then rbad pa else
  if L (nm L pa 5) = 40 then (if (arg L (nm L pa 5)).1 = true ∧ (arg L (nm L pa 5)).2.1 = t then (2, (arg L (nm L pa 5)).2.1, fs ++ [lfF L pa (nm L pa 5)], q, ng) else rbad (arg L (nm L pa 5)).2.1) else
  if wk L pa (nm L pa 5) = 0 then rbad (nm L pa 5) else
  if wk L pa (nm L pa 5) = 5 then (if 2 ≤ ng ∨ L (nm L pa 5) ≠ 59 then rbad (nm L pa 5) else (1, nm L pa 5 + 1, fs ++ [(5, 0, 0, 0, 0, 0)], q, ng + 1)) else
  itq L pa fs q ng (wk L pa (nm L pa 5)) (nm L pa 5)
def frm (L : Nat → Nat) (t : Nat) : Nat → Ps → Rs
  | 0, s => rbad s.1
  | k + 1, s => if (itm L t s.1 s.2.1 s.2.2.1 s.2.2.2).1 = 1 then frm L t k (itm L t s.1 s.2.1 s.2.2.1 s.2.2.2).2 else itm L t s.1 s.2.1 s.2.2.1 s.2.2.2
def Ps0 : Ps := (0, [], 0, 0)
/-- a text in a cell -/
def TX (c : Nat) (L : Nat → Nat) (t : Nat) (I : Nat → Nat → Int32) : Prop := t ≤ 100 ∧ (∀ k, k < t → I c k = nI (L k) ∧ 32 ≤ L k ∧ L k ≤ 126) ∧ ∀ k, t ≤ k → L k = 0
def lI (c : Nat) : Int32 := if c = 0 then -1 else nI c
theorem lI_eq {x c : Nat} (hx : x < 127) (hc : 0 < c) (hc' : c < 127) : (lI x = nI c) = (x = c) := by
  unfold lI
  apply propext
  by_cases h : x = 0
  · rw [if_pos h, nI_m1' (by omega)]
    constructor
    · exact False.elim
    · intro h0; omega
  · rw [if_neg h, nI_eq (by omega) (by omega)]
theorem lI_ge {x c : Nat} (hx : x < 127) (hc : 0 < c) (hc' : c < 127) : (nI c ≤ lI x) = (c ≤ x) := by
  unfold lI
  apply propext
  by_cases h : x = 0
  · rw [if_pos h]
    constructor
    · intro h0
      exact absurd (Int32.le_trans (nI_pos' (n := c) (by omega)) h0) (by decide)
    · intro h0; omega
  · rw [if_neg h, nI_leI (by omega) (by omega)]
theorem lI_le {x c : Nat} (hx : x < 127) (hc : 0 < c) (hc' : c < 127) : (lI x ≤ nI c) = (x ≤ c) := by
  unfold lI
  apply propext
  by_cases h : x = 0
  · rw [if_pos h]
    constructor
    · intro h0; omega
    · intro h0
      exact Int32.le_trans (by decide : (-1 : Int32) ≤ 0) (nI_pos' (n := c) (by omega))
  · rw [if_neg h, nI_leI (by omega) (by omega)]
theorem lI_lt {x c : Nat} (hx : x < 127) (hc : 0 < c) (hc' : c < 127) : (lI x < nI c) = (x < c) := by
  rw [← Int32.not_le, lI_ge hx hc hc', Nat.not_le]
theorem lI_gt {x c : Nat} (hx : x < 127) (hc : 0 < c) (hc' : c < 127) : (nI c < lI x) = (c < x) := by
  rw [← Int32.not_le, lI_le hx hc hc', Nat.not_le]
theorem TX.lt {c : Nat} {L : Nat → Nat} {t : Nat} {I : Nat → Nat → Int32} (h : TX c L t I) (k : Nat) : L k < 127 := by
  by_cases hk : k < t
  · have := (h.2.1 k hk).2.2; omega
  · rw [h.2.2 k (by omega)]; decide
theorem TX.pos {c : Nat} {L : Nat → Nat} {t : Nat} {I : Nat → Nat → Int32} (h : TX c L t I) {k : Nat} (hk : 0 < L k) : k < t := by
  apply Classical.byContradiction
  intro h0
  rw [h.2.2 k (by omega)] at hk
  omega
theorem TX.get {c : Nat} {L : Nat → Nat} {t : Nat} {I : Nat → Nat → Int32} (h : TX c L t I) {k : Nat} (hk : k < t) : I c k = lI (L k) := by
  have h1 := h.2.1 k hk
  unfold lI
  rw [h1.1, if_neg (by omega)]
theorem TX.fr {c : Nat} {L : Nat → Nat} {t : Nat} {I I' : Nat → Nat → Int32} (h : TX c L t I) (h2 : I' c = I c) : TX c L t I' := ⟨h.1, fun k hk => by rw [h2]; exact h.2.1 k hk, h.2.2⟩
theorem isl_pos {c : Nat} (h : isl c = true) : 97 ≤ c ∧ c ≤ 122 := by simpa [isl] using h
theorem isv_pos {c : Nat} (h : isv c = true) : 117 ≤ c ∧ c ≤ 122 := by simpa [isv] using h
theorem nm_le (L : Nat → Nat) : ∀ k a, a ≤ nm L a k ∧ nm L a k ≤ a + k
  | 0, a => by simp [nm]
  | k + 1, a => by
    unfold nm
    split
    · have := nm_le L k (a + 1); omega
    · omega
theorem nm_isl (L : Nat → Nat) : ∀ k a j, a ≤ j → j < nm L a k → isl (L j) = true
  | 0, a, j, h1, h2 => by simp [nm] at h2; omega
  | k + 1, a, j, h1, h2 => by
    unfold nm at h2
    split at h2
    · rename_i hl
      by_cases hj : j = a
      · rw [hj]; exact hl
      · exact nm_isl L k (a + 1) j (by omega) h2
    · omega
theorem TX.nmle {c : Nat} {L : Nat → Nat} {t : Nat} {I : Nat → Nat → Int32} (h : TX c L t I) {a : Nat} (ha : a ≤ t) (k : Nat) : nm L a k ≤ t := by
  by_cases h0 : nm L a k = a
  · omega
  · have h1 := nm_le L k a
    have h2 := isl_pos (nm_isl L k a (nm L a k - 1) (by omega) (by omega))
    have h3 := h.pos (k := nm L a k - 1) (by omega)
    omega
