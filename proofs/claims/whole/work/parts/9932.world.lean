/-! the world: what both sides hold between two calls -/
/-- the class -/
def Cw (L : Nat → Nat) (t e dm : Nat) (fc : Nat → Bool) (L' : Nat → Nat) (t' : Nat) (fs : List Fg) (cs : List (Nat × Nat)) (os : List (List Nat)) (s : Nat) (I : Nat → Nat → Int32) (J : Nat → Nat → Int64) : Prop :=
  (TX 1 L t I ∧ I 0 1 = nI t ∧ I 0 2 = nI e) ∧ (I 54 3 = nI dm ∧ 1 ≤ dm ∧ dm ≤ 3 ∧ Fct 55 45 fc I ∧ ∀ v, v < 6 → I 56 v = nI 0) ∧ MKs s I ∧
  (RD 2 L' fs I ∧ TX 3 L' t' I ∧ GS fs cs I ∧ I 35 1 = nI os.length) ∧
  ((fs = [] ∧ cs = [] ∧ os = [] ∧ ∃ b, I 46 3 = bI b) ∨ (Good L' t' fs ∧ os = RLs fs cs ∧ CSo fs cs ∧ Usd L' fs ∧ smL fs ≤ t' ∧ LSr fs cs I J ∧ (I 46 3 = nI 0 ∨ MWK fs cs I) ∧ TRc L' fs cs fc dm I))
/-- the reference -/
def Mw (L : Nat → Nat) (t e dm : Nat) (fc : Nat → Bool) (L' : Nat → Nat) (t' : Nat) (fs : List Fg) (cs : List (Nat × Nat)) (os : List (List Nat)) (I : Nat → Nat → Int32) : Prop :=
  (TX 61 L t I ∧ I 60 2 = nI t ∧ I 60 3 = nI e ∧ WD I) ∧ (I 60 48 = nI dm ∧ 1 ≤ dm ∧ dm ≤ 3 ∧ Fct 93 45 fc I) ∧
  (SMd L' t' fs I ∧ CMd cs I ∧ Edg (EP fs cs) I ∧ RSo fs os I) ∧
  ((fs = [] ∧ cs = [] ∧ os = [] ∧ ∃ b, I 60 32 = bI b) ∨ (Good L' t' fs ∧ os = RLs fs cs ∧ CSo fs cs ∧ Usd L' fs ∧ smL fs ≤ t' ∧ (I 60 32 = nI 0 ∨ (I 60 32 = nI 1 ∧ MSO fs cs I))))
/-- a sentence is there -/
def Snt (L' : Nat → Nat) (t' : Nat) (fs : List Fg) (cs : List (Nat × Nat)) (os : List (List Nat)) : Prop := Good L' t' fs ∧ os = RLs fs cs ∧ CSo fs cs ∧ Usd L' fs ∧ smL fs ≤ t'
section WO1
variable {L : Nat → Nat} {t e dm : Nat} {fc : Nat → Bool} {L' : Nat → Nat} {t' : Nat} {fs : List Fg} {cs : List (Nat × Nat)} {os : List (List Nat)} {s s' : Nat} {I I' : Nat → Nat → Int32} {J J' : Nat → Nat → Int64}
theorem Cw.n11 (h : Cw L t e dm fc L' t' fs cs os s I J) : fs.length ≤ 11 := by
  rcases h.2.2.2.2 with h1 | h1
  · rw [h1.1]; exact Nat.zero_le _
  · exact h1.1.le
theorem Cw.o720 (h : Cw L t e dm fc L' t' fs cs os s I J) : os.length ≤ 720 := by
  rcases h.2.2.2.2 with h1 | h1
  · rw [h1.2.2.1]; exact Nat.zero_le _
  · rw [h1.2.1]; exact RLs_le h1.1
theorem Cw.c6 (h : Cw L t e dm fc L' t' fs cs os s I J) : cs.length ≤ 6 := by
  rcases h.2.2.2.2 with h1 | h1
  · rw [h1.2.1]; exact Nat.zero_le _
  · exact h1.2.2.1.1
theorem Cw.p5 (h : Cw L t e dm fc L' t' fs cs os s I J) : (pls L' fs fs.length).length ≤ 5 := by
  rcases h.2.2.2.2 with h1 | h1
  · rw [h1.1]; exact Nat.zero_le _
  · exact h1.1.pls5
theorem Cw.sn (h : Cw L t e dm fc L' t' fs cs os s I J) (h0 : 0 < fs.length) : Snt L' t' fs cs os ∧ SN L' t' fs I ∧ LSr fs cs I J ∧ (I 46 3 = nI 0 ∨ MWK fs cs I) ∧ TRc L' fs cs fc dm I := by
  rcases h.2.2.2.2 with h1 | ⟨h1, h2, h3, h4, h5, h6, h7, h8⟩
  · rw [h1.1] at h0; exact absurd h0 (Nat.lt_irrefl 0)
  · exact ⟨⟨h1, h2, h3, h4, h5⟩, ⟨h.2.2.2.1.1, h1⟩, h6, h7, h8⟩
theorem Cw.so (h : Cw L t e dm fc L' t' fs cs os s I J) (h0 : 0 < os.length) : 0 < fs.length := by
  rcases h.2.2.2.2 with h1 | h1
  · rw [h1.2.2.1] at h0; exact absurd h0 (Nat.lt_irrefl 0)
  · exact h1.1.1
theorem Cw.kd (h : Cw L t e dm fc L' t' fs cs os s I J) : ∀ f, f < fs.length → I 4 f = nI (kdF fs f) ∧ kdF fs f < 6 := fun f hf => ⟨h.2.2.2.1.1.2.2.1 f hf, (h.sn (Nat.lt_of_le_of_lt (Nat.zero_le f) hf)).1.1.k6 hf⟩
theorem Cw.i21 (h : Cw L t e dm fc L' t' fs cs os s I J) : I 2 1 = nI fs.length := h.2.2.2.1.1.1
theorem Cw.i211 (h : Cw L t e dm fc L' t' fs cs os s I J) : I 2 11 = nI (pls L' fs fs.length).length := h.2.2.2.1.1.2.1
theorem Cw.i351 (h : Cw L t e dm fc L' t' fs cs os s I J) : I 35 1 = nI os.length := h.2.2.2.1.2.2.2
theorem Cw.i292 (h : Cw L t e dm fc L' t' fs cs os s I J) : I 29 2 = nI cs.length := h.2.2.2.1.2.2.1.2.1
/-- the sentence stays -/
theorem Cw.mk (h : Cw L t e dm fc L' t' fs cs os s I J) (h1 : ∀ c, c < 15 ∨ (28 < c ∧ c < 33) ∨ c = 35 ∨ (53 < c ∧ c < 57) → I' c = I c) (h2 : J' 36 = J 36) (hm : MKs s' I') (hs : fs = [] → ∃ b, I' 46 3 = bI b) (hg : Good L' t' fs → (I' 46 3 = nI 0 ∨ MWK fs cs I') ∧ TRc L' fs cs fc dm I') : Cw L t e dm fc L' t' fs cs os s' I' J' := by
  obtain ⟨⟨a1, a2, a3⟩, ⟨b1, b2, b3, b4, b5⟩, -, ⟨d1, d2, d3, d4⟩, w⟩ := h
  refine ⟨⟨a1.fr (h1 1 (by omega)), by rw [h1 0 (by omega)]; exact a2, by rw [h1 0 (by omega)]; exact a3⟩, ⟨by rw [h1 54 (by omega)]; exact b1, b2, b3, fun k hk => by rw [h1 55 (by omega)]; exact b4 k hk, fun v hv => by rw [h1 56 (by omega)]; exact b5 v hv⟩, hm, ⟨d1.fr (fun c x1 x2 => h1 c (by omega)), d2.fr (h1 3 (by omega)), d3.fr (fun c x1 x2 => h1 c (by omega)), by rw [h1 35 (by omega)]; exact d4⟩, ?_⟩
  rcases w with ⟨w1, w2, w3, w4⟩ | ⟨w1, w2, w3, w4, w5, w6, w7, w8⟩
  · exact Or.inl ⟨w1, w2, w3, hs w1⟩
  · exact Or.inr ⟨w1, w2, w3, w4, w5, w6.fr (by rw [h1 35 (by omega)]) h2, (hg w1).1, (hg w1).2⟩
theorem Cw.fr (h : Cw L t e dm fc L' t' fs cs os s I J) (h1 : ∀ c, c < 15 ∨ (28 < c ∧ c < 33) ∨ c = 35 ∨ (45 < c ∧ c < 58 ∧ c ≠ 48 ∧ c ≠ 53) → I' c = I c) (h2 : J' 36 = J 36) : Cw L t e dm fc L' t' fs cs os s I' J' := by
  refine h.mk (fun c hc => h1 c (by omega)) h2 (h.2.2.1.fr (by rw [h1 46 (by omega)]) (h1 51 (by omega)) (h1 52 (by omega))) (fun h0 => ?_) (fun h0 => ?_)
  · rw [h1 46 (by omega)]
    rcases h.2.2.2.2 with w | w
    · exact w.2.2.2
    · have := w.1.1; rw [h0] at this; exact absurd this (Nat.lt_irrefl 0)
  · obtain ⟨-, -, -, w4, w5⟩ := h.sn h0.1
    exact ⟨w4.elim (fun h9 => Or.inl (by rw [h1 46 (by omega)]; exact h9) ) (fun h9 => Or.inr (h9.fr (by rw [h1 46 (by omega)]) (fun c hc => h1 c (by omega)))), fun r hr => by rw [h1 57 (by omega)]; exact w5 r hr⟩
theorem Mw.n11 (h : Mw L t e dm fc L' t' fs cs os I) : fs.length ≤ 11 := by
  rcases h.2.2.2 with h1 | h1
  · rw [h1.1]; exact Nat.zero_le _
  · exact h1.1.le
theorem Mw.o720 (h : Mw L t e dm fc L' t' fs cs os I) : os.length ≤ 720 := by
  rcases h.2.2.2 with h1 | h1
  · rw [h1.2.2.1]; exact Nat.zero_le _
  · rw [h1.2.1]; exact RLs_le h1.1
theorem Mw.c6 (h : Mw L t e dm fc L' t' fs cs os I) : cs.length ≤ 6 := by
  rcases h.2.2.2 with h1 | h1
  · rw [h1.2.1]; exact Nat.zero_le _
  · exact h1.2.2.1.1
theorem Mw.p5 (h : Mw L t e dm fc L' t' fs cs os I) : (pls L' fs fs.length).length ≤ 5 := by
  rcases h.2.2.2 with h1 | h1
  · rw [h1.1]; exact Nat.zero_le _
  · exact h1.1.pls5
theorem Mw.sn (h : Mw L t e dm fc L' t' fs cs os I) (h0 : 0 < fs.length) : Snt L' t' fs cs os ∧ (I 60 32 = nI 0 ∨ (I 60 32 = nI 1 ∧ MSO fs cs I)) := by
  rcases h.2.2.2 with h1 | ⟨h1, h2, h3, h4, h5, h6⟩
  · rw [h1.1] at h0; exact absurd h0 (Nat.lt_irrefl 0)
  · exact ⟨⟨h1, h2, h3, h4, h5⟩, h6⟩
theorem Mw.so (h : Mw L t e dm fc L' t' fs cs os I) (h0 : 0 < os.length) : 0 < fs.length := by
  rcases h.2.2.2 with h1 | h1
  · rw [h1.2.2.1] at h0; exact absurd h0 (Nat.lt_irrefl 0)
  · exact h1.1.1
theorem Mw.k6 (h : Mw L t e dm fc L' t' fs cs os I) : ∀ f, f < fs.length → kF (nF fs f) < 6 := fun f hf => (h.sn (Nat.lt_of_le_of_lt (Nat.zero_le f) hf)).1.1.k6 hf
theorem Mw.mk (h : Mw L t e dm fc L' t' fs cs os I) (h1 : ∀ k, k = 2 ∨ k = 3 ∨ k = 16 ∨ k = 23 ∨ k = 26 ∨ k = 29 ∨ k = 48 → I' 60 k = I 60 k) (h2 : ∀ c, c = 61 ∨ (67 ≤ c ∧ c ≤ 79) ∨ c = 93 → I' c = I c) (hs : fs = [] → ∃ b, I' 60 32 = bI b) (hg : Good L' t' fs → I' 60 32 = nI 0 ∨ (I' 60 32 = nI 1 ∧ MSO fs cs I')) : Mw L t e dm fc L' t' fs cs os I' := by
  obtain ⟨⟨a1, a2, a3, a4⟩, ⟨b1, b2, b3, b4⟩, ⟨d1, d2, d3, d4⟩, w⟩ := h
  refine ⟨⟨a1.fr (h2 61 (by omega)), by rw [h1 2 (by omega)]; exact a2, by rw [h1 3 (by omega)]; exact a3, fun k hk => by rw [h2 67 (by omega)]; exact a4 k hk⟩, ⟨by rw [h1 48 (by omega)]; exact b1, b2, b3, fun k hk => by rw [h2 93 (by omega)]; exact b4 k hk⟩, ⟨d1.fr (h1 16 (by omega)) (h1 23 (by omega)) (fun c x1 x2 => h2 c (by omega)), ⟨by rw [h1 26 (by omega)]; exact d2.1, fun k hk => by rw [h2 76 (by omega), h2 77 (by omega)]; exact d2.2 k hk⟩, d3.fr (h2 75 (by omega)), d4.fr (h1 29 (by omega)) (h2 78 (by omega)) (h2 79 (by omega))⟩, ?_⟩
  rcases w with ⟨w1, w2, w3, w4⟩ | ⟨w1, w2, w3, w4, w5, w6⟩
  · exact Or.inl ⟨w1, w2, w3, hs w1⟩
  · exact Or.inr ⟨w1, w2, w3, w4, w5, hg w1⟩
theorem Mw.fr (h : Mw L t e dm fc L' t' fs cs os I) (h1 : ∀ k, k = 2 ∨ k = 3 ∨ k = 16 ∨ k = 23 ∨ k = 26 ∨ k = 29 ∨ k = 48 ∨ k = 32 → I' 60 k = I 60 k) (h2 : ∀ c, c = 61 ∨ (67 ≤ c ∧ c ≤ 79) ∨ c = 93 ∨ c = 88 ∨ c = 91 ∨ c = 92 → I' c = I c) : Mw L t e dm fc L' t' fs cs os I' := by
  refine h.mk (fun k hk => h1 k (by omega)) (fun c hc => h2 c (by omega)) (fun h0 => ?_) (fun h0 => ?_)
  · rw [h1 32 (by omega)]
    rcases h.2.2.2 with w | w
    · exact w.2.2.2
    · have := w.1.1; rw [h0] at this; exact absurd this (Nat.lt_irrefl 0)
  · rw [h1 32 (by omega)]
    exact (h.sn h0.1).2.elim Or.inl (fun h9 => Or.inr ⟨h9.1, h9.2.fr (fun c hc => h2 c (by omega))⟩)
/-- thrown is no part of the world -/
theorem Mw.s0 (h : Mw L t e dm fc L' t' fs cs os I) (v : Int32) : Mw L t e dm fc L' t' fs cs os (sf I 60 0 v) := h.fr (fun k hk => sf_nkD (by omega)) (fun c hc => sf_naD (by omega))
theorem Cw.m (h : Cw L t e dm fc L' t' fs cs os s I J) (h1 : ∀ c, c < 60 → I' c = I c) (h2 : J' 36 = J 36) : Cw L t e dm fc L' t' fs cs os s I' J' := h.fr (fun c hc => h1 c (by omega)) h2
theorem Mw.c (h : Mw L t e dm fc L' t' fs cs os I) (h1 : ∀ c, 60 ≤ c → I' c = I c) : Mw L t e dm fc L' t' fs cs os I' := h.fr (fun k hk => by rw [h1 60 (Nat.le_refl _)]) (fun c hc => h1 c (by omega))
end WO1
/-- the class' search numbers go on -/
def Cwq (L : Nat → Nat) (t e dm : Nat) (fc : Nat → Bool) (L' : Nat → Nat) (t' : Nat) (fs : List Fg) (cs : List (Nat × Nat)) (os : List (List Nat)) (s : Nat) (I : Nat → Nat → Int32) (J : Nat → Nat → Int64) : Prop := ∃ s', s' ≤ s + 1000 ∧ Cw L t e dm fc L' t' fs cs os s' I J
def okC (v : Value) (Q : (Nat → Nat → Int32) → (Nat → Nat → Int64) → Prop) (I : Nat → Nat → Int32) (J : Nat → Nat → Int64) (r : Option Value) (M : am_M) : Prop := r = some v ∧ ∃ I' J', M = (am_SH, I', J') ∧ (∀ c, 60 ≤ c → I' c = I c) ∧ (∀ a, a ≠ 36 → J' a = J a) ∧ Q I' J'
def noC (e : Nat) (Q : (Nat → Nat → Int32) → (Nat → Nat → Int64) → Prop) (I : Nat → Nat → Int32) (J : Nat → Nat → Int64) (x : Nat) (M : am_M) : Prop := x = e ∧ ∃ I' J', M = (am_SH, I', J') ∧ (∀ c, 60 ≤ c → I' c = I c) ∧ (∀ a, a ≠ 36 → J' a = J a) ∧ Q I' J'
def mdl (k : Nat) (v : Int32) (Q : (Nat → Nat → Int32) → Prop) (I : Nat → Nat → Int32) (J : Nat → Nat → Int64) (r : Option Value) (M : am_M) : Prop := (∃ w, r = some (.int w) ∧ (k = 0 → w = v)) ∧ ∃ I', M = (am_SH, I', J) ∧ (∀ c, c < 60 → I' c = I c) ∧ I' 60 0 = nI k ∧ Q I'
section WO2
variable {L : Nat → Nat} {t e dm : Nat} {fc : Nat → Bool} {L' : Nat → Nat} {t' : Nat} {fs : List Fg} {cs : List (Nat × Nat)} {os : List (List Nat)} {s s' : Nat} {I I' : Nat → Nat → Int32} {J J' : Nat → Nat → Int64}
theorem okC_s (h : Cw L t e dm fc L' t' fs cs os s I J) (v : Value) : okC v (Cwq L t e dm fc L' t' fs cs os s) I J (some v) (am_SH, I, J) := ⟨rfl, I, J, rfl, fun _ _ => rfl, fun _ _ => rfl, s, by omega, h⟩
theorem noC_s (h : Cw L t e dm fc L' t' fs cs os s I J) (x : Nat) : noC x (Cwq L t e dm fc L' t' fs cs os s) I J x (am_SH, I, J) := ⟨rfl, I, J, rfl, fun _ _ => rfl, fun _ _ => rfl, s, by omega, h⟩
theorem okC_y (h : Cw L t e dm fc L' t' fs cs os s I J) (hf : FrY I I') (v : Value) : okC v (Cwq L t e dm fc L' t' fs cs os s) I J (some v) (am_SH, I', J) := ⟨rfl, I', J, rfl, fun c hc => hf c (by omega), fun _ _ => rfl, s, by omega, h.fr (fun c hc => hf c (by omega)) rfl⟩
theorem noC_y (h : Cw L t e dm fc L' t' fs cs os s I J) (hf : FrY I I') (x : Nat) : noC x (Cwq L t e dm fc L' t' fs cs os s) I J x (am_SH, I', J) := ⟨rfl, I', J, rfl, fun c hc => hf c (by omega), fun _ _ => rfl, s, by omega, h.fr (fun c hc => hf c (by omega)) rfl⟩
/-- thrown is written, nothing else -/
theorem mdl_s (h : Mw L t e dm fc L' t' fs cs os I) (k : Nat) (v w : Int32) (hv : k = 0 → w = v) : mdl k v (Mw L t e dm fc L' t' fs cs os) I J (some (.int w)) (am_SH, sf I 60 0 (nI k), J) := ⟨⟨w, rfl, hv⟩, _, rfl, fun c hc => sf_naD (by omega), sf_eq I 60 0 _, h.s0 _⟩
end WO2
