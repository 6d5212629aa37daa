/-! calls that never throw -/
def DsI (g : am_G) (mx mi : Nat) (I : Nat → Nat → Int32) (J : Nat → Nat → Int64) (S : Nat) : Prop :=
  ∃ v : Int32, am_Ctr g am_mt 1 1000 mx [.ref 0] (am_SH, I, J) 0 0 (fun r M => r = some (.int v) ∧ ∃ I1 J1, M = (am_SH, I1, J1) ∧
    am_Ctr g am_mt 1 1000 mi [.ref 60] (am_SH, I1, J1) 0 0 (fun r M => r = some (.int v) ∧ ∃ I2, M = (am_SH, I2, J1) ∧ Wld S I2 J1))
def DsJ (g : am_G) (mx mi : Nat) (I : Nat → Nat → Int32) (J : Nat → Nat → Int64) (S : Nat) : Prop :=
  ∃ v : Int64, am_Ctr g am_mt 1 1000 mx [.ref 0] (am_SH, I, J) 0 0 (fun r M => r = some (.long v) ∧ ∃ I1 J1, M = (am_SH, I1, J1) ∧
    am_Ctr g am_mt 1 1000 mi [.ref 60] (am_SH, I1, J1) 0 0 (fun r M => r = some (.long v) ∧ ∃ I2, M = (am_SH, I2, J1) ∧ Wld S I2 J1))
section DIR
variable (g : am_G) {L : Nat → Nat} {t e dm : Nat} {fc : Nat → Bool} {L' : Nat → Nat} {t' : Nat} {fs : List Fg} {cs : List (Nat × Nat)} {os : List (List Nat)} {s : Nat} {I : Nat → Nat → Int32} {J : Nat → Nat → Int64} (S : Nat)
theorem st_errorKind (hS : s + 1000 ≤ S) (hC : Cw L t e dm fc L' t' fs cs os s I J) (hM : Mw L t e dm fc L' t' fs cs os I) : DsI g 93 151 I J S := by
  have h1 := hC.1.2.2
  have h2 := hM.1.2.2.1
  refine ⟨nI e, (c_X9_errorKind g 999 I J).imp ?_⟩
  rintro r M ⟨rfl, rfl⟩
  refine ⟨by rw [h1], I, J, rfl, (c_X10_errorKind g 999 I J).imp ?_⟩
  rintro r M ⟨rfl, rfl⟩
  exact ⟨by rw [h2], _, rfl, s, by omega, L, t, e, dm, fc, L', t', fs, cs, os, hC.m (fun c hc => sf_naD (by omega)) rfl, hM.s0 _⟩
theorem st_fragments (hS : s + 1000 ≤ S) (hC : Cw L t e dm fc L' t' fs cs os s I J) (hM : Mw L t e dm fc L' t' fs cs os I) : DsI g 94 158 I J S := by
  have h1 := hC.i21
  have h2 := hM.2.2.1.1.1
  refine ⟨nI fs.length, (c_X9_fragments g 999 I J).imp ?_⟩
  rintro r M ⟨rfl, rfl⟩
  refine ⟨by rw [h1], I, J, rfl, (c_X10_fragments g 999 I J).imp ?_⟩
  rintro r M ⟨rfl, rfl⟩
  exact ⟨by rw [h2], _, rfl, s, by omega, L, t, e, dm, fc, L', t', fs, cs, os, hC.m (fun c hc => sf_naD (by omega)) rfl, hM.s0 _⟩
theorem st_predicates (hS : s + 1000 ≤ S) (hC : Cw L t e dm fc L' t' fs cs os s I J) (hM : Mw L t e dm fc L' t' fs cs os I) : DsI g 113 201 I J S := by
  have h1 := hC.i211
  have h2 := hM.2.2.1.1.2.2.1
  refine ⟨nI (pls L' fs fs.length).length, (c_X9_predicates g 999 I J).imp ?_⟩
  rintro r M ⟨rfl, rfl⟩
  refine ⟨by rw [h1], I, J, rfl, (c_X10_predicates g 999 I J).imp ?_⟩
  rintro r M ⟨rfl, rfl⟩
  exact ⟨by rw [h2], _, rfl, s, by omega, L, t, e, dm, fc, L', t', fs, cs, os, hC.m (fun c hc => sf_naD (by omega)) rfl, hM.s0 _⟩
theorem st_clearText (hS : s + 1000 ≤ S) (hC : Cw L t e dm fc L' t' fs cs os s I J) (hM : Mw L t e dm fc L' t' fs cs os I) : DsI g 91 135 I J S := by
  have h1 := hC.1.2.1
  have h2 := hM.1.2.1
  refine ⟨nI t, (c_X9_clearText g 999 I J).imp ?_⟩
  rintro r M ⟨rfl, rfl⟩
  refine ⟨by rw [h1], _, J, rfl, (c_X10_clearText g 999 _ J).imp ?_⟩
  rintro r M ⟨rfl, rfl⟩
  have nc : ∀ c, c ≠ 0 → c ≠ 60 → sf (sf (sf I 0 1 (nI 0)) 60 0 (nI 0)) 60 2 (nI 0) c = I c := fun c x1 x2 => by rw [sf_naD x2, sf_naD x2, sf_naD x1]
  have n0 : sf (sf (sf I 0 1 (nI 0)) 60 0 (nI 0)) 60 2 (nI 0) 0 = sf I 0 1 (nI 0) 0 := by rw [sf_naD (by decide), sf_naD (by decide)]
  have nk : ∀ k, k ≠ 0 → k ≠ 2 → sf (sf (sf I 0 1 (nI 0)) 60 0 (nI 0)) 60 2 (nI 0) 60 k = I 60 k := fun k x1 x2 => by rw [sf_nkD x2, sf_nkD x1, sf_naD (by decide)]
  refine ⟨by rw [sf_naD (by decide), h2], _, rfl, s, by omega, L0, 0, e, dm, fc, L', t', fs, cs, os, ?_, ?_⟩
  · obtain ⟨⟨a1, a2, a3⟩, ⟨b1, b2, b3, b4, b5⟩, bm, ⟨d1, d2, d3, d4⟩, w⟩ := hC
    refine ⟨⟨TX_0 _ _, by rw [n0, sf_eq], by rw [n0, sf_nkD (by decide)]; exact a3⟩, ⟨by rw [nc 54 (by decide) (by decide)]; exact b1, b2, b3, fun k hk => by rw [nc 55 (by decide) (by decide)]; exact b4 k hk, fun v hv => by rw [nc 56 (by decide) (by decide)]; exact b5 v hv⟩, bm.fr (by rw [nc 46 (by decide) (by decide)]) (nc 51 (by decide) (by decide)) (nc 52 (by decide) (by decide)), ⟨d1.fr (fun c x1 x2 => nc c (by omega) (by omega)), d2.fr (nc 3 (by decide) (by decide)), d3.fr (fun c x1 x2 => nc c (by omega) (by omega)), by rw [nc 35 (by decide) (by decide)]; exact d4⟩, ?_⟩
    rw [nc 46 (by decide) (by decide)]
    rcases w with w | ⟨w1, w2, w3, w4, w5, w6, w7, w8⟩
    · exact Or.inl w
    · exact Or.inr ⟨w1, w2, w3, w4, w5, w6.fr (by rw [nc 35 (by decide) (by decide)]) rfl, w7.elim Or.inl (fun h9 => Or.inr (h9.fr (by rw [nc 46 (by decide) (by decide)]) (fun c hc => nc c (by omega) (by omega)))), fun r hr => by rw [nc 57 (by decide) (by decide)]; exact w8 r hr⟩
  · obtain ⟨⟨a1, a2, a3, a4⟩, ⟨b1, b2, b3, b4⟩, ⟨d1, d2, d3, d4⟩, w⟩ := hM
    refine ⟨⟨TX_0 _ _, sf_eq _ _ _ _, by rw [nk 3 (by decide) (by decide)]; exact a3, fun k hk => by rw [nc 67 (by decide) (by decide)]; exact a4 k hk⟩, ⟨by rw [nk 48 (by decide) (by decide)]; exact b1, b2, b3, fun k hk => by rw [nc 93 (by decide) (by decide)]; exact b4 k hk⟩, ⟨d1.fr (nk 16 (by decide) (by decide)) (nk 23 (by decide) (by decide)) (fun c x1 x2 => nc c (by omega) (by omega)), ⟨by rw [nk 26 (by decide) (by decide)]; exact d2.1, fun k hk => by rw [nc 76 (by decide) (by decide), nc 77 (by decide) (by decide)]; exact d2.2 k hk⟩, d3.fr (nc 75 (by decide) (by decide)), d4.fr (nk 29 (by decide) (by decide)) (nc 78 (by decide) (by decide)) (nc 79 (by decide) (by decide))⟩, ?_⟩
    rw [nk 32 (by decide) (by decide)]
    rcases w with w | ⟨w1, w2, w3, w4, w5, w6⟩
    · exact Or.inl w
    · exact Or.inr ⟨w1, w2, w3, w4, w5, w6.elim Or.inl (fun h9 => Or.inr ⟨h9.1, h9.2.fr (fun c hc => nc c (by omega) (by omega))⟩)⟩
theorem st_readSentence (hS : s + 1000 ≤ S) (hC : Cw L t e dm fc L' t' fs cs os s I J) (hM : Mw L t e dm fc L' t' fs cs os I) : DsI g 92 149 I J S := by
  have ht := hC.1.1
  by_cases hx : (frm L t 7 Ps0).1 = 2
  · have hG := frm_7good ht.2.2 ht.1 hx
    have hNV := NV_of hG (frm_N5 7 Ps0 (fun _ h9 => absurd h9 List.not_mem_nil))
    have hub := uer_le hG hNV
    by_cases hu : uer L (frm L t 7 Ps0).2.2.1 (frm L t 7 Ps0).2.2.1.length = 0
    · refine ⟨nI (frm L t 7 Ps0).2.2.1.length, (c0_readSentence g 983 hC hx hu).imp ?_⟩
      rintro r M ⟨rfl, I1, J1, rfl, f1, f2, f3⟩
      refine ⟨rfl, I1, J1, rfl, (m0_readSentence g 994 J1 (hM.c f1) hx hu).imp ?_⟩
      rintro r M ⟨rfl, I2, rfl, q1, q2⟩
      exact ⟨rfl, I2, rfl, s, by omega, _, _, _, _, _, _, _, _, _, _, f3.m q1 rfl, q2⟩
    · refine ⟨-1 - nI (uer L (frm L t 7 Ps0).2.2.1 (frm L t 7 Ps0).2.2.1.length - 1), (c2_readSentence g 983 hC hx (by omega) (by omega)).imp ?_⟩
      rintro r M ⟨rfl, I1, J1, rfl, f1, f2, f3⟩
      refine ⟨rfl, I1, J1, rfl, (m2_readSentence g 994 J1 (hM.c f1) hx (by omega) (by omega)).imp ?_⟩
      rintro r M ⟨rfl, I2, rfl, q1, q2⟩
      exact ⟨rfl, I2, rfl, s, by omega, _, _, _, _, _, _, _, _, _, _, f3.m q1 rfl, q2⟩
  · refine ⟨-1 - nI (frm L t 7 Ps0).2.1, (c1_readSentence g 983 hC hx).imp ?_⟩
    rintro r M ⟨rfl, I1, J1, rfl, f1, f2, f3⟩
    refine ⟨rfl, I1, J1, rfl, (m1_readSentence g 994 J1 (hM.c f1) hx).imp ?_⟩
    rintro r M ⟨rfl, I2, rfl, q1, q2⟩
    exact ⟨rfl, I2, rfl, s, by omega, _, _, _, _, _, _, _, _, _, _, f3.m q1 rfl, q2⟩
theorem st_fingerprint (hS : s + 1000 ≤ S) (hs9 : s < 1000000000) (hC : Cw L t e dm fc L' t' fs cs os s I J) (hM : Mw L t e dm fc L' t' fs cs os I) : DsJ g 119 211 I J S := by
  refine ⟨fR fs.length os.length os (clN (RLs fs cs).length (SRo fs cs)) (fun r => pB (WKo (RLs fs cs).length (SRo fs cs) r)) (fun r => TRU L' fs fc dm (os.getD r [])) (min os.length 50), (cy_fingerprint g 973 hC hs9).imp ?_⟩
  rintro r M ⟨rfl, I1, J1, rfl, f1, f2, s', f3, f4⟩
  refine ⟨rfl, I1, J1, rfl, (my_fingerprint g 992 J1 (hM.c f1)).imp ?_⟩
  rintro r M ⟨rfl, I2, rfl, q1, q2⟩
  exact ⟨rfl, I2, rfl, s', by omega, _, _, _, _, _, _, _, _, _, _, f4.m q1 rfl, q2⟩
end DIR
