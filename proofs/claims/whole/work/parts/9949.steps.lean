/-! one call of both sides -/
theorem am_CtrX.imp {g : am_G} {mt : List am_MI} {ph k mi mc ms : Nat} {av : List Value} {M : am_M} {P P' : Option Value → am_M → Prop} {X : Nat → am_M → Prop} (h : am_CtrX g mt ph k mi av M mc ms P X) (hp : ∀ r M, P r M → P' r M) : am_CtrX g mt ph k mi av M mc ms P' X := by
  obtain ⟨q, hq, hm⟩ := h
  refine ⟨q, hq, ?_⟩
  intro p e ha hc hk s m args below hf happ hP hK
  obtain ⟨n, o, h1, h2, h3, h4⟩ := hm p e ha hc hk s m args below hf happ hP hK
  refine ⟨n, o, h1, h2, h3, ?_⟩
  rcases h4 with ⟨⟨⟨r, M', z1, z2, z3⟩, z4⟩, z5⟩ | h4
  · exact Or.inl ⟨⟨⟨r, M', z1, hp _ _ z2, z3⟩, z4⟩, z5⟩
  · exact Or.inr h4
/-- the world, with at most so many searches -/
def Wld (S : Nat) (I : Nat → Nat → Int32) (J : Nat → Nat → Int64) : Prop := ∃ s, s ≤ S ∧ ∃ L t e dm fc L' t' fs cs os, Cw L t e dm fc L' t' fs cs os s I J ∧ Mw L t e dm fc L' t' fs cs os I
def Stq (g : am_G) (mw mi : Nat) (av : List Value) (I : Nat → Nat → Int32) (J : Nat → Nat → Int64) (S : Nat) (cmp : Int64 → Int32 → Prop) : Prop :=
  ∃ k w mc ms, k < 3 ∧ mc ≤ 1 ∧ ms ≤ 6 ∧ am_Ctr g am_mt 1 1000 mw (.ref 0 :: (av ++ [.ref 95])) (am_SH, I, J) mc ms (fun r M => r = some (.int (nI k)) ∧ ∃ I1 J1, M = (am_SH, I1, J1) ∧ (k = 0 → J1 95 0 = w) ∧
    am_Ctr g am_mt 1 1000 mi (.ref 60 :: av) (am_SH, I1, J1) 0 0 (fun r M => ∃ v, r = some (.int v) ∧ (k = 0 → cmp w v) ∧ ∃ I2, M = (am_SH, I2, J1) ∧ I2 60 0 = nI k ∧ Wld S I2 J1))
def cmpI (w : Int64) (v : Int32) : Prop := w = v.toInt64
def cmpB (w : Int64) (v : Int32) : Prop := ∃ b, w = bJ b ∧ v = bI b
theorem sj_95 (J : Nat → Nat → Int64) (w : Int64) : sj J 95 0 w 95 0 = w := by rw [sj_app, if_pos ⟨rfl, rfl⟩]
theorem sj_36 (J : Nat → Nat → Int64) (w : Int64) : sj J 95 0 w 36 = J 36 := by
  funext j
  rw [sj_app, if_neg (fun h => absurd h.1 (by decide))]
section STP
variable {g : am_G} {mw mi : Nat} {av : List Value} {L : Nat → Nat} {t e dm : Nat} {fc : Nat → Bool} {L' : Nat → Nat} {t' : Nat} {fs : List Fg} {cs : List (Nat × Nat)} {os : List (List Nat)} {s S : Nat} {I : Nat → Nat → Int32} {J : Nat → Nat → Int64}
theorem Stq_ok {v : Int32} (hS : s + 1000 ≤ S) (hW : am_Ctr g am_mt 1 1000 mw (.ref 0 :: (av ++ [.ref 95])) (am_SH, I, J) 0 0 (wOk v.toInt64 (Cwq L t e dm fc L' t' fs cs os s) I J)) (hM : ∀ I1 J1, (∀ c, 60 ≤ c → I1 c = I c) → am_Ctr g am_mt 1 1000 mi (.ref 60 :: av) (am_SH, I1, J1) 0 0 (mdl 0 v (Mw L t e dm fc L' t' fs cs os) I1 J1)) : Stq g mw mi av I J S cmpI := by
  refine ⟨0, v.toInt64, 0, 0, by decide, by decide, by decide, hW.imp ?_⟩
  rintro r M ⟨rfl, I', J1, rfl, f1, f2, s', f3, f4⟩
  refine ⟨rfl, I', _, rfl, fun _ => sj_95 _ _, (hM I' _ f1).imp ?_⟩
  rintro r M ⟨⟨w, rfl, hw⟩, I2, rfl, q1, q2, q3⟩
  exact ⟨w, rfl, fun _ => by rw [hw rfl]; rfl, I2, rfl, q2, s', by omega, L, t, e, dm, fc, L', t', fs, cs, os, f4.m q1 (sj_36 _ _), q3⟩
theorem Stq_okB {b : Bool} (hS : s + 1000 ≤ S) (hW : am_Ctr g am_mt 1 1000 mw (.ref 0 :: (av ++ [.ref 95])) (am_SH, I, J) 0 0 (wOk (bJ b) (Cwq L t e dm fc L' t' fs cs os s) I J)) (hM : ∀ I1 J1, (∀ c, 60 ≤ c → I1 c = I c) → am_Ctr g am_mt 1 1000 mi (.ref 60 :: av) (am_SH, I1, J1) 0 0 (mdl 0 (bI b) (Mw L t e dm fc L' t' fs cs os) I1 J1)) : Stq g mw mi av I J S cmpB := by
  refine ⟨0, bJ b, 0, 0, by decide, by decide, by decide, hW.imp ?_⟩
  rintro r M ⟨rfl, I', J1, rfl, f1, f2, s', f3, f4⟩
  refine ⟨rfl, I', _, rfl, fun _ => sj_95 _ _, (hM I' _ f1).imp ?_⟩
  rintro r M ⟨⟨w, rfl, hw⟩, I2, rfl, q1, q2, q3⟩
  exact ⟨w, rfl, fun _ => ⟨b, rfl, hw rfl⟩, I2, rfl, q2, s', by omega, L, t, e, dm, fc, L', t', fs, cs, os, f4.m q1 (sj_36 _ _), q3⟩
theorem Stq_no {cmp : Int64 → Int32 → Prop} (k : Nat) (v : Int32) (hS : s + 1000 ≤ S) (h0 : k ≠ 0) (h3 : k < 3) (hW : am_Ctr g am_mt 1 1000 mw (.ref 0 :: (av ++ [.ref 95])) (am_SH, I, J) 1 6 (wNo k (Cwq L t e dm fc L' t' fs cs os s) I J)) (hM : ∀ I1 J1, (∀ c, 60 ≤ c → I1 c = I c) → am_Ctr g am_mt 1 1000 mi (.ref 60 :: av) (am_SH, I1, J1) 0 0 (mdl k v (Mw L t e dm fc L' t' fs cs os) I1 J1)) : Stq g mw mi av I J S cmp := by
  refine ⟨k, 0, 1, 6, h3, by decide, by decide, hW.imp ?_⟩
  rintro r M ⟨rfl, I', J1, rfl, f1, f2, s', f3, f4⟩
  refine ⟨rfl, I', J1, rfl, fun h9 => absurd h9 h0, (hM I' _ f1).imp ?_⟩
  rintro r M ⟨⟨w, rfl, hw⟩, I2, rfl, q1, q2, q3⟩
  exact ⟨w, rfl, fun h9 => absurd h9 h0, I2, rfl, q2, s', by omega, L, t, e, dm, fc, L', t', fs, cs, os, f4.m q1 rfl, q3⟩
end STP
section STE
variable (g : am_G) {L : Nat → Nat} {t e dm : Nat} {fc : Nat → Bool} {L' : Nat → Nat} {t' : Nat} {fs : List Fg} {cs : List (Nat × Nat)} {os : List (List Nat)} {s : Nat} {I : Nat → Nat → Int32} {J : Nat → Nat → Int64} (S : Nat)
theorem nneg {y : Int32} (h : ¬ y < 0) : ∃ k, k < 2147483648 ∧ y = nI k := ⟨y.toNatClampNeg, Int32.toNatClampNeg_lt y, (Int32.ofNat_toNatClampNeg y (Int32.not_lt.mp h)).symm⟩
def upL (L : Nat → Nat) (t d : Nat) : Nat → Nat := fun k => if k = t then d else L k
theorem TX.type {c : Nat} {L : Nat → Nat} {t d : Nat} {I I' : Nat → Nat → Int32} (h : TX c L t I) (ht : t < 100) (h1 : 32 ≤ d) (h2 : d ≤ 126) (hI : ∀ k, I' c k = if k = t then nI d else I c k) : TX c (upL L t d) (t + 1) I' := by
  refine ⟨by omega, fun k hk => ?_, fun k hk => ?_⟩
  · unfold upL
    rw [hI]
    by_cases hkt : k = t
    · rw [if_pos hkt, if_pos hkt]; exact ⟨rfl, h1, h2⟩
    · rw [if_neg hkt, if_neg hkt]; exact h.2.1 k (by omega)
  · unfold upL
    rw [if_neg (by omega)]
    exact h.2.2 k (by omega)
theorem st_type (hS : s + 1000 ≤ S) (hs9 : s < 1000000000) (hC : Cw L t e dm fc L' t' fs cs os s I J) (hM : Mw L t e dm fc L' t' fs cs os I) (x : Int32) : Stq g 212 134 [.int x] I J S cmpI := by
  by_cases hx : ∃ d, 32 ≤ d ∧ d ≤ 126 ∧ x = nI d
  · obtain ⟨d, h1, h2, rfl⟩ := hx
    have ht := hC.1.1.1
    by_cases ht2 : t < 100
    · refine Stq_ok (L := upL L t d) (t := t + 1) (e := e) (dm := dm) (fc := fc) (L' := L') (t' := t') (fs := fs) (cs := cs) (os := os) (s := s) (v := nI (t + 1)) hS (wy_type g 999 (nI d) ((cy_type g 998 hC d h1 h2 ht2).imp ?_)) (fun I1 J1 hf => (my_type g 996 J1 (hM.c hf) d h1 h2 ht2).imp ?_)
      · rintro r M ⟨rfl, rfl⟩
        refine ⟨rfl, _, _, rfl, fun c hc => by rw [sf_naD (by omega), sf_naD (by omega)], fun _ _ => rfl, s, by omega, ?_⟩
        obtain ⟨⟨a1, a2, a3⟩, ⟨b1, b2, b3, b4, b5⟩, bm, ⟨d1, d2, d3, d4⟩, w⟩ := hC
        have nc : ∀ c, c ≠ 0 → c ≠ 1 → sf (sf I 1 t (nI d)) 0 1 (nI (t + 1)) c = I c := fun c x1 x2 => by rw [sf_naD x1, sf_naD x2]
        refine ⟨⟨a1.type ht2 h1 h2 (fun k => by rw [sf_naD (by decide), sf_if]), sf_eq _ _ _ _, by rw [sf_nkD (by decide), sf_naD (by decide)]; exact a3⟩, ⟨by rw [nc 54 (by decide) (by decide)]; exact b1, b2, b3, fun k hk => by rw [nc 55 (by decide) (by decide)]; exact b4 k hk, fun v hv => by rw [nc 56 (by decide) (by decide)]; exact b5 v hv⟩, bm.fr (by rw [nc 46 (by decide) (by decide)]) (nc 51 (by decide) (by decide)) (nc 52 (by decide) (by decide)), ⟨d1.fr (fun c x1 x2 => nc c (by omega) (by omega)), d2.fr (nc 3 (by decide) (by decide)), d3.fr (fun c x1 x2 => nc c (by omega) (by omega)), by rw [nc 35 (by decide) (by decide)]; exact d4⟩, ?_⟩
        rw [nc 46 (by decide) (by decide)]
        rcases w with w | ⟨w1, w2, w3, w4, w5, w6, w7, w8⟩
        · exact Or.inl w
        · exact Or.inr ⟨w1, w2, w3, w4, w5, w6.fr (by rw [nc 35 (by decide) (by decide)]) rfl, w7.elim Or.inl (fun h9 => Or.inr (h9.fr (by rw [nc 46 (by decide) (by decide)]) (fun c hc => nc c (by omega) (by omega)))), fun r hr => by rw [nc 57 (by decide) (by decide)]; exact w8 r hr⟩
      · rintro r M ⟨rfl, rfl⟩
        have hM1 := hM.c hf
        refine ⟨⟨_, rfl, fun _ => rfl⟩, _, rfl, fun c hc => by rw [sf_naD (by omega), sf_naD (by omega), sf_naD (by omega)], by rw [sf_nkD (by decide), sf_naD (by decide), sf_eq], ?_⟩
        obtain ⟨⟨a1, a2, a3, a4⟩, ⟨b1, b2, b3, b4⟩, ⟨d1, d2, d3, d4⟩, w⟩ := hM1
        have nc : ∀ c, c ≠ 60 → c ≠ 61 → sf (sf (sf I1 60 0 (nI 0)) 61 t (nI d)) 60 2 (nI (t + 1)) c = I1 c := fun c x1 x2 => by rw [sf_naD x1, sf_naD x2, sf_naD x1]
        have nk : ∀ k, k ≠ 0 → k ≠ 2 → sf (sf (sf I1 60 0 (nI 0)) 61 t (nI d)) 60 2 (nI (t + 1)) 60 k = I1 60 k := fun k x1 x2 => by rw [sf_nkD x2, sf_naD (by decide), sf_nkD x1]
        refine ⟨⟨a1.type ht2 h1 h2 (fun k => by rw [sf_naD (by decide), sf_if, sf_naD (by decide)]), sf_eq _ _ _ _, by rw [nk 3 (by decide) (by decide)]; exact a3, fun k hk => by rw [nc 67 (by decide) (by decide)]; exact a4 k hk⟩, ⟨by rw [nk 48 (by decide) (by decide)]; exact b1, b2, b3, fun k hk => by rw [nc 93 (by decide) (by decide)]; exact b4 k hk⟩, ⟨d1.fr (nk 16 (by decide) (by decide)) (nk 23 (by decide) (by decide)) (fun c x1 x2 => nc c (by omega) (by omega)), ⟨by rw [nk 26 (by decide) (by decide)]; exact d2.1, fun k hk => by rw [nc 76 (by decide) (by decide), nc 77 (by decide) (by decide)]; exact d2.2 k hk⟩, d3.fr (nc 75 (by decide) (by decide)), d4.fr (nk 29 (by decide) (by decide)) (nc 78 (by decide) (by decide)) (nc 79 (by decide) (by decide))⟩, ?_⟩
        rw [nk 32 (by decide) (by decide)]
        rcases w with w | ⟨w1, w2, w3, w4, w5, w6⟩
        · exact Or.inl w
        · exact Or.inr ⟨w1, w2, w3, w4, w5, w6.elim Or.inl (fun h9 => Or.inr ⟨h9.1, h9.2.fr (fun c hc => nc c (by omega) (by omega))⟩)⟩
    · have ht3 : t = 100 := by omega
      exact Stq_no 2 0 hS (by decide) (by decide) (wn_type_2 g 999 (nI d) (cn_type2 g 998 hC d h1 h2 ht3)) (fun I1 J1 hf => mn_type2 g 996 J1 (hM.c hf) d 0 h1 h2 ht3)
  · exact Stq_no 1 0 hS (by decide) (by decide) (wn_type_1 g 999 x (cn_type1 g 998 hC x hx)) (fun I1 J1 hf => mn_type1 g 996 J1 (hM.c hf) x 0 hx)
theorem st_kindOf (hS : s + 1000 ≤ S) (hs9 : s < 1000000000) (hC : Cw L t e dm fc L' t' fs cs os s I J) (hM : Mw L t e dm fc L' t' fs cs os I) (x : Int32) : Stq g 213 159 [.int x] I J S cmpI := by
  by_cases hx : ∃ f, f < fs.length ∧ x = nI f
  · obtain ⟨f, hf, rfl⟩ := hx
    exact Stq_ok hS (wy_kindOf g 999 (nI f) (cy_kindOf g 997 hC f hf)) (fun I1 J1 hq => my_kindOf g 996 J1 (hM.c hq) f hf)
  · exact Stq_no 1 0 hS (by decide) (by decide) (wn_kindOf_1 g 999 x (cn_kindOf g 997 hC x hx)) (fun I1 J1 hq => mn_kindOf g 996 J1 (hM.c hq) x 0 hx)
theorem st_hasEdge (hS : s + 1000 ≤ S) (hs9 : s < 1000000000) (hC : Cw L t e dm fc L' t' fs cs os s I J) (hM : Mw L t e dm fc L' t' fs cs os I) (x y z : Int32) : Stq g 214 160 [.int x, .int y, .int z] I J S cmpB := by
  by_cases hx : (∃ f k, f < fs.length ∧ k < rk (kF (nF fs f)) ∧ x = nI f ∧ y = nI k) ∧ ∃ u, u < fs.length ∧ z = nI u
  · obtain ⟨⟨f, k, hf, hk, rfl, rfl⟩, u, hu, rfl⟩ := hx
    exact Stq_okB hS (wy_hasEdge g 999 _ _ _ (cy_hasEdge g 996 hC f k u hf hk hu)) (fun I1 J1 hq => my_hasEdge g 996 J1 (hM.c hq) f k u hf hk hu)
  · exact Stq_no 1 0 hS (by decide) (by decide) (wn_hasEdge_1 g 999 _ _ _ (cn_hasEdge g 996 hC x y z hx)) (fun I1 J1 hq => mn_hasEdge g 996 J1 (hM.c hq) x y z 0 hx)
theorem st_constrain (hS : s + 1000 ≤ S) (hs9 : s < 1000000000) (hC : Cw L t e dm fc L' t' fs cs os s I J) (hM : Mw L t e dm fc L' t' fs cs os I) (x y z : Int32) : Stq g 215 161 [.int x, .int y, .int z] I J S cmpI := by
  by_cases hx : (∃ f k, f < fs.length ∧ k < rk (kF (nF fs f)) ∧ x = nI f ∧ y = nI k) ∧ ∃ u, u < fs.length ∧ z = nI u
  · obtain ⟨⟨f, k, hf, hk, rfl, rfl⟩, u, hu, rfl⟩ := hx
    have hc6 := hC.c6
    by_cases h6 : cs.length < 6
    · exact Stq_ok hS (wy_constrain g 999 _ _ _ (cy_constrain g 982 hC f k u hf hk hu h6)) (fun I1 J1 hq => my_constrain g 994 J1 (hM.c hq) f k u hf hk hu h6)
    · have h6' : cs.length = 6 := by omega
      exact Stq_no 2 0 hS (by decide) (by decide) (wn_constrain_2 g 999 _ _ _ (cn_constrain2 g 982 hC f k u hf hk hu h6')) (fun I1 J1 hq => mn_constrain2 g 994 J1 (hM.c hq) f k u 0 hf hk hu h6')
  · exact Stq_no 1 0 hS (by decide) (by decide) (wn_constrain_1 g 999 _ _ _ (cn_constrain1 g 982 hC x y z hx)) (fun I1 J1 hq => mn_constrain1 g 994 J1 (hM.c hq) x y z 0 hx)
theorem st_release (hS : s + 1000 ≤ S) (hs9 : s < 1000000000) (hC : Cw L t e dm fc L' t' fs cs os s I J) (hM : Mw L t e dm fc L' t' fs cs os I) : Stq g 216 162 [] I J S cmpI := by
  by_cases h6 : 0 < cs.length
  · exact Stq_ok hS (wy_release g 999 (cy_release g 982 hC h6)) (fun I1 J1 hq => my_release g 994 J1 (hM.c hq) h6)
  · have h6' : cs = [] := List.eq_nil_of_length_eq_zero (by omega)
    exact Stq_no 1 0 hS (by decide) (by decide) (wn_release_1 g 999 (cn_release g 982 hC h6')) (fun I1 J1 hq => mn_release g 994 J1 (hM.c hq) 0 h6')
theorem st_readings (hS : s + 1000 ≤ S) (hs9 : s < 1000000000) (hC : Cw L t e dm fc L' t' fs cs os s I J) (hM : Mw L t e dm fc L' t' fs cs os I) : Stq g 217 172 [] I J S cmpI := by
  by_cases h0 : 0 < fs.length
  · exact Stq_ok hS (wy_readings g 999 (cy_readings g 997 hC h0)) (fun I1 J1 hq => my_readings g 996 J1 (hM.c hq) h0)
  · have h0' : fs = [] := List.eq_nil_of_length_eq_zero (by omega)
    exact Stq_no 1 0 hS (by decide) (by decide) (wn_readings_1 g 999 (cn_readings g 997 hC h0')) (fun I1 J1 hq => mn_readings g 996 J1 (hM.c hq) h0' 0)
theorem st_place (hS : s + 1000 ≤ S) (hs9 : s < 1000000000) (hC : Cw L t e dm fc L' t' fs cs os s I J) (hM : Mw L t e dm fc L' t' fs cs os I) (x y : Int32) : Stq g 218 173 [.int x, .int y] I J S cmpI := by
  by_cases hx : (∃ r, r < os.length ∧ x = nI r) ∧ ∃ k, k < fs.length ∧ y = nI k
  · obtain ⟨⟨r, hr, rfl⟩, k, hk, rfl⟩ := hx
    exact Stq_ok hS (wy_place g 999 _ _ (cy_place g 994 hC r k hr hk)) (fun I1 J1 hq => my_place g 994 J1 (hM.c hq) r k hr hk)
  · exact Stq_no 1 0 hS (by decide) (by decide) (wn_place_1 g 999 _ _ (cn_place g 994 hC x y hx)) (fun I1 J1 hq => mn_place g 994 J1 (hM.c hq) x y 0 hx)
theorem st_plug (hS : s + 1000 ≤ S) (hs9 : s < 1000000000) (hC : Cw L t e dm fc L' t' fs cs os s I J) (hM : Mw L t e dm fc L' t' fs cs os I) (x y z : Int32) : Stq g 219 174 [.int x, .int y, .int z] I J S cmpI := by
  by_cases hx : (∃ r, r < os.length ∧ x = nI r) ∧ ∃ f k, f < fs.length ∧ k < rk (kF (nF fs f)) ∧ y = nI f ∧ z = nI k
  · obtain ⟨⟨r, hr, rfl⟩, f, k, hf, hk, rfl, rfl⟩ := hx
    obtain ⟨l, hO⟩ := hC.ord hr
    obtain ⟨p, hp⟩ := hO.get hf
    obtain ⟨u, hu⟩ := hO.fill (hC.sn (by omega)).1.1.cnt hp (i := k) hk
    exact Stq_ok hS (wy_plug g 999 _ _ _ (cy_plug g 994 hC r f k u l p hr hf hk hO hu)) (fun I1 J1 hq => my_plug g 994 J1 (hM.c hq) r f k u l p hr hf hk hO hu)
  · exact Stq_no 1 0 hS (by decide) (by decide) (wn_plug_1 g 999 _ _ _ (cn_plug g 994 hC x y z hx)) (fun I1 J1 hq => mn_plug g 994 J1 (hM.c hq) x y z 0 hx)
theorem st_above (hS : s + 1000 ≤ S) (hs9 : s < 1000000000) (hC : Cw L t e dm fc L' t' fs cs os s I J) (hM : Mw L t e dm fc L' t' fs cs os I) (x y : Int32) : Stq g 220 177 [.int x, .int y] I J S cmpI := by
  by_cases hx : (∃ r, r < os.length ∧ x = nI r) ∧ ∃ f, f < fs.length ∧ y = nI f
  · obtain ⟨⟨r, hr, rfl⟩, f, hf, rfl⟩ := hx
    obtain ⟨l, hO⟩ := hC.ord hr
    obtain ⟨p, hp⟩ := hO.get hf
    exact Stq_ok hS (wy_above g 999 _ _ (cy_above g 994 hC r f l p hr hf hO hp)) (fun I1 J1 hq => my_above g 994 J1 (hM.c hq) r f l p hr hf hO hp)
  · exact Stq_no 1 0 hS (by decide) (by decide) (wn_above_1 g 999 _ _ (cn_above g 994 hC x y hx)) (fun I1 J1 hq => mn_above g 994 J1 (hM.c hq) x y 0 hx)
theorem st_polarity (hS : s + 1000 ≤ S) (hs9 : s < 1000000000) (hC : Cw L t e dm fc L' t' fs cs os s I J) (hM : Mw L t e dm fc L' t' fs cs os I) (x y : Int32) : Stq g 221 179 [.int x, .int y] I J S cmpI := by
  by_cases hx : (∃ r, r < os.length ∧ x = nI r) ∧ ∃ f, f < fs.length ∧ y = nI f
  · obtain ⟨⟨r, hr, rfl⟩, f, hf, rfl⟩ := hx
    obtain ⟨l, hO⟩ := hC.ord hr
    obtain ⟨p, hp⟩ := hO.get hf
    exact Stq_ok hS (wy_polarity g 999 _ _ (cy_polarity g 994 hC r f l p hr hf hO hp)) (fun I1 J1 hq => my_polarity g 994 J1 (hM.c hq) r f l p hr hf hO hp)
  · exact Stq_no 1 0 hS (by decide) (by decide) (wn_polarity_1 g 999 _ _ (cn_polarity g 994 hC x y hx)) (fun I1 J1 hq => mn_polarity g 994 J1 (hM.c hq) x y 0 hx)
theorem st_countBelow (hS : s + 1000 ≤ S) (hs9 : s < 1000000000) (hC : Cw L t e dm fc L' t' fs cs os s I J) (hM : Mw L t e dm fc L' t' fs cs os I) (x y : Int32) : Stq g 222 181 [.int x, .int y] I J S cmpI := by
  by_cases hx : (∃ f, f < fs.length ∧ x = nI f) ∧ ∃ f, f < fs.length ∧ y = nI f
  · obtain ⟨⟨u, hu, rfl⟩, f, hf, rfl⟩ := hx
    exact Stq_ok hS (wy_countBelow g 999 _ _ (cy_countBelow g 994 hC u f hu hf)) (fun I1 J1 hq => my_countBelow g 994 J1 (hM.c hq) u f hu hf)
  · exact Stq_no 1 0 hS (by decide) (by decide) (wn_countBelow_1 g 999 _ _ (cn_countBelow g 994 hC x y hx)) (fun I1 J1 hq => mn_countBelow g 994 J1 (hM.c hq) x y 0 hx)
theorem st_nextBelow (hS : s + 1000 ≤ S) (hs9 : s < 1000000000) (hC : Cw L t e dm fc L' t' fs cs os s I J) (hM : Mw L t e dm fc L' t' fs cs os I) (x y z : Int32) : Stq g 223 182 [.int x, .int y, .int z] I J S cmpI := by
  by_cases hx : (∃ f, f < fs.length ∧ y = nI f) ∧ (∃ f, f < fs.length ∧ z = nI f) ∧ ¬ x < 0
  · obtain ⟨⟨u, hu, rfl⟩, ⟨f, hf, rfl⟩, hx0⟩ := hx
    obtain ⟨a, ha, rfl⟩ := nneg hx0
    exact Stq_ok hS (wy_nextBelow g 999 _ _ _ (cy_nextBelow g 994 hC a u f ha hu hf)) (fun I1 J1 hq => my_nextBelow g 994 J1 (hM.c hq) a u f ha hu hf)
  · exact Stq_no 1 0 hS (by decide) (by decide) (wn_nextBelow_1 g 999 _ _ _ (cn_nextBelow g 994 hC x y z hx)) (fun I1 J1 hq => mn_nextBelow g 994 J1 (hM.c hq) x y z 0 hx)
theorem st_formulaChar (hS : s + 1000 ≤ S) (hs9 : s < 1000000000) (hC : Cw L t e dm fc L' t' fs cs os s I J) (hM : Mw L t e dm fc L' t' fs cs os I) (x y : Int32) : Stq g 224 186 [.int x, .int y] I J S cmpI := by
  by_cases hx : (∃ r, r < os.length ∧ x = nI r) ∧ ¬ y < 0
  · obtain ⟨⟨r, hr, rfl⟩, hy⟩ := hx
    obtain ⟨k, hk, rfl⟩ := nneg hy
    obtain ⟨l, hO⟩ := hC.ord hr
    exact Stq_ok hS (wy_formulaChar g 999 _ _ (cy_formulaChar g 981 hC r k l hr hk hO)) (fun I1 J1 hq => my_formulaChar g 994 J1 (hM.c hq) r k l hr hk hO)
  · exact Stq_no 1 0 hS (by decide) (by decide) (wn_formulaChar_1 g 999 _ _ (cn_formulaChar g 981 hC x y hx)) (fun I1 J1 hq => mn_formulaChar g 994 J1 (hM.c hq) x y 0 hx)
theorem st_entails (hS : s + 1000 ≤ S) (hs9 : s < 1000000000) (hC : Cw L t e dm fc L' t' fs cs os s I J) (hM : Mw L t e dm fc L' t' fs cs os I) (x y : Int32) : Stq g 225 194 [.int x, .int y] I J S cmpB := by
  by_cases hx : (∃ r, r < os.length ∧ x = nI r) ∧ ∃ r, r < os.length ∧ y = nI r
  · obtain ⟨⟨r, hr, rfl⟩, q, hq, rfl⟩ := hx
    exact Stq_okB hS (wy_entails g 999 _ _ (cy_entails g 991 hC hs9 r q hr hq)) (fun I1 J1 hf => my_entails g 993 J1 (hM.c hf) r q hr hq)
  · exact Stq_no 1 0 hS (by decide) (by decide) (wn_entails_1 g 999 _ _ (cn_entails g 991 hC x y hx)) (fun I1 J1 hq => mn_entails g 993 J1 (hM.c hq) x y 0 hx)
theorem st_classOf (hS : s + 1000 ≤ S) (hs9 : s < 1000000000) (hC : Cw L t e dm fc L' t' fs cs os s I J) (hM : Mw L t e dm fc L' t' fs cs os I) (x : Int32) : Stq g 226 195 [.int x] I J S cmpI := by
  by_cases hx : ∃ r, r < os.length ∧ x = nI r
  · obtain ⟨r, hr, rfl⟩ := hx
    exact Stq_ok hS (wy_classOf g 999 _ (cy_classOf g 992 hC hs9 r hr)) (fun I1 J1 hq => my_classOf g 993 J1 (hM.c hq) r hr)
  · exact Stq_no 1 0 hS (by decide) (by decide) (wn_classOf_1 g 999 _ (cn_classOf g 992 hC x hx)) (fun I1 J1 hq => mn_classOf g 993 J1 (hM.c hq) x 0 hx)
theorem st_isWeak (hS : s + 1000 ≤ S) (hs9 : s < 1000000000) (hC : Cw L t e dm fc L' t' fs cs os s I J) (hM : Mw L t e dm fc L' t' fs cs os I) (x : Int32) : Stq g 228 197 [.int x] I J S cmpB := by
  by_cases hx : ∃ r, r < os.length ∧ x = nI r
  · obtain ⟨r, hr, rfl⟩ := hx
    exact Stq_okB hS (wy_isWeak g 999 _ (cy_isWeak g 992 hC hs9 r hr)) (fun I1 J1 hq => my_isWeak g 993 J1 (hM.c hq) r hr)
  · exact Stq_no 1 0 hS (by decide) (by decide) (wn_isWeak_1 g 999 _ (cn_isWeak g 992 hC x hx)) (fun I1 J1 hq => mn_isWeak g 993 J1 (hM.c hq) x 0 hx)
theorem st_classes (hS : s + 1000 ≤ S) (hs9 : s < 1000000000) (hC : Cw L t e dm fc L' t' fs cs os s I J) (hM : Mw L t e dm fc L' t' fs cs os I) : Stq g 227 196 [] I J S cmpI := by
  by_cases h0 : 0 < fs.length
  · exact Stq_ok hS (wy_classes g 999 (cy_classes g 991 hC hs9 h0)) (fun I1 J1 hq => my_classes g 992 J1 (hM.c hq) h0)
  · have h0' : fs = [] := List.eq_nil_of_length_eq_zero (by omega)
    exact Stq_no 1 0 hS (by decide) (by decide) (wn_classes_1 g 999 (cn_classes g 991 hC h0')) (fun I1 J1 hq => mn_classes g 992 J1 (hM.c hq) h0' 0)
theorem st_strongest (hS : s + 1000 ≤ S) (hs9 : s < 1000000000) (hC : Cw L t e dm fc L' t' fs cs os s I J) (hM : Mw L t e dm fc L' t' fs cs os I) : Stq g 229 198 [] I J S cmpI := by
  by_cases h0 : 0 < fs.length
  · exact Stq_ok hS (wy_strongest g 999 (cy_strongest g 991 hC hs9 h0)) (fun I1 J1 hq => my_strongest g 992 J1 (hM.c hq) h0)
  · have h0' : fs = [] := List.eq_nil_of_length_eq_zero (by omega)
    exact Stq_no 1 0 hS (by decide) (by decide) (wn_strongest_1 g 999 (cn_strongest g 991 hC h0')) (fun I1 J1 hq => mn_strongest g 992 J1 (hM.c hq) h0' 0)
theorem st_setDomain (hS : s + 1000 ≤ S) (hs9 : s < 1000000000) (hC : Cw L t e dm fc L' t' fs cs os s I J) (hM : Mw L t e dm fc L' t' fs cs os I) (x : Int32) : Stq g 230 200 [.int x] I J S cmpI := by
  by_cases hx : ∃ d, 1 ≤ d ∧ d ≤ 3 ∧ x = nI d
  · obtain ⟨d, h1, h2, rfl⟩ := hx
    exact Stq_ok hS (wy_setDomain g 999 _ (cy_setDomain g 991 hC d h1 h2)) (fun I1 J1 hq => my_setDomain g 996 J1 (hM.c hq) d h1 h2)
  · exact Stq_no 1 0 hS (by decide) (by decide) (wn_setDomain_1 g 999 _ (cn_setDomain g 991 hC x hx)) (fun I1 J1 hq => mn_setDomain g 996 J1 (hM.c hq) x 0 hx)
theorem st_arity (hS : s + 1000 ≤ S) (hs9 : s < 1000000000) (hC : Cw L t e dm fc L' t' fs cs os s I J) (hM : Mw L t e dm fc L' t' fs cs os I) (x : Int32) : Stq g 231 202 [.int x] I J S cmpI := by
  by_cases hx : ∃ p, p < (pls L' fs fs.length).length ∧ x = nI p
  · obtain ⟨p, hp, rfl⟩ := hx
    exact Stq_ok hS (wy_arity g 999 _ (cy_arity g 997 hC p hp)) (fun I1 J1 hq => my_arity g 996 J1 (hM.c hq) p hp)
  · exact Stq_no 1 0 hS (by decide) (by decide) (wn_arity_1 g 999 _ (cn_arity g 997 hC x hx)) (fun I1 J1 hq => mn_arity g 996 J1 (hM.c hq) x 0 hx)
theorem st_setFact (hS : s + 1000 ≤ S) (hs9 : s < 1000000000) (hC : Cw L t e dm fc L' t' fs cs os s I J) (hM : Mw L t e dm fc L' t' fs cs os I) (x y z : Int32) (b : Bool) : Stq g 232 203 [.int x, .int y, .int z, .int (bI b)] I J S cmpB := by
  by_cases hx : ∃ p, p < (pls L' fs fs.length).length ∧ x = nI p
  · obtain ⟨p, hp, rfl⟩ := hx
    by_cases hy : (∃ a, a < dm ∧ y = nI a) ∧ ∃ b, b < (if arF (nF fs ((pls L' fs fs.length).getD p 0)) = 2 then dm else 1) ∧ z = nI b
    · obtain ⟨⟨a, ha, rfl⟩, c, hc, rfl⟩ := hy
      exact Stq_okB hS (wy_setFact g 999 _ _ _ _ (cy_setFact g 991 hC p a c b hp ha hc)) (fun I1 J1 hq => my_setFact g 996 J1 (hM.c hq) p a c b hp ha hc)
    · exact Stq_no 2 0 hS (by decide) (by decide) (wn_setFact_2 g 999 _ _ _ _ (cn_setFact2 g 991 hC p y z (bI b) hp hy)) (fun I1 J1 hq => mn_setFact2 g 996 J1 (hM.c hq) p y z (bI b) 0 hp hy)
  · exact Stq_no 1 0 hS (by decide) (by decide) (wn_setFact_1 g 999 _ _ _ _ (cn_setFact1 g 991 hC x y z (bI b) hx)) (fun I1 J1 hq => mn_setFact1 g 996 J1 (hM.c hq) x y z (bI b) 0 hx)
theorem st_truth (hS : s + 1000 ≤ S) (hs9 : s < 1000000000) (hC : Cw L t e dm fc L' t' fs cs os s I J) (hM : Mw L t e dm fc L' t' fs cs os I) (x : Int32) : Stq g 233 208 [.int x] I J S cmpB := by
  by_cases hx : ∃ r, r < os.length ∧ x = nI r
  · obtain ⟨r, hr, rfl⟩ := hx
    exact Stq_okB hS (wy_truth g 999 _ (cy_truth g 972 hC r hr)) (fun I1 J1 hq => my_truth g 994 J1 (hM.c hq) r hr)
  · exact Stq_no 1 0 hS (by decide) (by decide) (wn_truth_1 g 999 _ (cn_truth g 972 hC x hx)) (fun I1 J1 hq => mn_truth g 994 J1 (hM.c hq) x 0 hx)
theorem st_trueReadings (hS : s + 1000 ≤ S) (hs9 : s < 1000000000) (hC : Cw L t e dm fc L' t' fs cs os s I J) (hM : Mw L t e dm fc L' t' fs cs os I) : Stq g 234 209 [] I J S cmpI := by
  by_cases h0 : 0 < fs.length
  · exact Stq_ok hS (wy_trueReadings g 999 (cy_trueReadings g 972 hC h0)) (fun I1 J1 hq => my_trueReadings g 992 J1 (hM.c hq) h0)
  · have h0' : fs = [] := List.eq_nil_of_length_eq_zero (by omega)
    exact Stq_no 1 0 hS (by decide) (by decide) (wn_trueReadings_1 g 999 (cn_trueReadings g 991 hC h0')) (fun I1 J1 hq => mn_trueReadings g 992 J1 (hM.c hq) h0' 0)
theorem st_nextDifferent (hS : s + 1000 ≤ S) (hs9 : s < 1000000000) (hC : Cw L t e dm fc L' t' fs cs os s I J) (hM : Mw L t e dm fc L' t' fs cs os I) (x : Int32) : Stq g 235 210 [.int x] I J S cmpI := by
  by_cases h0 : 0 < fs.length
  · by_cases hx : x < 0
    · exact Stq_no 2 0 hS (by decide) (by decide) (wn_nextDifferent_2 g 999 _ (cn_nextDifferent2 g 972 hC h0 x hx)) (fun I1 J1 hq => mn_nextDifferent2 g 992 J1 (hM.c hq) h0 x 0 hx)
    · obtain ⟨a, ha, rfl⟩ := nneg hx
      exact Stq_ok hS (wy_nextDifferent g 999 _ (cy_nextDifferent g 972 hC h0 a ha)) (fun I1 J1 hq => my_nextDifferent g 992 J1 (hM.c hq) h0 a ha)
  · have h0' : fs = [] := List.eq_nil_of_length_eq_zero (by omega)
    exact Stq_no 1 0 hS (by decide) (by decide) (wn_nextDifferent_1 g 999 _ (cn_nextDifferent1 g 972 hC h0' x)) (fun I1 J1 hq => mn_nextDifferent1 g 992 J1 (hM.c hq) h0' x 0)
end STE
