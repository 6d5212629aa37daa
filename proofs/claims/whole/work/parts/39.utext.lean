section TXU
variable {p : Program} {g : am_G} {e : Env} {R : Room} {s : State} {m : MethodId} {args : Array Value} {below : List Frame} {meth : Method} {c : Code} {Q : State → Prop} {ph nL pc : Nat} {lv : am_L} {st : List Value} {M : am_M} {cells slots : Nat} {cc : ByteArray}
theorem am_s_i2c (hx : p.tables.exec = Jvm.exec) (hb : c.code = cc) {x : Int32} (hd : decode cc pc = .ok (.i2c, 1)) (k : am_S p g e R s m args below meth c Q ph nL (pc + 1) lv (.int (x.toUInt32 % 65536).toInt32 :: st) M cells slots) : am_S p g e R s m args below meth c Q ph nL pc lv (.int x :: st) M cells slots := fun ls H locs hl hW hS => lv_i2c hx hb hd rfl (k ls H locs hl hW hS)
end TXU
section TXC
variable (g : am_G) (h : Nat) (M : am_M)
theorem c_coder {i : Nat} (hi : i < 7) : am_Ctr g am_mt 1 h 238 [.ref (1000 + i)] M 0 0 (fun r M' => r = some (.int 0) ∧ M' = M) := by
  refine am_byS (q := qJ0_coder_7d493) rfl rfl rfl (Nat.le_of_ble_eq_true rfl) ?_
  intro p e s m below meth c X hr
  refine am_s_scmp X dJ0_coder_7d493_0 tl_38 ?_
  refine am_s_if_eq X.1 X.2.1 dJ0_coder_7d493_3 rfl (fun h0 => absurd h0 (by decide)) (fun _ => ?_)
  refine am_s_aload_n X.1 X.2.1 dJ0_coder_7d493_6 (x := 1000 + i) rfl ?_
  refine am_s_scod X hi dJ0_coder_7d493_7 tl_15 ?_
  refine am_s_goto X.1 X.2.1 dJ0_coder_7d493_10 (t := 14) rfl ?_
  exact am_retN X hr rfl ⟨Nat.le_refl _, Nat.le_refl _⟩ ⟨rfl, rfl⟩ dJ0_coder_7d493_14
theorem c_isLatin1 {i : Nat} (hi : i < 7) : am_Ctr g am_mt 1 h 239 [.ref (1000 + i)] M 0 0 (fun r M' => r = some (.int 1) ∧ M' = M) := by
  refine am_byS (q := qJ0_isLatin1_aae02) rfl rfl rfl (Nat.le_of_ble_eq_true rfl) ?_
  intro p e s m below meth c X hr
  refine am_s_scmp X dJ0_isLatin1_aae02_0 tl_38 ?_
  refine am_s_if_eq X.1 X.2.1 dJ0_isLatin1_aae02_3 rfl (fun h0 => absurd h0 (by decide)) (fun _ => ?_)
  refine am_s_aload_n X.1 X.2.1 dJ0_isLatin1_aae02_6 (x := 1000 + i) rfl ?_
  refine am_s_scod X hi dJ0_isLatin1_aae02_7 tl_15 ?_
  refine am_s_if_ne X.1 X.2.1 dJ0_isLatin1_aae02_10 rfl (fun h0 => absurd rfl h0) (fun _ => ?_)
  refine am_s_iconst X.1 X.2.1 dJ0_isLatin1_aae02_13 ?_
  refine am_s_goto X.1 X.2.1 dJ0_isLatin1_aae02_14 (t := 18) rfl ?_
  exact am_retN X hr rfl ⟨Nat.le_refl _, Nat.le_refl _⟩ ⟨by rw [show Int32.ofInt 1 = 1 from by decide +kernel], rfl⟩ dJ0_isLatin1_aae02_18
theorem am_lenR {i : Nat} (hi : i < 7) : nI (am_len.getD i 0) >>> ((0 : Int32) &&& 31) = nI (am_len.getD i 0) := by
  have : ∀ i, i < 7 → nI (am_len.getD i 0) >>> ((0 : Int32) &&& 31) = nI (am_len.getD i 0) := by decide +kernel
  exact this i hi
theorem c_length {i : Nat} (hi : i < 7) : am_Ctr g am_mt 1 (h + 1) 236 [.ref (1000 + i)] M 0 0 (fun r M' => r = some (.int (nI (am_len.getD i 0))) ∧ M' = M) := by
  refine am_byS (q := qJ0_length_8abf5) rfl rfl rfl (Nat.le_of_ble_eq_true rfl) ?_
  intro p e s m below meth c X hr
  refine am_s_aload_n X.1 X.2.1 dJ0_length_8abf5_0 (x := 1000 + i) rfl ?_
  refine am_s_sval X hi dJ0_length_8abf5_1 tl_9 ?_
  refine am_s_blen X hi dJ0_length_8abf5_4 ?_
  refine am_s_aload_n X.1 X.2.1 dJ0_length_8abf5_5 (x := 1000 + i) rfl ?_
  refine am_call (kind := 0) (n := 0) (av := [.ref (1000 + i)]) (rest := [.int (nI (am_len.getD i 0))]) X dJ0_length_8abf5_6 (Or.inl ⟨rfl, Or.inl rfl⟩) (q := qJ0_coder_7d493) rfl oJ0_coder_7d493 tm_335 (c_coder g h M hi) ⟨Nat.le_of_eq (by show h + 7 = h + 1 + 6; omega), Nat.le_refl _⟩ ⟨Nat.le_refl _, Nat.le_refl _⟩ (Or.inr ⟨by decide, 1000 + i, [], rfl, rfl, fun _ => ⟨default, am_rcv_of X (ci := 99) ⟨by omega, by omega⟩ rfl⟩⟩) (Nat.le_of_ble_eq_true rfl) ?_
  rintro r M' ⟨rfl, rfl⟩
  refine am_s_ishr X.1 X.2.1 (x := nI (am_len.getD i 0)) (y := 0) (st := []) dJ0_length_8abf5_9 ?_
  exact am_retN X hr rfl ⟨Nat.le_refl _, Nat.le_refl _⟩ ⟨by rw [am_lenR hi], rfl⟩ dJ0_length_8abf5_10
/-- Preconditions.checkIndex within its range -/
theorem c_pre (i n : Int32) (v : Value) (hv0 : v = .null ∨ ∃ a, v = .ref a) (h1 : ¬ i < 0) (h2 : i < n) : Met g.1 yJ3_checkIndex_8e157 (am_wd qJ3_checkIndex_8e157 :: am_T) (am_R h 0 0) (va_Pc [.int i, .int n, v] (am_B g 1 M)) (am_Q g 1 (fun r M' => r = some (.int i) ∧ M' = M)) 0 0 (am_A g) := by
  refine Met.ofW (cc := cJ3_checkIndex_8e157) (maxL := 3) (ret := some .int) rfl rfl ?_
  intro p e s m args below meth c s₁ Bd hml hv
  obtain ⟨rfl, hE, hbs, hW⟩ := hv
  have hx := Bd.exec
  have hb := Bd.bytes
  rw [lg_entry_eq]
  have hcat : (lg_sl [.int i, .int n, v]).length ≤ 3 := by rcases hv0 with rfl | ⟨a, rfl⟩ <;> exact Nat.le_of_ble_eq_true rfl
  have hl := lv_entry [.int i, .int n, v] (n := 3) hcat
  have e1 : lv_args 0 [.int i, .int n, v] = [(0, .int i), (1, .int n), (2, v)] := by rcases hv0 with rfl | ⟨a, rfl⟩ <;> rfl
  rw [e1] at hl
  refine lv_iload_n hx hb dJ3_checkIndex_8e157_0 rfl (lv_at hl 0 rfl) ?_
  refine lv_if_lt hx hb dJ3_checkIndex_8e157_1 (tgt := 9) rfl (fun h0 => absurd h0 h1) (fun _ => ?_)
  refine lv_iload_n hx hb dJ3_checkIndex_8e157_4 rfl (lv_at hl 0 rfl) ?_
  refine lv_iload_n hx hb dJ3_checkIndex_8e157_5 rfl (lv_at hl 1 rfl) ?_
  refine lv_icmp_lt hx hb dJ3_checkIndex_8e157_6 (tgt := 16) rfl (fun _ => ?_) (fun h0 => absurd h2 h0)
  refine lv_iload_n hx hb dJ3_checkIndex_8e157_16 rfl (lv_at hl 0 rfl) ?_
  exact W.iret hx hb Bd.returns (fun t ht _ => ⟨⟨some (.int i), M, rfl, ⟨rfl, rfl⟩, by rw [ht]; exact hW⟩, va_S.rf.F ht⟩) (fun q hq => by cases hq) dJ3_checkIndex_8e157_17 Bd.notSynchronized
theorem c_checkIndex (i n : Int32) (h1 : ¬ i < 0) (h2 : i < n) : am_Ctr g am_mt 1 (h + 1) 240 [.int i, .int n] M 0 0 (fun r M' => r = none ∧ M' = M) := by
  refine am_byS (q := qJ0_checkIndex_df160) rfl rfl rfl (Nat.le_of_ble_eq_true rfl) ?_
  intro p e s m below meth c X hr
  refine am_s_iload_n X.1 X.2.1 dJ0_checkIndex_df160_0 (x := i) rfl ?_
  refine am_s_iload_n X.1 X.2.1 dJ0_checkIndex_df160_1 (x := n) rfl ?_
  intro ls H locs hl hW hS
  have hX := X
  obtain ⟨hx, hb, hml, hown, hts, hE, hbs, hlk⟩ := X
  have key : ∀ v : Value, (v = .null ∨ ∃ a, v = .ref a) → W p g.1 e (am_R (h + 1) 0 0) s m (([Value.int i, .int n].map (am_v g)).toArray) below meth c H locs 0 0 (MQ below (am_Q g 1 (fun r M' => r = none ∧ M' = M)) (([Value.int i, .int n].map (am_v g)).toArray) s 0 0 (am_A g)) (F0 m 5 ls [v, .int n, .int i]) := by
    intro v hv
    obtain ⟨w1, w2, w3, w4⟩ := oJ3_checkIndex_8e157
    have hpre : ∀ U : State, U.heap = H → s.WarmedH U.vm → va_Pc [.int i, .int n, v] (am_B g 1 M) ([Value.int i, .int n, v] : List Value).toArray U := by
      intro U hU hWm
      subst hU
      exact ⟨rfl, hE.at hWm hS, Nat.le_trans hbs hS.1, hW⟩
    have hrun := va_runS (p := p) (l := g.1) (e := e) (R := am_R (h + 1) 0 0) (below := below) (meth := meth) (locs := locs) (cells := 0) (slots := 0) (index := 1059) (As := [.int i, .int n, v]) (rest := []) (g := F0 m 5 ls [v, .int n, .int i]) (own := RJ0) (H := H) (cc := cJ0_checkIndex_df160) ⟨hx, hb, hml, hown, hts⟩ (c_pre g h M i n v hv h1 h2) ⟨callB_of (bytes := cJ3_checkIndex_8e157) (maxL := 3) (ret := some .int) 3 hts (am_good w1) rfl rfl rfl (hts _ w2) (hts _ tl_1059) w3 ⟨Nat.le_of_eq (by show h + 6 + 1 = h + 1 + 6; omega), by show 8 + (3 + 11) + (80 * h + 480) ≤ 80 * (h + 1) + 480; omega⟩, hts _ tJ3_checkIndex_8e157⟩ ⟨am_blind, hpre⟩ rfl rfl hl.1 rfl (lv_room (Nat.le_of_ble_eq_true rfl)) dJ0_checkIndex_df160_5 ⟨Nat.le_refl _, Nat.le_refl _⟩
    refine am_after (rest := []) hrun hl hS ?_
    rintro r M' ⟨rfl, rfl⟩
    refine am_s_pop hx hb (v := .int i) (st := []) dJ0_checkIndex_df160_8 rfl ?_
    exact am_ret hX hr (r := none) ⟨trivial, Nat.le_refl _, Nat.le_refl _, rfl, rfl⟩ (Or.inr (Or.inr (Or.inr ⟨rfl, dJ0_checkIndex_df160_9⟩)))
  rcases hE.2.2.2.2.1 with hz | ⟨t, hz⟩
  · exact va_gets hx hb hz hS hown (hts _ tl_1053) (fun _ h9 => h9) dJ0_checkIndex_df160_2 (key _ (Or.inl rfl))
  · exact va_gets hx hb hz hS hown (hts _ tl_1053) (fun _ h9 => h9) dJ0_checkIndex_df160_2 (key _ (Or.inr ⟨t, rfl⟩))
theorem am_bytR {i j : Nat} (hi : i < 7) (hj : j < am_len.getD i 0) : ((((am_byt.getD i []).getD j 0) &&& (Int16.ofInt 255).toInt32).toUInt32 % 65536).toInt32 = (am_byt.getD i []).getD j 0 ∧ narrow .char (.int ((((am_byt.getD i []).getD j 0) &&& (Int16.ofInt 255).toInt32).toUInt32 % 65536).toInt32) = .int ((((am_byt.getD i []).getD j 0) &&& (Int16.ofInt 255).toInt32).toUInt32 % 65536).toInt32 := by
  have : ∀ i, i < 7 → ∀ j, j < am_len.getD i 0 → ((((am_byt.getD i []).getD j 0) &&& (Int16.ofInt 255).toInt32).toUInt32 % 65536).toInt32 = (am_byt.getD i []).getD j 0 ∧ narrow .char (.int ((((am_byt.getD i []).getD j 0) &&& (Int16.ofInt 255).toInt32).toUInt32 % 65536).toInt32) = .int ((((am_byt.getD i []).getD j 0) &&& (Int16.ofInt 255).toInt32).toUInt32 % 65536).toInt32 := by decide +kernel
  exact this i hi j hj
theorem am_len5 (i : Nat) : am_len.getD i 0 ≤ 5 := by
  match i with
  | 0 => decide
  | 1 => decide
  | 2 => decide
  | 3 => decide
  | 4 => decide
  | 5 => decide
  | 6 => decide
  | n + 7 => exact Nat.zero_le _
theorem c_latin {i j : Nat} (hi : i < 7) (hj : j < am_len.getD i 0) : am_Ctr g am_mt 1 (h + 2) 241 [.ref (1100 + i), .int (nI j)] M 0 0 (fun r M' => r = some (.int ((am_byt.getD i []).getD j 0)) ∧ M' = M) := by
  have h5 := am_len5 i
  have hcl : (nI j).toNatClampNeg = j := nI_clamp (by omega)
  refine am_byS (q := qJ1_charAt_3b067) rfl rfl rfl (Nat.le_of_ble_eq_true rfl) ?_
  intro p e s m below meth c X hr
  refine am_s_iload_n X.1 X.2.1 dJ1_charAt_3b067_0 (x := nI j) rfl ?_
  refine am_s_aload_n X.1 X.2.1 dJ1_charAt_3b067_1 (x := 1100 + i) rfl ?_
  refine am_s_blen X hi dJ1_charAt_3b067_2 ?_
  refine am_call (kind := 2) (n := 2) (av := [.int (nI j), .int (nI (am_len.getD i 0))]) (rest := []) X dJ1_charAt_3b067_3 (Or.inr (Or.inl ⟨rfl, Or.inl rfl⟩)) (q := qJ0_checkIndex_df160) rfl oJ0_checkIndex_df160 tm_9 (c_checkIndex g h M _ _ (nI_pos (by omega)) (nI_lt hj (by omega))) ⟨Nat.le_of_eq (by show h + 1 + 7 = h + 2 + 6; omega), Nat.le_refl _⟩ ⟨Nat.le_refl _, Nat.le_refl _⟩ (Or.inl ⟨by decide, rfl⟩) (Nat.le_of_ble_eq_true rfl) ?_
  rintro r M' ⟨rfl, rfl⟩
  refine am_s_aload_n X.1 X.2.1 dJ1_charAt_3b067_6 (x := 1100 + i) rfl ?_
  refine am_s_iload_n X.1 X.2.1 dJ1_charAt_3b067_7 (x := nI j) rfl ?_
  refine am_s_bbyt X hi (vp_in_nI hj (by omega)) dJ1_charAt_3b067_8 ?_
  rw [hcl]
  refine am_s_sipush X.1 X.2.1 dJ1_charAt_3b067_9 ?_
  refine am_s_iand X.1 X.2.1 dJ1_charAt_3b067_12 ?_
  refine am_s_i2c X.1 X.2.1 dJ1_charAt_3b067_13 ?_
  obtain ⟨b1, b2⟩ := am_bytR hi hj
  exact am_retN X hr b2 ⟨Nat.le_refl _, Nat.le_refl _⟩ ⟨by rw [b1], rfl⟩ dJ1_charAt_3b067_14
theorem am_bytN {i j : Nat} (hi : i < 7) (hj : j < am_len.getD i 0) : narrow .char (.int ((am_byt.getD i []).getD j 0)) = .int ((am_byt.getD i []).getD j 0) := by
  have : ∀ i, i < 7 → ∀ j, j < am_len.getD i 0 → narrow .char (.int ((am_byt.getD i []).getD j 0)) = .int ((am_byt.getD i []).getD j 0) := by decide +kernel
  exact this i hi j hj
theorem c_charAt {i j : Nat} (hi : i < 7) (hj : j < am_len.getD i 0) : am_Ctr g am_mt 1 (h + 3) 237 [.ref (1000 + i), .int (nI j)] M 0 0 (fun r M' => r = some (.int ((am_byt.getD i []).getD j 0)) ∧ M' = M) := by
  refine am_byS (q := qJ0_charAt_5068e) rfl rfl rfl (Nat.le_of_ble_eq_true rfl) ?_
  intro p e s m below meth c X hr
  refine am_s_aload_n X.1 X.2.1 dJ0_charAt_5068e_0 (x := 1000 + i) rfl ?_
  refine am_call (kind := 0) (n := 0) (av := [.ref (1000 + i)]) (rest := []) X dJ0_charAt_5068e_1 (Or.inl ⟨rfl, Or.inl rfl⟩) (q := qJ0_isLatin1_aae02) rfl oJ0_isLatin1_aae02 tm_492 (c_isLatin1 g (h + 2) M hi) ⟨Nat.le_of_eq (by show h + 2 + 7 = h + 3 + 6; omega), Nat.le_refl _⟩ ⟨Nat.le_refl _, Nat.le_refl _⟩ (Or.inr ⟨by decide, 1000 + i, [], rfl, rfl, fun _ => ⟨default, am_rcv_of X (ci := 99) ⟨by omega, by omega⟩ rfl⟩⟩) (Nat.le_of_ble_eq_true rfl) ?_
  rintro r M' ⟨rfl, rfl⟩
  refine am_s_if_eq X.1 X.2.1 (x := 1) (st := []) dJ0_charAt_5068e_4 (t := 16) rfl (fun h0 => absurd h0 (by decide)) (fun _ => ?_)
  refine am_s_aload_n X.1 X.2.1 dJ0_charAt_5068e_7 (x := 1000 + i) rfl ?_
  refine am_s_sval X hi dJ0_charAt_5068e_8 tl_9 ?_
  refine am_s_iload_n X.1 X.2.1 dJ0_charAt_5068e_11 (x := nI j) rfl ?_
  refine am_call (kind := 2) (n := 2) (av := [.ref (1100 + i), .int (nI j)]) (rest := []) X dJ0_charAt_5068e_12 (Or.inr (Or.inl ⟨rfl, Or.inl rfl⟩)) (q := qJ1_charAt_3b067) rfl oJ1_charAt_3b067 tm_495 (c_latin g h M' hi hj) ⟨Nat.le_of_eq (by show h + 2 + 7 = h + 3 + 6; omega), Nat.le_refl _⟩ ⟨Nat.le_refl _, Nat.le_refl _⟩ (Or.inl ⟨by decide, rfl⟩) (Nat.le_of_ble_eq_true rfl) ?_
  rintro r M'' ⟨rfl, rfl⟩
  exact am_retN X hr (am_bytN hi hj) ⟨Nat.le_refl _, Nat.le_refl _⟩ ⟨rfl, rfl⟩ dJ0_charAt_5068e_15
end TXC
