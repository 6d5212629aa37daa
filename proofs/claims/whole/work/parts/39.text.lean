/-! String.length and String.charAt of the class' own texts (i below 7): 1000 + i the text, 1100 + i its bytes -/
theorem am_ad_t (g : am_G) (i : Nat) : am_ad g (1000 + i) = g.2.2.1 i := by
  simp only [am_ad]
  rw [if_neg (by omega), if_neg (by omega), Nat.add_sub_cancel_left]
theorem am_ad_b (g : am_G) (i : Nat) : am_ad g (1100 + i) = g.2.2.1 (100 + i) := by
  simp only [am_ad]
  rw [if_neg (by omega), if_neg (by omega), show 1100 + i - 1000 = 100 + i by omega]
section TXT
variable {p : Program} {g : am_G} {e : Env} {R : Room} {s : State} {m : MethodId} {args : Array Value} {below : List Frame} {meth : Method} {c : Code} {Q : State → Prop} {ph nL pc : Nat} {lv : am_L} {st : List Value} {M : am_M} {cells slots : Nat} {cc : ByteArray} {own : String}
theorem am_s_sval (X : am_X p g s m args meth c own cc nL) {i idx : Nat} (hi : i < 7) (hd : decode cc pc = .ok (.getfield idx, 3)) (hlk : Cond.fieldLink own idx "java/lang/String" "value" "[B" ∈ am_T)
    (k : am_S p g e R s m args below meth c Q ph nL (pc + 3) lv (.ref (1100 + i) :: st) M cells slots) : am_S p g e R s m args below meth c Q ph nL pc lv (.ref (1000 + i) :: st) M cells slots := by
  intro ls H locs hl hW hS
  obtain ⟨hx, hb, hml, hown, hts, hE, hbs, -⟩ := X
  have k1 := k ls H locs hl hW hS
  simp only [List.map_cons, am_v, am_ad_b] at k1
  simp only [List.map_cons, am_v, am_ad_t]
  exact vk_getf hx hb (hE.2.2.1.1 i hi).2.2.1 hS hown (hts _ hlk) (fun _ h9 => h9) hd k1
theorem am_s_scod (X : am_X p g s m args meth c own cc nL) {i idx : Nat} (hi : i < 7) (hd : decode cc pc = .ok (.getfield idx, 3)) (hlk : Cond.fieldLink own idx "java/lang/String" "coder" "B" ∈ am_T)
    (k : am_S p g e R s m args below meth c Q ph nL (pc + 3) lv (.int 0 :: st) M cells slots) : am_S p g e R s m args below meth c Q ph nL pc lv (.ref (1000 + i) :: st) M cells slots := by
  intro ls H locs hl hW hS
  obtain ⟨hx, hb, hml, hown, hts, hE, hbs, -⟩ := X
  simp only [List.map_cons, am_v, am_ad_t]
  exact vk_getf hx hb (hE.2.2.1.1 i hi).2.1 hS hown (hts _ hlk) (fun _ h9 => h9) hd (k ls H locs hl hW hS)
theorem am_s_scmp (X : am_X p g s m args meth c own cc nL) {idx : Nat} (hd : decode cc pc = .ok (.getstatic idx, 3)) (hlk : Cond.fieldLink own idx "java/lang/String" "COMPACT_STRINGS" "Z" ∈ am_T)
    (k : am_S p g e R s m args below meth c Q ph nL (pc + 3) lv (.int 1 :: st) M cells slots) : am_S p g e R s m args below meth c Q ph nL pc lv st M cells slots := by
  intro ls H locs hl hW hS
  obtain ⟨hx, hb, hml, hown, hts, hE, hbs, -⟩ := X
  exact va_gets hx hb hE.2.2.2.1 hS hown (hts _ hlk) (fun _ h9 => h9) hd (k ls H locs hl hW hS)
theorem am_s_blen (X : am_X p g s m args meth c own cc nL) {i : Nat} (hi : i < 7) (hd : decode cc pc = .ok (.arraylength, 1))
    (k : am_S p g e R s m args below meth c Q ph nL (pc + 1) lv (.int (nI (am_len.getD i 0)) :: st) M cells slots) : am_S p g e R s m args below meth c Q ph nL pc lv (.ref (1100 + i) :: st) M cells slots := by
  intro ls H locs hl hW hS
  obtain ⟨hx, hb, hml, hown, hts, hE, hbs, -⟩ := X
  simp only [List.map_cons, am_v, am_ad_b]
  exact va_tlen hx hb (hE.2.2.1.1 i hi).2.2.2 hS rfl hd (k ls H locs hl hW hS)
theorem am_s_bbyt (X : am_X p g s m args meth c own cc nL) {i : Nat} {j : Int32} (hi : i < 7) (hj : vp_in j (am_len.getD i 0)) (hd : decode cc pc = .ok (.baload, 1))
    (k : am_S p g e R s m args below meth c Q ph nL (pc + 1) lv (.int ((am_byt.getD i []).getD j.toNatClampNeg 0) :: st) M cells slots) : am_S p g e R s m args below meth c Q ph nL pc lv (.int j :: .ref (1100 + i) :: st) M cells slots := by
  intro ls H locs hl hW hS
  obtain ⟨hx, hb, hml, hown, hts, hE, hbs, -⟩ := X
  simp only [List.map_cons, am_v, am_ad_b]
  exact va_tb hx hb (hE.2.2.1.1 i hi).2.2.2 hS hj rfl hd (k ls H locs hl hW hS)
/-- an answer of a byte or a char -/
theorem am_retN (X : am_X p g s m args meth c own cc nL) {ty : FieldType} (hr : meth.sig.returnType = some ty) {v : Int32} (hn : narrow ty (.int v) = .int v) {P : Option Value → am_M → Prop} {MC MS : Nat} (hk : cells ≤ MC ∧ slots ≤ MS) (hP : P (some (.int v)) M) (hd : decode cc pc = .ok (.ireturn, 1)) :
    am_S p g e R s m args below meth c (MQ below (am_Q g ph P) args s MC MS (am_A g)) ph nL pc lv [.int v] M cells slots := by
  intro ls H locs hl hW hS
  obtain ⟨hx, hb, hml, hown, hts, hE, hbs, hlk⟩ := X
  refine W.widen hk.1 hk.2 ?_
  exact W.zret hx hb hr hn (fun t ht _ => ⟨⟨some (.int v), M, rfl, hP, by rw [ht]; exact hW⟩, hS.F ht⟩) hS.2.2 hd hlk
end TXT
/-- a contract out of a walk of points -/
theorem am_byS {g : am_G} {mt : List am_MI} {ph h mi MC MS : Nat} {av : List Value} {M : am_M} {P : Option Value → am_M → Prop} {q : am_MI} (hq : mt[mi]? = some q) (hh : q.2.2.2.2 = []) (hp : plainName q.1.cls = true) (hav : (lg_sl av).length ≤ q.2.2.1)
    (k : ∀ p e s m below meth c, am_X p g s m (av.map (am_v g)).toArray meth c q.1.cls q.2.1 q.2.2.1 → meth.sig.returnType = q.2.2.2.1 → am_S p g e (am_R h MC MS) s m (av.map (am_v g)).toArray below meth c (MQ below (am_Q g ph P) (av.map (am_v g)).toArray s MC MS (am_A g)) ph q.2.2.1 0 (lv_args 0 av) [] M 0 0) : am_Ctr g mt ph h mi av M MC MS P := by
  refine ⟨q, hq, ?_⟩
  have hwd : am_wd q = Cond.code q.1 q.2.1 q.2.2.1 q.2.2.2.1 := by simp only [am_wd, hh]
  rw [hwd]
  refine Met.ofW (cc := q.2.1) (maxL := q.2.2.1) (ret := q.2.2.2.1) hp rfl ?_
  intro p e s m args below meth c s₁ Bd hml hv
  obtain ⟨rfl, hE, hbs, hW⟩ := hv
  have hts := atoms_spec (ws := Cond.code q.1 q.2.1 q.2.2.1 q.2.2.2.1 :: am_T) Bd.pre
  have X : am_X p g s m (av.map (am_v g)).toArray meth c q.1.cls q.2.1 q.2.2.1 := ⟨Bd.exec, Bd.bytes, hml, findClass_of_methodNamed Bd.named, fun w hw => hts w (List.mem_cons_of_mem _ hw), hE, hbs, Bd.notSynchronized⟩
  rw [lg_entry_eq]
  refine k p e s m below meth c X Bd.returns _ s.heap [] ?_ hW va_S.rf
  have hle := lv_entry (av.map (am_v g)) (n := q.2.2.1) (by rw [am_sl_len]; exact hav)
  rw [am_args_vl] at hle
  exact hle
-- printed by gen8.py
theorem dJ0_length_8abf5_0 : decode cJ0_length_8abf5 0 = .ok (.aload_n 0, 1) := by decide +kernel
theorem dJ0_length_8abf5_1 : decode cJ0_length_8abf5 1 = .ok (.getfield 9, 3) := by decide +kernel
theorem dJ0_length_8abf5_4 : decode cJ0_length_8abf5 4 = .ok (.arraylength, 1) := by decide +kernel
theorem dJ0_length_8abf5_5 : decode cJ0_length_8abf5 5 = .ok (.aload_n 0, 1) := by decide +kernel
theorem dJ0_length_8abf5_6 : decode cJ0_length_8abf5 6 = .ok (.invokevirtual 335, 3) := by decide +kernel
theorem dJ0_length_8abf5_9 : decode cJ0_length_8abf5 9 = .ok (.ishr, 1) := by decide +kernel
theorem dJ0_length_8abf5_10 : decode cJ0_length_8abf5 10 = .ok (.ireturn, 1) := by decide +kernel
theorem dJ0_coder_7d493_0 : decode cJ0_coder_7d493 0 = .ok (.getstatic 38, 3) := by decide +kernel
theorem dJ0_coder_7d493_3 : decode cJ0_coder_7d493 3 = .ok (.ifCond .eq 10, 3) := by decide +kernel
theorem dJ0_coder_7d493_6 : decode cJ0_coder_7d493 6 = .ok (.aload_n 0, 1) := by decide +kernel
theorem dJ0_coder_7d493_7 : decode cJ0_coder_7d493 7 = .ok (.getfield 15, 3) := by decide +kernel
theorem dJ0_coder_7d493_10 : decode cJ0_coder_7d493 10 = .ok (.goto 4, 3) := by decide +kernel
theorem dJ0_coder_7d493_13 : decode cJ0_coder_7d493 13 = .ok (.iconst 1, 1) := by decide +kernel
theorem dJ0_coder_7d493_14 : decode cJ0_coder_7d493 14 = .ok (.ireturn, 1) := by decide +kernel
theorem dJ0_isLatin1_aae02_0 : decode cJ0_isLatin1_aae02 0 = .ok (.getstatic 38, 3) := by decide +kernel
theorem dJ0_isLatin1_aae02_3 : decode cJ0_isLatin1_aae02 3 = .ok (.ifCond .eq 14, 3) := by decide +kernel
theorem dJ0_isLatin1_aae02_6 : decode cJ0_isLatin1_aae02 6 = .ok (.aload_n 0, 1) := by decide +kernel
theorem dJ0_isLatin1_aae02_7 : decode cJ0_isLatin1_aae02 7 = .ok (.getfield 15, 3) := by decide +kernel
theorem dJ0_isLatin1_aae02_10 : decode cJ0_isLatin1_aae02 10 = .ok (.ifCond .ne 7, 3) := by decide +kernel
theorem dJ0_isLatin1_aae02_13 : decode cJ0_isLatin1_aae02 13 = .ok (.iconst 1, 1) := by decide +kernel
theorem dJ0_isLatin1_aae02_14 : decode cJ0_isLatin1_aae02 14 = .ok (.goto 4, 3) := by decide +kernel
theorem dJ0_isLatin1_aae02_17 : decode cJ0_isLatin1_aae02 17 = .ok (.iconst 0, 1) := by decide +kernel
theorem dJ0_isLatin1_aae02_18 : decode cJ0_isLatin1_aae02 18 = .ok (.ireturn, 1) := by decide +kernel
theorem dJ0_charAt_5068e_0 : decode cJ0_charAt_5068e 0 = .ok (.aload_n 0, 1) := by decide +kernel
theorem dJ0_charAt_5068e_1 : decode cJ0_charAt_5068e 1 = .ok (.invokevirtual 492, 3) := by decide +kernel
theorem dJ0_charAt_5068e_4 : decode cJ0_charAt_5068e 4 = .ok (.ifCond .eq 12, 3) := by decide +kernel
theorem dJ0_charAt_5068e_7 : decode cJ0_charAt_5068e 7 = .ok (.aload_n 0, 1) := by decide +kernel
theorem dJ0_charAt_5068e_8 : decode cJ0_charAt_5068e 8 = .ok (.getfield 9, 3) := by decide +kernel
theorem dJ0_charAt_5068e_11 : decode cJ0_charAt_5068e 11 = .ok (.iload_n 1, 1) := by decide +kernel
theorem dJ0_charAt_5068e_12 : decode cJ0_charAt_5068e 12 = .ok (.invokestatic 495, 3) := by decide +kernel
theorem dJ0_charAt_5068e_15 : decode cJ0_charAt_5068e 15 = .ok (.ireturn, 1) := by decide +kernel
theorem dJ1_charAt_3b067_0 : decode cJ1_charAt_3b067 0 = .ok (.iload_n 1, 1) := by decide +kernel
theorem dJ1_charAt_3b067_1 : decode cJ1_charAt_3b067 1 = .ok (.aload_n 0, 1) := by decide +kernel
theorem dJ1_charAt_3b067_2 : decode cJ1_charAt_3b067 2 = .ok (.arraylength, 1) := by decide +kernel
theorem dJ1_charAt_3b067_3 : decode cJ1_charAt_3b067 3 = .ok (.invokestatic 9, 3) := by decide +kernel
theorem dJ1_charAt_3b067_6 : decode cJ1_charAt_3b067 6 = .ok (.aload_n 0, 1) := by decide +kernel
theorem dJ1_charAt_3b067_7 : decode cJ1_charAt_3b067 7 = .ok (.iload_n 1, 1) := by decide +kernel
theorem dJ1_charAt_3b067_8 : decode cJ1_charAt_3b067 8 = .ok (.baload, 1) := by decide +kernel
theorem dJ1_charAt_3b067_9 : decode cJ1_charAt_3b067 9 = .ok (.sipush 255, 3) := by decide +kernel
theorem dJ1_charAt_3b067_12 : decode cJ1_charAt_3b067 12 = .ok (.iand, 1) := by decide +kernel
theorem dJ1_charAt_3b067_13 : decode cJ1_charAt_3b067 13 = .ok (.i2c, 1) := by decide +kernel
theorem dJ1_charAt_3b067_14 : decode cJ1_charAt_3b067 14 = .ok (.ireturn, 1) := by decide +kernel
theorem dJ0_checkIndex_df160_0 : decode cJ0_checkIndex_df160 0 = .ok (.iload_n 0, 1) := by decide +kernel
theorem dJ0_checkIndex_df160_1 : decode cJ0_checkIndex_df160 1 = .ok (.iload_n 1, 1) := by decide +kernel
theorem dJ0_checkIndex_df160_2 : decode cJ0_checkIndex_df160 2 = .ok (.getstatic 1053, 3) := by decide +kernel
theorem dJ0_checkIndex_df160_5 : decode cJ0_checkIndex_df160 5 = .ok (.invokestatic 1059, 3) := by decide +kernel
theorem dJ0_checkIndex_df160_8 : decode cJ0_checkIndex_df160 8 = .ok (.pop, 1) := by decide +kernel
theorem dJ0_checkIndex_df160_9 : decode cJ0_checkIndex_df160 9 = .ok (.return_, 1) := by decide +kernel
theorem dJ3_checkIndex_8e157_0 : decode cJ3_checkIndex_8e157 0 = .ok (.iload_n 0, 1) := by decide +kernel
theorem dJ3_checkIndex_8e157_1 : decode cJ3_checkIndex_8e157 1 = .ok (.ifCond .lt 8, 3) := by decide +kernel
theorem dJ3_checkIndex_8e157_4 : decode cJ3_checkIndex_8e157 4 = .ok (.iload_n 0, 1) := by decide +kernel
theorem dJ3_checkIndex_8e157_5 : decode cJ3_checkIndex_8e157 5 = .ok (.iload_n 1, 1) := by decide +kernel
theorem dJ3_checkIndex_8e157_6 : decode cJ3_checkIndex_8e157 6 = .ok (.if_icmp .lt 10, 3) := by decide +kernel
theorem dJ3_checkIndex_8e157_16 : decode cJ3_checkIndex_8e157 16 = .ok (.iload_n 0, 1) := by decide +kernel
theorem dJ3_checkIndex_8e157_17 : decode cJ3_checkIndex_8e157 17 = .ok (.ireturn, 1) := by decide +kernel
theorem tl_38 : Cond.fieldLink RJ0 38 "java/lang/String" "COMPACT_STRINGS" "Z" ∈ am_T := (am_T_in (i := 561) (by decide +kernel) rfl)
theorem tl_9 : Cond.fieldLink RJ0 9 "java/lang/String" "value" "[B" ∈ am_T := (am_T_in (i := 1732) (by decide +kernel) rfl)
theorem tl_15 : Cond.fieldLink RJ0 15 "java/lang/String" "coder" "B" ∈ am_T := (am_T_in (i := 1733) (by decide +kernel) rfl)
theorem tl_1053 : Cond.fieldLink RJ0 1053 "jdk/internal/util/Preconditions" "SIOOBE_FORMATTER" "Ljava/util/function/BiFunction;" ∈ am_T := (am_T_in (i := 611) (by decide +kernel) rfl)
theorem tm_335 : am_lnk RJ0 335 qJ0_coder_7d493 0 := Or.inl ⟨rfl, rfl, (am_T_in (i := 557) (by decide +kernel) rfl), iJ0_coder_7d493, sJ0_coder_7d493⟩
theorem tm_492 : am_lnk RJ0 492 qJ0_isLatin1_aae02 0 := Or.inl ⟨rfl, rfl, (am_T_in (i := 601) (by decide +kernel) rfl), iJ0_isLatin1_aae02, sJ0_isLatin1_aae02⟩
theorem tm_495 : am_lnk RJ0 495 qJ1_charAt_3b067 2 := Or.inr (Or.inr (Or.inl ⟨rfl, rfl, (am_T_in (i := 605) (by decide +kernel) rfl), tJ1_charAt_3b067⟩))
theorem tm_9 : am_lnk RJ1 9 qJ0_checkIndex_df160 2 := Or.inr (Or.inr (Or.inl ⟨rfl, rfl, (am_T_in (i := 608) (by decide +kernel) rfl), tJ0_checkIndex_df160⟩))
theorem tl_1059 : Cond.methodLink RJ0 1059 yJ3_checkIndex_8e157 ∈ am_T := (am_T_in (i := 613) (by decide +kernel) rfl)
