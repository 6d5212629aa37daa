section AMA
variable {p : Program} {g : am_G} {e : Env} {R : Room} {s : State} {m : MethodId} {args : Array Value} {below : List Frame} {meth : Method} {c : Code} {Q : State → Prop} {ph nL pc : Nat} {lv : am_L} {st : List Value} {M : am_M} {cells slots : Nat} {cc : ByteArray} {own : String}
theorem am_at_i {a t n : Nat} (h : M.1[a]? = some (.inl (t, n))) (ht : t ≠ 1) : (am_img g M)[a]? = some (g.2.1 + a, .inl (g.2.2.2.2.2 t, n, .inl (M.2.1 a))) := by
  rw [am_img_at h]
  simp [am_cel, ht]
theorem am_at_j {a n : Nat} (h : M.1[a]? = some (.inl (1, n))) : (am_img g M)[a]? = some (g.2.1 + a, .inl (g.2.2.2.2.2 1, n, .inr (.inl (M.2.2 a)))) := by
  rw [am_img_at h]
  simp [am_cel]
theorem am_ar_of {a t : Nat} {P : Nat → Prop} (h : am_ar M a t P) : ∃ n, M.1[a]? = some (.inl (t, n)) ∧ P n := by
  unfold am_ar at h
  split at h
  · rename_i t' n hM
    obtain ⟨rfl, h⟩ := h
    exact ⟨n, hM, h⟩
  · exact h.elim
theorem am_s_iald (X : am_X p g s m args meth c own cc nL) {a : Nat} {i : Int32} (hd : decode cc pc = .ok (.iaload, 1))
    (h : am_ar M a 0 fun n => vp_in i n ∧ am_S p g e R s m args below meth c Q ph nL (pc + 1) lv (.int (M.2.1 a i.toNatClampNeg) :: st) M cells slots) : am_S p g e R s m args below meth c Q ph nL pc lv (.int i :: .ref a :: st) M cells slots := by
  intro ls H locs hl hW hS
  obtain ⟨hx, hb, hml, hown, hts, hE, hbs, -⟩ := X
  obtain ⟨n, hM, hin, k⟩ := am_ar_of h
  show W p g.1 e R s m args below meth c H locs cells slots Q (F0 m pc ls (.int i :: .ref (am_ad g a) :: st.map (am_v g)))
  rw [am_ad_lt (hW.lt hM)]
  exact va_iald hx hb hE.1 hW.1 a 0 (am_at_i hM (by decide)) rfl hin hd (k ls H locs hl hW hS)
theorem am_s_bald (X : am_X p g s m args meth c own cc nL) {a : Nat} {i : Int32} (hd : decode cc pc = .ok (.baload, 1))
    (h : am_ar M a 2 fun n => vp_in i n ∧ am_S p g e R s m args below meth c Q ph nL (pc + 1) lv (.int (M.2.1 a i.toNatClampNeg) :: st) M cells slots) : am_S p g e R s m args below meth c Q ph nL pc lv (.int i :: .ref a :: st) M cells slots := by
  intro ls H locs hl hW hS
  obtain ⟨hx, hb, hml, hown, hts, hE, hbs, -⟩ := X
  obtain ⟨n, hM, hin, k⟩ := am_ar_of h
  show W p g.1 e R s m args below meth c H locs cells slots Q (F0 m pc ls (.int i :: .ref (am_ad g a) :: st.map (am_v g)))
  rw [am_ad_lt (hW.lt hM)]
  exact va_zald hx hb hE.1 hW.1 a 2 (am_at_i hM (by decide)) rfl hin hd (k ls H locs hl hW hS)
theorem am_s_cald (X : am_X p g s m args meth c own cc nL) {a : Nat} {i : Int32} (hd : decode cc pc = .ok (.caload, 1))
    (h : am_ar M a 3 fun n => vp_in i n ∧ am_S p g e R s m args below meth c Q ph nL (pc + 1) lv (.int (M.2.1 a i.toNatClampNeg) :: st) M cells slots) : am_S p g e R s m args below meth c Q ph nL pc lv (.int i :: .ref a :: st) M cells slots := by
  intro ls H locs hl hW hS
  obtain ⟨hx, hb, hml, hown, hts, hE, hbs, -⟩ := X
  obtain ⟨n, hM, hin, k⟩ := am_ar_of h
  show W p g.1 e R s m args below meth c H locs cells slots Q (F0 m pc ls (.int i :: .ref (am_ad g a) :: st.map (am_v g)))
  rw [am_ad_lt (hW.lt hM)]
  exact va_cald hx hb hE.1 hW.1 a 3 (am_at_i hM (by decide)) rfl hin hd (k ls H locs hl hW hS)
theorem am_s_lald (X : am_X p g s m args meth c own cc nL) {a : Nat} {i : Int32} (hd : decode cc pc = .ok (.laload, 1))
    (h : am_ar M a 1 fun n => vp_in i n ∧ am_S p g e R s m args below meth c Q ph nL (pc + 1) lv (.long (M.2.2 a i.toNatClampNeg) :: st) M cells slots) : am_S p g e R s m args below meth c Q ph nL pc lv (.int i :: .ref a :: st) M cells slots := by
  intro ls H locs hl hW hS
  obtain ⟨hx, hb, hml, hown, hts, hE, hbs, -⟩ := X
  obtain ⟨n, hM, hin, k⟩ := am_ar_of h
  show W p g.1 e R s m args below meth c H locs cells slots Q (F0 m pc ls (.int i :: .ref (am_ad g a) :: st.map (am_v g)))
  rw [am_ad_lt (hW.lt hM)]
  exact va_lald hx hb hE.1 hW.1 a 1 (am_at_j hM) rfl hin hd (k ls H locs hl hW hS)
theorem am_s_iast (X : am_X p g s m args meth c own cc nL) {a : Nat} {i x : Int32} (hd : decode cc pc = .ok (.iastore, 1)) (hph : ph = 1)
    (h : am_ar M a 0 fun n => vp_in i n ∧ am_S p g e R s m args below meth c Q ph nL (pc + 1) lv st (am_puti M a i.toNatClampNeg x) cells slots) : am_S p g e R s m args below meth c Q ph nL pc lv (.int x :: .int i :: .ref a :: st) M cells slots := by
  subst hph
  intro ls H locs hl hW hS
  obtain ⟨hx, hb, hml, hown, hts, hE, hbs, -⟩ := X
  obtain ⟨n, hM, hin, k⟩ := am_ar_of h
  show W p g.1 e R s m args below meth c H locs cells slots Q (F0 m pc ls (.int x :: .int i :: .ref (am_ad g a) :: st.map (am_v g)))
  rw [am_ad_lt (hW.lt hM)]
  refine va_iast hx hb hE.1 hW.1 (am_D g M) hS a 0 (am_at_i hM (by decide)) rfl hin hd fun H1 locs1 hP _ hS1 => ?_
  exact k ls H1 locs1 hl (am_set_W1 hW hbs (am_img_sti hM (by decide)) rfl hS1 hP) hS1
theorem am_s_bast (X : am_X p g s m args meth c own cc nL) {a : Nat} {i x : Int32} (hd : decode cc pc = .ok (.bastore, 1)) (hph : ph = 1) (hxx : x = 0 ∨ x = 1)
    (h : am_ar M a 2 fun n => vp_in i n ∧ am_S p g e R s m args below meth c Q ph nL (pc + 1) lv st (am_puti M a i.toNatClampNeg x) cells slots) : am_S p g e R s m args below meth c Q ph nL pc lv (.int x :: .int i :: .ref a :: st) M cells slots := by
  subst hph
  intro ls H locs hl hW hS
  obtain ⟨hx, hb, hml, hown, hts, hE, hbs, -⟩ := X
  obtain ⟨n, hM, hin, k⟩ := am_ar_of h
  show W p g.1 e R s m args below meth c H locs cells slots Q (F0 m pc ls (.int x :: .int i :: .ref (am_ad g a) :: st.map (am_v g)))
  rw [am_ad_lt (hW.lt hM)]
  have hnx : vp_nar .boolean x = x := by rcases hxx with rfl | rfl <;> rfl
  refine va_zast hx hb hE.1 hW.1 (am_D g M) hS a 2 (am_at_i hM (by decide)) rfl hin hd fun H1 locs1 hP _ hS1 => ?_
  rw [hnx] at hP
  exact k ls H1 locs1 hl (am_set_W1 hW hbs (am_img_sti hM (by decide)) rfl hS1 hP) hS1
theorem am_s_last (X : am_X p g s m args meth c own cc nL) {a : Nat} {i : Int32} {x : Int64} (hd : decode cc pc = .ok (.lastore, 1)) (hph : ph = 1)
    (h : am_ar M a 1 fun n => vp_in i n ∧ am_S p g e R s m args below meth c Q ph nL (pc + 1) lv st (am_putj M a i.toNatClampNeg x) cells slots) : am_S p g e R s m args below meth c Q ph nL pc lv (.long x :: .int i :: .ref a :: st) M cells slots := by
  subst hph
  intro ls H locs hl hW hS
  obtain ⟨hx, hb, hml, hown, hts, hE, hbs, -⟩ := X
  obtain ⟨n, hM, hin, k⟩ := am_ar_of h
  show W p g.1 e R s m args below meth c H locs cells slots Q (F0 m pc ls (.long x :: .int i :: .ref (am_ad g a) :: st.map (am_v g)))
  rw [am_ad_lt (hW.lt hM)]
  refine va_last hx hb hE.1 hW.1 (am_D g M) hS a 1 (am_at_j hM) rfl hin hd fun H1 locs1 hP _ hS1 => ?_
  exact k ls H1 locs1 hl (am_set_W1 hW hbs (am_img_stj hM) rfl hS1 hP) hS1
theorem am_s_cast (X : am_X p g s m args meth c own cc nL) {a : Nat} {i x : Int32} (hd : decode cc pc = .ok (.castore, 1)) (hnx : vp_nar .char x = x)
    (h : am_ar M a 3 fun n => vp_in i n ∧ am_S p g e R s m args below meth c Q ph nL (pc + 1) lv st (am_puti M a i.toNatClampNeg x) cells slots) : am_S p g e R s m args below meth c Q ph nL pc lv (.int x :: .int i :: .ref a :: st) M cells slots := by
  intro ls H locs hl hW hS
  obtain ⟨hx, hb, hml, hown, hts, hE, hbs, -⟩ := X
  obtain ⟨n, hM, hin, k⟩ := am_ar_of h
  show W p g.1 e R s m args below meth c H locs cells slots Q (F0 m pc ls (.int x :: .int i :: .ref (am_ad g a) :: st.map (am_v g)))
  rw [am_ad_lt (hW.lt hM)]
  have ha := am_at_i (g := g) hM (by decide)
  refine W.cast hx hb (hW.1 a _ ha) ((hE.1.2 3 _ rfl).1 n (fun j => .int (M.2.1 a j))) (fun q => by cases q) (by show ¬ (i < 0 ∨ (arrV _ _ _).slots.size ≤ _); rw [arrV_size]; exact hin) rfl rfl hd fun H1 e z oq => ?_
  refine k ls H1 _ hl (am_set_W (e' := .inl (g.2.2.2.2.2 3, n, .inl (upd (M.2.1 a) i.toNatClampNeg x))) hW (am_img_sti hM (by decide)) rfl z (hW.1.set (am_D g M) ha ?_ oq)) (hS.put z oq (Nat.le_add_right _ _))
  show H1[g.2.1 + a]? = some (vp_cell _ _)
  rw [e]
  rw [vp_cell_i, vp_cell_i, arrV_store]
  congr 2
  funext q
  by_cases hq : q = i.toNatClampNeg
  · subst hq
    simp only [updV, upd, if_true]
    simp only [vp_nar] at hnx
    generalize hz9 : narrow FieldType.char (Value.int x) = z9 at hnx ⊢
    cases z9 with
    | int y => simp only at hnx; rw [hnx]
    | _ => simp [narrow] at hz9
  · simp [updV, upd, hq]
theorem am_s_sld (X : am_X p g s m args meth c own cc nL) {i : Int32} {L : Nat} {xs : Nat → Int32} (hX : va_X g.2.2.2.1 L xs s s.heap) (hbl : g.2.2.2.1 < s.heap.size) (hbA : ¬ am_A g g.2.2.2.1) (hd : decode cc pc = .ok (.iaload, 1))
    (hin : vp_in i L) (k : am_S p g e R s m args below meth c Q ph nL (pc + 1) lv (.int (xs i.toNatClampNeg) :: st) M cells slots) : am_S p g e R s m args below meth c Q ph nL pc lv (.int i :: .ref 999 :: st) M cells slots := by
  intro ls H locs hl hW hS
  obtain ⟨hx, hb, -⟩ := X
  exact va_sld hx hb hX hbl hbA hS hin hd (k ls H locs hl hW hS)
theorem am_s_slen (X : am_X p g s m args meth c own cc nL) {L : Nat} {xs : Nat → Int32} (hX : va_X g.2.2.2.1 L xs s s.heap) (hbl : g.2.2.2.1 < s.heap.size) (hbA : ¬ am_A g g.2.2.2.1) (hd : decode cc pc = .ok (.arraylength, 1))
    (k : am_S p g e R s m args below meth c Q ph nL (pc + 1) lv (.int (Int32.ofNat L) :: st) M cells slots) : am_S p g e R s m args below meth c Q ph nL pc lv (.ref 999 :: st) M cells slots := by
  intro ls H locs hl hW hS
  obtain ⟨hx, hb, -⟩ := X
  exact va_slen hx hb hX hbl hbA hS hd (k ls H locs hl hW hS)
theorem am_s_alen (X : am_X p g s m args meth c own cc nL) {a t n : Nat} (hM : M.1[a]? = some (.inl (t, n))) (ht : t < 4) (hd : decode cc pc = .ok (.arraylength, 1))
    (k : am_S p g e R s m args below meth c Q ph nL (pc + 1) lv (.int (Int32.ofNat n) :: st) M cells slots) : am_S p g e R s m args below meth c Q ph nL pc lv (.ref a :: st) M cells slots := by
  intro ls H locs hl hW hS
  obtain ⟨hx, hb, hml, hown, hts, hE, hbs, -⟩ := X
  show W p g.1 e R s m args below meth c H locs cells slots Q (F0 m pc ls (.ref (am_ad g a) :: st.map (am_v g)))
  rw [am_ad_lt (hW.lt hM)]
  have hty : (am_tys g)[t]? = some (g.2.2.2.2.2 t, am_ty t) := by
    match t, ht with
    | 0, _ => rfl
    | 1, _ => rfl
    | 2, _ => rfl
    | 3, _ => rfl
  exact va_alen hx hb hE.1 hW.1 a t (am_img_at hM) hty rfl hd (k ls H locs hl hW hS)
theorem am_s_ldc (X : am_X p g s m args meth c own cc nL) {i index : Nat} {tx : String} (hd : decode cc pc = .ok (.ldc index, 2)) (hi : am_strs[i]? = some (own, index, tx)) (k : am_S p g e R s m args below meth c Q ph nL (pc + 2) lv (.ref (1000 + i) :: st) M cells slots) : am_S p g e R s m args below meth c Q ph nL pc lv st M cells slots := by
  intro ls H locs hl hW hS
  obtain ⟨hx, hb, hml, hown, hts, hE, hbs, -⟩ := X
  have h1 : am_ad g (1000 + i) = g.2.2.1 i := by
    simp only [am_ad]
    rw [if_neg (by omega), if_neg (by omega), Nat.add_sub_cancel_left]
  have k1 := k ls H locs hl hW hS
  simp only [List.map_cons, am_v, h1] at k1
  exact va_ldcS hx hb hown (hE.2.1 i _ hi) hd k1
theorem am_s_ldcw (X : am_X p g s m args meth c own cc nL) {i index : Nat} {tx : String} (hd : decode cc pc = .ok (.ldc_w index, 3)) (hi : am_strs[i]? = some (own, index, tx)) (k : am_S p g e R s m args below meth c Q ph nL (pc + 3) lv (.ref (1000 + i) :: st) M cells slots) : am_S p g e R s m args below meth c Q ph nL pc lv st M cells slots := by
  intro ls H locs hl hW hS
  obtain ⟨hx, hb, hml, hown, hts, hE, hbs, -⟩ := X
  have h1 : am_ad g (1000 + i) = g.2.2.1 i := by
    simp only [am_ad]
    rw [if_neg (by omega), if_neg (by omega), Nat.add_sub_cancel_left]
  have k1 := k ls H locs hl hW hS
  simp only [List.map_cons, am_v, h1] at k1
  intro T hT Y
  obtain ⟨t, a1, b1⟩ := k1 T hT Y
  have hZ := hE.2.1 i _ hi
  exact ⟨t, Y.ldcStringW hx hown (text := tx) (a := g.2.2.1 i) hZ.1 hZ.2 (g := F0 m pc ls (st.map (am_v g))) rfl (by rw [hb]; exact hd) t a1, b1⟩
theorem am_s_ldc2 (X : am_X p g s m args meth c own cc nL) {index : Nat} {v : Int64} (hd : decode cc pc = .ok (.ldc2_w index, 3)) (hi : Cond.constantLong own index v ∈ am_T) (k : am_S p g e R s m args below meth c Q ph nL (pc + 3) lv (.long v :: st) M cells slots) : am_S p g e R s m args below meth c Q ph nL pc lv st M cells slots := by
  intro ls H locs hl hW hS
  obtain ⟨hx, hb, hml, hown, hts, hE, hbs, -⟩ := X
  exact lv_ldc2 hx hb hown (hts _ hi) hd (k ls H locs hl hW hS)
theorem am_s_objInit (X : am_X p g s m args meth c own cc nL) {a index : Nat} (hd : decode cc pc = .ok (.invokespecial index, 3)) (h1 : Cond.methodLink own index objectInit ∈ am_T) (h2 : Cond.instanceMethod objectInit ∈ am_T) (h3 : Cond.code objectInit ⟨#[0xb1]⟩ 1 none ∈ am_T) (hfr : 1 ≤ R.frames) (hlo : 20 ≤ R.locals) (hst : am_sum st ≤ 8)
    (k : am_S p g e R s m args below meth c Q ph nL (pc + 3) lv st M cells slots) : am_S p g e R s m args below meth c Q ph nL pc lv (.ref a :: st) M cells slots := by
  intro ls H locs hl hW hS
  obtain ⟨hx, hb, hml, hown, hts, hE, hbs, -⟩ := X
  have h8 : 2 * (F0 m pc ls ((Value.ref a :: st).map (am_v g))).monitorRoom + ((st.map (am_v g)).map fun v => v.category).sum ≤ 8 := lv_room (m := m) (pc := pc) (ls := ls) (rest := (Value.ref a :: st).map (am_v g)) (by
    have := am_sum_v g st
    unfold am_sum at this hst
    omega)
  exact W.objInit hx hb hown (hts _ h1) (hts _ h2) (hts _ h3) rfl (by rw [hml]; exact hl.1) rfl hd hfr (by omega) (k ls H locs hl hW hS)
end AMA
