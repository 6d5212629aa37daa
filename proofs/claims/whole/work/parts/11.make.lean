section AMK
variable {p : Program} {g : am_G} {e : Env} {R : Room} {s : State} {m : MethodId} {args : Array Value} {below : List Frame} {meth : Method} {c : Code} {Q : State → Prop} {ph nL pc : Nat} {lv : am_L} {st : List Value} {M : am_M} {cells slots : Nat} {cc : ByteArray} {own : String}
theorem am_s_tsw (X : am_X p g s m args meth c own cc nL) {x : Int32} {d lo hi : Int} {offs : Array Int} {len : Nat} (hd : decode cc pc = .ok (.tableswitch d lo hi offs, len)) (hsz : hi + 1 = lo + offs.size) (hr : ∀ j : Nat, j < offs.size → (Int32.ofInt (lo + j)).toInt = lo + j) (hn : 0 ≤ (pc : Int) + d) (ho : ∀ o ∈ offs.toList, 0 ≤ (pc : Int) + o)
    (h : am_tsw x (fun t => am_S p g e R s m args below meth c Q ph nL t lv st M cells slots) pc d lo offs.toList) : am_S p g e R s m args below meth c Q ph nL pc lv (.int x :: st) M cells slots := by
  obtain ⟨hx, hb, -⟩ := X
  intro ls H locs hl hW hS
  have key : ∀ (r : List Int) (k : Nat), offs.toList.drop k = r → (∀ j : Nat, j < k → j < offs.size → ¬ x.toInt = lo + j) → am_tsw x (fun t => am_S p g e R s m args below meth c Q ph nL t lv st M cells slots) pc d (lo + k) r → W p g.1 e R s m args below meth c H locs cells slots Q (F0 m pc ls ((Value.int x :: st).map (am_v g))) := by
    intro r
    induction r with
    | nil =>
      intro k hk hne hr9
      have hk2 : offs.size ≤ k := by
        have := List.drop_eq_nil_iff.mp hk
        simpa using this
      refine lv_tableOut (tgt := ((pc : Int) + d).toNat) hx hb hd ?_ (by omega) (hr9 ls H locs hl hW hS)
      by_cases h1 : x.toInt < lo
      · exact Or.inl h1
      · refine Or.inr (Int.not_le.mp fun h2 => ?_)
        have h3 : (x.toInt - lo).toNat < offs.size := by omega
        exact hne (x.toInt - lo).toNat (by omega) h3 (by omega)
    | cons o r ih =>
      intro k hk hne hr9
      obtain ⟨q1, q2⟩ := hr9
      have hklt : k < offs.toList.length := by
        apply Nat.not_le.mp
        intro h0
        rw [List.drop_eq_nil_iff.mpr h0] at hk
        cases hk
      have hk0 : offs.toList[k]? = some o := by
        have := List.getElem?_drop (xs := offs.toList) (i := k) (j := 0)
        rw [hk] at this
        simpa using this.symm
      have hks : k < offs.size := by simpa using hklt
      by_cases hxk : x = Int32.ofInt (lo + k)
      · have hxt : x.toInt = lo + k := by rw [hxk]; exact hr k hks
        have hom : o ∈ offs.toList := List.mem_of_getElem? hk0
        have ho9 := ho o hom
        refine lv_tableIn (off := o) (tgt := ((pc : Int) + o).toNat) hx hb hd (by omega) (by omega) ?_ (by omega) (q1 hxk ls H locs hl hW hS)
        rw [hxt, show (lo + (k : Int) - lo).toNat = k by omega]
        rw [← Array.getElem?_toList]
        exact hk0
      · refine ih (k + 1) ?_ (fun j hj hjs => ?_) (by have := q2 hxk; rw [show lo + ((k + 1 : Nat) : Int) = lo + (k : Int) + 1 by omega]; exact this)
        · rw [← List.drop_drop, hk]; rfl
        · by_cases hjk : j = k
          · subst hjk
            intro h0
            exact hxk (Int32.toInt_inj.mp (by rw [h0]; exact (hr j hks).symm))
          · exact hne j (by omega) hjs
  exact key offs.toList 0 rfl (fun j hj => by omega) (by simpa using h)
theorem am_lsw_off {x : Int32} {P : Nat → Prop} {d : Int} : ∀ (l : List (Int × Int)), (∀ q ∈ l, (Int32.ofInt q.1).toInt = q.1) → am_lsw x P pc d l → P ((pc : Int) + Op.lookupswitch.offset l d x.toInt).toNat
  | [], _, h => h
  | q :: r, hr, h => by
    obtain ⟨h1, h2⟩ := h
    have hq := hr q List.mem_cons_self
    by_cases hx : x = Int32.ofInt q.1
    · have : x.toInt = q.1 := by rw [hx]; exact hq
      have h3 : Op.lookupswitch.offset (q :: r) d x.toInt = q.2 := by
        obtain ⟨a, o⟩ := q
        simp [Op.lookupswitch.offset, this]
      rw [h3]
      exact h1 hx
    · have h3 : ¬ x.toInt = q.1 := fun h0 => hx (Int32.toInt_inj.mp (by rw [h0]; exact hq.symm))
      have h4 : Op.lookupswitch.offset (q :: r) d x.toInt = Op.lookupswitch.offset r d x.toInt := by
        obtain ⟨a, o⟩ := q
        simp only [Op.lookupswitch.offset]
        first | rw [if_neg (fun h0 => h3 h0.symm)] | rw [if_neg h3] | (simp; intro h0; exact absurd h0.symm h3)
      rw [h4]
      exact am_lsw_off r (fun q hq => hr q (List.mem_cons_of_mem _ hq)) (h2 hx)
theorem am_s_lsw (X : am_X p g s m args meth c own cc nL) {x : Int32} {d : Int} {ps : Array (Int × Int)} {len : Nat} (hd : decode cc pc = .ok (.lookupswitch d ps, len)) (hp : (ps.toList.zip (ps.toList.drop 1)).all (fun (a, next) => a.1 < next.1) = true) (hr : ∀ q ∈ ps.toList, (Int32.ofInt q.1).toInt = q.1) (ho : ∀ z : Int, 0 ≤ (pc : Int) + Op.lookupswitch.offset ps.toList d z)
    (h : am_lsw x (fun t => am_S p g e R s m args below meth c Q ph nL t lv st M cells slots) pc d ps.toList) : am_S p g e R s m args below meth c Q ph nL pc lv (.int x :: st) M cells slots := by
  obtain ⟨hx, hb, -⟩ := X
  intro ls H locs hl hW hS
  have h1 := am_lsw_off ps.toList hr h
  have h2 := ho x.toInt
  exact lv_lookup (tgt := ((pc : Int) + Op.lookupswitch.offset ps.toList d x.toInt).toNat) hx hb hd hp rfl (by omega) (h1 ls H locs hl hW hS)
theorem am_new_W {H H1 : Heap} {x : am_Sh} (hW : am_W g 0 M H) (hlen : M.1.length + 1 < 900) (hz : H1.size = H.size + 1) (hk : ∀ q : Nat, q < H.size → H1[q]? = H[q]?) (hat : va_at g.2.2.2.2.1 vwCl (g.2.1 + M.1.length, am_cel g (am_new M x).2.1 (am_new M x).2.2 M.1.length x) H1) : am_W g 0 (am_new M x) H1 := by
  have hl1 : (am_new M x).1.length = M.1.length + 1 := by simp [am_new]
  have hH := hW.2.2.1 rfl
  refine ⟨?_, by rw [hl1]; omega, fun _ => by rw [hl1]; omega, by rw [hl1]; exact hlen⟩
  rw [am_img_new]
  refine (hW.1.kept (fun k q hq => hk q.1 ((hW.1 k q hq).lt))).app (fun k q hq => ?_)
  have hz : k < 1 := (List.getElem?_eq_some_iff.mp hq).1
  rw [show k = 0 by omega] at hq
  cases hq
  exact hat
theorem am_s_newa (X : am_X p g s m args meth c own cc nL) {n : Int32} {t : Nat} {atype : ArrayType} (hd : decode cc pc = .ok (.newarray atype, 2)) (hph : ph = 0) (ht : t < 4) (hty : newarray.typeOf atype = am_ty t) (harr : Cond.arrayClass (am_ty t) ∈ am_T) (hlen : M.1.length + 1 < 900) (hn : ¬ n < 0) (hsm : n.toNatClampNeg ≤ 1000000) (hc1 : cells + 1 ≤ R.cells) (hs1 : slots + n.toNatClampNeg ≤ R.slots)
    (k : am_S p g e R s m args below meth c Q ph nL (pc + 2) lv (.ref M.1.length :: st) (am_new M (.inl (t, n.toNatClampNeg))) (cells + 1) (slots + n.toNatClampNeg)) : am_S p g e R s m args below meth c Q ph nL pc lv (.int n :: st) M cells slots := by
  subst hph
  intro ls H locs hl hW hS
  obtain ⟨hx, hb, hml, hown, hts, hE, hbs, -⟩ := X
  have hH := hW.2.2.1 rfl
  have hby : n.toNatClampNeg * componentBytes (newarray.typeOf atype) ≤ 536870912 := by
    have : componentBytes (newarray.typeOf atype) ≤ 8 := by
      rw [hty]
      match t, ht with
      | 0, _ => decide
      | 1, _ => decide
      | 2, _ => decide
      | 3, _ => decide
    calc n.toNatClampNeg * componentBytes (newarray.typeOf atype) ≤ 1000000 * 8 := Nat.mul_le_mul hsm this
      _ ≤ 536870912 := Nat.le_of_ble_eq_true rfl
  refine va_newaK hx hb (by rw [hty]; exact hts _ harr) rfl hd rfl hn rfl hby hc1 hs1 rfl fun H1 cA e1 z1 o1 hAr hNm => ?_
  have hcA : cA = g.2.2.2.2.2 t := by
    have hq : (am_tys g)[t]? = some (g.2.2.2.2.2 t, am_ty t) := by
      match t, ht with
      | 0, _ => rfl
      | 1, _ => rfl
      | 2, _ => rfl
      | 3, _ => rfl
    have h2 := (hE.1.2 t _ hq).2
    rw [hty] at hNm
    have h3 : s.vm.findClass ("[" ++ (am_ty t).toString) = some (g.2.2.2.2.2 t) := by
      match t, ht with
      | 0, _ => exact h2
      | 1, _ => exact h2
      | 2, _ => exact h2
      | 3, _ => exact h2
    exact Option.some.inj (hNm.symm.trans h3)
  subst hcA
  have k1 := k ls H1 locs hl (am_new_W hW hlen z1 o1 (by
    show H1[g.2.1 + M.1.length]? = some (vp_cell _ _)
    rw [← hH, e1, hty]
    match t, ht with
    | 0, _ => simp [vp_cell, am_new, am_rs, am_ty, defaultValue]
    | 1, _ => simp [vp_cell, am_new, am_rs, am_ty, defaultValue]
    | 2, _ => simp [vp_cell, am_new, am_rs, am_ty, defaultValue]
    | 3, _ => simp [vp_cell, am_new, am_rs, am_ty, defaultValue])) ⟨by have := hS.1; omega, fun q h1 h2 => (o1 q (Nat.lt_of_lt_of_le h1 hS.1)).trans (hS.2.1 q h1 h2), hS.2.2⟩
  simp only [List.map_cons, am_v] at k1
  rw [am_ad_lt (by omega), ← hH] at k1
  exact k1
/-- the fields of a new object -/
def am_dfo (T : u_T) (k : Nat) (x : Option (Option Nat)) : Bool := match parseFieldDescriptor (T k).2.2.1, x with
  | some .int, none => true
  | some .boolean, none => true
  | some (.object _), some none => true
  | some (.array _), some none => true
  | _, _ => false
def am_dfk (q : vw_C) (l : List (Option (Option Nat))) : Bool := l.length == q.2.2 && (List.range q.2.2).all (fun k => match l[k]? with
  | some x => am_dfo q.2.1 k x
  | none => false)
theorem am_s_new (X : am_X p g s m args meth c own cc nL) {index ci : Nat} {C : String} {T : u_T} {N : Nat} {fl : List (Option (Option Nat))} (hd : decode cc pc = .ok (.new index, 3)) (hph : ph = 0) (hc : vwCl[ci]? = some (C, T, N)) (hdf : am_dfk (C, T, N) fl = true) (h1 : Cond.classLink own index C ∈ am_T) (h2 : Cond.instantiable C N ∈ am_T) (h3 : Cond.initialized C ∈ am_T)
    (hlen : M.1.length + 1 < 900) (hc1 : cells + 1 ≤ R.cells) (hs1 : slots + fl.length ≤ R.slots)
    (k : am_S p g e R s m args below meth c Q ph nL (pc + 3) lv (.ref M.1.length :: st) (am_new M (.inr (ci, fl))) (cells + 1) (slots + fl.length)) : am_S p g e R s m args below meth c Q ph nL pc lv st M cells slots := by
  subst hph
  intro ls H locs hl hW hS
  obtain ⟨hx, hb, hml, hown, hts, hE, hbs, -⟩ := X
  obtain ⟨hin, ty, hty, hnm⟩ := am_cls_all ci _ hc
  have hH := hW.2.2.1 rfl
  have hKn := hE.1.1 ci _ hc
  simp only [am_dfk, Bool.and_eq_true, beq_iff_eq, List.all_eq_true, List.mem_range] at hdf
  obtain ⟨hlN, hdf⟩ := hdf
  rw [hlN] at hs1
  refine W.newcK hx hb hown (hts _ h1) (hts _ h2) (hts _ h3) rfl hd hc1 hs1 hKn.2.1 rfl fun H1 kC hkC e1 z1 o1 => ?_
  have k1 := k ls H1 locs hl (am_new_W hW hlen z1 o1 ⟨_, hc, by
    rw [hH] at e1
    refine (u_born ty hts hin hKn hkC e1 hty).to (fun j hj => ?_)
    have hj2 := hdf j hj
    show defaultValue (ty j) = (am_fs g _ 0 fl).getD j .null
    rw [List.getD_eq_getElem?_getD, am_fs_get]
    cases hfl : fl[j]? with
    | none => rw [hfl] at hj2; cases hj2
    | some x =>
      rw [hfl] at hj2
      simp only [am_dfo] at hj2
      have hz : (am_new M (Sum.inr (ci, fl))).2.1 M.1.length = fun _ => 0 := by simp [am_new, am_rs]
      rw [hz]
      have ht := hty j hj
      simp only at ht
      rw [ht] at hj2
      split at hj2
      · rename_i h9; rw [Option.some.inj h9]; rfl
      · rename_i h9; rw [Option.some.inj h9]; rfl
      · rename_i h9; rw [Option.some.inj h9]; rfl
      · rename_i h9; rw [Option.some.inj h9]; rfl
      · cases hj2⟩) ⟨by have := hS.1; omega, fun q h1 h2 => (o1 q (Nat.lt_of_lt_of_le h1 hS.1)).trans (hS.2.1 q h1 h2), hS.2.2⟩
  simp only [List.map_cons, am_v] at k1
  rw [am_ad_lt (by omega), ← hH, hlN] at k1
  exact k1
theorem am_s_copy (X : am_X p g s m args meth c own cc nL) {a b index : Nat} {sp dp n : Int32} (hd : decode cc pc = .ok (.invokestatic index, 3)) (hph : ph = 1) (h1 : Cond.methodLink own index arraycopyName ∈ am_T) (h2 : Cond.native arraycopyName ∈ am_T) (h3 : Cond.static arraycopyName ∈ am_T) (h4 : Cond.initialized "java/lang/System" ∈ am_T) (hfr : 1 ≤ R.frames) (hlo : 400 ≤ R.locals)
    (hst : am_sum st ≤ 8) (q1 : ¬ sp < 0) (q2 : ¬ dp < 0) (q3 : ¬ n < 0) (h : am_ar M b 0 fun n0 => am_ar M a 0 fun n1 => sp.toNatClampNeg + n.toNatClampNeg ≤ n0 ∧ dp.toNatClampNeg + n.toNatClampNeg ≤ n1 ∧ am_S p g e R s m args below meth c Q ph nL (pc + 3) lv st (M.1, am_rs M.2.1 a (va_cpy (M.2.1 b) (M.2.1 a) sp.toNatClampNeg dp.toNatClampNeg n.toNatClampNeg), M.2.2) cells slots) : am_S p g e R s m args below meth c Q ph nL pc lv (.int n :: .int dp :: .ref a :: .int sp :: .ref b :: st) M cells slots := by
  subst hph
  intro ls H locs hl hW hS
  obtain ⟨hx, hb, hml, hown, hts, hE, hbs, -⟩ := X
  obtain ⟨n0, hMb, h⟩ := am_ar_of h
  obtain ⟨n1, hMa, q4, q5, k⟩ := am_ar_of h
  show W p g.1 e R s m args below meth c H locs cells slots Q (F0 m pc ls (.int n :: .int dp :: .ref (am_ad g a) :: .int sp :: .ref (am_ad g b) :: st.map (am_v g)))
  rw [am_ad_lt (hW.lt hMa), am_ad_lt (hW.lt hMb)]
  refine va_copyi hx hb (by rw [hml]; exact hl.1.symm) hown (hts _ h1) (hts _ h2) (hts _ h3) (hts _ h4) hE.1 hW.1 (am_D g M) hS b a 0 0 (am_at_i hMb (by decide)) (am_at_i hMa (by decide)) rfl rfl rfl q1 q2 q3 q4 q5 (fun _ _ => rfl) hfr ?_ hd fun H1 locs1 hP _ hS1 => ?_
  · have h8 : ((st.map (am_v g)).map fun v => v.category).sum ≤ 8 := by
      have := am_sum_v g st
      unfold am_sum at this hst
      omega
    have h9 : nativeFrameWords "java/lang/System" "arraycopy" 5 + 11 ≤ 392 := by decide
    omega
  · refine k ls H1 locs1 hl (am_set_W1 hW hbs (am_set_eq hMa rfl (fun i hi => ⟨rfl, ?_, rfl⟩) ⟨_, hMa, ?_⟩) rfl hS1 hP) hS1
    · simp only [am_rs, if_neg hi]
    · simp [am_cel, am_rs]
end AMK
