section AMP
variable {p : Program} {g : am_G} {e : Env} {R : Room} {s : State} {m : MethodId} {args : Array Value} {below : List Frame} {meth : Method} {c : Code} {Q : State → Prop} {ph nL pc : Nat} {lv : am_L} {st : List Value} {M : am_M} {cells slots : Nat} {cc : ByteArray} {own : String}
/-- behind a store in the later phase the memory is held -/
theorem am_set_W1 {H H1 : Heap} {a : Nat} {M' : am_M} {e' : va_E} {locs1 : List Loc} (hW : am_W g 1 M H) (hbs : g.2.1 ≤ s.heap.size) (hs : (am_img g M).set a (g.2.1 + a, e') = am_img g M') (hl : M'.1.length = M.1.length) (hS : va_S (am_A g) s.heap H1 locs1) (hP : va_P g.2.2.2.2.1 vwCl ((am_img g M).set a (g.2.1 + a, e')) H1) : am_W g 1 M' H1 := by
  rw [hs] at hP
  refine ⟨hP, ?_, fun h => (by cases h), by rw [hl]; exact hW.2.2.2⟩
  by_cases h0 : M'.1.length = 0
  · have := hS.1
    omega
  · have h1 : M'.1.length - 1 < M'.1.length := by omega
    have h2 := hP (M'.1.length - 1) _ (am_img_at (List.getElem?_eq_getElem h1))
    have h3 := h2.lt
    have h3 : g.2.1 + (M'.1.length - 1) < H1.size := h3
    omega
theorem am_fs_lt {f : Nat → Int32} {fl : List (Option (Option Nat))} {k : Nat} (h : k < fl.length) : k < (am_fs g f 0 fl).length := by rw [am_fs_len]; exact h
/-- a field that is not final, the heap's size kept -/
theorem am_put0 {a k ci index : Nat} {fl : List (Option (Option Nat))} {v : Value} {ty : FieldType} {C : String} {T : u_T} {N : Nat} {H : Heap} {locs : List Loc} {ls : Array Slot} {rest : List Value} (X : am_X p g s m args meth c own cc nL) (hd : decode cc pc = .ok (.putfield index, 3)) (hc : vwCl[ci]? = some (C, T, N)) (hk : k < N)
    (hlink : Cond.fieldLink own index (T k).1 (T k).2.1 (T k).2.2.1 ∈ am_T) (hfin : (T k).2.2.2 = false) (hpd : parseFieldDescriptor (T k).2.2.1 = some ty) (hn : narrow ty v = v) (hfit : fits ty v = true) (hM : M.1[a]? = some (.inr (ci, fl))) (hl : k < fl.length) (hW : am_W g ph M H) (hS0 : va_S (am_A g) s.heap H locs)
    (kk : ∀ (H1 : Heap) (locs1 : List Loc), va_P g.2.2.2.2.1 vwCl ((am_img g M).set a (g.2.1 + a, .inr (ci, (am_fs g (M.2.1 a) 0 fl).set k v))) H1 → H1.size = H.size → va_S (am_A g) s.heap H1 locs1 → W p g.1 e R s m args below meth c H1 locs1 cells slots Q (F0 m (pc + 3) ls rest)) : W p g.1 e R s m args below meth c H locs cells slots Q (F0 m pc ls (v :: .ref (g.2.1 + a) :: rest)) := by
  obtain ⟨hx, hb, hml, hown, hts, hE, hbs, -⟩ := X
  obtain ⟨hin, ty0, hty, hnm⟩ := am_cls_all ci _ hc
  have hap := va_apart (own := own) hts hin ty0 hty hnm hE.1 hc
  have he := am_img_at (g := g) hM
  obtain ⟨r, h1, cell, q1, q2, q3, q4⟩ := hW.1 a _ he
  have hr : r = (C, T, N) := Option.some.inj (h1.symm.trans hc)
  subst hr
  obtain ⟨hS, hfc, kC, hkC, hkind⟩ := hE.1.1 ci _ hc
  obtain ⟨cf, kf, fi, f, hi, hsl⟩ := hS k hk
  have hlay := hts _ (hin _ (u_in_lay hk))
  unfold u_lay at hlay
  rw [if_neg (by rw [hfin]; decide)] at hlay
  have hst := (u_facts hfc hkC (u_lays hts hin hk) hi).1
  have h6 := u_store hfc hkC hkind hlay hi hpd hn hfit
  refine W.putK hx hb (f := f) ⟨hown, hts _ hlink, ⟨_, _, _, hi⟩, hst⟩ (by rw [q2]; exact h6) q1 q3 (by rw [hsl]; exact k2_hasslot (q4 k hk)) rfl rfl hd fun H' e1 e2 e3 => ?_
  rw [hsl] at e1 ⊢
  exact kk H' _ (hW.1.set (am_D g M) he ⟨_, hc, t_OB.to (V := updV (vp_V _) k v) ⟨_, e1, q2, q3, t_set q4 hap hk v⟩ (fun j _ => vp_updV_set (am_fs_lt hl) v j)⟩ e3) e2 (hS0.put e2 e3 (Nat.le_add_right _ _))
/-- a final field in a constructor, the heap's size kept -/
theorem am_putF0 {a k ci index : Nat} {fl : List (Option (Option Nat))} {v : Value} {ty : FieldType} {C : String} {T : u_T} {N : Nat} {H : Heap} {locs : List Loc} {ls : Array Slot} {rest : List Value} (X : am_X p g s m args meth c own cc nL) (hin2 : meth.name = "<init>") (hd : decode cc pc = .ok (.putfield index, 3)) (hc : vwCl[ci]? = some (C, T, N)) (hk : k < N)
    (hlink : Cond.fieldLink own index (T k).1 (T k).2.1 (T k).2.2.1 ∈ am_T) (hfin : (T k).2.2.2 = true) (hdecl : (T k).1 = own) (hpd : parseFieldDescriptor (T k).2.2.1 = some ty) (hn : narrow ty v = v) (hfit : fits ty v = true) (hM : M.1[a]? = some (.inr (ci, fl))) (hl : k < fl.length) (hW : am_W g ph M H) (hS0 : va_S (am_A g) s.heap H locs)
    (kk : ∀ (H1 : Heap) (locs1 : List Loc), va_P g.2.2.2.2.1 vwCl ((am_img g M).set a (g.2.1 + a, .inr (ci, (am_fs g (M.2.1 a) 0 fl).set k v))) H1 → H1.size = H.size → va_S (am_A g) s.heap H1 locs1 → W p g.1 e R s m args below meth c H1 locs1 cells slots Q (F0 m (pc + 3) ls rest)) : W p g.1 e R s m args below meth c H locs cells slots Q (F0 m pc ls (v :: .ref (g.2.1 + a) :: rest)) := by
  obtain ⟨hx, hb, hml, hown, hts, hE, hbs, -⟩ := X
  obtain ⟨hin, ty0, hty, hnm⟩ := am_cls_all ci _ hc
  have hap := va_apart (own := own) hts hin ty0 hty hnm hE.1 hc
  have he := am_img_at (g := g) hM
  obtain ⟨r, h1, cell, q1, q2, q3, q4⟩ := hW.1 a _ he
  have hr : r = (C, T, N) := Option.some.inj (h1.symm.trans hc)
  subst hr
  obtain ⟨hS, hfc, kC, hkC, hkind⟩ := hE.1.1 ci _ hc
  obtain ⟨cf, kf, fi, f, hi, hsl⟩ := hS k hk
  have hlay := hts _ (hin _ (u_in_lay hk))
  unfold u_lay at hlay
  rw [if_pos hfin] at hlay
  have hst := (u_facts hfc hkC (u_lays hts hin hk) hi).1
  have hcf : m.cls = cf := by
    obtain ⟨_, _, c', _, _, _, -, -, hf', -, -, -, hown2, -⟩ := Cond.laysFinal_spec hlay
    have e1 : c' = cf := by have := hi.symm.trans hf'; simp at this; exact this.1.symm
    rw [hdecl] at hown2
    rw [← e1]; exact Option.some.inj (hown.symm.trans hown2)
  have h6 := u_fits hfc hkC hkind (Or.inr hlay) hi hpd hn hfit
  refine W.putFinK hx hb hown (hts _ hlink) hi hst hcf hin2 (by rw [q2]; exact h6) q1 q3 (by rw [hsl]; exact k2_hasslot (q4 k hk)) rfl rfl hd fun H' e1 e2 e3 => ?_
  rw [hsl] at e1 ⊢
  exact kk H' _ (hW.1.set (am_D g M) he ⟨_, hc, t_OB.to (V := updV (vp_V _) k v) ⟨_, e1, q2, q3, t_set q4 hap hk v⟩ (fun j _ => vp_updV_set (am_fs_lt hl) v j)⟩ e3) e2 (hS0.put e2 e3 (Nat.le_add_right _ _))
/-- the kinds of stores into fields: 0 own, 1 nest mate, both of numbers; 2 own, final, of references -/
def am_pf (own : String) (index ci k e3 : Nat) : Prop := ∃ (C : String) (T : u_T) (N : Nat) (ty : FieldType), vwCl[ci]? = some (C, T, N) ∧ k < N ∧ parseFieldDescriptor (T k).2.2.1 = some ty ∧
  ((e3 / 10 = 0 ∧ (T k).2.2.2 = false ∧ (ty = .int ∨ (ty = .boolean ∧ e3 % 10 = 1)) ∧ Cond.fieldLink own index (T k).1 (T k).2.1 (T k).2.2.1 ∈ am_T) ∨
   (e3 / 10 = 1 ∧ (T k).2.2.2 = false ∧ (ty = .int ∨ (ty = .boolean ∧ e3 % 10 = 1)) ∧ ∃ host, Cond.fieldLinkNest own index (T k).1 (T k).2.1 (T k).2.2.1 host ∈ am_N) ∨
   (e3 / 10 = 2 ∧ (T k).2.2.2 = true ∧ (T k).1 = own ∧ ((∃ n, ty = .object n) ∨ ∃ t, ty = .array t) ∧ Cond.fieldLink own index (T k).1 (T k).2.1 (T k).2.2.1 ∈ am_T))
theorem am_nar {ty : FieldType} {v : Int32} {e3 : Nat} (h : ty = .int ∨ (ty = .boolean ∧ e3 % 10 = 1)) (hv : e3 % 10 = 1 → v = 0 ∨ v = 1) : narrow ty (.int v) = .int v ∧ fits ty (.int v) = true := by
  rcases h with rfl | ⟨rfl, h⟩
  · exact ⟨rfl, rfl⟩
  · rcases hv h with rfl | rfl <;> exact ⟨rfl, rfl⟩
theorem am_narR {ty : FieldType} {a : Nat} (h : (∃ n, ty = .object n) ∨ ∃ t, ty = .array t) : narrow ty (.ref a) = .ref a ∧ fits ty (.ref a) = true := by
  rcases h with ⟨n, rfl⟩ | ⟨t, rfl⟩ <;> exact ⟨rfl, rfl⟩
theorem am_s_puti (X : am_X p g s m args meth c own cc nL) {a ci k index e3 : Nat} {v : Int32} (hd : decode cc pc = .ok (.putfield index, 3)) (hf : am_pf own index ci k e3)
    (h1 : ∃ fl, M.1[a]? = some (.inr (ci, fl)) ∧ fl[k]? = some none) (h2 : e3 % 10 = 1 → v = 0 ∨ v = 1) (h3 : e3 / 10 = 1 → ph = 1) (h4 : e3 / 10 ≠ 2)
    (kk : am_S p g e R s m args below meth c Q ph nL (pc + 3) lv st (am_puti M a k v) cells slots) : am_S p g e R s m args below meth c Q ph nL pc lv (.int v :: .ref a :: st) M cells slots := by
  intro ls H locs hl hW hS
  obtain ⟨fl, hM, hfl⟩ := h1
  obtain ⟨C, T, N, ty, hc, hk, hpd, hr⟩ := hf
  have hlt := hW.lt hM
  have hlen : k < fl.length := (List.getElem?_eq_some_iff.mp hfl).1
  show W p g.1 e R s m args below meth c H locs cells slots Q (F0 m pc ls (.int v :: .ref (am_ad g a) :: st.map (am_v g)))
  rw [am_ad_lt hlt]
  rcases hr with ⟨e0, hfin, hty, hlink⟩ | ⟨e0, hfin, hty, host, hlink⟩ | ⟨e0, -⟩
  · obtain ⟨n1, n2⟩ := am_nar hty h2
    refine am_put0 X hd hc hk hlink hfin hpd n1 n2 hM hlen hW hS fun H1 locs1 hP hz hS1 => ?_
    exact kk ls H1 locs1 hl (am_set_W hW (am_img_puti hM hfl) rfl hz hP) hS1
  · obtain ⟨n1, n2⟩ := am_nar hty h2
    have hph := h3 e0
    subst hph
    obtain ⟨hx, hb, hml, hown, hts, hE, hbs, -⟩ := X
    obtain ⟨hin, ty0, hty0, hnm⟩ := am_cls_all ci _ hc
    refine va_putN hx hb hts hin ty0 hty0 hnm hown hE.1 hW.1 (am_D g M) hS a (am_img_at hM) hc k hk (va_Nw.use rfl (hE.2.2.2.2.2.2.2.1 _ hlink)) (fun _ h9 => h9) hfin hpd n1 n2 (am_fs_lt hlen) hd fun H1 locs1 hP _ hS1 => ?_
    exact kk ls H1 locs1 hl (am_set_W1 hW hbs (am_img_puti hM hfl) rfl hS1 hP) hS1
  · exact absurd e0 h4
theorem am_s_putr (X : am_X p g s m args meth c own cc nL) {a b ci k index e3 : Nat} (hin2 : meth.name = "<init>") (hd : decode cc pc = .ok (.putfield index, 3)) (hf : am_pf own index ci k e3) (h4 : e3 / 10 = 2)
    (h1 : ∃ fl, M.1[a]? = some (.inr (ci, fl)) ∧ k < fl.length)
    (kk : am_S p g e R s m args below meth c Q ph nL (pc + 3) lv st (am_putr M a k b) cells slots) : am_S p g e R s m args below meth c Q ph nL pc lv (.ref b :: .ref a :: st) M cells slots := by
  intro ls H locs hl hW hS
  obtain ⟨fl, hM, hlen⟩ := h1
  obtain ⟨C, T, N, ty, hc, hk, hpd, hr⟩ := hf
  have hlt := hW.lt hM
  show W p g.1 e R s m args below meth c H locs cells slots Q (F0 m pc ls (.ref (am_ad g b) :: .ref (am_ad g a) :: st.map (am_v g)))
  rw [am_ad_lt hlt]
  rcases hr with ⟨e0, -⟩ | ⟨e0, -⟩ | ⟨e0, hfin, hdecl, hty, hlink⟩
  · omega
  · omega
  · obtain ⟨n1, n2⟩ := am_narR (a := am_ad g b) hty
    refine am_putF0 X hin2 hd hc hk hlink hfin hdecl hpd n1 n2 hM hlen hW hS fun H1 locs1 hP hz hS1 => ?_
    exact kk ls H1 locs1 hl (am_set_W hW (am_img_putr hM) (by simp [am_putr]) hz hP) hS1
end AMP
