def am_cls (q : vw_C) : Prop := (∀ w ∈ u_ws q.1 q.2.1 q.2.2, w ∈ am_T) ∧ ∃ ty : Nat → FieldType, (∀ k, k < q.2.2 → parseFieldDescriptor (q.2.1 k).2.2.1 = some (ty k)) ∧ ∀ a, a < q.2.2 → ∀ b, b < q.2.2 → a ≠ b → (q.2.1 a).2.1 ≠ (q.2.1 b).2.1
theorem am_cls_of {C : String} {T : u_T} {N : Nat} (hin : ∀ w ∈ u_ws C T N, w ∈ lw_tbl) (ty : Nat → FieldType) (h1 : ∀ k, k < N → parseFieldDescriptor (T k).2.2.1 = some (ty k)) (h2 : ∀ a, a < N → ∀ b, b < N → a ≠ b → (T a).2.1 ≠ (T b).2.1) : am_cls (C, T, N) := by
  refine ⟨fun w h => List.mem_filter.mpr ⟨hin w h, ?_⟩, ty, h1, h2⟩
  obtain ⟨k, -, rfl⟩ := List.mem_map.mp h
  unfold u_lay
  split <;> rfl
theorem am_cls_all : ∀ (ci : Nat) (q : vw_C), vwCl[ci]? = some q → am_cls q := by
  intro ci q h
  match ci, h with
  | 0, h => cases h; exact am_cls_of am_inX0 tyX0 tyX0_ok nmX0
  | 1, h => cases h; exact am_cls_of am_inX1 tyX1 tyX1_ok nmX1
  | 2, h => cases h; exact am_cls_of am_inX2 tyX2 tyX2_ok nmX2
  | 3, h => cases h; exact am_cls_of am_inX3 tyX3 tyX3_ok nmX3
  | 4, h => cases h; exact am_cls_of am_inX4 tyX4 tyX4_ok nmX4
  | 5, h => cases h; exact am_cls_of am_inX5 tyX5 tyX5_ok nmX5
  | 6, h => cases h; exact am_cls_of am_inX6 tyX6 tyX6_ok nmX6
  | 7, h => cases h; exact am_cls_of am_inX7 tyX7 tyX7_ok nmX7
  | 8, h => cases h; exact am_cls_of am_inX8 tyX8 tyX8_ok nmX8
  | 9, h => cases h; exact am_cls_of am_inX9 tyX9 tyX9_ok nmX9
  | 10, h => cases h; exact am_cls_of am_inX10 tyX10 tyX10_ok nmX10
  | n + 11, h => simp at h
/-- a field's link: of the class itself, or of a nest mate -/
def am_fl (own : String) (index ci k : Nat) : Prop := ∃ (C : String) (T : u_T) (N : Nat), vwCl[ci]? = some (C, T, N) ∧ k < N ∧ (Cond.fieldLink own index (T k).1 (T k).2.1 (T k).2.2.1 ∈ am_T ∨ ∃ host, Cond.fieldLinkNest own index (T k).1 (T k).2.1 (T k).2.2.1 host ∈ am_N)
/-- the texts of the class -/
def am_strs : List (String × Nat × String) := [("ScopeLister$Sentence", 69, "(x)"), ("ScopeLister", 284, "every"), ("ScopeLister", 286, "some"), ("ScopeLister", 288, "no"), ("ScopeLister", 290, "most"), ("ScopeLister", 292, "not"), ("ScopeLister", 294, ""), ("ScopeLister", 96, "the code is not from 32 to 126"), ("ScopeLister", 103, "the text has 100 characters already"), ("ScopeLister", 271, "there is no such fragment"), ("ScopeLister", 276, "there is no such hole"), ("ScopeLister", 151, "there are 6 constraints already"), ("ScopeLister", 159, "there is no constraint"), ("ScopeLister", 269, "there is no sentence"), ("ScopeLister", 278, "there is no such reading"), ("ScopeLister", 172, "there is no such place"), ("ScopeLister", 282, "the number to start from is negative"), ("ScopeLister", 201, "the index of the character is negative"), ("ScopeLister", 232, "the size of the domain is not from 1 to 3"), ("ScopeLister", 280, "there is no such predicate"), ("ScopeLister", 246, "an element is not as described")]
/-- the seven texts that are read: their lengths and bytes -/
def am_len : List Nat := [3, 5, 4, 2, 4, 3, 0]
def am_byt : List (List Int32) := [[40, 120, 41], [101, 118, 101, 114, 121], [115, 111, 109, 101], [110, 111], [109, 111, 115, 116], [110, 111, 116], []]
/-- what holds of the tables and of what is there before: classes, array classes, texts, statics, nest mates -/
def am_E (g : am_G) (U : State) : Prop :=
  va_K g.2.2.2.2.1 vwCl (am_tys g) U ∧ (∀ (i : Nat) (t : String × Nat × String), am_strs[i]? = some t → vk_R t.1 t.2.1 t.2.2 (g.2.2.1 i) U) ∧
  vk_S 7 am_len am_byt g.2.2.1 (fun i => g.2.2.1 (100 + i)) (am_A g) U U.heap ∧ va_Z "java/lang/String" "COMPACT_STRINGS" "Z" (.int 1) (am_A g) U U.heap ∧
  va_Zq "jdk/internal/util/Preconditions" "SIOOBE_FORMATTER" "Ljava/util/function/BiFunction;" (am_A g) U U.heap ∧
  vx_Zq Bundle.tN "UNASSIGNED_STACK" Bundle.steD (am_A g) U U.heap ∧ vx_Zq Bundle.tN "SUPPRESSED_SENTINEL" Bundle.listD (am_A g) U U.heap ∧
  (∀ w ∈ am_N, va_Nw w U) ∧ g.1.stackTraces = false ∧ ∀ x y : Nat, x < 3 → y < 3 → x ≠ y → va_Nc (am_xn x) (am_xn y) U
theorem am_Nw_warm {w : Cond} (hw : w ∈ am_N) {s U : State} (hW : s.WarmedH U.vm) (h : va_Nw w s) : va_Nw w U := by
  obtain ⟨-, hn⟩ := List.mem_filter.mp hw
  cases w <;> first | exact h.warmF hW | exact h.warmM hW | exact h.warmC hW | exact h.warmD hW | (simp [am_nst] at hn)
theorem am_E.at {g : am_G} {s U : State} {locs : List Loc} (h : am_E g s) (hW : s.WarmedH U.vm) (hS : va_S (am_A g) s.heap U.heap locs) : am_E g U := by
  obtain ⟨h1, h2, h3, h4, h5, h6, h7, h8, h9, h10⟩ := h
  have hk : ∀ a : Nat, a < s.heap.size → ¬ am_A g a → U.heap[a]? = s.heap[a]? := hS.2.1
  exact ⟨h1.moved hW.alike, fun i t ht => (h2 i t ht).warm hW, (h3.moved hW.alike).kept hk, (h4.moved hW.alike).kept hk, (h5.moved hW.alike).kept hk, (h6.moved hW.alike).kept hk, (h7.moved hW.alike).kept hk, fun w hw => am_Nw_warm hw hW (h8 w hw), h9, fun x y hx hy hne => (h10 x y hx hy hne).moved hW.alike⟩
/-- where a method stands -/
def am_X (p : Program) (g : am_G) (s : State) (m : MethodId) (args : Array Value) (meth : Method) (c : Code) (own : String) (cc : ByteArray) (nL : Nat) : Prop :=
  p.tables.exec = Jvm.exec ∧ c.code = cc ∧ c.maxLocals = nL ∧ s.vm.findClass own = some m.cls ∧ (∀ w ∈ am_T, w.before args s = true) ∧ am_E g s ∧ g.2.1 ≤ s.heap.size ∧ meth.locks = false
section AMH
variable {p : Program} {g : am_G} {e : Env} {R : Room} {s : State} {m : MethodId} {args : Array Value} {below : List Frame} {meth : Method} {c : Code} {Q : State → Prop} {ph nL pc : Nat} {lv : am_L} {st : List Value} {M : am_M} {cells slots : Nat} {cc : ByteArray} {own : String}
theorem am_ad_lt {a : Nat} (h : a < 900) : am_ad g a = g.2.1 + a := by simp [am_ad, h]
theorem am_W.lt {H : Heap} (h : am_W g ph M H) {a : Nat} {x : am_Sh} (ha : M.1[a]? = some x) : a < 900 := Nat.lt_trans (List.getElem?_eq_some_iff.mp ha).1 h.2.2.2
theorem am_s_get (X : am_X p g s m args meth c own cc nL) {a ci k index : Nat} (hd : decode cc pc = .ok (.getfield index, 3)) (hf : am_fl own index ci k)
    (h : am_gf M a ci k fun v => am_S p g e R s m args below meth c Q ph nL (pc + 3) lv (v :: st) M cells slots) : am_S p g e R s m args below meth c Q ph nL pc lv (.ref a :: st) M cells slots := by
  intro ls H locs hl hW hS
  obtain ⟨hx, hb, hml, hown, hts, hE, hbs, -⟩ := X
  obtain ⟨C, T, N, hc, hk, hlink⟩ := hf
  obtain ⟨hin, -⟩ := am_cls_all ci _ hc
  unfold am_gf at h
  split at h
  · rename_i c' fl hM
    obtain ⟨rfl, h⟩ := h
    have ha := am_img_at (g := g) hM
    have hlt := hW.lt hM
    have key : ∀ v : Value, (am_fs g (M.2.1 a) 0 fl)[k]? = some (am_v g v) → am_S p g e R s m args below meth c Q ph nL (pc + 3) lv (v :: st) M cells slots → W p g.1 e R s m args below meth c H locs cells slots Q (F0 m pc ls ((Value.ref a :: st).map (am_v g))) := by
      intro v hv kk
      show W p g.1 e R s m args below meth c H locs cells slots Q (F0 m pc ls (.ref (am_ad g a) :: st.map (am_v g)))
      rw [am_ad_lt hlt]
      rcases hlink with hlink | ⟨host, hlink⟩
      · exact va_get hx hb hts hin hown hE.1 hW.1 a ha hc k hk (hts _ hlink) (fun _ h9 => h9) hv hd (kk ls H locs hl hW hS)
      · exact va_getN hx hb hts hin hown hE.1 hW.1 a ha hc k hk (va_Nw.use rfl (hE.2.2.2.2.2.2.2.1 _ hlink)) (fun _ h9 => h9) hv hd (kk ls H locs hl hW hS)
    split at h
    · rename_i hfl
      exact key _ (by rw [am_fs_get, hfl, Nat.zero_add]; rfl) h
    · rename_i b hfl
      exact key _ (by rw [am_fs_get, hfl]; rfl) h
    · exact h.elim
  · exact h.elim
theorem am_set_W {H H1 : Heap} {a : Nat} {M' : am_M} {e' : va_E} (hW : am_W g ph M H) (hs : (am_img g M).set a (g.2.1 + a, e') = am_img g M') (hl : M'.1.length = M.1.length) (hz : H1.size = H.size) (hP : va_P g.2.2.2.2.1 vwCl ((am_img g M).set a (g.2.1 + a, e')) H1) : am_W g ph M' H1 := by
  rw [hs] at hP
  exact ⟨hP, by rw [hl, hz]; exact hW.2.1, fun h => by rw [hl, hz]; exact hW.2.2.1 h, by rw [hl]; exact hW.2.2.2⟩
end AMH
