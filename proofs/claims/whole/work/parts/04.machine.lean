/-! THE ABSTRACT MACHINE: a small machine over relative addresses whose steps are the kit's rows; am_wp is what must hold ahead of a stretch of code. -/
abbrev vwCl : List vw_C := [(RX0, TX0, 7), (RX1, TX1, 4), (RX2, TX2, 7), (RX3, TX3, 12), (RX4, TX4, 7), (RX5, TX5, 4), (RX6, TX6, 2), (RX7, TX7, 14), (RX8, TX8, 5), (RX9, TX9, 13), (RX10, TX10, 51)]
/-- a cell's shape: an array (its kind: 0 int, 1 long, 2 boolean, 3 char; its length), or an object (its class; of each field: none a number, some its reference) -/
abbrev am_Sh : Type := (Nat × Nat) ⊕ (Nat × List (Option (Option Nat)))
/-- the memory: shapes, numbers, long numbers -/
abbrev am_M : Type := List am_Sh × (Nat → Nat → Int32) × (Nat → Nat → Int64)
abbrev am_L : Type := List (Nat × Value)
/-- an instruction: its place, itself, three numbers that say what its index means -/
abbrev am_I : Type := Nat × Instr × Nat × Nat × Nat
/-- the world's constants: the launch, the first address, the addresses of the texts, the script's, the classes, the array classes -/
abbrev am_G : Type := Launch × Nat × (Nat → Nat) × Nat × va_G × (Nat → ClassId)
def am_ad (g : am_G) (a : Nat) : Nat := if a < 900 then g.2.1 + a else if a = 999 then g.2.2.2.1 else g.2.2.1 (a - 1000)
def am_v (g : am_G) : Value → Value
  | .ref a => .ref (am_ad g a)
  | v => v
def am_fs (g : am_G) (f : Nat → Int32) : Nat → List (Option (Option Nat)) → List Value
  | _, [] => []
  | k, none :: r => .int (f k) :: am_fs g f (k + 1) r
  | k, some none :: r => .null :: am_fs g f (k + 1) r
  | k, some (some a) :: r => .ref (am_ad g a) :: am_fs g f (k + 1) r
def am_cel (g : am_G) (I : Nat → Nat → Int32) (J : Nat → Nat → Int64) (i : Nat) : am_Sh → va_E
  | .inl x => .inl (g.2.2.2.2.2 x.1, x.2, if x.1 = 1 then .inr (.inl (J i)) else .inl (I i))
  | .inr x => .inr (x.1, am_fs g (I i) 0 x.2)
def am_img (g : am_G) (M : am_M) : va_W := M.1.mapIdx (fun i x => (g.2.1 + i, am_cel g M.2.1 M.2.2 i x))
def am_A (g : am_G) : Nat → Prop := fun q => g.2.1 ≤ q
def am_ty : Nat → FieldType
  | 0 => .int
  | 1 => .long
  | 2 => .boolean
  | _ => .char
def am_tys (g : am_G) : List (ClassId × FieldType) := [(g.2.2.2.2.2 0, .int), (g.2.2.2.2.2 1, .long), (g.2.2.2.2.2 2, .boolean), (g.2.2.2.2.2 3, .char)]
/-- the heap holds the memory -/
def am_W (g : am_G) (ph : Nat) (M : am_M) (H : Heap) : Prop := va_P g.2.2.2.2.1 vwCl (am_img g M) H ∧ g.2.1 + M.1.length ≤ H.size ∧ (ph = 0 → H.size = g.2.1 + M.1.length) ∧ M.1.length < 900
def am_rs {α : Type} (I : Nat → α) (a : Nat) (f : α) : Nat → α := fun x => if x = a then f else I x
theorem am_img_get (g : am_G) (M : am_M) (i : Nat) : (am_img g M)[i]? = (M.1[i]?).map (fun x => (g.2.1 + i, am_cel g M.2.1 M.2.2 i x)) := by
  simp [am_img, List.getElem?_mapIdx]
theorem am_img_at {g : am_G} {M : am_M} {i : Nat} {x : am_Sh} (h : M.1[i]? = some x) : (am_img g M)[i]? = some (g.2.1 + i, am_cel g M.2.1 M.2.2 i x) := by
  rw [am_img_get, h]; rfl
theorem am_D (g : am_G) (M : am_M) : va_D (am_A g) (am_img g M) := by
  refine ⟨fun i j p q hi hj he => ?_, fun k q hk => ?_⟩
  · rw [am_img_get] at hi hj
    obtain ⟨x, -, rfl⟩ := Option.map_eq_some_iff.mp hi
    obtain ⟨y, -, rfl⟩ := Option.map_eq_some_iff.mp hj
    have he : g.2.1 + i = g.2.1 + j := he
    omega
  · rw [am_img_get] at hk
    obtain ⟨x, -, rfl⟩ := Option.map_eq_some_iff.mp hk
    exact Nat.le_add_right _ _
theorem am_fs_congr (g : am_G) {f f' : Nat → Int32} : ∀ (fl : List (Option (Option Nat))) (o : Nat), (∀ j, o ≤ j → f j = f' j) → am_fs g f o fl = am_fs g f' o fl
  | [], _, _ => rfl
  | none :: r, o, h => by
    show Value.int (f o) :: am_fs g f (o + 1) r = .int (f' o) :: am_fs g f' (o + 1) r
    rw [h o (Nat.le_refl o), am_fs_congr g r (o + 1) (fun j hj => h j (by omega))]
  | some none :: r, o, h => by
    show Value.null :: am_fs g f (o + 1) r = .null :: am_fs g f' (o + 1) r
    rw [am_fs_congr g r (o + 1) (fun j hj => h j (by omega))]
  | some (some a) :: r, o, h => by
    show Value.ref _ :: am_fs g f (o + 1) r = .ref _ :: am_fs g f' (o + 1) r
    rw [am_fs_congr g r (o + 1) (fun j hj => h j (by omega))]
theorem am_fs_len (g : am_G) (f : Nat → Int32) : ∀ (fl : List (Option (Option Nat))) (o : Nat), (am_fs g f o fl).length = fl.length
  | [], _ => rfl
  | none :: r, o => congrArg (· + 1) (am_fs_len g f r (o + 1))
  | some none :: r, o => congrArg (· + 1) (am_fs_len g f r (o + 1))
  | some (some _) :: r, o => congrArg (· + 1) (am_fs_len g f r (o + 1))
/-- what a field shows -/
def am_fv (g : am_G) (x : Int32) : Option (Option Nat) → Value
  | none => .int x
  | some none => .null
  | some (some a) => .ref (am_ad g a)
theorem am_fs_get (g : am_G) (f : Nat → Int32) : ∀ (fl : List (Option (Option Nat))) (o k : Nat), (am_fs g f o fl)[k]? = (fl[k]?).map (am_fv g (f (o + k)))
  | [], _, _ => rfl
  | none :: r, o, 0 => rfl
  | some none :: r, o, 0 => rfl
  | some (some _) :: r, o, 0 => rfl
  | none :: r, o, k + 1 => by
    have h := am_fs_get g f r (o + 1) k
    rw [show o + 1 + k = o + (k + 1) by omega] at h
    exact h
  | some none :: r, o, k + 1 => by
    have h := am_fs_get g f r (o + 1) k
    rw [show o + 1 + k = o + (k + 1) by omega] at h
    exact h
  | some (some _) :: r, o, k + 1 => by
    have h := am_fs_get g f r (o + 1) k
    rw [show o + 1 + k = o + (k + 1) by omega] at h
    exact h
theorem am_set_eq {g : am_G} {M M' : am_M} {a : Nat} {x : am_Sh} {e : va_E} (hx : M.1[a]? = some x) (hl : M'.1.length = M.1.length) (ho : ∀ i, i ≠ a → M'.1[i]? = M.1[i]? ∧ M'.2.1 i = M.2.1 i ∧ M'.2.2 i = M.2.2 i)
    (he : ∃ x', M'.1[a]? = some x' ∧ am_cel g M'.2.1 M'.2.2 a x' = e) : (am_img g M).set a (g.2.1 + a, e) = am_img g M' := by
  apply List.ext_getElem?
  intro i
  by_cases hi : i = a
  · subst hi
    obtain ⟨x', h1, h2⟩ := he
    have hlt : i < (am_img g M).length := by
      rw [show (am_img g M).length = M.1.length by simp [am_img]]
      exact (List.getElem?_eq_some_iff.mp hx).1
    rw [List.getElem?_set_self hlt, am_img_get, h1, ← h2]
    rfl
  · rw [List.getElem?_set_ne (fun h => hi h.symm), am_img_get, am_img_get, (ho i hi).1]
    cases hM : M.1[i]? with
    | none => rfl
    | some y =>
      have e1 : am_cel g M'.2.1 M'.2.2 i y = am_cel g M.2.1 M.2.2 i y := by
        cases y with
        | inl y => simp only [am_cel]; rw [(ho i hi).2.1, (ho i hi).2.2]
        | inr y => simp only [am_cel]; rw [(ho i hi).2.1]
      simp only [Option.map_some, e1]
/-- a number is put into a field -/
def am_puti (M : am_M) (a k : Nat) (v : Int32) : am_M := (M.1, am_rs M.2.1 a (upd (M.2.1 a) k v), M.2.2)
def am_putj (M : am_M) (a k : Nat) (v : Int64) : am_M := (M.1, M.2.1, am_rs M.2.2 a (vp_updL (M.2.2 a) k v))
theorem am_fs_put (g : am_G) (v : Int32) : ∀ (fl : List (Option (Option Nat))) (f : Nat → Int32) (o k : Nat), fl[k]? = some none → am_fs g (upd f (o + k) v) o fl = (am_fs g f o fl).set k (.int v)
  | [], _, _, _, h => by simp at h
  | none :: r, f, o, 0, _ => by
    show Value.int (upd f (o + 0) v o) :: am_fs g (upd f (o + 0) v) (o + 1) r = Value.int v :: am_fs g f (o + 1) r
    rw [am_fs_congr g (f := upd f (o + 0) v) (f' := f) r (o + 1) (fun j hj => by simp only [upd]; rw [if_neg (by omega)])]
    simp [upd]
  | some none :: r, f, o, 0, h => by simp at h
  | some (some _) :: r, f, o, 0, h => by simp at h
  | none :: r, f, o, k + 1, h => by
    have h1 := am_fs_put g v r f (o + 1) k (by simpa using h)
    rw [show o + 1 + k = o + (k + 1) by omega] at h1
    show Value.int (upd f (o + (k + 1)) v o) :: am_fs g (upd f (o + (k + 1)) v) (o + 1) r = Value.int (f o) :: (am_fs g f (o + 1) r).set k (.int v)
    rw [h1]
    simp only [upd]
    rw [if_neg (by omega)]
  | some none :: r, f, o, k + 1, h => by
    have h1 := am_fs_put g v r f (o + 1) k (by simpa using h)
    rw [show o + 1 + k = o + (k + 1) by omega] at h1
    show Value.null :: am_fs g (upd f (o + (k + 1)) v) (o + 1) r = Value.null :: (am_fs g f (o + 1) r).set k (.int v)
    rw [h1]
  | some (some _) :: r, f, o, k + 1, h => by
    have h1 := am_fs_put g v r f (o + 1) k (by simpa using h)
    rw [show o + 1 + k = o + (k + 1) by omega] at h1
    show Value.ref _ :: am_fs g (upd f (o + (k + 1)) v) (o + 1) r = Value.ref _ :: (am_fs g f (o + 1) r).set k (.int v)
    rw [h1]
theorem am_img_puti {g : am_G} {M : am_M} {a k ci : Nat} {fl : List (Option (Option Nat))} {v : Int32} (h : M.1[a]? = some (.inr (ci, fl))) (hk : fl[k]? = some none) :
    (am_img g M).set a (g.2.1 + a, .inr (ci, (am_fs g (M.2.1 a) 0 fl).set k (.int v))) = am_img g (am_puti M a k v) := by
  refine am_set_eq h rfl (fun i hi => ⟨rfl, ?_, rfl⟩) ⟨_, h, ?_⟩
  · simp only [am_puti, am_rs, if_neg hi]
  · have h1 := am_fs_put g v fl (M.2.1 a) 0 k hk
    rw [Nat.zero_add] at h1
    simp only [am_puti, am_cel, am_rs, if_true]
    rw [h1]
theorem am_img_sti {g : am_G} {M : am_M} {a k t n : Nat} {v : Int32} (h : M.1[a]? = some (.inl (t, n))) (ht : t ≠ 1) :
    (am_img g M).set a (g.2.1 + a, .inl (g.2.2.2.2.2 t, n, .inl (upd (M.2.1 a) k v))) = am_img g (am_puti M a k v) := by
  refine am_set_eq h rfl (fun i hi => ⟨rfl, ?_, rfl⟩) ⟨_, h, ?_⟩
  · simp only [am_puti, am_rs, if_neg hi]
  · simp only [am_puti, am_cel, am_rs, if_true, if_neg ht]
theorem am_img_stj {g : am_G} {M : am_M} {a k n : Nat} {v : Int64} (h : M.1[a]? = some (.inl (1, n))) :
    (am_img g M).set a (g.2.1 + a, .inl (g.2.2.2.2.2 1, n, .inr (.inl (vp_updL (M.2.2 a) k v)))) = am_img g (am_putj M a k v) := by
  refine am_set_eq h rfl (fun i hi => ⟨rfl, rfl, ?_⟩) ⟨_, h, ?_⟩
  · simp only [am_putj, am_rs, if_neg hi]
  · simp only [am_putj, am_cel, am_rs, if_true]
/-- a reference is put into a field -/
def am_putr (M : am_M) (a k b : Nat) : am_M := (M.1.modify a (fun x => match x with
  | .inl y => .inl y
  | .inr y => .inr (y.1, y.2.set k (some (some b)))), M.2.1, M.2.2)
theorem am_fs_putr (g : am_G) (b : Nat) : ∀ (fl : List (Option (Option Nat))) (f : Nat → Int32) (o k : Nat), am_fs g f o (fl.set k (some (some b))) = (am_fs g f o fl).set k (.ref (am_ad g b))
  | [], _, _, _ => rfl
  | none :: r, f, o, 0 => rfl
  | some none :: r, f, o, 0 => rfl
  | some (some _) :: r, f, o, 0 => rfl
  | none :: r, f, o, k + 1 => congrArg (Value.int (f o) :: ·) (am_fs_putr g b r f (o + 1) k)
  | some none :: r, f, o, k + 1 => congrArg (Value.null :: ·) (am_fs_putr g b r f (o + 1) k)
  | some (some a) :: r, f, o, k + 1 => congrArg (Value.ref (am_ad g a) :: ·) (am_fs_putr g b r f (o + 1) k)
theorem am_img_putr {g : am_G} {M : am_M} {a k b ci : Nat} {fl : List (Option (Option Nat))} (h : M.1[a]? = some (.inr (ci, fl))) :
    (am_img g M).set a (g.2.1 + a, .inr (ci, (am_fs g (M.2.1 a) 0 fl).set k (.ref (am_ad g b)))) = am_img g (am_putr M a k b) := by
  refine am_set_eq h (by simp [am_putr]) (fun i hi => ⟨?_, rfl, rfl⟩) ⟨.inr (ci, fl.set k (some (some b))), ?_, ?_⟩
  · simp only [am_putr]
    rw [List.getElem?_modify]
    simp only [if_neg (fun h : a = i => hi h.symm)]
    cases M.1[i]? <;> rfl
  · simp only [am_putr]
    rw [List.getElem?_modify_eq, h]
    rfl
  · simp only [am_putr, am_cel]
    rw [am_fs_putr]
/-- a new cell -/
def am_new (M : am_M) (x : am_Sh) : am_M := (M.1 ++ [x], am_rs M.2.1 M.1.length (fun _ => 0), am_rs M.2.2 M.1.length (fun _ => 0))
theorem am_img_new {g : am_G} {M : am_M} {x : am_Sh} : am_img g (am_new M x) = am_img g M ++ [(g.2.1 + M.1.length, am_cel g (am_new M x).2.1 (am_new M x).2.2 M.1.length x)] := by
  apply List.ext_getElem?
  intro i
  have hlen : (am_img g M).length = M.1.length := by simp [am_img]
  rcases Nat.lt_trichotomy i M.1.length with h | h | h
  · rw [List.getElem?_append_left (by rw [hlen]; exact h), am_img_get, am_img_get]
    have h1 : (am_new M x).1[i]? = M.1[i]? := List.getElem?_append_left h
    rw [h1]
    cases hM : M.1[i]? with
    | none => rfl
    | some y =>
      have hne : i ≠ M.1.length := by omega
      have e1 : am_cel g (am_new M x).2.1 (am_new M x).2.2 i y = am_cel g M.2.1 M.2.2 i y := by
        cases y with
        | inl y => simp only [am_cel, am_new, am_rs, if_neg hne]
        | inr y => simp only [am_cel, am_new, am_rs, if_neg hne]
      simp only [Option.map_some, e1]
  · subst h
    rw [am_img_get, List.getElem?_append_right (by rw [hlen]; exact Nat.le_refl _), hlen]
    have h1 : (am_new M x).1[M.1.length]? = some x := by simp [am_new]
    rw [h1]
    simp
  · have h1 : (am_img g (am_new M x)).length = M.1.length + 1 := by simp [am_img, am_new]
    rw [List.getElem?_eq_none (by rw [h1]; omega), List.getElem?_eq_none (by rw [List.length_append, hlen]; simp; omega)]
