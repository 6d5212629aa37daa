def am_lk : am_L → Nat → Option Value
  | [], _ => none
  | q :: r, i => if q.1 = i then some q.2 else am_lk r i
def am_st (i : Nat) (v : Value) (lv : am_L) : am_L := (i, v) :: lv.filter (fun q => !(q.1 == i) && !(q.1 + 1 == i && q.2.category == 2))
def am_st2 (i : Nat) (v : Value) (lv : am_L) : am_L := (i, v) :: lv.filter (fun q => !(q.1 == i) && (!(q.1 == i + 1) && !(q.1 + 1 == i && q.2.category == 2)))
def am_rm (i : Nat) (lv : am_L) : am_L := lv.filter (fun q => !(q.1 == i) && !(q.1 + 1 == i && q.2.category == 2))
def am_vl (g : am_G) (lv : am_L) : am_L := lv.map (fun q => (q.1, am_v g q.2))
abbrev am_Cut : Type := Nat → am_L → List Value → am_M → Nat → Nat → Prop
/-- what a stretch may lean on: the cuts; the end with an answer; the end with a throw; calls that return; calls that return or throw; the phase; the room in cells and slots; the script; the handlers -/
abbrev am_Env : Type := am_Cut × (Option Value → am_M → Nat → Nat → Prop) × (Nat → am_M → Nat → Nat → Prop) × (Nat → List Value → am_M → Nat → Nat → (Option Value → am_M → Prop) → Prop) × (Nat → List Value → am_M → Nat → Nat → (Option Value → am_M → Prop) → (Nat → am_M → Prop) → Prop) × Nat × (Nat × Nat) × Option (Nat × (Nat → Int32)) × (Nat → Nat → Option (Nat × Nat))
def am_lsw (x : Int32) (jp : Nat → Prop) (pc : Nat) (d : Int) : List (Int × Int) → Prop
  | [] => jp ((pc : Int) + d).toNat
  | q :: r => (x = Int32.ofInt q.1 → jp ((pc : Int) + q.2).toNat) ∧ (¬ x = Int32.ofInt q.1 → am_lsw x jp pc d r)
def am_tsw (x : Int32) (jp : Nat → Prop) (pc : Nat) (d : Int) : Int → List Int → Prop
  | _, [] => jp ((pc : Int) + d).toNat
  | k, o :: r => (x = Int32.ofInt k → jp ((pc : Int) + o).toNat) ∧ (¬ x = Int32.ofInt k → am_tsw x jp pc d (k + 1) r)
def am_ld (o : Option Value) (P : Value → Prop) : Prop := match o with
  | some v => P v
  | none => False
def am_isI (v : Value) : Prop := match v with
  | .int _ => True
  | _ => False
def am_isJ (v : Value) : Prop := match v with
  | .long _ => True
  | _ => False
def am_isR (v : Value) : Prop := match v with
  | .ref _ => True
  | _ => False
/-- reading a field -/
def am_gf (M : am_M) (a ci k : Nat) (P : Value → Prop) : Prop := match M.1[a]? with
  | some (.inr (c, fl)) => c = ci ∧ match fl[k]? with
    | some none => P (.int (M.2.1 a k))
    | some (some (some b)) => P (.ref b)
    | _ => False
  | _ => False
/-- an array of a kind and its length -/
def am_ar (M : am_M) (a t : Nat) (P : Nat → Prop) : Prop := match M.1[a]? with
  | some (.inl (t', n)) => t' = t ∧ P n
  | _ => False
def am_rcv (M : am_M) (ci a : Nat) : Prop := if ci = 99 then 1000 ≤ a ∧ a < 1007 else ∃ fl, M.1[a]? = some (.inr (ci, fl))
def am_sum (st : List Value) : Nat := (st.map fun v => v.category).sum
def am_def (n : Nat) : List (Option (Option Nat)) → List (Option (Option Nat)) := fun l => l.take n
/-- a step: what must hold ahead of an instruction -/
def am_stp (E : am_Env) (df : Nat → List (Option (Option Nat))) (pc : Nat) (ins : Instr) (e1 e2 e3 : Nat) (lv : am_L) (st : List Value) (M : am_M) (c s : Nat) (nx : am_L → List Value → am_M → Nat → Nat → Prop) (jp : am_Cut) : Prop :=
  match ins with
  | .nop => E.1 pc lv st M c s
  | .swap => jp pc lv st M c s
  | .iconst i => nx lv (.int (Int32.ofInt i) :: st) M c s
  | .bipush i => nx lv (.int (Int8.ofInt i).toInt32 :: st) M c s
  | .sipush i => nx lv (.int (Int16.ofInt i).toInt32 :: st) M c s
  | .lconst i => nx lv (.long (Int64.ofNat (i : Nat)) :: st) M c s
  | .ldc _ => nx lv (.ref (1000 + e1) :: st) M c s
  | .ldc_w _ => nx lv (.ref (1000 + e1) :: st) M c s
  | .ldc2_w _ => nx lv (.long (Int64.ofNat e1) :: st) M c s
  | .iload i => am_ld (am_lk lv i) fun v => am_isI v ∧ nx lv (v :: st) M c s
  | .iload_n i => am_ld (am_lk lv i) fun v => am_isI v ∧ nx lv (v :: st) M c s
  | .lload i => am_ld (am_lk lv i) fun v => am_isJ v ∧ nx lv (v :: st) M c s
  | .lload_n i => am_ld (am_lk lv i) fun v => am_isJ v ∧ nx lv (v :: st) M c s
  | .aload i => am_ld (am_lk lv i) fun v => am_isR v ∧ nx lv (v :: st) M c s
  | .aload_n i => am_ld (am_lk lv i) fun v => am_isR v ∧ nx lv (v :: st) M c s
  | .istore i => match st with
    | .int x :: st => nx (am_st i (.int x) lv) st M c s
    | _ => False
  | .istore_n i => match st with
    | .int x :: st => nx (am_st i (.int x) lv) st M c s
    | _ => False
  | .lstore i => match st with
    | .long x :: st => nx (am_st2 i (.long x) lv) st M c s
    | _ => False
  | .lstore_n i => match st with
    | .long x :: st => nx (am_st2 i (.long x) lv) st M c s
    | _ => False
  | .astore i => match st with
    | .ref x :: st => nx (am_st i (.ref x) lv) st M c s
    | _ => False
  | .astore_n i => match st with
    | .ref x :: st => nx (am_st i (.ref x) lv) st M c s
    | _ => False
  | .iinc i d => match am_lk lv i with
    | some (.int x) => nx (am_st i (.int (x + Int32.ofInt d)) lv) st M c s
    | _ => False
  | .iadd => match st with
    | .int y :: .int x :: st => nx lv (.int (x + y) :: st) M c s
    | _ => False
  | .isub => match st with
    | .int y :: .int x :: st => nx lv (.int (x - y) :: st) M c s
    | _ => False
  | .imul => match st with
    | .int y :: .int x :: st => nx lv (.int (x * y) :: st) M c s
    | _ => False
  | .iand => match st with
    | .int y :: .int x :: st => nx lv (.int (x &&& y) :: st) M c s
    | _ => False
  | .ior => match st with
    | .int y :: .int x :: st => nx lv (.int (x ||| y) :: st) M c s
    | _ => False
  | .ixor => match st with
    | .int y :: .int x :: st => nx lv (.int (x ^^^ y) :: st) M c s
    | _ => False
  | .idiv => match st with
    | .int y :: .int x :: st => ¬ y = 0 ∧ nx lv (.int (x / y) :: st) M c s
    | _ => False
  | .irem => match st with
    | .int y :: .int x :: st => ¬ y = 0 ∧ nx lv (.int (x - x / y * y) :: st) M c s
    | _ => False
  | .ineg => match st with
    | .int x :: st => nx lv (.int (-x) :: st) M c s
    | _ => False
  | .ishl => match st with
    | .int y :: .int x :: st => nx lv (.int (x <<< (y &&& 31)) :: st) M c s
    | _ => False
  | .ishr => match st with
    | .int y :: .int x :: st => nx lv (.int (x >>> (y &&& 31)) :: st) M c s
    | _ => False
  | .ladd => match st with
    | .long y :: .long x :: st => nx lv (.long (x + y) :: st) M c s
    | _ => False
  | .lmul => match st with
    | .long y :: .long x :: st => nx lv (.long (x * y) :: st) M c s
    | _ => False
  | .lor => match st with
    | .long y :: .long x :: st => nx lv (.long (x ||| y) :: st) M c s
    | _ => False
  | .lshl => match st with
    | .int y :: .long x :: st => nx lv (.long (x <<< (y.toInt64 &&& 63)) :: st) M c s
    | _ => False
  | .lshr => match st with
    | .int y :: .long x :: st => nx lv (.long (x >>> (y.toInt64 &&& 63)) :: st) M c s
    | _ => False
  | .i2l => match st with
    | .int x :: st => nx lv (.long x.toInt64 :: st) M c s
    | _ => False
  | .l2i => match st with
    | .long x :: st => nx lv (.int x.toInt32 :: st) M c s
    | _ => False
  | .lcmp => match st with
    | .long y :: .long x :: st => nx lv (.int (lg_cmp x y) :: st) M c s
    | _ => False
  | .dup => match st with
    | v :: st => v.category = 1 ∧ nx lv (v :: v :: st) M c s
    | _ => False
  | .dup2 => match st with
    | v :: w :: st => v.category = 1 ∧ w.category = 1 ∧ nx lv (v :: w :: v :: w :: st) M c s
    | _ => False
  | .pop => match st with
    | v :: st => v.category = 1 ∧ nx lv st M c s
    | _ => False
  | .ifCond .eq _ => match st with
    | .int x :: st => (x = 0 → jp e1 lv st M c s) ∧ (¬ x = 0 → nx lv st M c s)
    | _ => False
  | .ifCond .ne _ => match st with
    | .int x :: st => (¬ x = 0 → jp e1 lv st M c s) ∧ (x = 0 → nx lv st M c s)
    | _ => False
  | .ifCond .lt _ => match st with
    | .int x :: st => (x < 0 → jp e1 lv st M c s) ∧ (¬ x < 0 → nx lv st M c s)
    | _ => False
  | .ifCond .ge _ => match st with
    | .int x :: st => (0 ≤ x → jp e1 lv st M c s) ∧ (¬ 0 ≤ x → nx lv st M c s)
    | _ => False
  | .ifCond .gt _ => match st with
    | .int x :: st => (0 < x → jp e1 lv st M c s) ∧ (¬ 0 < x → nx lv st M c s)
    | _ => False
  | .ifCond .le _ => match st with
    | .int x :: st => (x ≤ 0 → jp e1 lv st M c s) ∧ (¬ x ≤ 0 → nx lv st M c s)
    | _ => False
  | .if_icmp .eq _ => match st with
    | .int y :: .int x :: st => (x = y → jp e1 lv st M c s) ∧ (¬ x = y → nx lv st M c s)
    | _ => False
  | .if_icmp .ne _ => match st with
    | .int y :: .int x :: st => (¬ x = y → jp e1 lv st M c s) ∧ (x = y → nx lv st M c s)
    | _ => False
  | .if_icmp .lt _ => match st with
    | .int y :: .int x :: st => (x < y → jp e1 lv st M c s) ∧ (¬ x < y → nx lv st M c s)
    | _ => False
  | .if_icmp .ge _ => match st with
    | .int y :: .int x :: st => (y ≤ x → jp e1 lv st M c s) ∧ (¬ y ≤ x → nx lv st M c s)
    | _ => False
  | .if_icmp .gt _ => match st with
    | .int y :: .int x :: st => (y < x → jp e1 lv st M c s) ∧ (¬ y < x → nx lv st M c s)
    | _ => False
  | .if_icmp .le _ => match st with
    | .int y :: .int x :: st => (x ≤ y → jp e1 lv st M c s) ∧ (¬ x ≤ y → nx lv st M c s)
    | _ => False
  | .goto _ => jp e1 lv st M c s
  | .tableswitch d lo _ offs => match st with
    | .int x :: st => am_tsw x (fun t => jp t lv st M c s) pc d lo offs.toList
    | _ => False
  | .lookupswitch d ps => match st with
    | .int x :: st => am_lsw x (fun t => jp t lv st M c s) pc d ps.toList
    | _ => False
  | .getfield _ => match st with
    | .ref a :: st => am_gf M a e1 e2 fun v => nx lv (v :: st) M c s
    | _ => False
  | .putfield _ => match st with
    | .int v :: .ref a :: st => (∃ fl, M.1[a]? = some (.inr (e1, fl)) ∧ fl[e2]? = some none) ∧ (e3 % 10 = 1 → v = 0 ∨ v = 1) ∧ (e3 / 10 = 1 → E.2.2.2.2.2.1 = 1) ∧ ¬ e3 / 10 = 2 ∧ nx lv st (am_puti M a e2 v) c s
    | .ref b :: .ref a :: st => e3 / 10 = 2 ∧ (∃ fl, M.1[a]? = some (.inr (e1, fl)) ∧ e2 < fl.length) ∧ nx lv st (am_putr M a e2 b) c s
    | _ => False
  | .iaload => match st with
    | .int i :: .ref a :: st => if a = 999 then (match E.2.2.2.2.2.2.2.1 with
        | some q => vp_in i q.1 ∧ nx lv (.int (q.2 i.toNatClampNeg) :: st) M c s
        | none => False) else am_ar M a 0 fun n => vp_in i n ∧ nx lv (.int (M.2.1 a i.toNatClampNeg) :: st) M c s
    | _ => False
  | .baload => match st with
    | .int i :: .ref a :: st => am_ar M a 2 fun n => vp_in i n ∧ nx lv (.int (M.2.1 a i.toNatClampNeg) :: st) M c s
    | _ => False
  | .caload => match st with
    | .int i :: .ref a :: st => am_ar M a 3 fun n => vp_in i n ∧ nx lv (.int (M.2.1 a i.toNatClampNeg) :: st) M c s
    | _ => False
  | .laload => match st with
    | .int i :: .ref a :: st => am_ar M a 1 fun n => vp_in i n ∧ nx lv (.long (M.2.2 a i.toNatClampNeg) :: st) M c s
    | _ => False
  | .iastore => match st with
    | .int x :: .int i :: .ref a :: st => E.2.2.2.2.2.1 = 1 ∧ am_ar M a 0 fun n => vp_in i n ∧ nx lv st (am_puti M a i.toNatClampNeg x) c s
    | _ => False
  | .bastore => match st with
    | .int x :: .int i :: .ref a :: st => E.2.2.2.2.2.1 = 1 ∧ (x = 0 ∨ x = 1) ∧ am_ar M a 2 fun n => vp_in i n ∧ nx lv st (am_puti M a i.toNatClampNeg x) c s
    | _ => False
  | .castore => match st with
    | .int x :: .int i :: .ref a :: st => vp_nar .char x = x ∧ am_ar M a 3 fun n => vp_in i n ∧ nx lv st (am_puti M a i.toNatClampNeg x) c s
    | _ => False
  | .lastore => match st with
    | .long x :: .int i :: .ref a :: st => E.2.2.2.2.2.1 = 1 ∧ am_ar M a 1 fun n => vp_in i n ∧ nx lv st (am_putj M a i.toNatClampNeg x) c s
    | _ => False
  | .arraylength => match st with
    | .ref a :: st => if a = 999 then (match E.2.2.2.2.2.2.2.1 with
        | some q => nx lv (.int (Int32.ofNat q.1) :: st) M c s
        | none => False) else match M.1[a]? with
        | some (.inl (t, n)) => t < 4 ∧ nx lv (.int (Int32.ofNat n) :: st) M c s
        | _ => False
    | _ => False
  | .newarray _ => match st with
    | .int n :: st => E.2.2.2.2.2.1 = 0 ∧ M.1.length + 1 < 900 ∧ ¬ n < 0 ∧ n.toNatClampNeg ≤ 1000000 ∧ c + 1 ≤ E.2.2.2.2.2.2.1.1 ∧ s + n.toNatClampNeg ≤ E.2.2.2.2.2.2.1.2 ∧ nx lv (.ref M.1.length :: st) (am_new M (.inl (e1, n.toNatClampNeg))) (c + 1) (s + n.toNatClampNeg)
    | _ => False
  | .new _ => if e2 = 0 then E.2.2.2.2.2.1 = 0 ∧ M.1.length + 1 < 900 ∧ c + 1 ≤ E.2.2.2.2.2.2.1.1 ∧ s + (df e1).length ≤ E.2.2.2.2.2.2.1.2 ∧ nx lv (.ref M.1.length :: st) (am_new M (.inr (e1, df e1))) (c + 1) (s + (df e1).length)
      else am_sum st ≤ 8 ∧ E.2.2.2.2.2.1 = 1 ∧ c + 1 ≤ E.2.2.2.2.2.2.1.1 ∧ s + 6 ≤ E.2.2.2.2.2.2.1.2 ∧ E.2.2.1 e1 M (c + 1) (s + 6)
  | .invokevirtual _ => match (st.take e2).reverse with
    | .ref a :: _ => e2 ≤ st.length ∧ am_sum (st.drop e2) ≤ 8 ∧ am_rcv M (e3 % 100) a ∧ if e3 / 100 % 10 = 0 then
        ∃ mc ms P, E.2.2.2.1 e1 (st.take e2).reverse M mc ms P ∧ c + mc ≤ E.2.2.2.2.2.2.1.1 ∧ s + ms ≤ E.2.2.2.2.2.2.1.2 ∧ ∀ r M', P r M' → nx lv (r.toList ++ st.drop e2) M' (c + mc) (s + ms)
      else ∃ mc ms P X, E.2.2.2.2.1 e1 (st.take e2).reverse M mc ms P X ∧ c + mc ≤ E.2.2.2.2.2.2.1.1 ∧ s + ms ≤ E.2.2.2.2.2.2.1.2 ∧ (∀ r M', P r M' → nx lv (r.toList ++ st.drop e2) M' (c + mc) (s + ms)) ∧ ∀ x M', X x M' → match E.2.2.2.2.2.2.2.2 pc x with
        | some q => jp q.2 (am_rm q.1 lv) [] M' (c + mc) (s + ms)
        | none => E.2.2.1 x M' (c + mc) (s + ms)
    | _ => False
  | .invokespecial _ => if e1 = 900 then (match st with
      | .ref _ :: st => am_sum st ≤ 8 ∧ nx lv st M c s
      | _ => False) else match (st.take e2).reverse with
    | .ref _ :: _ => e2 ≤ st.length ∧ am_sum (st.drop e2) ≤ 8 ∧ ∃ mc ms P, E.2.2.2.1 e1 (st.take e2).reverse M mc ms P ∧ c + mc ≤ E.2.2.2.2.2.2.1.1 ∧ s + ms ≤ E.2.2.2.2.2.2.1.2 ∧ ∀ r M', P r M' → nx lv (r.toList ++ st.drop e2) M' (c + mc) (s + ms)
    | _ => False
  | .invokestatic _ => if e1 = 901 then (match st with
      | .int n :: .int dp :: .ref a :: .int sp :: .ref b :: st => E.2.2.2.2.2.1 = 1 ∧ am_sum st ≤ 8 ∧ ¬ sp < 0 ∧ ¬ dp < 0 ∧ ¬ n < 0 ∧ am_ar M b 0 fun n0 => am_ar M a 0 fun n1 => sp.toNatClampNeg + n.toNatClampNeg ≤ n0 ∧ dp.toNatClampNeg + n.toNatClampNeg ≤ n1 ∧ nx lv st (M.1, am_rs M.2.1 a (va_cpy (M.2.1 b) (M.2.1 a) sp.toNatClampNeg dp.toNatClampNeg n.toNatClampNeg), M.2.2) c s
      | _ => False) else
      e2 ≤ st.length ∧ am_sum (st.drop e2) ≤ 8 ∧ ∃ mc ms P, E.2.2.2.1 e1 (st.take e2).reverse M mc ms P ∧ c + mc ≤ E.2.2.2.2.2.2.1.1 ∧ s + ms ≤ E.2.2.2.2.2.2.1.2 ∧ ∀ r M', P r M' → nx lv (r.toList ++ st.drop e2) M' (c + mc) (s + ms)
  | .ireturn => match st with
    | [.int v] => E.2.1 (some (.int v)) M c s
    | _ => False
  | .lreturn => match st with
    | [.long v] => E.2.1 (some (.long v)) M c s
    | _ => False
  | .areturn => match st with
    | [.ref v] => E.2.1 (some (.ref v)) M c s
    | _ => False
  | .return_ => match st with
    | [] => E.2.1 none M c s
    | _ => False
  | _ => False
abbrev am_K : Type := am_L → List Value → am_M → Nat → Nat → Prop
/-- what must hold ahead of a stretch of code; the blocks by their places -/
def am_wp (E : am_Env) (df : Nat → List (Option (Option Nat))) (B : Nat → List am_I) : Nat → List am_I → am_K
  | 0, _ => fun _ _ _ _ _ => False
  | _ + 1, [] => fun _ _ _ _ _ => False
  | n + 1, q :: r => fun lv st M c s => am_stp E df q.1 q.2.1 q.2.2.1 q.2.2.2.1 q.2.2.2.2 lv st M c s (am_wp E df B n r) (fun t => am_wp E df B n (B t))
