/-! THE PURE MACHINE: the program's instructions over a picture of its cells (shapes, references, ints, longs), by places; sound by part 06 -/
/-- a cell's kind (a class, or 50 and more a row), its length, its references -/
abbrev pmZ : Type := Nat × Nat × List (Option Nat)
abbrev pmS : Type := List pmZ × (Nat → Nat → Int32) × (Nat → Nat → Int64)
def pmRf (rs : List (Option Nat)) (k : Nat) : Option Nat := (rs[k]?).getD none
abbrev pmL : Type := List (Option Value)
/-- what an instruction comes to: the method's end, or the next place -/
abbrev pmO : Type := Option ((Option Value × pmS) ⊕ (Nat × pmL × List Value × pmS))
abbrev pmA : Type := Option (Option Value × pmS)
def pmF (o k : Nat) : Option (Nat × Nat × Nat × Bool) := (pmFt[o]?).bind fun l => pmLk l k
def pmM (o k : Nat) : Option (Nat × Nat × Bool) := (pmMt[o]?).bind fun l => pmLk l k
def pmC (o k : Nat) : Option (Int32 × Nat) := (pmCt[o]?).bind fun l => pmLk l k
def pmCL (o k : Nat) : Option (Int64 × Nat) := (pmLt[o]?).bind fun l => pmLk l k
def pmN (o k : Nat) : Option (Nat × Nat) := (pmNt[o]?).bind fun l => pmLk l k
def pmG (o k : Nat) : Option Nat := (pmGt[o]?).bind fun l => pmLk l k
def pmUp {β : Type} (f : Nat → Nat → β) (p k : Nat) (v : β) : Nat → Nat → β := fun q j => if q = p ∧ j = k then v else f q j
def pmRow {β : Type} (f : Nat → Nat → β) (p : Nat) (r : Nat → β) : Nat → Nat → β := fun q j => if q = p then r j else f q j
abbrev pmIn (i : Int32) (n : Nat) : Prop := ¬ (i < 0 ∨ n ≤ i.toNatClampNeg)
def pmNx (pc : Nat) (pl : pmL) (st : List Value) (σ : pmS) : pmO := some (.inr (pc, pl, st, σ))
def pmJp (pc : Nat) (off : Int) (pl : pmL) (st : List Value) (σ : pmS) : pmO := match (pc : Int) + off with
  | .ofNat t => pmNx t pl st σ
  | .negSucc _ => none
def pmBr (pc : Nat) (off : Int) (C : Prop) [Decidable C] (pl : pmL) (st : List Value) (σ : pmS) : pmO := match (pc : Int) + off with
  | .ofNat t => if C then pmNx t pl st σ else pmNx (pc + 3) pl st σ
  | .negSucc _ => none
def pmLgT : List (Nat × List Nat) := [(19, [0]), (61, [0]), (63, [4]), (72, [1]), (73, [1]), (74, [1]), (76, [4]), (77, [1, 5]), (79, [1, 5, 11, 13]), (80, [1]), (81, [1, 8]), (82, [0]), (85, [1, 6]), (122, [1]), (123, [0]), (199, [3]), (200, [3])]
def pmLg (m j : Nat) : Bool := match pmLk pmLgT m with
  | some l => l.contains j
  | none => false
/-- a long at i leaves i + 1 unknown; what a store cuts in two is unknown (where no long ever stands ahead, nothing is looked at) -/
def pmCut (m : Nat) (pl : pmL) (i : Nat) : pmL := match i with
  | 0 => pl
  | j + 1 => bif pmLg m j then (match pl[j]? with
    | some (some v) => if v.category = 2 then pl.set j none else pl
    | _ => pl) else pl
def pmS1 (m : Nat) (pl : pmL) (i : Nat) (v : Value) : pmL := (pmCut m pl i).set i (some v)
def pmS2 (m : Nat) (pl : pmL) (i : Nat) (v : Value) : pmL := ((pmCut m pl i).set i (some v)).set (i + 1) none
/-- longs stand only where the method's longs stand -/
def pmEl (m : Nat) (pl : pmL) : Bool := pl.zipIdx.all fun q => match q.1 with
  | some w => !(w.category == 2) || pmLg m q.2
  | none => true
def pmRd (σ : pmS) (rs : List (Option Nat)) (ci k p : Nat) : Option Value := match pmKd ci k with
  | 0 => some (.int (σ.2.1 p k))
  | 3 => some (.int (σ.2.1 p k))
  | 1 => some (.long (σ.2.2 p k))
  | 2 => some (va_rf (pmRf rs k))
  | _ => none
def pmWr (σ : pmS) (ci k p : Nat) (v : Value) : Option pmS := match pmKd ci k, v with
  | 0, .int x => some (σ.1, pmUp σ.2.1 p k x, σ.2.2)
  | 3, .int x => if x = 0 ∨ x = 1 then some (σ.1, pmUp σ.2.1 p k x, σ.2.2) else none
  | 1, .long x => some (σ.1, σ.2.1, pmUp σ.2.2 p k x)
  | 2, .ref q => (match σ.1[p]? with
    | some (c, n, rs) => if k < rs.length then some (σ.1.set p (c, n, rs.set k (some q)), σ.2.1, σ.2.2) else none
    | none => none)
  | _, _ => none
def pmAk : ArrayType → Nat
  | .int => 50
  | .long => 51
  | .boolean => 52
  | .byte => 53
  | _ => 99
/-- a fresh cell -/
def pmFresh (σ : pmS) (s : pmZ) : pmS := (σ.1 ++ [s], pmRow σ.2.1 σ.1.length (fun _ => 0), pmRow σ.2.2 σ.1.length (fun _ => 0))
def pmCats (st : List Value) : Nat := (st.map fun v => v.category).sum
/-- the words that arguments take -/
def pmPl (as : List Value) : pmL := as.flatMap fun v => if v.category = 2 then [some v, none] else [some v]
/-- System.arraycopy of ints or longs -/
def pmCopy (σ : pmS) (a : Nat) (sp : Int32) (b : Nat) (dp n : Int32) : Option pmS := match σ.1[a]?, σ.1[b]? with
  | some (ka, na, _), some (kb, nb, _) => if ¬ sp < 0 ∧ ¬ dp < 0 ∧ ¬ n < 0 ∧ sp.toNatClampNeg + n.toNatClampNeg ≤ na ∧ dp.toNatClampNeg + n.toNatClampNeg ≤ nb then
      (if ka = 50 ∧ kb = 50 then some (σ.1, pmRow σ.2.1 b (va_cpy (σ.2.1 a) (σ.2.1 b) sp.toNatClampNeg dp.toNatClampNeg n.toNatClampNeg), σ.2.2)
       else if ka = 51 ∧ kb = 51 then some (σ.1, σ.2.1, pmRow σ.2.2 b (va_cpy (σ.2.2 a) (σ.2.2 b) sp.toNatClampNeg dp.toNatClampNeg n.toNatClampNeg)) else none)
    else none
  | _, _ => none
def pmRt (call : Nat → List Value → pmS → pmA) (mm : Nat) (as : List Value) (pc : Nat) (pl : pmL) (rest : List Value) (σ : pmS) : pmO :=
  if pmCats rest ≤ 8 then match call mm as σ with
    | some (r, σ') => pmNx (pc + 3) pl (r.toList ++ rest) σ'
    | none => none
  else none
/-- place 1000: the static row of ones; 1001: the law's script -/
def pmStep (ro : Nat → Nat × (Nat → Int32)) (call : Nat → List Value → pmS → pmA) (o m rt : Nat) (pc : Nat) (i : Instr) (pl : pmL) (st : List Value) (σ : pmS) : pmO := match i with
  | .iconst n => pmNx (pc + 1) pl (.int (Int32.ofInt n) :: st) σ
  | .bipush n => pmNx (pc + 2) pl (.int (Int8.ofInt n).toInt32 :: st) σ
  | .sipush n => pmNx (pc + 3) pl (.int (Int16.ofInt n).toInt32 :: st) σ
  | .ldc k => match pmC o k with
    | some (v, _) => pmNx (pc + 2) pl (.int v :: st) σ
    | none => none
  | .ldc_w k => match pmC o k with
    | some (v, _) => pmNx (pc + 3) pl (.int v :: st) σ
    | none => none
  | .lconst n => pmNx (pc + 1) pl (.long (Int64.ofNat n.val) :: st) σ
  | .ldc2_w k => match pmCL o k with
    | some (v, _) => pmNx (pc + 3) pl (.long v :: st) σ
    | none => none
  | .iload k => match pl[k]? with
    | some (some (.int x)) => pmNx (pc + 2) pl (.int x :: st) σ
    | _ => none
  | .iload_n k => match pl[k.val]? with
    | some (some (.int x)) => pmNx (pc + 1) pl (.int x :: st) σ
    | _ => none
  | .lload k => match pl[k]? with
    | some (some (.long x)) => pmNx (pc + 2) pl (.long x :: st) σ
    | _ => none
  | .lload_n k => match pl[k.val]? with
    | some (some (.long x)) => pmNx (pc + 1) pl (.long x :: st) σ
    | _ => none
  | .aload k => match pl[k]? with
    | some (some (.ref x)) => pmNx (pc + 2) pl (.ref x :: st) σ
    | _ => none
  | .aload_n k => match pl[k.val]? with
    | some (some (.ref x)) => pmNx (pc + 1) pl (.ref x :: st) σ
    | _ => none
  | .istore k => match st with
    | .int x :: r => if k < pl.length then pmNx (pc + 2) (pmS1 m pl k (.int x)) r σ else none
    | _ => none
  | .istore_n k => match st with
    | .int x :: r => if k.val < pl.length then pmNx (pc + 1) (pmS1 m pl k.val (.int x)) r σ else none
    | _ => none
  | .astore k => match st with
    | .ref x :: r => if k < pl.length then pmNx (pc + 2) (pmS1 m pl k (.ref x)) r σ else none
    | _ => none
  | .astore_n k => match st with
    | .ref x :: r => if k.val < pl.length then pmNx (pc + 1) (pmS1 m pl k.val (.ref x)) r σ else none
    | _ => none
  | .lstore k => match st with
    | .long x :: r => if k + 1 < pl.length ∧ pmLg m k = true then pmNx (pc + 2) (pmS2 m pl k (.long x)) r σ else none
    | _ => none
  | .lstore_n k => match st with
    | .long x :: r => if k.val + 1 < pl.length ∧ pmLg m k.val = true then pmNx (pc + 1) (pmS2 m pl k.val (.long x)) r σ else none
    | _ => none
  | .iinc k n => match pl[k]? with
    | some (some (.int x)) => pmNx (pc + 3) (pmS1 m pl k (.int (x + Int32.ofInt n))) st σ
    | _ => none
  | .iadd => match st with
    | .int y :: .int x :: r => pmNx (pc + 1) pl (.int (x + y) :: r) σ
    | _ => none
  | .isub => match st with
    | .int y :: .int x :: r => pmNx (pc + 1) pl (.int (x - y) :: r) σ
    | _ => none
  | .imul => match st with
    | .int y :: .int x :: r => pmNx (pc + 1) pl (.int (x * y) :: r) σ
    | _ => none
  | .iand => match st with
    | .int y :: .int x :: r => pmNx (pc + 1) pl (.int (x &&& y) :: r) σ
    | _ => none
  | .ior => match st with
    | .int y :: .int x :: r => pmNx (pc + 1) pl (.int (x ||| y) :: r) σ
    | _ => none
  | .ixor => match st with
    | .int y :: .int x :: r => pmNx (pc + 1) pl (.int (x ^^^ y) :: r) σ
    | _ => none
  | .idiv => match st with
    | .int y :: .int x :: r => if y = 0 then none else pmNx (pc + 1) pl (.int (x / y) :: r) σ
    | _ => none
  | .irem => match st with
    | .int y :: .int x :: r => if y = 0 then none else pmNx (pc + 1) pl (.int (x - x / y * y) :: r) σ
    | _ => none
  | .ishl => match st with
    | .int y :: .int x :: r => pmNx (pc + 1) pl (.int (x <<< (y &&& 31)) :: r) σ
    | _ => none
  | .ishr => match st with
    | .int y :: .int x :: r => pmNx (pc + 1) pl (.int (x >>> (y &&& 31)) :: r) σ
    | _ => none
  | .iushr => match st with
    | .int y :: .int x :: r => pmNx (pc + 1) pl (.int (x.toUInt32 >>> (y.toUInt32 &&& Int32.toUInt32 31)).toInt32 :: r) σ
    | _ => none
  | .ladd => match st with
    | .long y :: .long x :: r => pmNx (pc + 1) pl (.long (x + y) :: r) σ
    | _ => none
  | .lmul => match st with
    | .long y :: .long x :: r => pmNx (pc + 1) pl (.long (x * y) :: r) σ
    | _ => none
  | .land => match st with
    | .long y :: .long x :: r => pmNx (pc + 1) pl (.long (x &&& y) :: r) σ
    | _ => none
  | .lor => match st with
    | .long y :: .long x :: r => pmNx (pc + 1) pl (.long (x ||| y) :: r) σ
    | _ => none
  | .lxor => match st with
    | .long y :: .long x :: r => pmNx (pc + 1) pl (.long (x ^^^ y) :: r) σ
    | _ => none
  | .lrem => match st with
    | .long y :: .long x :: r => if y = 0 then none else pmNx (pc + 1) pl (.long (x - x / y * y) :: r) σ
    | _ => none
  | .lshl => match st with
    | .int y :: .long x :: r => pmNx (pc + 1) pl (.long (x <<< (y.toInt64 &&& 63)) :: r) σ
    | _ => none
  | .lushr => match st with
    | .int y :: .long x :: r => pmNx (pc + 1) pl (.long (x.toUInt64 >>> (y.toInt64.toUInt64 &&& Int64.toUInt64 63)).toInt64 :: r) σ
    | _ => none
  | .lcmp => match st with
    | .long y :: .long x :: r => pmNx (pc + 1) pl (.int (lg_cmp x y) :: r) σ
    | _ => none
  | .i2l => match st with
    | .int x :: r => pmNx (pc + 1) pl (.long x.toInt64 :: r) σ
    | _ => none
  | .l2i => match st with
    | .long x :: r => pmNx (pc + 1) pl (.int x.toInt32 :: r) σ
    | _ => none
  | .i2b => match st with
    | .int x :: r => pmNx (pc + 1) pl (.int x.toInt8.toInt32 :: r) σ
    | _ => none
  | .dup => match st with
    | v :: r => if v.category = 1 then pmNx (pc + 1) pl (v :: v :: r) σ else none
    | _ => none
  | .dup2 => match st with
    | v :: w :: r => if v.category = 1 ∧ w.category = 1 then pmNx (pc + 1) pl (v :: w :: v :: w :: r) σ else none
    | _ => none
  | .pop => match st with
    | v :: r => if v.category = 1 then pmNx (pc + 1) pl r σ else none
    | _ => none
  | .ifCond c off => match st with
    | .int x :: r => match c with
      | .eq => pmBr pc off (x = 0) pl r σ
      | .ne => pmBr pc off (¬ x = 0) pl r σ
      | .lt => pmBr pc off (x < 0) pl r σ
      | .ge => pmBr pc off (0 ≤ x) pl r σ
      | .gt => pmBr pc off (0 < x) pl r σ
      | .le => pmBr pc off (x ≤ 0) pl r σ
    | _ => none
  | .if_icmp c off => match st with
    | .int y :: .int x :: r => match c with
      | .eq => pmBr pc off (x = y) pl r σ
      | .ne => pmBr pc off (¬ x = y) pl r σ
      | .lt => pmBr pc off (x < y) pl r σ
      | .ge => pmBr pc off (y ≤ x) pl r σ
      | .gt => pmBr pc off (y < x) pl r σ
      | .le => pmBr pc off (x ≤ y) pl r σ
    | _ => none
  | .goto off => pmJp pc off pl st σ
  | .tableswitch d lo hi offs => match st with
    | .int x :: r => if x.toInt < lo ∨ hi < x.toInt then pmJp pc d pl r σ else match offs[(x.toInt - lo).toNat]? with
      | some off => pmJp pc off pl r σ
      | none => none
    | _ => none
  | .lookupswitch d ps => match st with
    | .int x :: r => if (ps.toList.zip (ps.toList.drop 1)).all (fun (a, next) => a.1 < next.1) = true then pmJp pc (Op.lookupswitch.offset ps.toList d x.toInt) pl r σ else none
    | _ => none
  | .getfield k => match pmF o k with
    | some (ci, j, _, _) => match st with
      | .ref p :: r => match σ.1[p]? with
        | some (c, _, rs) => if c = ci then (match pmRd σ rs ci j p with
          | some v => pmNx (pc + 3) pl (v :: r) σ
          | none => none) else none
        | none => none
      | _ => none
    | none => none
  | .putfield k => match pmF o k with
    | some (ci, j, _, nst) => match st with
      | v :: .ref p :: r => match σ.1[p]? with
        | some (c, _, _) => if c = ci ∧ (pmFn ci j = true → nst = false ∧ o = ci ∧ rt = 4) then (match pmWr σ ci j p v with
          | some σ' => pmNx (pc + 3) pl r σ'
          | none => none) else none
        | none => none
      | _ => none
    | none => none
  | .getstatic k => match pmG o k with
    | some _ => pmNx (pc + 3) pl (.ref 1000 :: st) σ
    | none => none
  | .iaload => match st with
    | .int i :: .ref p :: r => if 1000 ≤ p then (if pmIn i (ro p).1 then pmNx (pc + 1) pl (.int ((ro p).2 i.toNatClampNeg) :: r) σ else none) else match σ.1[p]? with
      | some (k, n, _) => if k = 50 ∧ pmIn i n then pmNx (pc + 1) pl (.int (σ.2.1 p i.toNatClampNeg) :: r) σ else none
      | none => none
    | _ => none
  | .laload => match st with
    | .int i :: .ref p :: r => match σ.1[p]? with
      | some (k, n, _) => if k = 51 ∧ pmIn i n then pmNx (pc + 1) pl (.long (σ.2.2 p i.toNatClampNeg) :: r) σ else none
      | none => none
    | _ => none
  | .baload => match st with
    | .int i :: .ref p :: r => match σ.1[p]? with
      | some (k, n, _) => if (k = 52 ∨ k = 53) ∧ pmIn i n then pmNx (pc + 1) pl (.int (σ.2.1 p i.toNatClampNeg) :: r) σ else none
      | none => none
    | _ => none
  | .aaload => match st with
    | .int i :: .ref p :: r => match σ.1[p]? with
      | some (k, n, rs) => if k = 54 ∧ pmIn i n then pmNx (pc + 1) pl (va_rf (pmRf rs i.toNatClampNeg) :: r) σ else none
      | none => none
    | _ => none
  | .iastore => match st with
    | .int x :: .int i :: .ref p :: r => match σ.1[p]? with
      | some (k, n, _) => if k = 50 ∧ pmIn i n then pmNx (pc + 1) pl r (σ.1, pmUp σ.2.1 p i.toNatClampNeg x, σ.2.2) else none
      | none => none
    | _ => none
  | .lastore => match st with
    | .long x :: .int i :: .ref p :: r => match σ.1[p]? with
      | some (k, n, _) => if k = 51 ∧ pmIn i n then pmNx (pc + 1) pl r (σ.1, σ.2.1, pmUp σ.2.2 p i.toNatClampNeg x) else none
      | none => none
    | _ => none
  | .bastore => match st with
    | .int x :: .int i :: .ref p :: r => match σ.1[p]? with
      | some (k, n, _) => if k = 52 ∧ pmIn i n then pmNx (pc + 1) pl r (σ.1, pmUp σ.2.1 p i.toNatClampNeg (vp_nar .boolean x), σ.2.2)
          else if k = 53 ∧ pmIn i n then pmNx (pc + 1) pl r (σ.1, pmUp σ.2.1 p i.toNatClampNeg (vp_nar .byte x), σ.2.2) else none
      | none => none
    | _ => none
  | .aastore => match st with
    | .ref q :: .int i :: .ref p :: r => match σ.1[p]?, σ.1[q]? with
      | some (k, n, rs), some (c, _, _) => if k = 54 ∧ pmIn i n ∧ c = 10 ∧ i.toNatClampNeg < rs.length then pmNx (pc + 1) pl r (σ.1.set p (k, n, rs.set i.toNatClampNeg (some q)), σ.2.1, σ.2.2) else none
      | _, _ => none
    | _ => none
  | .arraylength => match st with
    | .ref p :: r => if p = 1001 ∧ (ro 1002).2 0 = 1 then pmNx (pc + 1) pl (.int (Int32.ofNat (ro p).1) :: r) σ else none
    | _ => none
  | .new k => match pmN o k with
    | some (ci, _) => match pmNf[ci]? with
      | some n => if σ.1.length < 900 then pmNx (pc + 3) pl (.ref σ.1.length :: st) (pmFresh σ (ci, n, List.replicate n none)) else none
      | none => none
    | none => none
  | .newarray t => match st with
    | .int n :: r => if pmAk t < 60 ∧ ¬ n < 0 ∧ n.toNatClampNeg < 100000 ∧ σ.1.length < 900 then pmNx (pc + 2) pl (.ref σ.1.length :: r) (pmFresh σ (pmAk t, n.toNatClampNeg, [])) else none
    | _ => none
  | .anewarray k => match pmN o k with
    | some (ci, _) => match st with
      | .int n :: r => if ci = 10 ∧ ¬ n < 0 ∧ n.toNatClampNeg < 100000 ∧ σ.1.length < 900 then pmNx (pc + 3) pl (.ref σ.1.length :: r) (pmFresh σ (54, n.toNatClampNeg, List.replicate n.toNatClampNeg none)) else none
      | _ => none
    | none => none
  | .invokestatic k => match pmM o k with
    | some (mm, _, _) => if mm = 9000 then (match st with
        | .int n :: .int dp :: .ref b :: .int sp :: .ref a :: r => if pmCats r ≤ 8 then (match pmCopy σ a sp b dp n with
          | some σ' => pmNx (pc + 3) pl r σ'
          | none => none) else none
        | _ => none) else if mm = 9002 then (match st with
        | .int y :: .int x :: r => if pmCats r ≤ 8 then pmNx (pc + 3) pl (.int (if x < y then y else x) :: r) σ else none
        | _ => none) else if mm = 9003 then (match st with
        | .int y :: .int x :: r => if pmCats r ≤ 8 then pmNx (pc + 3) pl (.int (if y < x then y else x) :: r) σ else none
        | _ => none) else match pmInf[mm]? with
      | some (_, _, (_, n, _, _), (1, _)) => if n ≤ st.length then pmRt call mm (st.take n).reverse pc pl (st.drop n) σ else none
      | _ => none
    | none => none
  | .invokevirtual k => match pmM o k with
    | some (mm, _, _) => match pmInf[mm]? with
      | some (_, _, (oo, n, _, _), (0, _)) => match st.drop n with
        | .ref p :: rest => (match σ.1[p]? with
          | some (c, _, _) => if c = oo then pmRt call mm (.ref p :: (st.take n).reverse) pc pl rest σ else none
          | none => none)
        | _ => none
      | _ => none
    | none => none
  | .invokespecial k => match pmM o k with
    | some (mm, _, _) => if mm = 9001 then (match st with
        | .ref _ :: r => if pmCats r ≤ 8 then pmNx (pc + 3) pl r σ else none
        | _ => none) else match pmInf[mm]? with
      | some (_, _, (oo, n, _, _), (2, _)) => match st.drop n with
        | .ref p :: rest => pmRt call mm (.ref p :: (st.take n).reverse) pc pl rest σ
        | _ => none
      | _ => none
    | none => none
  | .ireturn => match st with
    | [.int x] => if rt = 1 ∨ (rt = 2 ∧ (x = 0 ∨ x = 1)) then some (.inl (some (.int x), σ)) else none
    | _ => none
  | .lreturn => match st with
    | [.long x] => if rt = 3 then some (.inl (some (.long x), σ)) else none
    | _ => none
  | .return_ => match st with
    | [] => if rt = 0 ∨ rt = 4 then some (.inl (none, σ)) else none
    | _ => none
  | _ => none
def pmRun (ro : Nat → Nat × (Nat → Int32)) (call : Nat → List Value → pmS → pmA) (o m rt : Nat) : Nat → Nat → pmL → List Value → pmS → pmA
  | 0, _, _, _, _ => none
  | n + 1, pc, pl, st, σ => match pmCode m pc with
    | none => none
    | some i => match pmStep ro call o m rt pc i pl st σ with
      | none => none
      | some (.inl r) => some r
      | some (.inr (pc', pl', st', σ')) => pmRun ro call o m rt n pc' pl' st' σ'
/-- the kind of a method's end: 4 a constructor's -/
def pmRk (r kind : Nat) : Nat := if kind = 2 then 4 else r
def pmCall (ro : Nat → Nat × (Nat → Int32)) (N : Nat) : Nat → Nat → List Value → pmS → pmA
  | 0, _, _, _ => none
  | d + 1, m, as, σ => match pmInf[m]? with
    | some (_, _, (o, _, mx, r), (kind, _)) => if (pmPl as).length ≤ mx ∧ mx ≤ 40 ∧ kind < 3 ∧ pmEl m (pmPl as) = true then
        pmRun ro (pmCall ro N d) o m (pmRk r kind) N 0 (pmPl as ++ List.replicate (mx - (pmPl as).length) none) [] σ else none
    | none => none
