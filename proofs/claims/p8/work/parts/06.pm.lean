section
/-! THE PURE MACHINE: the program's instructions over a picture of its cells (shapes, references, ints, longs), by places; sound by part 06 -/
/-- a cell's kind (a class, or 50 and more a row), its length, its references -/
abbrev pmZ : Type := Nat × Nat × List (Option Nat)
abbrev pmS : Type := List pmZ × (Nat → Nat → Int32) × (Nat → Nat → Int64)
def pmRf (rs : List (Option Nat)) (k : Nat) : Option Nat := (rs[k]?).getD none
abbrev pmL : Type := List (Option Value)
/-- what an instruction comes to: the method's end, or the next place -/
abbrev pmO : Type := Option ((Option Value × pmS) ⊕ (Nat × pmL × List Value × pmS))
abbrev pmA : Type := Option (Option Value × pmS)
def pmF (o k : Nat) : Option (Nat × Nat × Nat × Bool) := (pmFt[o]?).bind fun l => pmLk l k
def pmM (o k : Nat) : Option (Nat × Nat × Bool) := (pmMt[o]?).bind fun l => pmLk l k
def pmC (o k : Nat) : Option (Int32 × Nat) := (pmCt[o]?).bind fun l => pmLk l k
def pmCL (o k : Nat) : Option (Int64 × Nat) := (pmLt[o]?).bind fun l => pmLk l k
def pmN (o k : Nat) : Option (Nat × Nat) := (pmNt[o]?).bind fun l => pmLk l k
def pmG (o k : Nat) : Option Nat := (pmGt[o]?).bind fun l => pmLk l k
def pmUp {β : Type} (f : Nat → Nat → β) (p k : Nat) (v : β) : Nat → Nat → β := fun q j => if q = p ∧ j = k then v else f q j
def pmRow {β : Type} (f : Nat → Nat → β) (p : Nat) (r : Nat → β) : Nat → Nat → β := fun q j => if q = p then r j else f q j
abbrev pmIn (i : Int32) (n : Nat) : Prop := ¬ (i < 0 ∨ n ≤ i.toNatClampNeg)
def pmNx (pc : Nat) (pl : pmL) (st : List Value) (σ : pmS) : pmO := some (.inr (pc, pl, st, σ))
def pmJp (pc : Nat) (off : Int) (pl : pmL) (st : List Value) (σ : pmS) : pmO := match (pc : Int) + off with
  | .ofNat t => pmNx t pl st σ
  | .negSucc _ => none
def pmBr (pc : Nat) (off : Int) (C : Prop) [Decidable C] (pl : pmL) (st : List Value) (σ : pmS) : pmO := match (pc : Int) + off with
  | .ofNat t => if C then pmNx t pl st σ else pmNx (pc + 3) pl st σ
  | .negSucc _ => none
def pmLgT : List (Nat × List Nat) := [(19, [0]), (61, [0]), (63, [4]), (72, [1]), (73, [1]), (74, [1]), (76, [4]), (77, [1, 5]), (79, [1, 5, 11, 13]), (80, [1]), (81, [1, 8]), (82, [0]), (85, [1, 6]), (122, [1]), (123, [0]), (199, [3]), (200, [3])]
def pmLg (m j : Nat) : Bool := match pmLk pmLgT m with
  | some l => l.contains j
  | none => false
/-- a long at i leaves i + 1 unknown; what a store cuts in two is unknown (where no long ever stands ahead, nothing is looked at) -/
def pmCut (m : Nat) (pl : pmL) (i : Nat) : pmL := match i with
  | 0 => pl
  | j + 1 => bif pmLg m j then (match pl[j]? with
    | some (some v) => if v.category = 2 then pl.set j none else pl
    | _ => pl) else pl
def pmS1 (m : Nat) (pl : pmL) (i : Nat) (v : Value) : pmL := (pmCut m pl i).set i (some v)
def pmS2 (m : Nat) (pl : pmL) (i : Nat) (v : Value) : pmL := ((pmCut m pl i).set i (some v)).set (i + 1) none
/-- longs stand only where the method's longs stand -/
def pmEl (m : Nat) (pl : pmL) : Bool := pl.zipIdx.all fun q => match q.1 with
  | some w => !(w.category == 2) || pmLg m q.2
  | none => true
def pmRd (σ : pmS) (rs : List (Option Nat)) (ci k p : Nat) : Option Value := match pmKd ci k with
  | 0 => some (.int (σ.2.1 p k))
  | 3 => some (.int (σ.2.1 p k))
  | 1 => some (.long (σ.2.2 p k))
  | 2 => some (va_rf (pmRf rs k))
  | _ => none
def pmWr (σ : pmS) (ci k p : Nat) (v : Value) : Option pmS := match pmKd ci k, v with
  | 0, .int x => some (σ.1, pmUp σ.2.1 p k x, σ.2.2)
  | 3, .int x => if x = 0 ∨ x = 1 then some (σ.1, pmUp σ.2.1 p k x, σ.2.2) else none
  | 1, .long x => some (σ.1, σ.2.1, pmUp σ.2.2 p k x)
  | 2, .ref q => (match σ.1[p]? with
    | some (c, n, rs) => if k < rs.length then some (σ.1.set p (c, n, rs.set k (some q)), σ.2.1, σ.2.2) else none
    | none => none)
  | _, _ => none
def pmAk : ArrayType → Nat
  | .int => 50
  | .long => 51
  | .boolean => 52
  | .byte => 53
  | _ => 99
/-- a fresh cell -/
def pmFresh (σ : pmS) (s : pmZ) : pmS := (σ.1 ++ [s], pmRow σ.2.1 σ.1.length (fun _ => 0), pmRow σ.2.2 σ.1.length (fun _ => 0))
def pmCats (st : List Value) : Nat := (st.map fun v => v.category).sum
/-- the words that arguments take -/
def pmPl (as : List Value) : pmL := as.flatMap fun v => if v.category = 2 then [some v, none] else [some v]
/-- System.arraycopy of ints or longs -/
def pmCopy (σ : pmS) (a : Nat) (sp : Int32) (b : Nat) (dp n : Int32) : Option pmS := match σ.1[a]?, σ.1[b]? with
  | some (ka, na, _), some (kb, nb, _) => if ¬ sp < 0 ∧ ¬ dp < 0 ∧ ¬ n < 0 ∧ sp.toNatClampNeg + n.toNatClampNeg ≤ na ∧ dp.toNatClampNeg + n.toNatClampNeg ≤ nb then
      (if ka = 50 ∧ kb = 50 then some (σ.1, pmRow σ.2.1 b (va_cpy (σ.2.1 a) (σ.2.1 b) sp.toNatClampNeg dp.toNatClampNeg n.toNatClampNeg), σ.2.2)
       else if ka = 51 ∧ kb = 51 then some (σ.1, σ.2.1, pmRow σ.2.2 b (va_cpy (σ.2.2 a) (σ.2.2 b) sp.toNatClampNeg dp.toNatClampNeg n.toNatClampNeg)) else none)
    else none
  | _, _ => none
def pmRt (call : Nat → List Value → pmS → pmA) (mm : Nat) (as : List Value) (pc : Nat) (pl : pmL) (rest : List Value) (σ : pmS) : pmO :=
  if pmCats rest ≤ 8 then match call mm as σ with
    | some (r, σ') => pmNx (pc + 3) pl (r.toList ++ rest) σ'
    | none => none
  else none
/-- place 1000: the static row of ones; 1001: the law's script -/
def pmStep (ro : Nat → Nat × (Nat → Int32)) (call : Nat → List Value → pmS → pmA) (o m rt : Nat) (pc : Nat) (i : Instr) (pl : pmL) (st : List Value) (σ : pmS) : pmO := match i with
  | .iconst n => pmNx (pc + 1) pl (.int (Int32.ofInt n) :: st) σ
  | .bipush n => pmNx (pc + 2) pl (.int (Int8.ofInt n).toInt32 :: st) σ
  | .sipush n => pmNx (pc + 3) pl (.int (Int16.ofInt n).toInt32 :: st) σ
  | .ldc k => match pmC o k with
    | some (v, _) => pmNx (pc + 2) pl (.int v :: st) σ
    | none => none
  | .ldc_w k => match pmC o k with
    | some (v, _) => pmNx (pc + 3) pl (.int v :: st) σ
    | none => none
  | .lconst n => pmNx (pc + 1) pl (.long (Int64.ofNat n.val) :: st) σ
  | .ldc2_w k => match pmCL o k with
    | some (v, _) => pmNx (pc + 3) pl (.long v :: st) σ
    | none => none
  | .iload k => match pl[k]? with
    | some (some (.int x)) => pmNx (pc + 2) pl (.int x :: st) σ
    | _ => none
  | .iload_n k => match pl[k.val]? with
    | some (some (.int x)) => pmNx (pc + 1) pl (.int x :: st) σ
    | _ => none
  | .lload k => match pl[k]? with
    | some (some (.long x)) => pmNx (pc + 2) pl (.long x :: st) σ
    | _ => none
  | .lload_n k => match pl[k.val]? with
    | some (some (.long x)) => pmNx (pc + 1) pl (.long x :: st) σ
    | _ => none
  | .aload k => match pl[k]? with
    | some (some (.ref x)) => pmNx (pc + 2) pl (.ref x :: st) σ
    | _ => none
  | .aload_n k => match pl[k.val]? with
    | some (some (.ref x)) => pmNx (pc + 1) pl (.ref x :: st) σ
    | _ => none
  | .istore k => match st with
    | .int x :: r => if k < pl.length then pmNx (pc + 2) (pmS1 m pl k (.int x)) r σ else none
    | _ => none
  | .istore_n k => match st with
    | .int x :: r => if k.val < pl.length then pmNx (pc + 1) (pmS1 m pl k.val (.int x)) r σ else none
    | _ => none
  | .astore k => match st with
    | .ref x :: r => if k < pl.length then pmNx (pc + 2) (pmS1 m pl k (.ref x)) r σ else none
    | _ => none
  | .astore_n k => match st with
    | .ref x :: r => if k.val < pl.length then pmNx (pc + 1) (pmS1 m pl k.val (.ref x)) r σ else none
    | _ => none
  | .lstore k => match st with
    | .long x :: r => if k + 1 < pl.length ∧ pmLg m k = true then pmNx (pc + 2) (pmS2 m pl k (.long x)) r σ else none
    | _ => none
  | .lstore_n k => match st with
    | .long x :: r => if k.val + 1 < pl.length ∧ pmLg m k.val = true then pmNx (pc + 1) (pmS2 m pl k.val (.long x)) r σ else none
    | _ => none
  | .iinc k n => match pl[k]? with
    | some (some (.int x)) => pmNx (pc + 3) (pmS1 m pl k (.int (x + Int32.ofInt n))) st σ
    | _ => none
  | .iadd => match st with
    | .int y :: .int x :: r => pmNx (pc + 1) pl (.int (x + y) :: r) σ
    | _ => none
  | .isub => match st with
    | .int y :: .int x :: r => pmNx (pc + 1) pl (.int (x - y) :: r) σ
    | _ => none
  | .imul => match st with
    | .int y :: .int x :: r => pmNx (pc + 1) pl (.int (x * y) :: r) σ
    | _ => none
  | .iand => match st with
    | .int y :: .int x :: r => pmNx (pc + 1) pl (.int (x &&& y) :: r) σ
    | _ => none
  | .ior => match st with
    | .int y :: .int x :: r => pmNx (pc + 1) pl (.int (x ||| y) :: r) σ
    | _ => none
  | .ixor => match st with
    | .int y :: .int x :: r => pmNx (pc + 1) pl (.int (x ^^^ y) :: r) σ
    | _ => none
  | .idiv => match st with
    | .int y :: .int x :: r => if y = 0 then none else pmNx (pc + 1) pl (.int (x / y) :: r) σ
    | _ => none
  | .irem => match st with
    | .int y :: .int x :: r => if y = 0 then none else pmNx (pc + 1) pl (.int (x - x / y * y) :: r) σ
    | _ => none
  | .ishl => match st with
    | .int y :: .int x :: r => pmNx (pc + 1) pl (.int (x <<< (y &&& 31)) :: r) σ
    | _ => none
  | .ishr => match st with
    | .int y :: .int x :: r => pmNx (pc + 1) pl (.int (x >>> (y &&& 31)) :: r) σ
    | _ => none
  | .iushr => match st with
    | .int y :: .int x :: r => pmNx (pc + 1) pl (.int (x.toUInt32 >>> (y.toUInt32 &&& Int32.toUInt32 31)).toInt32 :: r) σ
    | _ => none
  | .ladd => match st with
    | .long y :: .long x :: r => pmNx (pc + 1) pl (.long (x + y) :: r) σ
    | _ => none
  | .lmul => match st with
    | .long y :: .long x :: r => pmNx (pc + 1) pl (.long (x * y) :: r) σ
    | _ => none
  | .land => match st with
    | .long y :: .long x :: r => pmNx (pc + 1) pl (.long (x &&& y) :: r) σ
    | _ => none
  | .lor => match st with
    | .long y :: .long x :: r => pmNx (pc + 1) pl (.long (x ||| y) :: r) σ
    | _ => none
  | .lxor => match st with
    | .long y :: .long x :: r => pmNx (pc + 1) pl (.long (x ^^^ y) :: r) σ
    | _ => none
  | .lrem => match st with
    | .long y :: .long x :: r => if y = 0 then none else pmNx (pc + 1) pl (.long (x - x / y * y) :: r) σ
    | _ => none
  | .lshl => match st with
    | .int y :: .long x :: r => pmNx (pc + 1) pl (.long (x <<< (y.toInt64 &&& 63)) :: r) σ
    | _ => none
  | .lushr => match st with
    | .int y :: .long x :: r => pmNx (pc + 1) pl (.long (x.toUInt64 >>> (y.toInt64.toUInt64 &&& Int64.toUInt64 63)).toInt64 :: r) σ
    | _ => none
  | .lcmp => match st with
    | .long y :: .long x :: r => pmNx (pc + 1) pl (.int (lg_cmp x y) :: r) σ
    | _ => none
  | .i2l => match st with
    | .int x :: r => pmNx (pc + 1) pl (.long x.toInt64 :: r) σ
    | _ => none
  | .l2i => match st with
    | .long x :: r => pmNx (pc + 1) pl (.int x.toInt32 :: r) σ
    | _ => none
  | .i2b => match st with
    | .int x :: r => pmNx (pc + 1) pl (.int x.toInt8.toInt32 :: r) σ
    | _ => none
  | .dup => match st with
    | v :: r => if v.category = 1 then pmNx (pc + 1) pl (v :: v :: r) σ else none
    | _ => none
  | .dup2 => match st with
    | v :: w :: r => if v.category = 1 ∧ w.category = 1 then pmNx (pc + 1) pl (v :: w :: v :: w :: r) σ else none
    | _ => none
  | .pop => match st with
    | v :: r => if v.category = 1 then pmNx (pc + 1) pl r σ else none
    | _ => none
  | .ifCond c off => match st with
    | .int x :: r => match c with
      | .eq => pmBr pc off (x = 0) pl r σ
      | .ne => pmBr pc off (¬ x = 0) pl r σ
      | .lt => pmBr pc off (x < 0) pl r σ
      | .ge => pmBr pc off (0 ≤ x) pl r σ
      | .gt => pmBr pc off (0 < x) pl r σ
      | .le => pmBr pc off (x ≤ 0) pl r σ
    | _ => none
  | .if_icmp c off => match st with
    | .int y :: .int x :: r => match c with
      | .eq => pmBr pc off (x = y) pl r σ
      | .ne => pmBr pc off (¬ x = y) pl r σ
      | .lt => pmBr pc off (x < y) pl r σ
      | .ge => pmBr pc off (y ≤ x) pl r σ
      | .gt => pmBr pc off (y < x) pl r σ
      | .le => pmBr pc off (x ≤ y) pl r σ
    | _ => none
  | .goto off => pmJp pc off pl st σ
  | .tableswitch d lo hi offs => match st with
    | .int x :: r => if x.toInt < lo ∨ hi < x.toInt then pmJp pc d pl r σ else match offs[(x.toInt - lo).toNat]? with
      | some off => pmJp pc off pl r σ
      | none => none
    | _ => none
  | .lookupswitch d ps => match st with
    | .int x :: r => if (ps.toList.zip (ps.toList.drop 1)).all (fun (a, next) => a.1 < next.1) = true then pmJp pc (Op.lookupswitch.offset ps.toList d x.toInt) pl r σ else none
    | _ => none
  | .getfield k => match pmF o k with
    | some (ci, j, _, _) => match st with
      | .ref p :: r => match σ.1[p]? with
        | some (c, _, rs) => if c = ci then (match pmRd σ rs ci j p with
          | some v => pmNx (pc + 3) pl (v :: r) σ
          | none => none) else none
        | none => none
      | _ => none
    | none => none
  | .putfield k => match pmF o k with
    | some (ci, j, _, nst) => match st with
      | v :: .ref p :: r => match σ.1[p]? with
        | some (c, _, _) => if c = ci ∧ (pmFn ci j = true → nst = false ∧ o = ci ∧ rt = 4) then (match pmWr σ ci j p v with
          | some σ' => pmNx (pc + 3) pl r σ'
          | none => none) else none
        | none => none
      | _ => none
    | none => none
  | .getstatic k => match pmG o k with
    | some _ => pmNx (pc + 3) pl (.ref 1000 :: st) σ
    | none => none
  | .iaload => match st with
    | .int i :: .ref p :: r => if 1000 ≤ p then (if pmIn i (ro p).1 then pmNx (pc + 1) pl (.int ((ro p).2 i.toNatClampNeg) :: r) σ else none) else match σ.1[p]? with
      | some (k, n, _) => if k = 50 ∧ pmIn i n then pmNx (pc + 1) pl (.int (σ.2.1 p i.toNatClampNeg) :: r) σ else none
      | none => none
    | _ => none
  | .laload => match st with
    | .int i :: .ref p :: r => match σ.1[p]? with
      | some (k, n, _) => if k = 51 ∧ pmIn i n then pmNx (pc + 1) pl (.long (σ.2.2 p i.toNatClampNeg) :: r) σ else none
      | none => none
    | _ => none
  | .baload => match st with
    | .int i :: .ref p :: r => match σ.1[p]? with
      | some (k, n, _) => if (k = 52 ∨ k = 53) ∧ pmIn i n then pmNx (pc + 1) pl (.int (σ.2.1 p i.toNatClampNeg) :: r) σ else none
      | none => none
    | _ => none
  | .aaload => match st with
    | .int i :: .ref p :: r => match σ.1[p]? with
      | some (k, n, rs) => if k = 54 ∧ pmIn i n then pmNx (pc + 1) pl (va_rf (pmRf rs i.toNatClampNeg) :: r) σ else none
      | none => none
    | _ => none
  | .iastore => match st with
    | .int x :: .int i :: .ref p :: r => match σ.1[p]? with
      | some (k, n, _) => if k = 50 ∧ pmIn i n then pmNx (pc + 1) pl r (σ.1, pmUp σ.2.1 p i.toNatClampNeg x, σ.2.2) else none
      | none => none
    | _ => none
  | .lastore => match st with
    | .long x :: .int i :: .ref p :: r => match σ.1[p]? with
      | some (k, n, _) => if k = 51 ∧ pmIn i n then pmNx (pc + 1) pl r (σ.1, σ.2.1, pmUp σ.2.2 p i.toNatClampNeg x) else none
      | none => none
    | _ => none
  | .bastore => match st with
    | .int x :: .int i :: .ref p :: r => match σ.1[p]? with
      | some (k, n, _) => if k = 52 ∧ pmIn i n then pmNx (pc + 1) pl r (σ.1, pmUp σ.2.1 p i.toNatClampNeg (vp_nar .boolean x), σ.2.2)
          else if k = 53 ∧ pmIn i n then pmNx (pc + 1) pl r (σ.1, pmUp σ.2.1 p i.toNatClampNeg (vp_nar .byte x), σ.2.2) else none
      | none => none
    | _ => none
  | .aastore => match st with
    | .ref q :: .int i :: .ref p :: r => match σ.1[p]?, σ.1[q]? with
      | some (k, n, rs), some (c, _, _) => if k = 54 ∧ pmIn i n ∧ c = 10 ∧ i.toNatClampNeg < rs.length then pmNx (pc + 1) pl r (σ.1.set p (k, n, rs.set i.toNatClampNeg (some q)), σ.2.1, σ.2.2) else none
      | _, _ => none
    | _ => none
  | .arraylength => match st with
    | .ref p :: r => if p = 1001 ∧ (ro 1002).2 0 = 1 then pmNx (pc + 1) pl (.int (Int32.ofNat (ro p).1) :: r) σ else none
    | _ => none
  | .new k => match pmN o k with
    | some (ci, _) => match pmNf[ci]? with
      | some n => if σ.1.length < 900 then pmNx (pc + 3) pl (.ref σ.1.length :: st) (pmFresh σ (ci, n, List.replicate n none)) else none
      | none => none
    | none => none
  | .newarray t => match st with
    | .int n :: r => if pmAk t < 60 ∧ ¬ n < 0 ∧ n.toNatClampNeg < 100000 ∧ σ.1.length < 900 then pmNx (pc + 2) pl (.ref σ.1.length :: r) (pmFresh σ (pmAk t, n.toNatClampNeg, [])) else none
    | _ => none
  | .anewarray k => match pmN o k with
    | some (ci, _) => match st with
      | .int n :: r => if ci = 10 ∧ ¬ n < 0 ∧ n.toNatClampNeg < 100000 ∧ σ.1.length < 900 then pmNx (pc + 3) pl (.ref σ.1.length :: r) (pmFresh σ (54, n.toNatClampNeg, List.replicate n.toNatClampNeg none)) else none
      | _ => none
    | none => none
  | .invokestatic k => match pmM o k with
    | some (mm, _, _) => if mm = 9000 then (match st with
        | .int n :: .int dp :: .ref b :: .int sp :: .ref a :: r => if pmCats r ≤ 8 then (match pmCopy σ a sp b dp n with
          | some σ' => pmNx (pc + 3) pl r σ'
          | none => none) else none
        | _ => none) else if mm = 9002 then (match st with
        | .int y :: .int x :: r => if pmCats r ≤ 8 then pmNx (pc + 3) pl (.int (if x < y then y else x) :: r) σ else none
        | _ => none) else if mm = 9003 then (match st with
        | .int y :: .int x :: r => if pmCats r ≤ 8 then pmNx (pc + 3) pl (.int (if y < x then y else x) :: r) σ else none
        | _ => none) else match pmInf[mm]? with
      | some (_, _, (_, n, _, _), (1, _)) => if n ≤ st.length then pmRt call mm (st.take n).reverse pc pl (st.drop n) σ else none
      | _ => none
    | none => none
  | .invokevirtual k => match pmM o k with
    | some (mm, _, _) => match pmInf[mm]? with
      | some (_, _, (oo, n, _, _), (0, _)) => match st.drop n with
        | .ref p :: rest => (match σ.1[p]? with
          | some (c, _, _) => if c = oo then pmRt call mm (.ref p :: (st.take n).reverse) pc pl rest σ else none
          | none => none)
        | _ => none
      | _ => none
    | none => none
  | .invokespecial k => match pmM o k with
    | some (mm, _, _) => if mm = 9001 then (match st with
        | .ref _ :: r => if pmCats r ≤ 8 then pmNx (pc + 3) pl r σ else none
        | _ => none) else match pmInf[mm]? with
      | some (_, _, (oo, n, _, _), (2, _)) => match st.drop n with
        | .ref p :: rest => pmRt call mm (.ref p :: (st.take n).reverse) pc pl rest σ
        | _ => none
      | _ => none
    | none => none
  | .ireturn => match st with
    | [.int x] => if rt = 1 ∨ (rt = 2 ∧ (x = 0 ∨ x = 1)) then some (.inl (some (.int x), σ)) else none
    | _ => none
  | .lreturn => match st with
    | [.long x] => if rt = 3 then some (.inl (some (.long x), σ)) else none
    | _ => none
  | .return_ => match st with
    | [] => if rt = 0 ∨ rt = 4 then some (.inl (none, σ)) else none
    | _ => none
  | _ => none
def pmRun (ro : Nat → Nat × (Nat → Int32)) (call : Nat → List Value → pmS → pmA) (o m rt : Nat) : Nat → Nat → pmL → List Value → pmS → pmA
  | 0, _, _, _, _ => none
  | n + 1, pc, pl, st, σ => match pmCode m pc with
    | none => none
    | some i => match pmStep ro call o m rt pc i pl st σ with
      | none => none
      | some (.inl r) => some r
      | some (.inr (pc', pl', st', σ')) => pmRun ro call o m rt n pc' pl' st' σ'
/-- the kind of a method's end: 4 a constructor's -/
def pmRk (r kind : Nat) : Nat := if kind = 2 then 4 else r
def pmCall (ro : Nat → Nat × (Nat → Int32)) (N : Nat) : Nat → Nat → List Value → pmS → pmA
  | 0, _, _, _ => none
  | d + 1, m, as, σ => match pmInf[m]? with
    | some (_, _, (o, _, mx, r), (kind, _)) => if (pmPl as).length ≤ mx ∧ mx ≤ 40 ∧ kind < 3 ∧ pmEl m (pmPl as) = true then
        pmRun ro (pmCall ro N d) o m (pmRk r kind) N 0 (pmPl as ++ List.replicate (mx - (pmPl as).length) none) [] σ else none
    | none => none
end
section
/-! THE PURE MACHINE IS SOUND: what a run of it comes to, the machine comes to -/
section
def pv (E : Nat → Nat) : Value → Value
  | .ref k => .ref (E k)
  | v => v
theorem pv_cat (E : Nat → Nat) (v : Value) : (pv E v).category = v.category := by cases v <;> rfl
theorem pv_rf (E : Nat → Nat) (r : Option Nat) : pv E (va_rf r) = va_rf (r.map E) := by cases r <;> rfl
theorem pv_cats (E : Nat → Nat) (st : List Value) : ((st.map (pv E)).map fun v => v.category).sum = pmCats st := by
  unfold pmCats
  rw [List.map_map]
  congr 1
  apply List.map_congr_left
  intro v _
  exact pv_cat E v
def pmCell (E : Nat → Nat) (cA : Nat → ClassId) (σ : pmS) (p : Nat) (s : pmZ) : va_E :=
  if s.1 < 50 then .inr (s.1, (List.range ((pmNf[s.1]?).getD 0)).map fun k => pv E ((pmRd σ s.2.2 s.1 k p).getD .null))
  else if s.1 = 51 then .inl (cA 51, s.2.1, .inr (.inl (σ.2.2 p)))
  else if s.1 = 54 then .inl (cA 54, s.2.1, .inr (.inr (.inr (.inr (fun j => (pmRf s.2.2 j).map E)))))
  else .inl (cA s.1, s.2.1, .inl (σ.2.1 p))
def pmW (E : Nat → Nat) (cA : Nat → ClassId) (σ : pmS) : va_W := σ.1.mapIdx fun p s => (E p, pmCell E cA σ p s)
def pmTot (S : List pmZ) : Nat := (S.map fun s => s.2.1).sum
theorem pmW_len (E : Nat → Nat) (cA : Nat → ClassId) (σ : pmS) : (pmW E cA σ).length = σ.1.length := by simp [pmW]
theorem pmW_at (E : Nat → Nat) (cA : Nat → ClassId) (σ : pmS) (p : Nat) : (pmW E cA σ)[p]? = (σ.1[p]?).map fun s => (E p, pmCell E cA σ p s) := by
  simp [pmW, List.getElem?_mapIdx]
theorem pmW_get {E : Nat → Nat} {cA : Nat → ClassId} {σ : pmS} {p : Nat} {s : pmZ} (h : σ.1[p]? = some s) : (pmW E cA σ)[p]? = some (E p, pmCell E cA σ p s) := by
  rw [pmW_at, h]; rfl
theorem pmCell_congr {E : Nat → Nat} {cA : Nat → ClassId} {σ σ' : pmS} {q : Nat} (h2 : σ'.2.1 q = σ.2.1 q) (h3 : σ'.2.2 q = σ.2.2 q) (s : pmZ) : pmCell E cA σ' q s = pmCell E cA σ q s := by
  unfold pmCell pmRd
  rw [h2, h3]
theorem pmW_set {E : Nat → Nat} {cA : Nat → ClassId} {σ σ' : pmS} {p : Nat} {s s' : pmZ} (h1 : σ'.1 = σ.1.set p s') (hs : σ.1[p]? = some s) (ho : ∀ q, q ≠ p → ∀ z, pmCell E cA σ' q z = pmCell E cA σ q z) : pmW E cA σ' = (pmW E cA σ).set p (E p, pmCell E cA σ' p s') := by
  have hp := (List.getElem?_eq_some_iff.mp hs).1
  have hl : p < (pmW E cA σ).length := by rw [pmW_len]; exact hp
  apply List.ext_getElem?
  intro q
  by_cases hq : q = p
  · subst hq
    rw [List.getElem?_set_self hl, pmW_at, h1, List.getElem?_set_self hp]; rfl
  · rw [List.getElem?_set_ne (Ne.symm hq), pmW_at, pmW_at, h1, List.getElem?_set_ne (Ne.symm hq)]
    cases σ.1[q]? with
    | none => rfl
    | some z => simp only [Option.map_some, ho q hq]
theorem pmSet_self {α : Type} {l : List α} {p : Nat} {s : α} (h : l[p]? = some s) : l = l.set p s := by
  apply List.ext_getElem?
  intro q
  by_cases hq : q = p
  · subst hq
    rw [List.getElem?_set_self (List.getElem?_eq_some_iff.mp h).1, h]
  · rw [List.getElem?_set_ne (Ne.symm hq)]
theorem pmUp_ne {β : Type} (f : Nat → Nat → β) {p q : Nat} (k : Nat) (v : β) (h : q ≠ p) : pmUp f p k v q = f q := by funext j; simp [pmUp, h]
theorem pmUp_eq {β : Type} (f : Nat → Nat → β) (p k : Nat) (v : β) : pmUp f p k v p = fun j => if j = k then v else f p j := by funext j; simp [pmUp]
theorem pmRow_ne {β : Type} (f : Nat → Nat → β) {p q : Nat} (r : Nat → β) (h : q ≠ p) : pmRow f p r q = f q := by funext j; simp [pmRow, h]
theorem pmRow_eq {β : Type} (f : Nat → Nat → β) (p : Nat) (r : Nat → β) : pmRow f p r p = r := by funext j; simp [pmRow]
theorem pmW_fresh (E : Nat → Nat) (cA : Nat → ClassId) (σ : pmS) (s : pmZ) : pmW E cA (pmFresh σ s) = pmW E cA σ ++ [(E σ.1.length, pmCell E cA (pmFresh σ s) σ.1.length s)] := by
  apply List.ext_getElem?
  intro q
  rw [pmW_at]
  show ((σ.1 ++ [s])[q]?).map _ = _
  by_cases hq : q < σ.1.length
  · rw [List.getElem?_append_left hq, List.getElem?_append_left (by rw [pmW_len]; exact hq), pmW_at]
    congr 1
    funext z
    rw [pmCell_congr (σ := σ) (pmRow_ne _ _ (by omega)) (pmRow_ne _ _ (by omega))]
  · rw [List.getElem?_append_right (by omega), List.getElem?_append_right (by rw [pmW_len]; omega), pmW_len]
    by_cases h0 : q = σ.1.length
    · subst h0; simp
    · have : q - σ.1.length ≠ 0 := by omega
      obtain ⟨j, hj⟩ := Nat.exists_eq_succ_of_ne_zero this
      rw [hj]; rfl
theorem pmW_D {base : Nat} {E : Nat → Nat} {cA : Nat → ClassId} {σ : pmS} (hE : ∀ k, k < 1000 → E k = base + k) (hl : σ.1.length ≤ 901) : va_D (fun q => base ≤ q) (pmW E cA σ) := by
  have key : ∀ (k : Nat) (q : Nat × va_E), (pmW E cA σ)[k]? = some q → k < σ.1.length ∧ q.1 = E k := by
    intro k q h
    rw [pmW_at] at h
    cases hs : σ.1[k]? with
    | none => rw [hs] at h; cases h
    | some s => rw [hs] at h; cases h; exact ⟨(List.getElem?_eq_some_iff.mp hs).1, rfl⟩
  refine ⟨fun i j p q hi hj hpq => ?_, fun k q h => ?_⟩
  · obtain ⟨a1, a2⟩ := key i p hi
    obtain ⟨b1, b2⟩ := key j q hj
    rw [a2, b2, hE i (by omega), hE j (by omega)] at hpq
    omega
  · obtain ⟨a1, a2⟩ := key k q h
    show base ≤ q.1
    rw [a2, hE k (by omega)]
    omega
/-- what a method's surroundings give, at a state U and a heap H -/
def pmNest : Cond → Bool
  | .fieldLinkNest .. => true
  | .methodLinkNest .. => true
  | _ => false
def pmGood : List Cond := lw_tbl.filter goodWord
abbrev pmT5 (cA : Nat → ClassId) : List (ClassId × FieldType) := [(cA 50, .int), (cA 51, .long), (cA 52, .boolean), (cA 53, .byte), (cA 54, .object "BentTale$World")]
def pmSur (base : Nat) (E : Nat → Nat) (cA : Nat → ClassId) (D : va_G) (ro : Nat → Nat × (Nat → Int32)) (U : State) (H : Heap) : Prop :=
  va_K D pmCl (pmT5 cA) U ∧ (∀ w ∈ lw_tbl, pmNest w = true → va_Nw w U) ∧ va_AO "BentTale$World" U ∧ va_Z "BentTale$Planner" "UNITS" "[I" (.ref (E 1000)) (fun q => base ≤ q) U H ∧
  (∀ p, 1000 ≤ p → (p = 1001 ∨ 0 < (ro p).1) → va_T .int (E p) (ro p).1 (fun j => .int ((ro p).2 j)) (fun q => base ≤ q) U H) ∧ (∀ k, k < 1000 → E k = base + k)
theorem pmNest_warm {w : Cond} (hw : pmNest w = true) {s U : State} (hW : s.WarmedH U.vm) (h : va_Nw w s) : va_Nw w U := by
  cases w <;> first | (simp [pmNest] at hw; done) | exact va_Nw.warmF hW h | exact va_Nw.warmM hW h
theorem pmSur.moved {base : Nat} {E : Nat → Nat} {cA : Nat → ClassId} {D : va_G} {ro : Nat → Nat × (Nat → Int32)} {s U : State} {H H1 : Heap} (h : pmSur base E cA D ro s H) (hW : s.WarmedH U.vm) (hk : ∀ q : Nat, q < H.size → ¬ base ≤ q → H1[q]? = H[q]?) : pmSur base E cA D ro U H1 := by
  obtain ⟨h1, h2, h3, h4, h5, h6⟩ := h
  exact ⟨h1.moved hW.alike, fun w hw hn => pmNest_warm hn hW (h2 w hw hn), h3.moved hW.alike, (h4.moved hW.alike).kept hk, fun p hp h0 => ((h5 p hp h0).moved hW.alike).kept hk, h6⟩
/-- the locals -/
def pmLr (E : Nat → Nat) (mth nL : Nat) (ls : Array Slot) (pl : pmL) : Prop := pl.length = nL ∧ ls.size = nL ∧ lv_wf ls ∧ (∀ (i : Nat) (v : Value), pl[i]? = some (some v) → ls[i]? = some (.val (pv E v))) ∧ ∀ (i : Nat) (v : Value), pl[i]? = some (some v) → v.category = 2 → pmLg mth i = true
def pmLv (E : Nat → Nat) (pl : pmL) : List (Nat × Value) := (List.range pl.length).filterMap fun i => match pl[i]? with
  | some (some v) => some (i, pv E v)
  | _ => none
theorem pmLv_in {E : Nat → Nat} {pl : pmL} {i : Nat} {v : Value} (h : pl[i]? = some (some v)) : (i, pv E v) ∈ pmLv E pl := by
  unfold pmLv
  rw [List.mem_filterMap]
  exact ⟨i, List.mem_range.mpr (List.getElem?_eq_some_iff.mp h).1, by rw [h]⟩
theorem pmLv_of {E : Nat → Nat} {pl : pmL} {q : Nat × Value} (h : q ∈ pmLv E pl) : ∃ v, pl[q.1]? = some (some v) ∧ q.2 = pv E v := by
  unfold pmLv at h
  rw [List.mem_filterMap] at h
  obtain ⟨i, -, hi⟩ := h
  split at hi
  · rename_i v hv
    cases hi
    exact ⟨v, hv, rfl⟩
  · cases hi
theorem pmLr.has {E : Nat → Nat} {mth nL : Nat} {ls : Array Slot} {pl : pmL} (h : pmLr E mth nL ls pl) : lv_has ls nL (pmLv E pl) := by
  obtain ⟨-, h1, h2, h3, -⟩ := h
  refine ⟨h1, h2, fun q hq => ?_⟩
  obtain ⟨v, hv, e⟩ := pmLv_of hq
  rw [e]
  exact h3 q.1 v hv
theorem pmCut_len (m : Nat) (pl : pmL) (i : Nat) : (pmCut m pl i).length = pl.length := by
  unfold pmCut
  split
  · rfl
  · rename_i j
    cases pmLg m j with
    | false => rfl
    | true =>
      show (match pl[j]? with
        | some (some v) => if v.category = 2 then pl.set j none else pl
        | _ => pl).length = _
      split
      · split
        · simp
        · rfl
      · rfl
theorem pmCut_at {m : Nat} {pl : pmL} {i j : Nat} {v : Value} (hlg : ∀ (i : Nat) (v : Value), pl[i]? = some (some v) → v.category = 2 → pmLg m i = true) (h : (pmCut m pl i)[j]? = some (some v)) : pl[j]? = some (some v) ∧ ¬ (j + 1 = i ∧ v.category = 2) := by
  unfold pmCut at h
  split at h
  · exact ⟨h, by omega⟩
  · rename_i i k
    cases hk : pmLg m k with
    | false =>
      rw [hk] at h
      change pl[j]? = some (some v) at h
      refine ⟨h, fun q => ?_⟩
      have hj : j = k := by omega
      subst hj
      rw [hlg j v h q.2] at hk
      cases hk
    | true =>
      rw [hk] at h
      change (match pl[k]? with
        | some (some v) => if v.category = 2 then pl.set k none else pl
        | _ => pl)[j]? = some (some v) at h
      split at h
      · rename_i z hz
        split at h
        · by_cases hj : j = k
          · subst hj
            rw [List.getElem?_set_self (List.getElem?_eq_some_iff.mp hz).1] at h
            cases h
          · rw [List.getElem?_set_ne (Ne.symm hj)] at h
            exact ⟨h, by omega⟩
        · rename_i hc
          refine ⟨h, fun q => ?_⟩
          have hj : j = k := by omega
          subst hj
          rw [hz] at h
          cases h
          exact hc q.2
      · rename_i hn
        refine ⟨h, fun q => ?_⟩
        have hj : j = k := by omega
        subst hj
        exact hn v h
theorem pmS1_lr {E : Nat → Nat} {mth nL : Nat} {ls ls' : Array Slot} {pl : pmL} {i : Nat} {v : Value} (hL : pmLr E mth nL ls pl) (hi : i < nL) (hv : v.category ≠ 2)
    (hl : lv_has ls' nL ((i, pv E v) :: (pmLv E pl).filter (fun q => !(q.1 == i) && !(q.1 + 1 == i && q.2.category == 2)))) : pmLr E mth nL ls' (pmS1 mth pl i v) := by
  have hp := hL.1
  have hlg := hL.2.2.2.2
  have key : ∀ (j : Nat) (w : Value), (pmS1 mth pl i v)[j]? = some (some w) → (j = i ∧ w = v) ∨ (j ≠ i ∧ pl[j]? = some (some w) ∧ ¬ (j + 1 = i ∧ w.category = 2)) := by
    intro j w h
    unfold pmS1 at h
    by_cases hj : j = i
    · subst hj
      rw [List.getElem?_set_self (by rw [pmCut_len]; omega)] at h
      cases h
      exact Or.inl ⟨rfl, rfl⟩
    · rw [List.getElem?_set_ne (Ne.symm hj)] at h
      exact Or.inr ⟨hj, pmCut_at hlg h⟩
  refine ⟨by simp [pmS1, pmCut_len, hp], hl.1, hl.2.1, fun j w h => ?_, fun j w h hc => ?_⟩
  · rcases key j w h with ⟨rfl, rfl⟩ | ⟨hj, h1, h2⟩
    · exact hl.2.2 _ List.mem_cons_self
    · refine hl.2.2 (j, pv E w) (List.mem_cons_of_mem _ (List.mem_filter.mpr ⟨pmLv_in h1, ?_⟩))
      simp only [Bool.and_eq_true, Bool.not_eq_true', beq_eq_false_iff_ne, ne_eq, Bool.and_eq_false_iff, pv_cat]
      refine ⟨hj, ?_⟩
      by_cases q : j + 1 = i
      · exact Or.inr (fun z => h2 ⟨q, z⟩)
      · exact Or.inl q
  · rcases key j w h with ⟨rfl, rfl⟩ | ⟨hj, h1, h2⟩
    · exact absurd hc hv
    · exact hlg j w h1 hc
theorem pmS2_lr {E : Nat → Nat} {mth nL : Nat} {ls ls' : Array Slot} {pl : pmL} {i : Nat} {v : Value} (hL : pmLr E mth nL ls pl) (hi : i + 1 < nL) (hg : pmLg mth i = true)
    (hl : lv_has ls' nL ((i, pv E v) :: (pmLv E pl).filter (fun q => !(q.1 == i) && (!(q.1 == i + 1) && !(q.1 + 1 == i && q.2.category == 2))))) : pmLr E mth nL ls' (pmS2 mth pl i v) := by
  have hp := hL.1
  have hlg := hL.2.2.2.2
  have key : ∀ (j : Nat) (w : Value), (pmS2 mth pl i v)[j]? = some (some w) → (j = i ∧ w = v) ∨ (j ≠ i ∧ j ≠ i + 1 ∧ pl[j]? = some (some w) ∧ ¬ (j + 1 = i ∧ w.category = 2)) := by
    intro j w h
    unfold pmS2 at h
    by_cases hk : j = i + 1
    · subst hk
      rw [List.getElem?_set_self (by simp [pmCut_len]; omega)] at h
      cases h
    rw [List.getElem?_set_ne (Ne.symm hk)] at h
    by_cases hj : j = i
    · subst hj
      rw [List.getElem?_set_self (by rw [pmCut_len]; omega)] at h
      cases h
      exact Or.inl ⟨rfl, rfl⟩
    · rw [List.getElem?_set_ne (Ne.symm hj)] at h
      exact Or.inr ⟨hj, hk, pmCut_at hlg h⟩
  refine ⟨by simp [pmS2, pmCut_len, hp], hl.1, hl.2.1, fun j w h => ?_, fun j w h hc => ?_⟩
  · rcases key j w h with ⟨rfl, rfl⟩ | ⟨hj, hk, h1, h2⟩
    · exact hl.2.2 _ List.mem_cons_self
    · refine hl.2.2 (j, pv E w) (List.mem_cons_of_mem _ (List.mem_filter.mpr ⟨pmLv_in h1, ?_⟩))
      simp only [Bool.and_eq_true, Bool.not_eq_true', beq_eq_false_iff_ne, ne_eq, Bool.and_eq_false_iff, pv_cat]
      refine ⟨hj, hk, ?_⟩
      by_cases q : j + 1 = i
      · exact Or.inr (fun z => h2 ⟨q, z⟩)
      · exact Or.inl q
  · rcases key j w h with ⟨rfl, rfl⟩ | ⟨hj, hk, h1, h2⟩
    · exact hg
    · exact hlg j w h1 hc
theorem pmPl_sl (E : Nat → Nat) (as : List Value) : lg_sl (as.map (pv E)) = (pmPl as).map fun o => match o with
    | some v => Slot.val (pv E v)
    | none => Slot.second := by
  induction as with
  | nil => rfl
  | cons v t ih =>
    have e1 : lg_sl ((v :: t).map (pv E)) = (if (pv E v).category = 2 then [Slot.val (pv E v), Slot.second] else [Slot.val (pv E v)]) ++ lg_sl (t.map (pv E)) := rfl
    have e2 : pmPl (v :: t) = (if v.category = 2 then [some v, none] else [some v]) ++ pmPl t := rfl
    rw [e1, e2, ih, pv_cat, List.map_append]
    split <;> rfl
theorem pmEntry (E : Nat → Nat) (mth : Nat) (as : List Value) {n : Nat} (h : (pmPl as).length ≤ n) (hel : pmEl mth (pmPl as) = true) : pmLr E mth n ((lg_sl (as.map (pv E)) ++ List.replicate (n - (lg_sl (as.map (pv E))).length) Slot.unset).toArray) (pmPl as ++ List.replicate (n - (pmPl as).length) none) := by
  have hl : (lg_sl (as.map (pv E))).length = (pmPl as).length := by rw [pmPl_sl, List.length_map]
  have h0 := lv_entry (as.map (pv E)) (n := n) (by rw [hl]; exact h)
  have key : ∀ (i : Nat) (v : Value), (pmPl as ++ List.replicate (n - (pmPl as).length) none)[i]? = some (some v) → (pmPl as)[i]? = some (some v) := by
    intro i v hv
    by_cases hi : i < (pmPl as).length
    · rw [List.getElem?_append_left hi] at hv
      exact hv
    · rw [List.getElem?_append_right (by omega)] at hv
      rw [List.getElem?_replicate] at hv
      split at hv <;> cases hv
  refine ⟨by simp; omega, h0.1, h0.2.1, fun i v hv => ?_, fun i v hv hc => ?_⟩
  · have hv := key i v hv
    have hi : i < (pmPl as).length := (List.getElem?_eq_some_iff.mp hv).1
    simp only [List.getElem?_toArray]
    rw [List.getElem?_append_left (by rw [hl]; exact hi), pmPl_sl, List.getElem?_map, hv]
    rfl
  · have hv := key i v hv
    have hm : (some v, i) ∈ (pmPl as).zipIdx := List.mem_zipIdx_iff_getElem?.mpr hv
    have h1 := List.all_eq_true.mp hel _ hm
    simpa [hc] using h1
end
end
section
/-! what the checked tables give -/
section
theorem pmLk_mem {β : Type} : ∀ (l : List (Nat × β)) (k : Nat) (v : β), pmLk l k = some v → (k, v) ∈ l
  | [], _, _, h => by cases h
  | a :: l, k, v, h => by
    unfold pmLk at h
    cases hk : Nat.beq a.1 k with
    | true =>
      rw [hk] at h
      have e : a.1 = k := Nat.eq_of_beq_eq_true hk
      have e2 : a.2 = v := by simpa using h
      rw [← e, ← e2]
      exact List.mem_cons_self
    | false =>
      rw [hk] at h
      exact List.mem_cons_of_mem _ (pmLk_mem l k v (by simpa using h))
theorem pmG_mem {w : Jvm.Cond} {i : Nat} (h : pmWd i = some w) (hg : goodWord w = true) : w ∈ pmGood := List.mem_filter.mpr ⟨List.mem_of_getElem? h, hg⟩
theorem pmTb_mem {β : Type} {tb : List (List (Nat × β))} {ok : Nat → Nat × β → Prop} (hall : ∀ o, ∀ e ∈ (tb[o]?).getD [], ok o e) {o k : Nat} {v : β} (h : ((tb[o]?).bind fun l => pmLk l k) = some v) : ok o (k, v) := by
  cases hl : tb[o]? with
  | none => rw [hl] at h; cases h
  | some l =>
    rw [hl] at h
    have h1 := hall o
    rw [hl] at h1
    exact h1 _ (pmLk_mem l k v h)
theorem pmC_ok {o k : Nat} {v : Int32} {w : Nat} {own : String} (ho : pmOwn[o]? = some own) (h : pmC o k = some (v, w)) : Jvm.Cond.constant own k v ∈ pmGood := by
  obtain ⟨own', h1, h2⟩ := pmTb_mem pmCp_all h
  cases ho.symm.trans h1
  exact pmG_mem h2 rfl
theorem pmCL_ok {o k : Nat} {v : Int64} {w : Nat} {own : String} (ho : pmOwn[o]? = some own) (h : pmCL o k = some (v, w)) : Jvm.Cond.constantLong own k v ∈ pmGood := by
  obtain ⟨own', h1, h2⟩ := pmTb_mem pmLp_all h
  cases ho.symm.trans h1
  exact pmG_mem h2 rfl
theorem pmG_ok {o k w : Nat} {own : String} (ho : pmOwn[o]? = some own) (h : pmG o k = some w) : Jvm.Cond.fieldLink own k "BentTale$Planner" "UNITS" "[I" ∈ pmGood := by
  obtain ⟨own', h1, h2⟩ := pmTb_mem pmGp_all h
  cases ho.symm.trans h1
  exact pmG_mem h2 rfl
theorem pmN_ok {o k ci w : Nat} {own : String} (ho : pmOwn[o]? = some own) (h : pmN o k = some (ci, w)) : ∃ C T N, pmCl[ci]? = some (C, T, N) ∧ Jvm.Cond.classLink own k C ∈ pmGood := by
  obtain ⟨own', C, T, N, h1, h2, h3⟩ := pmTb_mem pmNp_all h
  cases ho.symm.trans h1
  exact ⟨C, T, N, h2, pmG_mem h3 rfl⟩
theorem pmF_ok {o k ci j w : Nat} {nst : Bool} {own : String} (ho : pmOwn[o]? = some own) (h : pmF o k = some (ci, j, w, nst)) : ∃ C T N, pmCl[ci]? = some (C, T, N) ∧ j < N ∧ (T j).1 = C ∧ (nst = false → Jvm.Cond.fieldLink own k C (T j).2.1 (T j).2.2.1 ∈ pmGood) ∧ (nst = true → Jvm.Cond.fieldLinkNest own k C (T j).2.1 (T j).2.2.1 "BentTale" ∈ lw_tbl) := by
  obtain ⟨own', C, T, N, h1, h2, h3, h4, h5⟩ := pmTb_mem pmFp_all h
  cases ho.symm.trans h1
  refine ⟨C, T, N, h2, h3, h4, fun hn => ?_, fun hn => ?_⟩
  · subst hn
    exact pmG_mem h5 rfl
  · subst hn
    exact List.mem_of_getElem? h5
theorem pmM_ok {o k mm w : Nat} {nst : Bool} {own : String} (ho : pmOwn[o]? = some own) (h : pmM o k = some (mm, w, nst)) : (mm = 9001 → Jvm.Cond.methodLink own k objectInit ∈ pmGood) ∧ (mm = 9000 → Jvm.Cond.methodLink own k arraycopyName ∈ pmGood) ∧
    (mm = 9002 → Jvm.Cond.methodLink own k Lib.Math.max.name ∈ pmGood) ∧ (mm = 9003 → Jvm.Cond.methodLink own k Lib.Math.min.name ∈ pmGood) ∧ (∀ q, mm ≠ 9000 → mm ≠ 9001 → mm ≠ 9002 → mm ≠ 9003 → pmInf[mm]? = some q → (nst = false → Jvm.Cond.methodLink own k q.1 ∈ pmGood) ∧ (nst = true → Jvm.Cond.methodLinkNest own k q.1 "BentTale" ∈ lw_tbl)) := by
  obtain ⟨own', h1, h2⟩ := pmTb_mem pmMp_all h
  cases ho.symm.trans h1
  refine ⟨fun e => ?_, fun e => ?_, fun e => ?_, fun e => ?_, fun q e0 e1 e2 e3 hq => ?_⟩
  · subst e
    exact pmG_mem h2 rfl
  · subst e
    exact pmG_mem h2 rfl
  · subst e
    exact pmG_mem h2 rfl
  · subst e
    exact pmG_mem h2 rfl
  · simp only [e0, e1, e2, e3, if_false] at h2
    obtain ⟨q', h3, h4⟩ := h2
    cases hq.symm.trans h3
    refine ⟨fun hn => ?_, fun hn => ?_⟩
    · subst hn
      exact pmG_mem h4 rfl
    · subst hn
      exact List.mem_of_getElem? h4
theorem pmK_ok {ci : Nat} {C : String} {T : u_T} {N : Nat} (h : pmCl[ci]? = some (C, T, N)) : ci < 13 ∧ pmOwn[ci]? = some C ∧ ∃ ty : Nat → FieldType, (pmNf[ci]?).getD 0 = N ∧ (∀ w ∈ u_ws C T N, w ∈ pmGood) ∧ Jvm.Cond.instantiable C N ∈ pmGood ∧ Jvm.Cond.initialized C ∈ pmGood ∧
    (∀ k, k < N → parseFieldDescriptor (T k).2.2.1 = some (ty k) ∧ pmKd ci k = pmKind (ty k) ∧ pmKd ci k ≤ 3 ∧ pmFn ci k = (T k).2.2.2) ∧ (∀ a, a < N → ∀ b, b < N → a ≠ b → (T a).2.1 ≠ (T b).2.1) := by
  have hci : ci < 13 := (List.getElem?_eq_some_iff.mp h).1
  obtain ⟨C', T', N', ty, ix, a, b, h1, h2, h3, h4, h5, h6, h7, h8, h9, h10, h11⟩ := pmKp_all ci hci
  cases h.symm.trans h1
  refine ⟨hci, h3, ty, h4, fun w hw => ?_, pmG_mem h7 rfl, pmG_mem h8 rfl, fun k hk => ⟨h10 k hk, h9 k hk⟩, h11⟩
  have hm : some w ∈ (u_ws C T N).map some := List.mem_map.mpr ⟨w, hw, rfl⟩
  rw [← h6] at hm
  obtain ⟨i, -, hi⟩ := List.mem_map.mp hm
  refine pmG_mem hi ?_
  obtain ⟨k, -, rfl⟩ := List.mem_map.mp hw
  unfold u_lay
  split <;> rfl
theorem pmI_at {m : Nat} {q : pmIt} (h : pmInf[m]? = some q) : ∃ t, pmAll[m]? = some (q, t) ∧ pmIp q := by
  unfold pmInf at h
  rw [List.getElem?_map] at h
  cases ha : pmAll[m]? with
  | none => rw [ha] at h; cases h
  | some x =>
    rw [ha] at h
    cases h
    exact ⟨x.2, rfl, pmIa x (List.mem_of_getElem? ha)⟩
end
end
