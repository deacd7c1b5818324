/-! the second make: instructions -/
section
noncomputable def bCutA (m : Nat) (pl : bL) (i : Nat) : bL := match i with
  | 0 => pl
  | j + 1 => bif pmLg m j then (match fGet pl j with
    | some (some (.inl (true, _))) => pl.set j none
    | _ => pl) else pl
abbrev bKk : Type := aX → bM → Nat → bL → List bV → Bool
noncomputable def bCat : bV → Nat
  | .inl (true, _) => 2
  | _ => 1
noncomputable def bCats (st : List bV) : Nat := (st.map bCat).sum
noncomputable def bSt1 (m : Nat) (pl : bL) (i : Nat) (v : bV) (K : bL → Bool) : Bool := fSet (some v) (bCutA m pl i) i K
noncomputable def bSt2 (m : Nat) (pl : bL) (i : Nat) (v : bV) (K : bL → Bool) : Bool := fSet (some v) (bCutA m pl i) i fun pl => fSet none pl (i + 1) K
noncomputable def bI0 (z : Int) : bV := .inl (false, 0, z)
noncomputable def bLd1 (pl : bL) (j : Nat) (k : bV → Bool) : Bool := match fGet pl j with
  | some (some v) => k v
  | _ => false
noncomputable def bBin (op : aE → aF → aF → (aE → aF → Bool) → Bool) (tg : Bool) (pc : Nat) (pl : bL) (st : List bV) (X : aX) (M : bM) (k : bKk) : Bool := match st with
  | .inl (ta, g) :: .inl (tb, f) :: r => bif (ta == tg) && (tb == tg) then op X.1 f g fun E h => k (E, X.2) M (pc + 1) pl (.inl (tg, h) :: r) else false
  | _ => false
noncomputable def bBrs (c pc : Nat) (off : Int) (X : aX) (M : bM) (f g : aF) (pl : bL) (r : List bV) (k : bKk) : Bool := aJp pc off fun t => aIf c X f g (fun X => k X M t pl r) (fun X => k X M (pc + 3) pl r)
abbrev bIf1 : Type := Nat → Nat → Nat → Nat → bL → List bV → aX → bM → bKk → Bool
noncomputable def bS_iconst (n : Int) (o m rt pc : Nat) (pl : bL) (st : List bV) (X : aX) (M : bM) (k : bKk) : Bool := aFz (Int32.ofInt n).toInt fun z => k X M (pc + 1) pl (bI0 z :: st)
noncomputable def bS_bipush (n : Int) (o m rt pc : Nat) (pl : bL) (st : List bV) (X : aX) (M : bM) (k : bKk) : Bool := aFz (Int8.ofInt n).toInt32.toInt fun z => k X M (pc + 2) pl (bI0 z :: st)
noncomputable def bS_sipush (n : Int) (o m rt pc : Nat) (pl : bL) (st : List bV) (X : aX) (M : bM) (k : bKk) : Bool := aFz (Int16.ofInt n).toInt32.toInt fun z => k X M (pc + 3) pl (bI0 z :: st)
noncomputable def bS_ldc (j : Nat) (o m rt pc : Nat) (pl : bL) (st : List bV) (X : aX) (M : bM) (k : bKk) : Bool := (match pmC o j with
    | some (v, _) => aFz v.toInt fun z => k X M (pc + 2) pl (bI0 z :: st)
    | none => false)
noncomputable def bS_ldc_w (j : Nat) (o m rt pc : Nat) (pl : bL) (st : List bV) (X : aX) (M : bM) (k : bKk) : Bool := (match pmC o j with
    | some (v, _) => aFz v.toInt fun z => k X M (pc + 3) pl (bI0 z :: st)
    | none => false)
noncomputable def bS_lconst (n : Fin 2) (o m rt pc : Nat) (pl : bL) (st : List bV) (X : aX) (M : bM) (k : bKk) : Bool := aFz (Int64.ofNat n.val).toInt fun z => k X M (pc + 1) pl (.inl (true, 0, z) :: st)
noncomputable def bS_ldc2_w (j : Nat) (o m rt pc : Nat) (pl : bL) (st : List bV) (X : aX) (M : bM) (k : bKk) : Bool := (match pmCL o j with
    | some (v, _) => aFz v.toInt fun z => k X M (pc + 3) pl (.inl (true, 0, z) :: st)
    | none => false)
noncomputable def bS_iload (j : Nat) (o m rt pc : Nat) (pl : bL) (st : List bV) (X : aX) (M : bM) (k : bKk) : Bool := bLd1 pl j fun v => (match v with
    | .inl (false, f) => k X M (pc + 2) pl (.inl (false, f) :: st)
    | _ => false)
noncomputable def bS_iload_n (j : Fin 4) (o m rt pc : Nat) (pl : bL) (st : List bV) (X : aX) (M : bM) (k : bKk) : Bool := bLd1 pl j.val fun v => (match v with
    | .inl (false, f) => k X M (pc + 1) pl (.inl (false, f) :: st)
    | _ => false)
noncomputable def bS_lload (j : Nat) (o m rt pc : Nat) (pl : bL) (st : List bV) (X : aX) (M : bM) (k : bKk) : Bool := bLd1 pl j fun v => (match v with
    | .inl (true, f) => k X M (pc + 2) pl (.inl (true, f) :: st)
    | _ => false)
noncomputable def bS_lload_n (j : Fin 4) (o m rt pc : Nat) (pl : bL) (st : List bV) (X : aX) (M : bM) (k : bKk) : Bool := bLd1 pl j.val fun v => (match v with
    | .inl (true, f) => k X M (pc + 1) pl (.inl (true, f) :: st)
    | _ => false)
noncomputable def bS_istore (j : Nat) (o m rt pc : Nat) (pl : bL) (st : List bV) (X : aX) (M : bM) (k : bKk) : Bool := (match st with
    | .inl (false, f) :: r => bSt1 m pl j (.inl (false, f)) fun pl => k X M (pc + 2) pl r
    | _ => false)
noncomputable def bS_istore_n (j : Fin 4) (o m rt pc : Nat) (pl : bL) (st : List bV) (X : aX) (M : bM) (k : bKk) : Bool := (match st with
    | .inl (false, f) :: r => bSt1 m pl j.val (.inl (false, f)) fun pl => k X M (pc + 1) pl r
    | _ => false)
noncomputable def bS_lstore (j : Nat) (o m rt pc : Nat) (pl : bL) (st : List bV) (X : aX) (M : bM) (k : bKk) : Bool := (match st with
    | .inl (true, f) :: r => bif pmLg m j then bSt2 m pl j (.inl (true, f)) fun pl => k X M (pc + 2) pl r else false
    | _ => false)
noncomputable def bS_lstore_n (j : Fin 4) (o m rt pc : Nat) (pl : bL) (st : List bV) (X : aX) (M : bM) (k : bKk) : Bool := (match st with
    | .inl (true, f) :: r => bif pmLg m j.val then bSt2 m pl j.val (.inl (true, f)) fun pl => k X M (pc + 1) pl r else false
    | _ => false)
noncomputable def bS_iinc (j : Nat) (n : Int) (o m rt pc : Nat) (pl : bL) (st : List bV) (X : aX) (M : bM) (k : bKk) : Bool := bLd1 pl j fun v => (match v with
    | .inl (false, f) => aAdd aR32 aT32 X.1 f (0, (Int32.ofInt n).toInt) fun E h => bSt1 m pl j (.inl (false, h)) fun pl => k (E, X.2) M (pc + 3) pl st
    | _ => false)
noncomputable def bS_iadd (o m rt pc : Nat) (pl : bL) (st : List bV) (X : aX) (M : bM) (k : bKk) : Bool := bBin (aAdd aR32 aT32) false pc pl st X M k
noncomputable def bS_isub (o m rt pc : Nat) (pl : bL) (st : List bV) (X : aX) (M : bM) (k : bKk) : Bool := bBin (aSub aR32 aT32) false pc pl st X M k
noncomputable def bS_imul (o m rt pc : Nat) (pl : bL) (st : List bV) (X : aX) (M : bM) (k : bKk) : Bool := bBin (aOp (· * ·) (bMulR aR32 aT32)) false pc pl st X M k
noncomputable def bS_iand (o m rt pc : Nat) (pl : bL) (st : List bV) (X : aX) (M : bM) (k : bKk) : Bool := bBin (aOp (· &&& ·) (aAndR aT32)) false pc pl st X M k
noncomputable def bS_ior (o m rt pc : Nat) (pl : bL) (st : List bV) (X : aX) (M : bM) (k : bKk) : Bool := bBin (aOp (· ||| ·) fun _ _ => aT32) false pc pl st X M k
noncomputable def bS_ixor (o m rt pc : Nat) (pl : bL) (st : List bV) (X : aX) (M : bM) (k : bKk) : Bool := bBin (aOp (· ^^^ ·) fun _ _ => aT32) false pc pl st X M k
noncomputable def bS_ishl (o m rt pc : Nat) (pl : bL) (st : List bV) (X : aX) (M : bM) (k : bKk) : Bool := bBin (aOp (fun x y => x <<< (y &&& 31)) fun _ _ => aT32) false pc pl st X M k
noncomputable def bS_ishr (o m rt pc : Nat) (pl : bL) (st : List bV) (X : aX) (M : bM) (k : bKk) : Bool := bBin (aOp (fun x y => x >>> (y &&& 31)) bShrR) false pc pl st X M k
noncomputable def bS_iushr (o m rt pc : Nat) (pl : bL) (st : List bV) (X : aX) (M : bM) (k : bKk) : Bool := bBin (aOp (fun x y => (x.toUInt32 >>> (y.toUInt32 &&& Int32.toUInt32 31)).toInt32) fun _ _ => aT32) false pc pl st X M k
noncomputable def bS_ladd (o m rt pc : Nat) (pl : bL) (st : List bV) (X : aX) (M : bM) (k : bKk) : Bool := bBin (aAdd aR64 aT64) true pc pl st X M k
noncomputable def bS_lmul (o m rt pc : Nat) (pl : bL) (st : List bV) (X : aX) (M : bM) (k : bKk) : Bool := bBin (aOq (· * ·) (bMulR aR64 aT64)) true pc pl st X M k
noncomputable def bS_land (o m rt pc : Nat) (pl : bL) (st : List bV) (X : aX) (M : bM) (k : bKk) : Bool := bBin (aOq (· &&& ·) (aAndR aT64)) true pc pl st X M k
noncomputable def bS_lor (o m rt pc : Nat) (pl : bL) (st : List bV) (X : aX) (M : bM) (k : bKk) : Bool := bBin (aOq (· ||| ·) fun _ _ => aT64) true pc pl st X M k
noncomputable def bS_lxor (o m rt pc : Nat) (pl : bL) (st : List bV) (X : aX) (M : bM) (k : bKk) : Bool := bBin (aOq (· ^^^ ·) fun _ _ => aT64) true pc pl st X M k
noncomputable def bS_lshl (o m rt pc : Nat) (pl : bL) (st : List bV) (X : aX) (M : bM) (k : bKk) : Bool := (match st with
    | .inl (false, g) :: .inl (true, f) :: r => aOs (fun x y => x <<< (y.toInt64 &&& 63)) (fun _ _ => aT64) X.1 f g fun E h => k (E, X.2) M (pc + 1) pl (.inl (true, h) :: r)
    | _ => false)
noncomputable def bS_lushr (o m rt pc : Nat) (pl : bL) (st : List bV) (X : aX) (M : bM) (k : bKk) : Bool := (match st with
    | .inl (false, g) :: .inl (true, f) :: r => aOs (fun x y => (x.toUInt64 >>> (y.toInt64.toUInt64 &&& Int64.toUInt64 63)).toInt64) bUshR X.1 f g fun E h => k (E, X.2) M (pc + 1) pl (.inl (true, h) :: r)
    | _ => false)
noncomputable def bS_lcmp (o m rt pc : Nat) (pl : bL) (st : List bV) (X : aX) (M : bM) (k : bKk) : Bool := (match st with
    | .inl (true, g) :: .inl (true, f) :: r => aIf 0 X f g (fun X => k X M (pc + 1) pl (bI0 0 :: r)) (fun X => aIf 2 X f g (fun X => k X M (pc + 1) pl (bI0 (-1) :: r)) (fun X => k X M (pc + 1) pl (bI0 1 :: r)))
    | _ => false)
noncomputable def bS_i2l (o m rt pc : Nat) (pl : bL) (st : List bV) (X : aX) (M : bM) (k : bKk) : Bool := (match st with
    | .inl (false, f) :: r => k X M (pc + 1) pl (.inl (true, f) :: r)
    | _ => false)
noncomputable def bS_l2i (o m rt pc : Nat) (pl : bL) (st : List bV) (X : aX) (M : bM) (k : bKk) : Bool := (match st with
    | .inl (true, f) :: r => aKeep (-2147483648) 2147483647 X.1 f fun E h => k (E, X.2) M (pc + 1) pl (.inl (false, h) :: r)
    | _ => false)
noncomputable def bS_i2b (o m rt pc : Nat) (pl : bL) (st : List bV) (X : aX) (M : bM) (k : bKk) : Bool := (match st with
    | .inl (false, f) :: r => aKeep (-128) 127 X.1 f fun E h => k (E, X.2) M (pc + 1) pl (.inl (false, h) :: r)
    | _ => false)
noncomputable def bS_dup (o m rt pc : Nat) (pl : bL) (st : List bV) (X : aX) (M : bM) (k : bKk) : Bool := (match st with
    | v :: r => bif Nat.beq (bCat v) 1 then k X M (pc + 1) pl (v :: v :: r) else false
    | _ => false)
noncomputable def bS_dup2 (o m rt pc : Nat) (pl : bL) (st : List bV) (X : aX) (M : bM) (k : bKk) : Bool := (match st with
    | v :: w :: r => bif Nat.beq (bCat v) 1 && Nat.beq (bCat w) 1 then k X M (pc + 1) pl (v :: w :: v :: w :: r) else false
    | _ => false)
noncomputable def bS_pop (o m rt pc : Nat) (pl : bL) (st : List bV) (X : aX) (M : bM) (k : bKk) : Bool := (match st with
    | v :: r => bif Nat.beq (bCat v) 1 then k X M (pc + 1) pl r else false
    | _ => false)
noncomputable def bS_ifCond (c : Jvm.ClassFile.Cond) (off : Int) (o m rt pc : Nat) (pl : bL) (st : List bV) (X : aX) (M : bM) (k : bKk) : Bool := (match st with
    | .inl (false, f) :: r => bBrs (aCond c) pc off X M f (0, 0) pl r k
    | _ => false)
noncomputable def bS_if_icmp (c : Jvm.ClassFile.Cond) (off : Int) (o m rt pc : Nat) (pl : bL) (st : List bV) (X : aX) (M : bM) (k : bKk) : Bool := (match st with
    | .inl (false, g) :: .inl (false, f) :: r => bBrs (aCond c) pc off X M f g pl r k
    | _ => false)
noncomputable def bS_goto (off : Int) (o m rt pc : Nat) (pl : bL) (st : List bV) (X : aX) (M : bM) (k : bKk) : Bool := aJp pc off fun t => k X M t pl st
noncomputable def bS_tableswitch (d : Int) (lo : Int) (hi : Int) (offs : Array Int) (o m rt pc : Nat) (pl : bL) (st : List bV) (X : aX) (M : bM) (k : bKk) : Bool := (match st with
    | .inl (false, f) :: r => bif decide ((offs.toList.length : Int) = hi - lo + 1) then aSw X f pc (fun X t => k X M t pl r) d (offs.toList.mapIdx fun j z => (lo + (j : Int), z)) else false
    | _ => false)
noncomputable def bS_lookupswitch (d : Int) (ps : Array (Int × Int)) (o m rt pc : Nat) (pl : bL) (st : List bV) (X : aX) (M : bM) (k : bKk) : Bool := (match st with
    | .inl (false, f) :: r => bif (ps.toList.zip (ps.toList.drop 1)).all (fun (a, next) => a.1 < next.1) then aSw X f pc (fun X t => k X M t pl r) d ps.toList else false
    | _ => false)
noncomputable def bS_aload (j : Nat) (o m rt pc : Nat) (pl : bL) (st : List bV) (X : aX) (M : bM) (k : bKk) : Bool := bLd1 pl j fun v => (match v with
    | .inr p => k X M (pc + 2) pl (.inr p :: st)
    | _ => false)
noncomputable def bS_aload_n (j : Fin 4) (o m rt pc : Nat) (pl : bL) (st : List bV) (X : aX) (M : bM) (k : bKk) : Bool := bLd1 pl j.val fun v => (match v with
    | .inr p => k X M (pc + 1) pl (.inr p :: st)
    | _ => false)
noncomputable def bS_astore (j : Nat) (o m rt pc : Nat) (pl : bL) (st : List bV) (X : aX) (M : bM) (k : bKk) : Bool := (match st with
    | .inr p :: r => bSt1 m pl j (.inr p) fun pl => k X M (pc + 2) pl r
    | _ => false)
noncomputable def bS_astore_n (j : Fin 4) (o m rt pc : Nat) (pl : bL) (st : List bV) (X : aX) (M : bM) (k : bKk) : Bool := (match st with
    | .inr p :: r => bSt1 m pl j.val (.inr p) fun pl => k X M (pc + 1) pl r
    | _ => false)
/-- one of the places -/
noncomputable def bAll (ps : List Nat) (t : Nat → Bool) : Bool := List.rec true (fun p _ ih => t p && ih) ps
noncomputable def bJn (ps : List Nat) (t : Nat → Option aI) : Option aI := List.rec none (fun p r ih => match t p with
  | some i => (match r with
    | [] => some i
    | _ => (match ih with
      | some j => some (aMin i.1 j.1, aMax i.2 j.2)
      | none => none))
  | none => none) ps
noncomputable def bMp (ps : List Nat) (t : Nat → Option Nat) : Option (List Nat) := List.rec (some []) (fun p _ ih => match t p, ih with
  | some q, some l => some (q :: l)
  | _, _ => none) ps
/-- the place is of this kind -/
noncomputable def bKc (p c : Nat) : Bool := match fG2 bZT p with
  | some s => Nat.beq s.1 c
  | none => false
noncomputable def bRf (p k : Nat) : Option Nat := match fG2 bZT p with
  | some s => pmRf s.2.2 k
  | none => none
/-- a row of this kind that has the place -/
noncomputable def bRow (c : Nat) (X : aX) (f : aF) (p : Nat) : Bool := match fG2 bZT p with
  | some s => Nat.beq s.1 c && aAt X f s.2.1
  | none => false
noncomputable def bRw2 (X : aX) (f : aF) (p : Nat) : Bool := match fG2 bZT p with
  | some s => (Nat.beq s.1 52 || Nat.beq s.1 53) && aAt X f s.2.1
  | none => false
noncomputable def bFree (H : bH) (p : Nat) : Bool := match fLk H p with
  | none => true
  | some _ => false
noncomputable def bGf (tg : Bool) (fk pc : Nat) (ps : List Nat) (pl : bL) (r : List bV) (X : aX) (M : bM) (k : bKk) : Bool := match ps with
  | [p] => bGetK X.1 M.1 p fk fun E H g => k (E, X.2) (H, M.2) (pc + 3) pl (.inl (tg, g) :: r)
  | _ => (match bJn ps fun p => bEi X.1 (bEn M.1 p fk) with
    | some j => aNew X.1 j fun E g => k (E, X.2) M (pc + 3) pl (.inl (tg, g) :: r)
    | none => false)
noncomputable def bS_getfield (j : Nat) (o m rt pc : Nat) (pl : bL) (st : List bV) (X : aX) (M : bM) (k : bKk) : Bool := (match pmF o j with
    | some (ci, fk, _, _) => (match st with
      | .inr ps :: r => bif bAll ps fun p => bKc p ci then (match pmKd ci fk with
            | 0 => bGf false fk pc ps pl r X M k
            | 3 => bGf false fk pc ps pl r X M k
            | 1 => bGf true fk pc ps pl r X M k
            | 2 => (match bMp ps fun p => bRf p fk with
              | some qs => k X M (pc + 3) pl (.inr qs :: r)
              | none => false)
            | _ => false) else false
      | _ => false)
    | none => false)
/-- a field of one place, or of one of some -/
noncomputable def bPf (fk pc : Nat) (ps : List Nat) (f : aF) (pl : bL) (r : List bV) (X : aX) (M : bM) (k : bKk) : Bool := match ps with
  | [p] => bif bPr M.2.2 (bRm p fk 0) then bSetO p fk (.inl f) M.1 fun H => fDel p M.2.1 fun S => k X (H, S, Nat.lor M.2.2 (bRm p fk 0)) (pc + 3) pl r else false
  | _ => (match aItv X.1 f with
    | some i => bif bAll ps fun p => bFree M.1 p && (bCov i (bGe p fk) && bPr M.2.2 (bRm p fk 0)) then k X (M.1, [], List.rec M.2.2 (fun p _ ih => Nat.lor ih (bRm p fk 0)) ps) (pc + 3) pl r else false
    | none => false)
noncomputable def bS_putfield (j : Nat) (o m rt pc : Nat) (pl : bL) (st : List bV) (X : aX) (M : bM) (k : bKk) : Bool := (match pmF o j with
    | some (ci, fk, _, nst) => (match st with
      | v :: .inr ps :: r => bif bAll ps (fun p => bKc p ci) && !(pmFn ci fk) then (match pmKd ci fk, v with
            | 0, .inl (false, f) => bPf fk pc ps f pl r X M k
            | 3, .inl (false, f) => (match aItv X.1 f with
              | some i => bif zLe 0 i.1 && zLe i.2 1 then bPf fk pc ps f pl r X M k else false
              | none => false)
            | 1, .inl (true, f) => bPf fk pc ps f pl r X M k
            | _, _ => false) else false
      | _ => false)
    | none => false)
noncomputable def bS_getstatic (j : Nat) (o m rt pc : Nat) (pl : bL) (st : List bV) (X : aX) (M : bM) (k : bKk) : Bool := (match pmG o j with
    | some _ => k X M (pc + 3) pl (.inr [1000] :: st)
    | none => false)
/-- of a row: one place, or one of some whose rows hold what the table says -/
noncomputable def bGr (tg : Bool) (pc : Nat) (ps : List Nat) (f : aF) (pl : bL) (r : List bV) (X : aX) (M : bM) (k : bKk) : Bool := match ps with
  | [p] => bGetA X.1 M.1 M.2.1 p f fun E H S g => k (E, X.2) (H, S, M.2.2) (pc + 1) pl (.inl (tg, g) :: r)
  | _ => bif bAll ps fun p => bFree M.1 p then (match bJn ps fun p => (match bGu p with
      | some d => bLh d
      | none => none) with
    | some j => aNew X.1 j fun E g => k (E, X.2) M (pc + 1) pl (.inl (tg, g) :: r)
    | none => false) else false
noncomputable def bS_iaload (o m rt pc : Nat) (pl : bL) (st : List bV) (X : aX) (M : bM) (k : bKk) : Bool := (match st with
    | .inl (false, f) :: .inr ps :: r => (match ps with
      | [p] => bif Nat.beq p 1000 then (bif aAt X f 7 then k X M (pc + 1) pl (bI0 1 :: r) else false)
        else bif Nat.beq p 1001 then (match aItv X.1 f, aUb X f (1, 0) with
          | some i, some u => bif zLe 0 i.1 && zLe (zAdd u 1) 0 then (match aSf f X.2.2 with
            | some g => k X M (pc + 1) pl (.inl (false, g) :: r)
            | none => aNew X.1 aT32 fun E g => k (E, X.2.1, (f, g) :: X.2.2) M (pc + 1) pl (.inl (false, g) :: r)) else false
          | _, _ => false)
        else bif bRow 50 X f p && Nat.ble p 999 then bGr false pc [p] f pl r X M k else false
      | _ => bif bAll ps fun p => bRow 50 X f p && Nat.ble p 999 then bGr false pc ps f pl r X M k else false)
    | _ => false)
noncomputable def bS_laload (o m rt pc : Nat) (pl : bL) (st : List bV) (X : aX) (M : bM) (k : bKk) : Bool := (match st with
    | .inl (false, f) :: .inr ps :: r => bif bAll ps fun p => bRow 51 X f p then bGr true pc ps f pl r X M k else false
    | _ => false)
noncomputable def bS_baload (o m rt pc : Nat) (pl : bL) (st : List bV) (X : aX) (M : bM) (k : bKk) : Bool := (match st with
    | .inl (false, f) :: .inr ps :: r => bif bAll ps fun p => bRw2 X f p then bGr false pc ps f pl r X M k else false
    | _ => false)
/-- the places that a row of places has from a to a + n -/
noncomputable def bRfs (p a : Nat) : Nat → Option (List Nat)
  | 0 => (match bRf p a with
    | some q => some [q]
    | none => none)
  | n + 1 => (match bRfs p a n, bRf p (a + n + 1) with
    | some l, some q => some (q :: l)
    | _, _ => none)
noncomputable def bS_aaload (o m rt pc : Nat) (pl : bL) (st : List bV) (X : aX) (M : bM) (k : bKk) : Bool := (match st with
    | .inl (false, f) :: .inr [p] :: r => bif bRow 54 X f p then (match aItv X.1 f with
        | some i => (match bRfs p i.1.toNat (i.2 - i.1).toNat with
          | some l => k X M (pc + 1) pl (.inr l :: r)
          | none => false)
        | none => false) else false
    | _ => false)
/-- into a row: one place, or one of some whose rows the table tells alone -/
noncomputable def bPt (E : aE) (pc : Nat) (ps : List Nat) (f g : aF) (pl : bL) (r : List bV) (X : aX) (M : bM) (k : bKk) : Bool := match ps with
  | [p] => bPutA E M.1 M.2.1 p f g fun H S m => bif bPr M.2.2 m then k (E, X.2) (H, S, Nat.lor M.2.2 m) (pc + 1) pl r else false
  | _ => (match aItv E g with
    | some i => bif bAll ps fun p => bFree M.1 p && ((match bGu p with
        | some d => bCov i d
        | none => false) && (bPr M.2.2 (bRm p 0 0) && bSing p)) then k (E, X.2) (M.1, [], List.rec M.2.2 (fun p _ ih => Nat.lor ih (bRm p 0 0)) ps) (pc + 1) pl r else false
    | none => false)
noncomputable def bS_iastore (o m rt pc : Nat) (pl : bL) (st : List bV) (X : aX) (M : bM) (k : bKk) : Bool := (match st with
    | .inl (false, g) :: .inl (false, f) :: .inr ps :: r => bif bAll ps fun p => bRow 50 X f p then bPt X.1 pc ps f g pl r X M k else false
    | _ => false)
noncomputable def bS_lastore (o m rt pc : Nat) (pl : bL) (st : List bV) (X : aX) (M : bM) (k : bKk) : Bool := (match st with
    | .inl (true, g) :: .inl (false, f) :: .inr ps :: r => bif bAll ps fun p => bRow 51 X f p then bPt X.1 pc ps f g pl r X M k else false
    | _ => false)
noncomputable def bS_bastore (o m rt pc : Nat) (pl : bL) (st : List bV) (X : aX) (M : bM) (k : bKk) : Bool := (match st with
    | .inl (false, g) :: .inl (false, f) :: .inr [p] :: r => bif bRow 52 X f p then aKeep 0 1 X.1 g fun E g => bPt E pc [p] f g pl r X M k
          else bif bRow 53 X f p then aKeep (-128) 127 X.1 g fun E g => bPt E pc [p] f g pl r X M k else false
    | _ => false)
noncomputable def bS_arraylength (o m rt pc : Nat) (pl : bL) (st : List bV) (X : aX) (M : bM) (k : bKk) : Bool := (match st with
    | .inr [p] :: r => bif Nat.beq p 1001 then k X M (pc + 1) pl (.inl (false, 1, 0) :: r) else false
    | _ => false)
/-- all these intervals are within those -/
noncomputable def bCv (l d : List aI) : Bool := List.rec true (fun i _ ih => bCov i d && ih) l
noncomputable def bC1 (e : bN) (b k : Nat) (H : bH) (K : bH → Bool) : Bool := match e with
  | .inl g => bSetO b k (.inl g) H K
  | .inr l => bif bFree H b && bCv l (bGe b k) then K H else bSetO b k (.inr l) H K
noncomputable def bCp (H0 : bH) (a sp b dp : Nat) : Nat → bH → (bH → Bool) → Bool
  | 0, H, K => K H
  | n + 1, H, K => bCp H0 a sp b dp n H fun H => bC1 (bEn H0 a (sp + n)) b (dp + n) H K
/-- a row of this kind with n places from here on -/
noncomputable def bRng (c : Nat) (X : aX) (f : aF) (n : Nat) (p : Nat) : Bool := match fG2 bZT p, aItv X.1 f with
  | some s, some i => Nat.beq s.1 c && (zLe 0 i.1 && zLe (zAdd i.2 (.ofNat n)) (.ofNat s.2.1))
  | _, _ => false
noncomputable def bCpA (as bs : List Nat) (fs fd : aF) (n pc : Nat) (pl : bL) (r : List bV) (X : aX) (M : bM) (k : bKk) : Bool := match as, bs, aCst X.1 fs, aCst X.1 fd with
  | [a], [b], some s, some d => aFn s.toNat fun s => aFn d.toNat fun d => bif bPr M.2.2 (bRm b d n) then bCp M.1 a s b d n M.1 fun H => fDel b M.2.1 fun S => k X (H, S, Nat.lor M.2.2 (bRm b d n)) (pc + 3) pl r else false
  | _, _, _, _ => bif bAll as (fun a => bFree M.1 a && bAll bs fun b => (match bGu a, bGu b with
      | some u, some v => bCv u v
      | _, _ => false)) && bAll bs (fun b => bFree M.1 b && (bPr M.2.2 (bRm b 0 0) && bSing b)) then k X (M.1, [], List.rec M.2.2 (fun p _ ih => Nat.lor ih (bRm p 0 0)) bs) (pc + 3) pl r else false
noncomputable def bS_invokestatic (j : Nat) (o m rt pc : Nat) (pl : bL) (st : List bV) (X : aX) (M : bM) (k : bKk) : Bool := (match pmM o j with
    | some (mm, _, _) => bif Nat.beq mm 9000 then (match st with
        | .inl (false, fn) :: .inl (false, fd) :: .inr bs :: .inl (false, fs) :: .inr as :: r => (match aCst X.1 fn with
          | some n => bif Nat.ble (bCats r) 8 && zLe 0 n then aFn n.toNat fun n =>
              (bif (bAll as fun a => bRng 50 X fs n a) && (bAll bs fun b => bRng 50 X fd n b) then bCpA as bs fs fd n pc pl r X M k
               else bif (bAll as fun a => bRng 51 X fs n a) && (bAll bs fun b => bRng 51 X fd n b) then bCpA as bs fs fd n pc pl r X M k else false) else false
          | none => false)
        | _ => false)
      else bif Nat.beq mm 9002 then (match st with
        | .inl (false, g) :: .inl (false, f) :: r => bif Nat.ble (bCats r) 8 then aOp (fun x y => if x < y then y else x) aMaxR X.1 f g fun E h => k (E, X.2) M (pc + 3) pl (.inl (false, h) :: r) else false
        | _ => false)
      else bif Nat.beq mm 9003 then (match st with
        | .inl (false, g) :: .inl (false, f) :: r => bif Nat.ble (bCats r) 8 then aOp (fun x y => if y < x then y else x) aMinR X.1 f g fun E h => k (E, X.2) M (pc + 3) pl (.inl (false, h) :: r) else false
        | _ => false)
      else false
    | none => false)
/-- a quotient or a rest by what isn't 0 -/
noncomputable def bNz (op : aE → aF → aF → (aE → aF → Bool) → Bool) (E : aE) (f g : aF) (K : aE → aF → Bool) : Bool := match aItv E g with
  | some j => bif zLe 1 j.1 || zLe j.2 (.negSucc 0) then op E f g K else false
  | none => false
noncomputable def bS_idiv (o m rt pc : Nat) (pl : bL) (st : List bV) (X : aX) (M : bM) (k : bKk) : Bool := bBin (bNz (aOp (· / ·) (bDivR aT32))) false pc pl st X M k
noncomputable def bS_irem (o m rt pc : Nat) (pl : bL) (st : List bV) (X : aX) (M : bM) (k : bKk) : Bool := bBin (bNz (aOp (fun x y => x - x / y * y) (bRemR aT32))) false pc pl st X M k
noncomputable def bS_lrem (o m rt pc : Nat) (pl : bL) (st : List bV) (X : aX) (M : bM) (k : bKk) : Bool := bBin (bNz (aOq (fun x y => x - x / y * y) (bRemR aT64))) true pc pl st X M k
noncomputable def bDis (i : Instr) : Option bIf1 := match i with
  | .iconst n => some (bS_iconst n)
  | .bipush n => some (bS_bipush n)
  | .sipush n => some (bS_sipush n)
  | .ldc j => some (bS_ldc j)
  | .ldc_w j => some (bS_ldc_w j)
  | .lconst n => some (bS_lconst n)
  | .ldc2_w j => some (bS_ldc2_w j)
  | .iload j => some (bS_iload j)
  | .iload_n j => some (bS_iload_n j)
  | .lload j => some (bS_lload j)
  | .lload_n j => some (bS_lload_n j)
  | .aload j => some (bS_aload j)
  | .aload_n j => some (bS_aload_n j)
  | .istore j => some (bS_istore j)
  | .istore_n j => some (bS_istore_n j)
  | .astore j => some (bS_astore j)
  | .astore_n j => some (bS_astore_n j)
  | .lstore j => some (bS_lstore j)
  | .lstore_n j => some (bS_lstore_n j)
  | .iinc j n => some (bS_iinc j n)
  | .idiv => some bS_idiv
  | .irem => some bS_irem
  | .lrem => some bS_lrem
  | .iadd => some (bS_iadd)
  | .isub => some (bS_isub)
  | .imul => some (bS_imul)
  | .iand => some (bS_iand)
  | .ior => some (bS_ior)
  | .ixor => some (bS_ixor)
  | .ishl => some (bS_ishl)
  | .ishr => some (bS_ishr)
  | .iushr => some (bS_iushr)
  | .ladd => some (bS_ladd)
  | .lmul => some (bS_lmul)
  | .land => some (bS_land)
  | .lor => some (bS_lor)
  | .lxor => some (bS_lxor)
  | .lshl => some (bS_lshl)
  | .lushr => some (bS_lushr)
  | .lcmp => some (bS_lcmp)
  | .i2l => some (bS_i2l)
  | .l2i => some (bS_l2i)
  | .i2b => some (bS_i2b)
  | .dup => some (bS_dup)
  | .dup2 => some (bS_dup2)
  | .pop => some (bS_pop)
  | .ifCond c off => some (bS_ifCond c off)
  | .if_icmp c off => some (bS_if_icmp c off)
  | .goto off => some (bS_goto off)
  | .tableswitch d lo hi offs => some (bS_tableswitch d lo hi offs)
  | .lookupswitch d ps => some (bS_lookupswitch d ps)
  | .getfield j => some (bS_getfield j)
  | .putfield j => some (bS_putfield j)
  | .getstatic j => some (bS_getstatic j)
  | .iaload => some (bS_iaload)
  | .laload => some (bS_laload)
  | .baload => some (bS_baload)
  | .aaload => some (bS_aaload)
  | .iastore => some (bS_iastore)
  | .lastore => some (bS_lastore)
  | .bastore => some (bS_bastore)
  | .arraylength => some (bS_arraylength)
  | .invokestatic j => some (bS_invokestatic j)
  | _ => none
noncomputable def bStep (o m rt pc : Nat) (i : Instr) (pl : bL) (st : List bV) (X : aX) (M : bM) (k : bKk) : Bool := match bDis i with
  | some f => f o m rt pc pl st X M k
  | none => false
end
