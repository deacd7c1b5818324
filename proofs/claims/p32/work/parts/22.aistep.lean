/-! the abstract machine's instructions -/
section
noncomputable def aGetK (E : aE) (H : aH) (p k : Nat) (K : aE → aH → aF → Bool) : Bool := match fG2 H p with
  | some (d, o) => (match fLk o k with
        | some g => K E H g
        | none => bif zEq d.1 d.2 then aFz d.1 fun z => K E H (0, z) else aNew E d fun E' g => aS2 H p (d, (k, g) :: o) fun H' => K E' H' g)
  | none => false
noncomputable def aPutK (H : aH) (p k : Nat) (g : aF) (K : aH → Bool) : Bool := match fG2 H p with
  | some (d, o) => fDel k o fun t => aS2 H p (d, (k, g) :: t) K
  | none => false
noncomputable def aGetA (E : aE) (H : aH) (p : Nat) (f : aF) (K : aE → aH → aF → Bool) : Bool := match aItv E f with
  | some i => bif zEq i.1 i.2 && zLe 0 i.1 then aFn i.1.toNat fun k => aGetK E H p k K
    else match fG2 H p with
      | some c => (match aJo E c.2 c.1 with
        | some j => aNew E j fun E' g => K E' H g
        | none => false)
      | none => false
  | none => false
noncomputable def aPutA (E : aE) (H : aH) (p : Nat) (f g : aF) (K : aH → Bool) : Bool := match aItv E f with
  | some i => bif zEq i.1 i.2 && zLe 0 i.1 then aFn i.1.toNat fun k => aPutK H p k g K
    else match fG2 H p, aItv E g with
      | some c, some j => (match aWk E i.1 i.2 c.2 (aMin c.1.1 j.1, aMax c.1.2 j.2) with
          | some r => aFz r.1.1 fun a => aFz r.1.2 fun b => aS2 H p ((a, b), r.2) K
          | none => false)
      | _, _ => false
  | none => false
abbrev aKk : Type := aX → aM → Nat → aL → List aV → Bool
noncomputable def aCat : aV → Nat
  | .inl (true, _) => 2
  | _ => 1
noncomputable def aCats (st : List aV) : Nat := (st.map aCat).sum
noncomputable def aSt1 (m : Nat) (pl : aL) (i : Nat) (v : aV) (K : aL → Bool) : Bool := fSet (some v) (aCutA m pl i) i K
noncomputable def aSt2 (m : Nat) (pl : aL) (i : Nat) (v : aV) (K : aL → Bool) : Bool := fSet (some v) (aCutA m pl i) i fun pl => fSet none pl (i + 1) K
noncomputable def aI0 (z : Int) : aV := .inl (false, 0, z)
noncomputable def aLd1 (pl : aL) (j : Nat) (k : aV → Bool) : Bool := match fGet pl j with
  | some (some v) => k v
  | _ => false
noncomputable def aBin (op : aE → aF → aF → (aE → aF → Bool) → Bool) (tg : Bool) (pc : Nat) (pl : aL) (st : List aV) (X : aX) (M : aM) (k : aKk) : Bool := match st with
  | .inl (ta, g) :: .inl (tb, f) :: r => bif (ta == tg) && (tb == tg) then op X.1 f g fun E h => k (E, X.2) M (pc + 1) pl (.inl (tg, h) :: r) else false
  | _ => false
noncomputable def aBrs (c pc : Nat) (off : Int) (X : aX) (M : aM) (f g : aF) (pl : aL) (r : List aV) (k : aKk) : Bool := aJp pc off fun t => aIf c X f g (fun X => k X M t pl r) (fun X => k X M (pc + 3) pl r)
noncomputable def aCond : Jvm.ClassFile.Cond → Nat
  | .eq => 0
  | .ne => 1
  | .lt => 2
  | .ge => 3
  | .gt => 4
  | .le => 5
noncomputable def aNewZ (X : aX) (M : aM) (z : pmZ) (K : Nat → aM → Bool) : Bool := bif decide (M.1.1 < 900) then aP2 M.1.1 M.1.2 z fun Z => aP2 M.1.1 M.2.1 ((0, 0), []) fun HI => aP2 M.1.1 M.2.2.1 ((0, 0), []) fun HL => aFn M.1.1 fun p => K p ((p + 1, Z), HI, HL, aWt M.2.2.2 p) else false
abbrev aIf1 : Type := Nat → Nat → Nat → Nat → aL → List aV → aX → aM → aKk → Bool
noncomputable def aS_iconst (n : Int) (o m rt pc : Nat) (pl : aL) (st : List aV) (X : aX) (M : aM) (k : aKk) : Bool := aFz (Int32.ofInt n).toInt fun z => k X M (pc + 1) pl (aI0 z :: st)
noncomputable def aS_bipush (n : Int) (o m rt pc : Nat) (pl : aL) (st : List aV) (X : aX) (M : aM) (k : aKk) : Bool := aFz (Int8.ofInt n).toInt32.toInt fun z => k X M (pc + 2) pl (aI0 z :: st)
noncomputable def aS_sipush (n : Int) (o m rt pc : Nat) (pl : aL) (st : List aV) (X : aX) (M : aM) (k : aKk) : Bool := aFz (Int16.ofInt n).toInt32.toInt fun z => k X M (pc + 3) pl (aI0 z :: st)
noncomputable def aS_ldc (j : Nat) (o m rt pc : Nat) (pl : aL) (st : List aV) (X : aX) (M : aM) (k : aKk) : Bool := (match pmC o j with
    | some (v, _) => aFz v.toInt fun z => k X M (pc + 2) pl (aI0 z :: st)
    | none => false)
noncomputable def aS_ldc_w (j : Nat) (o m rt pc : Nat) (pl : aL) (st : List aV) (X : aX) (M : aM) (k : aKk) : Bool := (match pmC o j with
    | some (v, _) => aFz v.toInt fun z => k X M (pc + 3) pl (aI0 z :: st)
    | none => false)
noncomputable def aS_lconst (n : Fin 2) (o m rt pc : Nat) (pl : aL) (st : List aV) (X : aX) (M : aM) (k : aKk) : Bool := aFz (Int64.ofNat n.val).toInt fun z => k X M (pc + 1) pl (.inl (true, 0, z) :: st)
noncomputable def aS_ldc2_w (j : Nat) (o m rt pc : Nat) (pl : aL) (st : List aV) (X : aX) (M : aM) (k : aKk) : Bool := (match pmCL o j with
    | some (v, _) => aFz v.toInt fun z => k X M (pc + 3) pl (.inl (true, 0, z) :: st)
    | none => false)
noncomputable def aS_iload (j : Nat) (o m rt pc : Nat) (pl : aL) (st : List aV) (X : aX) (M : aM) (k : aKk) : Bool := aLd1 pl j fun v => (match v with
    | .inl (false, f) => k X M (pc + 2) pl (.inl (false, f) :: st)
    | _ => false)
noncomputable def aS_iload_n (j : Fin 4) (o m rt pc : Nat) (pl : aL) (st : List aV) (X : aX) (M : aM) (k : aKk) : Bool := aLd1 pl j.val fun v => (match v with
    | .inl (false, f) => k X M (pc + 1) pl (.inl (false, f) :: st)
    | _ => false)
noncomputable def aS_lload (j : Nat) (o m rt pc : Nat) (pl : aL) (st : List aV) (X : aX) (M : aM) (k : aKk) : Bool := aLd1 pl j fun v => (match v with
    | .inl (true, f) => k X M (pc + 2) pl (.inl (true, f) :: st)
    | _ => false)
noncomputable def aS_lload_n (j : Fin 4) (o m rt pc : Nat) (pl : aL) (st : List aV) (X : aX) (M : aM) (k : aKk) : Bool := aLd1 pl j.val fun v => (match v with
    | .inl (true, f) => k X M (pc + 1) pl (.inl (true, f) :: st)
    | _ => false)
noncomputable def aS_aload (j : Nat) (o m rt pc : Nat) (pl : aL) (st : List aV) (X : aX) (M : aM) (k : aKk) : Bool := aLd1 pl j fun v => (match v with
    | .inr p => k X M (pc + 2) pl (.inr p :: st)
    | _ => false)
noncomputable def aS_aload_n (j : Fin 4) (o m rt pc : Nat) (pl : aL) (st : List aV) (X : aX) (M : aM) (k : aKk) : Bool := aLd1 pl j.val fun v => (match v with
    | .inr p => k X M (pc + 1) pl (.inr p :: st)
    | _ => false)
noncomputable def aS_istore (j : Nat) (o m rt pc : Nat) (pl : aL) (st : List aV) (X : aX) (M : aM) (k : aKk) : Bool := (match st with
    | .inl (false, f) :: r => aSt1 m pl j (.inl (false, f)) fun pl => k X M (pc + 2) pl r
    | _ => false)
noncomputable def aS_istore_n (j : Fin 4) (o m rt pc : Nat) (pl : aL) (st : List aV) (X : aX) (M : aM) (k : aKk) : Bool := (match st with
    | .inl (false, f) :: r => aSt1 m pl j.val (.inl (false, f)) fun pl => k X M (pc + 1) pl r
    | _ => false)
noncomputable def aS_astore (j : Nat) (o m rt pc : Nat) (pl : aL) (st : List aV) (X : aX) (M : aM) (k : aKk) : Bool := (match st with
    | .inr p :: r => aSt1 m pl j (.inr p) fun pl => k X M (pc + 2) pl r
    | _ => false)
noncomputable def aS_astore_n (j : Fin 4) (o m rt pc : Nat) (pl : aL) (st : List aV) (X : aX) (M : aM) (k : aKk) : Bool := (match st with
    | .inr p :: r => aSt1 m pl j.val (.inr p) fun pl => k X M (pc + 1) pl r
    | _ => false)
noncomputable def aS_lstore (j : Nat) (o m rt pc : Nat) (pl : aL) (st : List aV) (X : aX) (M : aM) (k : aKk) : Bool := (match st with
    | .inl (true, f) :: r => bif pmLg m j then aSt2 m pl j (.inl (true, f)) fun pl => k X M (pc + 2) pl r else false
    | _ => false)
noncomputable def aS_lstore_n (j : Fin 4) (o m rt pc : Nat) (pl : aL) (st : List aV) (X : aX) (M : aM) (k : aKk) : Bool := (match st with
    | .inl (true, f) :: r => bif pmLg m j.val then aSt2 m pl j.val (.inl (true, f)) fun pl => k X M (pc + 1) pl r else false
    | _ => false)
noncomputable def aS_iinc (j : Nat) (n : Int) (o m rt pc : Nat) (pl : aL) (st : List aV) (X : aX) (M : aM) (k : aKk) : Bool := aLd1 pl j fun v => (match v with
    | .inl (false, f) => aAdd aR32 aT32 X.1 f (0, (Int32.ofInt n).toInt) fun E h => aSt1 m pl j (.inl (false, h)) fun pl => k (E, X.2) M (pc + 3) pl st
    | _ => false)
noncomputable def aS_iadd (o m rt pc : Nat) (pl : aL) (st : List aV) (X : aX) (M : aM) (k : aKk) : Bool := aBin (aAdd aR32 aT32) false pc pl st X M k
noncomputable def aS_isub (o m rt pc : Nat) (pl : aL) (st : List aV) (X : aX) (M : aM) (k : aKk) : Bool := aBin (aSub aR32 aT32) false pc pl st X M k
noncomputable def aS_imul (o m rt pc : Nat) (pl : aL) (st : List aV) (X : aX) (M : aM) (k : aKk) : Bool := aBin (aOp (· * ·) fun _ _ => aT32) false pc pl st X M k
noncomputable def aS_iand (o m rt pc : Nat) (pl : aL) (st : List aV) (X : aX) (M : aM) (k : aKk) : Bool := aBin (aOp (· &&& ·) (aAndR aT32)) false pc pl st X M k
noncomputable def aS_ior (o m rt pc : Nat) (pl : aL) (st : List aV) (X : aX) (M : aM) (k : aKk) : Bool := aBin (aOp (· ||| ·) fun _ _ => aT32) false pc pl st X M k
noncomputable def aS_ixor (o m rt pc : Nat) (pl : aL) (st : List aV) (X : aX) (M : aM) (k : aKk) : Bool := aBin (aOp (· ^^^ ·) fun _ _ => aT32) false pc pl st X M k
noncomputable def aS_ishl (o m rt pc : Nat) (pl : aL) (st : List aV) (X : aX) (M : aM) (k : aKk) : Bool := aBin (aOp (fun x y => x <<< (y &&& 31)) fun _ _ => aT32) false pc pl st X M k
noncomputable def aS_ishr (o m rt pc : Nat) (pl : aL) (st : List aV) (X : aX) (M : aM) (k : aKk) : Bool := aBin (aOp (fun x y => x >>> (y &&& 31)) fun _ _ => aT32) false pc pl st X M k
noncomputable def aS_iushr (o m rt pc : Nat) (pl : aL) (st : List aV) (X : aX) (M : aM) (k : aKk) : Bool := aBin (aOp (fun x y => (x.toUInt32 >>> (y.toUInt32 &&& Int32.toUInt32 31)).toInt32) fun _ _ => aT32) false pc pl st X M k
noncomputable def aS_ladd (o m rt pc : Nat) (pl : aL) (st : List aV) (X : aX) (M : aM) (k : aKk) : Bool := aBin (aAdd aR64 aT64) true pc pl st X M k
noncomputable def aS_lmul (o m rt pc : Nat) (pl : aL) (st : List aV) (X : aX) (M : aM) (k : aKk) : Bool := aBin (aOq (· * ·) fun _ _ => aT64) true pc pl st X M k
noncomputable def aS_land (o m rt pc : Nat) (pl : aL) (st : List aV) (X : aX) (M : aM) (k : aKk) : Bool := aBin (aOq (· &&& ·) (aAndR aT64)) true pc pl st X M k
noncomputable def aS_lor (o m rt pc : Nat) (pl : aL) (st : List aV) (X : aX) (M : aM) (k : aKk) : Bool := aBin (aOq (· ||| ·) fun _ _ => aT64) true pc pl st X M k
noncomputable def aS_lxor (o m rt pc : Nat) (pl : aL) (st : List aV) (X : aX) (M : aM) (k : aKk) : Bool := aBin (aOq (· ^^^ ·) fun _ _ => aT64) true pc pl st X M k
noncomputable def aS_lshl (o m rt pc : Nat) (pl : aL) (st : List aV) (X : aX) (M : aM) (k : aKk) : Bool := (match st with
    | .inl (false, g) :: .inl (true, f) :: r => aOs (fun x y => x <<< (y.toInt64 &&& 63)) (fun _ _ => aT64) X.1 f g fun E h => k (E, X.2) M (pc + 1) pl (.inl (true, h) :: r)
    | _ => false)
noncomputable def aS_lushr (o m rt pc : Nat) (pl : aL) (st : List aV) (X : aX) (M : aM) (k : aKk) : Bool := (match st with
    | .inl (false, g) :: .inl (true, f) :: r => aOs (fun x y => (x.toUInt64 >>> (y.toInt64.toUInt64 &&& Int64.toUInt64 63)).toInt64) (fun _ _ => aT64) X.1 f g fun E h => k (E, X.2) M (pc + 1) pl (.inl (true, h) :: r)
    | _ => false)
noncomputable def aS_lcmp (o m rt pc : Nat) (pl : aL) (st : List aV) (X : aX) (M : aM) (k : aKk) : Bool := (match st with
    | .inl (true, g) :: .inl (true, f) :: r => aIf 0 X f g (fun X => k X M (pc + 1) pl (aI0 0 :: r)) (fun X => aIf 2 X f g (fun X => k X M (pc + 1) pl (aI0 (-1) :: r)) (fun X => k X M (pc + 1) pl (aI0 1 :: r)))
    | _ => false)
noncomputable def aS_i2l (o m rt pc : Nat) (pl : aL) (st : List aV) (X : aX) (M : aM) (k : aKk) : Bool := (match st with
    | .inl (false, f) :: r => k X M (pc + 1) pl (.inl (true, f) :: r)
    | _ => false)
noncomputable def aS_l2i (o m rt pc : Nat) (pl : aL) (st : List aV) (X : aX) (M : aM) (k : aKk) : Bool := (match st with
    | .inl (true, f) :: r => aKeep (-2147483648) 2147483647 X.1 f fun E h => k (E, X.2) M (pc + 1) pl (.inl (false, h) :: r)
    | _ => false)
noncomputable def aS_i2b (o m rt pc : Nat) (pl : aL) (st : List aV) (X : aX) (M : aM) (k : aKk) : Bool := (match st with
    | .inl (false, f) :: r => aKeep (-128) 127 X.1 f fun E h => k (E, X.2) M (pc + 1) pl (.inl (false, h) :: r)
    | _ => false)
noncomputable def aS_dup (o m rt pc : Nat) (pl : aL) (st : List aV) (X : aX) (M : aM) (k : aKk) : Bool := (match st with
    | v :: r => bif Nat.beq (aCat v) 1 then k X M (pc + 1) pl (v :: v :: r) else false
    | _ => false)
noncomputable def aS_dup2 (o m rt pc : Nat) (pl : aL) (st : List aV) (X : aX) (M : aM) (k : aKk) : Bool := (match st with
    | v :: w :: r => bif Nat.beq (aCat v) 1 && Nat.beq (aCat w) 1 then k X M (pc + 1) pl (v :: w :: v :: w :: r) else false
    | _ => false)
noncomputable def aS_pop (o m rt pc : Nat) (pl : aL) (st : List aV) (X : aX) (M : aM) (k : aKk) : Bool := (match st with
    | v :: r => bif Nat.beq (aCat v) 1 then k X M (pc + 1) pl r else false
    | _ => false)
noncomputable def aS_ifCond (c : Jvm.ClassFile.Cond) (off : Int) (o m rt pc : Nat) (pl : aL) (st : List aV) (X : aX) (M : aM) (k : aKk) : Bool := (match st with
    | .inl (false, f) :: r => aBrs (aCond c) pc off X M f (0, 0) pl r k
    | _ => false)
noncomputable def aS_if_icmp (c : Jvm.ClassFile.Cond) (off : Int) (o m rt pc : Nat) (pl : aL) (st : List aV) (X : aX) (M : aM) (k : aKk) : Bool := (match st with
    | .inl (false, g) :: .inl (false, f) :: r => aBrs (aCond c) pc off X M f g pl r k
    | _ => false)
noncomputable def aS_goto (off : Int) (o m rt pc : Nat) (pl : aL) (st : List aV) (X : aX) (M : aM) (k : aKk) : Bool := aJp pc off fun t => k X M t pl st
noncomputable def aS_tableswitch (d : Int) (lo : Int) (hi : Int) (offs : Array Int) (o m rt pc : Nat) (pl : aL) (st : List aV) (X : aX) (M : aM) (k : aKk) : Bool := (match st with
    | .inl (false, f) :: r => bif decide ((offs.toList.length : Int) = hi - lo + 1) then aSw X f pc (fun X t => k X M t pl r) d (offs.toList.mapIdx fun j z => (lo + (j : Int), z)) else false
    | _ => false)
noncomputable def aS_lookupswitch (d : Int) (ps : Array (Int × Int)) (o m rt pc : Nat) (pl : aL) (st : List aV) (X : aX) (M : aM) (k : aKk) : Bool := (match st with
    | .inl (false, f) :: r => bif (ps.toList.zip (ps.toList.drop 1)).all (fun (a, next) => a.1 < next.1) then aSw X f pc (fun X t => k X M t pl r) d ps.toList else false
    | _ => false)
noncomputable def aS_getfield (j : Nat) (o m rt pc : Nat) (pl : aL) (st : List aV) (X : aX) (M : aM) (k : aKk) : Bool := (match pmF o j with
    | some (ci, fk, _, _) => (match st with
      | .inr p :: r => (match fG2 M.1.2 p with
        | some (c, _, rs) => bif Nat.beq c ci then (match pmKd ci fk with
            | 0 => aGetK X.1 M.2.1 p fk fun E H g => k (E, X.2) (M.1, H, M.2.2) (pc + 3) pl (.inl (false, g) :: r)
            | 3 => aGetK X.1 M.2.1 p fk fun E H g => k (E, X.2) (M.1, H, M.2.2) (pc + 3) pl (.inl (false, g) :: r)
            | 1 => aGetK X.1 M.2.2.1 p fk fun E H g => k (E, X.2) (M.1, M.2.1, H, M.2.2.2) (pc + 3) pl (.inl (true, g) :: r)
            | 2 => (match pmRf rs fk with
              | some q => k X M (pc + 3) pl (.inr q :: r)
              | none => false)
            | _ => false) else false
        | none => false)
      | _ => false)
    | none => false)
noncomputable def aS_putfield (j : Nat) (o m rt pc : Nat) (pl : aL) (st : List aV) (X : aX) (M : aM) (k : aKk) : Bool := (match pmF o j with
    | some (ci, fk, _, nst) => (match st with
      | v :: .inr p :: r => (match fG2 M.1.2 p with
        | some (c, n, rs) => if c = ci ∧ (pmFn ci fk = true → nst = false ∧ o = ci ∧ rt = 4) then (match pmKd ci fk, v with
            | 0, .inl (false, f) => aPutK M.2.1 p fk f fun H => k X (M.1, H, M.2.2.1, aWt M.2.2.2 p) (pc + 3) pl r
            | 3, .inl (false, f) => (match aItv X.1 f with
              | some i => bif zLe 0 i.1 && zLe i.2 1 then aPutK M.2.1 p fk f fun H => k X (M.1, H, M.2.2.1, aWt M.2.2.2 p) (pc + 3) pl r else false
              | none => false)
            | 1, .inl (true, f) => aPutK M.2.2.1 p fk f fun H => k X (M.1, M.2.1, H, aWt M.2.2.2 p) (pc + 3) pl r
            | 2, .inr q => bif decide (fk < rs.length) then aFl (rs.set fk (some q)) fun rs => aS2 M.1.2 p (c, n, rs) fun Z => k X ((M.1.1, Z), M.2) (pc + 3) pl r else false
            | _, _ => false) else false
        | none => false)
      | _ => false)
    | none => false)
noncomputable def aS_getstatic (j : Nat) (o m rt pc : Nat) (pl : aL) (st : List aV) (X : aX) (M : aM) (k : aKk) : Bool := (match pmG o j with
    | some _ => k X M (pc + 3) pl (.inr 1000 :: st)
    | none => false)
noncomputable def aS_iaload (o m rt pc : Nat) (pl : aL) (st : List aV) (X : aX) (M : aM) (k : aKk) : Bool := (match st with
    | .inl (false, f) :: .inr p :: r => bif Nat.beq p 1000 then (bif aAt X f 7 then k X M (pc + 1) pl (aI0 1 :: r) else false)
      else bif Nat.beq p 1001 then (match aItv X.1 f, aUb X f (1, 0) with
        | some i, some u => bif zLe 0 i.1 && zLe (zAdd u 1) 0 then (match aSf f X.2.2 with
          | some g => k X M (pc + 1) pl (.inl (false, g) :: r)
          | none => aNew X.1 aT32 fun E g => k (E, X.2.1, (f, g) :: X.2.2) M (pc + 1) pl (.inl (false, g) :: r)) else false
        | _, _ => false)
      else (match fG2 M.1.2 p with
        | some (c, n, _) => bif decide (p < 1000) && (Nat.beq c 50 && aAt X f n) then aGetA X.1 M.2.1 p f fun E H g => k (E, X.2) (M.1, H, M.2.2) (pc + 1) pl (.inl (false, g) :: r) else false
        | none => false)
    | _ => false)
noncomputable def aS_laload (o m rt pc : Nat) (pl : aL) (st : List aV) (X : aX) (M : aM) (k : aKk) : Bool := (match st with
    | .inl (false, f) :: .inr p :: r => (match fG2 M.1.2 p with
        | some (c, n, _) => bif Nat.beq c 51 && aAt X f n then aGetA X.1 M.2.2.1 p f fun E H g => k (E, X.2) (M.1, M.2.1, H, M.2.2.2) (pc + 1) pl (.inl (true, g) :: r) else false
        | none => false)
    | _ => false)
noncomputable def aS_baload (o m rt pc : Nat) (pl : aL) (st : List aV) (X : aX) (M : aM) (k : aKk) : Bool := (match st with
    | .inl (false, f) :: .inr p :: r => (match fG2 M.1.2 p with
        | some (c, n, _) => bif (Nat.beq c 52 || Nat.beq c 53) && aAt X f n then aGetA X.1 M.2.1 p f fun E H g => k (E, X.2) (M.1, H, M.2.2) (pc + 1) pl (.inl (false, g) :: r) else false
        | none => false)
    | _ => false)
noncomputable def aS_aaload (o m rt pc : Nat) (pl : aL) (st : List aV) (X : aX) (M : aM) (k : aKk) : Bool := (match st with
    | .inl (false, f) :: .inr p :: r => (match fG2 M.1.2 p with
        | some (c, n, rs) => bif Nat.beq c 54 && aAt X f n then (match aCst X.1 f with
            | some z => (match pmRf rs z.toNat with
              | some q => k X M (pc + 1) pl (.inr q :: r)
              | none => false)
            | none => false) else false
        | none => false)
    | _ => false)
noncomputable def aS_iastore (o m rt pc : Nat) (pl : aL) (st : List aV) (X : aX) (M : aM) (k : aKk) : Bool := (match st with
    | .inl (false, g) :: .inl (false, f) :: .inr p :: r => (match fG2 M.1.2 p with
        | some (c, n, _) => bif Nat.beq c 50 && aAt X f n then aPutA X.1 M.2.1 p f g fun H => k X (M.1, H, M.2.2.1, aWt M.2.2.2 p) (pc + 1) pl r else false
        | none => false)
    | _ => false)
noncomputable def aS_lastore (o m rt pc : Nat) (pl : aL) (st : List aV) (X : aX) (M : aM) (k : aKk) : Bool := (match st with
    | .inl (true, g) :: .inl (false, f) :: .inr p :: r => (match fG2 M.1.2 p with
        | some (c, n, _) => bif Nat.beq c 51 && aAt X f n then aPutA X.1 M.2.2.1 p f g fun H => k X (M.1, M.2.1, H, aWt M.2.2.2 p) (pc + 1) pl r else false
        | none => false)
    | _ => false)
noncomputable def aS_bastore (o m rt pc : Nat) (pl : aL) (st : List aV) (X : aX) (M : aM) (k : aKk) : Bool := (match st with
    | .inl (false, g) :: .inl (false, f) :: .inr p :: r => (match fG2 M.1.2 p with
        | some (c, n, _) => bif Nat.beq c 52 && aAt X f n then aKeep 0 1 X.1 g fun E g => aPutA E M.2.1 p f g fun H => k (E, X.2) (M.1, H, M.2.2.1, aWt M.2.2.2 p) (pc + 1) pl r
          else bif Nat.beq c 53 && aAt X f n then aKeep (-128) 127 X.1 g fun E g => aPutA E M.2.1 p f g fun H => k (E, X.2) (M.1, H, M.2.2.1, aWt M.2.2.2 p) (pc + 1) pl r else false
        | none => false)
    | _ => false)
noncomputable def aS_aastore (o m rt pc : Nat) (pl : aL) (st : List aV) (X : aX) (M : aM) (k : aKk) : Bool := (match st with
    | .inr q :: .inl (false, f) :: .inr p :: r => (match fG2 M.1.2 p, fG2 M.1.2 q with
        | some (c, n, rs), some (cq, _, _) => bif (Nat.beq c 54 && aAt X f n) && Nat.beq cq 10 then (match aCst X.1 f with
            | some z => aFn z.toNat fun j => bif decide (j < rs.length) then aFl (rs.set j (some q)) fun rs => aS2 M.1.2 p (c, n, rs) fun Z => k X ((M.1.1, Z), M.2) (pc + 1) pl r else false
            | none => false) else false
        | _, _ => false)
    | _ => false)
noncomputable def aS_arraylength (o m rt pc : Nat) (pl : aL) (st : List aV) (X : aX) (M : aM) (k : aKk) : Bool := (match st with
    | .inr p :: r => bif Nat.beq p 1001 then k X M (pc + 1) pl (.inl (false, 1, 0) :: r) else false
    | _ => false)
noncomputable def aS_new (j : Nat) (o m rt pc : Nat) (pl : aL) (st : List aV) (X : aX) (M : aM) (k : aKk) : Bool := (match pmN o j with
    | some (ci, _) => (match pmNf[ci]? with
      | some n => aNewZ X M (ci, n, List.replicate n none) fun p M' => k X M' (pc + 3) pl (.inr p :: st)
      | none => false)
    | none => false)
noncomputable def aS_newarray (t : ArrayType) (o m rt pc : Nat) (pl : aL) (st : List aV) (X : aX) (M : aM) (k : aKk) : Bool := (match st with
    | .inl (false, f) :: r => (match aCst X.1 f with
      | some z => bif decide (pmAk t < 60) && (decide (0 ≤ z) && decide (z < 100000)) then aFn z.toNat fun n => aNewZ X M (pmAk t, n, []) fun p M' => k X M' (pc + 2) pl (.inr p :: r) else false
      | none => false)
    | _ => false)
noncomputable def aS_anewarray (j : Nat) (o m rt pc : Nat) (pl : aL) (st : List aV) (X : aX) (M : aM) (k : aKk) : Bool := (match pmN o j with
    | some (ci, _) => (match st with
      | .inl (false, f) :: r => (match aCst X.1 f with
        | some z => bif Nat.beq ci 10 && (decide (0 ≤ z) && decide (z < 100000)) then aFn z.toNat fun n => aNewZ X M (54, n, List.replicate n none) fun p M' => k X M' (pc + 3) pl (.inr p :: r) else false
        | none => false)
      | _ => false)
    | none => false)
noncomputable def aS_invokestatic (j : Nat) (o m rt pc : Nat) (pl : aL) (st : List aV) (X : aX) (M : aM) (k : aKk) : Bool := (match pmM o j with
    | some (mm, _, _) => bif Nat.beq mm 9000 then (match st with
        | .inl (false, fn) :: .inl (false, fd) :: .inr b :: .inl (false, fs) :: .inr a :: r => (match aCst X.1 fn, aCst X.1 fd, aCst X.1 fs, fG2 M.1.2 a, fG2 M.1.2 b with
          | some n, some dp, some sp, some (ka, na, _), some (kb, nb, _) => bif decide (aCats r ≤ 8) && (decide (0 ≤ n ∧ 0 ≤ dp ∧ 0 ≤ sp) && decide (sp + n ≤ (na : Int) ∧ dp + n ≤ (nb : Int))) then
              aFn n.toNat fun n => aFn dp.toNat fun dp => aFn sp.toNat fun sp =>
              (bif Nat.beq ka 50 && Nat.beq kb 50 then aCpy M.2.1 a b sp dp n fun H => k X (M.1, H, M.2.2.1, aWt M.2.2.2 b) (pc + 3) pl r
               else bif Nat.beq ka 51 && Nat.beq kb 51 then aCpy M.2.2.1 a b sp dp n fun H => k X (M.1, M.2.1, H, aWt M.2.2.2 b) (pc + 3) pl r else false) else false
          | _, _, _, _, _ => false)
        | _ => false)
      else bif Nat.beq mm 9002 then (match st with
        | .inl (false, g) :: .inl (false, f) :: r => bif decide (aCats r ≤ 8) then aOp (fun x y => if x < y then y else x) aMaxR X.1 f g fun E h => k (E, X.2) M (pc + 3) pl (.inl (false, h) :: r) else false
        | _ => false)
      else bif Nat.beq mm 9003 then (match st with
        | .inl (false, g) :: .inl (false, f) :: r => bif decide (aCats r ≤ 8) then aOp (fun x y => if y < x then y else x) aMinR X.1 f g fun E h => k (E, X.2) M (pc + 3) pl (.inl (false, h) :: r) else false
        | _ => false)
      else false
    | none => false)
noncomputable def aS_invokespecial (j : Nat) (o m rt pc : Nat) (pl : aL) (st : List aV) (X : aX) (M : aM) (k : aKk) : Bool := (match pmM o j with
    | some (mm, _, _) => bif Nat.beq mm 9001 then (match st with
        | .inr _ :: r => bif decide (aCats r ≤ 8) then k X M (pc + 3) pl r else false
        | _ => false) else false
    | none => false)
noncomputable def aDis (i : Instr) : Option aIf1 := match i with
  | .iconst n => some (aS_iconst n)
  | .bipush n => some (aS_bipush n)
  | .sipush n => some (aS_sipush n)
  | .ldc j => some (aS_ldc j)
  | .ldc_w j => some (aS_ldc_w j)
  | .lconst n => some (aS_lconst n)
  | .ldc2_w j => some (aS_ldc2_w j)
  | .iload j => some (aS_iload j)
  | .iload_n j => some (aS_iload_n j)
  | .lload j => some (aS_lload j)
  | .lload_n j => some (aS_lload_n j)
  | .aload j => some (aS_aload j)
  | .aload_n j => some (aS_aload_n j)
  | .istore j => some (aS_istore j)
  | .istore_n j => some (aS_istore_n j)
  | .astore j => some (aS_astore j)
  | .astore_n j => some (aS_astore_n j)
  | .lstore j => some (aS_lstore j)
  | .lstore_n j => some (aS_lstore_n j)
  | .iinc j n => some (aS_iinc j n)
  | .iadd => some (aS_iadd)
  | .isub => some (aS_isub)
  | .imul => some (aS_imul)
  | .iand => some (aS_iand)
  | .ior => some (aS_ior)
  | .ixor => some (aS_ixor)
  | .ishl => some (aS_ishl)
  | .ishr => some (aS_ishr)
  | .iushr => some (aS_iushr)
  | .ladd => some (aS_ladd)
  | .lmul => some (aS_lmul)
  | .land => some (aS_land)
  | .lor => some (aS_lor)
  | .lxor => some (aS_lxor)
  | .lshl => some (aS_lshl)
  | .lushr => some (aS_lushr)
  | .lcmp => some (aS_lcmp)
  | .i2l => some (aS_i2l)
  | .l2i => some (aS_l2i)
  | .i2b => some (aS_i2b)
  | .dup => some (aS_dup)
  | .dup2 => some (aS_dup2)
  | .pop => some (aS_pop)
  | .ifCond c off => some (aS_ifCond c off)
  | .if_icmp c off => some (aS_if_icmp c off)
  | .goto off => some (aS_goto off)
  | .tableswitch d lo hi offs => some (aS_tableswitch d lo hi offs)
  | .lookupswitch d ps => some (aS_lookupswitch d ps)
  | .getfield j => some (aS_getfield j)
  | .putfield j => some (aS_putfield j)
  | .getstatic j => some (aS_getstatic j)
  | .iaload => some (aS_iaload)
  | .laload => some (aS_laload)
  | .baload => some (aS_baload)
  | .aaload => some (aS_aaload)
  | .iastore => some (aS_iastore)
  | .lastore => some (aS_lastore)
  | .bastore => some (aS_bastore)
  | .aastore => some (aS_aastore)
  | .arraylength => some (aS_arraylength)
  | .new j => some (aS_new j)
  | .newarray t => some (aS_newarray t)
  | .anewarray j => some (aS_anewarray j)
  | .invokestatic j => some (aS_invokestatic j)
  | .invokespecial j => some (aS_invokespecial j)
  | _ => none
noncomputable def aStep (o m rt pc : Nat) (i : Instr) (pl : aL) (st : List aV) (X : aX) (M : aM) (k : aKk) : Bool := match aDis i with
  | some f => f o m rt pc pl st X M k
  | none => false
end
