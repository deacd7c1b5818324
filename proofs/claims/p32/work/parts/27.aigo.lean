/-! the abstract machine's runs: every way is followed; calls go in -/
section
abbrev aSs : Type := List (Nat × List (Nat × Int × Nat))
/-- owner, method, kind of its end, code, where its locals are told apart -/
abbrev aK : Type := Nat × Nat × Nat × List (List (Nat × Instr)) × aSs
abbrev aFr : Type := aK × Nat × aL × List aV
noncomputable def aCode (c : List (List (Nat × Instr))) (pc : Nat) : Option Instr := match fGet c (Nat.div pc 32) with
  | some l => fLk l pc
  | none => none
noncomputable def aPl (as : List aV) : aL := as.flatMap fun a => if aCat a = 2 then [some a, none] else [some a]
noncomputable def aEl (m : Nat) (pl : aL) : Bool := pl.zipIdx.all fun q => match q.1 with
  | some w => !(aCat w == 2) || pmLg m q.2
  | none => true
noncomputable def aCal (o : Nat) : Instr → Option (Nat × Nat)
  | .invokestatic j => (match pmM o j with
    | some (mm, _, _) => bif Nat.ble 9000 mm then none else some (mm, 1)
    | none => none)
  | .invokevirtual j => (match pmM o j with
    | some (mm, _, _) => some (mm, 0)
    | none => none)
  | .invokespecial j => (match pmM o j with
    | some (mm, _, _) => bif Nat.ble 9000 mm then none else some (mm, 2)
    | none => none)
  | _ => none
/-- what an instruction is: a step; a call (0), an end (1) -/
noncomputable def aTr (o : Nat) (i : Instr) : Option (aIf1 ⊕ (Nat × Nat × Nat)) := match aCal o i with
  | some (mm, kd) => some (.inr (0, mm, kd))
  | none => (match i with
    | .ireturn => some (.inr (1, 0, 0))
    | .lreturn => some (.inr (1, 0, 0))
    | .return_ => some (.inr (1, 0, 0))
    | _ => (match aDis i with
      | some f => some (.inl f)
      | none => none))
noncomputable def aArgs (kd n oo : Nat) (Z : aT2 pmZ) (st : List aV) : Option (List aV × List aV) :=
  bif Nat.beq kd 1 then (if n ≤ st.length then some ((st.take n).reverse, st.drop n) else none)
  else match st.drop n with
    | .inr p :: rest => (bif Nat.beq kd 0 then (match fG2 Z p with
        | some (c, _, _) => bif Nat.beq c oo then some (.inr p :: (st.take n).reverse, rest) else none
        | none => none) else some (.inr p :: (st.take n).reverse, rest))
    | _ => none
noncomputable def aRet (rt : Nat) (i : Instr) (st : List aV) (X : aX) : Option (Option aV) := match i with
  | .ireturn => (match st with
    | [.inl (false, f)] => if rt = 1 then some (some (.inl (false, f))) else if rt = 2 then (match aItv X.1 f with
      | some i => bif zLe 0 i.1 && zLe i.2 1 then some (some (.inl (false, f))) else none
      | none => none) else none
    | _ => none)
  | .lreturn => (match st with
    | [.inl (true, f)] => if rt = 3 then some (some (.inl (true, f))) else none
    | _ => none)
  | .return_ => (match st with
    | [] => if rt = 0 ∨ rt = 4 then some none else none
    | _ => none)
  | _ => none
noncomputable def aFork (f : aF) : Nat → Int → aX → (aX → Bool) → Bool
  | 0, lo, X, k => aLe X (0, lo) f 0 k
  | n + 1, lo, X, k => aEq X f (0, lo) k && aFz (lo + 1) fun lo => aLe X (0, lo) f 0 fun X => aFork f n lo X k
noncomputable def aSpl (pl : aL) : List (Nat × Int × Nat) → aX → (aX → Bool) → Bool
  | [], X, k => k X
  | q :: t, X, k => match fGet pl q.1 with
    | some (some (.inl (_, f))) => aLe X f (0, q.2.1) 1 (fun X => aSpl pl t X k) && aLe X (0, q.2.1) f 0 fun X => aFork f q.2.2 q.2.1 X fun X => aSpl pl t X k
    | _ => false
abbrev aNod : Type := Nat → aK → Nat → aL → List aV → List aFr → aX → aM → Option Bool
abbrev aCon : Type := Nat → Nat → List aV → aX → aM → (Option aV → aX → aM → Bool) → Option Bool
noncomputable def aGo (spl : Nat → aSs) (nod : aNod) (con : aCon) (fin : Option aV → aX → aM → Bool) : Nat → Nat → Bool → aK → Nat → aL → List aV → List aFr → aX → aM → Bool
  | 0, _, _, _, _, _, _, _, _, _ => false
  | n + 1, d, fst, K, pc, pl, st, fs, X, M => aFn pc fun pc => aNm X M fun X M => match (bif fst then none else nod d K pc pl st fs X M) with
    | some b => b
    | none => (match aCode K.2.2.2.1 pc with
      | none => false
      | some i => aSpl pl ((fLk K.2.2.2.2 pc).getD []) X fun X => match aTr K.1 i with
        | none => false
        | some (.inl f) => f K.1 K.2.1 K.2.2.1 pc pl st X M fun X M pc pl st => aGo spl nod con fin n d false K pc pl st fs X M
        | some (.inr (tg, mm, kd)) => bif Nat.beq tg 1 then (match aRet K.2.2.1 i st X with
            | some r => (match fs with
              | [] => fin r X M
              | f :: fs => aGo spl nod con fin n (d + 1) false f.1 (f.2.1 + 3) f.2.2.1 (r.toList ++ f.2.2.2) fs X M)
            | none => false)
          else (match pmAll[mm]? with
            | some (q, code) => (match aArgs kd q.2.2.1.2.1 q.2.2.1.1 M.1.2 st with
              | some (args, rest) => bif decide (aCats rest ≤ 8) && Nat.beq q.2.2.2.1 kd then (match con d mm args X M (fun r X M => aGo spl nod con fin n d false K (pc + 3) pl (r.toList ++ rest) fs X M) with
                | some b => b
                | none => (match d with
                  | 0 => false
                  | d + 1 => bif decide ((aPl args).length ≤ q.2.2.1.2.2.1) && (decide (q.2.2.1.2.2.1 ≤ 40) && (decide (q.2.2.2.1 < 3) && aEl mm (aPl args))) then
                      aFl (aPl args ++ List.replicate (q.2.2.1.2.2.1 - (aPl args).length) none) fun cl => aFn q.2.2.1.1 fun oo => aFn (pmRk q.2.2.1.2.2.2 q.2.2.2.1) fun rk => aFw (spl mm) fun sp => aGo spl nod con fin n d false (oo, mm, rk, code, sp) 0 cl [] ((K, pc, pl, rest) :: fs) X M else false)) else false
              | none => false)
            | none => false))
end
