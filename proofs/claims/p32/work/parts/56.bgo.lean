/-! the second make's runs -/
section
abbrev bFr : Type := aK × Nat × bL × List bV
noncomputable def bPl (as : List bV) : bL := as.flatMap fun a => if bCat a = 2 then [some a, none] else [some a]
noncomputable def bEl (m : Nat) (pl : bL) : Bool := pl.zipIdx.all fun q => match q.1 with
  | some w => !(bCat w == 2) || pmLg m q.2
  | none => true
noncomputable def bArgs (kd n oo : Nat) (st : List bV) : Option (List bV × List bV) :=
  bif Nat.beq kd 1 then (if n ≤ st.length then some ((st.take n).reverse, st.drop n) else none)
  else match st.drop n with
    | .inr ps :: rest => (bif Nat.beq kd 0 then (bif bAll ps fun p => bKc p oo then some (.inr ps :: (st.take n).reverse, rest) else none) else some (.inr ps :: (st.take n).reverse, rest))
    | _ => none
/-- what an instruction is: a step; a call (0), an end (1) -/
noncomputable def bTr (o : Nat) (i : Instr) : Option (bIf1 ⊕ (Nat × Nat × Nat)) := match aCal o i with
  | some (mm, kd) => some (.inr (0, mm, kd))
  | none => (match i with
    | .ireturn => some (.inr (1, 0, 0))
    | .lreturn => some (.inr (1, 0, 0))
    | .return_ => some (.inr (1, 0, 0))
    | _ => (match bDis i with
      | some f => some (.inl f)
      | none => none))
noncomputable def bRet (rt : Nat) (i : Instr) (st : List bV) (X : aX) : Option (Option bV) := match i with
  | .ireturn => (match st with
    | [.inl (false, f)] => if rt = 1 then some (some (.inl (false, f))) else if rt = 2 then (match aItv X.1 f with
      | some i => bif zLe 0 i.1 && zLe i.2 1 then some (some (.inl (false, f))) else none
      | none => none) else none
    | _ => none)
  | .lreturn => (match st with
    | [.inl (true, f)] => if rt = 3 then some (some (.inl (true, f))) else none
    | _ => none)
  | .return_ => (match st with
    | [] => if rt = 0 ∨ rt = 4 then some none else none
    | _ => none)
  | _ => none
/-- a local that is unknown is told apart by nothing -/
noncomputable def bSpl (pl : bL) : List (Nat × Int × Nat) → aX → (aX → Bool) → Bool
  | [], X, k => k X
  | q :: t, X, k => match fGet pl q.1 with
    | some (some (.inl (_, f))) => aLe X f (0, q.2.1) 1 (fun X => bSpl pl t X k) && aLe X (0, q.2.1) f 0 fun X => aFork f q.2.2 q.2.1 X fun X => bSpl pl t X k
    | _ => bSpl pl t X k
abbrev bNod : Type := Nat → aK → Nat → bL → List bV → List bFr → aX → bM → Option Bool
abbrev bCon : Type := Nat → Nat → List bV → aX → bM → (Option bV → aX → bM → Bool) → Option Bool
abbrev bRec : Type := Nat → Bool → aK → Nat → bL → List bV → List bFr → aX → bM → Bool
/-- an end -/
noncomputable def bEnd (fin : Option bV → aX → bM → Bool) (go : bRec) (d : Nat) (rt : Nat) (i : Instr) (st : List bV) (fs : List bFr) (X : aX) (M : bM) : Bool := match bRet rt i st X with
  | some r => (match fs with
    | [] => fin r X M
    | f :: fs => go (d + 1) false f.1 (f.2.1 + 3) f.2.2.1 (r.toList ++ f.2.2.2) fs X M)
  | none => false
/-- going in -/
noncomputable def bIn1 (spl : Nat → aSs) (go : bRec) (d mm : Nat) (q : pmIt × List (List (Nat × Instr))) (K : aK) (pc : Nat) (pl : bL) (args rest : List bV) (fs : List bFr) (X : aX) (M : bM) : Bool := match d with
  | 0 => false
  | d + 1 => bif decide ((bPl args).length ≤ q.1.2.2.1.2.2.1) && (decide (q.1.2.2.1.2.2.1 ≤ 40) && (decide (q.1.2.2.2.1 < 3) && bEl mm (bPl args))) then
      aFl (bPl args ++ List.replicate (q.1.2.2.1.2.2.1 - (bPl args).length) none) fun cl => aFn q.1.2.2.1.1 fun oo => aFn (pmRk q.1.2.2.1.2.2.2 q.1.2.2.2.1) fun rk => aFw (spl mm) fun sp => go d false (oo, mm, rk, q.2, sp) 0 cl [] ((K, pc, pl, rest) :: fs) X M else false
/-- a call: by its contract, or going in -/
noncomputable def bCal (spl : Nat → aSs) (con : bCon) (go : bRec) (d mm kd : Nat) (K : aK) (pc : Nat) (pl : bL) (st : List bV) (fs : List bFr) (X : aX) (M : bM) : Bool := match pmAll[mm]? with
  | some q => (match bArgs kd q.1.2.2.1.2.1 q.1.2.2.1.1 st with
    | some (args, rest) => bif Nat.ble (bCats rest) 8 && Nat.beq q.1.2.2.2.1 kd then (match con d mm args X M (fun r X M => go d false K (pc + 3) pl (r.toList ++ rest) fs X M) with
      | some b => b
      | none => bIn1 spl go d mm q K pc pl args rest fs X M) else false
    | none => false)
  | none => false
noncomputable def bBody (spl : Nat → aSs) (con : bCon) (fin : Option bV → aX → bM → Bool) (go : bRec) (d : Nat) (K : aK) (pc : Nat) (i : Instr) (pl : bL) (st : List bV) (fs : List bFr) (X : aX) (M : bM) : Bool := match bTr K.1 i with
  | none => false
  | some (.inl f) => f K.1 K.2.1 K.2.2.1 pc pl st X M fun X M pc pl st => go d false K pc pl st fs X M
  | some (.inr (tg, mm, kd)) => bif Nat.beq tg 1 then bEnd fin go d K.2.2.1 i st fs X M else bCal spl con go d mm kd K pc pl st fs X M
noncomputable def bOne (spl : Nat → aSs) (nod : bNod) (con : bCon) (fin : Option bV → aX → bM → Bool) (go : bRec) (d : Nat) (fst : Bool) (K : aK) (pc : Nat) (pl : bL) (st : List bV) (fs : List bFr) (X : aX) (M : bM) : Bool := match (bif fst then none else nod d K pc pl st fs X M) with
  | some b => b
  | none => (match aCode K.2.2.2.1 pc with
    | none => false
    | some i => (match fLk K.2.2.2.2 pc with
      | some sp => bSpl pl sp X fun X => bBody spl con fin go d K pc i pl st fs X M
      | none => bBody spl con fin go d K pc i pl st fs X M))
noncomputable def bGo (spl : Nat → aSs) (nod : bNod) (con : bCon) (fin : Option bV → aX → bM → Bool) (n : Nat) : bRec := Nat.rec (fun _ _ _ _ _ _ _ _ _ => false) (fun _ ih d fst K pc pl st fs X M => aFn pc fun pc => bNm X M fun X M => bOne spl nod con fin ih d fst K pc pl st fs X M) n
end
