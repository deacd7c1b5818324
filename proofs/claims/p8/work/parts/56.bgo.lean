section
/-! the second make's runs -/
section
abbrev bFr : Type := aK × Nat × bL × List bV
noncomputable def bPl (as : List bV) : bL := as.flatMap fun a => if bCat a = 2 then [some a, none] else [some a]
noncomputable def bEl (m : Nat) (pl : bL) : Bool := pl.zipIdx.all fun q => match q.1 with
  | some w => !(bCat w == 2) || pmLg m q.2
  | none => true
noncomputable def bArgs (kd n oo : Nat) (st : List bV) : Option (List bV × List bV) :=
  bif Nat.beq kd 1 then (if n ≤ st.length then some ((st.take n).reverse, st.drop n) else none)
  else match st.drop n with
    | .inr ps :: rest => (bif Nat.beq kd 0 then (bif bAll ps fun p => bKc p oo then some (.inr ps :: (st.take n).reverse, rest) else none) else some (.inr ps :: (st.take n).reverse, rest))
    | _ => none
/-- what an instruction is: a step; a call (0), an end (1) -/
noncomputable def bTr (o : Nat) (i : Instr) : Option (bIf1 ⊕ (Nat × Nat × Nat)) := match aCal o i with
  | some (mm, kd) => some (.inr (0, mm, kd))
  | none => (match i with
    | .ireturn => some (.inr (1, 0, 0))
    | .lreturn => some (.inr (1, 0, 0))
    | .return_ => some (.inr (1, 0, 0))
    | _ => (match bDis i with
      | some f => some (.inl f)
      | none => none))
noncomputable def bRet (rt : Nat) (i : Instr) (st : List bV) (X : aX) : Option (Option bV) := match i with
  | .ireturn => (match st with
    | [.inl (false, f)] => if rt = 1 then some (some (.inl (false, f))) else if rt = 2 then (match aItv X.1 f with
      | some i => bif zLe 0 i.1 && zLe i.2 1 then some (some (.inl (false, f))) else none
      | none => none) else none
    | _ => none)
  | .lreturn => (match st with
    | [.inl (true, f)] => if rt = 3 then some (some (.inl (true, f))) else none
    | _ => none)
  | .return_ => (match st with
    | [] => if rt = 0 ∨ rt = 4 then some none else none
    | _ => none)
  | _ => none
/-- a local that is unknown is told apart by nothing -/
noncomputable def bSpl (pl : bL) : List (Nat × Int × Nat) → aX → (aX → Bool) → Bool
  | [], X, k => k X
  | q :: t, X, k => match fGet pl q.1 with
    | some (some (.inl (_, f))) => aLe X f (0, q.2.1) 1 (fun X => bSpl pl t X k) && aLe X (0, q.2.1) f 0 fun X => aFork f q.2.2 q.2.1 X fun X => bSpl pl t X k
    | _ => bSpl pl t X k
abbrev bNod : Type := Nat → aK → Nat → bL → List bV → List bFr → aX → bM → Option Bool
abbrev bCon : Type := Nat → Nat → List bV → aX → bM → (Option bV → aX → bM → Bool) → Option Bool
abbrev bRec : Type := Nat → Bool → aK → Nat → bL → List bV → List bFr → aX → bM → Bool
/-- an end -/
noncomputable def bEnd (fin : Option bV → aX → bM → Bool) (go : bRec) (d : Nat) (rt : Nat) (i : Instr) (st : List bV) (fs : List bFr) (X : aX) (M : bM) : Bool := match bRet rt i st X with
  | some r => (match fs with
    | [] => fin r X M
    | f :: fs => go (d + 1) false f.1 (f.2.1 + 3) f.2.2.1 (r.toList ++ f.2.2.2) fs X M)
  | none => false
/-- going in -/
noncomputable def bIn1 (spl : Nat → aSs) (go : bRec) (d mm : Nat) (q : pmIt × List (List (Nat × Instr))) (K : aK) (pc : Nat) (pl : bL) (args rest : List bV) (fs : List bFr) (X : aX) (M : bM) : Bool := match d with
  | 0 => false
  | d + 1 => bif decide ((bPl args).length ≤ q.1.2.2.1.2.2.1) && (decide (q.1.2.2.1.2.2.1 ≤ 40) && (decide (q.1.2.2.2.1 < 3) && bEl mm (bPl args))) then
      aFl (bPl args ++ List.replicate (q.1.2.2.1.2.2.1 - (bPl args).length) none) fun cl => aFn q.1.2.2.1.1 fun oo => aFn (pmRk q.1.2.2.1.2.2.2 q.1.2.2.2.1) fun rk => aFw (spl mm) fun sp => go d false (oo, mm, rk, q.2, sp) 0 cl [] ((K, pc, pl, rest) :: fs) X M else false
/-- a call: by its contract, or going in -/
noncomputable def bCal (spl : Nat → aSs) (con : bCon) (go : bRec) (d mm kd : Nat) (K : aK) (pc : Nat) (pl : bL) (st : List bV) (fs : List bFr) (X : aX) (M : bM) : Bool := match pmAll[mm]? with
  | some q => (match bArgs kd q.1.2.2.1.2.1 q.1.2.2.1.1 st with
    | some (args, rest) => bif Nat.ble (bCats rest) 8 && Nat.beq q.1.2.2.2.1 kd then (match con d mm args X M (fun r X M => go d false K (pc + 3) pl (r.toList ++ rest) fs X M) with
      | some b => b
      | none => bIn1 spl go d mm q K pc pl args rest fs X M) else false
    | none => false)
  | none => false
noncomputable def bBody (spl : Nat → aSs) (con : bCon) (fin : Option bV → aX → bM → Bool) (go : bRec) (d : Nat) (K : aK) (pc : Nat) (i : Instr) (pl : bL) (st : List bV) (fs : List bFr) (X : aX) (M : bM) : Bool := match bTr K.1 i with
  | none => false
  | some (.inl f) => f K.1 K.2.1 K.2.2.1 pc pl st X M fun X M pc pl st => go d false K pc pl st fs X M
  | some (.inr (tg, mm, kd)) => bif Nat.beq tg 1 then bEnd fin go d K.2.2.1 i st fs X M else bCal spl con go d mm kd K pc pl st fs X M
noncomputable def bOne (spl : Nat → aSs) (nod : bNod) (con : bCon) (fin : Option bV → aX → bM → Bool) (go : bRec) (d : Nat) (fst : Bool) (K : aK) (pc : Nat) (pl : bL) (st : List bV) (fs : List bFr) (X : aX) (M : bM) : Bool := match (bif fst then none else nod d K pc pl st fs X M) with
  | some b => b
  | none => (match aCode K.2.2.2.1 pc with
    | none => false
    | some i => (match fLk K.2.2.2.2 pc with
      | some sp => bSpl pl sp X fun X => bBody spl con fin go d K pc i pl st fs X M
      | none => bBody spl con fin go d K pc i pl st fs X M))
noncomputable def bGo (spl : Nat → aSs) (nod : bNod) (con : bCon) (fin : Option bV → aX → bM → Bool) (n : Nat) : bRec := Nat.rec (fun _ _ _ _ _ _ _ _ _ => false) (fun _ ih d fst K pc pl st fs X M => aFn pc fun pc => bNm X M fun X M => bOne spl nod con fin ih d fst K pc pl st fs X M) n
end
end
section
/-! the second make is sound: its runs -/
section
def bFsok (n : Nat) (ρ : Nat → Int) : List bFr → List aCf → Prop
  | [], [] => True
  | f :: fs, c :: cs => (aKok f.1 ∧ (c.1.1 = f.1.1 ∧ c.1.2.1 = f.1.2.1 ∧ c.1.2.2.1 = f.1.2.2.1) ∧ c.2.1 = f.2.1 ∧ bLok n ρ f.2.2.1 c.2.2.1 ∧ bSok n ρ f.2.2.2 c.2.2.2) ∧ bFsok n ρ fs cs
  | _, _ => False
def bRok (n : Nat) (ρ : Nat → Int) : Option bV → Option Value → Prop
  | none, none => True
  | some a, some v => bVok n ρ a v
  | _, _ => False
/-- what is known at a place: n0 variables stand for what ρ0 says -/
def bAllK (L : aLa) (n0 : Nat) (ρ0 ρ : Nat → Int) (Kp : pmS → Prop) (σ0 : pmS) (X : aX) (M : bM) (σ : pmS) : Prop := aXok L ρ X ∧ bMok X.1.length ρ Kp σ0 M σ ∧ n0 ≤ X.1.length ∧ aExt n0 ρ0 ρ
variable {k : bKk} {L : aLa} {Ln : Nat} {xs : Nat → Int32} {ro : Nat → Nat × (Nat → Int32)} {Kp : pmS → Prop} {σ0 σ σ' : pmS} {o m rt pc pc' : Nat} {i : Instr} {cl cl' : pmL} {cs cr : List Value} {n n' n0 : Nat} {ρ0 ρ ρ' : Nat → Int} {X X' : aX} {M M' : bM} {pl pl' : bL} {st r : List bV} {f g : aF} {p q : Nat} {a b : bV} {v w : Value}
theorem bFsok.ext : ∀ {fs : List bFr} {cs : List aCf}, bFsok n ρ fs cs → n ≤ n' → aExt n ρ ρ' → bFsok n' ρ' fs cs
  | [], [], _, _, _ => trivial
  | _ :: _, _ :: _, h, hn, he => ⟨⟨h.1.1, h.1.2.1, h.1.2.2.1, h.1.2.2.2.1.ext hn he, h.1.2.2.2.2.ext hn he⟩, bFsok.ext h.2 hn he⟩
theorem bSok_len : ∀ {st : List bV} {cs : List Value}, bSok n ρ st cs → st.length = cs.length
  | [], [], _ => rfl
  | _ :: _, _ :: _, h => by simp [bSok_len h.2]
theorem bSok_drop : ∀ (j : Nat) {st : List bV} {cs : List Value}, bSok n ρ st cs → bSok n ρ (st.drop j) (cs.drop j)
  | 0, _, _, h => h
  | _ + 1, [], [], _ => trivial
  | j + 1, _ :: _, _ :: _, h => bSok_drop j h.2
theorem bSok_take : ∀ (j : Nat) {st : List bV} {cs : List Value}, bSok n ρ st cs → bSok n ρ (st.take j) (cs.take j)
  | 0, _, _, _ => by simp [bSok]
  | _ + 1, [], [], _ => trivial
  | j + 1, _ :: _, _ :: _, h => ⟨h.1, bSok_take j h.2⟩
theorem bSok_app : ∀ {a : List bV} {b : List Value} {c : List bV} {d : List Value}, bSok n ρ a b → bSok n ρ c d → bSok n ρ (a ++ c) (b ++ d)
  | [], [], _, _, _, h => h
  | _ :: _, _ :: _, _, _, h, h2 => ⟨h.1, bSok_app h.2 h2⟩
theorem bSok_rev : ∀ {st : List bV} {cs : List Value}, bSok n ρ st cs → bSok n ρ st.reverse cs.reverse
  | [], [], _ => trivial
  | a :: st, v :: cs, h => by
    rw [List.reverse_cons, List.reverse_cons]
    exact bSok_app (bSok_rev h.2) ⟨h.1, trivial⟩
theorem bLok_app {a : bL} {b : pmL} {c : bL} {d : pmL} (h : bLok n ρ a b) (h2 : bLok n ρ c d) : bLok n ρ (a ++ c) (b ++ d) := by
  refine ⟨by simp [h.1, h2.1], fun i x hi => ?_⟩
  by_cases hl : i < a.length
  · rw [List.getElem?_append_left hl] at hi
    rw [List.getElem?_append_left (by rw [← h.1]; exact hl)]
    exact h.2 i x hi
  · rw [List.getElem?_append_right (by omega)] at hi
    rw [List.getElem?_append_right (by rw [← h.1]; omega), ← h.1]
    exact h2.2 _ x hi
theorem bLok_nil : bLok n ρ [] [] := ⟨rfl, fun i x h => by cases h⟩
theorem bPl_ok : ∀ {st : List bV} {cs : List Value}, bSok n ρ st cs → bLok n ρ (bPl st) (pmPl cs)
  | [], [], _ => bLok_nil
  | a :: st, v :: cs, h => by
    have ih := bPl_ok h.2
    have e := bVok_cat h.1
    show bLok n ρ ((if bCat a = 2 then [some a, none] else [some a]) ++ bPl st) ((if v.category = 2 then [some v, none] else [some v]) ++ pmPl cs)
    refine bLok_app ?_ ih
    rw [e]
    split
    · refine ⟨rfl, fun i x hi => ?_⟩
      match i, hi with
      | 0, hi => cases hi; exact ⟨v, rfl, h.1⟩
      | 1, hi => cases hi
    · refine ⟨rfl, fun i x hi => ?_⟩
      match i, hi with
      | 0, hi => cases hi; exact ⟨v, rfl, h.1⟩
theorem bPl_len : ∀ {st : List bV} {cs : List Value}, bSok n ρ st cs → (bPl st).length = (pmPl cs).length := fun h => (bPl_ok h).1
theorem bPl_cat : ∀ {st : List bV} {cs : List Value}, bSok n ρ st cs → (bPl st).map (Option.map bCat) = (pmPl cs).map (Option.map Value.category)
  | [], [], _ => rfl
  | a :: st, v :: cs, h => by
    have ih := bPl_cat h.2
    have e := bVok_cat h.1
    show List.map (Option.map bCat) ((if bCat a = 2 then [some a, none] else [some a]) ++ bPl st) = List.map (Option.map Value.category) ((if v.category = 2 then [some v, none] else [some v]) ++ pmPl cs)
    rw [List.map_append, List.map_append, ih, e]
    split <;> simp [e]
theorem bEl_ok {mm : Nat} : ∀ (a : bL) (b : pmL) (j : Nat), a.map (Option.map bCat) = b.map (Option.map Value.category) → ((a.zipIdx j).all fun q => match q.1 with
    | some w => !(bCat w == 2) || pmLg mm q.2
    | none => true) = ((b.zipIdx j).all fun q => match q.1 with
    | some w => !(w.category == 2) || pmLg mm q.2
    | none => true)
  | [], [], _, _ => rfl
  | [], _ :: _, _, h => by cases h
  | _ :: _, [], _, h => by cases h
  | a :: as, b :: bs, j, h => by
    simp only [List.map_cons, List.cons.injEq] at h
    have ih := bEl_ok (mm := mm) as bs (j + 1) h.2
    simp only [List.zipIdx_cons, List.all_cons, ih]
    congr 1
    match a, b, h.1 with
    | none, none, _ => rfl
    | some a, some b, e =>
      simp only [Option.map_some, Option.some.injEq] at e
      show (!(bCat a == 2) || pmLg mm j) = (!(b.category == 2) || pmLg mm j)
      rw [e]
    | none, some b, e => cases e
    | some a, none, e => cases e
theorem bLok_rep (k : Nat) : bLok n ρ (List.replicate k none) (List.replicate k none) := by
  refine ⟨by simp, fun i x hi => ?_⟩
  rw [List.getElem?_replicate] at hi
  split at hi <;> cases hi
theorem bRet_ok {rv : Option bV} (hX : aXok L ρ X) (hs : bSok X.1.length ρ st cs) (h : bRet rt i st X = some rv) : ∃ v, bRok X.1.length ρ rv v ∧ ∀ call, pmStep ro call o m rt pc i cl cs σ = some (.inl (v, σ)) := by
  unfold bRet at h
  simp only [zLe_eq, zAnd, zIf] at h
  split at h
  · split at h
    · obtain ⟨v0, c0, rfl, w0, hr⟩ := bSok_cons hs
      obtain ⟨x, rfl, hx⟩ := bVok_int w0
      cases c0 with
      | cons _ _ => exact hr.elim
      | nil =>
        split at h
        · rename_i hrt
          cases h
          exact ⟨some (.int x), hx, fun call => by simp only [pmStep]; rw [if_pos (Or.inl hrt)]⟩
        · split at h
          · rename_i hrt
            split at h
            · rename_i iv hi
              split at h
              · rename_i hb
                cases h
                have hv := aItv_ok hX.1 hx hi
                have h0 : (0 : Int32).toInt = 0 := rfl
                have h10 : (1 : Int32).toInt = 1 := rfl
                have hzo : x = 0 ∨ x = 1 := by
                  rw [aEq32, aEq32, h0, h10]
                  omega
                exact ⟨some (.int x), hx, fun call => by simp only [pmStep]; rw [if_pos (Or.inr ⟨hrt, hzo⟩)]⟩
              · cases h
            · cases h
          · cases h
    · cases h
  · split at h
    · obtain ⟨v0, c0, rfl, w0, hr⟩ := bSok_cons hs
      obtain ⟨x, rfl, hx⟩ := bVok_long w0
      cases c0 with
      | cons _ _ => exact hr.elim
      | nil =>
        split at h
        · rename_i hrt
          cases h
          exact ⟨some (.long x), hx, fun call => by simp only [pmStep]; rw [if_pos hrt]⟩
        · cases h
    · cases h
  · split at h
    · cases cs with
      | cons _ _ => exact hs.elim
      | nil =>
        split at h
        · rename_i hrt
          cases h
          exact ⟨none, trivial, fun call => by simp only [pmStep]; rw [if_pos hrt]⟩
        · cases h
    · cases h
  · cases h
theorem bSpl_ok {kk : aX → Bool} : ∀ (t : List (Nat × Int × Nat)) (X : aX), aXok L ρ X → bLok X.1.length ρ pl cl → bSpl pl t X kk = true → aGx L X ρ kk
  | [], X, hX, _, h => aGx.same hX h
  | q :: t, X, hX, hl, h => by
    unfold bSpl at h
    rw [fGet_eq] at h
    split at h
    · rename_i tg f hj
      rw [Bool.and_eq_true] at h
      obtain ⟨v, h1, h2⟩ := hl.2 _ _ hj
      have hx : ∃ x, aFok X.1.length ρ f x := by
        cases tg with
        | false => obtain ⟨x, rfl, hx⟩ := bVok_int h2; exact ⟨_, hx⟩
        | true => obtain ⟨x, rfl, hx⟩ := bVok_long h2; exact ⟨_, hx⟩
      obtain ⟨x, hx⟩ := hx
      by_cases e : x < q.2.1
      · obtain ⟨Y, y1, y2, y3⟩ := aLe_ok hX hx (aFok.c0 hX.1) (d := 1) (y := q.2.1) (by omega) h.1
        exact (bSpl_ok t Y y2 (by rw [y1]; exact hl) y3).tr y1
      · obtain ⟨Y, y1, y2, y3⟩ := aLe_ok hX (aFok.c0 hX.1) hx (d := 0) (x := q.2.1) (by omega) h.2
        obtain ⟨Y2, z1, z2, z3⟩ := aFork_ok q.2.2 q.2.1 Y y2 (by rw [y1]; exact hx) (by omega) y3
        exact ((bSpl_ok t Y2 z2 (by rw [z1, y1]; exact hl) z3).tr z1).tr y1
    · exact bSpl_ok t X hX hl h
theorem bCal_ok {mm kd nn oo mx rr : Nat} {y : MethodName} {bb : ByteArray} {ev : Nat × Nat × Nat × Nat} {args rest : List bV} (hM : bMok n ρ Kp σ0 M σ) (hs : bSok n ρ st cs) (h1 : aCal o i = some (mm, kd)) (h2 : pmInf[mm]? = some (y, bb, (oo, nn, mx, rr), (kd, ev))) (h3 : bArgs kd nn oo st = some (args, rest)) :
    ∃ vs cr, bSok n ρ args vs ∧ bSok n ρ rest cr ∧ ∀ call, pmStep ro call o m rt pc i cl cs σ = pmRt call mm vs pc cl cr σ := by
  have hd := bSok_drop nn hs
  have ht := bSok_rev (bSok_take nn hs)
  unfold aCal at h1
  split at h1
  · rename_i j
    split at h1
    · rename_i m0 w1 w2 hMM
      cases hb : Nat.ble 9000 m0 with
      | true => rw [hb] at h1; cases h1
      | false =>
        rw [hb] at h1
        cases h1
        have hlt : ¬ 9000 ≤ mm := fun h => by rw [Nat.ble_eq_true_of_le h] at hb; cases hb
        unfold bArgs at h3
        simp only [Nat.beq_refl, cond_true] at h3
        split at h3
        · rename_i hn
          cases h3
          refine ⟨_, _, ht, hd, fun call => ?_⟩
          simp only [pmStep, hMM]
          rw [if_neg (by omega), if_neg (by omega), if_neg (by omega), h2]
          simp only []
          rw [if_pos (by rw [← bSok_len hs]; exact hn)]
        · cases h3
    · cases h1
  · rename_i j
    split at h1
    · rename_i m0 w1 w2 hMM
      cases h1
      unfold bArgs at h3
      simp only [show Nat.beq 0 1 = false from rfl, show Nat.beq 0 0 = true from rfl, cond_true, cond_false] at h3
      split at h3
      · rename_i ps rs hdr
        rw [hdr] at hd
        obtain ⟨v0, c0, e0, w0, hr⟩ := bSok_cons hd
        obtain ⟨p, rfl, hp⟩ := bVok_ref w0
        cases hc : bAll ps fun p => bKc p oo with
        | false => rw [hc] at h3; cases h3
        | true =>
          rw [hc] at h3
          cases h3
          obtain ⟨⟨z1, z2⟩, hZ, -⟩ := bKc_ok hM.1 (bAll_ok hc p hp)
          refine ⟨.ref p :: (cs.take nn).reverse, c0, ⟨hp, ht⟩, hr, fun call => ?_⟩
          simp only [pmStep, hMM, h2, e0, hZ]
          rfl
      · cases h3
    · cases h1
  · rename_i j
    split at h1
    · rename_i m0 w1 w2 hMM
      cases hb : Nat.ble 9000 m0 with
      | true => rw [hb] at h1; cases h1
      | false =>
        rw [hb] at h1
        cases h1
        have hlt : ¬ 9000 ≤ mm := fun h => by rw [Nat.ble_eq_true_of_le h] at hb; cases hb
        unfold bArgs at h3
        simp only [show Nat.beq 2 1 = false from rfl, show Nat.beq 2 0 = false from rfl, cond_false] at h3
        split at h3
        · rename_i ps rs hdr
          cases h3
          rw [hdr] at hd
          obtain ⟨v0, c0, e0, w0, hr⟩ := bSok_cons hd
          obtain ⟨p, rfl, hp⟩ := bVok_ref w0
          refine ⟨.ref p :: (cs.take nn).reverse, c0, ⟨hp, ht⟩, hr, fun call => ?_⟩
          simp only [pmStep, hMM]
          rw [if_neg (by omega)]
          simp only [h2, e0]
        · cases h3
    · cases h1
  · cases h1
theorem bTr_step {ff : bIf1} (h : bTr o i = some (.inl ff)) (hf : ff o m rt pc pl st X M k = true) : bStep o m rt pc i pl st X M k = true := by
  have e : bDis i = some ff := by
    unfold bTr at h
    split at h
    · cases h
    · split at h
      · cases h
      · cases h
      · cases h
      · split at h
        · rename_i f0 e
          cases h
          exact e
        · cases h
  unfold bStep
  rw [e]
  exact hf
theorem bTr_call {tg mm kd : Nat} (h : bTr o i = some (.inr (tg, mm, kd))) : (tg = 0 ∧ aCal o i = some (mm, kd)) ∨ tg = 1 := by
  unfold bTr at h
  split at h
  · rename_i a b e
    cases h
    exact Or.inl ⟨rfl, e⟩
  · split at h
    · cases h; exact Or.inr rfl
    · cases h; exact Or.inr rfl
    · cases h; exact Or.inr rfl
    · split at h <;> cases h
/-- the surroundings of a run: the end, the nodes, the contracts -/
def bFinOk (L : aLa) (n0 : Nat) (ρ0 : Nat → Int) (Kp : pmS → Prop) (σ0 : pmS) (fin : Option bV → aX → bM → Bool) (Q0 : Option Value → pmS → Prop) : Prop := ∀ r X M ρ v σ, fin r X M = true → bAllK L n0 ρ0 ρ Kp σ0 X M σ → bRok X.1.length ρ r v → Q0 v σ
def bNodOk (ro : Nat → Nat × (Nat → Int32)) (L : aLa) (n0 : Nat) (ρ0 : Nat → Int) (Kp : pmS → Prop) (σ0 : pmS) (nod : bNod) (Q0 : Option Value → pmS → Prop) : Prop :=
  ∀ d K pc pl st fs X M ρ cl cs cfs σ, nod d K pc pl st fs X M = some true → aKok K → bAllK L n0 ρ0 ρ Kp σ0 X M σ → bLok X.1.length ρ pl cl → bSok X.1.length ρ st cs → bFsok X.1.length ρ fs cfs → pmWp ro d K.1 K.2.1 K.2.2.1 pc cl cs σ (aRtQ ro d cfs Q0)
def bConOk (ro : Nat → Nat × (Nat → Int32)) (L : aLa) (Kp : pmS → Prop) (σ0 : pmS) (con : bCon) : Prop :=
  ∀ d mm args X M k ρ vs σ (Q : Option Value → pmS → Prop), con d mm args X M k = some true → aXok L ρ X → bMok X.1.length ρ Kp σ0 M σ → bSok X.1.length ρ args vs →
    (∀ r X' M' ρ' v σ', X.1.length ≤ X'.1.length → aExt X.1.length ρ ρ' → aXok L ρ' X' → bMok X'.1.length ρ' Kp σ0 M' σ' → bRok X'.1.length ρ' r v → k r X' M' = true → Q v σ') → pmCs ro d mm vs σ Q
theorem bRok_list {rv : Option bV} {v : Option Value} (h : bRok n ρ rv v) (hr : bSok n ρ r cr) : bSok n ρ (rv.toList ++ r) (v.toList ++ cr) := by
  match rv, v, h with
  | none, none, _ => exact hr
  | some a, some v, h => exact ⟨h, hr⟩
theorem bGo_ok {spl : Nat → aSs} {nod : bNod} {con : bCon} {fin : Option bV → aX → bM → Bool} {Q0 : Option Value → pmS → Prop} (hKp : bKfr Kp) (hro : ro = pmRo Ln xs) (hL : L = ((Ln : Int), xs)) (hLn : Ln ≤ 3072) (hfin : bFinOk L n0 ρ0 Kp σ0 fin Q0) (hnod : bNodOk ro L n0 ρ0 Kp σ0 nod Q0) (hcon : bConOk ro L Kp σ0 con) :
    ∀ (nf d : Nat) (fst : Bool) (K : aK) (pc : Nat) (pl : bL) (st : List bV) (fs : List bFr) (X : aX) (M : bM) (ρ : Nat → Int) (cl : pmL) (cs : List Value) (cfs : List aCf) (σ : pmS), bGo spl nod con fin nf d fst K pc pl st fs X M = true → aKok K → bAllK L n0 ρ0 ρ Kp σ0 X M σ → bLok X.1.length ρ pl cl → bSok X.1.length ρ st cs → bFsok X.1.length ρ fs cfs → pmWp ro d K.1 K.2.1 K.2.2.1 pc cl cs σ (aRtQ ro d cfs Q0)
  | 0, _, _, _, _, _, _, _, _, _, _, _, _, _, _, h, _, _, _, _, _ => by cases h
  | nf + 1, d, fst, K, pc, pl, st, fs, X, M, ρ, cl, cs, cfs, σ, h, hK, hA, hl, hs, hfs => by
    have ih := bGo_ok (spl := spl) hKp hro hL hLn hfin hnod hcon nf
    change (aFn pc fun pc => bNm X M fun X M => bOne spl nod con fin (bGo spl nod con fin nf) d fst K pc pl st fs X M) = true at h
    rw [aFn_eq, bNm_eq] at h
    unfold bOne at h
    split at h
    · rename_i b hb
      cases fst with
      | true => cases hb
      | false =>
        subst h
        exact hnod _ _ _ _ _ _ _ _ _ _ _ _ _ hb hK hA hl hs hfs
    · split at h
      · cases h
      · rename_i i hi
        have hi : pmCode K.2.1 pc = some i := (aCode_ok hK).trans hi
        obtain ⟨hX0, hM0, hn0, he0⟩ := hA
        have hsp : aGx L X ρ fun X => bBody spl con fin (bGo spl nod con fin nf) d K pc i pl st fs X M := by
          split at h
          · exact bSpl_ok _ X hX0 hl h
          · exact aGx.same hX0 h
        obtain ⟨Y, y1, hX, h⟩ := hsp
        rw [← y1] at hM0 hn0 hl hs hfs
        have hM := hM0
        unfold bBody at h
        split at h
        · cases h
        · rename_i f htr
          have hst := bTr_step htr h
          obtain ⟨pc', cl', cs', σ', X', M', pl', st', ρ', hst, e1, e2, e3, e4, e5, e6, e7⟩ := bStep_ok (ro := ro) (σ0 := σ0) hKp hro hL hLn hX hM hl hs hst
          refine (pmWp_blk (n := 1) (pc' := pc') (pl' := cl') (st' := cs') (σ' := σ') ?_).mpr ?_
          · unfold pmBlk
            rw [hi]
            simp only [hst]
            rfl
          · exact ih d false K pc' pl' st' fs X' M' ρ' cl' cs' cfs σ' e7 hK ⟨e3, e4, Nat.le_trans hn0 e1, he0.tr hn0 e2⟩ e5 e6 (hfs.ext e1 e2)
        · rename_i tg mm kd htr
          have hcal0 := bTr_call htr
          cases htg : Nat.beq tg 1 with
          | true =>
            rw [htg] at h
            simp only [cond_true] at h
            unfold bEnd at h
            split at h
            · rename_i rv hrv
              obtain ⟨v, hv, hst⟩ := bRet_ok (ro := ro) (o := K.1) (m := K.2.1) (pc := pc) (cl := cl) (σ := σ) hX hs hrv
              refine (pmWp_ret hi (hst _)).mpr ?_
              cases fs with
              | nil =>
                cases cfs with
                | cons _ _ => exact hfs.elim
                | nil => exact hfin _ _ _ ρ _ _ h ⟨hX, hM, hn0, he0⟩ hv
              | cons f fs' =>
                cases cfs with
                | nil => exact hfs.elim
                | cons c cfs' =>
                  obtain ⟨⟨g1, ⟨g2, g2b, g2c⟩, g3, g4, g5⟩, g6⟩ := hfs
                  show pmWp ro (d + 1) c.1.1 c.1.2.1 c.1.2.2.1 (c.2.1 + 3) c.2.2.1 (v.toList ++ c.2.2.2) σ (aRtQ ro (d + 1) cfs' Q0)
                  rw [g2, g2b, g2c, g3]
                  exact ih (d + 1) false f.1 (f.2.1 + 3) f.2.2.1 _ fs' Y M ρ c.2.2.1 _ cfs' σ h g1 ⟨hX, hM, hn0, he0⟩ g4 (bRok_list hv g5) g6
            · cases h
          | false =>
            rw [htg] at h
            simp only [cond_false] at h
            unfold bCal at h
            have hcal : aCal K.1 i = some (mm, kd) := by
              rcases hcal0 with e | e
              · exact e.2
              · rw [e] at htg; cases htg
            split at h
            · rename_i q hq
              obtain ⟨⟨y, bb, ⟨oo, nn, mx, rr⟩, ⟨kind, ev⟩⟩, code⟩ := q
              split at h
              · rename_i args rest hargs
                obtain ⟨hc, h⟩ := aBif h
                rw [Bool.and_eq_true] at hc
                have hcat := Nat.le_of_ble_eq_true hc.1
                have hkd : kind = kd := Nat.eq_of_beq_eq_true hc.2
                have hcal : aCal K.1 i = some (mm, kind) := by rw [hkd]; exact hcal
                have hargs : bArgs kind nn oo st = some (args, rest) := by rw [hkd]; exact hargs
                have hinf := aInf_ok hq
                obtain ⟨vs, cr, hvs, hcr, hst⟩ := bCal_ok (ro := ro) (m := K.2.1) (rt := K.2.2.1) (pc := pc) (cl := cl) hM hs hcal hinf hargs
                rw [← bSok_cats hcr] at hcat
                refine (pmWp_call hi hcat hst).mpr ?_
                split at h
                · rename_i b hb
                  subst h
                  refine hcon _ _ _ _ _ _ ρ _ _ _ hb hX hM hvs ?_
                  intro r X' M' ρ' v σ' e1 e2 e3 e4 e5 e6
                  exact ih d false K (pc + 3) pl _ fs X' M' ρ' cl _ cfs σ' e6 hK ⟨e3, e4, Nat.le_trans hn0 e1, he0.tr hn0 e2⟩ (hl.ext e1 e2) (bRok_list e5 (hcr.ext e1 e2)) (hfs.ext e1 e2)
                · unfold bIn1 at h
                  cases d with
                  | zero => cases h
                  | succ d' =>
                    obtain ⟨hc2, h⟩ := aBif h
                    simp only [Bool.and_eq_true, decide_eq_true_eq] at hc2
                    obtain ⟨z1, z2, z3, z4⟩ := hc2
                    simp only [aFl_eq, aFn_eq, aFw_eq] at h
                    rw [bPl_len hvs] at z1 h
                    have z5 : pmEl mm (pmPl vs) = true := (bEl_ok (mm := mm) (bPl args) (pmPl vs) 0 (bPl_cat hvs)).symm.trans z4
                    refine (pmCs_go hinf ⟨z1, z2, z3, z5⟩).mpr ?_
                    exact ih d' false (oo, mm, pmRk rr kind, code, spl mm) 0 _ [] ((K, pc, pl, rest) :: fs) Y M ρ _ [] ((K, pc, cl, cr) :: cfs) σ h ⟨_, hq⟩ ⟨hX, hM, hn0, he0⟩ (bLok_app (bPl_ok hvs) (bLok_rep _)) trivial ⟨⟨hK, ⟨rfl, rfl, rfl⟩, rfl, hl, hcr⟩, hfs⟩
              · cases h
            · cases h
end
end
section
/-! when one picture covers another: variables of the covering one (B) stand for forms of the covered one (A); those below nC are the same in both -/
section
abbrev bSu : Type := List (Nat × aF)
noncomputable def bSb (nC : Nat) (S : bSu) (f : aF) : Option aF := bif Nat.blt f.1 nC then some f else match fLk S f.1 with
  | some g => some (g.1, zAdd g.2 f.2)
  | none => none
/-- what B's variables are worth -/
noncomputable def bRo (nC : Nat) (S : bSu) (ρ : Nat → Int) (w : Nat) : Int := bif Nat.blt w nC then ρ w else match fLk S w with
  | some g => ρ g.1 + g.2
  | none => 0
noncomputable def bKn (E : aE) (f g : aF) : Bool := match aItv E f, aItv E g with
  | some i, some j => zEq i.1 i.2 && (zEq j.1 j.2 && zEq i.1 j.1)
  | _, _ => false
noncomputable def bMf (E : aE) (nC nB : Nat) (S : bSu) (f g : aF) : Bool := Nat.blt f.1 nB && (match bSb nC S f with
  | some h => Nat.blt h.1 (fLen E) && (eqF h g || bKn E h g)
  | none => false)
noncomputable def bMem (ps : List Nat) (q : Nat) : Bool := List.rec false (fun p _ ih => Bool.rec ih true (Nat.beq p q)) ps
noncomputable def bMv (E : aE) (nC nB : Nat) (S : bSu) (a b : bV) : Bool := match a, b with
  | .inl (t, f), .inl (u, g) => fBoo t u && bMf E nC nB S f g
  | .inr ps, .inr qs => bAll qs (bMem ps)
  | _, _ => false
noncomputable def bMl (E : aE) (nC nB : Nat) (S : bSu) : bL → bL → Bool
  | [], [] => true
  | none :: l, _ :: m => bMl E nC nB S l m
  | some a :: l, some b :: m => bMv E nC nB S a b && bMl E nC nB S l m
  | _, _ => false
noncomputable def bMs (E : aE) (nC nB : Nat) (S : bSu) : List bV → List bV → Bool
  | [], [] => true
  | a :: l, b :: m => bMv E nC nB S a b && bMs E nC nB S l m
  | _, _ => false
noncomputable def bMe (E : aE) (nC : Nat) (S : bSu) : Nat → aE → Bool
  | _, [] => true
  | w, i :: t => (match bSb nC S (w, 0) with
    | some h => (match aItv E h with
      | some j => zLe i.1 j.1 && zLe j.2 i.2
      | none => false)
    | none => false) && bMe E nC S (Nat.succ w) t
noncomputable def bMc (X : aX) (nC nB : Nat) (S : bSu) : aC → Bool
  | [] => true
  | q :: t => (Nat.blt q.1 nB && (Nat.blt q.2.1 nB && (match bSb nC S (q.1, 0), bSb nC S (q.2.1, 0) with
    | some h, some g => Nat.blt h.1 (fLen X.1) && (Nat.blt g.1 (fLen X.1) && (match aUb X h g with
      | some u => zLe u q.2.2
      | none => false))
    | _, _ => false))) && bMc X nC nB S t
noncomputable def bMn (E : aE) (nC nB : Nat) (S : bSu) (eB eA : bN) : Bool := match eB, eA with
  | .inl f, .inl g => bMf E nC nB S f g
  | .inr l, .inl g => (match aItv E g with
    | some j => bCov j l
    | none => false)
  | .inr l, .inr m => bCv m l
  | _, _ => false
noncomputable def bMh (E : aE) (nC nB : Nat) (S : bSu) (HB HA : bH) : Bool :=
  (HA.all fun q => q.2.all fun r => bMn E nC nB S (bEn HB q.1 r.1) r.2) && HB.all fun q => q.2.all fun r => bMn E nC nB S r.2 (bEn HA q.1 r.1)
variable {L : aLa} {ρ : Nat → Int} {E : aE} {X : aX} {nC nB : Nat} {S : bSu} {f g : aF} {x z : Int}
theorem bBlt {a b : Nat} (h : Nat.blt a b = true) : a < b := Nat.lt_of_lt_of_le (Nat.lt_succ_self a) (Nat.le_of_ble_eq_true h)
theorem bSb_ok {h : aF} (hs : bSb nC S f = some h) : ρ h.1 + h.2 = bRo nC S ρ f.1 + f.2 := by
  unfold bSb at hs
  unfold bRo
  cases hb : Nat.blt f.1 nC with
  | true =>
    rw [hb] at hs
    cases hs
    rfl
  | false =>
    rw [hb] at hs
    simp only [cond_false] at hs ⊢
    split at hs
    · rename_i g hg
      cases hs
      rw [zAdd_eq]
      show ρ g.1 + (g.2 + f.2) = ρ g.1 + g.2 + f.2
      omega
    · cases hs
theorem bMf_ok (hE : aEok L ρ E) (h : bMf E nC nB S f g = true) (hg : aFok E.length ρ g z) : aFok nB (bRo nC S ρ) f z := by
  unfold bMf at h
  rw [Bool.and_eq_true] at h
  refine ⟨bBlt h.1, ?_⟩
  have h := h.2
  split at h
  · rename_i w hw
    rw [Bool.and_eq_true, Bool.or_eq_true, fLen_eq] at h
    have e := bSb_ok (ρ := ρ) hw
    have hwl := bBlt h.1
    rcases h.2 with h1 | h1
    · have := eqF_ok _ _ h1
      subst this
      rw [hg.2]
      exact e
    · unfold bKn at h1
      split at h1
      · rename_i i j hi hj
        simp only [zEq_eq, Bool.and_eq_true, decide_eq_true_eq] at h1
        have a := aItv_ok (z := ρ w.1 + w.2) hE ⟨hwl, rfl⟩ hi
        have b := aItv_ok hE hg hj
        omega
      · cases h1
  · cases h
theorem bMem_ok {q : Nat} : ∀ {ps : List Nat}, bMem ps q = true → q ∈ ps := fun {ps} => by
  induction ps with
  | nil => intro h; cases h
  | cons a t ih =>
    intro h
    have h : (Bool.rec (bMem t q) true (Nat.beq a q) : Bool) = true := h
    cases hb : Nat.beq a q with
    | true =>
      rw [Nat.eq_of_beq_eq_true hb]
      exact List.mem_cons_self
    | false =>
      rw [hb] at h
      exact List.mem_cons_of_mem _ (ih h)
theorem bMv_ok {a b : bV} {v : Value} (hE : aEok L ρ E) (h : bMv E nC nB S a b = true) (hb : bVok E.length ρ b v) : bVok nB (bRo nC S ρ) a v := by
  unfold bMv at h
  split at h
  · rename_i t f u g
    rw [Bool.and_eq_true] at h
    have := fBoo_ok _ _ h.1
    subst this
    cases t with
    | false =>
      obtain ⟨x, rfl, hx⟩ := bVok_int hb
      exact bMf_ok hE h.2 hx
    | true =>
      obtain ⟨x, rfl, hx⟩ := bVok_long hb
      exact bMf_ok hE h.2 hx
  · rename_i ps qs
    obtain ⟨q, rfl, hq⟩ := bVok_ref hb
    exact bMem_ok (bAll_ok h q hq)
  · cases h
theorem bMs_ok (hE : aEok L ρ E) : ∀ {l m : List bV} {cs : List Value}, bMs E nC nB S l m = true → bSok E.length ρ m cs → bSok nB (bRo nC S ρ) l cs
  | [], [], [], _, _ => trivial
  | a :: l, b :: m, v :: cs, h, hs => by
    unfold bMs at h
    rw [Bool.and_eq_true] at h
    exact ⟨bMv_ok hE h.1 hs.1, bMs_ok hE h.2 hs.2⟩
  | [], _ :: _, _, h, _ => by cases h
  | _ :: _, [], _, h, _ => by cases h
theorem bMl_ok (hE : aEok L ρ E) : ∀ {l m : bL}, bMl E nC nB S l m = true → l.length = m.length ∧ ∀ (i : Nat) (a : bV), l[i]? = some (some a) → ∃ b, m[i]? = some (some b) ∧ bMv E nC nB S a b = true
  | [], [], _ => ⟨rfl, fun i a h => by cases h⟩
  | none :: l, b :: m, h => by
    obtain ⟨h1, h2⟩ := bMl_ok hE (l := l) (m := m) (by unfold bMl at h; exact h)
    refine ⟨by simp [h1], fun i a hi => ?_⟩
    cases i with
    | zero => cases hi
    | succ i => exact h2 i a hi
  | some a :: l, some b :: m, h => by
    unfold bMl at h
    rw [Bool.and_eq_true] at h
    obtain ⟨h1, h2⟩ := bMl_ok hE h.2
    refine ⟨by simp [h1], fun i c hi => ?_⟩
    cases i with
    | zero => cases hi; exact ⟨b, rfl, h.1⟩
    | succ i => exact h2 i c hi
  | some _ :: _, none :: _, h => by cases h
  | [], _ :: _, h => by cases h
  | none :: _, [], h => by cases h
  | some _ :: _, [], h => by cases h
theorem bMl_lok {l m : bL} {cl : pmL} (hE : aEok L ρ E) (h : bMl E nC nB S l m = true) (hl : bLok E.length ρ m cl) : bLok nB (bRo nC S ρ) l cl := by
  obtain ⟨h1, h2⟩ := bMl_ok hE h
  refine ⟨h1.trans hl.1, fun i a hi => ?_⟩
  obtain ⟨b, hb, hv⟩ := h2 i a hi
  obtain ⟨v, g1, g2⟩ := hl.2 i b hb
  exact ⟨v, g1, bMv_ok hE hv g2⟩
theorem bMe_ok (hE : aEok L ρ E) : ∀ (t : aE) (w : Nat), bMe E nC S w t = true → (∀ h : aF, ∀ v, bSb nC S (v, 0) = some h → aItv E h ≠ none → h.1 < E.length) → ∀ (j : Nat) (i : aI), t[j]? = some i → i.1 ≤ bRo nC S ρ (w + j) ∧ bRo nC S ρ (w + j) ≤ i.2
  | [], w, _, _, j, i, hj => by cases hj
  | i0 :: t, w, h, hb, j, i, hj => by
    unfold bMe at h
    rw [Bool.and_eq_true] at h
    cases j with
    | zero =>
      cases hj
      have h1 := h.1
      split at h1
      · rename_i u hu
        split at h1
        · rename_i q hq
          rw [zLe_eq, zLe_eq, Bool.and_eq_true, decide_eq_true_eq, decide_eq_true_eq] at h1
          have hlt := hb u w hu (by rw [hq]; exact fun e => by cases e)
          have a := aItv_ok (z := ρ u.1 + u.2) hE ⟨hlt, rfl⟩ hq
          have e := bSb_ok (ρ := ρ) hu
          have e : ρ u.1 + u.2 = bRo nC S ρ w + 0 := e
          show i0.1 ≤ bRo nC S ρ (w + 0) ∧ bRo nC S ρ (w + 0) ≤ i0.2
          rw [Nat.add_zero]
          omega
        · cases h1
      · cases h1
    | succ j =>
      have := bMe_ok hE t (w + 1) h.2 hb j i hj
      rw [show w + (j + 1) = w + 1 + j by omega]
      exact this
theorem aItv_lt (h : aItv E f ≠ none) : f.1 < E.length := by
  unfold aItv at h
  rw [fGet_eq] at h
  rcases Nat.lt_or_ge f.1 E.length with h1 | h1
  · exact h1
  · rw [List.getElem?_eq_none h1] at h
    exact absurd rfl h
theorem bMe_all (hE : aEok L ρ E) {t : aE} (h : bMe E nC S 0 t = true) (j : Nat) (i : aI) (hj : t[j]? = some i) : i.1 ≤ bRo nC S ρ j ∧ bRo nC S ρ j ≤ i.2 := by
  have := bMe_ok hE t 0 h (fun h v _ hn => aItv_lt hn) j i hj
  rw [Nat.zero_add] at this
  exact this
theorem bRo_lt {w : Nat} (h : w < nC) : bRo nC S ρ w = ρ w := by
  unfold bRo
  have : Nat.blt w nC = true := Nat.ble_eq_true_of_le h
  rw [this]
  rfl
theorem bMe_env (hE : aEok L ρ E) (hC : 2 ≤ nC) {t : aE} (ht : 1 < t.length) (h : bMe E nC S 0 t = true) : aEok L (bRo nC S ρ) t :=
  ⟨⟨by rw [bRo_lt (by omega)]; exact hE.1.1, by rw [bRo_lt (by omega)]; exact hE.1.2.1, ht⟩, fun v i hi => bMe_all hE h v i hi⟩
theorem bMc_ok (hX : aXok L ρ X) : ∀ {C : aC}, bMc X nC nB S C = true → aDok nB (bRo nC S ρ) C
  | [], _ => fun q hq => absurd hq List.not_mem_nil
  | q :: t, h => by
    unfold bMc at h
    rw [Bool.and_eq_true, Bool.and_eq_true, Bool.and_eq_true] at h
    obtain ⟨⟨h1, h2, h3⟩, h4⟩ := h
    intro r hr
    rcases List.mem_cons.mp hr with rfl | hr
    · refine ⟨bBlt h1, bBlt h2, ?_⟩
      split at h3
      · rename_i u w hu hw
        rw [Bool.and_eq_true, Bool.and_eq_true, fLen_eq] at h3
        obtain ⟨k1, k2, k3⟩ := h3
        split at k3
        · rename_i b hb
          rw [zLe_eq, decide_eq_true_eq] at k3
          have a := aUb_ok (x := ρ u.1 + u.2) (y := ρ w.1 + w.2) hX ⟨bBlt k1, rfl⟩ ⟨bBlt k2, rfl⟩ hb
          have e1 : ρ u.1 + u.2 = bRo nC S ρ r.1 + 0 := bSb_ok (ρ := ρ) hu
          have e2 : ρ w.1 + w.2 = bRo nC S ρ r.2.1 + 0 := bSb_ok (ρ := ρ) hw
          omega
        · cases k3
      · cases h3
    · exact bMc_ok hX h4 r hr
theorem bMn_ok {eB eA : bN} (hE : aEok L ρ E) (h : bMn E nC nB S eB eA = true) (hz : bEk E.length ρ eA z) : bEk nB (bRo nC S ρ) eB z := by
  unfold bMn at h
  split at h
  · exact bMf_ok hE h hz
  · rename_i l g
    split at h
    · rename_i j hj
      have a := aItv_ok hE hz hj
      exact bCov_ok h a.1 a.2
    · cases h
  · exact bCv_ok h hz
  · cases h
theorem fLk_mem {β : Type} {k : Nat} {v : β} : ∀ {l : List (Nat × β)}, fLk l k = some v → (k, v) ∈ l := fun {l} h => by
  rw [fLk_eq] at h
  induction l with
  | nil => cases h
  | cons a t ih =>
    rw [pmLk_cons] at h
    split at h
    · rename_i e
      cases h
      rw [← e]
      exact List.mem_cons_self
    · exact List.mem_cons_of_mem _ (ih h)
theorem bMh_ok {HB HA : bH} {φ : Nat → Nat → Int} (hE : aEok L ρ E) (h : bMh E nC nB S HB HA = true) (hH : bHok E.length ρ HA φ) : bHok nB (bRo nC S ρ) HB φ := by
  unfold bMh at h
  rw [Bool.and_eq_true] at h
  obtain ⟨h1, h2⟩ := h
  have hA : ∀ p k o e, fLk HA p = some o → fLk o k = some e → bMn E nC nB S (bEn HB p k) e = true := fun p k o e ho he =>
    List.all_eq_true.mp (List.all_eq_true.mp h1 _ (fLk_mem ho)) _ (fLk_mem he)
  have hB : ∀ p k o e, fLk HB p = some o → fLk o k = some e → bMn E nC nB S e (bEn HA p k) = true := fun p k o e ho he =>
    List.all_eq_true.mp (List.all_eq_true.mp h2 _ (fLk_mem ho)) _ (fLk_mem he)
  intro p k
  have hz := hH p k
  cases hp : fLk HB p with
  | some o =>
    cases hk : fLk o k with
    | some e =>
      have hn := bMn_ok hE (hB p k o e hp hk) hz
      unfold bEn
      rw [hp]
      simp only [hk]
      exact hn
    | none =>
      have hg : bEn HB p k = .inr (bGe p k) := by
        unfold bEn
        rw [hp]
        simp only [hk]
      cases hp2 : fLk HA p with
      | some o2 =>
        cases hk2 : fLk o2 k with
        | some e2 =>
          have he : bEn HA p k = e2 := by
            unfold bEn
            rw [hp2]
            simp only [hk2]
          rw [he] at hz
          exact bMn_ok hE (hA p k o2 e2 hp2 hk2) hz
        | none =>
          have he : bEn HA p k = .inr (bGe p k) := by
            unfold bEn
            rw [hp2]
            simp only [hk2]
          rw [he] at hz
          rw [hg]
          exact hz
      | none =>
        have he : bEn HA p k = .inr (bGe p k) := by
          unfold bEn
          rw [hp2]
        rw [he] at hz
        rw [hg]
        exact hz
  | none =>
    have hg : bEn HB p k = .inr (bGe p k) := by
      unfold bEn
      rw [hp]
    cases hp2 : fLk HA p with
    | some o2 =>
      cases hk2 : fLk o2 k with
      | some e2 =>
        have he : bEn HA p k = e2 := by
          unfold bEn
          rw [hp2]
          simp only [hk2]
        rw [he] at hz
        exact bMn_ok hE (hA p k o2 e2 hp2 hk2) hz
      | none =>
        have he : bEn HA p k = .inr (bGe p k) := by
          unfold bEn
          rw [hp2]
          simp only [hk2]
        rw [he] at hz
        rw [hg]
        exact hz
    | none =>
      have he : bEn HA p k = .inr (bGe p k) := by
        unfold bEn
        rw [hp2]
      rw [he] at hz
      rw [hg]
      exact hz
end
end
section
/-! nodes: places at which a run ends because it has come to a picture that is covered, with a rank that falls -/
section
noncomputable def bCf (nC : Nat) (f g : aF) (S : bSu) : bSu := bif Nat.blt f.1 nC then S else match fLk S f.1 with
  | some _ => S
  | none => (f.1, (g.1, zSub g.2 f.2)) :: S
noncomputable def bCvs (nC : Nat) (a b : bV) (S : bSu) : bSu := match a, b with
  | .inl (_, f), .inl (_, g) => bCf nC f g S
  | _, _ => S
noncomputable def bCl (nC : Nat) : bL → bL → bSu → bSu
  | some a :: l, some b :: m, S => bCl nC l m (bCvs nC a b S)
  | _ :: l, _ :: m, S => bCl nC l m S
  | _, _, S => S
noncomputable def bCs (nC : Nat) : List bV → List bV → bSu → bSu
  | a :: l, b :: m, S => bCs nC l m (bCvs nC a b S)
  | _, _, S => S
noncomputable def bCo (nC : Nat) (HA : bH) (p : Nat) : bO → bSu → bSu
  | [], S => S
  | q :: t, S => bCo nC HA p t (match q.2, bEn HA p q.1 with
    | .inl f, .inl g => bCf nC f g S
    | _, _ => S)
noncomputable def bCh (nC : Nat) (HA : bH) : bH → bSu → bSu
  | [], S => S
  | q :: t, S => bCh nC HA t (bCo nC HA q.1 q.2 S)
noncomputable def bCfs (nC : Nat) : List bFr → List bFr → bSu → bSu
  | f :: fs, g :: gs, S => bCfs nC fs gs (bCs nC f.2.2.2 g.2.2.2 (bCl nC f.2.2.1 g.2.2.1 S))
  | _, _, S => S
/-- a rank: a number and multiples of variables -/
abbrev bLn : Type := Int × List (Nat × Int)
def bLv (ρ : Nat → Int) : List (Nat × Int) → Int
  | [] => 0
  | q :: t => q.2 * ρ q.1 + bLv ρ t
def bRv (ρ : Nat → Int) (r : bLn) : Int := r.1 + bLv ρ r.2
noncomputable def bLi (v : Nat) (c : Int) : List (Nat × Int) → List (Nat × Int)
  | [] => [(v, c)]
  | q :: t => if q.1 = v then (v, q.2 + c) :: t else q :: bLi v c t
noncomputable def bLb (E : aE) : List (Nat × Int) → Option Int
  | [] => some 0
  | q :: t => if q.2 = 0 then bLb E t else (match fGet E q.1, bLb E t with
    | some i, some b => some (b + (if 0 ≤ q.2 then q.2 * i.1 else q.2 * i.2))
    | _, _ => none)
/-- r less the rank of B -/
noncomputable def bLs (nC : Nat) (S : bSu) : List (Nat × Int) → bLn → Option bLn
  | [], r => some r
  | q :: t, r => (match bSb nC S (q.1, 0) with
    | some h => bLs nC S t (r.1 - q.2 * h.2, bLi h.1 (-q.2) r.2)
    | none => none)
noncomputable def bRk (E : aE) (nC : Nat) (S : bSu) (rA rB : bLn) : Bool := match bLs nC S rB.2 (rA.1 - rB.1, rA.2) with
  | some d => (match bLb E d.2 with
    | some b => decide (1 ≤ d.1 + b)
    | none => false)
  | none => false
noncomputable def bRz (E : aE) (r : bLn) : Bool := match bLb E r.2 with
  | some b => decide (0 ≤ r.1 + b)
  | none => false
noncomputable def bFe : List bFr → List bFr → Bool
  | [], [] => true
  | f :: fs, g :: gs => Nat.beq f.1.1 g.1.1 && (Nat.beq f.1.2.1 g.1.2.1 && (Nat.beq f.1.2.2.1 g.1.2.2.1 && (Nat.beq f.2.1 g.2.1 && bFe fs gs)))
  | _, _ => false
noncomputable def bFm (E : aE) (nC nB : Nat) (S : bSu) : List bFr → List bFr → Bool
  | [], [] => true
  | f :: fs, g :: gs => bMl E nC nB S f.2.2.1 g.2.2.1 && (bMs E nC nB S f.2.2.2 g.2.2.2 && bFm E nC nB S fs gs)
  | _, _ => false
/-- depth, frame, place, locals, stack, frames, (environment, differences), (heap, regions), rank -/
abbrev bNd : Type := Nat × aK × Nat × bL × List bV × List bFr × (aE × aC) × (bH × Nat) × bLn
noncomputable def bNk (d : Nat) (K : aK) (pc : Nat) (fs : List bFr) (nd : bNd) : Bool := Nat.beq nd.2.2.1 pc && (Nat.beq nd.2.1.2.1 K.2.1 && (Nat.beq nd.1 d && (Nat.beq nd.2.1.1 K.1 && (Nat.beq nd.2.1.2.2.1 K.2.2.1 && bFe nd.2.2.2.2.2.1 fs))))
/-- what the differences say of the intervals -/
noncomputable def bTi : aC → aX → (aX → Bool) → Bool
  | [], X, k => k X
  | q :: t, X, k => (match aItv X.1 (q.1, 0), aItv X.1 (q.2.1, 0) with
    | some i, some j => aRf X.1 (q.1, 0) (i.1, zAdd j.2 q.2.2) fun E => aRf E (q.2.1, 0) (zSub i.1 q.2.2, j.2) fun E => bTi t (E, X.2) k
    | _, _ => false)
noncomputable def bNm1 (nC : Nat) (rk : Option bLn) (nd : bNd) (pl : bL) (st : List bV) (fs : List bFr) (X : aX) (M : bM) : Bool := match nd with
  | (_, _, _, plB, stB, fsB, (EB, CB), (HB, WB), rB) => bTi X.2.1 X fun X => aFw (bCh nC M.1 HB (bCfs nC fsB fs (bCs nC stB st (bCl nC plB pl [])))) fun S => aFn (fLen EB) fun nB =>
    Nat.ble nC nB && (bMl X.1 nC nB S plB pl && (bMs X.1 nC nB S stB st && (bFm X.1 nC nB S fsB fs && (bMe X.1 nC S 0 EB && (bMc X nC nB S CB && (bMh X.1 nC nB S HB M.1 && (Nat.beq (Nat.lor M.2.2 WB) WB && (match rk with
      | some rA => bRk X.1 nC S rA rB
      | none => true))))))))
noncomputable def bNh (nC : Nat) (rk : Option bLn) (nds : List bNd) : bNod := fun d K pc pl st fs X M => bif nds.any (bNk d K pc fs) then some (nds.any fun nd => bNk d K pc fs nd && bNm1 nC rk nd pl st fs X M) else none
variable {L : aLa} {ρ ρ0 ρe : Nat → Int} {E : aE} {X : aX} {M : bM} {nC nB n0 : Nat} {S : bSu} {f g : aF} {x z : Int} {Kp : pmS → Prop} {σ0 σ : pmS} {ro : Nat → Nat × (Nat → Int32)}
theorem bTi_ok {k : aX → Bool} : ∀ (C : aC) (X : aX), aXok L ρ X → aDok X.1.length ρ C → bTi C X k = true → aGx L X ρ k
  | [], X, hX, _, h => aGx.same hX h
  | q :: t, X, hX, hD, h => by
    unfold bTi at h
    obtain ⟨d1, d2, d3⟩ := hD q List.mem_cons_self
    have f1 : aFok X.1.length ρ (q.1, 0) (ρ q.1) := ⟨d1, by show ρ q.1 = ρ q.1 + 0; omega⟩
    have f2 : aFok X.1.length ρ (q.2.1, 0) (ρ q.2.1) := ⟨d2, by show ρ q.2.1 = ρ q.2.1 + 0; omega⟩
    split at h
    · rename_i i j hi hj
      have a := aItv_ok hX.1 f1 hi
      have b := aItv_ok hX.1 f2 hj
      rw [zAdd_eq] at h
      obtain ⟨E1, l1, o1, k1⟩ := aRf_ok hX.1 f1 (i := (i.1, j.2 + q.2.2)) a.1 (by show ρ q.1 ≤ j.2 + q.2.2; omega) h
      rw [zSub_eq] at k1
      obtain ⟨E2, l2, o2, k2⟩ := aRf_ok o1 (f := (q.2.1, 0)) (z := ρ q.2.1) (by rw [l1]; exact f2) (i := (i.1 - q.2.2, j.2)) (by show i.1 - q.2.2 ≤ ρ q.2.1; omega) b.2 k1
      have e : E2.length = X.1.length := l2.trans l1
      have hY : aXok L ρ (E2, X.2) := ⟨o2, by show aCok L E2.length ρ X.2; rw [e]; exact hX.2⟩
      obtain ⟨Z, z1, z2, z3⟩ := bTi_ok t (E2, X.2) hY (fun r hr => by show r.1 < E2.length ∧ r.2.1 < E2.length ∧ _; rw [e]; exact hD r (List.mem_cons_of_mem _ hr)) k2
      exact ⟨Z, z1.trans e, z2, z3⟩
    · cases h
theorem bLi_ok (v : Nat) (c : Int) : ∀ l : List (Nat × Int), bLv ρ (bLi v c l) = c * ρ v + bLv ρ l
  | [] => rfl
  | q :: t => by
    unfold bLi
    split
    · rename_i e
      show (q.2 + c) * ρ v + bLv ρ t = c * ρ v + (q.2 * ρ q.1 + bLv ρ t)
      rw [e, Int.add_mul]
      omega
    · show q.2 * ρ q.1 + bLv ρ (bLi v c t) = c * ρ v + (q.2 * ρ q.1 + bLv ρ t)
      rw [bLi_ok v c t]
      omega
theorem bLb_ok (hE : aEok L ρ E) : ∀ {l : List (Nat × Int)} {b : Int}, bLb E l = some b → b ≤ bLv ρ l
  | [], b, h => by cases h; exact Int.le_refl _
  | q :: t, b, h => by
    unfold bLb at h
    show b ≤ q.2 * ρ q.1 + bLv ρ t
    split at h
    · rename_i e
      rw [e, Int.zero_mul, Int.zero_add]
      exact bLb_ok hE h
    · split at h
      · rename_i i b0 hi hb
        rw [fGet_eq] at hi
        cases h
        have h1 := bLb_ok hE hb
        have h2 := hE.2 _ _ hi
        split
        · rename_i hc
          have := Int.mul_le_mul_of_nonneg_left h2.1 hc
          omega
        · rename_i hc
          have : q.2 * i.2 ≤ q.2 * ρ q.1 := Int.mul_le_mul_of_nonpos_left (by omega) h2.2
          omega
      · cases h
theorem bLs_ok : ∀ {l : List (Nat × Int)} {r d : bLn}, bLs nC S l r = some d → bRv ρ d = bRv ρ r - bLv (bRo nC S ρ) l
  | [], r, d, h => by
    cases h
    show bRv ρ r = bRv ρ r - 0
    omega
  | q :: t, r, d, h => by
    unfold bLs at h
    split at h
    · rename_i w hw
      rw [bLs_ok h]
      have e : ρ w.1 + w.2 = bRo nC S ρ q.1 + 0 := bSb_ok (ρ := ρ) hw
      show r.1 - q.2 * w.2 + bLv ρ (bLi w.1 (-q.2) r.2) - bLv (bRo nC S ρ) t = r.1 + bLv ρ r.2 - (q.2 * bRo nC S ρ q.1 + bLv (bRo nC S ρ) t)
      rw [bLi_ok, Int.neg_mul, ← Int.add_zero (bRo nC S ρ q.1), ← e, Int.mul_add]
      omega
    · cases h
theorem bRk_ok {rA rB : bLn} (hE : aEok L ρ E) (h : bRk E nC S rA rB = true) : bRv (bRo nC S ρ) rB + 1 ≤ bRv ρ rA := by
  unfold bRk at h
  split at h
  · rename_i d hd
    split at h
    · rename_i b hb
      have h1 := bLs_ok (ρ := ρ) hd
      have h2 := bLb_ok hE hb
      have h3 := of_decide_eq_true h
      unfold bRv at h1 ⊢
      have h4 : bLv ρ (rA.fst - rB.fst, rA.snd).snd = bLv ρ rA.2 := rfl
      have h5 : (rA.fst - rB.fst, rA.snd).fst = rA.1 - rB.1 := rfl
      rw [h4, h5] at h1
      omega
    · cases h
  · cases h
theorem bRz_ok {r : bLn} (hE : aEok L ρ E) (h : bRz E r = true) : 0 ≤ bRv ρ r := by
  unfold bRz at h
  split at h
  · rename_i b hb
    have h2 := bLb_ok hE hb
    have h3 := of_decide_eq_true h
    unfold bRv
    omega
  · cases h
theorem bFm_ok (hE : aEok L ρ E) : ∀ {fsB fs : List bFr} {cfs : List aCf}, bFe fsB fs = true → bFm E nC nB S fsB fs = true → (∀ f ∈ fsB, aKok f.1) → bFsok E.length ρ fs cfs → bFsok nB (bRo nC S ρ) fsB cfs
  | [], [], [], _, _, _, _ => trivial
  | f :: fsB, g :: fs, c :: cfs, he, hm, hk, h => by
    unfold bFe at he
    unfold bFm at hm
    simp only [Bool.and_eq_true] at he hm
    obtain ⟨⟨h1, ⟨h2, h3, h4⟩, h5, h6, h7⟩, h8⟩ := h
    exact ⟨⟨hk f List.mem_cons_self, ⟨by rw [h2, Nat.eq_of_beq_eq_true he.1], by rw [h3, Nat.eq_of_beq_eq_true he.2.1], by rw [h4, Nat.eq_of_beq_eq_true he.2.2.1]⟩, by rw [h5, Nat.eq_of_beq_eq_true he.2.2.2.1], bMl_lok hE hm.1 h6, bMs_ok hE hm.2.1 h7⟩, bFm_ok hE he.2.2.2.2 hm.2.2 (fun x hx => hk x (List.mem_cons_of_mem _ hx)) h8⟩
  | [], _ :: _, _, he, _, _, _ => by cases he
  | _ :: _, [], _, he, _, _, _ => by cases he
/-- what a node promises, where its rank is below b -/
def bNdP (ro : Nat → Nat × (Nat → Int32)) (L : aLa) (nC : Nat) (ρe : Nat → Int) (Kp : pmS → Prop) (σ0 : pmS) (Q0 : Option Value → pmS → Prop) (b : Int) (nd : bNd) : Prop :=
  ∀ ρ cl cs cfs σ, bAllK L nC ρe ρ Kp σ0 (nd.2.2.2.2.2.2.1.1, nd.2.2.2.2.2.2.1.2, []) (nd.2.2.2.2.2.2.2.1.1, [], nd.2.2.2.2.2.2.2.1.2) σ → bLok nd.2.2.2.2.2.2.1.1.length ρ nd.2.2.2.1 cl → bSok nd.2.2.2.2.2.2.1.1.length ρ nd.2.2.2.2.1 cs → bFsok nd.2.2.2.2.2.2.1.1.length ρ nd.2.2.2.2.2.1 cfs → bRv ρ nd.2.2.2.2.2.2.2.2 < b → pmWp ro nd.1 nd.2.1.1 nd.2.1.2.1 nd.2.1.2.2.1 nd.2.2.1 cl cs σ (aRtQ ro nd.1 cfs Q0)
def bNdK (nd : bNd) : Prop := aKok nd.2.1 ∧ (∀ f ∈ nd.2.2.2.2.2.1, aKok f.1) ∧ 1 < nd.2.2.2.2.2.2.1.1.length
theorem bNm1_ok {nd : bNd} {rk : Option bLn} {pl : bL} {st : List bV} {fs : List bFr} {cl : pmL} {cs : List Value} {cfs : List aCf} (hC : 2 ≤ nC) (hk : bNdK nd) (hfe : bFe nd.2.2.2.2.2.1 fs = true) (h : bNm1 nC rk nd pl st fs X M = true) (hA : bAllK L n0 ρ0 ρ Kp σ0 X M σ) (hn : nC ≤ n0) (he : aExt nC ρe ρ0) (hl : bLok X.1.length ρ pl cl) (hs : bSok X.1.length ρ st cs) (hfs : bFsok X.1.length ρ fs cfs) :
    ∃ ρ', bAllK L nC ρe ρ' Kp σ0 (nd.2.2.2.2.2.2.1.1, nd.2.2.2.2.2.2.1.2, []) (nd.2.2.2.2.2.2.2.1.1, [], nd.2.2.2.2.2.2.2.1.2) σ ∧ bLok nd.2.2.2.2.2.2.1.1.length ρ' nd.2.2.2.1 cl ∧ bSok nd.2.2.2.2.2.2.1.1.length ρ' nd.2.2.2.2.1 cs ∧ bFsok nd.2.2.2.2.2.2.1.1.length ρ' nd.2.2.2.2.2.1 cfs ∧ ∀ rA, rk = some rA → bRv ρ' nd.2.2.2.2.2.2.2.2 + 1 ≤ bRv ρ rA := by
  obtain ⟨d, K, pc, plB, stB, fsB, ⟨EB, CB⟩, ⟨HB, WB⟩, rB⟩ := nd
  obtain ⟨k1, k2, k3⟩ := hk
  unfold bNm1 at h
  obtain ⟨hX, hM, hn0, he0⟩ := hA
  obtain ⟨Y, y1, hX, h⟩ := bTi_ok X.2.1 X hX hX.2.1 h
  rw [← y1] at hM hn0 hl hs hfs
  simp only [aFw_eq, aFn_eq, fLen_eq, Bool.and_eq_true] at h
  obtain ⟨m1, m2, m3, m4, m5, m6, m7, m8, m9⟩ := h
  have hE := hX.1
  refine ⟨bRo nC _ ρ, ⟨⟨bMe_env hE hC k3 m5, bMc_ok hX m6, fun q hq => absurd hq List.not_mem_nil⟩, ⟨hM.1, bMh_ok hE m7 hM.2.1, fun q hq => absurd hq List.not_mem_nil, fun p k hp => ?_, fun hw => hM.2.2.2.2 (bFg_lor (m := WB) (by rw [show Nat.lor M.2.2 WB = WB from Nat.eq_of_beq_eq_true m8]; exact hw)).1⟩, Nat.le_of_ble_eq_true m1, fun v hv => ?_⟩, bMl_lok hE m2 hl, bMs_ok hE m3 hs, bFm_ok hE hfe m4 k2 hfs, fun rA hr => ?_⟩
  · refine hM.2.2.2.1 p k ?_
    have e : M.2.2 ||| WB = WB := Nat.eq_of_beq_eq_true m8
    have hp : WB.testBit (bRg p k) = false := hp
    rw [← e, Nat.testBit_or, Bool.or_eq_false_iff] at hp
    exact hp.1
  · rw [bRo_lt hv, he0 v (by omega), he v hv]
  · subst hr
    exact bRk_ok hE m9
theorem bNk_ok {d : Nat} {K : aK} {pc : Nat} {fs : List bFr} {nd : bNd} (h : bNk d K pc fs nd = true) : nd.1 = d ∧ nd.2.1.1 = K.1 ∧ nd.2.1.2.1 = K.2.1 ∧ nd.2.1.2.2.1 = K.2.2.1 ∧ nd.2.2.1 = pc ∧ bFe nd.2.2.2.2.2.1 fs = true := by
  unfold bNk at h
  simp only [Bool.and_eq_true] at h
  obtain ⟨a, b, c, e, f, g⟩ := h
  exact ⟨Nat.eq_of_beq_eq_true c, Nat.eq_of_beq_eq_true e, Nat.eq_of_beq_eq_true b, Nat.eq_of_beq_eq_true f, Nat.eq_of_beq_eq_true a, g⟩
/-- the hook of a run that begins at a node of rank rA (below b + 1), or at the entry -/
theorem bNh_ok {nds : List bNd} {rk : Option bLn} {Q0 : Option Value → pmS → Prop} {b : Int} (hC : 2 ≤ nC) (hk : ∀ nd ∈ nds, bNdK nd) (hn : nC ≤ n0) (he : aExt nC ρe ρ0) (hr : ∀ rA ρ, rk = some rA → aExt n0 ρ0 ρ → bRv ρ rA ≤ b) (hP : ∀ nd ∈ nds, (rk = none → ∀ b, bNdP ro L nC ρe Kp σ0 Q0 b nd) ∧ bNdP ro L nC ρe Kp σ0 Q0 b nd) : bNodOk ro L n0 ρ0 Kp σ0 (bNh nC rk nds) Q0 := by
  intro d K pc pl st fs X M ρ cl cs cfs σ h hK hA hl hs hfs
  unfold bNh at h
  cases hc : nds.any (bNk d K pc fs) with
  | false => rw [hc] at h; cases h
  | true =>
    rw [hc] at h
    simp only [cond_true, Option.some.injEq] at h
    obtain ⟨nd, hm, h⟩ := List.any_eq_true.mp h
    rw [Bool.and_eq_true] at h
    obtain ⟨e1, e2, e3, e4, e5, e6⟩ := bNk_ok h.1
    obtain ⟨ρ', g1, g2, g3, g4, g5⟩ := bNm1_ok hC (hk nd hm) e6 h.2 hA hn he hl hs hfs
    rw [← e1, ← e2, ← e3, ← e4, ← e5]
    cases rk with
    | none => exact (hP nd hm).1 rfl _ ρ' cl cs cfs σ g1 g2 g3 g4 (Int.lt_succ _)
    | some rA =>
      have := g5 rA rfl
      have := hr rA ρ rfl hA.2.2.2
      exact (hP nd hm).2 ρ' cl cs cfs σ g1 g2 g3 g4 (by omega)
end
end
section
/-! contracts of methods -/
section
/-- method, arguments, environment, heap at the call; what may come of it (result, environment behind it: more variables, the first ones narrower, heap); regions written; depth -/
abbrev bAl : Type := Option bV × aE × bH
abbrev bCt : Type := Nat × List bV × aE × bH × List bAl × Nat × Nat
/-- one outcome -/
def bAlOk (L : aLa) (ρ : Nat → Int) (E0 : aE) (Kp : pmS → Prop) (σ : pmS) (W : Nat) (al : bAl) (v : Option Value) (σ' : pmS) : Prop := ∃ ρ', aExt E0.length ρ ρ' ∧ E0.length ≤ al.2.1.length ∧ aEok L ρ' al.2.1 ∧ bRok al.2.1.length ρ' al.1 v ∧ bMok al.2.1.length ρ' Kp σ (al.2.2, [], W) σ'
def bCok (ro : Nat → Nat × (Nat → Int32)) (L : aLa) (Kp : pmS → Prop) (c : bCt) : Prop := match c with
  | (mm, aB, E0, H0, alts, W, D) => ∀ ρ vs σ, aEok L ρ E0 → bMok E0.length ρ Kp σ (H0, [], 0) σ → bSok E0.length ρ aB vs → pmCs ro D mm vs σ fun v σ' => ∃ al ∈ alts, bAlOk L ρ E0 Kp σ W al v σ'
/-- a form of the contract, at the call -/
noncomputable def bSt (nB nE : Nat) (S : bSu) (f : aF) : aF := bif Nat.blt f.1 nB then (match bSb 2 S f with
  | some h => h
  | none => (0, 0)) else (Nat.add nE (Nat.sub f.1 nB), f.2)
noncomputable def bSv (nB nE : Nat) (S : bSu) (a : bV) : bV := match a with
  | .inl (t, f) => .inl (t, bSt nB nE S f)
  | .inr ps => .inr ps
noncomputable def bSn (nB nE : Nat) (S : bSu) (e : bN) : bN := match e with
  | .inl f => .inl (bSt nB nE S f)
  | .inr l => .inr l
/-- what is written is forgotten -/
noncomputable def bFl (W : Nat) (H : bH) : bH := H.map fun q => (q.1, q.2.filter fun r => !(W.testBit (bRg q.1 r.1)))
noncomputable def bFs (E : aE) (W : Nat) (R : bS) : bS := R.filter fun q => (bSing q.1 && !(W.testBit (bRg q.1 0))) || (match aItv E q.2.1 with
  | some i => zLe 0 i.1 && (zLe i.1 i.2 && Nat.beq (Nat.land W (bRm q.1 i.1.toNat (i.2 - i.1).toNat)) 0)
  | none => false)
noncomputable def bPu (H1 : bH) (nB nE : Nat) (S : bSu) (p : Nat) : bO → bH → (bH → Bool) → Bool
  | [], H, K => K H
  | q :: t, H, K => bPu H1 nB nE S p t H fun H => bSetO p q.1 (bSn nB nE S (bEn H1 p q.1)) H K
noncomputable def bPh (H1 : bH) (nB nE : Nat) (S : bSu) : bH → bH → (bH → Bool) → Bool
  | [], H, K => K H
  | q :: t, H, K => bPh H1 nB nE S t H fun H => bPu H1 nB nE S q.1 q.2 H K
noncomputable def bCm (S : bSu) (aB : List bV) (EB : aE) (HB : bH) (nB : Nat) (args : List bV) (X : aX) (M : bM) : Bool := Nat.ble 2 nB && (bMs X.1 2 nB S aB args && (bMe X.1 2 S 0 EB && (bMh X.1 2 nB S HB M.1 && bFg M.2.2)))
/-- what is known of the arguments behind the call -/
noncomputable def bNw (nB : Nat) (S : bSu) : Nat → aE → aX → (aX → Bool) → Bool
  | _, [], X, k => k X
  | w, i :: t, X, k => bif Nat.blt w nB then (bif Nat.blt w 2 then bNw nB S (Nat.succ w) t X k else (match fLk S w with
    | some h => aLe X (0, i.1) h 0 fun X => aLe X h (0, i.2) 0 fun X => bNw nB S (Nat.succ w) t X k
    | none => false)) else k X
noncomputable def bAp (S : bSu) (nB : Nat) (alts : List bAl) (W : Nat) (X : aX) (M : bM) (k : Option bV → aX → bM → Bool) : Bool := aFn (fLen X.1) fun nE => aFw (bFl W M.1) fun Hf => aFw (bFs X.1 W M.2.1) fun R => aFn (Nat.lor M.2.2 W) fun W => alts.all fun al => bNw nB S 0 al.2.1 X fun X => bPh al.2.2 nB nE S al.2.2 Hf fun H => k (al.1.map (bSv nB nE S)) (X.1 ++ al.2.1.drop nB, X.2) (H, R, W)
noncomputable def bCq (d mm : Nat) (args : List bV) (X : aX) (M : bM) (k : Option bV → aX → bM → Bool) : List bCt → Option Bool → Option Bool
  | [], r => r
  | (m, aB, EB, HB, alts, W, D) :: t, r => bif Nat.beq m mm then aFw (bCh 2 M.1 HB (bCs 2 aB args [])) fun S => aFn (fLen EB) fun nB =>
      (bif Nat.ble D d && bTi X.2.1 X (fun X => bCm S aB EB HB nB args X M) then some (bAp S nB alts W X M k) else bCq d mm args X M k t (some false))
    else bCq d mm args X M k t r
noncomputable def bCc (cons : List bCt) : bCon := fun d mm args X M k => bCq d mm args X M k cons none
variable {L : aLa} {ρ ρ' ρ0 ρe : Nat → Int} {E : aE} {X : aX} {M : bM} {nC nB nE m n0 : Nat} {S : bSu} {f g : aF} {x z : Int} {Kp : pmS → Prop} {σ0 σ σ' : pmS} {ro : Nat → Nat × (Nat → Int32)} {H H1 : bH}
theorem bMe_some : ∀ (t : aE) (w : Nat), bMe E nC S w t = true → ∀ j, j < t.length → ∃ h, bSb nC S (w + j, 0) = some h ∧ h.1 < E.length
  | [], _, _, j, hj => absurd hj (Nat.not_lt_zero _)
  | i0 :: t, w, h, j, hj => by
    unfold bMe at h
    rw [Bool.and_eq_true] at h
    cases j with
    | zero =>
      have h1 := h.1
      split at h1
      · rename_i u hu
        refine ⟨u, hu, ?_⟩
        split at h1
        · rename_i q hq
          exact aItv_lt (by rw [hq]; exact fun e => by cases e)
        · cases h1
      · cases h1
    | succ j =>
      have := bMe_some t (w + 1) h.2 j (by simpa using hj)
      rw [show w + (j + 1) = w + 1 + j by omega]
      exact this
theorem bSb_sh {h : aF} (hs : bSb nC S (f.1, 0) = some h) : ∃ g, bSb nC S f = some g ∧ g.1 = h.1 := by
  unfold bSb at hs ⊢
  cases hb : Nat.blt f.1 nC with
  | true =>
    rw [hb] at hs
    cases hs
    exact ⟨f, rfl, rfl⟩
  | false =>
    rw [hb] at hs
    simp only [cond_false] at hs ⊢
    split at hs
    · rename_i g hg
      cases hs
      exact ⟨_, rfl, rfl⟩
    · cases hs
/-- what the variables at the call are worth behind it -/
def bRx (nB nE : Nat) (ρ ρ' : Nat → Int) (w : Nat) : Int := if w < nE then ρ w else ρ' (nB + (w - nE))
theorem bSt_ok (hm : ∀ w, w < nB → ∃ h, bSb 2 S (w, 0) = some h ∧ h.1 < nE) (hr : aExt nB (bRo 2 S ρ) ρ') (hf : aFok (nB + m) ρ' f z) : aFok (nE + m) (bRx nB nE ρ ρ') (bSt nB nE S f) z := by
  obtain ⟨h1, h2⟩ := hf
  unfold bSt
  cases hb : Nat.blt f.1 nB with
  | true =>
    have hlt := bBlt hb
    obtain ⟨h, e1, e2⟩ := hm _ hlt
    obtain ⟨g, e3, e4⟩ := bSb_sh e1
    simp only [cond_true, e3]
    refine ⟨by omega, ?_⟩
    have e5 := bSb_ok (ρ := ρ) e3
    unfold bRx
    rw [if_pos (by omega), e5, h2, hr _ hlt]
  | false =>
    have hge : ¬ f.1 < nB := fun h => by
      have : Nat.blt f.1 nB = true := Nat.ble_eq_true_of_le h
      rw [this] at hb
      cases hb
    simp only [cond_false]
    refine ⟨?_, ?_⟩
    · show nE + (f.1 - nB) < nE + m
      omega
    · unfold bRx
      show z = (if nE + (f.1 - nB) < nE then ρ (nE + (f.1 - nB)) else ρ' (nB + (nE + (f.1 - nB) - nE))) + f.2
      rw [if_neg (by omega), show nB + (nE + (f.1 - nB) - nE) = f.1 by omega]
      exact h2
theorem bSv_ok {a : bV} {v : Value} (hm : ∀ w, w < nB → ∃ h, bSb 2 S (w, 0) = some h ∧ h.1 < nE) (hr : aExt nB (bRo 2 S ρ) ρ') (h : bVok (nB + m) ρ' a v) : bVok (nE + m) (bRx nB nE ρ ρ') (bSv nB nE S a) v := by
  match a, h with
  | .inl (false, f), h =>
    obtain ⟨x, rfl, hx⟩ := bVok_int h
    exact bSt_ok hm hr hx
  | .inl (true, f), h =>
    obtain ⟨x, rfl, hx⟩ := bVok_long h
    exact bSt_ok hm hr hx
  | .inr ps, h =>
    obtain ⟨q, rfl, hq⟩ := bVok_ref h
    exact hq
theorem bSn_ok {e : bN} (hm : ∀ w, w < nB → ∃ h, bSb 2 S (w, 0) = some h ∧ h.1 < nE) (hr : aExt nB (bRo 2 S ρ) ρ') (h : bEk (nB + m) ρ' e z) : bEk (nE + m) (bRx nB nE ρ ρ') (bSn nB nE S e) z := by
  match e, h with
  | .inl f, h => exact bSt_ok hm hr h
  | .inr l, h => exact h
theorem bFl_lk {β : Type} (P : Nat → Bool) (k : Nat) (l : List (Nat × β)) : fLk (l.filter fun r => P r.1) k = if P k = true then fLk l k else none := by
  rw [fLk_eq, fLk_eq]
  induction l with
  | nil => simp [pmLk]
  | cons a t ih =>
    rw [pmLk_cons]
    by_cases h : P a.1 = true
    · rw [List.filter_cons_of_pos (by exact h), pmLk_cons, ih]
      split
      · rename_i e
        rw [← e, if_pos h]
      · rfl
    · rw [List.filter_cons_of_neg (by exact h), ih]
      by_cases hk : P k = true
      · rw [if_pos hk, if_pos hk, if_neg (fun e => h (by rw [e]; exact hk))]
      · rw [if_neg hk, if_neg hk]
theorem bFl_ok (W : Nat) (H : bH) (p k : Nat) : bEn (bFl W H) p k = if W.testBit (bRg p k) = true then .inr (bGe p k) else bEn H p k := by
  have e : fLk (bFl W H) p = (fLk H p).map fun o => o.filter fun r => !(W.testBit (bRg p r.1)) := by
    unfold bFl
    rw [fLk_eq, fLk_eq]
    induction H with
    | nil => rfl
    | cons a t ih =>
      rw [List.map_cons, pmLk_cons, pmLk_cons, ih]
      split
      · rename_i e
        rw [← e]
        rfl
      · rfl
  unfold bEn
  rw [e]
  cases hp : fLk H p with
  | none => simp
  | some o =>
    simp only [Option.map_some]
    rw [bFl_lk (fun j => !(W.testBit (bRg p j))) k o]
    cases hw : W.testBit (bRg p k) with
    | true => simp
    | false => simp
theorem bPu_ok {p : Nat} : ∀ {o : bO} {H : bH} {K : bH → Bool}, bPu H1 nB nE S p o H K = true → ∃ H', (∀ q j, bEn H' q j = if q = p ∧ (fLk o j).isSome = true then bSn nB nE S (bEn H1 p j) else bEn H q j) ∧ K H' = true
  | [], H, K, h => ⟨H, fun q j => by rw [if_neg (fun c => by cases c.2)], h⟩
  | q0 :: t, H, K, h => by
    unfold bPu at h
    obtain ⟨H', h1, h2⟩ := bPu_ok (o := t) h
    obtain ⟨H'', h3, h4⟩ := bSetO_ok h2
    refine ⟨H'', fun q j => ?_, h4⟩
    rw [h3, h1, fLk_eq, fLk_eq, pmLk_cons]
    by_cases c : q = p
    · subst c
      by_cases cj : q0.1 = j
      · subst cj
        simp
      · rw [if_neg (fun e => cj e.2.symm), if_neg cj]
    · rw [if_neg (fun e => c e.1), if_neg (fun e => c e.1), if_neg (fun e => c e.1)]
theorem bPh_ok : ∀ {T : bH} {H : bH} {K : bH → Bool}, bPh H1 nB nE S T H K = true → ∃ H', (∀ q j, bEn H' q j = bEn H q j ∨ bEn H' q j = bSn nB nE S (bEn H1 q j)) ∧ (∀ q j o, fLk T q = some o → (fLk o j).isSome = true → bEn H' q j = bSn nB nE S (bEn H1 q j)) ∧ K H' = true
  | [], H, K, h => ⟨H, fun q j => Or.inl rfl, fun q j o e => (by cases e), h⟩
  | q0 :: t, H, K, h => by
    unfold bPh at h
    obtain ⟨H', h1, h2, h3⟩ := bPh_ok (T := t) h
    obtain ⟨H'', h4, h5⟩ := bPu_ok h3
    refine ⟨H'', fun q j => ?_, fun q j o ho hj => ?_, h5⟩
    · rw [h4]
      split
      · rename_i c
        rw [c.1]
        exact Or.inr rfl
      · exact h1 q j
    · rw [h4]
      rw [fLk_eq, pmLk_cons] at ho
      split at ho
      · rename_i e
        cases ho
        rw [← e, if_pos ⟨rfl, hj⟩]
      · rename_i e
        rw [if_neg (fun c => e c.1.symm)]
        exact h2 q j o (by rw [fLk_eq]; exact ho) hj
theorem bEn_def (H : bH) (p k : Nat) : (∃ o, fLk H p = some o ∧ (fLk o k).isSome = true) ∨ bEn H p k = .inr (bGe p k) := by
  unfold bEn
  cases hp : fLk H p with
  | none => exact Or.inr rfl
  | some o =>
    cases hk : fLk o k with
    | none => right; simp only [hk]
    | some e => exact Or.inl ⟨o, rfl, by rw [hk]; rfl⟩
theorem bSame.zz {p k : Nat} (h : bSame σ σ' p k) : bZ σ p k = bZ σ' p k := by
  unfold bZ
  rw [h.1, h.2]
theorem bFs_ok {W : Nat} {R : bS} (hE : aEok L ρ E) (h : bSk E.length ρ R (bZ σ)) (hs : ∀ p k, W.testBit (bRg p k) = false → bSame σ' σ p k) : bSk E.length ρ (bFs E W R) (bZ σ') := by
  intro q hq
  unfold bFs at hq
  rw [List.mem_filter, Bool.or_eq_true, Bool.and_eq_true] at hq
  obtain ⟨h1, h2⟩ := hq
  obtain ⟨h4, h5⟩ := h q h1
  refine ⟨h4, fun h0 => ?_⟩
  rcases h2 with ⟨h2, h3⟩ | h2
  · rw [(hs q.1 _ (by rw [bRg_sing h2 _ 0]; simpa using h3)).zz]
    exact h5 h0
  · split at h2
    · rename_i i hi
      rw [zLe_eq, zLe_eq, Bool.and_eq_true, Bool.and_eq_true, decide_eq_true_eq, decide_eq_true_eq] at h2
      obtain ⟨g1, g2, g3⟩ := h2
      have a := aItv_ok (z := ρ q.2.1.1 + q.2.1.2) hE ⟨h4, rfl⟩ hi
      have hb := bRm_ok q.1 i.1.toNat (i.2 - i.1).toNat (ρ q.2.1.1 + q.2.1.2).toNat (by omega) (by omega)
      have e : W &&& bRm q.1 i.1.toNat (i.2 - i.1).toNat = 0 := Nat.eq_of_beq_eq_true g3
      have hw : W.testBit (bRg q.1 (ρ q.2.1.1 + q.2.1.2).toNat) = false := by
        have : (W &&& bRm q.1 i.1.toNat (i.2 - i.1).toNat).testBit (bRg q.1 (ρ q.2.1.1 + q.2.1.2).toNat) = false := by rw [e]; exact Nat.zero_testBit _
        rw [Nat.testBit_and, hb, Bool.and_true] at this
        exact this
      rw [(hs q.1 _ hw).zz]
      exact h5 h0
    · cases h2
theorem bRok_map {r : Option bV} {v : Option Value} (hm : ∀ w, w < nB → ∃ h, bSb 2 S (w, 0) = some h ∧ h.1 < nE) (hr : aExt nB (bRo 2 S ρ) ρ') (h : bRok (nB + m) ρ' r v) : bRok (nE + m) (bRx nB nE ρ ρ') (r.map (bSv nB nE S)) v := by
  match r, v, h with
  | none, none, _ => trivial
  | some a, some v, h => exact bSv_ok hm hr h
theorem bNw_ok {k : aX → Bool} (hr : ∀ w, w < nB → ρ' w = bRo 2 S ρ w) : ∀ (t : aE) (w : Nat) (X : aX), (∀ w, w < nB → ∃ h, bSb 2 S (w, 0) = some h ∧ h.1 < X.1.length) → aXok L ρ X → (∀ j i, t[j]? = some i → i.1 ≤ ρ' (w + j) ∧ ρ' (w + j) ≤ i.2) → bNw nB S w t X k = true → aGx L X ρ k
  | [], w, X, _, hX, _, h => aGx.same hX h
  | i :: t, w, X, hm, hX, ht, h => by
    unfold bNw at h
    have ht' : ∀ j i, t[j]? = some i → i.1 ≤ ρ' (w + 1 + j) ∧ ρ' (w + 1 + j) ≤ i.2 := fun j i hj => by
      have := ht (j + 1) i hj
      rwa [show w + (j + 1) = w + 1 + j by omega] at this
    have h0 := ht 0 i rfl
    rw [Nat.add_zero] at h0
    cases hb : Nat.blt w nB with
    | false =>
      rw [hb] at h
      exact aGx.same hX h
    | true =>
      rw [hb] at h
      have hwn := bBlt hb
      simp only [cond_true] at h
      cases hb2 : Nat.blt w 2 with
      | true =>
        rw [hb2] at h
        exact bNw_ok hr t (w + 1) X hm hX ht' h
      | false =>
        rw [hb2] at h
        simp only [cond_false] at h
        split at h
        · rename_i g hg
          obtain ⟨u, e1, e2⟩ := hm w hwn
          have e3 := bSb_ok (ρ := ρ) e1
          unfold bSb at e1
          rw [hb2] at e1
          simp only [cond_false, hg, Option.some.injEq] at e1
          rw [zAdd_eq, Int.add_zero] at e1
          have e1 : g = u := e1
          subst e1
          have e4 := hr w hwn
          have e3 : ρ g.1 + g.2 = bRo 2 S ρ w + 0 := e3
          have hf : aFok X.1.length ρ g (ρ g.1 + g.2) := ⟨e2, rfl⟩
          obtain ⟨Y, y1, y2, y3⟩ := aLe_ok hX (aFok.c0 hX.1) hf (d := 0) (x := i.1) (by omega) h
          have hf2 : aFok Y.1.length ρ g (ρ g.1 + g.2) := by rw [y1]; exact hf
          obtain ⟨Z, z1, z2, z3⟩ := aLe_ok y2 hf2 (aFok.c0 y2.1) (d := 0) (y := i.2) (by omega) y3
          exact ((bNw_ok hr t (w + 1) Z (by rw [z1, y1]; exact hm) z2 ht' z3).tr z1).tr y1
        · cases h
theorem bCc_ok {cons : List bCt} (hc : ∀ c ∈ cons, bCok ro L Kp c) : bConOk ro L Kp σ0 (bCc cons) := by
  intro d mm args X M k ρ vs σ Q hh hX hM hs hk
  unfold bCc at hh
  have key : ∀ (l : List bCt) (r : Option Bool), (∀ c ∈ l, bCok ro L Kp c) → r ≠ some true → bCq d mm args X M k l r = some true → pmCs ro d mm vs σ Q := by
    intro l
    induction l with
    | nil =>
      intro r _ hr h
      exact absurd h hr
    | cons c t ih =>
      intro r hc hr h
      obtain ⟨m0, aB, EB, HB, alts, W, D⟩ := c
      unfold bCq at h
      cases hb : Nat.beq m0 mm with
      | false =>
        rw [hb] at h
        exact ih r (fun c hc' => hc c (List.mem_cons_of_mem _ hc')) hr h
      | true =>
        rw [hb] at h
        simp only [cond_true, aFw_eq, aFn_eq, fLen_eq] at h
        cases hq : (Nat.ble D d && bTi X.2.1 X (fun X => bCm (bCh 2 M.1 HB (bCs 2 aB args [])) aB EB HB EB.length args X M)) with
        | false =>
          rw [hq] at h
          exact ih (some false) (fun c hc' => hc c (List.mem_cons_of_mem _ hc')) (fun e => by cases e) h
        | true =>
          rw [hq] at h
          simp only [cond_true, Option.some.injEq] at h
          generalize bCh 2 M.1 HB (bCs 2 aB args []) = S at h hq
          rw [Bool.and_eq_true] at hq
          obtain ⟨hD, hq⟩ := hq
          obtain ⟨X0, x1, hX0, hq⟩ := bTi_ok X.2.1 X hX hX.2.1 hq
          unfold bCm at hq
          simp only [Bool.and_eq_true] at hq
          obtain ⟨q1, q2, q3, q4, q5⟩ := hq
          have q1 := Nat.le_of_ble_eq_true q1
          have hmm := Nat.eq_of_beq_eq_true hb
          subst hmm
          have hE := hX.1
          have hE0 := hX0.1
          have hme := bMe_some EB 0 q3
          rw [x1] at hme
          have hme : ∀ w, w < EB.length → ∃ h, bSb 2 S (w, 0) = some h ∧ h.1 < X.1.length := fun w hw => by
            have := hme w hw
            rwa [Nat.zero_add] at this
          have hok := hc _ List.mem_cons_self (bRo 2 S ρ) vs σ (bMe_env hE0 (Nat.le_refl 2) (by omega) q3) ⟨hM.1, bMh_ok hE0 q4 (by rw [x1]; exact hM.2.1), fun q hq => absurd hq List.not_mem_nil, fun p k _ => ⟨rfl, rfl⟩, fun _ => hM.2.2.2.2 q5⟩ (bMs_ok hE0 q2 (by rw [x1]; exact hs))
          refine pmCs_deep (pmCs_mono hok ?_) (Nat.le_of_ble_eq_true hD)
          rintro v σ' ⟨al, ham, ρ', a1, a0, a2, a3, a4⟩
          unfold bAp at h
          simp only [aFw_eq, aFn_eq, fLen_eq] at h
          have h := List.all_eq_true.mp h al ham
          obtain ⟨Y, y1, hY, h⟩ := bNw_ok (L := L) (ρ := ρ) (ρ' := ρ') a1 al.2.1 0 X hme hX (fun j i hj => by rw [Nat.zero_add]; exact a2.2 j i hj) h
          obtain ⟨H', b1, b2, b3⟩ := bPh_ok h
          have hsm : ∀ p k, W.testBit (bRg p k) = false → bSame σ' σ p k := a4.2.2.2.1
          have hext : aExt X.1.length ρ (bRx EB.length X.1.length ρ ρ') := fun v hv => by unfold bRx; rw [if_pos hv]
          have hlen : (Y.1 ++ al.2.1.drop EB.length).length = X.1.length + (al.2.1.length - EB.length) := by rw [List.length_append, List.length_drop, y1]
          have hal : al.2.1.length = EB.length + (al.2.1.length - EB.length) := by omega
          rw [hal] at a3 a4
          have hXl : 1 < X.1.length := hE.1.2.2
          refine hk _ _ _ (bRx EB.length X.1.length ρ ρ') v σ' (by rw [hlen]; omega) hext (hY.ext (by rw [hlen, y1]; omega) (by rw [y1]; exact hext) ⟨⟨?_, ?_, by rw [hlen]; omega⟩, fun w i hw => ?_⟩) ⟨a4.1, fun p k => ?_, ?_, fun p k hp => ?_, fun hw => ?_⟩ ?_ b3
          · rw [hext 0 (by omega)]; exact hE.1.1
          · rw [hext 1 (by omega)]; exact hE.1.2.1
          · rcases Nat.lt_or_ge w X.1.length with hl | hl
            · rw [List.getElem?_append_left (by rw [y1]; exact hl)] at hw
              rw [hext w hl]
              exact hY.1.2 w i hw
            · rw [List.getElem?_append_right (by rw [y1]; exact hl), y1, List.getElem?_drop] at hw
              have := a2.2 _ i hw
              unfold bRx
              rw [if_neg (by omega)]
              exact this
          · rw [hlen]
            have hz := a4.2.1 p k
            have hsub : bEk (X.1.length + (al.2.1.length - EB.length)) (bRx EB.length X.1.length ρ ρ') (bSn EB.length X.1.length S (bEn al.2.2 p k)) (bZ σ' p k) := bSn_ok hme a1 hz
            rcases bEn_def al.2.2 p k with ⟨o, ho, hj⟩ | hdef
            · rw [b2 p k o ho hj]
              exact hsub
            · rcases b1 p k with e | e
              · rw [e, bFl_ok]
                split
                · rw [hdef] at hz
                  exact hz
                · rename_i hw
                  rw [(hsm p k (by simpa using hw)).zz]
                  exact (hM.2.1 p k).ext (by omega) hext
              · rw [e]
                exact hsub
          · rw [hlen]
            exact (bFs_ok hX.1 hM.2.2.1 hsm).ext (by omega) hext
          · have hp : (M.2.2 ||| W).testBit (bRg p k) = false := hp
            rw [Nat.testBit_or, Bool.or_eq_false_iff] at hp
            obtain ⟨s1, s2⟩ := hsm p k hp.2
            obtain ⟨s3, s4⟩ := hM.2.2.2.1 p k hp.1
            exact ⟨s1.trans s3, s2.trans s4⟩
          · exact a4.2.2.2.2 (bFg_lor (w := M.2.2) (m := W) hw).2
          · rw [hlen]
            exact bRok_map hme a1 a3
  exact key cons none hc (fun e => by cases e) hh
end
end
section
/-! a contract is checked: from the entry and from each node -/
section
abbrev bFq : Type := Nat × Nat × bL × List bV
/-- depth, method, place, locals, stack, frames, (environment, differences), (heap, regions), rank -/
abbrev bNq : Type := Nat × Nat × Nat × bL × List bV × List bFq × (aE × aC) × (bH × Nat) × bLn
noncomputable def bMk (spl : Nat → aSs) (m : Nat) : aK := match pmAll[m]? with
  | some q => (q.1.2.2.1.1, m, pmRk q.1.2.2.1.2.2.2 q.1.2.2.2.1, q.2, spl m)
  | none => (0, m, 0, [], [])
noncomputable def bMq (spl : Nat → aSs) (f : bFq) : bFr := (bMk spl f.1, f.2)
noncomputable def bMd (spl : Nat → aSs) (r : bNq) : bNd := (r.1, bMk spl r.2.1, r.2.2.1, r.2.2.2.1, r.2.2.2.2.1, r.2.2.2.2.2.1.map (bMq spl), r.2.2.2.2.2.2)
noncomputable def bNg (spl : Nat → aSs) (nC : Nat) (rk : Option bLn) (raws : List bNq) : bNod := fun d K pc pl st fs X M =>
  bif raws.any fun r => Nat.beq r.2.2.1 pc && (Nat.beq r.2.1 K.2.1 && bNk d K pc fs (bMd spl r)) then some (raws.any fun r => Nat.beq r.2.2.1 pc && (Nat.beq r.2.1 K.2.1 && (bNk d K pc fs (bMd spl r) && bNm1 nC rk (bMd spl r) pl st fs X M))) else none
noncomputable def bCr (nC : Nat) (a b : Option bV) : bSu := match a, b with
  | some a, some b => bCvs nC a b []
  | _, _ => []
noncomputable def bFi (nC : Nat) (alts : List bAl) (W : Nat) : Option bV → aX → bM → Bool := fun r X M => bTi X.2.1 X fun X => alts.any fun al => aFw (bCh nC M.1 al.2.2 (bCr nC al.1 r)) fun S => aFn (fLen al.2.1) fun nB => Nat.ble nC nB && ((match al.1, r with
    | none, none => true
    | some a, some b => bMv X.1 nC nB S a b
    | _, _ => false) && (bMe X.1 nC S 0 al.2.1 && (bMh X.1 nC nB S al.2.2 M.1 && Nat.beq (Nat.lor M.2.2 W) W)))
noncomputable def bIs (m : Nat) : Bool := match pmAll[m]? with
  | some _ => true
  | none => false
noncomputable def bNc (spl : Nat → aSs) (con : bCon) (fin : Option bV → aX → bM → Bool) (fuel nC : Nat) (raws : List bNq) (r : bNq) : Bool := match r with
  | (d, m, pc, pl, st, fs, (E, C), (H, W), rk) => bIs m && (fs.all (fun f => bIs f.1) && (aFn (fLen E) fun n => Nat.ble nC n && (Nat.blt 1 n && (bRz E rk && (rk.2.all (fun q => Nat.blt q.1 n) && bGo spl (bNg spl nC (some rk) raws) con fin fuel d true (bMk spl m) pc pl st (fs.map (bMq spl)) (E, C, []) (H, [], W))))))
noncomputable def bEt (spl : Nat → aSs) (go : bRec) (d mm : Nat) (args : List bV) (X : aX) (M : bM) : Bool := match d, pmAll[mm]? with
  | d + 1, some q => bif decide ((bPl args).length ≤ q.1.2.2.1.2.2.1) && (decide (q.1.2.2.1.2.2.1 ≤ 40) && (decide (q.1.2.2.2.1 < 3) && bEl mm (bPl args))) then
      aFl (bPl args ++ List.replicate (q.1.2.2.1.2.2.1 - (bPl args).length) none) fun cl => aFn q.1.2.2.1.1 fun oo => aFn (pmRk q.1.2.2.1.2.2.2 q.1.2.2.2.1) fun rk => aFw (spl mm) fun sp => go d false (oo, mm, rk, q.2, sp) 0 cl [] [] X M else false
  | _, _ => false
noncomputable def bCk (spl : Nat → aSs) (con : bCon) (fuel : Nat) (raws : List bNq) (c : bCt) : Bool := match c with
  | (mm, aB, E0, H0, alts, W, D) => aFn (fLen E0) fun nC => Nat.ble 2 nC && (raws.all (bNc spl con (bFi nC alts W) fuel nC raws) && bEt spl (bGo spl (bNg spl nC none raws) con (bFi nC alts W) fuel) D mm aB (E0, [], []) (H0, [], 0))
variable {L : aLa} {Ln : Nat} {xs : Nat → Int32} {ρ ρ' ρ0 ρe : Nat → Int} {E E0 : aE} {X : aX} {M : bM} {nC nB nE m n0 d mm : Nat} {S : bSu} {f g : aF} {x z : Int} {Kp : pmS → Prop} {σ0 σ σ' : pmS} {ro : Nat → Nat × (Nat → Int32)} {spl : Nat → aSs} {con : bCon}
theorem bIs_ok (h : bIs m = true) : aKok (bMk spl m) := by
  unfold bIs at h
  unfold bMk
  split at h
  · rename_i q hq
    exact ⟨q.1, hq⟩
  · cases h
theorem bNg_ok {raws : List bNq} {rk : Option bLn} {Q0 : Option Value → pmS → Prop} (h : bNodOk ro L n0 ρ0 Kp σ0 (bNh nC rk (raws.map (bMd spl))) Q0) : bNodOk ro L n0 ρ0 Kp σ0 (bNg spl nC rk raws) Q0 := by
  intro d K pc pl st fs X M ρ cl cs cfs σ hh
  refine h d K pc pl st fs X M ρ cl cs cfs σ ?_
  unfold bNg at hh
  unfold bNh
  cases hc : raws.any fun r => Nat.beq r.2.2.1 pc && (Nat.beq r.2.1 K.2.1 && bNk d K pc fs (bMd spl r)) with
  | false => rw [hc] at hh; cases hh
  | true =>
    rw [hc] at hh
    simp only [cond_true, Option.some.injEq] at hh
    obtain ⟨r, hr, hh⟩ := List.any_eq_true.mp hh
    simp only [Bool.and_eq_true] at hh
    have h1 : (raws.map (bMd spl)).any (bNk d K pc fs) = true := List.any_eq_true.mpr ⟨_, List.mem_map_of_mem hr, hh.2.2.1⟩
    rw [h1]
    simp only [cond_true, Option.some.injEq]
    exact List.any_eq_true.mpr ⟨_, List.mem_map_of_mem hr, by rw [Bool.and_eq_true]; exact hh.2.2⟩
theorem bFi_ok {alts : List bAl} {W : Nat} (hC : 2 ≤ nC) (hE0 : E0.length = nC) (hn : nC ≤ n0) (he : aExt nC ρe ρ0) : bFinOk L n0 ρ0 Kp σ0 (bFi nC alts W) fun v σ' => ∃ al ∈ alts, bAlOk L ρe E0 Kp σ0 W al v σ' := by
  intro r X M ρ v σ h hA hr
  obtain ⟨hX, hM, hn0, he0⟩ := hA
  unfold bFi at h
  obtain ⟨Y, y1, hX, h2⟩ := bTi_ok X.2.1 X hX hX.2.1 h
  clear h
  have h := h2
  clear h2
  rw [← y1] at hM hn0 hr
  have hE := hX.1
  obtain ⟨al, hm, h2⟩ := List.any_eq_true.mp h
  clear h
  have h := h2
  clear h2
  simp only [aFw_eq, aFn_eq, fLen_eq, Bool.and_eq_true] at h
  obtain ⟨h0, h1, h2, h3, h4⟩ := h
  have h0 := Nat.le_of_ble_eq_true h0
  generalize bCh nC M.1 al.2.2 (bCr nC al.1 r) = S at h1 h2 h3
  have hl : 1 < al.2.1.length := by omega
  refine ⟨al, hm, bRo nC _ ρ, fun w hw => ?_, by omega, bMe_env hE hC hl h2, ?_, hM.1, bMh_ok hE h3 hM.2.1, fun q hq => absurd hq List.not_mem_nil, fun p k hp => ?_, fun hw => hM.2.2.2.2 (bFg_lor (m := W) (by rw [show Nat.lor M.2.2 W = W from Nat.eq_of_beq_eq_true h4]; exact hw)).1⟩
  · rw [hE0] at hw
    rw [bRo_lt hw, he0 w (by omega), he w hw]
  · split at h1
    · rename_i e1
      rw [e1]
      match v, hr with
      | none, _ => trivial
    · rename_i a b e1
      rw [e1]
      match v, hr with
      | some v, hr => exact bMv_ok hE h1 hr
    · cases h1
  · refine hM.2.2.2.1 p k ?_
    have e : M.2.2 ||| W = W := Nat.eq_of_beq_eq_true h4
    have hp : W.testBit (bRg p k) = false := hp
    rw [← e, Nat.testBit_or, Bool.or_eq_false_iff] at hp
    exact hp.1
theorem bNds_ok {fuel : Nat} {raws : List bNq} {fin : Option bV → aX → bM → Bool} {Q0 : Option Value → pmS → Prop} (hKp : bKfr Kp) (hro : ro = pmRo Ln xs) (hL : L = ((Ln : Int), xs)) (hLn : Ln ≤ 3072) (hcon : ∀ σ0, bConOk ro L Kp σ0 con) (hC : 2 ≤ nC) (hfin : ∀ n0 ρ0, nC ≤ n0 → aExt nC ρe ρ0 → bFinOk L n0 ρ0 Kp σ0 fin Q0) (h : raws.all (bNc spl con fin fuel nC raws) = true) :
    (∀ nd ∈ raws.map (bMd spl), bNdK nd) ∧ ∀ (n : Nat) (nd : bNd), nd ∈ raws.map (bMd spl) → bNdP ro L nC ρe Kp σ0 Q0 n nd := by
  have hall := List.all_eq_true.mp h
  have hkey : ∀ nd ∈ raws.map (bMd spl), bNdK nd := by
    intro nd hnd
    obtain ⟨r, hr, rfl⟩ := List.mem_map.mp hnd
    have h := hall r hr
    obtain ⟨d, m, pc, pl, st, fs, ⟨E, C⟩, ⟨H, W⟩, rk⟩ := r
    unfold bNc at h
    simp only [aFn_eq, fLen_eq, Bool.and_eq_true] at h
    obtain ⟨h1, h2, h3, h4, -⟩ := h
    refine ⟨bIs_ok h1, fun f hf => ?_, bBlt h4⟩
    obtain ⟨f0, hf0, rfl⟩ := List.mem_map.mp hf
    exact bIs_ok (List.all_eq_true.mp h2 f0 hf0)
  refine ⟨hkey, ?_⟩
  intro n
  induction n with
  | zero =>
    intro nd hnd ρ cl cs cfs σ hA hl hs hfs hb
    exfalso
    obtain ⟨r, hr, rfl⟩ := List.mem_map.mp hnd
    have h := hall r hr
    obtain ⟨d, m, pc, pl, st, fs, ⟨E, C⟩, ⟨H, W⟩, rk⟩ := r
    unfold bNc at h
    simp only [aFn_eq, fLen_eq, Bool.and_eq_true] at h
    obtain ⟨-, -, -, -, h5, -⟩ := h
    have := bRz_ok hA.1.1 h5
    change bRv ρ rk < 0 at hb
    omega
  | succ n ih =>
    intro nd hnd ρ cl cs cfs σ hA hl hs hfs hb
    obtain ⟨r, hr, rfl⟩ := List.mem_map.mp hnd
    have h := hall r hr
    obtain ⟨d, m, pc, pl, st, fs, ⟨E, C⟩, ⟨H, W⟩, rk⟩ := r
    unfold bNc at h
    simp only [aFn_eq, fLen_eq, Bool.and_eq_true] at h
    obtain ⟨h1, h2, h3, h4, h5, h6, h7⟩ := h
    have h3 := Nat.le_of_ble_eq_true h3
    change bAllK L nC ρe ρ Kp σ0 (E, C, []) (H, [], W) σ at hA
    refine bGo_ok (n0 := E.length) (ρ0 := ρ) hKp hro hL hLn (hfin _ _ h3 hA.2.2.2) (bNg_ok (bNh_ok (nC := nC) (ρe := ρe) (b := n) hC hkey h3 hA.2.2.2 ?_ ?_)) (hcon σ0) fuel d true (bMk spl m) pc pl st (fs.map (bMq spl)) (E, C, []) (H, [], W) ρ cl cs cfs σ h7 (bIs_ok h1) ⟨hA.1, hA.2.1, Nat.le_refl _, aExt.rf⟩ hl hs hfs
    · intro rA ρ2 e hx
      cases e
      have hv : ∀ l : List (Nat × Int), (l.all fun q => Nat.blt q.1 E.length) = true → bLv ρ2 l = bLv ρ l := by
        intro l
        induction l with
        | nil => intro _; rfl
        | cons q t iht =>
          intro ha
          rw [List.all_cons, Bool.and_eq_true] at ha
          show q.2 * ρ2 q.1 + bLv ρ2 t = q.2 * ρ q.1 + bLv ρ t
          rw [iht ha.2, hx q.1 (bBlt ha.1)]
      have e2 : bRv ρ2 rk = bRv ρ rk := by
        unfold bRv
        rw [hv _ h6]
      rw [e2]
      change bRv ρ rk < ((n + 1 : Nat) : Int) at hb
      omega
    · intro nd hnd
      exact ⟨fun e => (by cases e), ih nd hnd⟩
theorem bCk_ok {fuel : Nat} {raws : List bNq} {c : bCt} (hKp : bKfr Kp) (hro : ro = pmRo Ln xs) (hL : L = ((Ln : Int), xs)) (hLn : Ln ≤ 3072) (hcon : ∀ σ0, bConOk ro L Kp σ0 con) (h : bCk spl con fuel raws c = true) : bCok ro L Kp c := by
  obtain ⟨mm, aB, E0, H0, alts, W, D⟩ := c
  intro ρ vs σ hE hM hs
  unfold bCk at h
  simp only [aFn_eq, fLen_eq, Bool.and_eq_true] at h
  obtain ⟨h1, h2, h3⟩ := h
  have h1 := Nat.le_of_ble_eq_true h1
  have hfin : ∀ n0 ρ0, E0.length ≤ n0 → aExt E0.length ρ ρ0 → bFinOk L n0 ρ0 Kp σ (bFi E0.length alts W) fun v σ' => ∃ al ∈ alts, bAlOk L ρ E0 Kp σ W al v σ' := fun n0 ρ0 hn he => bFi_ok h1 rfl hn he
  obtain ⟨k1, k2⟩ := bNds_ok (σ0 := σ) hKp hro hL hLn hcon h1 hfin h2
  have k3 : ∀ (b : Int) (nd : bNd), nd ∈ raws.map (bMd spl) → bNdP ro L E0.length ρ Kp σ (fun v σ' => ∃ al ∈ alts, bAlOk L ρ E0 Kp σ W al v σ') b nd := fun b nd hnd ρ' cl cs cfs σ' a1 a2 a3 a4 a5 => k2 b.toNat nd hnd ρ' cl cs cfs σ' a1 a2 a3 a4 (by omega)
  unfold bEt at h3
  split at h3
  · rename_i d' q hq
    obtain ⟨⟨y, bb, ⟨oo, nn, mx, rr⟩, ⟨kind, ev⟩⟩, code⟩ := q
    obtain ⟨hc2, h⟩ := aBif h3
    simp only [Bool.and_eq_true, decide_eq_true_eq] at hc2
    obtain ⟨z1, z2, z3, z4⟩ := hc2
    simp only [aFl_eq, aFn_eq, aFw_eq] at h
    rw [bPl_len hs] at z1 h
    have z5 : pmEl mm (pmPl vs) = true := (bEl_ok (mm := mm) (bPl aB) (pmPl vs) 0 (bPl_cat hs)).symm.trans z4
    refine (pmCs_go (aInf_ok hq) ⟨z1, z2, z3, z5⟩).mpr ?_
    exact bGo_ok (n0 := E0.length) (ρ0 := ρ) hKp hro hL hLn (hfin _ _ (Nat.le_refl _) aExt.rf) (bNg_ok (bNh_ok (nC := E0.length) (ρe := ρ) (b := 0) h1 k1 (Nat.le_refl _) aExt.rf (rk := none) (fun rA ρ2 e => by cases e) (fun nd hnd => ⟨fun _ b => k3 b nd hnd, k3 0 nd hnd⟩))) (hcon σ) fuel d' false (oo, mm, pmRk rr kind, code, spl mm) 0 _ [] [] (E0, [], []) (H0, [], 0) ρ _ [] [] σ h ⟨_, hq⟩ ⟨⟨hE, ⟨fun q hq => absurd hq List.not_mem_nil, fun q hq => absurd hq List.not_mem_nil⟩⟩, hM, Nat.le_refl _, aExt.rf⟩ (bLok_app (bPl_ok hs) (bLok_rep _)) trivial trivial
  · cases h3
end
end
section
/-! where a local is told apart by its values (printed by emit.py) -/
section
noncomputable def bSpT : List (Nat × aSs) := [(20, [(0, [(1, .negSucc 2147483637, 0)])]), (25, [(0, [(1, .ofNat 1, 3), (3, .ofNat 0, 5)])]), (110, [(0, [(1, .ofNat 0, 3)])]), (115, [(0, [(1, .ofNat 1, 2)])]), (134, [(0, [(1, .negSucc 2147483637, 0)])]), (141, [(0, [(1, .negSucc 2147483637, 0)])]), (144, [(0, [(0, .ofNat 0, 128)])]), (145, [(0, [(1, .ofNat 1, 3), (3, .ofNat 0, 5), (4, .negSucc 2147483637, 0)])]), (177, [(0, [(0, .ofNat 1, 127)])]), (179, [(0, [(1, .ofNat 1, 3)])]), (181, [(2, [(2, .ofNat 4, 0), (2, .ofNat 9, 0), (2, .ofNat 14, 0), (2, .ofNat 19, 0), (2, .ofNat 23, 0), (2, .ofNat 28, 0), (2, .ofNat 32, 0), (2, .ofNat 37, 0), (2, .ofNat 41, 0), (2, .ofNat 114, 0), (2, .ofNat 115, 0), (2, .ofNat 116, 0)])]), (182, [(0, [(1, .ofNat 1, 3), (3, .ofNat 0, 5)])]), (183, [(0, [(1, .ofNat 1, 3)])]), (186, [(0, [(1, .ofNat 1, 3)])]), (189, [(0, [(1, .ofNat 1, 3)])]), (197, [(0, [(1, .ofNat 1, 3)])]), (206, [(0, [(1, .ofNat 0, 4), (2, .ofNat 41, 20)])]), (207, [(0, [(1, .ofNat 0, 4)])]), (208, [(2, [(3, .ofNat 0, 4)])]), (209, [(0, [(1, .ofNat 0, 4), (2, .ofNat 41, 20)])]), (211, [(0, [(1, .ofNat 0, 4), (2, .ofNat 0, 4)])]), (223, [(0, [(1, .ofNat 0, 3)])]), (227, [(2, [(2, .ofNat 4, 0), (2, .ofNat 9, 0), (2, .ofNat 14, 0), (2, .ofNat 19, 0), (2, .ofNat 23, 0), (2, .ofNat 28, 0), (2, .ofNat 32, 0), (2, .ofNat 37, 0), (2, .ofNat 41, 0), (2, .ofNat 114, 0), (2, .ofNat 115, 0), (2, .ofNat 116, 0)])]), (231, [(0, [(1, .ofNat 1, 2)])])]
noncomputable def bSp (m : Nat) : aSs := match fLk bSpT m with
  | some s => s
  | none => []
end
end
