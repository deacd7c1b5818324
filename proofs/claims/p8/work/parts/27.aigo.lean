section
/-! the abstract machine's runs: every way is followed; calls go in -/
section
abbrev aSs : Type := List (Nat × List (Nat × Int × Nat))
/-- owner, method, kind of its end, code, where its locals are told apart -/
abbrev aK : Type := Nat × Nat × Nat × List (List (Nat × Instr)) × aSs
abbrev aFr : Type := aK × Nat × aL × List aV
noncomputable def aCode (c : List (List (Nat × Instr))) (pc : Nat) : Option Instr := match fGet c (Nat.div pc 32) with
  | some l => fLk l pc
  | none => none
noncomputable def aPl (as : List aV) : aL := as.flatMap fun a => if aCat a = 2 then [some a, none] else [some a]
noncomputable def aEl (m : Nat) (pl : aL) : Bool := pl.zipIdx.all fun q => match q.1 with
  | some w => !(aCat w == 2) || pmLg m q.2
  | none => true
noncomputable def aCal (o : Nat) : Instr → Option (Nat × Nat)
  | .invokestatic j => (match pmM o j with
    | some (mm, _, _) => bif Nat.ble 9000 mm then none else some (mm, 1)
    | none => none)
  | .invokevirtual j => (match pmM o j with
    | some (mm, _, _) => some (mm, 0)
    | none => none)
  | .invokespecial j => (match pmM o j with
    | some (mm, _, _) => bif Nat.ble 9000 mm then none else some (mm, 2)
    | none => none)
  | _ => none
/-- what an instruction is: a step; a call (0), an end (1) -/
noncomputable def aTr (o : Nat) (i : Instr) : Option (aIf1 ⊕ (Nat × Nat × Nat)) := match aCal o i with
  | some (mm, kd) => some (.inr (0, mm, kd))
  | none => (match i with
    | .ireturn => some (.inr (1, 0, 0))
    | .lreturn => some (.inr (1, 0, 0))
    | .return_ => some (.inr (1, 0, 0))
    | _ => (match aDis i with
      | some f => some (.inl f)
      | none => none))
noncomputable def aArgs (kd n oo : Nat) (Z : aT2 pmZ) (st : List aV) : Option (List aV × List aV) :=
  bif Nat.beq kd 1 then (if n ≤ st.length then some ((st.take n).reverse, st.drop n) else none)
  else match st.drop n with
    | .inr p :: rest => (bif Nat.beq kd 0 then (match fG2 Z p with
        | some (c, _, _) => bif Nat.beq c oo then some (.inr p :: (st.take n).reverse, rest) else none
        | none => none) else some (.inr p :: (st.take n).reverse, rest))
    | _ => none
noncomputable def aRet (rt : Nat) (i : Instr) (st : List aV) (X : aX) : Option (Option aV) := match i with
  | .ireturn => (match st with
    | [.inl (false, f)] => if rt = 1 then some (some (.inl (false, f))) else if rt = 2 then (match aItv X.1 f with
      | some i => bif zLe 0 i.1 && zLe i.2 1 then some (some (.inl (false, f))) else none
      | none => none) else none
    | _ => none)
  | .lreturn => (match st with
    | [.inl (true, f)] => if rt = 3 then some (some (.inl (true, f))) else none
    | _ => none)
  | .return_ => (match st with
    | [] => if rt = 0 ∨ rt = 4 then some none else none
    | _ => none)
  | _ => none
noncomputable def aFork (f : aF) : Nat → Int → aX → (aX → Bool) → Bool
  | 0, lo, X, k => aLe X (0, lo) f 0 k
  | n + 1, lo, X, k => aEq X f (0, lo) k && aFz (lo + 1) fun lo => aLe X (0, lo) f 0 fun X => aFork f n lo X k
noncomputable def aSpl (pl : aL) : List (Nat × Int × Nat) → aX → (aX → Bool) → Bool
  | [], X, k => k X
  | q :: t, X, k => match fGet pl q.1 with
    | some (some (.inl (_, f))) => aLe X f (0, q.2.1) 1 (fun X => aSpl pl t X k) && aLe X (0, q.2.1) f 0 fun X => aFork f q.2.2 q.2.1 X fun X => aSpl pl t X k
    | _ => false
abbrev aNod : Type := Nat → aK → Nat → aL → List aV → List aFr → aX → aM → Option Bool
abbrev aCon : Type := Nat → Nat → List aV → aX → aM → (Option aV → aX → aM → Bool) → Option Bool
noncomputable def aGo (spl : Nat → aSs) (nod : aNod) (con : aCon) (fin : Option aV → aX → aM → Bool) : Nat → Nat → Bool → aK → Nat → aL → List aV → List aFr → aX → aM → Bool
  | 0, _, _, _, _, _, _, _, _, _ => false
  | n + 1, d, fst, K, pc, pl, st, fs, X, M => aFn pc fun pc => aNm X M fun X M => match (bif fst then none else nod d K pc pl st fs X M) with
    | some b => b
    | none => (match aCode K.2.2.2.1 pc with
      | none => false
      | some i => aSpl pl ((fLk K.2.2.2.2 pc).getD []) X fun X => match aTr K.1 i with
        | none => false
        | some (.inl f) => f K.1 K.2.1 K.2.2.1 pc pl st X M fun X M pc pl st => aGo spl nod con fin n d false K pc pl st fs X M
        | some (.inr (tg, mm, kd)) => bif Nat.beq tg 1 then (match aRet K.2.2.1 i st X with
            | some r => (match fs with
              | [] => fin r X M
              | f :: fs => aGo spl nod con fin n (d + 1) false f.1 (f.2.1 + 3) f.2.2.1 (r.toList ++ f.2.2.2) fs X M)
            | none => false)
          else (match pmAll[mm]? with
            | some (q, code) => (match aArgs kd q.2.2.1.2.1 q.2.2.1.1 M.1.2 st with
              | some (args, rest) => bif decide (aCats rest ≤ 8) && Nat.beq q.2.2.2.1 kd then (match con d mm args X M (fun r X M => aGo spl nod con fin n d false K (pc + 3) pl (r.toList ++ rest) fs X M) with
                | some b => b
                | none => (match d with
                  | 0 => false
                  | d + 1 => bif decide ((aPl args).length ≤ q.2.2.1.2.2.1) && (decide (q.2.2.1.2.2.1 ≤ 40) && (decide (q.2.2.2.1 < 3) && aEl mm (aPl args))) then
                      aFl (aPl args ++ List.replicate (q.2.2.1.2.2.1 - (aPl args).length) none) fun cl => aFn q.2.2.1.1 fun oo => aFn (pmRk q.2.2.1.2.2.2 q.2.2.2.1) fun rk => aFw (spl mm) fun sp => aGo spl nod con fin n d false (oo, mm, rk, code, sp) 0 cl [] ((K, pc, pl, rest) :: fs) X M else false)) else false
              | none => false)
            | none => false))
end
end
section
/-! the abstract machine is sound: its runs -/
section
abbrev aCf : Type := aK × Nat × pmL × List Value
/-- what is left to do behind an end, frame by frame -/
def aRtQ (ro : Nat → Nat × (Nat → Int32)) : Nat → List aCf → (Option Value → pmS → Prop) → Option Value → pmS → Prop
  | _, [], Q => Q
  | d, c :: cs, Q => fun r σ => pmWp ro (d + 1) c.1.1 c.1.2.1 c.1.2.2.1 (c.2.1 + 3) c.2.2.1 (r.toList ++ c.2.2.2) σ (aRtQ ro (d + 1) cs Q)
def aKok (K : aK) : Prop := ∃ q, pmAll[K.2.1]? = some (q, K.2.2.2.1)
def aFsok (n : Nat) (ρ : Nat → Int) : List aFr → List aCf → Prop
  | [], [] => True
  | f :: fs, c :: cs => (aKok f.1 ∧ c.1 = f.1 ∧ c.2.1 = f.2.1 ∧ aLok n ρ f.2.2.1 c.2.2.1 ∧ aSok n ρ f.2.2.2 c.2.2.2) ∧ aFsok n ρ fs cs
  | _, _ => False
def aRok (n : Nat) (ρ : Nat → Int) : Option aV → Option Value → Prop
  | none, none => True
  | some a, some v => aVok n ρ a v
  | _, _ => False
def aAok (n : Nat) (ρ : Nat → Int) (as : List aV) (vs : List Value) : Prop := aSok n ρ as vs
/-- what is known at a place: n0 variables stand for what ρ0 says -/
def aAll (L : aLa) (n0 : Nat) (ρ0 ρ : Nat → Int) (σ0 : pmS) (X : aX) (M : aM) (σ : pmS) : Prop := aXok L ρ X ∧ aMok X.1.length ρ σ0 M σ ∧ n0 ≤ X.1.length ∧ aExt n0 ρ0 ρ
variable {k : aKk} {L : aLa} {Ln : Nat} {xs : Nat → Int32} {ro : Nat → Nat × (Nat → Int32)} {σ0 σ σ' : pmS} {o m rt pc pc' : Nat} {i : Instr} {cl cl' : pmL} {cs cr : List Value} {n n' n0 : Nat} {ρ0 ρ ρ' : Nat → Int} {X X' : aX} {M M' : aM} {pl pl' : aL} {st r : List aV} {f g : aF} {p q : Nat} {a b : aV} {v w : Value}
theorem aFsok.ext : ∀ {fs : List aFr} {cs : List aCf}, aFsok n ρ fs cs → n ≤ n' → aExt n ρ ρ' → aFsok n' ρ' fs cs
  | [], [], _, _, _ => trivial
  | _ :: _, _ :: _, h, hn, he => ⟨⟨h.1.1, h.1.2.1, h.1.2.2.1, h.1.2.2.2.1.ext hn he, h.1.2.2.2.2.ext hn he⟩, aFsok.ext h.2 hn he⟩
theorem aCode_ok {K : aK} (hK : aKok K) : pmCode K.2.1 pc = aCode K.2.2.2.1 pc := by
  obtain ⟨q, hq⟩ := hK
  unfold pmCode aCode
  rw [hq]
  simp only [fGet_eq, fLk_eq]
  change (K.2.2.2.1[pc / 32]?).bind _ = (match K.2.2.2.1[pc / 32]? with | some l => pmLk l pc | none => none)
  cases K.2.2.2.1[pc / 32]? <;> rfl
theorem aInf_ok {mm : Nat} {q : pmIt} {c : List (List (Nat × Instr))} (h : pmAll[mm]? = some (q, c)) : pmInf[mm]? = some q := by
  unfold pmInf
  rw [List.getElem?_map, h]
  rfl
theorem aSok_len : ∀ {st : List aV} {cs : List Value}, aSok n ρ st cs → st.length = cs.length
  | [], [], _ => rfl
  | _ :: _, _ :: _, h => by simp [aSok_len h.2]
theorem aSok_drop : ∀ (j : Nat) {st : List aV} {cs : List Value}, aSok n ρ st cs → aSok n ρ (st.drop j) (cs.drop j)
  | 0, _, _, h => h
  | _ + 1, [], [], _ => trivial
  | j + 1, _ :: _, _ :: _, h => aSok_drop j h.2
theorem aSok_take : ∀ (j : Nat) {st : List aV} {cs : List Value}, aSok n ρ st cs → aSok n ρ (st.take j) (cs.take j)
  | 0, _, _, _ => by simp [aSok]
  | _ + 1, [], [], _ => trivial
  | j + 1, _ :: _, _ :: _, h => ⟨h.1, aSok_take j h.2⟩
theorem aSok_app : ∀ {a : List aV} {b : List Value} {c : List aV} {d : List Value}, aSok n ρ a b → aSok n ρ c d → aSok n ρ (a ++ c) (b ++ d)
  | [], [], _, _, _, h => h
  | _ :: _, _ :: _, _, _, h, h2 => ⟨h.1, aSok_app h.2 h2⟩
theorem aSok_rev : ∀ {st : List aV} {cs : List Value}, aSok n ρ st cs → aSok n ρ st.reverse cs.reverse
  | [], [], _ => trivial
  | a :: st, v :: cs, h => by
    rw [List.reverse_cons, List.reverse_cons]
    exact aSok_app (aSok_rev h.2) ⟨h.1, trivial⟩
theorem aLok_app {a : aL} {b : pmL} {c : aL} {d : pmL} (h : aLok n ρ a b) (h2 : aLok n ρ c d) : aLok n ρ (a ++ c) (b ++ d) := by
  refine ⟨by simp [h.1, h2.1], fun i x hi => ?_⟩
  by_cases hl : i < a.length
  · rw [List.getElem?_append_left hl] at hi
    rw [List.getElem?_append_left (by rw [← h.1]; exact hl)]
    exact h.2 i x hi
  · rw [List.getElem?_append_right (by omega)] at hi
    rw [List.getElem?_append_right (by rw [← h.1]; omega), ← h.1]
    exact h2.2 _ x hi
theorem aLok_nil : aLok n ρ [] [] := ⟨rfl, fun i x h => by cases h⟩
theorem aPl_ok : ∀ {st : List aV} {cs : List Value}, aSok n ρ st cs → aLok n ρ (aPl st) (pmPl cs)
  | [], [], _ => aLok_nil
  | a :: st, v :: cs, h => by
    have ih := aPl_ok h.2
    have e := aVok_cat h.1
    show aLok n ρ ((if aCat a = 2 then [some a, none] else [some a]) ++ aPl st) ((if v.category = 2 then [some v, none] else [some v]) ++ pmPl cs)
    refine aLok_app ?_ ih
    rw [e]
    split
    · refine ⟨rfl, fun i x hi => ?_⟩
      match i, hi with
      | 0, hi => cases hi; exact ⟨v, rfl, h.1⟩
      | 1, hi => cases hi
    · refine ⟨rfl, fun i x hi => ?_⟩
      match i, hi with
      | 0, hi => cases hi; exact ⟨v, rfl, h.1⟩
theorem aPl_len : ∀ {st : List aV} {cs : List Value}, aSok n ρ st cs → (aPl st).length = (pmPl cs).length := fun h => (aPl_ok h).1
theorem aPl_cat : ∀ {st : List aV} {cs : List Value}, aSok n ρ st cs → (aPl st).map (Option.map aCat) = (pmPl cs).map (Option.map Value.category)
  | [], [], _ => rfl
  | a :: st, v :: cs, h => by
    have ih := aPl_cat h.2
    have e := aVok_cat h.1
    show List.map (Option.map aCat) ((if aCat a = 2 then [some a, none] else [some a]) ++ aPl st) = List.map (Option.map Value.category) ((if v.category = 2 then [some v, none] else [some v]) ++ pmPl cs)
    rw [List.map_append, List.map_append, ih, e]
    split <;> simp [e]
theorem aEl_ok {mm : Nat} : ∀ (a : aL) (b : pmL) (j : Nat), a.map (Option.map aCat) = b.map (Option.map Value.category) → ((a.zipIdx j).all fun q => match q.1 with
    | some w => !(aCat w == 2) || pmLg mm q.2
    | none => true) = ((b.zipIdx j).all fun q => match q.1 with
    | some w => !(w.category == 2) || pmLg mm q.2
    | none => true)
  | [], [], _, _ => rfl
  | [], _ :: _, _, h => by cases h
  | _ :: _, [], _, h => by cases h
  | a :: as, b :: bs, j, h => by
    simp only [List.map_cons, List.cons.injEq] at h
    have ih := aEl_ok (mm := mm) as bs (j + 1) h.2
    simp only [List.zipIdx_cons, List.all_cons, ih]
    congr 1
    match a, b, h.1 with
    | none, none, _ => rfl
    | some a, some b, e =>
      simp only [Option.map_some, Option.some.injEq] at e
      show (!(aCat a == 2) || pmLg mm j) = (!(b.category == 2) || pmLg mm j)
      rw [e]
    | none, some b, e => cases e
    | some a, none, e => cases e
theorem aLok_rep (k : Nat) : aLok n ρ (List.replicate k none) (List.replicate k none) := by
  refine ⟨by simp, fun i x hi => ?_⟩
  rw [List.getElem?_replicate] at hi
  split at hi <;> cases hi
theorem aRet_ok {rv : Option aV} (hX : aXok L ρ X) (hs : aSok X.1.length ρ st cs) (h : aRet rt i st X = some rv) : ∃ v, aRok X.1.length ρ rv v ∧ ∀ call, pmStep ro call o m rt pc i cl cs σ = some (.inl (v, σ)) := by
  unfold aRet at h
  simp only [zLe_eq, zAnd, zIf] at h
  split at h
  · split at h
    · obtain ⟨v0, c0, rfl, w0, hr⟩ := aSok_cons hs
      obtain ⟨x, rfl, hx⟩ := aVok_int w0
      cases c0 with
      | cons _ _ => exact hr.elim
      | nil =>
        split at h
        · rename_i hrt
          cases h
          exact ⟨some (.int x), hx, fun call => by simp only [pmStep]; rw [if_pos (Or.inl hrt)]⟩
        · split at h
          · rename_i hrt
            split at h
            · rename_i iv hi
              split at h
              · rename_i hb
                cases h
                have hv := aItv_ok hX.1 hx hi
                have h0 : (0 : Int32).toInt = 0 := rfl
                have h10 : (1 : Int32).toInt = 1 := rfl
                have hzo : x = 0 ∨ x = 1 := by
                  rw [aEq32, aEq32, h0, h10]
                  omega
                exact ⟨some (.int x), hx, fun call => by simp only [pmStep]; rw [if_pos (Or.inr ⟨hrt, hzo⟩)]⟩
              · cases h
            · cases h
          · cases h
    · cases h
  · split at h
    · obtain ⟨v0, c0, rfl, w0, hr⟩ := aSok_cons hs
      obtain ⟨x, rfl, hx⟩ := aVok_long w0
      cases c0 with
      | cons _ _ => exact hr.elim
      | nil =>
        split at h
        · rename_i hrt
          cases h
          exact ⟨some (.long x), hx, fun call => by simp only [pmStep]; rw [if_pos hrt]⟩
        · cases h
    · cases h
  · split at h
    · cases cs with
      | cons _ _ => exact hs.elim
      | nil =>
        split at h
        · rename_i hrt
          cases h
          exact ⟨none, trivial, fun call => by simp only [pmStep]; rw [if_pos hrt]⟩
        · cases h
    · cases h
  · cases h
theorem aFork_ok {x : Int} {kk : aX → Bool} : ∀ (c : Nat) (lo : Int) (X : aX), aXok L ρ X → aFok X.1.length ρ f x → lo ≤ x → aFork f c lo X kk = true → aGx L X ρ kk
  | 0, lo, X, hX, hf, hl, h => aLe_ok hX (aFok.c0 hX.1) hf (d := 0) (by omega) h
  | c + 1, lo, X, hX, hf, hl, h => by
    unfold aFork at h
    rw [Bool.and_eq_true, aFz_eq] at h
    by_cases e : x = lo
    · exact aEq_ok hX hf (aFok.c0 hX.1) e h.1
    · obtain ⟨Y, h1, h2, h3⟩ := aLe_ok hX (aFok.c0 hX.1) hf (d := 0) (x := lo + 1) (by omega) h.2
      exact (aFork_ok c (lo + 1) Y h2 (by rw [h1]; exact hf) (by omega) h3).tr h1
theorem aSpl_ok {kk : aX → Bool} : ∀ (t : List (Nat × Int × Nat)) (X : aX), aXok L ρ X → aLok X.1.length ρ pl cl → aSpl pl t X kk = true → aGx L X ρ kk
  | [], X, hX, _, h => aGx.same hX h
  | q :: t, X, hX, hl, h => by
    unfold aSpl at h
    rw [fGet_eq] at h
    split at h
    · rename_i tg f hj
      rw [Bool.and_eq_true] at h
      obtain ⟨v, h1, h2⟩ := hl.2 _ _ hj
      have hx : ∃ x, aFok X.1.length ρ f x := by
        cases tg with
        | false => obtain ⟨x, rfl, hx⟩ := aVok_int h2; exact ⟨_, hx⟩
        | true => obtain ⟨x, rfl, hx⟩ := aVok_long h2; exact ⟨_, hx⟩
      obtain ⟨x, hx⟩ := hx
      by_cases e : x < q.2.1
      · obtain ⟨Y, y1, y2, y3⟩ := aLe_ok hX hx (aFok.c0 hX.1) (d := 1) (y := q.2.1) (by omega) h.1
        exact (aSpl_ok t Y y2 (by rw [y1]; exact hl) y3).tr y1
      · obtain ⟨Y, y1, y2, y3⟩ := aLe_ok hX (aFok.c0 hX.1) hx (d := 0) (x := q.2.1) (by omega) h.2
        obtain ⟨Y2, z1, z2, z3⟩ := aFork_ok q.2.2 q.2.1 Y y2 (by rw [y1]; exact hx) (by omega) y3
        exact ((aSpl_ok t Y2 z2 (by rw [z1, y1]; exact hl) z3).tr z1).tr y1
    · cases h
theorem aCal_ok {mm kd nn oo mx rr : Nat} {y : MethodName} {bb : ByteArray} {ev : Nat × Nat × Nat × Nat} {args rest : List aV} (hM : aMok n ρ σ0 M σ) (hs : aSok n ρ st cs) (h1 : aCal o i = some (mm, kd)) (h2 : pmInf[mm]? = some (y, bb, (oo, nn, mx, rr), (kd, ev))) (h3 : aArgs kd nn oo M.1.2 st = some (args, rest)) :
    ∃ vs cr, aSok n ρ args vs ∧ aSok n ρ rest cr ∧ ∀ call, pmStep ro call o m rt pc i cl cs σ = pmRt call mm vs pc cl cr σ := by
  have hd := aSok_drop nn hs
  have ht := aSok_rev (aSok_take nn hs)
  unfold aCal at h1
  split at h1
  · rename_i j
    split at h1
    · rename_i m0 w1 w2 hMM
      cases hb : Nat.ble 9000 m0 with
      | true => rw [hb] at h1; cases h1
      | false =>
        rw [hb] at h1
        cases h1
        have hlt : ¬ 9000 ≤ mm := fun h => by rw [Nat.ble_eq_true_of_le h] at hb; cases hb
        unfold aArgs at h3
        simp only [Nat.beq_refl, cond_true] at h3
        split at h3
        · rename_i hn
          cases h3
          refine ⟨_, _, ht, hd, fun call => ?_⟩
          simp only [pmStep, hMM]
          rw [if_neg (by omega), if_neg (by omega), if_neg (by omega), h2]
          simp only []
          rw [if_pos (by rw [← aSok_len hs]; exact hn)]
        · cases h3
    · cases h1
  · rename_i j
    split at h1
    · rename_i m0 w1 w2 hMM
      cases h1
      unfold aArgs at h3
      simp only [fG2_eq, show Nat.beq 0 1 = false from rfl, show Nat.beq 0 0 = true from rfl, cond_true, cond_false] at h3
      split at h3
      · rename_i p rs hdr
        rw [hdr] at hd
        obtain ⟨v0, c0, e0, w0, hr⟩ := aSok_cons hd
        cases aVok_ref w0
        split at h3
        · rename_i c z1 z2 hZ
          cases hc : Nat.beq c oo with
          | false => rw [hc] at h3; cases h3
          | true =>
            rw [hc] at h3
            cases h3
            rw [← hM.1.2] at hZ
            refine ⟨.ref p :: (cs.take nn).reverse, c0, ⟨rfl, ht⟩, hr, fun call => ?_⟩
            simp only [pmStep, hMM, h2, e0, hZ]
            rw [if_pos (Nat.eq_of_beq_eq_true hc)]
        · cases h3
      · cases h3
    · cases h1
  · rename_i j
    split at h1
    · rename_i m0 w1 w2 hMM
      cases hb : Nat.ble 9000 m0 with
      | true => rw [hb] at h1; cases h1
      | false =>
        rw [hb] at h1
        cases h1
        have hlt : ¬ 9000 ≤ mm := fun h => by rw [Nat.ble_eq_true_of_le h] at hb; cases hb
        unfold aArgs at h3
        simp only [show Nat.beq 2 1 = false from rfl, show Nat.beq 2 0 = false from rfl, cond_false] at h3
        split at h3
        · rename_i p rs hdr
          cases h3
          rw [hdr] at hd
          obtain ⟨v0, c0, e0, w0, hr⟩ := aSok_cons hd
          cases aVok_ref w0
          refine ⟨.ref p :: (cs.take nn).reverse, c0, ⟨rfl, ht⟩, hr, fun call => ?_⟩
          simp only [pmStep, hMM]
          rw [if_neg (by omega)]
          simp only [h2, e0]
        · cases h3
    · cases h1
  · cases h1
theorem aTr_step {ff : aIf1} (h : aTr o i = some (.inl ff)) (hf : ff o m rt pc pl st X M k = true) : aStep o m rt pc i pl st X M k = true := by
  have e : aDis i = some ff := by
    unfold aTr at h
    split at h
    · cases h
    · split at h
      · cases h
      · cases h
      · cases h
      · split at h
        · rename_i f0 e
          cases h
          exact e
        · cases h
  unfold aStep
  rw [e]
  exact hf
theorem aTr_call {tg mm kd : Nat} (h : aTr o i = some (.inr (tg, mm, kd))) : (tg = 0 ∧ aCal o i = some (mm, kd)) ∨ tg = 1 := by
  unfold aTr at h
  split at h
  · rename_i a b e
    cases h
    exact Or.inl ⟨rfl, e⟩
  · split at h
    · cases h; exact Or.inr rfl
    · cases h; exact Or.inr rfl
    · cases h; exact Or.inr rfl
    · split at h <;> cases h
/-- the surroundings of a run: the end, the nodes, the contracts -/
def aFinOk (L : aLa) (n0 : Nat) (ρ0 : Nat → Int) (σ0 : pmS) (fin : Option aV → aX → aM → Bool) (Q0 : Option Value → pmS → Prop) : Prop := ∀ r X M ρ v σ, fin r X M = true → aAll L n0 ρ0 ρ σ0 X M σ → aRok X.1.length ρ r v → Q0 v σ
def aNodOk (ro : Nat → Nat × (Nat → Int32)) (L : aLa) (n0 : Nat) (ρ0 : Nat → Int) (σ0 : pmS) (nod : aNod) (Q0 : Option Value → pmS → Prop) : Prop :=
  ∀ d K pc pl st fs X M ρ cl cs cfs σ, nod d K pc pl st fs X M = some true → aKok K → aAll L n0 ρ0 ρ σ0 X M σ → aLok X.1.length ρ pl cl → aSok X.1.length ρ st cs → aFsok X.1.length ρ fs cfs → pmWp ro d K.1 K.2.1 K.2.2.1 pc cl cs σ (aRtQ ro d cfs Q0)
def aConOk (ro : Nat → Nat × (Nat → Int32)) (L : aLa) (σ0 : pmS) (con : aCon) : Prop :=
  ∀ d mm args X M k ρ vs σ (Q : Option Value → pmS → Prop), con d mm args X M k = some true → aXok L ρ X → aMok X.1.length ρ σ0 M σ → aSok X.1.length ρ args vs →
    (∀ r X' M' ρ' v σ', X.1.length ≤ X'.1.length → aExt X.1.length ρ ρ' → aXok L ρ' X' → aMok X'.1.length ρ' σ0 M' σ' → aRok X'.1.length ρ' r v → k r X' M' = true → Q v σ') → pmCs ro d mm vs σ Q
theorem aRok_list {rv : Option aV} {v : Option Value} (h : aRok n ρ rv v) (hr : aSok n ρ r cr) : aSok n ρ (rv.toList ++ r) (v.toList ++ cr) := by
  match rv, v, h with
  | none, none, _ => exact hr
  | some a, some v, h => exact ⟨h, hr⟩
set_option maxHeartbeats 1000000 in
theorem aGo_ok {spl : Nat → aSs} {nod : aNod} {con : aCon} {fin : Option aV → aX → aM → Bool} {Q0 : Option Value → pmS → Prop} (hro : ro = pmRo Ln xs) (hL : L = ((Ln : Int), xs)) (hLn : Ln ≤ 3072) (hfin : aFinOk L n0 ρ0 σ0 fin Q0) (hnod : aNodOk ro L n0 ρ0 σ0 nod Q0) (hcon : aConOk ro L σ0 con) :
    ∀ (nf d : Nat) (fst : Bool) (K : aK) (pc : Nat) (pl : aL) (st : List aV) (fs : List aFr) (X : aX) (M : aM) (ρ : Nat → Int) (cl : pmL) (cs : List Value) (cfs : List aCf) (σ : pmS), aGo spl nod con fin nf d fst K pc pl st fs X M = true → aKok K → aAll L n0 ρ0 ρ σ0 X M σ → aLok X.1.length ρ pl cl → aSok X.1.length ρ st cs → aFsok X.1.length ρ fs cfs → pmWp ro d K.1 K.2.1 K.2.2.1 pc cl cs σ (aRtQ ro d cfs Q0)
  | 0, _, _, _, _, _, _, _, _, _, _, _, _, _, _, h, _, _, _, _, _ => by cases h
  | nf + 1, d, fst, K, pc, pl, st, fs, X, M, ρ, cl, cs, cfs, σ, h, hK, hA, hl, hs, hfs => by
    have ih := aGo_ok (spl := spl) hro hL hLn hfin hnod hcon nf
    unfold aGo at h
    rw [aFn_eq, aNm_eq] at h
    split at h
    · rename_i b hb
      cases fst with
      | true => cases hb
      | false =>
        subst h
        exact hnod _ _ _ _ _ _ _ _ _ _ _ _ _ hb hK hA hl hs hfs
    · split at h
      · cases h
      · rename_i i hi
        have hi : pmCode K.2.1 pc = some i := (aCode_ok hK).trans hi
        obtain ⟨hX0, hM0, hn0, he0⟩ := hA
        obtain ⟨Y, y1, hX, h⟩ := aSpl_ok _ X hX0 hl h
        rw [← y1] at hM0 hn0 hl hs hfs
        have hM := hM0
        split at h
        · cases h
        · rename_i f htr
          have hst := aTr_step htr h
          obtain ⟨pc', cl', cs', σ', X', M', pl', st', ρ', hst, e1, e2, e3, e4, e5, e6, e7⟩ := aStep_ok (ro := ro) (σ0 := σ0) hro hL hLn hX hM hl hs hst
          refine (pmWp_blk (n := 1) (pc' := pc') (pl' := cl') (st' := cs') (σ' := σ') ?_).mpr ?_
          · unfold pmBlk
            rw [hi]
            simp only [hst]
            rfl
          · exact ih d false K pc' pl' st' fs X' M' ρ' cl' cs' cfs σ' e7 hK ⟨e3, e4, Nat.le_trans hn0 e1, he0.tr hn0 e2⟩ e5 e6 (hfs.ext e1 e2)
        · rename_i tg mm kd htr
          have hcal0 := aTr_call htr
          cases htg : Nat.beq tg 1 with
          | true =>
            rw [htg] at h
            simp only [cond_true] at h
            split at h
            · rename_i rv hrv
              obtain ⟨v, hv, hst⟩ := aRet_ok (ro := ro) (o := K.1) (m := K.2.1) (pc := pc) (cl := cl) (σ := σ) hX hs hrv
              refine (pmWp_ret hi (hst _)).mpr ?_
              cases fs with
              | nil =>
                cases cfs with
                | cons _ _ => exact hfs.elim
                | nil => exact hfin _ _ _ ρ _ _ h ⟨hX, hM, hn0, he0⟩ hv
              | cons f fs' =>
                cases cfs with
                | nil => exact hfs.elim
                | cons c cfs' =>
                  obtain ⟨⟨g1, g2, g3, g4, g5⟩, g6⟩ := hfs
                  show pmWp ro (d + 1) c.1.1 c.1.2.1 c.1.2.2.1 (c.2.1 + 3) c.2.2.1 (v.toList ++ c.2.2.2) σ (aRtQ ro (d + 1) cfs' Q0)
                  rw [g2, g3]
                  exact ih (d + 1) false f.1 (f.2.1 + 3) f.2.2.1 _ fs' Y M ρ c.2.2.1 _ cfs' σ h g1 ⟨hX, hM, hn0, he0⟩ g4 (aRok_list hv g5) g6
            · cases h
          | false =>
            rw [htg] at h
            simp only [cond_false] at h
            have hcal : aCal K.1 i = some (mm, kd) := by
              rcases hcal0 with e | e
              · exact e.2
              · rw [e] at htg; cases htg
            split at h
            · rename_i q code hq
              obtain ⟨y, bb, ⟨oo, nn, mx, rr⟩, ⟨kind, ev⟩⟩ := q
              split at h
              · rename_i args rest hargs
                obtain ⟨hc, h⟩ := aBif h
                rw [Bool.and_eq_true] at hc
                have hcat := of_decide_eq_true hc.1
                have hkd : kind = kd := Nat.eq_of_beq_eq_true hc.2
                have hcal : aCal K.1 i = some (mm, kind) := by rw [hkd]; exact hcal
                have hargs : aArgs kind nn oo M.1.2 st = some (args, rest) := by rw [hkd]; exact hargs
                have hinf := aInf_ok hq
                obtain ⟨vs, cr, hvs, hcr, hst⟩ := aCal_ok (ro := ro) (m := K.2.1) (rt := K.2.2.1) (pc := pc) (cl := cl) hM hs hcal hinf hargs
                rw [← aSok_cats hcr] at hcat
                refine (pmWp_call hi hcat hst).mpr ?_
                split at h
                · rename_i b hb
                  subst h
                  refine hcon _ _ _ _ _ _ ρ _ _ _ hb hX hM hvs ?_
                  intro r X' M' ρ' v σ' e1 e2 e3 e4 e5 e6
                  exact ih d false K (pc + 3) pl _ fs X' M' ρ' cl _ cfs σ' e6 hK ⟨e3, e4, Nat.le_trans hn0 e1, he0.tr hn0 e2⟩ (hl.ext e1 e2) (aRok_list e5 (hcr.ext e1 e2)) (hfs.ext e1 e2)
                · cases d with
                  | zero => cases h
                  | succ d' =>
                    obtain ⟨hc2, h⟩ := aBif h
                    simp only [Bool.and_eq_true, decide_eq_true_eq] at hc2
                    obtain ⟨z1, z2, z3, z4⟩ := hc2
                    simp only [aFl_eq, aFn_eq, aFw_eq] at h
                    rw [aPl_len hvs] at z1 h
                    have z5 : pmEl mm (pmPl vs) = true := (aEl_ok (mm := mm) (aPl args) (pmPl vs) 0 (aPl_cat hvs)).symm.trans z4
                    refine (pmCs_go hinf ⟨z1, z2, z3, z5⟩).mpr ?_
                    exact ih d' false (oo, mm, pmRk rr kind, code, spl mm) 0 _ [] ((K, pc, pl, rest) :: fs) Y M ρ _ [] ((K, pc, cl, cr) :: cfs) σ h ⟨_, hq⟩ ⟨hX, hM, hn0, he0⟩ (aLok_app (aPl_ok hvs) (aLok_rep _)) trivial ⟨⟨hK, rfl, rfl, hl, hcr⟩, hfs⟩
              · cases h
            · cases h
end
end
section
/-! when two pictures are the same -/
section
def fSnd {α : Type} (e : α → α → Bool) : Prop := ∀ a b, e a b = true → a = b
noncomputable def fEqL {α : Type} (e : α → α → Bool) (l : List α) : List α → Bool := List.rec (fun m => List.rec true (fun _ _ _ => false) m) (fun a _ ih m => List.rec false (fun b m _ => e a b && ih m) m) l
theorem fEqL_ok {α : Type} {e : α → α → Bool} (he : fSnd e) : fSnd (fEqL e) := fun l => by
  induction l with
  | nil =>
    intro m h
    cases m with
    | nil => rfl
    | cons _ _ => cases h
  | cons a t ih =>
    intro m h
    cases m with
    | nil => cases h
    | cons b m =>
      have h : (e a b && fEqL e t m) = true := h
      rw [Bool.and_eq_true] at h
      rw [he a b h.1, ih m h.2]
def fEqP {α β : Type} (e : α → α → Bool) (e' : β → β → Bool) (p q : α × β) : Bool := e p.1 q.1 && e' p.2 q.2
theorem fEqP_ok {α β : Type} {e : α → α → Bool} {e' : β → β → Bool} (he : fSnd e) (he' : fSnd e') : fSnd (fEqP e e') := fun p q h => by
  unfold fEqP at h
  rw [Bool.and_eq_true] at h
  exact Prod.ext (he _ _ h.1) (he' _ _ h.2)
def fEqO {α : Type} (e : α → α → Bool) : Option α → Option α → Bool
  | none, none => true
  | some a, some b => e a b
  | _, _ => false
theorem fEqO_ok {α : Type} {e : α → α → Bool} (he : fSnd e) : fSnd (fEqO e) := fun a b h => by
  cases a <;> cases b
  · rfl
  · cases h
  · cases h
  · rw [he _ _ h]
def fEqS {α β : Type} (e : α → α → Bool) (e' : β → β → Bool) : α ⊕ β → α ⊕ β → Bool
  | .inl a, .inl b => e a b
  | .inr a, .inr b => e' a b
  | _, _ => false
theorem fEqS_ok {α β : Type} {e : α → α → Bool} {e' : β → β → Bool} (he : fSnd e) (he' : fSnd e') : fSnd (fEqS e e') := fun a b h => by
  cases a <;> cases b
  · rw [he _ _ h]
  · cases h
  · cases h
  · rw [he' _ _ h]
theorem fNat_ok : fSnd Nat.beq := fun _ _ h => Nat.eq_of_beq_eq_true h
theorem fInt_ok : fSnd zEq := fun a b h => by
  rw [zEq_eq] at h
  exact of_decide_eq_true h
def fBoo (a b : Bool) : Bool := a == b
theorem fBoo_ok : fSnd fBoo := fun a b h => by
  cases a <;> cases b <;> first | rfl | cases h
noncomputable def eqF : aF → aF → Bool := fEqP Nat.beq zEq
noncomputable def eqI : aI → aI → Bool := fEqP zEq zEq
noncomputable def eqV : aV → aV → Bool := fEqS (fEqP fBoo eqF) Nat.beq
noncomputable def eqZ : pmZ → pmZ → Bool := fEqP Nat.beq (fEqP Nat.beq (fEqL (fEqO Nat.beq)))
noncomputable def eqC : aI × aO → aI × aO → Bool := fEqP eqI (fEqL (fEqP Nat.beq eqF))
noncomputable def eqM : aM → aM → Bool := fEqP (fEqP Nat.beq (fEqL (fEqL eqZ))) (fEqP (fEqL (fEqL eqC)) (fEqP (fEqL (fEqL eqC)) Nat.beq))
noncomputable def eqX : aX → aX → Bool := fEqP (fEqL eqI) (fEqP (fEqL (fEqP Nat.beq (fEqP Nat.beq zEq))) (fEqL (fEqP eqF eqF)))
noncomputable def eqT : aL × List aV × aX → aL × List aV × aX → Bool := fEqP (fEqL (fEqO eqV)) (fEqP (fEqL eqV) eqX)
theorem eqF_ok : fSnd eqF := fEqP_ok fNat_ok fInt_ok
theorem eqI_ok : fSnd eqI := fEqP_ok fInt_ok fInt_ok
theorem eqV_ok : fSnd eqV := fEqS_ok (fEqP_ok fBoo_ok eqF_ok) fNat_ok
theorem eqZ_ok : fSnd eqZ := fEqP_ok fNat_ok (fEqP_ok fNat_ok (fEqL_ok (fEqO_ok fNat_ok)))
theorem eqC_ok : fSnd eqC := fEqP_ok eqI_ok (fEqL_ok (fEqP_ok fNat_ok eqF_ok))
theorem eqM_ok : fSnd eqM := fEqP_ok (fEqP_ok fNat_ok (fEqL_ok (fEqL_ok eqZ_ok))) (fEqP_ok (fEqL_ok (fEqL_ok eqC_ok)) (fEqP_ok (fEqL_ok (fEqL_ok eqC_ok)) fNat_ok))
theorem eqX_ok : fSnd eqX := fEqP_ok (fEqL_ok eqI_ok) (fEqP_ok (fEqL_ok (fEqP_ok fNat_ok (fEqP_ok fNat_ok fInt_ok))) (fEqL_ok (fEqP_ok eqF_ok eqF_ok)))
theorem eqT_ok : fSnd eqT := fEqP_ok (fEqL_ok (fEqO_ok eqV_ok)) (fEqP_ok (fEqL_ok eqV_ok) eqX_ok)
end
end
section
/-! the second make: tables (printed by tab.py) -/
section
noncomputable def bZ0 : List pmZ := [(11, 13, [some 1, some 3, some 7, some 13, some 21, some 26, some 31, some 33, some 34, some 43, some 45, some 79, none]), (6, 5, [some 2, none, none, none, none]), (50, 400, []), (5, 6, [some 4, some 5, some 6, none, none, none]), (50, 62, []), (50, 7, []), (50, 49, []), (9, 5, [some 8, some 9, some 10, some 11, some 12]), (50, 480, []), (50, 12, []), (50, 12, []), (50, 12, []), (50, 4, []), (2, 8, [some 14, some 15, some 16, some 17, some 18, some 19, some 20, none]), (50, 24, []), (50, 24, [])]
noncomputable def bZ1 : List pmZ := [(50, 24, []), (50, 24, []), (50, 24, []), (50, 24, []), (50, 6, []), (10, 13, [some 22, some 23, some 24, some 25, none, none, none, none, none, none, none, none, none]), (51, 4, []), (50, 24, []), (50, 6, []), (50, 3, []), (10, 13, [some 27, some 28, some 29, some 30, none, none, none, none, none, none, none, none, none]), (51, 4, []), (50, 24, []), (50, 6, []), (50, 3, []), (8, 3, [some 1, some 32, none])]
noncomputable def bZ2 : List pmZ := [(50, 40, []), (1, 5, [some 1, some 13, none, none, none]), (3, 15, [some 3, some 7, some 35, some 36, some 37, some 38, some 39, some 40, some 41, some 42, none, none, none, none, none]), (51, 512, []), (51, 512, []), (50, 40, []), (50, 40, []), (50, 4, []), (50, 4, []), (50, 5, []), (50, 5, []), (4, 4, [some 3, some 13, some 34, some 44]), (50, 4, []), (7, 5, [some 3, some 43, some 46, some 62, some 78]), (54, 3, [some 47, some 52, some 57]), (10, 13, [some 48, some 49, some 50, some 51, none, none, none, none, none, none, none, none, none])]
noncomputable def bZ3 : List pmZ := [(51, 4, []), (50, 24, []), (50, 6, []), (50, 3, []), (10, 13, [some 53, some 54, some 55, some 56, none, none, none, none, none, none, none, none, none]), (51, 4, []), (50, 24, []), (50, 6, []), (50, 3, []), (10, 13, [some 58, some 59, some 60, some 61, none, none, none, none, none, none, none, none, none]), (51, 4, []), (50, 24, []), (50, 6, []), (50, 3, []), (54, 3, [some 63, some 68, some 73]), (10, 13, [some 64, some 65, some 66, some 67, none, none, none, none, none, none, none, none, none])]
noncomputable def bZ4 : List pmZ := [(51, 4, []), (50, 24, []), (50, 6, []), (50, 3, []), (10, 13, [some 69, some 70, some 71, some 72, none, none, none, none, none, none, none, none, none]), (51, 4, []), (50, 24, []), (50, 6, []), (50, 3, []), (10, 13, [some 74, some 75, some 76, some 77, none, none, none, none, none, none, none, none, none]), (51, 4, []), (50, 24, []), (50, 6, []), (50, 3, []), (50, 3, []), (0, 7, [some 3, some 43, some 45, some 80, some 85, some 86, none])]
noncomputable def bZ5 : List pmZ := [(10, 13, [some 81, some 82, some 83, some 84, none, none, none, none, none, none, none, none, none]), (51, 4, []), (50, 24, []), (50, 6, []), (50, 3, []), (50, 244, []), (50, 61, []), (12, 54, [some 88, some 89, none, none, none, some 90, some 91, some 92, some 93, none, none, none, none, none, none, none, some 94, some 95, some 96, some 97, some 98, some 99, none, some 100, some 101, some 102, some 103, some 104, some 105, some 106, some 107, some 108, some 109, none, none, some 110, some 111, some 112, some 113, some 114, some 115, none, none, none, some 116, some 117, some 118, some 119, some 120, some 121, some 122, some 123, some 124, some 125]), (50, 120, []), (50, 1200, []), (52, 49, []), (52, 5, []), (50, 7, []), (53, 400, []), (50, 60, []), (50, 60, [])]
noncomputable def bZ6 : List pmZ := [(50, 4, []), (50, 12, []), (50, 12, []), (50, 720, []), (50, 6, []), (50, 24, []), (50, 48, []), (50, 48, []), (50, 48, []), (50, 48, []), (50, 24, []), (52, 48, []), (50, 50, []), (52, 60, []), (50, 4, []), (50, 4, [])]
noncomputable def bZ7 : List pmZ := [(50, 5, []), (50, 5, []), (51, 4096, []), (50, 4096, []), (50, 4, []), (50, 4, []), (50, 4, []), (52, 4, []), (50, 244, []), (50, 244, []), (50, 244, []), (50, 61, []), (52, 244, []), (50, 7, [])]
noncomputable def bZT : aT2 pmZ := [bZ0, bZ1, bZ2, bZ3, bZ4, bZ5, bZ6, bZ7]
noncomputable def bGrow : List (Nat × List aI) := [(0, [(0, 7)]), (1, [(0, 7)]), (2, [(0, 7)]), (3, [(0, 7)]), (4, [(0, 20)]), (5, [(0, 20)]), (6, [(0, 20)]), (7, [(0, 20)]), (8, [(0, 20)]), (9, [(0, 127)]), (10, [(0, 127)]), (11, [(0, 127)]), (12, [(0, 127)]), (13, [(0, 127)]), (14, [(-1, 19)]), (15, [(-1, 19)]), (16, [(-1, 19)]), (17, [(-1, 19)]), (18, [(-1, 19)]), (19, [(-1, 7)]), (20, [(-1, 7)]), (21, [(-1, 7)]), (22, [(-1, 7)]), (23, [(-1, 19)]), (24, [(-1, 19)]), (25, [(-1, 19)]), (26, [(-1, 19)]), (27, [(-1, 19)]), (28, [(-1, 7)]), (29, [(-1, 7)]), (30, [(-1, 7)]), (31, [(-1, 7)]), (32, [(-1, 19)]), (33, [(-1, 19)]), (34, [(-1, 19)]), (35, [(-1, 19)]), (36, [(-1, 19)]), (37, [(-1, 7)]), (38, [(-1, 7)]), (39, [(-1, 7)]), (40, [(-1, 7)]), (41, [(-2147483648, 2147483647)]), (42, [(-2147483648, 2147483647)]), (43, [(-2147483648, 2147483647)]), (44, [(-2147483648, 2147483647)]), (45, [(-2147483648, 2147483647)]), (46, [(-2147483648, 2147483647)]), (47, [(-2147483648, 2147483647)]), (48, [(-2147483648, 2147483647)]), (49, [(-2147483648, 2147483647)]), (50, [(-2147483648, 2147483647)]), (51, [(-2147483648, 2147483647)]), (52, [(-2147483648, 2147483647)]), (53, [(-2147483648, 2147483647)]), (54, [(-2147483648, 2147483647)]), (55, [(-2147483648, 2147483647)]), (56, [(-2147483648, 2147483647)]), (57, [(-2147483648, 2147483647)]), (58, [(-2147483648, 2147483647)]), (59, [(-2147483648, 2147483647)]), (60, [(-2147483648, 2147483647)]), (61, [(-2147483648, 2147483647)]), (62, [(-2147483648, 2147483647)]), (63, [(-2147483648, 2147483647)]), (64, [(-2147483648, 2147483647)]), (65, [(-2147483648, 2147483647)]), (66, [(-2147483648, 2147483647)]), (67, [(-2147483648, 2147483647)]), (68, [(-2147483648, 2147483647)]), (69, [(-2147483648, 2147483647)]), (70, [(-2147483648, 2147483647)]), (71, [(-2147483648, 2147483647)]), (72, [(-2147483648, 2147483647)]), (73, [(-2147483648, 2147483647)]), (74, [(-2147483648, 2147483647)]), (75, [(-2147483648, 2147483647)]), (76, [(-2147483648, 2147483647)]), (77, [(-2147483648, 2147483647)]), (78, [(-2147483648, 2147483647)]), (79, [(-2147483648, 2147483647)]), (80, [(-2147483648, 2147483647)]), (81, [(-2147483648, 2147483647)]), (82, [(-2147483648, 2147483647)]), (83, [(-2147483648, 2147483647)]), (84, [(-2147483648, 2147483647)]), (85, [(-2147483648, 2147483647)]), (86, [(-2147483648, 2147483647)]), (87, [(-2147483648, 2147483647)]), (88, [(-2147483648, 2147483647)]), (89, [(-2147483648, 2147483647)]), (90, [(-2147483648, 2147483647)]), (91, [(-2147483648, 2147483647)]), (92, [(-2147483648, 2147483647)]), (93, [(-2147483648, 2147483647)]), (94, [(-2147483648, 2147483647)]), (95, [(-2147483648, 2147483647)]), (96, [(-2147483648, 2147483647)]), (97, [(-2147483648, 2147483647)]), (98, [(-2147483648, 2147483647)]), (99, [(-2147483648, 2147483647)]), (100, [(-2147483648, 2147483647)]), (101, [(-2147483648, 2147483647)]), (102, [(-2147483648, 2147483647)]), (103, [(-2147483648, 2147483647)]), (104, [(-2147483648, 2147483647)]), (105, [(-2147483648, 2147483647)]), (106, [(-2147483648, 2147483647)]), (107, [(-2147483648, 2147483647)]), (108, [(-2147483648, 2147483647)]), (109, [(-2147483648, 2147483647)]), (110, [(-2147483648, 2147483647)]), (111, [(-2147483648, 2147483647)]), (112, [(-2147483648, 2147483647)]), (113, [(-2147483648, 2147483647)]), (114, [(-2147483648, 2147483647)]), (115, [(0, 1)]), (116, [(-2147483648, 2147483647)]), (117, [(-2147483648, 2147483647)]), (118, [(-2147483648, 2147483647)]), (119, [(-2147483648, 2147483647)])]
noncomputable def bG0 : List (List aI × Nat × List (Nat × List aI)) := [([(0, 0)], 0, [(12, [(0, 1)])]), ([(0, 0)], 0, [(1, [(0, 400)]), (2, [(0, 400)]), (3, [(0, 400)]), (4, [(-5400, 0)])]), ([(0, 255)], 0, []), ([(0, 0)], 0, [(3, [(-9223372036854775808, 9223372036854775807)]), (4, [(-2147483648, 2147483647)]), (5, [(0, 5)])]), ([(0, 428)], 0, [(0, [(0, 0)]), (1, [(72, 72)]), (2, [(80, 80)]), (3, [(88, 88)]), (4, [(96, 96)]), (5, [(104, 104)]), (6, [(112, 112)]), (7, [(120, 120)]), (8, [(136, 136)]), (9, [(144, 144)]), (10, [(152, 152)]), (11, [(160, 160)]), (12, [(168, 168)]), (13, [(200, 200)]), (14, [(208, 208)]), (15, [(216, 216)]), (16, [(224, 224)]), (17, [(232, 232)]), (18, [(265, 265)]), (19, [(266, 266)]), (20, [(267, 267)]), (21, [(268, 268)]), (22, [(273, 273)]), (23, [(274, 274)]), (24, [(275, 275)]), (25, [(276, 276)]), (26, [(281, 281)]), (27, [(282, 282)]), (28, [(283, 283)]), (29, [(284, 284)]), (30, [(289, 289)]), (31, [(290, 290)]), (32, [(291, 291)]), (33, [(292, 292)]), (34, [(297, 297)]), (35, [(298, 298)]), (36, [(299, 299)]), (37, [(300, 300)]), (38, [(328, 328)]), (39, [(336, 336)]), (40, [(344, 344)]), (41, [(352, 352)]), (42, [(393, 393)]), (43, [(394, 394)]), (44, [(395, 395)]), (45, [(396, 396)]), (46, [(401, 401)]), (47, [(402, 402)]), (48, [(403, 403)]), (49, [(404, 404)]), (50, [(409, 409)]), (51, [(410, 410)]), (52, [(411, 411)]), (53, [(412, 412)]), (54, [(417, 417)]), (55, [(418, 418)]), (56, [(419, 419)]), (57, [(420, 420)]), (58, [(425, 425)]), (59, [(426, 426)]), (60, [(427, 427)]), (61, [(428, 428)])]), ([(0, 73)], 0, [(0, [(0, 0)]), (1, [(9, 73)]), (2, [(9, 73)]), (3, [(9, 73)]), (4, [(9, 73)]), (5, [(9, 73)]), (6, [(9, 9)])]), ([(0, 99)], 0, []), ([(0, 0)], 0, []), ([(-2147483648, 2147483647)], 0, []), ([(0, 40)], 0, []), ([(0, 9)], 0, []), ([(0, 2)], 0, []), ([(0, 3)], 0, []), ([(0, 0)], 0, [(7, [(0, 6)])]), ([(-2147483648, 2147483647)], 0, []), ([(-2147483648, 2147483647)], 0, [])]
noncomputable def bG1 : List (List aI × Nat × List (Nat × List aI)) := [([(-2147483648, 2147483647)], 0, []), ([(-2147483648, 2147483647)], 0, []), ([(-2147483648, 2147483647)], 0, []), ([(-2147483648, 2147483647)], 0, []), ([(0, 4)], 0, []), ([(0, 0)], 0, [(4, [(-9223372036854775808, 9223372036854775807)]), (5, [(-9223372036854775808, 9223372036854775807)]), (6, [(-2147483648, 2147483647)]), (7, [(-2147483648, 2147483647)]), (8, [(-2147483648, 2147483647)]), (9, [(-2147483648, 2147483647)]), (10, [(-2147483648, 2147483647)]), (11, [(-2147483648, 2147483647)]), (12, [(0, 1)])]), ([(-9223372036854775808, 9223372036854775807)], 0, []), ([(-2147483648, 2147483647)], 0, []), ([(-2147483648, 2147483647)], 0, []), ([(-2147483648, 2147483647)], 0, []), ([(0, 0)], 0, [(4, [(-9223372036854775808, 9223372036854775807)]), (5, [(-9223372036854775808, 9223372036854775807)]), (6, [(-2147483648, 2147483647)]), (7, [(-2147483648, 2147483647)]), (8, [(-2147483648, 2147483647)]), (9, [(-2147483648, 2147483647)]), (10, [(-2147483648, 2147483647)]), (11, [(-2147483648, 2147483647)]), (12, [(0, 1)])]), ([(-9223372036854775808, 9223372036854775807)], 0, []), ([(-2147483648, 2147483647)], 0, []), ([(-2147483648, 2147483647)], 0, []), ([(-2147483648, 2147483647)], 0, []), ([(0, 0)], 0, [(2, [(0, 40)])])]
noncomputable def bG2 : List (List aI × Nat × List (Nat × List aI)) := [([(-2147483648, 2147483647)], 0, []), ([(0, 0)], 0, [(2, [(0, 4)]), (3, [(-2147483648, 2147483647)]), (4, [(-2147483648, 2147483647)])]), ([(0, 0)], 0, [(10, [(0, 3)]), (11, [(0, 11)]), (12, [(-2147483648, 2147483647)]), (13, [(-2147483648, 2147483647)]), (14, [(-9223372036854775808, 9223372036854775807)])]), ([(-9223372036854775808, 9223372036854775807)], 0, []), ([(-9223372036854775808, 9223372036854775807)], 0, []), ([(-2147483648, 2147483647)], 0, []), ([(-2147483648, 2147483647)], 0, []), ([(0, 100000)], 0, []), ([(-2147483648, 2147483647)], 0, []), ([(-2147483648, 2147483647)], 0, []), ([(0, 6)], 0, []), ([(0, 0)], 0, []), ([(-2147483648, 2147483647)], 0, []), ([(0, 0)], 0, []), ([(0, 0)], 0, []), ([(0, 0)], 0, [(4, [(-9223372036854775808, 9223372036854775807)]), (5, [(-9223372036854775808, 9223372036854775807)]), (6, [(-2147483648, 2147483647)]), (7, [(-2147483648, 2147483647)]), (8, [(-2147483648, 2147483647)]), (9, [(-2147483648, 2147483647)]), (10, [(-2147483648, 2147483647)]), (11, [(-2147483648, 2147483647)]), (12, [(0, 1)])])]
noncomputable def bG3 : List (List aI × Nat × List (Nat × List aI)) := [([(-9223372036854775808, 9223372036854775807)], 0, []), ([(-2147483648, 2147483647)], 0, []), ([(-2147483648, 2147483647)], 0, []), ([(-2147483648, 2147483647)], 0, []), ([(0, 0)], 0, [(4, [(-9223372036854775808, 9223372036854775807)]), (5, [(-9223372036854775808, 9223372036854775807)]), (6, [(-2147483648, 2147483647)]), (7, [(-2147483648, 2147483647)]), (8, [(-2147483648, 2147483647)]), (9, [(-2147483648, 2147483647)]), (10, [(-2147483648, 2147483647)]), (11, [(-2147483648, 2147483647)]), (12, [(0, 1)])]), ([(-9223372036854775808, 9223372036854775807)], 0, []), ([(-2147483648, 2147483647)], 0, []), ([(-2147483648, 2147483647)], 0, []), ([(-2147483648, 2147483647)], 0, []), ([(0, 0)], 0, [(4, [(-9223372036854775808, 9223372036854775807)]), (5, [(-9223372036854775808, 9223372036854775807)]), (6, [(-2147483648, 2147483647)]), (7, [(-2147483648, 2147483647)]), (8, [(-2147483648, 2147483647)]), (9, [(-2147483648, 2147483647)]), (10, [(-2147483648, 2147483647)]), (11, [(-2147483648, 2147483647)]), (12, [(0, 1)])]), ([(-9223372036854775808, 9223372036854775807)], 0, []), ([(-2147483648, 2147483647)], 0, []), ([(-2147483648, 2147483647)], 0, []), ([(-2147483648, 2147483647)], 0, []), ([(0, 0)], 0, []), ([(0, 0)], 0, [(4, [(-9223372036854775808, 9223372036854775807)]), (5, [(-9223372036854775808, 9223372036854775807)]), (6, [(-2147483648, 2147483647)]), (7, [(-2147483648, 2147483647)]), (8, [(-2147483648, 2147483647)]), (9, [(-2147483648, 2147483647)]), (10, [(-2147483648, 2147483647)]), (11, [(-2147483648, 2147483647)]), (12, [(0, 1)])])]
noncomputable def bG4 : List (List aI × Nat × List (Nat × List aI)) := [([(-9223372036854775808, 9223372036854775807)], 0, []), ([(-2147483648, 2147483647)], 0, []), ([(-2147483648, 2147483647)], 0, []), ([(-2147483648, 2147483647)], 0, []), ([(0, 0)], 0, [(4, [(-9223372036854775808, 9223372036854775807)]), (5, [(-9223372036854775808, 9223372036854775807)]), (6, [(-2147483648, 2147483647)]), (7, [(-2147483648, 2147483647)]), (8, [(-2147483648, 2147483647)]), (9, [(-2147483648, 2147483647)]), (10, [(-2147483648, 2147483647)]), (11, [(-2147483648, 2147483647)]), (12, [(0, 1)])]), ([(-9223372036854775808, 9223372036854775807)], 0, []), ([(-2147483648, 2147483647)], 0, []), ([(-2147483648, 2147483647)], 0, []), ([(-2147483648, 2147483647)], 0, []), ([(0, 0)], 0, [(4, [(-9223372036854775808, 9223372036854775807)]), (5, [(-9223372036854775808, 9223372036854775807)]), (6, [(-2147483648, 2147483647)]), (7, [(-2147483648, 2147483647)]), (8, [(-2147483648, 2147483647)]), (9, [(-2147483648, 2147483647)]), (10, [(-2147483648, 2147483647)]), (11, [(-2147483648, 2147483647)]), (12, [(0, 1)])]), ([(-9223372036854775808, 9223372036854775807)], 0, []), ([(-2147483648, 2147483647)], 0, []), ([(-2147483648, 2147483647)], 0, []), ([(-2147483648, 2147483647)], 0, []), ([(-2147483648, 2147483647)], 0, []), ([(0, 0)], 0, [(6, [(0, 60)])])]
noncomputable def bG5 : List (List aI × Nat × List (Nat × List aI)) := [([(0, 0)], 0, [(4, [(-9223372036854775808, 9223372036854775807)]), (5, [(-9223372036854775808, 9223372036854775807)]), (6, [(-2147483648, 2147483647)]), (7, [(-2147483648, 2147483647)]), (8, [(-2147483648, 2147483647)]), (9, [(-2147483648, 2147483647)]), (10, [(-2147483648, 2147483647)]), (11, [(-2147483648, 2147483647)]), (12, [(0, 1)])]), ([(-9223372036854775808, 9223372036854775807)], 0, []), ([(-2147483648, 2147483647)], 0, []), ([(-2147483648, 2147483647)], 0, []), ([(-2147483648, 2147483647)], 0, []), ([(-2147483648, 2147483647)], 0, []), ([(-2147483648, 2147483647)], 0, []), ([(0, 0)], 0, [(2, [(0, 5)]), (3, [(0, 6)]), (4, [(0, 1)]), (9, [(0, 400)]), (10, [(0, 60)]), (11, [(0, 60)]), (12, [(-2147483648, 2147483647)]), (13, [(-2147483648, 2147483647)]), (14, [(0, 60)]), (15, [(0, 60)]), (22, [(-2147483648, 2147483647)]), (33, [(-2147483648, 2147483647)]), (34, [(0, 4)]), (41, [(0, 3000)]), (42, [(-1, 2)]), (43, [(-1, 40)])]), ([(-2147483648, 2147483647)], 0, bGrow), ([(-2147483648, 2147483647)], 120, bGrow), ([(0, 1)], 0, []), ([(0, 1)], 0, []), ([(0, 9)], 0, [(0, [(0, 0)]), (1, [(1, 9)]), (2, [(1, 9)]), (3, [(1, 9)]), (4, [(1, 9)]), (5, [(1, 9)]), (6, [(0, 0)])]), ([(-128, 127)], 0, []), ([(0, 8)], 0, []), ([(0, 9), (16, 25), (32, 41), (48, 57), (64, 73), (256, 265), (272, 281), (288, 297), (304, 313), (320, 329), (336, 345), (352, 361), (512, 521), (528, 537), (544, 553), (560, 569), (768, 774), (784, 790), (800, 806), (816, 822), (832, 838), (1024, 1028), (1040, 1044), (1056, 1060), (1072, 1076), (1280, 1280), (1536, 1536), (1792, 1792)], 0, [])]
noncomputable def bG6 : List (List aI × Nat × List (Nat × List aI)) := [([(0, 3)], 0, []), ([(0, 9)], 0, []), ([(0, 60)], 0, []), ([(0, 9), (16, 25), (32, 41), (48, 57), (64, 73), (256, 265), (272, 281), (288, 297), (304, 313), (320, 329), (336, 345), (352, 361), (512, 521), (528, 537), (544, 553), (560, 569), (768, 774), (784, 790), (800, 806), (816, 822), (832, 838), (1024, 1028), (1040, 1044), (1056, 1060), (1072, 1076), (1280, 1280), (1536, 1536), (1792, 1792)], 0, []), ([(0, 4)], 0, []), ([(-2147483648, 2147483647)], 0, []), ([(-2147483648, 2147483647)], 0, []), ([(-2147483648, 2147483647)], 0, []), ([(-2147483648, 2147483647)], 0, []), ([(-2147483648, 2147483647)], 0, []), ([(-2147483648, 2147483647)], 0, []), ([(0, 1)], 0, []), ([(-1, 19)], 0, [(0, [(0, 6)]), (1, [(-1, 19)]), (2, [(-1, 19)]), (3, [(-1, 19)]), (4, [(-1, 19)]), (5, [(-1, 19)]), (6, [(-1, 7)]), (7, [(-1, 7)]), (8, [(-1, 7)]), (9, [(-1, 7)]), (10, [(0, 6)]), (11, [(-1, 19)]), (12, [(-1, 19)]), (13, [(-1, 19)]), (14, [(-1, 19)]), (15, [(-1, 19)]), (16, [(-1, 7)]), (17, [(-1, 7)]), (18, [(-1, 7)]), (19, [(-1, 7)]), (20, [(0, 6)]), (21, [(-1, 19)]), (22, [(-1, 19)]), (23, [(-1, 19)]), (24, [(-1, 19)]), (25, [(-1, 19)]), (26, [(-1, 7)]), (27, [(-1, 7)]), (28, [(-1, 7)]), (29, [(-1, 7)]), (30, [(0, 6)]), (31, [(-1, 19)]), (32, [(-1, 19)]), (33, [(-1, 19)]), (34, [(-1, 19)]), (35, [(-1, 19)]), (36, [(-1, 7)]), (37, [(-1, 7)]), (38, [(-1, 7)]), (39, [(-1, 7)]), (40, [(0, 6)]), (41, [(-1, 19)]), (42, [(-1, 19)]), (43, [(-1, 19)]), (44, [(-1, 19)]), (45, [(-1, 19)]), (46, [(-1, 7)]), (47, [(-1, 7)]), (48, [(-1, 7)]), (49, [(-1, 7)])]), ([(0, 1)], 0, []), ([(0, 40)], 0, []), ([(0, 40)], 0, [])]
noncomputable def bG7 : List (List aI × Nat × List (Nat × List aI)) := [([(0, 42)], 0, []), ([(0, 36)], 0, []), ([(-9223372036854775808, 9223372036854775807)], 0, []), ([(0, 41)], 0, []), ([(-1, 60)], 0, []), ([(-2147483648, 2147483647)], 0, []), ([(-1, 2)], 0, []), ([(0, 1)], 0, []), ([(-1, 60)], 0, []), ([(-2147483648, 2147483647)], 0, []), ([(-1, 2)], 0, []), ([(0, 56)], 0, []), ([(0, 1)], 0, []), ([(-2147483648, 2147483647)], 0, [])]
noncomputable def bGT : aT2 (List aI × Nat × List (Nat × List aI)) := [bG0, bG1, bG2, bG3, bG4, bG5, bG6, bG7]
noncomputable def bR0 : List (Nat × Bool) := [(0, true), (13, true), (18, false), (19, true), (25, false), (26, false), (27, false), (28, true), (33, false), (34, false), (35, false), (36, false), (37, false), (38, true), (46, false), (47, false)]
noncomputable def bR1 : List (Nat × Bool) := [(48, false), (49, false), (50, false), (51, false), (52, false), (53, true), (66, false), (67, false), (68, false), (69, false), (70, true), (83, false), (84, false), (85, false), (86, false), (87, true)]
noncomputable def bR2 : List (Nat × Bool) := [(90, false), (91, true), (96, true), (111, false), (112, false), (113, false), (114, false), (115, false), (116, false), (117, false), (118, false), (119, true), (123, false), (124, true), (129, false), (130, true)]
noncomputable def bR3 : List (Nat × Bool) := [(143, false), (144, false), (145, false), (146, false), (147, true), (160, false), (161, false), (162, false), (163, false), (164, true), (177, false), (178, false), (179, false), (180, false), (181, false), (182, true)]
noncomputable def bR4 : List (Nat × Bool) := [(195, false), (196, false), (197, false), (198, false), (199, true), (212, false), (213, false), (214, false), (215, false), (216, true), (229, false), (230, false), (231, false), (232, false), (233, false), (234, true)]
noncomputable def bR5 : List (Nat × Bool) := [(241, true), (254, false), (255, false), (256, false), (257, false), (258, false), (259, false), (260, true), (314, true), (434, true), (1634, false), (1635, false), (1636, false), (1637, false), (1638, false), (1639, false)]
noncomputable def bR6 : List (Nat × Bool) := [(1640, false), (1641, false), (1642, false), (1643, false), (1644, false), (1645, false), (1646, false), (1647, false), (1648, false), (1649, false), (1650, false), (1651, false), (1652, false), (1653, false), (1654, false), (1655, false)]
noncomputable def bR7 : List (Nat × Bool) := [(1656, false), (1657, false), (1658, false), (1659, false), (1660, false), (1661, false), (1662, false), (1663, false), (1664, false), (1665, false), (1666, false), (1667, false), (1668, false), (1669, false)]
noncomputable def bRT : aT2 (Nat × Bool) := [bR0, bR1, bR2, bR3, bR4, bR5, bR6, bR7]
def bPM : Nat := 12816005669133869623779517688894234720835536069578993778880196639902968581039604193099635556345830270512583656525750460395111739652471793945275320760485897053417004535079651162745462992996560058126480022911641754999928267184481467605315970450263736541913164177309029020067462237260781923489573986624593671234459844301533447739789634713198416472356420317978395624784733262209183543866858542239808541648433463371609556137922527028291817935522516680279376935842483733504378717442548073627542389438676992
end
end
section
/-! THE ABSTRACT MACHINE, SECOND MAKE: a table of what always holds of each cell (bGT); the state keeps what differs from it -/
section
/-- what an entry says: a form, or one of some intervals -/
abbrev bN : Type := aF ⊕ List aI
abbrev bO : Type := List (Nat × bN)
abbrev bH : Type := List (Nat × bO)
/-- what was read of a row at a place that is a form -/
abbrev bS : Type := List (Nat × aF × aF)
/-- heap, reads, regions written (bits) -/
abbrev bM : Type := bH × bS × Nat
/-- an int (false) or a long (true); or one of some places -/
abbrev bV : Type := (Bool × aF) ⊕ List Nat
abbrev bL : Type := List (Option bV)
noncomputable def bGe (p k : Nat) : List aI := match fG2 bGT p with
  | some g => (match fLk g.2.2 (bif Nat.beq g.2.1 0 then k else Nat.mod k g.2.1) with
    | some e => e
    | none => g.1)
  | none => [(.negSucc 9223372036854775807, .ofNat 9223372036854775807)]
/-- one for all places of a row -/
noncomputable def bGu (p : Nat) : Option (List aI) := match fG2 bGT p with
  | some (d, _, []) => some d
  | _ => none
theorem bGu_ok {p : Nat} {d : List aI} (h : bGu p = some d) (k : Nat) : bGe p k = d := by
  unfold bGu at h
  unfold bGe
  split at h
  · rename_i d0 m hg
    cases h
    rw [hg]
    rfl
  · cases h
/-- the region of a cell: a row is one, unless it is told apart; a field is one -/
noncomputable def bRg (p k : Nat) : Nat := match fG2 bRT p with
  | some b => bif b.2 then Nat.add b.1 k else b.1
  | none => 0
/-- the regions of a to a + n -/
noncomputable def bRm (p a n : Nat) : Nat := match fG2 bRT p with
  | some b => bif b.2 then (2 ^ (n + 1) - 1) <<< (b.1 + a) else 1 <<< b.1
  | none => 1
theorem bRm_ok (p a n k : Nat) (h1 : a ≤ k) (h2 : k ≤ a + n) : (bRm p a n).testBit (bRg p k) = true := by
  unfold bRm bRg
  cases fG2 bRT p with
  | none =>
    show Nat.testBit 1 0 = true
    decide
  | some b =>
    obtain ⟨b1, b2⟩ := b
    cases b2 with
    | true =>
      show ((2 ^ (n + 1) - 1) <<< (b1 + a)).testBit (b1 + k) = true
      rw [Nat.testBit_shiftLeft]
      simp only [Nat.testBit_two_pow_sub_one, Bool.and_eq_true, decide_eq_true_eq]
      omega
    | false =>
      show (1 <<< b1).testBit b1 = true
      rw [Nat.one_shiftLeft]
      exact Nat.testBit_two_pow_self
/-- a row that is one region -/
noncomputable def bSing (p : Nat) : Bool := match fG2 bRT p with
  | some b => !b.2
  | none => false
noncomputable def bEn (H : bH) (p k : Nat) : bN := match fLk H p with
  | some o => (match fLk o k with
    | some e => e
    | none => .inr (bGe p k))
  | none => .inr (bGe p k)
noncomputable def bSetO (p k : Nat) (e : bN) (H : bH) (K : bH → Bool) : Bool := match fLk H p with
  | some o => fDel k o fun o => fDel p H fun H => K ((p, (k, e) :: o) :: H)
  | none => K ((p, [(k, e)]) :: H)
theorem bSetO_ok {p k : Nat} {e : bN} {H : bH} {K : bH → Bool} (h : bSetO p k e H K = true) : ∃ H', (∀ q j, bEn H' q j = if q = p ∧ j = k then e else bEn H q j) ∧ K H' = true := by
  unfold bSetO at h
  rw [fLk_eq] at h
  cases hp : pmLk H p with
  | some o =>
    rw [hp] at h
    simp only [fDel_eq] at h
    refine ⟨_, fun q j => ?_, h⟩
    unfold bEn
    simp only [fLk_eq]
    rw [pmLk_cons, pmLk_del]
    by_cases hq : q = p
    · subst hq
      rw [if_pos rfl]
      simp only [true_and]
      rw [pmLk_cons, pmLk_del, hp]
      by_cases hj : j = k
      · subst hj
        rw [if_pos rfl, if_pos rfl]
      · rw [if_neg (Ne.symm hj), if_neg hj, if_neg hj]
    · rw [if_neg (Ne.symm hq), if_neg hq, if_neg (fun e => hq e.1)]
  | none =>
    rw [hp] at h
    refine ⟨_, fun q j => ?_, h⟩
    unfold bEn
    simp only [fLk_eq]
    rw [pmLk_cons]
    by_cases hq : q = p
    · subst hq
      rw [if_pos rfl]
      simp only [true_and]
      rw [pmLk_cons, hp]
      by_cases hj : j = k
      · subst hj
        rw [if_pos rfl, if_pos rfl]
      · rw [if_neg (Ne.symm hj), if_neg hj]
        rfl
    · rw [if_neg (Ne.symm hq), if_neg (fun e => hq e.1)]
noncomputable def bCov (j : aI) (l : List aI) : Bool := List.rec false (fun i _ ih => Bool.rec ih true (zLe i.1 j.1 && zLe j.2 i.2)) l
/-- z is in one of them -/
def bIn (l : List aI) (z : Int) : Prop := ∃ i ∈ l, i.1 ≤ z ∧ z ≤ i.2
theorem bCov_ok {j : aI} : ∀ {l : List aI} {z : Int}, bCov j l = true → j.1 ≤ z → z ≤ j.2 → bIn l z := fun {l} => by
  induction l with
  | nil => intro z h; cases h
  | cons i t ih =>
    intro z h h1 h2
    have h : (Bool.rec (bCov j t) true (zLe i.1 j.1 && zLe j.2 i.2) : Bool) = true := h
    cases hb : (zLe i.1 j.1 && zLe j.2 i.2) with
    | true =>
      rw [zLe_eq, zLe_eq, Bool.and_eq_true, decide_eq_true_eq, decide_eq_true_eq] at hb
      exact ⟨i, List.mem_cons_self, by omega, by omega⟩
    | false =>
      rw [hb] at h
      obtain ⟨q, hq, g⟩ := ih h h1 h2
      exact ⟨q, List.mem_cons_of_mem _ hq, g⟩
/-- every interval in turn -/
noncomputable def bFk (E : aE) (K : aE → aF → Bool) (l : List aI) : Bool := List.rec true (fun i _ ih => aNew E i K && ih) l
/-- the hull -/
noncomputable def bLh (l : List aI) : Option aI := List.rec none (fun i _ ih => match ih with
  | some j => some (aMin i.1 j.1, aMax i.2 j.2)
  | none => some i) l
noncomputable def bEi (E : aE) (e : bN) : Option aI := match e with
  | .inl g => aItv E g
  | .inr l => bLh l
noncomputable def bHu (E : aE) (H : bH) (p a : Nat) : Nat → Option aI
  | 0 => bEi E (bEn H p a)
  | n + 1 => match bHu E H p a n, bEi E (bEn H p (a + n + 1)) with
    | some i, some j => some (aMin i.1 j.1, aMax i.2 j.2)
    | _, _ => none
noncomputable def bGetK (E : aE) (H : bH) (p k : Nat) (K : aE → bH → aF → Bool) : Bool := match bEn H p k with
  | .inl g => K E H g
  | .inr l => (match l with
    | [i] => bif zEq i.1 i.2 then aFz i.1 fun z => K E H (0, z) else aNew E i fun E' g => bSetO p k (.inl g) H fun H' => K E' H' g
    | _ => bFk E (fun E' g => bSetO p k (.inl g) H fun H' => K E' H' g) l)
noncomputable def bSf (p : Nat) (f : aF) : bS → Option aF
  | [] => none
  | q :: t => bif Nat.beq q.1 p && (Nat.beq q.2.1.1 f.1 && zEq q.2.1.2 f.2) then some q.2.2 else bSf p f t
/-- a row's place: a number, or a form -/
noncomputable def bGetA (E : aE) (H : bH) (S : bS) (p : Nat) (f : aF) (K : aE → bH → bS → aF → Bool) : Bool := match aItv E f with
  | some i => bif zEq i.1 i.2 && zLe 0 i.1 then aFn i.1.toNat fun k => bGetK E H p k fun E H g => K E H S g
    else bif zLe 0 i.1 then (match bSf p f S with
      | some g => K E H S g
      | none => (match bGu p, fLk H p with
        | some d, none => bFk E (fun E g => K E H ((p, f, g) :: S) g) d
        | _, _ => aFn (i.2 - i.1).toNat fun n => bif Nat.ble n 200 then (match bHu E H p i.1.toNat n with
          | some j => aNew E j fun E g => K E H ((p, f, g) :: S) g
          | none => false) else false)) else false
  | none => false
noncomputable def bW1 (E : aE) (p k : Nat) (j : aI) (H : bH) (K : bH → Bool) : Bool := match bEn H p k with
  | .inl g => (match aItv E g with
    | some i => aFz (aMin i.1 j.1) fun a => aFz (aMax i.2 j.2) fun b => bSetO p k (.inr [(a, b)]) H K
    | none => false)
  | .inr l => bif bCov j l then K H else bSetO p k (.inr (j :: l)) H K
noncomputable def bWp (E : aE) (p a : Nat) (j : aI) : Nat → bH → (bH → Bool) → Bool
  | 0, H, K => bW1 E p a j H K
  | n + 1, H, K => bWp E p a j n H fun H => bW1 E p (a + n + 1) j H K
noncomputable def bPutA (E : aE) (H : bH) (S : bS) (p : Nat) (f g : aF) (K : bH → bS → Nat → Bool) : Bool := match aItv E f, aItv E g with
  | some i, some j => bif zEq i.1 i.2 && zLe 0 i.1 then aFn i.1.toNat fun k => bSetO p k (.inl g) H fun H => fDel p S fun S => K H S (bRm p k 0)
    else bif zLe 0 i.1 then fDel p S fun S => aFn i.1.toNat fun a => aFn (i.2 - i.1).toNat fun n => (match bGu p, fLk H p with
      | some d, none => bif bCov j d then K H ((p, f, g) :: S) (bRm p a n) else false
      | _, _ => bif Nat.ble n 200 then bWp E p a j n H fun H => K H ((p, f, g) :: S) (bRm p a n) else false) else false
  | _, _ => false
/-- under guard: as long as no region from 3000 on is there -/
noncomputable def bFg (W : Nat) : Bool := Nat.beq (Nat.shiftRight W 3000) 0
/-- what is written is not under guard -/
noncomputable def bPr (W m : Nat) : Bool := bif bFg W then Nat.beq (Nat.land bPM m) 0 else true
noncomputable def bNm (X : aX) (M : bM) (k : aX → bM → Bool) : Bool := match X, M with
  | (E, C, S), (H, R, W) => aFw E fun E => aFw C fun C => aFw S fun S => aFw H fun H => aFw R fun R => aFn W fun W => k (E, C, S) (H, R, W)
theorem bNm_eq (X : aX) (M : bM) (k : aX → bM → Bool) : bNm X M k = k X M := by
  obtain ⟨E, C, S⟩ := X
  obtain ⟨H, R, W⟩ := M
  simp only [bNm, aFw_eq, aFn_eq]
end
end
section
/-! the second make is sound: the heap -/
section
def bEk (n : Nat) (ρ : Nat → Int) (e : bN) (z : Int) : Prop := match e with
  | .inl g => aFok n ρ g z
  | .inr l => bIn l z
def bHok (n : Nat) (ρ : Nat → Int) (H : bH) (φ : Nat → Nat → Int) : Prop := ∀ p k, bEk n ρ (bEn H p k) (φ p k)
def bSk (n : Nat) (ρ : Nat → Int) (S : bS) (φ : Nat → Nat → Int) : Prop := ∀ q ∈ S, q.2.1.1 < n ∧ (0 ≤ ρ q.2.1.1 + q.2.1.2 → aFok n ρ q.2.2 (φ q.1 (ρ q.2.1.1 + q.2.1.2).toNat))
variable {L : aLa} {x y z d : Int} {ρ ρ' : Nat → Int} {E E' : aE} {X : aX} {f g : aF} {i j : aI} {n n' p k : Nat} {H : bH} {S : bS} {φ φ' : Nat → Nat → Int} {e : bN}
theorem bEk.ext (h : bEk n ρ e z) (hn : n ≤ n') (he : aExt n ρ ρ') : bEk n' ρ' e z := by
  cases e with
  | inl g => exact aFok.ext h hn he
  | inr l => exact h
theorem bHok.ext (h : bHok n ρ H φ) (hn : n ≤ n') (he : aExt n ρ ρ') : bHok n' ρ' H φ := fun p k => (h p k).ext hn he
theorem bSk.ext (h : bSk n ρ S φ) (hn : n ≤ n') (he : aExt n ρ ρ') : bSk n' ρ' S φ := fun q hq => by
  obtain ⟨h1, h2⟩ := h q hq
  refine ⟨Nat.lt_of_lt_of_le h1 hn, ?_⟩
  rw [he _ h1]
  exact fun h0 => (h2 h0).ext hn he
theorem bHok.set {e : bN} {K : bH → Bool} (h : bHok n ρ H φ) (he : bEk n ρ e (φ' p k)) (ho : ∀ q j, ¬ (q = p ∧ j = k) → φ' q j = φ q j) (hK : bSetO p k e H K = true) : ∃ H', bHok n ρ H' φ' ∧ K H' = true := by
  obtain ⟨H', h1, h2⟩ := bSetO_ok hK
  refine ⟨H', fun q j => ?_, h2⟩
  rw [h1]
  by_cases c : q = p ∧ j = k
  · rw [if_pos c, c.1, c.2]
    exact he
  · rw [if_neg c, ho q j c]
    exact h q j
theorem bFk_ok {K : aE → aF → Bool} (hE : aEok L ρ E) : ∀ {l : List aI}, bIn l z → bFk E K l = true → aGv L E ρ z K := fun {l} => by
  induction l with
  | nil => intro h; obtain ⟨i, hi, -⟩ := h; cases hi
  | cons i t ih =>
    intro h hK
    have hK : (aNew E i K && bFk E K t) = true := hK
    rw [Bool.and_eq_true] at hK
    obtain ⟨q, hq, h1, h2⟩ := h
    rcases List.mem_cons.mp hq with rfl | hq
    · exact aNew_ok hE h1 h2 hK.1
    · exact ih ⟨q, hq, h1, h2⟩ hK.2
theorem bLh_ok : ∀ {l : List aI} {j : aI}, bLh l = some j → bIn l z → j.1 ≤ z ∧ z ≤ j.2 := fun {l} => by
  induction l with
  | nil => intro j h; cases h
  | cons i t ih =>
    intro j h hz
    have h : (match bLh t with | some j => some (aMin i.1 j.1, aMax i.2 j.2) | none => some i) = some j := h
    obtain ⟨q, hq, h1, h2⟩ := hz
    cases ht : bLh t with
    | some w =>
      rw [ht] at h
      cases h
      have m1 := aMin_le i.1 w.1
      have m2 := aMax_le i.2 w.2
      show aMin i.1 w.1 ≤ z ∧ z ≤ aMax i.2 w.2
      rcases List.mem_cons.mp hq with rfl | hq
      · omega
      · have := ih ht ⟨q, hq, h1, h2⟩
        omega
    | none =>
      rw [ht] at h
      cases h
      rcases List.mem_cons.mp hq with rfl | hq
      · exact ⟨h1, h2⟩
      · exfalso
        cases t with
        | nil => cases hq
        | cons a t =>
          have ht : (match bLh t with | some j => some (aMin a.1 j.1, aMax a.2 j.2) | none => some a) = none := ht
          cases h3 : bLh t with
          | some _ => rw [h3] at ht; cases ht
          | none => rw [h3] at ht; cases ht
theorem bEi_ok (hE : aEok L ρ E) (h : bEi E e = some j) (hz : bEk n ρ e z) : j.1 ≤ z ∧ z ≤ j.2 := by
  unfold bEi at h
  split at h
  · exact aItv_ok hE hz h
  · exact bLh_ok h hz
theorem bHu_ok (hE : aEok L ρ E) (hH : bHok n ρ H φ) (a : Nat) : ∀ (m : Nat) (j : aI), bHu E H p a m = some j → ∀ k, a ≤ k → k ≤ a + m → j.1 ≤ φ p k ∧ φ p k ≤ j.2
  | 0, j, h, k, h1, h2 => by
    have : k = a := by omega
    subst this
    exact bEi_ok hE h (hH p k)
  | m + 1, j, h, k, h1, h2 => by
    unfold bHu at h
    split at h
    · rename_i u w hu hw
      cases h
      have m1 := aMin_le u.1 w.1
      have m2 := aMax_le u.2 w.2
      show aMin u.1 w.1 ≤ φ p k ∧ φ p k ≤ aMax u.2 w.2
      by_cases c : k ≤ a + m
      · have := bHu_ok hE hH a m u hu k h1 c
        omega
      · have : k = a + m + 1 := by omega
        subst this
        have := bEi_ok hE hw (hH p (a + m + 1))
        omega
    · cases h
def bGh (L : aLa) (E : aE) (ρ : Nat → Int) (S : bS) (φ : Nat → Nat → Int) (z : Int) (K : aE → bH → bS → aF → Bool) : Prop :=
  ∃ E' ρ' H' S' g, E.length ≤ E'.length ∧ aExt E.length ρ ρ' ∧ aEok L ρ' E' ∧ bHok E'.length ρ' H' φ ∧ bSk E'.length ρ' S' φ ∧ aFok E'.length ρ' g z ∧ K E' H' S' g = true
theorem bGetK_ok {K : aE → bH → aF → Bool} (hE : aEok L ρ E) (hH : bHok E.length ρ H φ) (hS : bSk E.length ρ S φ) (hK : bGetK E H p k K = true) : bGh L E ρ S φ (φ p k) (fun E H _ g => K E H g) := by
  have hk := hH p k
  unfold bGetK at hK
  have key : ∀ l : List aI, bEn H p k = .inr l → bFk E (fun E' g => bSetO p k (.inl g) H fun H' => K E' H' g) l = true → bGh L E ρ S φ (φ p k) (fun E H _ g => K E H g) := fun l he h => by
    rw [he] at hk
    obtain ⟨E', ρ', g, h1, h2, h3, h4, h5⟩ := bFk_ok hE hk h
    obtain ⟨H', g1, g2⟩ := (hH.ext h1 h2).set (e := .inl g) (p := p) (k := k) (φ' := φ) h4 (fun _ _ _ => rfl) h5
    exact ⟨E', ρ', H', S, g, h1, h2, h3, g1, hS.ext h1 h2, h4, g2⟩
  split at hK
  · rename_i g hg
    rw [hg] at hk
    exact ⟨E, ρ, H, S, g, Nat.le_refl _, aExt.rf, hE, hH, hS, hk, hK⟩
  · rename_i l hl
    split at hK
    · rename_i i
      rw [zEq_eq, zIf] at hK
      split at hK
      · rename_i hi
        rw [aFz_eq] at hK
        rw [hl] at hk
        obtain ⟨q, hq, q1, q2⟩ := hk
        rw [List.mem_singleton] at hq
        subst hq
        have hz : φ p k = q.1 := by omega
        rw [hz]
        exact ⟨E, ρ, H, S, _, Nat.le_refl _, aExt.rf, hE, hH, hS, aFok.c0 hE, hK⟩
      · exact key [i] hl (by
          show (aNew E i _ && true) = true
          rw [Bool.and_true]
          exact hK)
    · exact key _ hl hK
theorem bSf_ok : ∀ (S : bS), bSk n ρ S φ → aFok n ρ f x → 0 ≤ x → bSf p f S = some g → aFok n ρ g (φ p x.toNat)
  | [], _, _, _, h => by cases h
  | q :: t, hS, hf, h0, h => by
    unfold bSf at h
    rw [zEq_eq] at h
    cases hc : (Nat.beq q.1 p && (Nat.beq q.2.1.1 f.1 && decide (q.2.1.2 = f.2))) with
    | true =>
      rw [hc] at h
      cases h
      simp only [Bool.and_eq_true, decide_eq_true_eq] at hc
      have e0 := Nat.eq_of_beq_eq_true hc.1
      have e1 := Nat.eq_of_beq_eq_true hc.2.1
      obtain ⟨-, h2⟩ := hS q List.mem_cons_self
      rw [e0, e1, hc.2.2, ← hf.2] at h2
      exact h2 h0
    | false =>
      rw [hc] at h
      exact bSf_ok t (fun r hr => hS r (List.mem_cons_of_mem _ hr)) hf h0 h
theorem bSk_cons (hS : bSk n ρ S φ) (hf : aFok n ρ f x) (hg : aFok n ρ g (φ p x.toNat)) : bSk n ρ ((p, f, g) :: S) φ := fun q hq => by
  rcases List.mem_cons.mp hq with rfl | hq
  · refine ⟨hf.1, fun _ => ?_⟩
    show aFok n ρ g (φ p (ρ f.1 + f.2).toNat)
    rw [← hf.2]
    exact hg
  · exact hS q hq
theorem bGetA_ok {K : aE → bH → bS → aF → Bool} (hE : aEok L ρ E) (hH : bHok E.length ρ H φ) (hS : bSk E.length ρ S φ) (hf : aFok E.length ρ f x) (hx : x.toNat = k) (hK : bGetA E H S p f K = true) : bGh L E ρ S φ (φ p k) K := by
  subst hx
  unfold bGetA at hK
  simp only [zEq_eq, zLe_eq, zAnd, zIf, aFn_eq, fLk_eq] at hK
  split at hK
  · rename_i i hi
    have a := aItv_ok hE hf hi
    split at hK
    · have e : i.1.toNat = x.toNat := by congr 1; omega
      rw [e] at hK
      obtain ⟨E', ρ', H', S', g, h1, h2, h3, h4, h5, h6, h7⟩ := bGetK_ok (S := S) hE hH hS hK
      exact ⟨E', ρ', H', S, g, h1, h2, h3, h4, hS.ext h1 h2, h6, h7⟩
    · split at hK
      · rename_i h0
        have hx0 : 0 ≤ x := by omega
        split at hK
        · rename_i g hg
          exact ⟨E, ρ, H, S, g, Nat.le_refl _, aExt.rf, hE, hH, hS, bSf_ok S hS hf hx0 hg, hK⟩
        · split at hK
          · rename_i dd hd hn
            have hz : bIn dd (φ p x.toNat) := by
              have := hH p x.toNat
              unfold bEn at this
              rw [fLk_eq, hn, bGu_ok hd] at this
              exact this
            obtain ⟨E', ρ', g, h1, h2, h3, h4, h5⟩ := bFk_ok hE hz hK
            exact ⟨E', ρ', H, (p, f, g) :: S, g, h1, h2, h3, hH.ext h1 h2, bSk_cons (hS.ext h1 h2) (hf.ext h1 h2) h4, h4, h5⟩
          · cases hb : Nat.ble (i.2 - i.1).toNat 200 with
            | false => rw [hb] at hK; cases hK
            | true =>
              rw [hb] at hK
              simp only [cond_true] at hK
              split at hK
              · rename_i j hj
                have hin := bHu_ok hE hH _ _ j hj x.toNat (by omega) (by omega)
                obtain ⟨E', ρ', g, h1, h2, h3, h4, h5⟩ := aNew_ok hE hin.1 hin.2 hK
                exact ⟨E', ρ', H, (p, f, g) :: S, g, h1, h2, h3, hH.ext h1 h2, bSk_cons (hS.ext h1 h2) (hf.ext h1 h2) h4, h4, h5⟩
              · cases hK
      · cases hK
  · cases hK
/-- one entry of a row that may be written: the new and the old are both in it -/
theorem bW1_ok {K : bH → Bool} (hE : aEok L ρ E) (h1 : j.1 ≤ z) (h2 : z ≤ j.2) {ψ : Nat → Nat → Int} (hψ : ∀ q m, bEk n ρ (bEn H q m) (ψ q m)) (hK : bW1 E p k j H K = true) : ∃ H', (∀ q m, bEk n ρ (bEn H' q m) (ψ q m)) ∧ bEk n ρ (bEn H' p k) z ∧ (∀ q m w, ¬ (q = p ∧ m = k) → bEk n ρ (bEn H q m) w → bEk n ρ (bEn H' q m) w) ∧ K H' = true := by
  have ho := hψ p k
  unfold bW1 at hK
  split at hK
  · rename_i g hg
    rw [hg] at ho
    split at hK
    · rename_i i hi
      rw [aFz_eq, aFz_eq] at hK
      have a := aItv_ok hE ho hi
      have m1 := aMin_le i.1 j.1
      have m2 := aMax_le i.2 j.2
      obtain ⟨H', e1, e2⟩ := bSetO_ok hK
      refine ⟨H', fun q m => ?_, ?_, fun q m w hq hw => ?_, e2⟩
      · rw [e1]
        by_cases c : q = p ∧ m = k
        · rw [if_pos c, c.1, c.2]
          exact ⟨_, List.mem_cons_self, by show aMin i.1 j.1 ≤ _; omega, by show _ ≤ aMax i.2 j.2; omega⟩
        · rw [if_neg c]
          exact hψ q m
      · rw [e1, if_pos ⟨rfl, rfl⟩]
        exact ⟨_, List.mem_cons_self, by show aMin i.1 j.1 ≤ _; omega, by show _ ≤ aMax i.2 j.2; omega⟩
      · rw [e1, if_neg hq]
        exact hw
    · cases hK
  · rename_i l hl
    rw [hl] at ho
    cases hc : bCov j l with
    | true =>
      rw [hc] at hK
      refine ⟨H, hψ, ?_, fun _ _ _ _ hw => hw, hK⟩
      rw [hl]
      exact bCov_ok hc h1 h2
    | false =>
      rw [hc] at hK
      obtain ⟨H', e1, e2⟩ := bSetO_ok hK
      refine ⟨H', fun q m => ?_, ?_, fun q m w hq hw => ?_, e2⟩
      · rw [e1]
        by_cases c : q = p ∧ m = k
        · rw [if_pos c, c.1, c.2]
          obtain ⟨q, hq, g1, g2⟩ := ho
          exact ⟨q, List.mem_cons_of_mem _ hq, g1, g2⟩
        · rw [if_neg c]
          exact hψ q m
      · rw [e1, if_pos ⟨rfl, rfl⟩]
        exact ⟨j, List.mem_cons_self, h1, h2⟩
      · rw [e1, if_neg hq]
        exact hw
theorem bWp_ok (hE : aEok L ρ E) (a : Nat) (h1 : j.1 ≤ z) (h2 : z ≤ j.2) {ψ : Nat → Nat → Int} : ∀ (m : Nat) (H : bH) (K : bH → Bool), (∀ q m, bEk n ρ (bEn H q m) (ψ q m)) → bWp E p a j m H K = true → ∃ H', (∀ q m, bEk n ρ (bEn H' q m) (ψ q m)) ∧ (∀ k, a ≤ k → k ≤ a + m → bEk n ρ (bEn H' p k) z) ∧ (∀ q k w, ¬ (q = p ∧ a ≤ k ∧ k ≤ a + m) → bEk n ρ (bEn H q k) w → bEk n ρ (bEn H' q k) w) ∧ K H' = true
  | 0, H, K, hψ, hK => by
    obtain ⟨H', g1, g2, g3, g4⟩ := bW1_ok hE h1 h2 hψ hK
    refine ⟨H', g1, fun k k1 k2 => ?_, fun q k w hq hw => g3 q k w (fun e => hq ⟨e.1, by omega⟩) hw, g4⟩
    have : k = a := by omega
    subst this
    exact g2
  | m + 1, H, K, hψ, hK => by
    obtain ⟨H1, a1, a2, a3, a4⟩ := bWp_ok hE a h1 h2 m H _ hψ hK
    obtain ⟨H', g1, g2, g3, g4⟩ := bW1_ok hE h1 h2 a1 a4
    refine ⟨H', g1, fun k k1 k2 => ?_, fun q k w hq hw => g3 q k w (fun e => hq ⟨e.1, by omega⟩) (a3 q k w (fun e => hq ⟨e.1, by omega⟩) hw), g4⟩
    by_cases c : k = a + m + 1
    · subst c
      exact g2
    · exact g3 p k z (fun e => c e.2) (a2 k k1 (by omega))
theorem bSk_del (hS : bSk n ρ S φ) (ho : ∀ q j, q ≠ p → φ' q j = φ q j) : bSk n ρ (S.filter fun q => !(Nat.beq q.1 p)) φ' := fun q hq => by
  obtain ⟨q1, q2⟩ := List.mem_filter.mp hq
  have hne : q.1 ≠ p := fun e => by rw [e] at q2; simp at q2
  obtain ⟨h1, h2⟩ := hS q q1
  exact ⟨h1, fun h0 => by rw [ho _ _ hne]; exact h2 h0⟩
theorem bPutA_ok {K : bH → bS → Nat → Bool} (hE : aEok L ρ E) (hH : bHok E.length ρ H φ) (hS : bSk E.length ρ S φ) (hf : aFok E.length ρ f x) (hg : aFok E.length ρ g z) (h0 : 0 ≤ x) (hx : x.toNat = k) (hK : bPutA E H S p f g K = true) : ∃ H' S' m, bHok E.length ρ H' (aUp φ p k z) ∧ bSk E.length ρ S' (aUp φ p k z) ∧ m.testBit (bRg p k) = true ∧ K H' S' m = true := by
  subst hx
  have hup : ∀ q j, ¬ (q = p ∧ j = x.toNat) → aUp φ p x.toNat z q j = φ q j := fun q j h => if_neg h
  have hup2 : ∀ q j, q ≠ p → aUp φ p x.toNat z q j = φ q j := fun q j h => if_neg (fun e => h e.1)
  have hat : aUp φ p x.toNat z p x.toNat = z := if_pos ⟨rfl, rfl⟩
  unfold bPutA at hK
  simp only [zEq_eq, zLe_eq, zAnd, zIf, aFn_eq, fLk_eq, fDel_eq] at hK
  split at hK
  · rename_i i j hi hj
    have a := aItv_ok hE hf hi
    have b := aItv_ok hE hg hj
    split at hK
    · have e : i.1.toNat = x.toNat := by congr 1; omega
      rw [e] at hK
      obtain ⟨H', g1, g2⟩ := hH.set (e := .inl g) (p := p) (k := x.toNat) (φ' := aUp φ p x.toNat z) (by rw [hat]; exact hg) hup hK
      exact ⟨H', _, _, g1, bSk_del hS hup2, bRm_ok p _ 0 _ (Nat.le_refl _) (Nat.le_refl _), g2⟩
    · split at hK
      · rename_i hpos
        have hm := bRm_ok p i.1.toNat (i.2 - i.1).toNat x.toNat (by omega) (by omega)
        have hS' : bSk E.length ρ ((p, f, g) :: S.filter fun q => !(Nat.beq q.1 p)) (aUp φ p x.toNat z) := bSk_cons (bSk_del hS hup2) hf (by rw [hat]; exact hg)
        split at hK
        · rename_i dd hd hn
          cases hc : bCov j dd with
          | false => rw [hc] at hK; cases hK
          | true =>
            rw [hc] at hK
            refine ⟨H, _, _, fun q m => ?_, hS', hm, hK⟩
            by_cases c : q = p ∧ m = x.toNat
            · rw [c.1, c.2, hat]
              unfold bEn
              rw [fLk_eq, hn, bGu_ok hd]
              exact bCov_ok hc b.1 b.2
            · rw [hup q m c]
              exact hH q m
        · cases hb : Nat.ble (i.2 - i.1).toNat 200 with
          | false => rw [hb] at hK; cases hK
          | true =>
            rw [hb] at hK
            obtain ⟨H', w1, w2, w3, w4⟩ := bWp_ok hE i.1.toNat b.1 b.2 _ H _ hH hK
            refine ⟨H', _, _, fun q m => ?_, hS', hm, w4⟩
            by_cases c : q = p ∧ m = x.toNat
            · rw [c.1, c.2, hat]
              exact w2 x.toNat (by omega) (by omega)
            · rw [hup q m c]
              exact w1 q m
      · cases hK
  · cases hK
end
end
section
/-! rules of intervals: shifts, products by a number, quotients, rests, masks -/
section
theorem bSm32 (y : Int32) (h0 : 0 ≤ y.toInt) (h1 : y.toInt < 32) : ((y &&& 31).toBitVec.smod 32).toNat = y.toInt.toNat := by
  have key : ∀ k : Fin 32, ((Int32.ofNat k.val &&& 31).toBitVec.smod 32).toNat = k.val := by decide
  have e : y = Int32.ofNat y.toInt.toNat := by
    apply Int32.toInt.inj
    rw [Int32.toInt_ofNat_of_lt (by omega)]
    omega
  have := key ⟨y.toInt.toNat, by omega⟩
  rw [← e] at this
  exact this
theorem bShr32 (x y : Int32) (h0 : 0 ≤ y.toInt) (h1 : y.toInt < 32) : (x >>> (y &&& 31)).toInt = x.toInt / ((2 ^ y.toInt.toNat : Nat) : Int) := by
  show (BitVec.sshiftRight' x.toBitVec ((y &&& 31).toBitVec.smod 32)).toInt = _
  rw [BitVec.sshiftRight_eq', BitVec.toInt_sshiftRight, bSm32 y h0 h1, Int.shiftRight_eq_div_pow]
  rfl
/-- down by a told number of places -/
noncomputable def bShrR (i j : aI) : aI := bif zEq j.1 j.2 && (zLe 0 j.1 && zLe j.1 31) then (i.1 / ((2 ^ j.1.toNat : Nat) : Int), i.2 / ((2 ^ j.1.toNat : Nat) : Int)) else bif zLe 0 i.1 && (zLe 0 j.1 && zLe j.2 31) then (0, i.2) else aT32
theorem bDivM {a b : Int} (c : Nat) (h : a ≤ b) : a / ((2 ^ c : Nat) : Int) ≤ b / ((2 ^ c : Nat) : Int) := Int.ediv_le_ediv (by exact_mod_cast Nat.two_pow_pos c) h
theorem bRu_shr : aRu32 (fun x y => x >>> (y &&& 31)) bShrR := fun a b i j h1 h2 h3 h4 => by
  show (bShrR i j).1 ≤ (a >>> (b &&& 31)).toInt ∧ (a >>> (b &&& 31)).toInt ≤ (bShrR i j).2
  unfold bShrR
  simp only [zEq_eq, zLe_eq, zAnd, zIf]
  split
  · rename_i hc
    have e : b.toInt = j.1 := by omega
    rw [bShr32 a b (by omega) (by omega), e]
    exact ⟨bDivM _ h1, bDivM _ h2⟩
  · split
    · rename_i hc
      rw [bShr32 a b (by omega) (by omega)]
      have hp : (0 : Int) < ((2 ^ b.toInt.toNat : Nat) : Int) := by exact_mod_cast Nat.two_pow_pos _
      refine ⟨Int.ediv_nonneg (by omega) (Int.le_of_lt hp), ?_⟩
      show _ ≤ i.2
      exact Int.le_trans (Int.ediv_le_self _ (by omega)) h2
    · exact aB32 _
/-- times a told number -/
noncomputable def bMulR (r : aI → Bool) (top i j : aI) : aI :=
  bif zEq j.1 j.2 && zLe 0 j.1 then (bif r (i.1 * j.1, i.2 * j.1) then (i.1 * j.1, i.2 * j.1) else top)
  else bif zEq i.1 i.2 && zLe 0 i.1 then (bif r (j.1 * i.1, j.2 * i.1) then (j.1 * i.1, j.2 * i.1) else top) else top
theorem bRu_mul : aRu32 (· * ·) (bMulR aR32 aT32) := fun a b i j h1 h2 h3 h4 => by
  show (bMulR aR32 aT32 i j).1 ≤ (a * b).toInt ∧ (a * b).toInt ≤ (bMulR aR32 aT32 i j).2
  unfold bMulR
  simp only [zEq_eq, zLe_eq, zAnd, zIf]
  split
  · rename_i hc
    cases hr : aR32 (i.1 * j.1, i.2 * j.1) with
    | true =>
      have hb := aR32_ok hr
      have e : b.toInt = j.1 := by omega
      have m1 : i.1 * j.1 ≤ a.toInt * j.1 := Int.mul_le_mul_of_nonneg_right h1 hc.2
      have m2 : a.toInt * j.1 ≤ i.2 * j.1 := Int.mul_le_mul_of_nonneg_right h2 hc.2
      rw [Int32.toInt_mul, e, aBm32 (Int.le_trans hb.1 m1) (Int.le_trans m2 hb.2)]
      exact ⟨m1, m2⟩
    | false => exact aB32 _
  · split
    · rename_i hc
      cases hr : aR32 (j.1 * i.1, j.2 * i.1) with
      | true =>
        have hb := aR32_ok hr
        have e : a.toInt = i.1 := by omega
        have m1 : j.1 * i.1 ≤ b.toInt * i.1 := Int.mul_le_mul_of_nonneg_right h3 hc.2
        have m2 : b.toInt * i.1 ≤ j.2 * i.1 := Int.mul_le_mul_of_nonneg_right h4 hc.2
        rw [Int32.toInt_mul, e, Int.mul_comm i.1 b.toInt, aBm32 (Int.le_trans hb.1 m1) (Int.le_trans m2 hb.2)]
        exact ⟨m1, m2⟩
      | false => exact aB32 _
    · exact aB32 _
theorem bRu_mul64 : aRu64 (· * ·) (bMulR aR64 aT64) := fun a b i j h1 h2 h3 h4 => by
  show (bMulR aR64 aT64 i j).1 ≤ (a * b).toInt ∧ (a * b).toInt ≤ (bMulR aR64 aT64 i j).2
  unfold bMulR
  simp only [zEq_eq, zLe_eq, zAnd, zIf]
  split
  · rename_i hc
    cases hr : aR64 (i.1 * j.1, i.2 * j.1) with
    | true =>
      have hb := aR64_ok hr
      have e : b.toInt = j.1 := by omega
      have m1 : i.1 * j.1 ≤ a.toInt * j.1 := Int.mul_le_mul_of_nonneg_right h1 hc.2
      have m2 : a.toInt * j.1 ≤ i.2 * j.1 := Int.mul_le_mul_of_nonneg_right h2 hc.2
      rw [Int64.toInt_mul, e, aBm64 (Int.le_trans hb.1 m1) (Int.le_trans m2 hb.2)]
      exact ⟨m1, m2⟩
    | false => exact aB64 _
  · split
    · rename_i hc
      cases hr : aR64 (j.1 * i.1, j.2 * i.1) with
      | true =>
        have hb := aR64_ok hr
        have e : a.toInt = i.1 := by omega
        have m1 : j.1 * i.1 ≤ b.toInt * i.1 := Int.mul_le_mul_of_nonneg_right h3 hc.2
        have m2 : b.toInt * i.1 ≤ j.2 * i.1 := Int.mul_le_mul_of_nonneg_right h4 hc.2
        rw [Int64.toInt_mul, e, Int.mul_comm i.1 b.toInt, aBm64 (Int.le_trans hb.1 m1) (Int.le_trans m2 hb.2)]
        exact ⟨m1, m2⟩
      | false => exact aB64 _
    · exact aB64 _
/-- by a told number that is above 0 -/
noncomputable def bDivR (top i j : aI) : aI := bif zEq j.1 j.2 && zLe 1 j.1 then (i.1.tdiv j.1, i.2.tdiv j.1) else top
theorem bTdiv {a c : Int} (hc : 1 ≤ c) (m : Int) (h1 : -m ≤ a) (h2 : a ≤ m) : -m ≤ a.tdiv c ∧ a.tdiv c ≤ m := by
  have hm : 0 ≤ m := by omega
  rcases Int.le_total 0 a with h | h
  · have g1 := Int.tdiv_nonneg h (by omega : 0 ≤ c)
    have g2 := Int.tdiv_le_self c h
    omega
  · have g1 := Int.tdiv_nonneg (a := -a) (by omega) (by omega : 0 ≤ c)
    have g2 := Int.tdiv_le_self (a := -a) c (by omega)
    rw [Int.neg_tdiv] at g1 g2
    omega
theorem bRu_div : aRu32 (· / ·) (bDivR aT32) := fun a b i j h1 h2 h3 h4 => by
  show (bDivR aT32 i j).1 ≤ (a / b).toInt ∧ (a / b).toInt ≤ (bDivR aT32 i j).2
  unfold bDivR
  simp only [zEq_eq, zLe_eq, zAnd, zIf]
  split
  · rename_i hc
    have e : b.toInt = j.1 := by omega
    have hb := aB32 a
    have ht : -2147483648 ≤ a.toInt.tdiv j.1 ∧ a.toInt.tdiv j.1 ≤ 2147483647 := by
      rcases Int.le_total 0 a.toInt with h | h
      · have := bTdiv hc.2 2147483647 (a := a.toInt) (by omega) (by omega)
        omega
      · have g0 := Int.tdiv_le_tdiv (a := a.toInt) (b := 0) (c := j.1) (by omega) h
        rw [Int.zero_tdiv] at g0
        have := bTdiv hc.2 2147483648 (a := a.toInt) (by omega) (by omega)
        omega
    rw [Int32.toInt_div, e, aBm32 ht.1 ht.2]
    exact ⟨Int.tdiv_le_tdiv (by omega) h1, Int.tdiv_le_tdiv (by omega) h2⟩
  · exact aB32 _
/-- a rest by a number above 0 -/
noncomputable def bRemR (top i j : aI) : aI := bif zLe 1 j.1 then (bif zLe 0 i.1 then (0, aMin i.2 (j.2 - 1)) else (1 - j.2, j.2 - 1)) else top
theorem bRest {a c : Int} (hc : 1 ≤ c) : (0 ≤ a → 0 ≤ a - a.tdiv c * c ∧ a - a.tdiv c * c ≤ a) ∧ -c < a - a.tdiv c * c ∧ a - a.tdiv c * c < c := by
  have e : a - a.tdiv c * c = a.tmod c := by rw [Int.tmod_def, Int.mul_comm]
  have h1 := Int.tmod_lt_of_pos a (b := c) (by omega)
  have h2 := Int.lt_tmod_of_pos a (b := c) (by omega)
  refine ⟨fun h => ⟨by rw [e]; exact Int.tmod_nonneg c h, ?_⟩, by omega, by omega⟩
  have g1 := Int.tdiv_nonneg h (by omega : 0 ≤ c)
  have g2 : 0 ≤ a.tdiv c * c := Int.mul_nonneg g1 (by omega)
  omega
theorem bRu_rem : aRu32 (fun x y => x - x / y * y) (bRemR aT32) := fun a b i j h1 h2 h3 h4 => by
  show (bRemR aT32 i j).1 ≤ (a - a / b * b).toInt ∧ (a - a / b * b).toInt ≤ (bRemR aT32 i j).2
  unfold bRemR
  simp only [zLe_eq, zIf]
  split
  · rename_i hc
    have hb1 : 1 ≤ b.toInt := by omega
    have hr := bRest (a := a.toInt) hb1
    have hba := aB32 a
    have hbb := aB32 b
    have e : (a - a / b * b).toInt = a.toInt - a.toInt.tdiv b.toInt * b.toInt := by
      rw [Int32.toInt_sub, Int32.toInt_mul, Int32.toInt_div]
      rw [Int.bmod_mul_bmod, Int.sub_bmod_bmod]
      exact aBm32 (by omega) (by omega)
    rw [e]
    have m1 := aMin_le i.2 (j.2 - 1)
    split
    · have := hr.1 (by omega)
      show 0 ≤ _ ∧ _ ≤ aMin i.2 (j.2 - 1)
      unfold aMin
      simp only [zLe_eq, zIf]
      split <;> omega
    · show 1 - j.2 ≤ _ ∧ _ ≤ j.2 - 1
      omega
  · exact aB32 _
theorem bRu_rem64 : aRu64 (fun x y => x - x / y * y) (bRemR aT64) := fun a b i j h1 h2 h3 h4 => by
  show (bRemR aT64 i j).1 ≤ (a - a / b * b).toInt ∧ (a - a / b * b).toInt ≤ (bRemR aT64 i j).2
  unfold bRemR
  simp only [zLe_eq, zIf]
  split
  · rename_i hc
    have hb1 : 1 ≤ b.toInt := by omega
    have hr := bRest (a := a.toInt) hb1
    have hba := aB64 a
    have hbb := aB64 b
    have e : (a - a / b * b).toInt = a.toInt - a.toInt.tdiv b.toInt * b.toInt := by
      rw [Int64.toInt_sub, Int64.toInt_mul, Int64.toInt_div]
      rw [Int.bmod_mul_bmod, Int.sub_bmod_bmod]
      exact aBm64 (by omega) (by omega)
    rw [e]
    have m1 := aMin_le i.2 (j.2 - 1)
    split
    · have := hr.1 (by omega)
      show 0 ≤ _ ∧ _ ≤ aMin i.2 (j.2 - 1)
      unfold aMin
      simp only [zLe_eq, zIf]
      split <;> omega
    · show 1 - j.2 ≤ _ ∧ _ ≤ j.2 - 1
      omega
  · exact aB64 _
/-- a long's high places, as a number that isn't below 0 -/
theorem bSm64 (y : Int32) (h0 : 0 ≤ y.toInt) (h1 : y.toInt < 64) : (UInt64.mod (y.toInt64.toUInt64 &&& Int64.toUInt64 63) 64).toBitVec.toNat = y.toInt.toNat := by
  have key : ∀ k : Fin 64, (UInt64.mod ((Int32.ofNat k.val).toInt64.toUInt64 &&& Int64.toUInt64 63) 64).toBitVec.toNat = k.val := by decide
  have e : y = Int32.ofNat y.toInt.toNat := by
    apply Int32.toInt.inj
    rw [Int32.toInt_ofNat_of_lt (by omega)]
    omega
  have := key ⟨y.toInt.toNat, by omega⟩
  rw [← e] at this
  exact this
noncomputable def bUshR (i j : aI) : aI := bif zEq j.1 j.2 && (zLe 1 j.1 && zLe j.1 63) then (0, ((2 ^ (64 - j.1.toNat) : Nat) : Int) - 1) else aT64
theorem bRu_ush : aRuS (fun x y => (x.toUInt64 >>> (y.toInt64.toUInt64 &&& Int64.toUInt64 63)).toInt64) bUshR := fun a b i j h1 h2 h3 h4 => by
  show (bUshR i j).1 ≤ ((a.toUInt64 >>> (b.toInt64.toUInt64 &&& Int64.toUInt64 63)).toInt64).toInt ∧ ((a.toUInt64 >>> (b.toInt64.toUInt64 &&& Int64.toUInt64 63)).toInt64).toInt ≤ (bUshR i j).2
  unfold bUshR
  simp only [zEq_eq, zLe_eq, zAnd, zIf]
  split
  · rename_i hc
    have e : b.toInt = j.1 := by omega
    have e2 : ((a.toUInt64 >>> (b.toInt64.toUInt64 &&& Int64.toUInt64 63)).toInt64).toInt = ((a.toBitVec >>> j.1.toNat).toInt) := by
      show (a.toBitVec >>> (UInt64.mod (b.toInt64.toUInt64 &&& Int64.toUInt64 63) 64).toBitVec).toInt = _
      rw [BitVec.ushiftRight_eq', bSm64 b (by omega) (by omega), e]
    rw [e2, BitVec.toInt_ushiftRight_of_lt (by omega)]
    have hlt := BitVec.toNat_ushiftRight_lt a.toBitVec j.1.toNat (by omega)
    rw [BitVec.toNat_ushiftRight] at hlt
    generalize a.toBitVec.toNat >>> j.1.toNat = u at hlt ⊢
    generalize 2 ^ (64 - j.1.toNat) = w at hlt ⊢
    refine ⟨by show (0 : Int) ≤ (u : Int); omega, ?_⟩
    show (u : Int) ≤ (w : Int) - 1
    omega
  · exact aB64 _
end
end
section
/-! the second make: instructions -/
section
noncomputable def bCutA (m : Nat) (pl : bL) (i : Nat) : bL := match i with
  | 0 => pl
  | j + 1 => bif pmLg m j then (match fGet pl j with
    | some (some (.inl (true, _))) => pl.set j none
    | _ => pl) else pl
abbrev bKk : Type := aX → bM → Nat → bL → List bV → Bool
noncomputable def bCat : bV → Nat
  | .inl (true, _) => 2
  | _ => 1
noncomputable def bCats (st : List bV) : Nat := (st.map bCat).sum
noncomputable def bSt1 (m : Nat) (pl : bL) (i : Nat) (v : bV) (K : bL → Bool) : Bool := fSet (some v) (bCutA m pl i) i K
noncomputable def bSt2 (m : Nat) (pl : bL) (i : Nat) (v : bV) (K : bL → Bool) : Bool := fSet (some v) (bCutA m pl i) i fun pl => fSet none pl (i + 1) K
noncomputable def bI0 (z : Int) : bV := .inl (false, 0, z)
noncomputable def bLd1 (pl : bL) (j : Nat) (k : bV → Bool) : Bool := match fGet pl j with
  | some (some v) => k v
  | _ => false
noncomputable def bBin (op : aE → aF → aF → (aE → aF → Bool) → Bool) (tg : Bool) (pc : Nat) (pl : bL) (st : List bV) (X : aX) (M : bM) (k : bKk) : Bool := match st with
  | .inl (ta, g) :: .inl (tb, f) :: r => bif (ta == tg) && (tb == tg) then op X.1 f g fun E h => k (E, X.2) M (pc + 1) pl (.inl (tg, h) :: r) else false
  | _ => false
noncomputable def bBrs (c pc : Nat) (off : Int) (X : aX) (M : bM) (f g : aF) (pl : bL) (r : List bV) (k : bKk) : Bool := aJp pc off fun t => aIf c X f g (fun X => k X M t pl r) (fun X => k X M (pc + 3) pl r)
abbrev bIf1 : Type := Nat → Nat → Nat → Nat → bL → List bV → aX → bM → bKk → Bool
noncomputable def bS_iconst (n : Int) (o m rt pc : Nat) (pl : bL) (st : List bV) (X : aX) (M : bM) (k : bKk) : Bool := aFz (Int32.ofInt n).toInt fun z => k X M (pc + 1) pl (bI0 z :: st)
noncomputable def bS_bipush (n : Int) (o m rt pc : Nat) (pl : bL) (st : List bV) (X : aX) (M : bM) (k : bKk) : Bool := aFz (Int8.ofInt n).toInt32.toInt fun z => k X M (pc + 2) pl (bI0 z :: st)
noncomputable def bS_sipush (n : Int) (o m rt pc : Nat) (pl : bL) (st : List bV) (X : aX) (M : bM) (k : bKk) : Bool := aFz (Int16.ofInt n).toInt32.toInt fun z => k X M (pc + 3) pl (bI0 z :: st)
noncomputable def bS_ldc (j : Nat) (o m rt pc : Nat) (pl : bL) (st : List bV) (X : aX) (M : bM) (k : bKk) : Bool := (match pmC o j with
    | some (v, _) => aFz v.toInt fun z => k X M (pc + 2) pl (bI0 z :: st)
    | none => false)
noncomputable def bS_ldc_w (j : Nat) (o m rt pc : Nat) (pl : bL) (st : List bV) (X : aX) (M : bM) (k : bKk) : Bool := (match pmC o j with
    | some (v, _) => aFz v.toInt fun z => k X M (pc + 3) pl (bI0 z :: st)
    | none => false)
noncomputable def bS_lconst (n : Fin 2) (o m rt pc : Nat) (pl : bL) (st : List bV) (X : aX) (M : bM) (k : bKk) : Bool := aFz (Int64.ofNat n.val).toInt fun z => k X M (pc + 1) pl (.inl (true, 0, z) :: st)
noncomputable def bS_ldc2_w (j : Nat) (o m rt pc : Nat) (pl : bL) (st : List bV) (X : aX) (M : bM) (k : bKk) : Bool := (match pmCL o j with
    | some (v, _) => aFz v.toInt fun z => k X M (pc + 3) pl (.inl (true, 0, z) :: st)
    | none => false)
noncomputable def bS_iload (j : Nat) (o m rt pc : Nat) (pl : bL) (st : List bV) (X : aX) (M : bM) (k : bKk) : Bool := bLd1 pl j fun v => (match v with
    | .inl (false, f) => k X M (pc + 2) pl (.inl (false, f) :: st)
    | _ => false)
noncomputable def bS_iload_n (j : Fin 4) (o m rt pc : Nat) (pl : bL) (st : List bV) (X : aX) (M : bM) (k : bKk) : Bool := bLd1 pl j.val fun v => (match v with
    | .inl (false, f) => k X M (pc + 1) pl (.inl (false, f) :: st)
    | _ => false)
noncomputable def bS_lload (j : Nat) (o m rt pc : Nat) (pl : bL) (st : List bV) (X : aX) (M : bM) (k : bKk) : Bool := bLd1 pl j fun v => (match v with
    | .inl (true, f) => k X M (pc + 2) pl (.inl (true, f) :: st)
    | _ => false)
noncomputable def bS_lload_n (j : Fin 4) (o m rt pc : Nat) (pl : bL) (st : List bV) (X : aX) (M : bM) (k : bKk) : Bool := bLd1 pl j.val fun v => (match v with
    | .inl (true, f) => k X M (pc + 1) pl (.inl (true, f) :: st)
    | _ => false)
noncomputable def bS_istore (j : Nat) (o m rt pc : Nat) (pl : bL) (st : List bV) (X : aX) (M : bM) (k : bKk) : Bool := (match st with
    | .inl (false, f) :: r => bSt1 m pl j (.inl (false, f)) fun pl => k X M (pc + 2) pl r
    | _ => false)
noncomputable def bS_istore_n (j : Fin 4) (o m rt pc : Nat) (pl : bL) (st : List bV) (X : aX) (M : bM) (k : bKk) : Bool := (match st with
    | .inl (false, f) :: r => bSt1 m pl j.val (.inl (false, f)) fun pl => k X M (pc + 1) pl r
    | _ => false)
noncomputable def bS_lstore (j : Nat) (o m rt pc : Nat) (pl : bL) (st : List bV) (X : aX) (M : bM) (k : bKk) : Bool := (match st with
    | .inl (true, f) :: r => bif pmLg m j then bSt2 m pl j (.inl (true, f)) fun pl => k X M (pc + 2) pl r else false
    | _ => false)
noncomputable def bS_lstore_n (j : Fin 4) (o m rt pc : Nat) (pl : bL) (st : List bV) (X : aX) (M : bM) (k : bKk) : Bool := (match st with
    | .inl (true, f) :: r => bif pmLg m j.val then bSt2 m pl j.val (.inl (true, f)) fun pl => k X M (pc + 1) pl r else false
    | _ => false)
noncomputable def bS_iinc (j : Nat) (n : Int) (o m rt pc : Nat) (pl : bL) (st : List bV) (X : aX) (M : bM) (k : bKk) : Bool := bLd1 pl j fun v => (match v with
    | .inl (false, f) => aAdd aR32 aT32 X.1 f (0, (Int32.ofInt n).toInt) fun E h => bSt1 m pl j (.inl (false, h)) fun pl => k (E, X.2) M (pc + 3) pl st
    | _ => false)
noncomputable def bS_iadd (o m rt pc : Nat) (pl : bL) (st : List bV) (X : aX) (M : bM) (k : bKk) : Bool := bBin (aAdd aR32 aT32) false pc pl st X M k
noncomputable def bS_isub (o m rt pc : Nat) (pl : bL) (st : List bV) (X : aX) (M : bM) (k : bKk) : Bool := bBin (aSub aR32 aT32) false pc pl st X M k
noncomputable def bS_imul (o m rt pc : Nat) (pl : bL) (st : List bV) (X : aX) (M : bM) (k : bKk) : Bool := bBin (aOp (· * ·) (bMulR aR32 aT32)) false pc pl st X M k
noncomputable def bS_iand (o m rt pc : Nat) (pl : bL) (st : List bV) (X : aX) (M : bM) (k : bKk) : Bool := bBin (aOp (· &&& ·) (aAndR aT32)) false pc pl st X M k
noncomputable def bS_ior (o m rt pc : Nat) (pl : bL) (st : List bV) (X : aX) (M : bM) (k : bKk) : Bool := bBin (aOp (· ||| ·) fun _ _ => aT32) false pc pl st X M k
noncomputable def bS_ixor (o m rt pc : Nat) (pl : bL) (st : List bV) (X : aX) (M : bM) (k : bKk) : Bool := bBin (aOp (· ^^^ ·) fun _ _ => aT32) false pc pl st X M k
noncomputable def bS_ishl (o m rt pc : Nat) (pl : bL) (st : List bV) (X : aX) (M : bM) (k : bKk) : Bool := bBin (aOp (fun x y => x <<< (y &&& 31)) fun _ _ => aT32) false pc pl st X M k
noncomputable def bS_ishr (o m rt pc : Nat) (pl : bL) (st : List bV) (X : aX) (M : bM) (k : bKk) : Bool := bBin (aOp (fun x y => x >>> (y &&& 31)) bShrR) false pc pl st X M k
noncomputable def bS_iushr (o m rt pc : Nat) (pl : bL) (st : List bV) (X : aX) (M : bM) (k : bKk) : Bool := bBin (aOp (fun x y => (x.toUInt32 >>> (y.toUInt32 &&& Int32.toUInt32 31)).toInt32) fun _ _ => aT32) false pc pl st X M k
noncomputable def bS_ladd (o m rt pc : Nat) (pl : bL) (st : List bV) (X : aX) (M : bM) (k : bKk) : Bool := bBin (aAdd aR64 aT64) true pc pl st X M k
noncomputable def bS_lmul (o m rt pc : Nat) (pl : bL) (st : List bV) (X : aX) (M : bM) (k : bKk) : Bool := bBin (aOq (· * ·) (bMulR aR64 aT64)) true pc pl st X M k
noncomputable def bS_land (o m rt pc : Nat) (pl : bL) (st : List bV) (X : aX) (M : bM) (k : bKk) : Bool := bBin (aOq (· &&& ·) (aAndR aT64)) true pc pl st X M k
noncomputable def bS_lor (o m rt pc : Nat) (pl : bL) (st : List bV) (X : aX) (M : bM) (k : bKk) : Bool := bBin (aOq (· ||| ·) fun _ _ => aT64) true pc pl st X M k
noncomputable def bS_lxor (o m rt pc : Nat) (pl : bL) (st : List bV) (X : aX) (M : bM) (k : bKk) : Bool := bBin (aOq (· ^^^ ·) fun _ _ => aT64) true pc pl st X M k
noncomputable def bS_lshl (o m rt pc : Nat) (pl : bL) (st : List bV) (X : aX) (M : bM) (k : bKk) : Bool := (match st with
    | .inl (false, g) :: .inl (true, f) :: r => aOs (fun x y => x <<< (y.toInt64 &&& 63)) (fun _ _ => aT64) X.1 f g fun E h => k (E, X.2) M (pc + 1) pl (.inl (true, h) :: r)
    | _ => false)
noncomputable def bS_lushr (o m rt pc : Nat) (pl : bL) (st : List bV) (X : aX) (M : bM) (k : bKk) : Bool := (match st with
    | .inl (false, g) :: .inl (true, f) :: r => aOs (fun x y => (x.toUInt64 >>> (y.toInt64.toUInt64 &&& Int64.toUInt64 63)).toInt64) bUshR X.1 f g fun E h => k (E, X.2) M (pc + 1) pl (.inl (true, h) :: r)
    | _ => false)
noncomputable def bS_lcmp (o m rt pc : Nat) (pl : bL) (st : List bV) (X : aX) (M : bM) (k : bKk) : Bool := (match st with
    | .inl (true, g) :: .inl (true, f) :: r => aIf 0 X f g (fun X => k X M (pc + 1) pl (bI0 0 :: r)) (fun X => aIf 2 X f g (fun X => k X M (pc + 1) pl (bI0 (-1) :: r)) (fun X => k X M (pc + 1) pl (bI0 1 :: r)))
    | _ => false)
noncomputable def bS_i2l (o m rt pc : Nat) (pl : bL) (st : List bV) (X : aX) (M : bM) (k : bKk) : Bool := (match st with
    | .inl (false, f) :: r => k X M (pc + 1) pl (.inl (true, f) :: r)
    | _ => false)
noncomputable def bS_l2i (o m rt pc : Nat) (pl : bL) (st : List bV) (X : aX) (M : bM) (k : bKk) : Bool := (match st with
    | .inl (true, f) :: r => aKeep (-2147483648) 2147483647 X.1 f fun E h => k (E, X.2) M (pc + 1) pl (.inl (false, h) :: r)
    | _ => false)
noncomputable def bS_i2b (o m rt pc : Nat) (pl : bL) (st : List bV) (X : aX) (M : bM) (k : bKk) : Bool := (match st with
    | .inl (false, f) :: r => aKeep (-128) 127 X.1 f fun E h => k (E, X.2) M (pc + 1) pl (.inl (false, h) :: r)
    | _ => false)
noncomputable def bS_dup (o m rt pc : Nat) (pl : bL) (st : List bV) (X : aX) (M : bM) (k : bKk) : Bool := (match st with
    | v :: r => bif Nat.beq (bCat v) 1 then k X M (pc + 1) pl (v :: v :: r) else false
    | _ => false)
noncomputable def bS_dup2 (o m rt pc : Nat) (pl : bL) (st : List bV) (X : aX) (M : bM) (k : bKk) : Bool := (match st with
    | v :: w :: r => bif Nat.beq (bCat v) 1 && Nat.beq (bCat w) 1 then k X M (pc + 1) pl (v :: w :: v :: w :: r) else false
    | _ => false)
noncomputable def bS_pop (o m rt pc : Nat) (pl : bL) (st : List bV) (X : aX) (M : bM) (k : bKk) : Bool := (match st with
    | v :: r => bif Nat.beq (bCat v) 1 then k X M (pc + 1) pl r else false
    | _ => false)
noncomputable def bS_ifCond (c : Jvm.ClassFile.Cond) (off : Int) (o m rt pc : Nat) (pl : bL) (st : List bV) (X : aX) (M : bM) (k : bKk) : Bool := (match st with
    | .inl (false, f) :: r => bBrs (aCond c) pc off X M f (0, 0) pl r k
    | _ => false)
noncomputable def bS_if_icmp (c : Jvm.ClassFile.Cond) (off : Int) (o m rt pc : Nat) (pl : bL) (st : List bV) (X : aX) (M : bM) (k : bKk) : Bool := (match st with
    | .inl (false, g) :: .inl (false, f) :: r => bBrs (aCond c) pc off X M f g pl r k
    | _ => false)
noncomputable def bS_goto (off : Int) (o m rt pc : Nat) (pl : bL) (st : List bV) (X : aX) (M : bM) (k : bKk) : Bool := aJp pc off fun t => k X M t pl st
noncomputable def bS_tableswitch (d : Int) (lo : Int) (hi : Int) (offs : Array Int) (o m rt pc : Nat) (pl : bL) (st : List bV) (X : aX) (M : bM) (k : bKk) : Bool := (match st with
    | .inl (false, f) :: r => bif decide ((offs.toList.length : Int) = hi - lo + 1) then aSw X f pc (fun X t => k X M t pl r) d (offs.toList.mapIdx fun j z => (lo + (j : Int), z)) else false
    | _ => false)
noncomputable def bS_lookupswitch (d : Int) (ps : Array (Int × Int)) (o m rt pc : Nat) (pl : bL) (st : List bV) (X : aX) (M : bM) (k : bKk) : Bool := (match st with
    | .inl (false, f) :: r => bif (ps.toList.zip (ps.toList.drop 1)).all (fun (a, next) => a.1 < next.1) then aSw X f pc (fun X t => k X M t pl r) d ps.toList else false
    | _ => false)
noncomputable def bS_aload (j : Nat) (o m rt pc : Nat) (pl : bL) (st : List bV) (X : aX) (M : bM) (k : bKk) : Bool := bLd1 pl j fun v => (match v with
    | .inr p => k X M (pc + 2) pl (.inr p :: st)
    | _ => false)
noncomputable def bS_aload_n (j : Fin 4) (o m rt pc : Nat) (pl : bL) (st : List bV) (X : aX) (M : bM) (k : bKk) : Bool := bLd1 pl j.val fun v => (match v with
    | .inr p => k X M (pc + 1) pl (.inr p :: st)
    | _ => false)
noncomputable def bS_astore (j : Nat) (o m rt pc : Nat) (pl : bL) (st : List bV) (X : aX) (M : bM) (k : bKk) : Bool := (match st with
    | .inr p :: r => bSt1 m pl j (.inr p) fun pl => k X M (pc + 2) pl r
    | _ => false)
noncomputable def bS_astore_n (j : Fin 4) (o m rt pc : Nat) (pl : bL) (st : List bV) (X : aX) (M : bM) (k : bKk) : Bool := (match st with
    | .inr p :: r => bSt1 m pl j.val (.inr p) fun pl => k X M (pc + 1) pl r
    | _ => false)
/-- one of the places -/
noncomputable def bAll (ps : List Nat) (t : Nat → Bool) : Bool := List.rec true (fun p _ ih => t p && ih) ps
noncomputable def bJn (ps : List Nat) (t : Nat → Option aI) : Option aI := List.rec none (fun p r ih => match t p with
  | some i => (match r with
    | [] => some i
    | _ => (match ih with
      | some j => some (aMin i.1 j.1, aMax i.2 j.2)
      | none => none))
  | none => none) ps
noncomputable def bMp (ps : List Nat) (t : Nat → Option Nat) : Option (List Nat) := List.rec (some []) (fun p _ ih => match t p, ih with
  | some q, some l => some (q :: l)
  | _, _ => none) ps
/-- the place is of this kind -/
noncomputable def bKc (p c : Nat) : Bool := match fG2 bZT p with
  | some s => Nat.beq s.1 c
  | none => false
noncomputable def bRf (p k : Nat) : Option Nat := match fG2 bZT p with
  | some s => pmRf s.2.2 k
  | none => none
/-- a row of this kind that has the place -/
noncomputable def bRow (c : Nat) (X : aX) (f : aF) (p : Nat) : Bool := match fG2 bZT p with
  | some s => Nat.beq s.1 c && aAt X f s.2.1
  | none => false
noncomputable def bRw2 (X : aX) (f : aF) (p : Nat) : Bool := match fG2 bZT p with
  | some s => (Nat.beq s.1 52 || Nat.beq s.1 53) && aAt X f s.2.1
  | none => false
noncomputable def bFree (H : bH) (p : Nat) : Bool := match fLk H p with
  | none => true
  | some _ => false
noncomputable def bGf (tg : Bool) (fk pc : Nat) (ps : List Nat) (pl : bL) (r : List bV) (X : aX) (M : bM) (k : bKk) : Bool := match ps with
  | [p] => bGetK X.1 M.1 p fk fun E H g => k (E, X.2) (H, M.2) (pc + 3) pl (.inl (tg, g) :: r)
  | _ => (match bJn ps fun p => bEi X.1 (bEn M.1 p fk) with
    | some j => aNew X.1 j fun E g => k (E, X.2) M (pc + 3) pl (.inl (tg, g) :: r)
    | none => false)
noncomputable def bS_getfield (j : Nat) (o m rt pc : Nat) (pl : bL) (st : List bV) (X : aX) (M : bM) (k : bKk) : Bool := (match pmF o j with
    | some (ci, fk, _, _) => (match st with
      | .inr ps :: r => bif bAll ps fun p => bKc p ci then (match pmKd ci fk with
            | 0 => bGf false fk pc ps pl r X M k
            | 3 => bGf false fk pc ps pl r X M k
            | 1 => bGf true fk pc ps pl r X M k
            | 2 => (match bMp ps fun p => bRf p fk with
              | some qs => k X M (pc + 3) pl (.inr qs :: r)
              | none => false)
            | _ => false) else false
      | _ => false)
    | none => false)
/-- a field of one place, or of one of some -/
noncomputable def bPf (fk pc : Nat) (ps : List Nat) (f : aF) (pl : bL) (r : List bV) (X : aX) (M : bM) (k : bKk) : Bool := match ps with
  | [p] => bif bPr M.2.2 (bRm p fk 0) then bSetO p fk (.inl f) M.1 fun H => fDel p M.2.1 fun S => k X (H, S, Nat.lor M.2.2 (bRm p fk 0)) (pc + 3) pl r else false
  | _ => (match aItv X.1 f with
    | some i => bif bAll ps fun p => bFree M.1 p && (bCov i (bGe p fk) && bPr M.2.2 (bRm p fk 0)) then k X (M.1, [], List.rec M.2.2 (fun p _ ih => Nat.lor ih (bRm p fk 0)) ps) (pc + 3) pl r else false
    | none => false)
noncomputable def bS_putfield (j : Nat) (o m rt pc : Nat) (pl : bL) (st : List bV) (X : aX) (M : bM) (k : bKk) : Bool := (match pmF o j with
    | some (ci, fk, _, nst) => (match st with
      | v :: .inr ps :: r => bif bAll ps (fun p => bKc p ci) && !(pmFn ci fk) then (match pmKd ci fk, v with
            | 0, .inl (false, f) => bPf fk pc ps f pl r X M k
            | 3, .inl (false, f) => (match aItv X.1 f with
              | some i => bif zLe 0 i.1 && zLe i.2 1 then bPf fk pc ps f pl r X M k else false
              | none => false)
            | 1, .inl (true, f) => bPf fk pc ps f pl r X M k
            | _, _ => false) else false
      | _ => false)
    | none => false)
noncomputable def bS_getstatic (j : Nat) (o m rt pc : Nat) (pl : bL) (st : List bV) (X : aX) (M : bM) (k : bKk) : Bool := (match pmG o j with
    | some _ => k X M (pc + 3) pl (.inr [1000] :: st)
    | none => false)
/-- of a row: one place, or one of some whose rows hold what the table says -/
noncomputable def bGr (tg : Bool) (pc : Nat) (ps : List Nat) (f : aF) (pl : bL) (r : List bV) (X : aX) (M : bM) (k : bKk) : Bool := match ps with
  | [p] => bGetA X.1 M.1 M.2.1 p f fun E H S g => k (E, X.2) (H, S, M.2.2) (pc + 1) pl (.inl (tg, g) :: r)
  | _ => bif bAll ps fun p => bFree M.1 p then (match bJn ps fun p => (match bGu p with
      | some d => bLh d
      | none => none) with
    | some j => aNew X.1 j fun E g => k (E, X.2) M (pc + 1) pl (.inl (tg, g) :: r)
    | none => false) else false
noncomputable def bS_iaload (o m rt pc : Nat) (pl : bL) (st : List bV) (X : aX) (M : bM) (k : bKk) : Bool := (match st with
    | .inl (false, f) :: .inr ps :: r => (match ps with
      | [p] => bif Nat.beq p 1000 then (bif aAt X f 7 then k X M (pc + 1) pl (bI0 1 :: r) else false)
        else bif Nat.beq p 1001 then (match aItv X.1 f, aUb X f (1, 0) with
          | some i, some u => bif zLe 0 i.1 && zLe (zAdd u 1) 0 then (match aSf f X.2.2 with
            | some g => k X M (pc + 1) pl (.inl (false, g) :: r)
            | none => aNew X.1 aT32 fun E g => k (E, X.2.1, (f, g) :: X.2.2) M (pc + 1) pl (.inl (false, g) :: r)) else false
          | _, _ => false)
        else bif bRow 50 X f p && Nat.ble p 999 then bGr false pc [p] f pl r X M k else false
      | _ => bif bAll ps fun p => bRow 50 X f p && Nat.ble p 999 then bGr false pc ps f pl r X M k else false)
    | _ => false)
noncomputable def bS_laload (o m rt pc : Nat) (pl : bL) (st : List bV) (X : aX) (M : bM) (k : bKk) : Bool := (match st with
    | .inl (false, f) :: .inr ps :: r => bif bAll ps fun p => bRow 51 X f p then bGr true pc ps f pl r X M k else false
    | _ => false)
noncomputable def bS_baload (o m rt pc : Nat) (pl : bL) (st : List bV) (X : aX) (M : bM) (k : bKk) : Bool := (match st with
    | .inl (false, f) :: .inr ps :: r => bif bAll ps fun p => bRw2 X f p then bGr false pc ps f pl r X M k else false
    | _ => false)
/-- the places that a row of places has from a to a + n -/
noncomputable def bRfs (p a : Nat) : Nat → Option (List Nat)
  | 0 => (match bRf p a with
    | some q => some [q]
    | none => none)
  | n + 1 => (match bRfs p a n, bRf p (a + n + 1) with
    | some l, some q => some (q :: l)
    | _, _ => none)
noncomputable def bS_aaload (o m rt pc : Nat) (pl : bL) (st : List bV) (X : aX) (M : bM) (k : bKk) : Bool := (match st with
    | .inl (false, f) :: .inr [p] :: r => bif bRow 54 X f p then (match aItv X.1 f with
        | some i => (match bRfs p i.1.toNat (i.2 - i.1).toNat with
          | some l => k X M (pc + 1) pl (.inr l :: r)
          | none => false)
        | none => false) else false
    | _ => false)
/-- into a row: one place, or one of some whose rows the table tells alone -/
noncomputable def bPt (E : aE) (pc : Nat) (ps : List Nat) (f g : aF) (pl : bL) (r : List bV) (X : aX) (M : bM) (k : bKk) : Bool := match ps with
  | [p] => bPutA E M.1 M.2.1 p f g fun H S m => bif bPr M.2.2 m then k (E, X.2) (H, S, Nat.lor M.2.2 m) (pc + 1) pl r else false
  | _ => (match aItv E g with
    | some i => bif bAll ps fun p => bFree M.1 p && ((match bGu p with
        | some d => bCov i d
        | none => false) && (bPr M.2.2 (bRm p 0 0) && bSing p)) then k (E, X.2) (M.1, [], List.rec M.2.2 (fun p _ ih => Nat.lor ih (bRm p 0 0)) ps) (pc + 1) pl r else false
    | none => false)
noncomputable def bS_iastore (o m rt pc : Nat) (pl : bL) (st : List bV) (X : aX) (M : bM) (k : bKk) : Bool := (match st with
    | .inl (false, g) :: .inl (false, f) :: .inr ps :: r => bif bAll ps fun p => bRow 50 X f p then bPt X.1 pc ps f g pl r X M k else false
    | _ => false)
noncomputable def bS_lastore (o m rt pc : Nat) (pl : bL) (st : List bV) (X : aX) (M : bM) (k : bKk) : Bool := (match st with
    | .inl (true, g) :: .inl (false, f) :: .inr ps :: r => bif bAll ps fun p => bRow 51 X f p then bPt X.1 pc ps f g pl r X M k else false
    | _ => false)
noncomputable def bS_bastore (o m rt pc : Nat) (pl : bL) (st : List bV) (X : aX) (M : bM) (k : bKk) : Bool := (match st with
    | .inl (false, g) :: .inl (false, f) :: .inr [p] :: r => bif bRow 52 X f p then aKeep 0 1 X.1 g fun E g => bPt E pc [p] f g pl r X M k
          else bif bRow 53 X f p then aKeep (-128) 127 X.1 g fun E g => bPt E pc [p] f g pl r X M k else false
    | _ => false)
noncomputable def bS_arraylength (o m rt pc : Nat) (pl : bL) (st : List bV) (X : aX) (M : bM) (k : bKk) : Bool := (match st with
    | .inr [p] :: r => bif Nat.beq p 1001 then k X M (pc + 1) pl (.inl (false, 1, 0) :: r) else false
    | _ => false)
/-- all these intervals are within those -/
noncomputable def bCv (l d : List aI) : Bool := List.rec true (fun i _ ih => bCov i d && ih) l
noncomputable def bC1 (e : bN) (b k : Nat) (H : bH) (K : bH → Bool) : Bool := match e with
  | .inl g => bSetO b k (.inl g) H K
  | .inr l => bif bFree H b && bCv l (bGe b k) then K H else bSetO b k (.inr l) H K
noncomputable def bCp (H0 : bH) (a sp b dp : Nat) : Nat → bH → (bH → Bool) → Bool
  | 0, H, K => K H
  | n + 1, H, K => bCp H0 a sp b dp n H fun H => bC1 (bEn H0 a (sp + n)) b (dp + n) H K
/-- a row of this kind with n places from here on -/
noncomputable def bRng (c : Nat) (X : aX) (f : aF) (n : Nat) (p : Nat) : Bool := match fG2 bZT p, aItv X.1 f with
  | some s, some i => Nat.beq s.1 c && (zLe 0 i.1 && zLe (zAdd i.2 (.ofNat n)) (.ofNat s.2.1))
  | _, _ => false
noncomputable def bCpA (as bs : List Nat) (fs fd : aF) (n pc : Nat) (pl : bL) (r : List bV) (X : aX) (M : bM) (k : bKk) : Bool := match as, bs, aCst X.1 fs, aCst X.1 fd with
  | [a], [b], some s, some d => aFn s.toNat fun s => aFn d.toNat fun d => bif bPr M.2.2 (bRm b d n) then bCp M.1 a s b d n M.1 fun H => fDel b M.2.1 fun S => k X (H, S, Nat.lor M.2.2 (bRm b d n)) (pc + 3) pl r else false
  | _, _, _, _ => bif bAll as (fun a => bFree M.1 a && bAll bs fun b => (match bGu a, bGu b with
      | some u, some v => bCv u v
      | _, _ => false)) && bAll bs (fun b => bFree M.1 b && (bPr M.2.2 (bRm b 0 0) && bSing b)) then k X (M.1, [], List.rec M.2.2 (fun p _ ih => Nat.lor ih (bRm p 0 0)) bs) (pc + 3) pl r else false
noncomputable def bS_invokestatic (j : Nat) (o m rt pc : Nat) (pl : bL) (st : List bV) (X : aX) (M : bM) (k : bKk) : Bool := (match pmM o j with
    | some (mm, _, _) => bif Nat.beq mm 9000 then (match st with
        | .inl (false, fn) :: .inl (false, fd) :: .inr bs :: .inl (false, fs) :: .inr as :: r => (match aCst X.1 fn with
          | some n => bif Nat.ble (bCats r) 8 && zLe 0 n then aFn n.toNat fun n =>
              (bif (bAll as fun a => bRng 50 X fs n a) && (bAll bs fun b => bRng 50 X fd n b) then bCpA as bs fs fd n pc pl r X M k
               else bif (bAll as fun a => bRng 51 X fs n a) && (bAll bs fun b => bRng 51 X fd n b) then bCpA as bs fs fd n pc pl r X M k else false) else false
          | none => false)
        | _ => false)
      else bif Nat.beq mm 9002 then (match st with
        | .inl (false, g) :: .inl (false, f) :: r => bif Nat.ble (bCats r) 8 then aOp (fun x y => if x < y then y else x) aMaxR X.1 f g fun E h => k (E, X.2) M (pc + 3) pl (.inl (false, h) :: r) else false
        | _ => false)
      else bif Nat.beq mm 9003 then (match st with
        | .inl (false, g) :: .inl (false, f) :: r => bif Nat.ble (bCats r) 8 then aOp (fun x y => if y < x then y else x) aMinR X.1 f g fun E h => k (E, X.2) M (pc + 3) pl (.inl (false, h) :: r) else false
        | _ => false)
      else false
    | none => false)
/-- a quotient or a rest by what isn't 0 -/
noncomputable def bNz (op : aE → aF → aF → (aE → aF → Bool) → Bool) (E : aE) (f g : aF) (K : aE → aF → Bool) : Bool := match aItv E g with
  | some j => bif zLe 1 j.1 || zLe j.2 (.negSucc 0) then op E f g K else false
  | none => false
noncomputable def bS_idiv (o m rt pc : Nat) (pl : bL) (st : List bV) (X : aX) (M : bM) (k : bKk) : Bool := bBin (bNz (aOp (· / ·) (bDivR aT32))) false pc pl st X M k
noncomputable def bS_irem (o m rt pc : Nat) (pl : bL) (st : List bV) (X : aX) (M : bM) (k : bKk) : Bool := bBin (bNz (aOp (fun x y => x - x / y * y) (bRemR aT32))) false pc pl st X M k
noncomputable def bS_lrem (o m rt pc : Nat) (pl : bL) (st : List bV) (X : aX) (M : bM) (k : bKk) : Bool := bBin (bNz (aOq (fun x y => x - x / y * y) (bRemR aT64))) true pc pl st X M k
noncomputable def bDis (i : Instr) : Option bIf1 := match i with
  | .iconst n => some (bS_iconst n)
  | .bipush n => some (bS_bipush n)
  | .sipush n => some (bS_sipush n)
  | .ldc j => some (bS_ldc j)
  | .ldc_w j => some (bS_ldc_w j)
  | .lconst n => some (bS_lconst n)
  | .ldc2_w j => some (bS_ldc2_w j)
  | .iload j => some (bS_iload j)
  | .iload_n j => some (bS_iload_n j)
  | .lload j => some (bS_lload j)
  | .lload_n j => some (bS_lload_n j)
  | .aload j => some (bS_aload j)
  | .aload_n j => some (bS_aload_n j)
  | .istore j => some (bS_istore j)
  | .istore_n j => some (bS_istore_n j)
  | .astore j => some (bS_astore j)
  | .astore_n j => some (bS_astore_n j)
  | .lstore j => some (bS_lstore j)
  | .lstore_n j => some (bS_lstore_n j)
  | .iinc j n => some (bS_iinc j n)
  | .idiv => some bS_idiv
  | .irem => some bS_irem
  | .lrem => some bS_lrem
  | .iadd => some (bS_iadd)
  | .isub => some (bS_isub)
  | .imul => some (bS_imul)
  | .iand => some (bS_iand)
  | .ior => some (bS_ior)
  | .ixor => some (bS_ixor)
  | .ishl => some (bS_ishl)
  | .ishr => some (bS_ishr)
  | .iushr => some (bS_iushr)
  | .ladd => some (bS_ladd)
  | .lmul => some (bS_lmul)
  | .land => some (bS_land)
  | .lor => some (bS_lor)
  | .lxor => some (bS_lxor)
  | .lshl => some (bS_lshl)
  | .lushr => some (bS_lushr)
  | .lcmp => some (bS_lcmp)
  | .i2l => some (bS_i2l)
  | .l2i => some (bS_l2i)
  | .i2b => some (bS_i2b)
  | .dup => some (bS_dup)
  | .dup2 => some (bS_dup2)
  | .pop => some (bS_pop)
  | .ifCond c off => some (bS_ifCond c off)
  | .if_icmp c off => some (bS_if_icmp c off)
  | .goto off => some (bS_goto off)
  | .tableswitch d lo hi offs => some (bS_tableswitch d lo hi offs)
  | .lookupswitch d ps => some (bS_lookupswitch d ps)
  | .getfield j => some (bS_getfield j)
  | .putfield j => some (bS_putfield j)
  | .getstatic j => some (bS_getstatic j)
  | .iaload => some (bS_iaload)
  | .laload => some (bS_laload)
  | .baload => some (bS_baload)
  | .aaload => some (bS_aaload)
  | .iastore => some (bS_iastore)
  | .lastore => some (bS_lastore)
  | .bastore => some (bS_bastore)
  | .arraylength => some (bS_arraylength)
  | .invokestatic j => some (bS_invokestatic j)
  | _ => none
noncomputable def bStep (o m rt pc : Nat) (i : Instr) (pl : bL) (st : List bV) (X : aX) (M : bM) (k : bKk) : Bool := match bDis i with
  | some f => f o m rt pc pl st X M k
  | none => false
end
end
section
/-! the second make is sound: what holds at a place -/
section
def bVok (n : Nat) (ρ : Nat → Int) : bV → Value → Prop
  | .inl (false, f), .int x => aFok n ρ f x.toInt
  | .inl (true, f), .long x => aFok n ρ f x.toInt
  | .inr ps, .ref q => q ∈ ps
  | _, _ => False
def bSok (n : Nat) (ρ : Nat → Int) : List bV → List Value → Prop
  | [], [] => True
  | a :: r, v :: cr => bVok n ρ a v ∧ bSok n ρ r cr
  | _, _ => False
def bLok (n : Nat) (ρ : Nat → Int) (pl : bL) (cl : pmL) : Prop := pl.length = cl.length ∧ ∀ (i : Nat) (a : bV), pl[i]? = some (some a) → ∃ v, cl[i]? = some (some v) ∧ bVok n ρ a v
/-- a long stands here -/
noncomputable def bLo (p k : Nat) : Bool := match aG2 bZT p with
  | some s => bif Nat.ble 50 s.1 then Nat.beq s.1 51 else Nat.beq (pmKd s.1 k) 1
  | none => false
noncomputable def bZ (σ : pmS) : Nat → Nat → Int := fun p k => bif bLo p k then (σ.2.2 p k).toInt else (σ.2.1 p k).toInt
def bSame (σ σ' : pmS) (p k : Nat) : Prop := σ.2.1 p k = σ'.2.1 p k ∧ σ.2.2 p k = σ'.2.2 p k
/-- what depends on cells under guard alone -/
def bKfr (Kp : pmS → Prop) : Prop := ∀ σ σ' : pmS, σ.1 = σ'.1 → (∀ p k, bPM.testBit (bRg p k) = true → bSame σ' σ p k) → Kp σ → Kp σ'
def bMok (n : Nat) (ρ : Nat → Int) (Kp : pmS → Prop) (σ0 : pmS) (M : bM) (σ : pmS) : Prop := (∀ p : Nat, σ.1[p]? = aG2 bZT p) ∧ bHok n ρ M.1 (bZ σ) ∧ bSk n ρ M.2.1 (bZ σ) ∧ (∀ p k, M.2.2.testBit (bRg p k) = false → bSame σ σ0 p k) ∧ (bFg M.2.2 = true → Kp σ)
def bNx (ro : Nat → Nat × (Nat → Int32)) (L : aLa) (Kp : pmS → Prop) (σ0 : pmS) (o m rt pc : Nat) (i : Instr) (cl : pmL) (cs : List Value) (σ : pmS) (n : Nat) (ρ : Nat → Int) (k : bKk) : Prop :=
  ∃ pc' cl' cs' σ' X' M' pl' st' ρ', pmStep ro (fun _ _ _ => none) o m rt pc i cl cs σ = some (.inr (pc', cl', cs', σ')) ∧ n ≤ X'.1.length ∧ aExt n ρ ρ' ∧ aXok L ρ' X' ∧ bMok X'.1.length ρ' Kp σ0 M' σ' ∧ bLok X'.1.length ρ' pl' cl' ∧ bSok X'.1.length ρ' st' cs' ∧ k X' M' pc' pl' st' = true
variable {L : aLa} {ro : Nat → Nat × (Nat → Int32)} {Kp : pmS → Prop} {σ0 σ σ' : pmS} {o m rt pc pc' : Nat} {i : Instr} {cl cl' : pmL} {cs cr : List Value} {n n' : Nat} {ρ ρ' : Nat → Int} {k : bKk} {X X' : aX} {M M' : bM} {pl pl' : bL} {st r : List bV} {f g : aF} {p q : Nat} {ps qs : List Nat} {a b : bV} {v w : Value}
theorem bVok.ext (h : bVok n ρ a v) (hn : n ≤ n') (he : aExt n ρ ρ') : bVok n' ρ' a v := by
  unfold bVok at h ⊢
  split at h
  · exact h.ext hn he
  · exact h.ext hn he
  · exact h
  · cases h
theorem bSok.ext : ∀ {st : List bV} {cs : List Value}, bSok n ρ st cs → n ≤ n' → aExt n ρ ρ' → bSok n' ρ' st cs
  | [], [], _, _, _ => trivial
  | _ :: _, _ :: _, h, hn, he => ⟨h.1.ext hn he, bSok.ext h.2 hn he⟩
theorem bLok.ext (h : bLok n ρ pl cl) (hn : n ≤ n') (he : aExt n ρ ρ') : bLok n' ρ' pl cl := ⟨h.1, fun i a hi => by
  obtain ⟨v, h1, h2⟩ := h.2 i a hi
  exact ⟨v, h1, h2.ext hn he⟩⟩
theorem bMok.ext (h : bMok n ρ Kp σ0 M σ) (hn : n ≤ n') (he : aExt n ρ ρ') : bMok n' ρ' Kp σ0 M σ := ⟨h.1, h.2.1.ext hn he, h.2.2.1.ext hn he, h.2.2.2⟩
theorem bSok_cons (h : bSok n ρ (a :: r) cs) : ∃ v cr, cs = v :: cr ∧ bVok n ρ a v ∧ bSok n ρ r cr := by
  cases cs with
  | nil => exact h.elim
  | cons v cr => exact ⟨v, cr, rfl, h.1, h.2⟩
theorem bVok_int (h : bVok n ρ (.inl (false, f)) v) : ∃ x, v = .int x ∧ aFok n ρ f x.toInt := by
  cases v with
  | int x => exact ⟨x, rfl, h⟩
  | _ => exact h.elim
theorem bVok_long (h : bVok n ρ (.inl (true, f)) v) : ∃ x, v = .long x ∧ aFok n ρ f x.toInt := by
  cases v with
  | long x => exact ⟨x, rfl, h⟩
  | _ => exact h.elim
theorem bVok_ref (h : bVok n ρ (.inr ps) v) : ∃ q, v = .ref q ∧ q ∈ ps := by
  cases v with
  | ref q => exact ⟨q, rfl, h⟩
  | _ => exact h.elim
theorem bVok_one (h : bVok n ρ (.inr [p]) v) : v = .ref p := by
  obtain ⟨q, rfl, hq⟩ := bVok_ref h
  rw [List.mem_singleton] at hq
  rw [hq]
theorem bVok_cat (h : bVok n ρ a v) : v.category = bCat a := by
  unfold bVok at h
  split at h
  · rfl
  · rfl
  · rfl
  · cases h
theorem bSok_cats : ∀ {st : List bV} {cs : List Value}, bSok n ρ st cs → pmCats cs = bCats st
  | [], [], _ => rfl
  | a :: r, v :: cr, h => by
    have e := bSok_cats h.2
    have c := bVok_cat h.1
    unfold pmCats bCats at e ⊢
    simp only [List.map_cons, List.sum_cons, e, c]
theorem bNx.go (hs : pmStep ro (fun _ _ _ => none) o m rt pc i cl cs σ = some (.inr (pc', cl', cr, σ'))) (hX : aXok L ρ X) (hM : bMok X.1.length ρ Kp σ0 M' σ') (hl : bLok X.1.length ρ pl' cl') (hr : bSok X.1.length ρ r cr) (hn : n = X.1.length) (hk : k X M' pc' pl' r = true) : bNx ro L Kp σ0 o m rt pc i cl cs σ n ρ k :=
  ⟨pc', cl', cr, σ', X, M', pl', r, ρ, hs, by omega, aExt.rf, hX, hM, hl, hr, hk⟩
theorem bNx.gx {Kx : aX → Bool} (hs : pmStep ro (fun _ _ _ => none) o m rt pc i cl cs σ = some (.inr (pc', cl', cr, σ'))) (h : aGx L X ρ Kx) (hK : ∀ Y, Kx Y = true → k Y M' pc' pl' r = true) (hM : bMok X.1.length ρ Kp σ0 M' σ') (hl : bLok X.1.length ρ pl' cl') (hr : bSok X.1.length ρ r cr) : bNx ro L Kp σ0 o m rt pc i cl cs σ X.1.length ρ k := by
  obtain ⟨Y, h1, h2, h3⟩ := h
  exact ⟨pc', cl', cr, σ', Y, M', pl', r, ρ, hs, by omega, aExt.rf, h2, by rw [h1]; exact hM, by rw [h1]; exact hl, by rw [h1]; exact hr, hK Y h3⟩
/-- a value upon the stack, the heap as it was -/
theorem bNx.gv {tg : Bool} {w : Value} {z : Int} (hs : pmStep ro (fun _ _ _ => none) o m rt pc i cl cs σ = some (.inr (pc', cl, w :: cr, σ))) (hX : aXok L ρ X) (hM : bMok X.1.length ρ Kp σ0 M σ) (hl : bLok X.1.length ρ pl cl) (hr : bSok X.1.length ρ r cr) (hw : ∀ n ρ f, aFok n ρ f z → bVok n ρ (.inl (tg, f)) w) (h : aGv L X.1 ρ z fun E h => k (E, X.2) M pc' pl (.inl (tg, h) :: r)) : bNx ro L Kp σ0 o m rt pc i cl cs σ X.1.length ρ k := by
  obtain ⟨E', ρ', g, h1, h2, h3, h4, h5⟩ := h
  exact ⟨pc', cl, _, σ, (E', X.2), M, pl, .inl (tg, g) :: r, ρ', hs, h1, h2, hX.ext h1 h2 h3, hM.ext h1 h2, hl.ext h1 h2, ⟨hw _ _ _ h4, hr.ext h1 h2⟩, h5⟩
theorem bNx.gi {w : Int32} {z : Int} (hs : pmStep ro (fun _ _ _ => none) o m rt pc i cl cs σ = some (.inr (pc', cl, .int w :: cr, σ))) (hX : aXok L ρ X) (hM : bMok X.1.length ρ Kp σ0 M σ) (hl : bLok X.1.length ρ pl cl) (hr : bSok X.1.length ρ r cr) (hz : z = w.toInt) (h : aGv L X.1 ρ z fun E h => k (E, X.2) M pc' pl (.inl (false, h) :: r)) : bNx ro L Kp σ0 o m rt pc i cl cs σ X.1.length ρ k :=
  bNx.gv hs hX hM hl hr (fun _ _ _ hf => by rw [hz] at hf; exact hf) h
theorem bNx.gl {w : Int64} {z : Int} (hs : pmStep ro (fun _ _ _ => none) o m rt pc i cl cs σ = some (.inr (pc', cl, .long w :: cr, σ))) (hX : aXok L ρ X) (hM : bMok X.1.length ρ Kp σ0 M σ) (hl : bLok X.1.length ρ pl cl) (hr : bSok X.1.length ρ r cr) (hz : z = w.toInt) (h : aGv L X.1 ρ z fun E h => k (E, X.2) M pc' pl (.inl (true, h) :: r)) : bNx ro L Kp σ0 o m rt pc i cl cs σ X.1.length ρ k :=
  bNx.gv hs hX hM hl hr (fun _ _ _ hf => by rw [hz] at hf; exact hf) h
/-- a value read of the heap -/
theorem bNx.gh {tg : Bool} {w : Value} {z : Int} (hs : pmStep ro (fun _ _ _ => none) o m rt pc i cl cs σ = some (.inr (pc', cl, w :: cr, σ))) (hX : aXok L ρ X) (hM : bMok X.1.length ρ Kp σ0 M σ) (hl : bLok X.1.length ρ pl cl) (hr : bSok X.1.length ρ r cr) (hw : ∀ n ρ f, aFok n ρ f z → bVok n ρ (.inl (tg, f)) w) (h : bGh L X.1 ρ M.2.1 (bZ σ) z fun E H S g => k (E, X.2) (H, S, M.2.2) pc' pl (.inl (tg, g) :: r)) : bNx ro L Kp σ0 o m rt pc i cl cs σ X.1.length ρ k := by
  obtain ⟨E', ρ', H', S', g, h1, h2, h3, h4, h5, h6, h7⟩ := h
  exact ⟨pc', cl, _, σ, (E', X.2), (H', S', M.2.2), pl, .inl (tg, g) :: r, ρ', hs, h1, h2, hX.ext h1 h2 h3, ⟨hM.1, h4, h5, hM.2.2.2⟩, hl.ext h1 h2, ⟨hw _ _ _ h6, hr.ext h1 h2⟩, h7⟩
theorem bFree_ok {H : bH} (h : bFree H p = true) (j : Nat) : bEn H p j = .inr (bGe p j) := by
  unfold bFree at h
  unfold bEn
  split at h
  · rename_i hn
    rw [hn]
  · cases h
theorem bLor_ok (t : Nat → Nat) : ∀ {ps : List Nat} {w r : Nat}, (List.rec w (fun p _ ih => Nat.lor ih (t p)) ps : Nat).testBit r = false → w.testBit r = false ∧ ∀ p ∈ ps, (t p).testBit r = false := fun {ps} => by
  induction ps with
  | nil => intro w r h; exact ⟨h, fun p hp => by cases hp⟩
  | cons a l ih =>
    intro w r h
    have h : ((List.rec w (fun p _ ih => Nat.lor ih (t p)) l : Nat) ||| t a).testBit r = false := h
    rw [Nat.testBit_or, Bool.or_eq_false_iff] at h
    obtain ⟨h1, h2⟩ := ih h.1
    refine ⟨h1, fun p hp => ?_⟩
    rcases List.mem_cons.mp hp with rfl | hp
    · exact h.2
    · exact h2 p hp
theorem bFg_eq {w : Nat} : bFg w = true ↔ ∀ i, w.testBit (3000 + i) = false := by
  constructor
  · intro h i
    have e : w >>> 3000 = 0 := Nat.eq_of_beq_eq_true h
    rw [← Nat.testBit_shiftRight, e]
    exact Nat.zero_testBit i
  · intro h
    have e : w >>> 3000 = 0 := Nat.eq_of_testBit_eq fun i => by rw [Nat.testBit_shiftRight, h i, Nat.zero_testBit]
    show Nat.beq (w >>> 3000) 0 = true
    rw [e]
    rfl
theorem bFg_lor {w m : Nat} (h : bFg (Nat.lor w m) = true) : bFg w = true ∧ bFg m = true := by
  have h := bFg_eq.mp h
  have h2 : ∀ i, (w ||| m).testBit (3000 + i) = false := h
  refine ⟨bFg_eq.mpr fun i => ?_, bFg_eq.mpr fun i => ?_⟩
  · have := h2 i
    rw [Nat.testBit_or, Bool.or_eq_false_iff] at this
    exact this.1
  · have := h2 i
    rw [Nat.testBit_or, Bool.or_eq_false_iff] at this
    exact this.2
theorem bFg_rec {w : Nat} (t : Nat → Nat) : ∀ {l : List Nat}, bFg (List.rec w (fun p _ ih => Nat.lor ih (t p)) l) = true → bFg w = true := fun {l} => by
  induction l with
  | nil => exact fun h => h
  | cons a l ih => exact fun h => ih (bFg_lor h).1
theorem bPr_ok {W mk r : Nat} (h : bPr W mk = true) (hf : bFg W = true) (hr : bPM.testBit r = true) : mk.testBit r = false := by
  unfold bPr at h
  rw [hf] at h
  have e : bPM &&& mk = 0 := Nat.eq_of_beq_eq_true h
  have : (bPM &&& mk).testBit r = false := by rw [e]; exact Nat.zero_testBit r
  rw [Nat.testBit_and, hr, Bool.true_and] at this
  exact this
/-- the heap written -/
theorem bMok.wrg {H : bH} {S : bS} {W' : Nat} (hK : bKfr Kp) (hM : bMok n ρ Kp σ0 M σ) (hZ : σ'.1 = σ.1) (hH : bHok n ρ H (bZ σ')) (hS : bSk n ρ S (bZ σ')) (hW : ∀ q j, W'.testBit (bRg q j) = false → M.2.2.testBit (bRg q j) = false ∧ bSame σ' σ q j) (hp : bFg W' = true → bFg M.2.2 = true ∧ ∀ q j, bPM.testBit (bRg q j) = true → bSame σ' σ q j) : bMok n ρ Kp σ0 (H, S, W') σ' := by
  refine ⟨fun q => by rw [hZ]; exact hM.1 q, hH, hS, fun q j hq => ?_, fun hw => hK σ σ' hZ.symm (hp hw).2 (hM.2.2.2.2 (hp hw).1)⟩
  obtain ⟨h1, a1, a2⟩ := hW q j hq
  obtain ⟨b1, b2⟩ := hM.2.2.2.1 q j h1
  exact ⟨a1.trans b1, a2.trans b2⟩
/-- within the regions of mk -/
theorem bMok.wr {H : bH} {S : bS} {mk : Nat} (hK : bKfr Kp) (hM : bMok n ρ Kp σ0 M σ) (hZ : σ'.1 = σ.1) (hH : bHok n ρ H (bZ σ')) (hS : bSk n ρ S (bZ σ')) (ho : ∀ q j, mk.testBit (bRg q j) = false → bSame σ' σ q j) (hp : bPr M.2.2 mk = true) : bMok n ρ Kp σ0 (H, S, Nat.lor M.2.2 mk) σ' :=
  hM.wrg hK hZ hH hS (fun q j hq => by
    have hq : (M.2.2 ||| mk).testBit (bRg q j) = false := hq
    rw [Nat.testBit_or, Bool.or_eq_false_iff] at hq
    exact ⟨hq.1, ho q j hq.2⟩) (fun hw => ⟨(bFg_lor hw).1, fun q j hq => ho q j (bPr_ok hp (bFg_lor hw).1 hq)⟩)
/-- one of some places, whose cells the table alone tells, and the new value is within it -/
theorem bMok.wrs {ps : List Nat} {W' : Nat} {kk : Nat} {z : Int} (hK : bKfr Kp) (hM : bMok n ρ Kp σ0 M σ) (hZ : σ'.1 = σ.1) (hpp : p ∈ ps) (hup : bZ σ' = aUp (bZ σ) p kk z) (hsm : ∀ mk q j : Nat, mk.testBit (bRg p kk) = true → mk.testBit (bRg q j) = false → bSame σ' σ q j) (hin : bIn (bGe p kk) z) (hfr : bFree M.1 p = true) (t : Nat → Nat) (ht : (t p).testBit (bRg p kk) = true) (hpr : bPr M.2.2 (t p) = true) (hW : W' = List.rec M.2.2 (fun p _ ih => Nat.lor ih (t p)) ps) : bMok n ρ Kp σ0 (M.1, [], W') σ' := by
  refine hM.wrg hK hZ (fun q j => ?_) (fun q hq => absurd hq List.not_mem_nil) (fun q j hq => ?_) (fun hw => by
    rw [hW] at hw
    exact ⟨bFg_rec t hw, fun q j hq => hsm (t p) q j ht (bPr_ok hpr (bFg_rec t hw) hq)⟩)
  · rw [hup]
    by_cases c : q = p ∧ j = kk
    · rw [c.1, c.2, show aUp (bZ σ) p kk z p kk = z from if_pos ⟨rfl, rfl⟩, bFree_ok hfr]
      exact hin
    · rw [show aUp (bZ σ) p kk z q j = bZ σ q j from if_neg c]
      exact hM.2.1 q j
  · rw [hW] at hq
    obtain ⟨h1, h2⟩ := bLor_ok t hq
    exact ⟨h1, hsm (t p) q j ht (h2 p hpp)⟩
theorem bZ_upi {x : Int32} {kk : Nat} (h : bLo p kk = false) : bZ (σ.1, pmUp σ.2.1 p kk x, σ.2.2) = aUp (bZ σ) p kk x.toInt := by
  funext q j
  show (bif bLo q j then (σ.2.2 q j).toInt else (if q = p ∧ j = kk then x else σ.2.1 q j).toInt) = if q = p ∧ j = kk then x.toInt else bif bLo q j then (σ.2.2 q j).toInt else (σ.2.1 q j).toInt
  by_cases c : q = p ∧ j = kk
  · rw [if_pos c, if_pos c, c.1, c.2, h]
    rfl
  · rw [if_neg c, if_neg c]
theorem bZ_upl {x : Int64} {kk : Nat} (h : bLo p kk = true) : bZ (σ.1, σ.2.1, pmUp σ.2.2 p kk x) = aUp (bZ σ) p kk x.toInt := by
  funext q j
  show (bif bLo q j then (if q = p ∧ j = kk then x else σ.2.2 q j).toInt else (σ.2.1 q j).toInt) = if q = p ∧ j = kk then x.toInt else bif bLo q j then (σ.2.2 q j).toInt else (σ.2.1 q j).toInt
  by_cases c : q = p ∧ j = kk
  · rw [if_pos c, if_pos c, c.1, c.2, h]
    rfl
  · rw [if_neg c, if_neg c]
theorem bUp_i {x : Int32} {kk mk : Nat} (h : mk.testBit (bRg p kk) = true) (q j : Nat) (hq : mk.testBit (bRg q j) = false) : bSame (σ.1, pmUp σ.2.1 p kk x, σ.2.2) σ q j := by
  refine ⟨?_, rfl⟩
  show (if q = p ∧ j = kk then x else σ.2.1 q j) = σ.2.1 q j
  rw [if_neg (fun c => by rw [c.1, c.2, h] at hq; cases hq)]
theorem bUp_l {x : Int64} {kk mk : Nat} (h : mk.testBit (bRg p kk) = true) (q j : Nat) (hq : mk.testBit (bRg q j) = false) : bSame (σ.1, σ.2.1, pmUp σ.2.2 p kk x) σ q j := by
  refine ⟨rfl, ?_⟩
  show (if q = p ∧ j = kk then x else σ.2.2 q j) = σ.2.2 q j
  rw [if_neg (fun c => by rw [c.1, c.2, h] at hq; cases hq)]
/-- locals -/
theorem bLok.set (h : bLok n ρ pl cl) (i : Nat) (hv : bVok n ρ a v) : bLok n ρ (pl.set i (some a)) (cl.set i (some v)) := by
  refine ⟨by simp [h.1], fun j b hj => ?_⟩
  by_cases e : i = j
  · subst e
    by_cases hl : i < pl.length
    · rw [List.getElem?_set_self hl] at hj
      cases hj
      exact ⟨v, by rw [List.getElem?_set_self (by rw [← h.1]; exact hl)], hv⟩
    · rw [List.getElem?_eq_none (by simp; omega)] at hj
      cases hj
  · rw [List.getElem?_set_ne e] at hj ⊢
    exact h.2 j b hj
theorem bLok.cut0 (h : bLok n ρ pl cl) (i : Nat) : bLok n ρ (pl.set i none) (cl.set i none) := by
  refine ⟨by simp [h.1], fun j b hj => ?_⟩
  by_cases e : i = j
  · subst e
    by_cases hl : i < pl.length
    · rw [List.getElem?_set_self hl] at hj
      cases hj
    · rw [List.getElem?_eq_none (by simp; omega)] at hj
      cases hj
  · rw [List.getElem?_set_ne e] at hj ⊢
    exact h.2 j b hj
theorem bLok.cutR (h : bLok n ρ pl cl) (i : Nat) (hu : ∀ a, pl[i]? ≠ some (some a)) : bLok n ρ pl (cl.set i none) := by
  refine ⟨by simp [h.1], fun j b hj => ?_⟩
  by_cases e : i = j
  · subst e
    exact absurd hj (hu b)
  · rw [List.getElem?_set_ne e]
    exact h.2 j b hj
theorem bCut_ok (h : bLok n ρ pl cl) (i : Nat) : bLok n ρ (bCutA m pl i) (pmCut m cl i) := by
  cases i with
  | zero => exact h
  | succ j =>
    show bLok n ρ (bif pmLg m j then (match fGet pl j with | some (some (.inl (true, _))) => pl.set j none | _ => pl) else pl) (bif pmLg m j then (match cl[j]? with | some (some v) => if v.category = 2 then cl.set j none else cl | _ => cl) else cl)
    cases pmLg m j with
    | false => exact h
    | true =>
      simp only [cond_true, fGet_eq]
      split
      · rename_i f hj
        obtain ⟨v, h1, h2⟩ := h.2 j _ hj
        obtain ⟨x, rfl, -⟩ := bVok_long h2
        rw [h1]
        simp only [Value.category, if_true]
        exact h.cut0 j
      · rename_i hne
        split
        · rename_i v hv
          split
          · rename_i hc
            refine h.cutR j fun a ha => ?_
            obtain ⟨v', h1, h2⟩ := h.2 j a ha
            rw [hv] at h1
            cases h1
            have e := bVok_cat h2
            rw [hc] at e
            match a, e, ha with
            | .inl (true, g), _, ha => exact hne g ha
            | .inl (false, g), e, _ => cases e
            | .inr q, e, _ => cases e
          · exact h
        · exact h
theorem bCutA_len (m : Nat) (pl : bL) (i : Nat) : (bCutA m pl i).length = pl.length := by
  cases i with
  | zero => rfl
  | succ j =>
    show (bif pmLg m j then (match fGet pl j with | some (some (.inl (true, _))) => pl.set j none | _ => pl) else pl).length = pl.length
    cases pmLg m j with
    | false => rfl
    | true =>
      simp only [cond_true]
      split
      · exact List.length_set
      · rfl
theorem bSt1_ok {K : bL → Bool} (h : bLok n ρ pl cl) (i : Nat) (hv : bVok n ρ a v) (hK : bSt1 m pl i a K = true) : i < cl.length ∧ ∃ pl', bLok n ρ pl' (pmS1 m cl i v) ∧ K pl' = true := by
  unfold bSt1 at hK
  obtain ⟨h1, h2⟩ := fSet_ok _ hK
  exact ⟨by rw [← h.1, ← bCutA_len m pl i]; exact h1, _, (bCut_ok h i).set i hv, h2⟩
theorem bSt2_ok {K : bL → Bool} (h : bLok n ρ pl cl) (i : Nat) (hv : bVok n ρ a v) (hK : bSt2 m pl i a K = true) : i + 1 < cl.length ∧ ∃ pl', bLok n ρ pl' (pmS2 m cl i v) ∧ K pl' = true := by
  unfold bSt2 at hK
  obtain ⟨h1, h2⟩ := fSet_ok _ hK
  obtain ⟨h3, h4⟩ := fSet_ok _ h2
  rw [List.length_set, bCutA_len] at h3
  exact ⟨by rw [← h.1]; exact h3, _, ((bCut_ok h i).set i hv).cut0 (i + 1), h4⟩
theorem bLd1_ok {K : bV → Bool} (h : bLok n ρ pl cl) {j : Nat} (hK : bLd1 pl j K = true) : ∃ a v, cl[j]? = some (some v) ∧ bVok n ρ a v ∧ K a = true := by
  unfold bLd1 at hK
  rw [fGet_eq] at hK
  split at hK
  · rename_i a ha
    obtain ⟨v, h1, h2⟩ := h.2 _ _ ha
    exact ⟨a, v, h1, h2, hK⟩
  · cases hK
theorem bNx.br {c : Nat} {off : Int} {C : Prop} [Decidable C] {x y : Int} (hs : pmStep ro (fun _ _ _ => none) o m rt pc i cl cs σ = pmBr pc off C cl cr σ) (hc : C ↔ aCd c x y) (hX : aXok L ρ X) (hM : bMok X.1.length ρ Kp σ0 M σ) (hl : bLok X.1.length ρ pl cl) (hr : bSok X.1.length ρ r cr) (hf : aFok X.1.length ρ f x) (hg : aFok X.1.length ρ g y) (hK : bBrs c pc off X M f g pl r k = true) : bNx ro L Kp σ0 o m rt pc i cl cs σ X.1.length ρ k := by
  unfold bBrs at hK
  obtain ⟨t, ht, hK⟩ := aJp_ok hK
  obtain ⟨h1, h2⟩ := aIf_ok hX hf hg hK
  rw [pmBr_eq ht] at hs
  by_cases h : C
  · rw [if_pos h] at hs
    exact bNx.gx hs (h1 (hc.mp h)) (fun _ hy => hy) hM hl hr
  · rw [if_neg h] at hs
    exact bNx.gx hs (h2 (fun q => h (hc.mpr q))) (fun _ hy => hy) hM hl hr
/-! some places -/
theorem bAll_ok {t : Nat → Bool} : ∀ {ps : List Nat}, bAll ps t = true → ∀ p ∈ ps, t p = true := fun {ps} => by
  induction ps with
  | nil => intro _ p hp; cases hp
  | cons a r ih =>
    intro h p hp
    have h : (t a && bAll r t) = true := h
    rw [Bool.and_eq_true] at h
    rcases List.mem_cons.mp hp with rfl | hp
    · exact h.1
    · exact ih h.2 p hp
theorem bJn_ok {t : Nat → Option aI} : ∀ {ps : List Nat} {j : aI}, bJn ps t = some j → ∀ p ∈ ps, ∃ i, t p = some i ∧ j.1 ≤ i.1 ∧ i.2 ≤ j.2 := fun {ps} => by
  induction ps with
  | nil => intro j _ p hp; cases hp
  | cons a r ih =>
    intro j h p hp
    cases r with
    | nil =>
      have h : (match t a with | some i => some i | none => none) = some j := h
      cases ha : t a with
      | none => rw [ha] at h; cases h
      | some i =>
        rw [ha] at h
        cases h
        rw [List.mem_singleton] at hp
        subst hp
        exact ⟨_, ha, Int.le_refl _, Int.le_refl _⟩
    | cons b r =>
      have h : (match t a with
        | some i => (match bJn (b :: r) t with
          | some j => some (aMin i.1 j.1, aMax i.2 j.2)
          | none => none)
        | none => none) = some j := h
      cases ha : t a with
      | none => rw [ha] at h; cases h
      | some i =>
        rw [ha] at h
        have h : (match bJn (b :: r) t with | some j => some (aMin i.1 j.1, aMax i.2 j.2) | none => none) = some j := h
        cases hj : bJn (b :: r) t with
        | none => rw [hj] at h; cases h
        | some w =>
          rw [hj] at h
          cases h
          have m1 := aMin_le i.1 w.1
          have m2 := aMax_le i.2 w.2
          rcases List.mem_cons.mp hp with rfl | hp
          · exact ⟨i, ha, m1.1, m2.1⟩
          · obtain ⟨u, h1, h2, h3⟩ := ih hj p hp
            exact ⟨u, h1, Int.le_trans m1.2 h2, Int.le_trans h3 m2.2⟩
theorem bMp_ok {t : Nat → Option Nat} : ∀ {ps qs : List Nat}, bMp ps t = some qs → ∀ p ∈ ps, ∃ q, t p = some q ∧ q ∈ qs := fun {ps} => by
  induction ps with
  | nil => intro qs _ p hp; cases hp
  | cons a r ih =>
    intro qs h p hp
    have h : (match t a, bMp r t with | some q, some l => some (q :: l) | _, _ => none) = some qs := h
    split at h
    · rename_i q l hq hl
      cases h
      rcases List.mem_cons.mp hp with rfl | hp
      · exact ⟨q, hq, List.mem_cons_self⟩
      · obtain ⟨u, h1, h2⟩ := ih hl p hp
        exact ⟨u, h1, List.mem_cons_of_mem _ h2⟩
    · cases h
theorem bKc_ok {c : Nat} (hM : ∀ p : Nat, σ.1[p]? = aG2 bZT p) (h : bKc p c = true) : ∃ s, σ.1[p]? = some (c, s) ∧ aG2 bZT p = some (c, s) := by
  unfold bKc at h
  rw [fG2_eq] at h
  split at h
  · rename_i s hs
    have e := Nat.eq_of_beq_eq_true h
    obtain ⟨a, b⟩ := s
    change a = c at e
    subst e
    exact ⟨b, by rw [hM, hs], hs⟩
  · cases h
theorem bRow_ok {c : Nat} {x : Int32} (hM : ∀ p : Nat, σ.1[p]? = aG2 bZT p) (hX : aXok L ρ X) (hf : aFok X.1.length ρ f x.toInt) (h : bRow c X f p = true) : ∃ s rs, σ.1[p]? = some (c, s, rs) ∧ aG2 bZT p = some (c, s, rs) ∧ pmIn x s ∧ 0 ≤ x.toInt := by
  unfold bRow at h
  rw [fG2_eq] at h
  split at h
  · rename_i s hs
    rw [Bool.and_eq_true] at h
    have e := Nat.eq_of_beq_eq_true h.1
    obtain ⟨a, b, d⟩ := s
    change a = c at e
    subst e
    obtain ⟨h1, h2⟩ := aAt_ok hX hf h.2
    exact ⟨b, d, by rw [hM, hs], hs, h1, h2⟩
  · cases h
theorem bRg_sing (h : bSing p = true) (j j' : Nat) : bRg p j = bRg p j' := by
  unfold bSing at h
  unfold bRg
  cases hb : fG2 bRT p with
  | none => rfl
  | some b =>
    rw [hb] at h
    obtain ⟨b1, b2⟩ := b
    cases b2 with
    | true => cases h
    | false => rfl
end
end
