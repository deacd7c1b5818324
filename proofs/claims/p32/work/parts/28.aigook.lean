/-! the abstract machine is sound: its runs -/
section
abbrev aCf : Type := aK × Nat × pmL × List Value
/-- what is left to do behind an end, frame by frame -/
def aRtQ (ro : Nat → Nat × (Nat → Int32)) : Nat → List aCf → (Option Value → pmS → Prop) → Option Value → pmS → Prop
  | _, [], Q => Q
  | d, c :: cs, Q => fun r σ => pmWp ro (d + 1) c.1.1 c.1.2.1 c.1.2.2.1 (c.2.1 + 3) c.2.2.1 (r.toList ++ c.2.2.2) σ (aRtQ ro (d + 1) cs Q)
def aKok (K : aK) : Prop := ∃ q, pmAll[K.2.1]? = some (q, K.2.2.2.1)
def aFsok (n : Nat) (ρ : Nat → Int) : List aFr → List aCf → Prop
  | [], [] => True
  | f :: fs, c :: cs => (aKok f.1 ∧ c.1 = f.1 ∧ c.2.1 = f.2.1 ∧ aLok n ρ f.2.2.1 c.2.2.1 ∧ aSok n ρ f.2.2.2 c.2.2.2) ∧ aFsok n ρ fs cs
  | _, _ => False
def aRok (n : Nat) (ρ : Nat → Int) : Option aV → Option Value → Prop
  | none, none => True
  | some a, some v => aVok n ρ a v
  | _, _ => False
def aAok (n : Nat) (ρ : Nat → Int) (as : List aV) (vs : List Value) : Prop := aSok n ρ as vs
/-- what is known at a place: n0 variables stand for what ρ0 says -/
def aAll (L : aLa) (n0 : Nat) (ρ0 ρ : Nat → Int) (σ0 : pmS) (X : aX) (M : aM) (σ : pmS) : Prop := aXok L ρ X ∧ aMok X.1.length ρ σ0 M σ ∧ n0 ≤ X.1.length ∧ aExt n0 ρ0 ρ
variable {k : aKk} {L : aLa} {Ln : Nat} {xs : Nat → Int32} {ro : Nat → Nat × (Nat → Int32)} {σ0 σ σ' : pmS} {o m rt pc pc' : Nat} {i : Instr} {cl cl' : pmL} {cs cr : List Value} {n n' n0 : Nat} {ρ0 ρ ρ' : Nat → Int} {X X' : aX} {M M' : aM} {pl pl' : aL} {st r : List aV} {f g : aF} {p q : Nat} {a b : aV} {v w : Value}
theorem aFsok.ext : ∀ {fs : List aFr} {cs : List aCf}, aFsok n ρ fs cs → n ≤ n' → aExt n ρ ρ' → aFsok n' ρ' fs cs
  | [], [], _, _, _ => trivial
  | _ :: _, _ :: _, h, hn, he => ⟨⟨h.1.1, h.1.2.1, h.1.2.2.1, h.1.2.2.2.1.ext hn he, h.1.2.2.2.2.ext hn he⟩, aFsok.ext h.2 hn he⟩
theorem aCode_ok {K : aK} (hK : aKok K) : pmCode K.2.1 pc = aCode K.2.2.2.1 pc := by
  obtain ⟨q, hq⟩ := hK
  unfold pmCode aCode
  rw [hq]
  simp only [fGet_eq, fLk_eq]
  change (K.2.2.2.1[pc / 32]?).bind _ = (match K.2.2.2.1[pc / 32]? with | some l => pmLk l pc | none => none)
  cases K.2.2.2.1[pc / 32]? <;> rfl
theorem aInf_ok {mm : Nat} {q : pmIt} {c : List (List (Nat × Instr))} (h : pmAll[mm]? = some (q, c)) : pmInf[mm]? = some q := by
  unfold pmInf
  rw [List.getElem?_map, h]
  rfl
theorem aSok_len : ∀ {st : List aV} {cs : List Value}, aSok n ρ st cs → st.length = cs.length
  | [], [], _ => rfl
  | _ :: _, _ :: _, h => by simp [aSok_len h.2]
theorem aSok_drop : ∀ (j : Nat) {st : List aV} {cs : List Value}, aSok n ρ st cs → aSok n ρ (st.drop j) (cs.drop j)
  | 0, _, _, h => h
  | _ + 1, [], [], _ => trivial
  | j + 1, _ :: _, _ :: _, h => aSok_drop j h.2
theorem aSok_take : ∀ (j : Nat) {st : List aV} {cs : List Value}, aSok n ρ st cs → aSok n ρ (st.take j) (cs.take j)
  | 0, _, _, _ => by simp [aSok]
  | _ + 1, [], [], _ => trivial
  | j + 1, _ :: _, _ :: _, h => ⟨h.1, aSok_take j h.2⟩
theorem aSok_app : ∀ {a : List aV} {b : List Value} {c : List aV} {d : List Value}, aSok n ρ a b → aSok n ρ c d → aSok n ρ (a ++ c) (b ++ d)
  | [], [], _, _, _, h => h
  | _ :: _, _ :: _, _, _, h, h2 => ⟨h.1, aSok_app h.2 h2⟩
theorem aSok_rev : ∀ {st : List aV} {cs : List Value}, aSok n ρ st cs → aSok n ρ st.reverse cs.reverse
  | [], [], _ => trivial
  | a :: st, v :: cs, h => by
    rw [List.reverse_cons, List.reverse_cons]
    exact aSok_app (aSok_rev h.2) ⟨h.1, trivial⟩
theorem aLok_app {a : aL} {b : pmL} {c : aL} {d : pmL} (h : aLok n ρ a b) (h2 : aLok n ρ c d) : aLok n ρ (a ++ c) (b ++ d) := by
  refine ⟨by simp [h.1, h2.1], fun i x hi => ?_⟩
  by_cases hl : i < a.length
  · rw [List.getElem?_append_left hl] at hi
    rw [List.getElem?_append_left (by rw [← h.1]; exact hl)]
    exact h.2 i x hi
  · rw [List.getElem?_append_right (by omega)] at hi
    rw [List.getElem?_append_right (by rw [← h.1]; omega), ← h.1]
    exact h2.2 _ x hi
theorem aLok_nil : aLok n ρ [] [] := ⟨rfl, fun i x h => by cases h⟩
theorem aPl_ok : ∀ {st : List aV} {cs : List Value}, aSok n ρ st cs → aLok n ρ (aPl st) (pmPl cs)
  | [], [], _ => aLok_nil
  | a :: st, v :: cs, h => by
    have ih := aPl_ok h.2
    have e := aVok_cat h.1
    show aLok n ρ ((if aCat a = 2 then [some a, none] else [some a]) ++ aPl st) ((if v.category = 2 then [some v, none] else [some v]) ++ pmPl cs)
    refine aLok_app ?_ ih
    rw [e]
    split
    · refine ⟨rfl, fun i x hi => ?_⟩
      match i, hi with
      | 0, hi => cases hi; exact ⟨v, rfl, h.1⟩
      | 1, hi => cases hi
    · refine ⟨rfl, fun i x hi => ?_⟩
      match i, hi with
      | 0, hi => cases hi; exact ⟨v, rfl, h.1⟩
theorem aPl_len : ∀ {st : List aV} {cs : List Value}, aSok n ρ st cs → (aPl st).length = (pmPl cs).length := fun h => (aPl_ok h).1
theorem aPl_cat : ∀ {st : List aV} {cs : List Value}, aSok n ρ st cs → (aPl st).map (Option.map aCat) = (pmPl cs).map (Option.map Value.category)
  | [], [], _ => rfl
  | a :: st, v :: cs, h => by
    have ih := aPl_cat h.2
    have e := aVok_cat h.1
    show List.map (Option.map aCat) ((if aCat a = 2 then [some a, none] else [some a]) ++ aPl st) = List.map (Option.map Value.category) ((if v.category = 2 then [some v, none] else [some v]) ++ pmPl cs)
    rw [List.map_append, List.map_append, ih, e]
    split <;> simp [e]
theorem aEl_ok {mm : Nat} : ∀ (a : aL) (b : pmL) (j : Nat), a.map (Option.map aCat) = b.map (Option.map Value.category) → ((a.zipIdx j).all fun q => match q.1 with
    | some w => !(aCat w == 2) || pmLg mm q.2
    | none => true) = ((b.zipIdx j).all fun q => match q.1 with
    | some w => !(w.category == 2) || pmLg mm q.2
    | none => true)
  | [], [], _, _ => rfl
  | [], _ :: _, _, h => by cases h
  | _ :: _, [], _, h => by cases h
  | a :: as, b :: bs, j, h => by
    simp only [List.map_cons, List.cons.injEq] at h
    have ih := aEl_ok (mm := mm) as bs (j + 1) h.2
    simp only [List.zipIdx_cons, List.all_cons, ih]
    congr 1
    match a, b, h.1 with
    | none, none, _ => rfl
    | some a, some b, e =>
      simp only [Option.map_some, Option.some.injEq] at e
      show (!(aCat a == 2) || pmLg mm j) = (!(b.category == 2) || pmLg mm j)
      rw [e]
    | none, some b, e => cases e
    | some a, none, e => cases e
theorem aLok_rep (k : Nat) : aLok n ρ (List.replicate k none) (List.replicate k none) := by
  refine ⟨by simp, fun i x hi => ?_⟩
  rw [List.getElem?_replicate] at hi
  split at hi <;> cases hi
theorem aRet_ok {rv : Option aV} (hX : aXok L ρ X) (hs : aSok X.1.length ρ st cs) (h : aRet rt i st X = some rv) : ∃ v, aRok X.1.length ρ rv v ∧ ∀ call, pmStep ro call o m rt pc i cl cs σ = some (.inl (v, σ)) := by
  unfold aRet at h
  simp only [zLe_eq, zAnd, zIf] at h
  split at h
  · split at h
    · obtain ⟨v0, c0, rfl, w0, hr⟩ := aSok_cons hs
      obtain ⟨x, rfl, hx⟩ := aVok_int w0
      cases c0 with
      | cons _ _ => exact hr.elim
      | nil =>
        split at h
        · rename_i hrt
          cases h
          exact ⟨some (.int x), hx, fun call => by simp only [pmStep]; rw [if_pos (Or.inl hrt)]⟩
        · split at h
          · rename_i hrt
            split at h
            · rename_i iv hi
              split at h
              · rename_i hb
                cases h
                have hv := aItv_ok hX.1 hx hi
                have h0 : (0 : Int32).toInt = 0 := rfl
                have h10 : (1 : Int32).toInt = 1 := rfl
                have hzo : x = 0 ∨ x = 1 := by
                  rw [aEq32, aEq32, h0, h10]
                  omega
                exact ⟨some (.int x), hx, fun call => by simp only [pmStep]; rw [if_pos (Or.inr ⟨hrt, hzo⟩)]⟩
              · cases h
            · cases h
          · cases h
    · cases h
  · split at h
    · obtain ⟨v0, c0, rfl, w0, hr⟩ := aSok_cons hs
      obtain ⟨x, rfl, hx⟩ := aVok_long w0
      cases c0 with
      | cons _ _ => exact hr.elim
      | nil =>
        split at h
        · rename_i hrt
          cases h
          exact ⟨some (.long x), hx, fun call => by simp only [pmStep]; rw [if_pos hrt]⟩
        · cases h
    · cases h
  · split at h
    · cases cs with
      | cons _ _ => exact hs.elim
      | nil =>
        split at h
        · rename_i hrt
          cases h
          exact ⟨none, trivial, fun call => by simp only [pmStep]; rw [if_pos hrt]⟩
        · cases h
    · cases h
  · cases h
theorem aFork_ok {x : Int} {kk : aX → Bool} : ∀ (c : Nat) (lo : Int) (X : aX), aXok L ρ X → aFok X.1.length ρ f x → lo ≤ x → aFork f c lo X kk = true → aGx L X ρ kk
  | 0, lo, X, hX, hf, hl, h => aLe_ok hX (aFok.c0 hX.1) hf (d := 0) (by omega) h
  | c + 1, lo, X, hX, hf, hl, h => by
    unfold aFork at h
    rw [Bool.and_eq_true, aFz_eq] at h
    by_cases e : x = lo
    · exact aEq_ok hX hf (aFok.c0 hX.1) e h.1
    · obtain ⟨Y, h1, h2, h3⟩ := aLe_ok hX (aFok.c0 hX.1) hf (d := 0) (x := lo + 1) (by omega) h.2
      exact (aFork_ok c (lo + 1) Y h2 (by rw [h1]; exact hf) (by omega) h3).tr h1
theorem aSpl_ok {kk : aX → Bool} : ∀ (t : List (Nat × Int × Nat)) (X : aX), aXok L ρ X → aLok X.1.length ρ pl cl → aSpl pl t X kk = true → aGx L X ρ kk
  | [], X, hX, _, h => aGx.same hX h
  | q :: t, X, hX, hl, h => by
    unfold aSpl at h
    rw [fGet_eq] at h
    split at h
    · rename_i tg f hj
      rw [Bool.and_eq_true] at h
      obtain ⟨v, h1, h2⟩ := hl.2 _ _ hj
      have hx : ∃ x, aFok X.1.length ρ f x := by
        cases tg with
        | false => obtain ⟨x, rfl, hx⟩ := aVok_int h2; exact ⟨_, hx⟩
        | true => obtain ⟨x, rfl, hx⟩ := aVok_long h2; exact ⟨_, hx⟩
      obtain ⟨x, hx⟩ := hx
      by_cases e : x < q.2.1
      · obtain ⟨Y, y1, y2, y3⟩ := aLe_ok hX hx (aFok.c0 hX.1) (d := 1) (y := q.2.1) (by omega) h.1
        exact (aSpl_ok t Y y2 (by rw [y1]; exact hl) y3).tr y1
      · obtain ⟨Y, y1, y2, y3⟩ := aLe_ok hX (aFok.c0 hX.1) hx (d := 0) (x := q.2.1) (by omega) h.2
        obtain ⟨Y2, z1, z2, z3⟩ := aFork_ok q.2.2 q.2.1 Y y2 (by rw [y1]; exact hx) (by omega) y3
        exact ((aSpl_ok t Y2 z2 (by rw [z1, y1]; exact hl) z3).tr z1).tr y1
    · cases h
theorem aCal_ok {mm kd nn oo mx rr : Nat} {y : MethodName} {bb : ByteArray} {ev : Nat × Nat × Nat × Nat} {args rest : List aV} (hM : aMok n ρ σ0 M σ) (hs : aSok n ρ st cs) (h1 : aCal o i = some (mm, kd)) (h2 : pmInf[mm]? = some (y, bb, (oo, nn, mx, rr), (kd, ev))) (h3 : aArgs kd nn oo M.1.2 st = some (args, rest)) :
    ∃ vs cr, aSok n ρ args vs ∧ aSok n ρ rest cr ∧ ∀ call, pmStep ro call o m rt pc i cl cs σ = pmRt call mm vs pc cl cr σ := by
  have hd := aSok_drop nn hs
  have ht := aSok_rev (aSok_take nn hs)
  unfold aCal at h1
  split at h1
  · rename_i j
    split at h1
    · rename_i m0 w1 w2 hMM
      cases hb : Nat.ble 9000 m0 with
      | true => rw [hb] at h1; cases h1
      | false =>
        rw [hb] at h1
        cases h1
        have hlt : ¬ 9000 ≤ mm := fun h => by rw [Nat.ble_eq_true_of_le h] at hb; cases hb
        unfold aArgs at h3
        simp only [Nat.beq_refl, cond_true] at h3
        split at h3
        · rename_i hn
          cases h3
          refine ⟨_, _, ht, hd, fun call => ?_⟩
          simp only [pmStep, hMM]
          rw [if_neg (by omega), if_neg (by omega), if_neg (by omega), h2]
          simp only []
          rw [if_pos (by rw [← aSok_len hs]; exact hn)]
        · cases h3
    · cases h1
  · rename_i j
    split at h1
    · rename_i m0 w1 w2 hMM
      cases h1
      unfold aArgs at h3
      simp only [fG2_eq, show Nat.beq 0 1 = false from rfl, show Nat.beq 0 0 = true from rfl, cond_true, cond_false] at h3
      split at h3
      · rename_i p rs hdr
        rw [hdr] at hd
        obtain ⟨v0, c0, e0, w0, hr⟩ := aSok_cons hd
        cases aVok_ref w0
        split at h3
        · rename_i c z1 z2 hZ
          cases hc : Nat.beq c oo with
          | false => rw [hc] at h3; cases h3
          | true =>
            rw [hc] at h3
            cases h3
            rw [← hM.1.2] at hZ
            refine ⟨.ref p :: (cs.take nn).reverse, c0, ⟨rfl, ht⟩, hr, fun call => ?_⟩
            simp only [pmStep, hMM, h2, e0, hZ]
            rw [if_pos (Nat.eq_of_beq_eq_true hc)]
        · cases h3
      · cases h3
    · cases h1
  · rename_i j
    split at h1
    · rename_i m0 w1 w2 hMM
      cases hb : Nat.ble 9000 m0 with
      | true => rw [hb] at h1; cases h1
      | false =>
        rw [hb] at h1
        cases h1
        have hlt : ¬ 9000 ≤ mm := fun h => by rw [Nat.ble_eq_true_of_le h] at hb; cases hb
        unfold aArgs at h3
        simp only [show Nat.beq 2 1 = false from rfl, show Nat.beq 2 0 = false from rfl, cond_false] at h3
        split at h3
        · rename_i p rs hdr
          cases h3
          rw [hdr] at hd
          obtain ⟨v0, c0, e0, w0, hr⟩ := aSok_cons hd
          cases aVok_ref w0
          refine ⟨.ref p :: (cs.take nn).reverse, c0, ⟨rfl, ht⟩, hr, fun call => ?_⟩
          simp only [pmStep, hMM]
          rw [if_neg (by omega)]
          simp only [h2, e0]
        · cases h3
    · cases h1
  · cases h1
theorem aTr_step {ff : aIf1} (h : aTr o i = some (.inl ff)) (hf : ff o m rt pc pl st X M k = true) : aStep o m rt pc i pl st X M k = true := by
  have e : aDis i = some ff := by
    unfold aTr at h
    split at h
    · cases h
    · split at h
      · cases h
      · cases h
      · cases h
      · split at h
        · rename_i f0 e
          cases h
          exact e
        · cases h
  unfold aStep
  rw [e]
  exact hf
theorem aTr_call {tg mm kd : Nat} (h : aTr o i = some (.inr (tg, mm, kd))) : (tg = 0 ∧ aCal o i = some (mm, kd)) ∨ tg = 1 := by
  unfold aTr at h
  split at h
  · rename_i a b e
    cases h
    exact Or.inl ⟨rfl, e⟩
  · split at h
    · cases h; exact Or.inr rfl
    · cases h; exact Or.inr rfl
    · cases h; exact Or.inr rfl
    · split at h <;> cases h
/-- the surroundings of a run: the end, the nodes, the contracts -/
def aFinOk (L : aLa) (n0 : Nat) (ρ0 : Nat → Int) (σ0 : pmS) (fin : Option aV → aX → aM → Bool) (Q0 : Option Value → pmS → Prop) : Prop := ∀ r X M ρ v σ, fin r X M = true → aAll L n0 ρ0 ρ σ0 X M σ → aRok X.1.length ρ r v → Q0 v σ
def aNodOk (ro : Nat → Nat × (Nat → Int32)) (L : aLa) (n0 : Nat) (ρ0 : Nat → Int) (σ0 : pmS) (nod : aNod) (Q0 : Option Value → pmS → Prop) : Prop :=
  ∀ d K pc pl st fs X M ρ cl cs cfs σ, nod d K pc pl st fs X M = some true → aKok K → aAll L n0 ρ0 ρ σ0 X M σ → aLok X.1.length ρ pl cl → aSok X.1.length ρ st cs → aFsok X.1.length ρ fs cfs → pmWp ro d K.1 K.2.1 K.2.2.1 pc cl cs σ (aRtQ ro d cfs Q0)
def aConOk (ro : Nat → Nat × (Nat → Int32)) (L : aLa) (σ0 : pmS) (con : aCon) : Prop :=
  ∀ d mm args X M k ρ vs σ (Q : Option Value → pmS → Prop), con d mm args X M k = some true → aXok L ρ X → aMok X.1.length ρ σ0 M σ → aSok X.1.length ρ args vs →
    (∀ r X' M' ρ' v σ', X.1.length ≤ X'.1.length → aExt X.1.length ρ ρ' → aXok L ρ' X' → aMok X'.1.length ρ' σ0 M' σ' → aRok X'.1.length ρ' r v → k r X' M' = true → Q v σ') → pmCs ro d mm vs σ Q
theorem aRok_list {rv : Option aV} {v : Option Value} (h : aRok n ρ rv v) (hr : aSok n ρ r cr) : aSok n ρ (rv.toList ++ r) (v.toList ++ cr) := by
  match rv, v, h with
  | none, none, _ => exact hr
  | some a, some v, h => exact ⟨h, hr⟩
set_option maxHeartbeats 1000000 in
theorem aGo_ok {spl : Nat → aSs} {nod : aNod} {con : aCon} {fin : Option aV → aX → aM → Bool} {Q0 : Option Value → pmS → Prop} (hro : ro = pmRo Ln xs) (hL : L = ((Ln : Int), xs)) (hLn : Ln ≤ 3072) (hfin : aFinOk L n0 ρ0 σ0 fin Q0) (hnod : aNodOk ro L n0 ρ0 σ0 nod Q0) (hcon : aConOk ro L σ0 con) :
    ∀ (nf d : Nat) (fst : Bool) (K : aK) (pc : Nat) (pl : aL) (st : List aV) (fs : List aFr) (X : aX) (M : aM) (ρ : Nat → Int) (cl : pmL) (cs : List Value) (cfs : List aCf) (σ : pmS), aGo spl nod con fin nf d fst K pc pl st fs X M = true → aKok K → aAll L n0 ρ0 ρ σ0 X M σ → aLok X.1.length ρ pl cl → aSok X.1.length ρ st cs → aFsok X.1.length ρ fs cfs → pmWp ro d K.1 K.2.1 K.2.2.1 pc cl cs σ (aRtQ ro d cfs Q0)
  | 0, _, _, _, _, _, _, _, _, _, _, _, _, _, _, h, _, _, _, _, _ => by cases h
  | nf + 1, d, fst, K, pc, pl, st, fs, X, M, ρ, cl, cs, cfs, σ, h, hK, hA, hl, hs, hfs => by
    have ih := aGo_ok (spl := spl) hro hL hLn hfin hnod hcon nf
    unfold aGo at h
    rw [aFn_eq, aNm_eq] at h
    split at h
    · rename_i b hb
      cases fst with
      | true => cases hb
      | false =>
        subst h
        exact hnod _ _ _ _ _ _ _ _ _ _ _ _ _ hb hK hA hl hs hfs
    · split at h
      · cases h
      · rename_i i hi
        have hi : pmCode K.2.1 pc = some i := (aCode_ok hK).trans hi
        obtain ⟨hX0, hM0, hn0, he0⟩ := hA
        obtain ⟨Y, y1, hX, h⟩ := aSpl_ok _ X hX0 hl h
        rw [← y1] at hM0 hn0 hl hs hfs
        have hM := hM0
        split at h
        · cases h
        · rename_i f htr
          have hst := aTr_step htr h
          obtain ⟨pc', cl', cs', σ', X', M', pl', st', ρ', hst, e1, e2, e3, e4, e5, e6, e7⟩ := aStep_ok (ro := ro) (σ0 := σ0) hro hL hLn hX hM hl hs hst
          refine (pmWp_blk (n := 1) (pc' := pc') (pl' := cl') (st' := cs') (σ' := σ') ?_).mpr ?_
          · unfold pmBlk
            rw [hi]
            simp only [hst]
            rfl
          · exact ih d false K pc' pl' st' fs X' M' ρ' cl' cs' cfs σ' e7 hK ⟨e3, e4, Nat.le_trans hn0 e1, he0.tr hn0 e2⟩ e5 e6 (hfs.ext e1 e2)
        · rename_i tg mm kd htr
          have hcal0 := aTr_call htr
          cases htg : Nat.beq tg 1 with
          | true =>
            rw [htg] at h
            simp only [cond_true] at h
            split at h
            · rename_i rv hrv
              obtain ⟨v, hv, hst⟩ := aRet_ok (ro := ro) (o := K.1) (m := K.2.1) (pc := pc) (cl := cl) (σ := σ) hX hs hrv
              refine (pmWp_ret hi (hst _)).mpr ?_
              cases fs with
              | nil =>
                cases cfs with
                | cons _ _ => exact hfs.elim
                | nil => exact hfin _ _ _ ρ _ _ h ⟨hX, hM, hn0, he0⟩ hv
              | cons f fs' =>
                cases cfs with
                | nil => exact hfs.elim
                | cons c cfs' =>
                  obtain ⟨⟨g1, g2, g3, g4, g5⟩, g6⟩ := hfs
                  show pmWp ro (d + 1) c.1.1 c.1.2.1 c.1.2.2.1 (c.2.1 + 3) c.2.2.1 (v.toList ++ c.2.2.2) σ (aRtQ ro (d + 1) cfs' Q0)
                  rw [g2, g3]
                  exact ih (d + 1) false f.1 (f.2.1 + 3) f.2.2.1 _ fs' Y M ρ c.2.2.1 _ cfs' σ h g1 ⟨hX, hM, hn0, he0⟩ g4 (aRok_list hv g5) g6
            · cases h
          | false =>
            rw [htg] at h
            simp only [cond_false] at h
            have hcal : aCal K.1 i = some (mm, kd) := by
              rcases hcal0 with e | e
              · exact e.2
              · rw [e] at htg; cases htg
            split at h
            · rename_i q code hq
              obtain ⟨y, bb, ⟨oo, nn, mx, rr⟩, ⟨kind, ev⟩⟩ := q
              split at h
              · rename_i args rest hargs
                obtain ⟨hc, h⟩ := aBif h
                rw [Bool.and_eq_true] at hc
                have hcat := of_decide_eq_true hc.1
                have hkd : kind = kd := Nat.eq_of_beq_eq_true hc.2
                have hcal : aCal K.1 i = some (mm, kind) := by rw [hkd]; exact hcal
                have hargs : aArgs kind nn oo M.1.2 st = some (args, rest) := by rw [hkd]; exact hargs
                have hinf := aInf_ok hq
                obtain ⟨vs, cr, hvs, hcr, hst⟩ := aCal_ok (ro := ro) (m := K.2.1) (rt := K.2.2.1) (pc := pc) (cl := cl) hM hs hcal hinf hargs
                rw [← aSok_cats hcr] at hcat
                refine (pmWp_call hi hcat hst).mpr ?_
                split at h
                · rename_i b hb
                  subst h
                  refine hcon _ _ _ _ _ _ ρ _ _ _ hb hX hM hvs ?_
                  intro r X' M' ρ' v σ' e1 e2 e3 e4 e5 e6
                  exact ih d false K (pc + 3) pl _ fs X' M' ρ' cl _ cfs σ' e6 hK ⟨e3, e4, Nat.le_trans hn0 e1, he0.tr hn0 e2⟩ (hl.ext e1 e2) (aRok_list e5 (hcr.ext e1 e2)) (hfs.ext e1 e2)
                · cases d with
                  | zero => cases h
                  | succ d' =>
                    obtain ⟨hc2, h⟩ := aBif h
                    simp only [Bool.and_eq_true, decide_eq_true_eq] at hc2
                    obtain ⟨z1, z2, z3, z4⟩ := hc2
                    simp only [aFl_eq, aFn_eq, aFw_eq] at h
                    rw [aPl_len hvs] at z1 h
                    have z5 : pmEl mm (pmPl vs) = true := (aEl_ok (mm := mm) (aPl args) (pmPl vs) 0 (aPl_cat hvs)).symm.trans z4
                    refine (pmCs_go hinf ⟨z1, z2, z3, z5⟩).mpr ?_
                    exact ih d' false (oo, mm, pmRk rr kind, code, spl mm) 0 _ [] ((K, pc, pl, rest) :: fs) Y M ρ _ [] ((K, pc, cl, cr) :: cfs) σ h ⟨_, hq⟩ ⟨hX, hM, hn0, he0⟩ (aLok_app (aPl_ok hvs) (aLok_rep _)) trivial ⟨⟨hK, rfl, rfl, hl, hcr⟩, hfs⟩
              · cases h
            · cases h
end
