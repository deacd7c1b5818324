/-! the second make is sound: its runs -/
section
def bFsok (n : Nat) (ρ : Nat → Int) : List bFr → List aCf → Prop
  | [], [] => True
  | f :: fs, c :: cs => (aKok f.1 ∧ (c.1.1 = f.1.1 ∧ c.1.2.1 = f.1.2.1 ∧ c.1.2.2.1 = f.1.2.2.1) ∧ c.2.1 = f.2.1 ∧ bLok n ρ f.2.2.1 c.2.2.1 ∧ bSok n ρ f.2.2.2 c.2.2.2) ∧ bFsok n ρ fs cs
  | _, _ => False
def bRok (n : Nat) (ρ : Nat → Int) : Option bV → Option Value → Prop
  | none, none => True
  | some a, some v => bVok n ρ a v
  | _, _ => False
/-- what is known at a place: n0 variables stand for what ρ0 says -/
def bAllK (L : aLa) (n0 : Nat) (ρ0 ρ : Nat → Int) (Kp : pmS → Prop) (σ0 : pmS) (X : aX) (M : bM) (σ : pmS) : Prop := aXok L ρ X ∧ bMok X.1.length ρ Kp σ0 M σ ∧ n0 ≤ X.1.length ∧ aExt n0 ρ0 ρ
variable {k : bKk} {L : aLa} {Ln : Nat} {xs : Nat → Int32} {ro : Nat → Nat × (Nat → Int32)} {Kp : pmS → Prop} {σ0 σ σ' : pmS} {o m rt pc pc' : Nat} {i : Instr} {cl cl' : pmL} {cs cr : List Value} {n n' n0 : Nat} {ρ0 ρ ρ' : Nat → Int} {X X' : aX} {M M' : bM} {pl pl' : bL} {st r : List bV} {f g : aF} {p q : Nat} {a b : bV} {v w : Value}
theorem bFsok.ext : ∀ {fs : List bFr} {cs : List aCf}, bFsok n ρ fs cs → n ≤ n' → aExt n ρ ρ' → bFsok n' ρ' fs cs
  | [], [], _, _, _ => trivial
  | _ :: _, _ :: _, h, hn, he => ⟨⟨h.1.1, h.1.2.1, h.1.2.2.1, h.1.2.2.2.1.ext hn he, h.1.2.2.2.2.ext hn he⟩, bFsok.ext h.2 hn he⟩
theorem bSok_len : ∀ {st : List bV} {cs : List Value}, bSok n ρ st cs → st.length = cs.length
  | [], [], _ => rfl
  | _ :: _, _ :: _, h => by simp [bSok_len h.2]
theorem bSok_drop : ∀ (j : Nat) {st : List bV} {cs : List Value}, bSok n ρ st cs → bSok n ρ (st.drop j) (cs.drop j)
  | 0, _, _, h => h
  | _ + 1, [], [], _ => trivial
  | j + 1, _ :: _, _ :: _, h => bSok_drop j h.2
theorem bSok_take : ∀ (j : Nat) {st : List bV} {cs : List Value}, bSok n ρ st cs → bSok n ρ (st.take j) (cs.take j)
  | 0, _, _, _ => by simp [bSok]
  | _ + 1, [], [], _ => trivial
  | j + 1, _ :: _, _ :: _, h => ⟨h.1, bSok_take j h.2⟩
theorem bSok_app : ∀ {a : List bV} {b : List Value} {c : List bV} {d : List Value}, bSok n ρ a b → bSok n ρ c d → bSok n ρ (a ++ c) (b ++ d)
  | [], [], _, _, _, h => h
  | _ :: _, _ :: _, _, _, h, h2 => ⟨h.1, bSok_app h.2 h2⟩
theorem bSok_rev : ∀ {st : List bV} {cs : List Value}, bSok n ρ st cs → bSok n ρ st.reverse cs.reverse
  | [], [], _ => trivial
  | a :: st, v :: cs, h => by
    rw [List.reverse_cons, List.reverse_cons]
    exact bSok_app (bSok_rev h.2) ⟨h.1, trivial⟩
theorem bLok_app {a : bL} {b : pmL} {c : bL} {d : pmL} (h : bLok n ρ a b) (h2 : bLok n ρ c d) : bLok n ρ (a ++ c) (b ++ d) := by
  refine ⟨by simp [h.1, h2.1], fun i x hi => ?_⟩
  by_cases hl : i < a.length
  · rw [List.getElem?_append_left hl] at hi
    rw [List.getElem?_append_left (by rw [← h.1]; exact hl)]
    exact h.2 i x hi
  · rw [List.getElem?_append_right (by omega)] at hi
    rw [List.getElem?_append_right (by rw [← h.1]; omega), ← h.1]
    exact h2.2 _ x hi
theorem bLok_nil : bLok n ρ [] [] := ⟨rfl, fun i x h => by cases h⟩
theorem bPl_ok : ∀ {st : List bV} {cs : List Value}, bSok n ρ st cs → bLok n ρ (bPl st) (pmPl cs)
  | [], [], _ => bLok_nil
  | a :: st, v :: cs, h => by
    have ih := bPl_ok h.2
    have e := bVok_cat h.1
    show bLok n ρ ((if bCat a = 2 then [some a, none] else [some a]) ++ bPl st) ((if v.category = 2 then [some v, none] else [some v]) ++ pmPl cs)
    refine bLok_app ?_ ih
    rw [e]
    split
    · refine ⟨rfl, fun i x hi => ?_⟩
      match i, hi with
      | 0, hi => cases hi; exact ⟨v, rfl, h.1⟩
      | 1, hi => cases hi
    · refine ⟨rfl, fun i x hi => ?_⟩
      match i, hi with
      | 0, hi => cases hi; exact ⟨v, rfl, h.1⟩
theorem bPl_len : ∀ {st : List bV} {cs : List Value}, bSok n ρ st cs → (bPl st).length = (pmPl cs).length := fun h => (bPl_ok h).1
theorem bPl_cat : ∀ {st : List bV} {cs : List Value}, bSok n ρ st cs → (bPl st).map (Option.map bCat) = (pmPl cs).map (Option.map Value.category)
  | [], [], _ => rfl
  | a :: st, v :: cs, h => by
    have ih := bPl_cat h.2
    have e := bVok_cat h.1
    show List.map (Option.map bCat) ((if bCat a = 2 then [some a, none] else [some a]) ++ bPl st) = List.map (Option.map Value.category) ((if v.category = 2 then [some v, none] else [some v]) ++ pmPl cs)
    rw [List.map_append, List.map_append, ih, e]
    split <;> simp [e]
theorem bEl_ok {mm : Nat} : ∀ (a : bL) (b : pmL) (j : Nat), a.map (Option.map bCat) = b.map (Option.map Value.category) → ((a.zipIdx j).all fun q => match q.1 with
    | some w => !(bCat w == 2) || pmLg mm q.2
    | none => true) = ((b.zipIdx j).all fun q => match q.1 with
    | some w => !(w.category == 2) || pmLg mm q.2
    | none => true)
  | [], [], _, _ => rfl
  | [], _ :: _, _, h => by cases h
  | _ :: _, [], _, h => by cases h
  | a :: as, b :: bs, j, h => by
    simp only [List.map_cons, List.cons.injEq] at h
    have ih := bEl_ok (mm := mm) as bs (j + 1) h.2
    simp only [List.zipIdx_cons, List.all_cons, ih]
    congr 1
    match a, b, h.1 with
    | none, none, _ => rfl
    | some a, some b, e =>
      simp only [Option.map_some, Option.some.injEq] at e
      show (!(bCat a == 2) || pmLg mm j) = (!(b.category == 2) || pmLg mm j)
      rw [e]
    | none, some b, e => cases e
    | some a, none, e => cases e
theorem bLok_rep (k : Nat) : bLok n ρ (List.replicate k none) (List.replicate k none) := by
  refine ⟨by simp, fun i x hi => ?_⟩
  rw [List.getElem?_replicate] at hi
  split at hi <;> cases hi
theorem bRet_ok {rv : Option bV} (hX : aXok L ρ X) (hs : bSok X.1.length ρ st cs) (h : bRet rt i st X = some rv) : ∃ v, bRok X.1.length ρ rv v ∧ ∀ call, pmStep ro call o m rt pc i cl cs σ = some (.inl (v, σ)) := by
  unfold bRet at h
  simp only [zLe_eq, zAnd, zIf] at h
  split at h
  · split at h
    · obtain ⟨v0, c0, rfl, w0, hr⟩ := bSok_cons hs
      obtain ⟨x, rfl, hx⟩ := bVok_int w0
      cases c0 with
      | cons _ _ => exact hr.elim
      | nil =>
        split at h
        · rename_i hrt
          cases h
          exact ⟨some (.int x), hx, fun call => by simp only [pmStep]; rw [if_pos (Or.inl hrt)]⟩
        · split at h
          · rename_i hrt
            split at h
            · rename_i iv hi
              split at h
              · rename_i hb
                cases h
                have hv := aItv_ok hX.1 hx hi
                have h0 : (0 : Int32).toInt = 0 := rfl
                have h10 : (1 : Int32).toInt = 1 := rfl
                have hzo : x = 0 ∨ x = 1 := by
                  rw [aEq32, aEq32, h0, h10]
                  omega
                exact ⟨some (.int x), hx, fun call => by simp only [pmStep]; rw [if_pos (Or.inr ⟨hrt, hzo⟩)]⟩
              · cases h
            · cases h
          · cases h
    · cases h
  · split at h
    · obtain ⟨v0, c0, rfl, w0, hr⟩ := bSok_cons hs
      obtain ⟨x, rfl, hx⟩ := bVok_long w0
      cases c0 with
      | cons _ _ => exact hr.elim
      | nil =>
        split at h
        · rename_i hrt
          cases h
          exact ⟨some (.long x), hx, fun call => by simp only [pmStep]; rw [if_pos hrt]⟩
        · cases h
    · cases h
  · split at h
    · cases cs with
      | cons _ _ => exact hs.elim
      | nil =>
        split at h
        · rename_i hrt
          cases h
          exact ⟨none, trivial, fun call => by simp only [pmStep]; rw [if_pos hrt]⟩
        · cases h
    · cases h
  · cases h
theorem bSpl_ok {kk : aX → Bool} : ∀ (t : List (Nat × Int × Nat)) (X : aX), aXok L ρ X → bLok X.1.length ρ pl cl → bSpl pl t X kk = true → aGx L X ρ kk
  | [], X, hX, _, h => aGx.same hX h
  | q :: t, X, hX, hl, h => by
    unfold bSpl at h
    rw [fGet_eq] at h
    split at h
    · rename_i tg f hj
      rw [Bool.and_eq_true] at h
      obtain ⟨v, h1, h2⟩ := hl.2 _ _ hj
      have hx : ∃ x, aFok X.1.length ρ f x := by
        cases tg with
        | false => obtain ⟨x, rfl, hx⟩ := bVok_int h2; exact ⟨_, hx⟩
        | true => obtain ⟨x, rfl, hx⟩ := bVok_long h2; exact ⟨_, hx⟩
      obtain ⟨x, hx⟩ := hx
      by_cases e : x < q.2.1
      · obtain ⟨Y, y1, y2, y3⟩ := aLe_ok hX hx (aFok.c0 hX.1) (d := 1) (y := q.2.1) (by omega) h.1
        exact (bSpl_ok t Y y2 (by rw [y1]; exact hl) y3).tr y1
      · obtain ⟨Y, y1, y2, y3⟩ := aLe_ok hX (aFok.c0 hX.1) hx (d := 0) (x := q.2.1) (by omega) h.2
        obtain ⟨Y2, z1, z2, z3⟩ := aFork_ok q.2.2 q.2.1 Y y2 (by rw [y1]; exact hx) (by omega) y3
        exact ((bSpl_ok t Y2 z2 (by rw [z1, y1]; exact hl) z3).tr z1).tr y1
    · exact bSpl_ok t X hX hl h
theorem bCal_ok {mm kd nn oo mx rr : Nat} {y : MethodName} {bb : ByteArray} {ev : Nat × Nat × Nat × Nat} {args rest : List bV} (hM : bMok n ρ Kp σ0 M σ) (hs : bSok n ρ st cs) (h1 : aCal o i = some (mm, kd)) (h2 : pmInf[mm]? = some (y, bb, (oo, nn, mx, rr), (kd, ev))) (h3 : bArgs kd nn oo st = some (args, rest)) :
    ∃ vs cr, bSok n ρ args vs ∧ bSok n ρ rest cr ∧ ∀ call, pmStep ro call o m rt pc i cl cs σ = pmRt call mm vs pc cl cr σ := by
  have hd := bSok_drop nn hs
  have ht := bSok_rev (bSok_take nn hs)
  unfold aCal at h1
  split at h1
  · rename_i j
    split at h1
    · rename_i m0 w1 w2 hMM
      cases hb : Nat.ble 9000 m0 with
      | true => rw [hb] at h1; cases h1
      | false =>
        rw [hb] at h1
        cases h1
        have hlt : ¬ 9000 ≤ mm := fun h => by rw [Nat.ble_eq_true_of_le h] at hb; cases hb
        unfold bArgs at h3
        simp only [Nat.beq_refl, cond_true] at h3
        split at h3
        · rename_i hn
          cases h3
          refine ⟨_, _, ht, hd, fun call => ?_⟩
          simp only [pmStep, hMM]
          rw [if_neg (by omega), if_neg (by omega), if_neg (by omega), h2]
          simp only []
          rw [if_pos (by rw [← bSok_len hs]; exact hn)]
        · cases h3
    · cases h1
  · rename_i j
    split at h1
    · rename_i m0 w1 w2 hMM
      cases h1
      unfold bArgs at h3
      simp only [show Nat.beq 0 1 = false from rfl, show Nat.beq 0 0 = true from rfl, cond_true, cond_false] at h3
      split at h3
      · rename_i ps rs hdr
        rw [hdr] at hd
        obtain ⟨v0, c0, e0, w0, hr⟩ := bSok_cons hd
        obtain ⟨p, rfl, hp⟩ := bVok_ref w0
        cases hc : bAll ps fun p => bKc p oo with
        | false => rw [hc] at h3; cases h3
        | true =>
          rw [hc] at h3
          cases h3
          obtain ⟨⟨z1, z2⟩, hZ, -⟩ := bKc_ok hM.1 (bAll_ok hc p hp)
          refine ⟨.ref p :: (cs.take nn).reverse, c0, ⟨hp, ht⟩, hr, fun call => ?_⟩
          simp only [pmStep, hMM, h2, e0, hZ]
          rfl
      · cases h3
    · cases h1
  · rename_i j
    split at h1
    · rename_i m0 w1 w2 hMM
      cases hb : Nat.ble 9000 m0 with
      | true => rw [hb] at h1; cases h1
      | false =>
        rw [hb] at h1
        cases h1
        have hlt : ¬ 9000 ≤ mm := fun h => by rw [Nat.ble_eq_true_of_le h] at hb; cases hb
        unfold bArgs at h3
        simp only [show Nat.beq 2 1 = false from rfl, show Nat.beq 2 0 = false from rfl, cond_false] at h3
        split at h3
        · rename_i ps rs hdr
          cases h3
          rw [hdr] at hd
          obtain ⟨v0, c0, e0, w0, hr⟩ := bSok_cons hd
          obtain ⟨p, rfl, hp⟩ := bVok_ref w0
          refine ⟨.ref p :: (cs.take nn).reverse, c0, ⟨hp, ht⟩, hr, fun call => ?_⟩
          simp only [pmStep, hMM]
          rw [if_neg (by omega)]
          simp only [h2, e0]
        · cases h3
    · cases h1
  · cases h1
theorem bTr_step {ff : bIf1} (h : bTr o i = some (.inl ff)) (hf : ff o m rt pc pl st X M k = true) : bStep o m rt pc i pl st X M k = true := by
  have e : bDis i = some ff := by
    unfold bTr at h
    split at h
    · cases h
    · split at h
      · cases h
      · cases h
      · cases h
      · split at h
        · rename_i f0 e
          cases h
          exact e
        · cases h
  unfold bStep
  rw [e]
  exact hf
theorem bTr_call {tg mm kd : Nat} (h : bTr o i = some (.inr (tg, mm, kd))) : (tg = 0 ∧ aCal o i = some (mm, kd)) ∨ tg = 1 := by
  unfold bTr at h
  split at h
  · rename_i a b e
    cases h
    exact Or.inl ⟨rfl, e⟩
  · split at h
    · cases h; exact Or.inr rfl
    · cases h; exact Or.inr rfl
    · cases h; exact Or.inr rfl
    · split at h <;> cases h
/-- the surroundings of a run: the end, the nodes, the contracts -/
def bFinOk (L : aLa) (n0 : Nat) (ρ0 : Nat → Int) (Kp : pmS → Prop) (σ0 : pmS) (fin : Option bV → aX → bM → Bool) (Q0 : Option Value → pmS → Prop) : Prop := ∀ r X M ρ v σ, fin r X M = true → bAllK L n0 ρ0 ρ Kp σ0 X M σ → bRok X.1.length ρ r v → Q0 v σ
def bNodOk (ro : Nat → Nat × (Nat → Int32)) (L : aLa) (n0 : Nat) (ρ0 : Nat → Int) (Kp : pmS → Prop) (σ0 : pmS) (nod : bNod) (Q0 : Option Value → pmS → Prop) : Prop :=
  ∀ d K pc pl st fs X M ρ cl cs cfs σ, nod d K pc pl st fs X M = some true → aKok K → bAllK L n0 ρ0 ρ Kp σ0 X M σ → bLok X.1.length ρ pl cl → bSok X.1.length ρ st cs → bFsok X.1.length ρ fs cfs → pmWp ro d K.1 K.2.1 K.2.2.1 pc cl cs σ (aRtQ ro d cfs Q0)
def bConOk (ro : Nat → Nat × (Nat → Int32)) (L : aLa) (Kp : pmS → Prop) (σ0 : pmS) (con : bCon) : Prop :=
  ∀ d mm args X M k ρ vs σ (Q : Option Value → pmS → Prop), con d mm args X M k = some true → aXok L ρ X → bMok X.1.length ρ Kp σ0 M σ → bSok X.1.length ρ args vs →
    (∀ r X' M' ρ' v σ', X.1.length ≤ X'.1.length → aExt X.1.length ρ ρ' → aXok L ρ' X' → bMok X'.1.length ρ' Kp σ0 M' σ' → bRok X'.1.length ρ' r v → k r X' M' = true → Q v σ') → pmCs ro d mm vs σ Q
theorem bRok_list {rv : Option bV} {v : Option Value} (h : bRok n ρ rv v) (hr : bSok n ρ r cr) : bSok n ρ (rv.toList ++ r) (v.toList ++ cr) := by
  match rv, v, h with
  | none, none, _ => exact hr
  | some a, some v, h => exact ⟨h, hr⟩
theorem bGo_ok {spl : Nat → aSs} {nod : bNod} {con : bCon} {fin : Option bV → aX → bM → Bool} {Q0 : Option Value → pmS → Prop} (hKp : bKfr Kp) (hro : ro = pmRo Ln xs) (hL : L = ((Ln : Int), xs)) (hLn : Ln ≤ 3072) (hfin : bFinOk L n0 ρ0 Kp σ0 fin Q0) (hnod : bNodOk ro L n0 ρ0 Kp σ0 nod Q0) (hcon : bConOk ro L Kp σ0 con) :
    ∀ (nf d : Nat) (fst : Bool) (K : aK) (pc : Nat) (pl : bL) (st : List bV) (fs : List bFr) (X : aX) (M : bM) (ρ : Nat → Int) (cl : pmL) (cs : List Value) (cfs : List aCf) (σ : pmS), bGo spl nod con fin nf d fst K pc pl st fs X M = true → aKok K → bAllK L n0 ρ0 ρ Kp σ0 X M σ → bLok X.1.length ρ pl cl → bSok X.1.length ρ st cs → bFsok X.1.length ρ fs cfs → pmWp ro d K.1 K.2.1 K.2.2.1 pc cl cs σ (aRtQ ro d cfs Q0)
  | 0, _, _, _, _, _, _, _, _, _, _, _, _, _, _, h, _, _, _, _, _ => by cases h
  | nf + 1, d, fst, K, pc, pl, st, fs, X, M, ρ, cl, cs, cfs, σ, h, hK, hA, hl, hs, hfs => by
    have ih := bGo_ok (spl := spl) hKp hro hL hLn hfin hnod hcon nf
    change (aFn pc fun pc => bNm X M fun X M => bOne spl nod con fin (bGo spl nod con fin nf) d fst K pc pl st fs X M) = true at h
    rw [aFn_eq, bNm_eq] at h
    unfold bOne at h
    split at h
    · rename_i b hb
      cases fst with
      | true => cases hb
      | false =>
        subst h
        exact hnod _ _ _ _ _ _ _ _ _ _ _ _ _ hb hK hA hl hs hfs
    · split at h
      · cases h
      · rename_i i hi
        have hi : pmCode K.2.1 pc = some i := (aCode_ok hK).trans hi
        obtain ⟨hX0, hM0, hn0, he0⟩ := hA
        have hsp : aGx L X ρ fun X => bBody spl con fin (bGo spl nod con fin nf) d K pc i pl st fs X M := by
          split at h
          · exact bSpl_ok _ X hX0 hl h
          · exact aGx.same hX0 h
        obtain ⟨Y, y1, hX, h⟩ := hsp
        rw [← y1] at hM0 hn0 hl hs hfs
        have hM := hM0
        unfold bBody at h
        split at h
        · cases h
        · rename_i f htr
          have hst := bTr_step htr h
          obtain ⟨pc', cl', cs', σ', X', M', pl', st', ρ', hst, e1, e2, e3, e4, e5, e6, e7⟩ := bStep_ok (ro := ro) (σ0 := σ0) hKp hro hL hLn hX hM hl hs hst
          refine (pmWp_blk (n := 1) (pc' := pc') (pl' := cl') (st' := cs') (σ' := σ') ?_).mpr ?_
          · unfold pmBlk
            rw [hi]
            simp only [hst]
            rfl
          · exact ih d false K pc' pl' st' fs X' M' ρ' cl' cs' cfs σ' e7 hK ⟨e3, e4, Nat.le_trans hn0 e1, he0.tr hn0 e2⟩ e5 e6 (hfs.ext e1 e2)
        · rename_i tg mm kd htr
          have hcal0 := bTr_call htr
          cases htg : Nat.beq tg 1 with
          | true =>
            rw [htg] at h
            simp only [cond_true] at h
            unfold bEnd at h
            split at h
            · rename_i rv hrv
              obtain ⟨v, hv, hst⟩ := bRet_ok (ro := ro) (o := K.1) (m := K.2.1) (pc := pc) (cl := cl) (σ := σ) hX hs hrv
              refine (pmWp_ret hi (hst _)).mpr ?_
              cases fs with
              | nil =>
                cases cfs with
                | cons _ _ => exact hfs.elim
                | nil => exact hfin _ _ _ ρ _ _ h ⟨hX, hM, hn0, he0⟩ hv
              | cons f fs' =>
                cases cfs with
                | nil => exact hfs.elim
                | cons c cfs' =>
                  obtain ⟨⟨g1, ⟨g2, g2b, g2c⟩, g3, g4, g5⟩, g6⟩ := hfs
                  show pmWp ro (d + 1) c.1.1 c.1.2.1 c.1.2.2.1 (c.2.1 + 3) c.2.2.1 (v.toList ++ c.2.2.2) σ (aRtQ ro (d + 1) cfs' Q0)
                  rw [g2, g2b, g2c, g3]
                  exact ih (d + 1) false f.1 (f.2.1 + 3) f.2.2.1 _ fs' Y M ρ c.2.2.1 _ cfs' σ h g1 ⟨hX, hM, hn0, he0⟩ g4 (bRok_list hv g5) g6
            · cases h
          | false =>
            rw [htg] at h
            simp only [cond_false] at h
            unfold bCal at h
            have hcal : aCal K.1 i = some (mm, kd) := by
              rcases hcal0 with e | e
              · exact e.2
              · rw [e] at htg; cases htg
            split at h
            · rename_i q hq
              obtain ⟨⟨y, bb, ⟨oo, nn, mx, rr⟩, ⟨kind, ev⟩⟩, code⟩ := q
              split at h
              · rename_i args rest hargs
                obtain ⟨hc, h⟩ := aBif h
                rw [Bool.and_eq_true] at hc
                have hcat := Nat.le_of_ble_eq_true hc.1
                have hkd : kind = kd := Nat.eq_of_beq_eq_true hc.2
                have hcal : aCal K.1 i = some (mm, kind) := by rw [hkd]; exact hcal
                have hargs : bArgs kind nn oo st = some (args, rest) := by rw [hkd]; exact hargs
                have hinf := aInf_ok hq
                obtain ⟨vs, cr, hvs, hcr, hst⟩ := bCal_ok (ro := ro) (m := K.2.1) (rt := K.2.2.1) (pc := pc) (cl := cl) hM hs hcal hinf hargs
                rw [← bSok_cats hcr] at hcat
                refine (pmWp_call hi hcat hst).mpr ?_
                split at h
                · rename_i b hb
                  subst h
                  refine hcon _ _ _ _ _ _ ρ _ _ _ hb hX hM hvs ?_
                  intro r X' M' ρ' v σ' e1 e2 e3 e4 e5 e6
                  exact ih d false K (pc + 3) pl _ fs X' M' ρ' cl _ cfs σ' e6 hK ⟨e3, e4, Nat.le_trans hn0 e1, he0.tr hn0 e2⟩ (hl.ext e1 e2) (bRok_list e5 (hcr.ext e1 e2)) (hfs.ext e1 e2)
                · unfold bIn1 at h
                  cases d with
                  | zero => cases h
                  | succ d' =>
                    obtain ⟨hc2, h⟩ := aBif h
                    simp only [Bool.and_eq_true, decide_eq_true_eq] at hc2
                    obtain ⟨z1, z2, z3, z4⟩ := hc2
                    simp only [aFl_eq, aFn_eq, aFw_eq] at h
                    rw [bPl_len hvs] at z1 h
                    have z5 : pmEl mm (pmPl vs) = true := (bEl_ok (mm := mm) (bPl args) (pmPl vs) 0 (bPl_cat hvs)).symm.trans z4
                    refine (pmCs_go hinf ⟨z1, z2, z3, z5⟩).mpr ?_
                    exact ih d' false (oo, mm, pmRk rr kind, code, spl mm) 0 _ [] ((K, pc, pl, rest) :: fs) Y M ρ _ [] ((K, pc, cl, cr) :: cfs) σ h ⟨_, hq⟩ ⟨hX, hM, hn0, he0⟩ (bLok_app (bPl_ok hvs) (bLok_rep _)) trivial ⟨⟨hK, ⟨rfl, rfl, rfl⟩, rfl, hl, hcr⟩, hfs⟩
              · cases h
            · cases h
end
