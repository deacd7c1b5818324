/-! nodes: places at which a run ends because it has come to a picture that is covered, with a rank that falls -/
section
noncomputable def bCf (nC : Nat) (f g : aF) (S : bSu) : bSu := bif Nat.blt f.1 nC then S else match fLk S f.1 with
  | some _ => S
  | none => (f.1, (g.1, zSub g.2 f.2)) :: S
noncomputable def bCvs (nC : Nat) (a b : bV) (S : bSu) : bSu := match a, b with
  | .inl (_, f), .inl (_, g) => bCf nC f g S
  | _, _ => S
noncomputable def bCl (nC : Nat) : bL → bL → bSu → bSu
  | some a :: l, some b :: m, S => bCl nC l m (bCvs nC a b S)
  | _ :: l, _ :: m, S => bCl nC l m S
  | _, _, S => S
noncomputable def bCs (nC : Nat) : List bV → List bV → bSu → bSu
  | a :: l, b :: m, S => bCs nC l m (bCvs nC a b S)
  | _, _, S => S
noncomputable def bCo (nC : Nat) (HA : bH) (p : Nat) : bO → bSu → bSu
  | [], S => S
  | q :: t, S => bCo nC HA p t (match q.2, bEn HA p q.1 with
    | .inl f, .inl g => bCf nC f g S
    | _, _ => S)
noncomputable def bCh (nC : Nat) (HA : bH) : bH → bSu → bSu
  | [], S => S
  | q :: t, S => bCh nC HA t (bCo nC HA q.1 q.2 S)
noncomputable def bCfs (nC : Nat) : List bFr → List bFr → bSu → bSu
  | f :: fs, g :: gs, S => bCfs nC fs gs (bCs nC f.2.2.2 g.2.2.2 (bCl nC f.2.2.1 g.2.2.1 S))
  | _, _, S => S
/-- a rank: a number and multiples of variables -/
abbrev bLn : Type := Int × List (Nat × Int)
def bLv (ρ : Nat → Int) : List (Nat × Int) → Int
  | [] => 0
  | q :: t => q.2 * ρ q.1 + bLv ρ t
def bRv (ρ : Nat → Int) (r : bLn) : Int := r.1 + bLv ρ r.2
noncomputable def bLi (v : Nat) (c : Int) : List (Nat × Int) → List (Nat × Int)
  | [] => [(v, c)]
  | q :: t => if q.1 = v then (v, q.2 + c) :: t else q :: bLi v c t
noncomputable def bLb (E : aE) : List (Nat × Int) → Option Int
  | [] => some 0
  | q :: t => if q.2 = 0 then bLb E t else (match fGet E q.1, bLb E t with
    | some i, some b => some (b + (if 0 ≤ q.2 then q.2 * i.1 else q.2 * i.2))
    | _, _ => none)
/-- r less the rank of B -/
noncomputable def bLs (nC : Nat) (S : bSu) : List (Nat × Int) → bLn → Option bLn
  | [], r => some r
  | q :: t, r => (match bSb nC S (q.1, 0) with
    | some h => bLs nC S t (r.1 - q.2 * h.2, bLi h.1 (-q.2) r.2)
    | none => none)
noncomputable def bRk (E : aE) (nC : Nat) (S : bSu) (rA rB : bLn) : Bool := match bLs nC S rB.2 (rA.1 - rB.1, rA.2) with
  | some d => (match bLb E d.2 with
    | some b => decide (1 ≤ d.1 + b)
    | none => false)
  | none => false
noncomputable def bRz (E : aE) (r : bLn) : Bool := match bLb E r.2 with
  | some b => decide (0 ≤ r.1 + b)
  | none => false
noncomputable def bFe : List bFr → List bFr → Bool
  | [], [] => true
  | f :: fs, g :: gs => Nat.beq f.1.1 g.1.1 && (Nat.beq f.1.2.1 g.1.2.1 && (Nat.beq f.1.2.2.1 g.1.2.2.1 && (Nat.beq f.2.1 g.2.1 && bFe fs gs)))
  | _, _ => false
noncomputable def bFm (E : aE) (nC nB : Nat) (S : bSu) : List bFr → List bFr → Bool
  | [], [] => true
  | f :: fs, g :: gs => bMl E nC nB S f.2.2.1 g.2.2.1 && (bMs E nC nB S f.2.2.2 g.2.2.2 && bFm E nC nB S fs gs)
  | _, _ => false
/-- depth, frame, place, locals, stack, frames, (environment, differences), (heap, regions), rank -/
abbrev bNd : Type := Nat × aK × Nat × bL × List bV × List bFr × (aE × aC) × (bH × Nat) × bLn
noncomputable def bNk (d : Nat) (K : aK) (pc : Nat) (fs : List bFr) (nd : bNd) : Bool := Nat.beq nd.2.2.1 pc && (Nat.beq nd.2.1.2.1 K.2.1 && (Nat.beq nd.1 d && (Nat.beq nd.2.1.1 K.1 && (Nat.beq nd.2.1.2.2.1 K.2.2.1 && bFe nd.2.2.2.2.2.1 fs))))
/-- what the differences say of the intervals -/
noncomputable def bTi : aC → aX → (aX → Bool) → Bool
  | [], X, k => k X
  | q :: t, X, k => (match aItv X.1 (q.1, 0), aItv X.1 (q.2.1, 0) with
    | some i, some j => aRf X.1 (q.1, 0) (i.1, zAdd j.2 q.2.2) fun E => aRf E (q.2.1, 0) (zSub i.1 q.2.2, j.2) fun E => bTi t (E, X.2) k
    | _, _ => false)
noncomputable def bNm1 (nC : Nat) (rk : Option bLn) (nd : bNd) (pl : bL) (st : List bV) (fs : List bFr) (X : aX) (M : bM) : Bool := match nd with
  | (_, _, _, plB, stB, fsB, (EB, CB), (HB, WB), rB) => bTi X.2.1 X fun X => aFw (bCh nC M.1 HB (bCfs nC fsB fs (bCs nC stB st (bCl nC plB pl [])))) fun S => aFn (fLen EB) fun nB =>
    Nat.ble nC nB && (bMl X.1 nC nB S plB pl && (bMs X.1 nC nB S stB st && (bFm X.1 nC nB S fsB fs && (bMe X.1 nC S 0 EB && (bMc X nC nB S CB && (bMh X.1 nC nB S HB M.1 && (Nat.beq (Nat.lor M.2.2 WB) WB && (match rk with
      | some rA => bRk X.1 nC S rA rB
      | none => true))))))))
noncomputable def bNh (nC : Nat) (rk : Option bLn) (nds : List bNd) : bNod := fun d K pc pl st fs X M => bif nds.any (bNk d K pc fs) then some (nds.any fun nd => bNk d K pc fs nd && bNm1 nC rk nd pl st fs X M) else none
variable {L : aLa} {ρ ρ0 ρe : Nat → Int} {E : aE} {X : aX} {M : bM} {nC nB n0 : Nat} {S : bSu} {f g : aF} {x z : Int} {Kp : pmS → Prop} {σ0 σ : pmS} {ro : Nat → Nat × (Nat → Int32)}
theorem bTi_ok {k : aX → Bool} : ∀ (C : aC) (X : aX), aXok L ρ X → aDok X.1.length ρ C → bTi C X k = true → aGx L X ρ k
  | [], X, hX, _, h => aGx.same hX h
  | q :: t, X, hX, hD, h => by
    unfold bTi at h
    obtain ⟨d1, d2, d3⟩ := hD q List.mem_cons_self
    have f1 : aFok X.1.length ρ (q.1, 0) (ρ q.1) := ⟨d1, by show ρ q.1 = ρ q.1 + 0; omega⟩
    have f2 : aFok X.1.length ρ (q.2.1, 0) (ρ q.2.1) := ⟨d2, by show ρ q.2.1 = ρ q.2.1 + 0; omega⟩
    split at h
    · rename_i i j hi hj
      have a := aItv_ok hX.1 f1 hi
      have b := aItv_ok hX.1 f2 hj
      rw [zAdd_eq] at h
      obtain ⟨E1, l1, o1, k1⟩ := aRf_ok hX.1 f1 (i := (i.1, j.2 + q.2.2)) a.1 (by show ρ q.1 ≤ j.2 + q.2.2; omega) h
      rw [zSub_eq] at k1
      obtain ⟨E2, l2, o2, k2⟩ := aRf_ok o1 (f := (q.2.1, 0)) (z := ρ q.2.1) (by rw [l1]; exact f2) (i := (i.1 - q.2.2, j.2)) (by show i.1 - q.2.2 ≤ ρ q.2.1; omega) b.2 k1
      have e : E2.length = X.1.length := l2.trans l1
      have hY : aXok L ρ (E2, X.2) := ⟨o2, by show aCok L E2.length ρ X.2; rw [e]; exact hX.2⟩
      obtain ⟨Z, z1, z2, z3⟩ := bTi_ok t (E2, X.2) hY (fun r hr => by show r.1 < E2.length ∧ r.2.1 < E2.length ∧ _; rw [e]; exact hD r (List.mem_cons_of_mem _ hr)) k2
      exact ⟨Z, z1.trans e, z2, z3⟩
    · cases h
theorem bLi_ok (v : Nat) (c : Int) : ∀ l : List (Nat × Int), bLv ρ (bLi v c l) = c * ρ v + bLv ρ l
  | [] => rfl
  | q :: t => by
    unfold bLi
    split
    · rename_i e
      show (q.2 + c) * ρ v + bLv ρ t = c * ρ v + (q.2 * ρ q.1 + bLv ρ t)
      rw [e, Int.add_mul]
      omega
    · show q.2 * ρ q.1 + bLv ρ (bLi v c t) = c * ρ v + (q.2 * ρ q.1 + bLv ρ t)
      rw [bLi_ok v c t]
      omega
theorem bLb_ok (hE : aEok L ρ E) : ∀ {l : List (Nat × Int)} {b : Int}, bLb E l = some b → b ≤ bLv ρ l
  | [], b, h => by cases h; exact Int.le_refl _
  | q :: t, b, h => by
    unfold bLb at h
    show b ≤ q.2 * ρ q.1 + bLv ρ t
    split at h
    · rename_i e
      rw [e, Int.zero_mul, Int.zero_add]
      exact bLb_ok hE h
    · split at h
      · rename_i i b0 hi hb
        rw [fGet_eq] at hi
        cases h
        have h1 := bLb_ok hE hb
        have h2 := hE.2 _ _ hi
        split
        · rename_i hc
          have := Int.mul_le_mul_of_nonneg_left h2.1 hc
          omega
        · rename_i hc
          have : q.2 * i.2 ≤ q.2 * ρ q.1 := Int.mul_le_mul_of_nonpos_left (by omega) h2.2
          omega
      · cases h
theorem bLs_ok : ∀ {l : List (Nat × Int)} {r d : bLn}, bLs nC S l r = some d → bRv ρ d = bRv ρ r - bLv (bRo nC S ρ) l
  | [], r, d, h => by
    cases h
    show bRv ρ r = bRv ρ r - 0
    omega
  | q :: t, r, d, h => by
    unfold bLs at h
    split at h
    · rename_i w hw
      rw [bLs_ok h]
      have e : ρ w.1 + w.2 = bRo nC S ρ q.1 + 0 := bSb_ok (ρ := ρ) hw
      show r.1 - q.2 * w.2 + bLv ρ (bLi w.1 (-q.2) r.2) - bLv (bRo nC S ρ) t = r.1 + bLv ρ r.2 - (q.2 * bRo nC S ρ q.1 + bLv (bRo nC S ρ) t)
      rw [bLi_ok, Int.neg_mul, ← Int.add_zero (bRo nC S ρ q.1), ← e, Int.mul_add]
      omega
    · cases h
theorem bRk_ok {rA rB : bLn} (hE : aEok L ρ E) (h : bRk E nC S rA rB = true) : bRv (bRo nC S ρ) rB + 1 ≤ bRv ρ rA := by
  unfold bRk at h
  split at h
  · rename_i d hd
    split at h
    · rename_i b hb
      have h1 := bLs_ok (ρ := ρ) hd
      have h2 := bLb_ok hE hb
      have h3 := of_decide_eq_true h
      unfold bRv at h1 ⊢
      have h4 : bLv ρ (rA.fst - rB.fst, rA.snd).snd = bLv ρ rA.2 := rfl
      have h5 : (rA.fst - rB.fst, rA.snd).fst = rA.1 - rB.1 := rfl
      rw [h4, h5] at h1
      omega
    · cases h
  · cases h
theorem bRz_ok {r : bLn} (hE : aEok L ρ E) (h : bRz E r = true) : 0 ≤ bRv ρ r := by
  unfold bRz at h
  split at h
  · rename_i b hb
    have h2 := bLb_ok hE hb
    have h3 := of_decide_eq_true h
    unfold bRv
    omega
  · cases h
theorem bFm_ok (hE : aEok L ρ E) : ∀ {fsB fs : List bFr} {cfs : List aCf}, bFe fsB fs = true → bFm E nC nB S fsB fs = true → (∀ f ∈ fsB, aKok f.1) → bFsok E.length ρ fs cfs → bFsok nB (bRo nC S ρ) fsB cfs
  | [], [], [], _, _, _, _ => trivial
  | f :: fsB, g :: fs, c :: cfs, he, hm, hk, h => by
    unfold bFe at he
    unfold bFm at hm
    simp only [Bool.and_eq_true] at he hm
    obtain ⟨⟨h1, ⟨h2, h3, h4⟩, h5, h6, h7⟩, h8⟩ := h
    exact ⟨⟨hk f List.mem_cons_self, ⟨by rw [h2, Nat.eq_of_beq_eq_true he.1], by rw [h3, Nat.eq_of_beq_eq_true he.2.1], by rw [h4, Nat.eq_of_beq_eq_true he.2.2.1]⟩, by rw [h5, Nat.eq_of_beq_eq_true he.2.2.2.1], bMl_lok hE hm.1 h6, bMs_ok hE hm.2.1 h7⟩, bFm_ok hE he.2.2.2.2 hm.2.2 (fun x hx => hk x (List.mem_cons_of_mem _ hx)) h8⟩
  | [], _ :: _, _, he, _, _, _ => by cases he
  | _ :: _, [], _, he, _, _, _ => by cases he
/-- what a node promises, where its rank is below b -/
def bNdP (ro : Nat → Nat × (Nat → Int32)) (L : aLa) (nC : Nat) (ρe : Nat → Int) (Kp : pmS → Prop) (σ0 : pmS) (Q0 : Option Value → pmS → Prop) (b : Int) (nd : bNd) : Prop :=
  ∀ ρ cl cs cfs σ, bAllK L nC ρe ρ Kp σ0 (nd.2.2.2.2.2.2.1.1, nd.2.2.2.2.2.2.1.2, []) (nd.2.2.2.2.2.2.2.1.1, [], nd.2.2.2.2.2.2.2.1.2) σ → bLok nd.2.2.2.2.2.2.1.1.length ρ nd.2.2.2.1 cl → bSok nd.2.2.2.2.2.2.1.1.length ρ nd.2.2.2.2.1 cs → bFsok nd.2.2.2.2.2.2.1.1.length ρ nd.2.2.2.2.2.1 cfs → bRv ρ nd.2.2.2.2.2.2.2.2 < b → pmWp ro nd.1 nd.2.1.1 nd.2.1.2.1 nd.2.1.2.2.1 nd.2.2.1 cl cs σ (aRtQ ro nd.1 cfs Q0)
def bNdK (nd : bNd) : Prop := aKok nd.2.1 ∧ (∀ f ∈ nd.2.2.2.2.2.1, aKok f.1) ∧ 1 < nd.2.2.2.2.2.2.1.1.length
theorem bNm1_ok {nd : bNd} {rk : Option bLn} {pl : bL} {st : List bV} {fs : List bFr} {cl : pmL} {cs : List Value} {cfs : List aCf} (hC : 2 ≤ nC) (hk : bNdK nd) (hfe : bFe nd.2.2.2.2.2.1 fs = true) (h : bNm1 nC rk nd pl st fs X M = true) (hA : bAllK L n0 ρ0 ρ Kp σ0 X M σ) (hn : nC ≤ n0) (he : aExt nC ρe ρ0) (hl : bLok X.1.length ρ pl cl) (hs : bSok X.1.length ρ st cs) (hfs : bFsok X.1.length ρ fs cfs) :
    ∃ ρ', bAllK L nC ρe ρ' Kp σ0 (nd.2.2.2.2.2.2.1.1, nd.2.2.2.2.2.2.1.2, []) (nd.2.2.2.2.2.2.2.1.1, [], nd.2.2.2.2.2.2.2.1.2) σ ∧ bLok nd.2.2.2.2.2.2.1.1.length ρ' nd.2.2.2.1 cl ∧ bSok nd.2.2.2.2.2.2.1.1.length ρ' nd.2.2.2.2.1 cs ∧ bFsok nd.2.2.2.2.2.2.1.1.length ρ' nd.2.2.2.2.2.1 cfs ∧ ∀ rA, rk = some rA → bRv ρ' nd.2.2.2.2.2.2.2.2 + 1 ≤ bRv ρ rA := by
  obtain ⟨d, K, pc, plB, stB, fsB, ⟨EB, CB⟩, ⟨HB, WB⟩, rB⟩ := nd
  obtain ⟨k1, k2, k3⟩ := hk
  unfold bNm1 at h
  obtain ⟨hX, hM, hn0, he0⟩ := hA
  obtain ⟨Y, y1, hX, h⟩ := bTi_ok X.2.1 X hX hX.2.1 h
  rw [← y1] at hM hn0 hl hs hfs
  simp only [aFw_eq, aFn_eq, fLen_eq, Bool.and_eq_true] at h
  obtain ⟨m1, m2, m3, m4, m5, m6, m7, m8, m9⟩ := h
  have hE := hX.1
  refine ⟨bRo nC _ ρ, ⟨⟨bMe_env hE hC k3 m5, bMc_ok hX m6, fun q hq => absurd hq List.not_mem_nil⟩, ⟨hM.1, bMh_ok hE m7 hM.2.1, fun q hq => absurd hq List.not_mem_nil, fun p k hp => ?_, fun hw => hM.2.2.2.2 (bFg_lor (m := WB) (by rw [show Nat.lor M.2.2 WB = WB from Nat.eq_of_beq_eq_true m8]; exact hw)).1⟩, Nat.le_of_ble_eq_true m1, fun v hv => ?_⟩, bMl_lok hE m2 hl, bMs_ok hE m3 hs, bFm_ok hE hfe m4 k2 hfs, fun rA hr => ?_⟩
  · refine hM.2.2.2.1 p k ?_
    have e : M.2.2 ||| WB = WB := Nat.eq_of_beq_eq_true m8
    have hp : WB.testBit (bRg p k) = false := hp
    rw [← e, Nat.testBit_or, Bool.or_eq_false_iff] at hp
    exact hp.1
  · rw [bRo_lt hv, he0 v (by omega), he v hv]
  · subst hr
    exact bRk_ok hE m9
theorem bNk_ok {d : Nat} {K : aK} {pc : Nat} {fs : List bFr} {nd : bNd} (h : bNk d K pc fs nd = true) : nd.1 = d ∧ nd.2.1.1 = K.1 ∧ nd.2.1.2.1 = K.2.1 ∧ nd.2.1.2.2.1 = K.2.2.1 ∧ nd.2.2.1 = pc ∧ bFe nd.2.2.2.2.2.1 fs = true := by
  unfold bNk at h
  simp only [Bool.and_eq_true] at h
  obtain ⟨a, b, c, e, f, g⟩ := h
  exact ⟨Nat.eq_of_beq_eq_true c, Nat.eq_of_beq_eq_true e, Nat.eq_of_beq_eq_true b, Nat.eq_of_beq_eq_true f, Nat.eq_of_beq_eq_true a, g⟩
/-- the hook of a run that begins at a node of rank rA (below b + 1), or at the entry -/
theorem bNh_ok {nds : List bNd} {rk : Option bLn} {Q0 : Option Value → pmS → Prop} {b : Int} (hC : 2 ≤ nC) (hk : ∀ nd ∈ nds, bNdK nd) (hn : nC ≤ n0) (he : aExt nC ρe ρ0) (hr : ∀ rA ρ, rk = some rA → aExt n0 ρ0 ρ → bRv ρ rA ≤ b) (hP : ∀ nd ∈ nds, (rk = none → ∀ b, bNdP ro L nC ρe Kp σ0 Q0 b nd) ∧ bNdP ro L nC ρe Kp σ0 Q0 b nd) : bNodOk ro L n0 ρ0 Kp σ0 (bNh nC rk nds) Q0 := by
  intro d K pc pl st fs X M ρ cl cs cfs σ h hK hA hl hs hfs
  unfold bNh at h
  cases hc : nds.any (bNk d K pc fs) with
  | false => rw [hc] at h; cases h
  | true =>
    rw [hc] at h
    simp only [cond_true, Option.some.injEq] at h
    obtain ⟨nd, hm, h⟩ := List.any_eq_true.mp h
    rw [Bool.and_eq_true] at h
    obtain ⟨e1, e2, e3, e4, e5, e6⟩ := bNk_ok h.1
    obtain ⟨ρ', g1, g2, g3, g4, g5⟩ := bNm1_ok hC (hk nd hm) e6 h.2 hA hn he hl hs hfs
    rw [← e1, ← e2, ← e3, ← e4, ← e5]
    cases rk with
    | none => exact (hP nd hm).1 rfl _ ρ' cl cs cfs σ g1 g2 g3 g4 (Int.lt_succ _)
    | some rA =>
      have := g5 rA rfl
      have := hr rA ρ rfl hA.2.2.2
      exact (hP nd hm).2 ρ' cl cs cfs σ g1 g2 g3 g4 (by omega)
end
