/-! the law: how it begins, its loop (tables as p1gen.py prints them) -/
section
set_option maxRecDepth 100000
noncomputable def p1Mz0 : List pmZ := [(11, 13, [some 1, some 3, some 7, some 13, some 21, some 26, some 31, some 33, some 34, some 43, some 45, some 79, none]), (6, 5, [some 2, none, none, none, none]), (50, 400, []), (5, 6, [some 4, some 5, some 6, none, none, none]), (50, 62, []), (50, 7, []), (50, 49, []), (9, 5, [some 8, some 9, some 10, some 11, some 12]), (50, 480, []), (50, 12, []), (50, 12, []), (50, 12, []), (50, 4, []), (2, 8, [some 14, some 15, some 16, some 17, some 18, some 19, some 20, none]), (50, 24, []), (50, 24, [])]
noncomputable def p1Mz1 : List pmZ := [(50, 24, []), (50, 24, []), (50, 24, []), (50, 24, []), (50, 6, []), (10, 13, [some 22, some 23, some 24, some 25, none, none, none, none, none, none, none, none, none]), (51, 4, []), (50, 24, []), (50, 6, []), (50, 3, []), (10, 13, [some 27, some 28, some 29, some 30, none, none, none, none, none, none, none, none, none]), (51, 4, []), (50, 24, []), (50, 6, []), (50, 3, []), (8, 3, [some 1, some 32, none])]
noncomputable def p1Mz2 : List pmZ := [(50, 40, []), (1, 5, [some 1, some 13, none, none, none]), (3, 15, [some 3, some 7, some 35, some 36, some 37, some 38, some 39, some 40, some 41, some 42, none, none, none, none, none]), (51, 512, []), (51, 512, []), (50, 40, []), (50, 40, []), (50, 4, []), (50, 4, []), (50, 5, []), (50, 5, []), (4, 4, [some 3, some 13, some 34, some 44]), (50, 4, []), (7, 5, [some 3, some 43, some 46, some 62, some 78]), (54, 3, [some 47, some 52, some 57]), (10, 13, [some 48, some 49, some 50, some 51, none, none, none, none, none, none, none, none, none])]
noncomputable def p1Mz3 : List pmZ := [(51, 4, []), (50, 24, []), (50, 6, []), (50, 3, []), (10, 13, [some 53, some 54, some 55, some 56, none, none, none, none, none, none, none, none, none]), (51, 4, []), (50, 24, []), (50, 6, []), (50, 3, []), (10, 13, [some 58, some 59, some 60, some 61, none, none, none, none, none, none, none, none, none]), (51, 4, []), (50, 24, []), (50, 6, []), (50, 3, []), (54, 3, [some 63, some 68, some 73]), (10, 13, [some 64, some 65, some 66, some 67, none, none, none, none, none, none, none, none, none])]
noncomputable def p1Mz4 : List pmZ := [(51, 4, []), (50, 24, []), (50, 6, []), (50, 3, []), (10, 13, [some 69, some 70, some 71, some 72, none, none, none, none, none, none, none, none, none]), (51, 4, []), (50, 24, []), (50, 6, []), (50, 3, []), (10, 13, [some 74, some 75, some 76, some 77, none, none, none, none, none, none, none, none, none]), (51, 4, []), (50, 24, []), (50, 6, []), (50, 3, []), (50, 3, []), (0, 7, [some 3, some 43, some 45, some 80, some 85, some 86, none])]
noncomputable def p1Mz5 : List pmZ := [(10, 13, [some 81, some 82, some 83, some 84, none, none, none, none, none, none, none, none, none]), (51, 4, []), (50, 24, []), (50, 6, []), (50, 3, []), (50, 244, []), (50, 61, []), (12, 54, [some 88, some 89, none, none, none, some 90, some 91, some 92, some 93, none, none, none, none, none, none, none, some 94, some 95, some 96, some 97, some 98, some 99, none, some 100, some 101, some 102, some 103, some 104, some 105, some 106, some 107, some 108, some 109, none, none, some 110, some 111, some 112, some 113, some 114, some 115, none, none, none, some 116, some 117, some 118, some 119, some 120, some 121, some 122, some 123, some 124, some 125]), (50, 120, []), (50, 1200, []), (52, 49, []), (52, 5, []), (50, 7, []), (53, 400, []), (50, 60, []), (50, 60, [])]
noncomputable def p1Mz6 : List pmZ := [(50, 4, []), (50, 12, []), (50, 12, []), (50, 720, []), (50, 6, []), (50, 24, []), (50, 48, []), (50, 48, []), (50, 48, []), (50, 48, []), (50, 24, []), (52, 48, []), (50, 50, []), (52, 60, []), (50, 4, []), (50, 4, [])]
noncomputable def p1Mz7 : List pmZ := [(50, 5, []), (50, 5, []), (51, 4096, []), (50, 4096, []), (50, 4, []), (50, 4, []), (50, 4, []), (52, 4, []), (50, 244, []), (50, 244, []), (50, 244, []), (50, 61, []), (52, 244, []), (50, 7, [])]
noncomputable def p1Mi0 : List (aI × aO) := [((0, 0), []), ((0, 0), []), ((0, 0), []), ((0, 0), []), ((0, 0), [(61, (0, 428)), (60, (0, 427)), (59, (0, 426)), (58, (0, 425)), (57, (0, 420)), (56, (0, 419)), (55, (0, 418)), (54, (0, 417)), (53, (0, 412)), (52, (0, 411)), (51, (0, 410)), (50, (0, 409)), (49, (0, 404)), (48, (0, 403)), (47, (0, 402)), (46, (0, 401)), (45, (0, 396)), (44, (0, 395)), (43, (0, 394)), (42, (0, 393)), (41, (0, 352)), (40, (0, 344)), (39, (0, 336)), (38, (0, 328)), (37, (0, 300)), (36, (0, 299)), (35, (0, 298)), (34, (0, 297)), (33, (0, 292)), (32, (0, 291)), (31, (0, 290)), (30, (0, 289)), (29, (0, 284)), (28, (0, 283)), (27, (0, 282)), (26, (0, 281)), (25, (0, 276)), (24, (0, 275)), (23, (0, 274)), (22, (0, 273)), (21, (0, 268)), (20, (0, 267)), (19, (0, 266)), (18, (0, 265)), (17, (0, 232)), (16, (0, 224)), (15, (0, 216)), (14, (0, 208)), (13, (0, 200)), (12, (0, 168)), (11, (0, 160)), (10, (0, 152)), (9, (0, 144)), (8, (0, 136)), (7, (0, 120)), (6, (0, 112)), (5, (0, 104)), (4, (0, 96)), (3, (0, 88)), (2, (0, 80)), (1, (0, 72))]), ((0, 0), [(6, (0, 9)), (5, (0, 9)), (4, (0, 9)), (3, (0, 9)), (2, (0, 9)), (1, (0, 9))]), ((0, 0), []), ((0, 0), []), ((0, 0), []), ((0, 0), []), ((0, 0), []), ((0, 0), []), ((0, 0), []), ((0, 0), []), ((0, 0), []), ((0, 0), [])]
noncomputable def p1Mi1 : List (aI × aO) := [((0, 0), []), ((0, 0), []), ((0, 0), []), ((0, 0), []), ((0, 0), []), ((0, 0), []), ((0, 0), []), ((0, 0), []), ((0, 0), []), ((0, 0), []), ((0, 0), []), ((0, 0), []), ((0, 0), []), ((0, 0), []), ((0, 0), []), ((0, 0), [])]
noncomputable def p1Mi2 : List (aI × aO) := [((0, 0), []), ((0, 0), []), ((0, 0), []), ((0, 0), []), ((0, 0), []), ((0, 0), []), ((0, 0), []), ((0, 0), []), ((0, 0), []), ((0, 0), []), ((0, 0), []), ((0, 0), []), ((0, 0), []), ((0, 0), []), ((0, 0), []), ((0, 0), [])]
noncomputable def p1Mi3 : List (aI × aO) := [((0, 0), []), ((0, 0), []), ((0, 0), []), ((0, 0), []), ((0, 0), []), ((0, 0), []), ((0, 0), []), ((0, 0), []), ((0, 0), []), ((0, 0), []), ((0, 0), []), ((0, 0), []), ((0, 0), []), ((0, 0), []), ((0, 0), []), ((0, 0), [])]
noncomputable def p1Mi4 : List (aI × aO) := [((0, 0), []), ((0, 0), []), ((0, 0), []), ((0, 0), []), ((0, 0), []), ((0, 0), []), ((0, 0), []), ((0, 0), []), ((0, 0), []), ((0, 0), []), ((0, 0), []), ((0, 0), []), ((0, 0), []), ((0, 0), []), ((0, 0), []), ((0, 0), [])]
noncomputable def p1Mi5 : List (aI × aO) := [((0, 0), []), ((0, 0), []), ((0, 0), []), ((0, 0), []), ((0, 0), []), ((0, 0), []), ((0, 0), []), ((0, 0), []), ((0, 0), [(40, (0, -1)), (39, (0, -1)), (38, (0, -1)), (37, (0, -1)), (36, (0, -1)), (35, (0, -1)), (34, (0, -1)), (33, (0, -1)), (32, (0, -1)), (31, (0, -1)), (30, (0, -1)), (29, (0, -1)), (28, (0, -1)), (27, (0, -1)), (26, (0, -1)), (25, (0, -1)), (24, (0, -1)), (23, (0, -1)), (22, (0, -1)), (21, (0, -1)), (20, (0, -1)), (19, (0, -1)), (18, (0, -1)), (17, (0, -1)), (16, (0, -1)), (15, (0, -1)), (14, (0, -1))]), ((0, 0), []), ((0, 0), []), ((0, 0), []), ((0, 0), [(5, (0, 1)), (4, (0, 1)), (3, (0, 1)), (2, (0, 1)), (1, (0, 1))]), ((0, 0), []), ((0, 0), []), ((0, 0), [])]
noncomputable def p1Mi6 : List (aI × aO) := [((0, 0), []), ((0, 0), []), ((0, 0), []), ((0, 0), []), ((0, 0), []), ((0, 0), []), ((0, 0), []), ((0, 0), []), ((0, 0), []), ((0, 0), []), ((0, 0), []), ((0, 0), []), ((0, 0), []), ((0, 0), []), ((0, 0), []), ((0, 0), [])]
noncomputable def p1Mi7 : List (aI × aO) := [((0, 0), []), ((0, 0), []), ((0, 0), []), ((0, 0), []), ((0, 0), []), ((0, 0), []), ((0, 0), []), ((0, 0), []), ((0, 0), []), ((0, 0), []), ((0, 0), []), ((0, 0), []), ((0, 0), []), ((0, 0), [])]
noncomputable def p1Ml0 : List (aI × aO) := [((0, 0), []), ((0, 0), []), ((0, 0), []), ((0, 0), []), ((0, 0), []), ((0, 0), []), ((0, 0), []), ((0, 0), []), ((0, 0), []), ((0, 0), []), ((0, 0), []), ((0, 0), []), ((0, 0), []), ((0, 0), []), ((0, 0), []), ((0, 0), [])]
noncomputable def p1Ml1 : List (aI × aO) := [((0, 0), []), ((0, 0), []), ((0, 0), []), ((0, 0), []), ((0, 0), []), ((0, 0), [(4, (0, 4369))]), ((0, 0), []), ((0, 0), []), ((0, 0), []), ((0, 0), []), ((0, 0), [(4, (0, 4369))]), ((0, 0), []), ((0, 0), []), ((0, 0), []), ((0, 0), []), ((0, 0), [])]
noncomputable def p1Ml2 : List (aI × aO) := [((0, 0), []), ((0, 0), []), ((0, 0), []), ((0, 0), []), ((0, 0), []), ((0, 0), []), ((0, 0), []), ((0, 0), []), ((0, 0), []), ((0, 0), []), ((0, 0), []), ((0, 0), []), ((0, 0), []), ((0, 0), []), ((0, 0), []), ((0, 0), [(4, (0, 4369))])]
noncomputable def p1Ml3 : List (aI × aO) := [((0, 0), []), ((0, 0), []), ((0, 0), []), ((0, 0), []), ((0, 0), [(4, (0, 4369))]), ((0, 0), []), ((0, 0), []), ((0, 0), []), ((0, 0), []), ((0, 0), [(4, (0, 4369))]), ((0, 0), []), ((0, 0), []), ((0, 0), []), ((0, 0), []), ((0, 0), []), ((0, 0), [(4, (0, 4369))])]
noncomputable def p1Ml4 : List (aI × aO) := [((0, 0), []), ((0, 0), []), ((0, 0), []), ((0, 0), []), ((0, 0), [(4, (0, 4369))]), ((0, 0), []), ((0, 0), []), ((0, 0), []), ((0, 0), []), ((0, 0), [(4, (0, 4369))]), ((0, 0), []), ((0, 0), []), ((0, 0), []), ((0, 0), []), ((0, 0), []), ((0, 0), [])]
noncomputable def p1Ml5 : List (aI × aO) := [((0, 0), [(4, (0, 4369))]), ((0, 0), []), ((0, 0), []), ((0, 0), []), ((0, 0), []), ((0, 0), []), ((0, 0), []), ((0, 0), []), ((0, 0), []), ((0, 0), []), ((0, 0), []), ((0, 0), []), ((0, 0), []), ((0, 0), []), ((0, 0), []), ((0, 0), [])]
noncomputable def p1Ml6 : List (aI × aO) := [((0, 0), []), ((0, 0), []), ((0, 0), []), ((0, 0), []), ((0, 0), []), ((0, 0), []), ((0, 0), []), ((0, 0), []), ((0, 0), []), ((0, 0), []), ((0, 0), []), ((0, 0), []), ((0, 0), []), ((0, 0), []), ((0, 0), []), ((0, 0), [])]
noncomputable def p1Ml7 : List (aI × aO) := [((0, 0), []), ((0, 0), []), ((0, 0), []), ((0, 0), []), ((0, 0), []), ((0, 0), []), ((0, 0), []), ((0, 0), []), ((0, 0), []), ((0, 0), []), ((0, 0), []), ((0, 0), []), ((0, 0), []), ((0, 0), [])]
noncomputable def p1M : aM := ((126, [p1Mz0, p1Mz1, p1Mz2, p1Mz3, p1Mz4, p1Mz5, p1Mz6, p1Mz7]), [p1Mi0, p1Mi1, p1Mi2, p1Mi3, p1Mi4, p1Mi5, p1Mi6, p1Mi7], [p1Ml0, p1Ml1, p1Ml2, p1Ml3, p1Ml4, p1Ml5, p1Ml6, p1Ml7], 85070591730234615865843651857942052863)
noncomputable def pLX : aX := ([(0, 0), (0, 3072)], [], [])
noncomputable def pLl : aL := [some (.inr 1001), some (.inr 0), some (.inr 87), some (.inl (false, (0, 0)))]
noncomputable def pLK : aK := (13, 246, 2, pmT_246, [])
noncomputable def pLnod : aNod := fun d K pc pl st fs X M => bif Nat.beq K.2.1 246 && Nat.beq pc 18 then
    some ((Nat.beq d 59 && (Nat.beq K.1 13 && Nat.beq K.2.2.1 2)) && ((match fs with | [] => true | _ => false) && (eqM M p1M && eqT (pLl, [], pLX) (pl, st, X)))) else none
noncomputable def pLcon : aCon := fun _ _ _ _ _ _ => none
noncomputable def pLfin : Option aV → aX → aM → Bool := fun _ _ _ => false
theorem pLe : aGo (fun _ => []) pLnod pLcon pLfin 30000 59 true pLK 0 [some (.inr 1001), none, none, none] [] [] pLX ((0, []), [], [], 0) = true := by decide +kernel
def pLQ : Option Value → pmS → Prop := fun v σ => v = some (.int 1) ∧ pmTot σ.1 ≤ 7302250
variable {Ln : Nat} {xs : Nat → Int32}
/-- the law at its loop's head for the first time -/
def pLH (Ln : Nat) (xs : Nat → Int32) : Prop := ∀ ρ cl cs σ, aAll ((Ln : Int), xs) 0 (fun _ => 0) ρ pmσ0 pLX p1M σ → aLok 2 ρ pLl cl → aSok 2 ρ [] cs → pmWp (pmRo Ln xs) 59 13 246 2 18 cl cs σ (aRtQ (pmRo Ln xs) 59 [] pLQ)
theorem pL_con {L : aLa} : aConOk (pmRo Ln xs) L pmσ0 pLcon := fun d mm args X M k ρ vs σ Q h => by cases h
theorem pL_fin : aFinOk ((Ln : Int), xs) 0 (fun _ => 0) pmσ0 pLfin pLQ := fun r X M ρ v σ h => by cases h
theorem pL_nod (hH : pLH Ln xs) : aNodOk (pmRo Ln xs) ((Ln : Int), xs) 0 (fun _ => 0) pmσ0 pLnod pLQ := fun d K pc pl st fs X M ρ cl cs cfs σ h hK hA hl hs hfs => by
  unfold pLnod at h
  cases hb : (Nat.beq K.2.1 246 && Nat.beq pc 18) with
  | false => rw [hb] at h; cases h
  | true =>
    rw [hb] at h
    simp only [cond_true, Option.some.injEq, Bool.and_eq_true] at h
    rw [Bool.and_eq_true] at hb
    obtain ⟨⟨h1, h2, h3⟩, h4, h5, h6⟩ := h
    have h5 := eqM_ok _ _ h5
    have h6 := eqT_ok _ _ h6
    have e1 := Nat.eq_of_beq_eq_true hb.1
    have e2 := Nat.eq_of_beq_eq_true hb.2
    have h1 := Nat.eq_of_beq_eq_true h1
    have h2 := Nat.eq_of_beq_eq_true h2
    have h3 := Nat.eq_of_beq_eq_true h3
    injection h6 with g1 g2
    injection g2 with g2 g3
    subst h5
    subst g1
    subst g2
    subst g3
    cases fs with
    | cons _ _ => cases h4
    | nil =>
      cases cfs with
      | cons _ _ => exact hfs.elim
      | nil =>
        rw [h1, h2, h3, e1, e2]
        exact hH ρ cl cs σ hA hl hs
theorem pL_all (hLn : Ln ≤ 3072) (hH : pLH Ln xs) : ∃ N d σf, d ≤ 1000 ∧ pmRun (pmRo Ln xs) (pmCall (pmRo Ln xs) N d) 13 246 2 N 0 [some (.ref 1001), none, none, none] [] pmσ0 = some (some (.int 1), σf) ∧ pmTot σf.1 ≤ 7302250 := by
  have h := aGo_ok (ρ0 := fun _ => 0) (n0 := 0) (σ0 := pmσ0) (xs := xs) rfl rfl hLn pL_fin (pL_nod hH) pL_con 30000 59 true pLK 0 [some (.inr 1001), none, none, none] [] [] pLX ((0, []), [], [], 0) (fun v => if v = 1 then (Ln : Int) else 0) [some (.ref 1001), none, none, none] [] [] pmσ0 pLe ⟨pmI_246, rfl⟩ ⟨⟨⟨⟨rfl, rfl, by decide⟩, fun v i hi => ?_⟩, fun q hq => absurd hq List.not_mem_nil, fun q hq => absurd hq List.not_mem_nil⟩, ⟨⟨rfl, fun p => rfl⟩, fun p c hp => ?_, fun p c hp => ?_, fun p _ => ⟨rfl, rfl⟩⟩, Nat.zero_le _, fun v hv => absurd hv (Nat.not_lt_zero v)⟩ ⟨rfl, fun i a hi => ?_⟩ trivial trivial
  · obtain ⟨M, N, r, σf, h1, h2, h3⟩ := h
    subst h2
    refine ⟨max M N, 59, σf, by decide, ?_, h3⟩
    exact pmRun_le pmRoLe.rf (pmCall_le pmRoLe.rf (Nat.le_max_left M N) 59 59 (Nat.le_refl 59)) N (max M N) _ _ _ _ _ (Nat.le_max_right M N) h1
  · match v, hi with
    | 0, hi => cases hi; exact ⟨Int.le_refl _, Int.le_refl _⟩
    | 1, hi => cases hi; exact ⟨by show (0 : Int) ≤ (Ln : Int); omega, by show (Ln : Int) ≤ 3072; omega⟩
    | v + 2, hi => cases hi
  · cases hp
  · cases hp
  · match i, hi with
    | 0, hi => cases hi; exact ⟨.ref 1001, rfl, rfl⟩
    | 1, hi => cases hi
    | 2, hi => cases hi
    | 3, hi => cases hi
    | i + 4, hi => cases hi
/-! the heap at the loop's head is within the table -/
theorem kLk_mem {β : Type} {k : Nat} {e : β} : ∀ {l : List (Nat × β)}, pmLk l k = some e → (k, e) ∈ l
  | [], h => by cases h
  | q :: t, h => by
    rw [pmLk_cons] at h
    split at h
    · rename_i hq
      cases h
      rw [← hq]
      exact List.mem_cons_self
    · exact List.mem_cons_of_mem _ (kLk_mem h)
noncomputable def bIz1 (d : aI) (O : aO) (cL : Bool) (p : Nat) (g : List aI × Nat × List (Nat × List aI)) : Bool :=
  bCov d g.1 && (g.2.2.all (fun q => bCov d q.2 || (Nat.beq g.2.1 0 && (match fLk O q.1 with | some _ => true | none => false) || (Nat.beq g.2.1 0 && (bif cL then !(bLo p q.1) else bLo p q.1)))) &&
    O.all fun q => (bif cL then !(bLo p q.1) else bLo p q.1) || (match aItv [(0, 0), (0, 3072)] q.2 with | some j => bCov j (bGe p q.1) | none => false))
noncomputable def bIni (p : Nat) : Bool := match fG2 p1M.2.1 p, fG2 p1M.2.2.1 p, fG2 bGT p with
  | some ci, some cl, some g => bIz1 ci.1 ci.2 false p g && bIz1 cl.1 cl.2 true p g
  | _, _, _ => false
theorem bIni_all : (List.range 126).all bIni = true := by decide +kernel
theorem bIz1_ok {d : aI} {O : aO} {cL : Bool} {p k : Nat} {g : List aI × Nat × List (Nat × List aI)} {ρ : Nat → Int} {z : Int} (hg : fG2 bGT p = some g) (h : bIz1 d O cL p g = true) (hE : aEok ((Ln : Int), xs) ρ [(0, 0), (0, 3072)]) (hk : bLo p k = cL) (hz : match pmLk O k with | some f => aFok 2 ρ f z | none => d.1 ≤ z ∧ z ≤ d.2) : bIn (bGe p k) z := by
  unfold bIz1 at h
  simp only [Bool.and_eq_true] at h
  obtain ⟨h1, h2, h3⟩ := h
  cases ho : pmLk O k with
  | some f =>
    rw [ho] at hz
    have h4 := List.all_eq_true.mp h3 _ (kLk_mem ho)
    have h5 : (bif cL then !(bLo p k) else bLo p k) = false := by
      rw [hk]
      cases cL <;> rfl
    rw [show ((k, f) : Nat × aF).1 = k from rfl, h5, Bool.false_or] at h4
    split at h4
    · rename_i j hj
      have := aItv_ok hE (show aFok [((0 : Int), (0 : Int)), (0, 3072)].length ρ f z from hz) hj
      exact bCov_ok h4 this.1 this.2
    · cases h4
  | none =>
    rw [ho] at hz
    unfold bGe
    rw [hg]
    simp only
    cases hl : fLk g.2.2 (bif Nat.beq g.2.1 0 then k else Nat.mod k g.2.1) with
    | none => exact bCov_ok h1 hz.1 hz.2
    | some e =>
      rw [fLk_eq] at hl
      have h4 := List.all_eq_true.mp h2 _ (kLk_mem hl)
      rw [Bool.or_eq_true] at h4
      rcases h4 with h4 | h4
      · exact bCov_ok h4 hz.1 hz.2
      · exfalso
        cases hm : Nat.beq g.2.1 0 with
        | false => rw [hm] at h4; simp at h4
        | true =>
          rw [hm] at h4
          simp only [cond_true, Bool.true_and, fLk_eq, ho, hk] at h4
          cases cL <;> simp at h4
theorem bIni_ok {ρ : Nat → Int} {σ : pmS} (hE : aEok ((Ln : Int), xs) ρ [(0, 0), (0, 3072)]) (h : aMok 2 ρ pmσ0 p1M σ) (p k : Nat) : bIn (bGe p k) (bZ σ p k) := by
  by_cases hp : p < 126
  · have hc := List.all_eq_true.mp bIni_all p (List.mem_range.mpr hp)
    unfold bIni at hc
    split at hc
    · rename_i ci cl g e1 e2 e3
      rw [Bool.and_eq_true] at hc
      rw [fG2_eq] at e1 e2
      have a1 := h.2.1 p ci e1 k
      have a2 := h.2.2.1 p cl e2 k
      cases hb : bLo p k with
      | false =>
        have := bIz1_ok e3 hc.1 hE hb a1
        unfold bZ
        rw [hb]
        exact this
      | true =>
        have := bIz1_ok e3 hc.2 hE hb a2
        unfold bZ
        rw [hb]
        exact this
    · cases hc
  · have hg : bGe p k = [(.negSucc 9223372036854775807, .ofNat 9223372036854775807)] := by
      unfold bGe
      have : fG2 bGT p = none := by
        rw [fG2_eq]
        unfold aG2
        by_cases h8 : p / 16 = 7
        · have e : bGT[p / 16]? = some bG7 := by rw [h8]; rfl
          rw [e]
          simp only
          exact List.getElem?_eq_none (by show bG7.length ≤ p % 16; have : bG7.length = 14 := rfl; omega)
        · rw [List.getElem?_eq_none (by show bGT.length ≤ p / 16; have : bGT.length = 8 := rfl; omega)]
      rw [this]
    rw [hg]
    refine ⟨_, List.mem_singleton.mpr rfl, ?_⟩
    show (-9223372036854775808 : Int) ≤ bZ σ p k ∧ bZ σ p k ≤ (9223372036854775807 : Int)
    unfold bZ
    cases bLo p k with
    | true =>
      have a := Int64.le_toInt (σ.2.2 p k)
      have b := Int64.toInt_lt (σ.2.2 p k)
      simp only [cond_true]
      omega
    | false =>
      have a := Int32.le_toInt (σ.2.1 p k)
      have b := Int32.toInt_lt (σ.2.1 p k)
      simp only [cond_false]
      omega
theorem kZ_int {ρ : Nat → Int} {σ : pmS} {p k : Nat} {O : aO} (h : aMok 2 ρ pmσ0 p1M σ) (hp : aG2 p1M.2.1 p = some ((0, 0), O)) (hk : pmLk O k = none) : kI σ p k = 0 := by
  have := h.2.1 p _ hp k
  simp only [hk] at this
  show aZi σ p k = 0
  omega
theorem kZ_long {ρ : Nat → Int} {σ : pmS} {p k : Nat} {O : aO} (h : aMok 2 ρ pmσ0 p1M σ) (hp : aG2 p1M.2.2.1 p = some ((0, 0), O)) (hk : pmLk O k = none) : σ.2.2 p k = 0 := by
  have := h.2.2.1 p _ hp k
  simp only [hk] at this
  have e : (σ.2.2 p k).toInt = 0 := by
    have : (0 : Int) ≤ (σ.2.2 p k).toInt ∧ (σ.2.2 p k).toInt ≤ 0 := this
    omega
  exact Int64.toInt_inj.mp (e.trans rfl)
theorem kP_ini {ρ : Nat → Int} {σ : pmS} (h : aMok 2 ρ pmσ0 p1M σ) : kP σ := by
  refine ⟨⟨?_, ?_, ?_⟩, fun w _ => ?_, fun w _ i hi => ?_⟩
  · rw [kZ_int h (p := 87) (k := 41) rfl rfl]
    decide
  · rw [kZ_int h (p := 87) (k := 41) rfl rfl]
    decide
  · have : ((List.range 4096).countP fun j => !(σ.2.2 114 j == 0)) = 0 := List.countP_eq_zero.mpr fun j _ => by
      rw [kZ_long h (p := 114) (k := j) rfl rfl]
      decide
    rw [this]
    exact Nat.zero_le _
  · rw [kZ_int h (p := 98) (k := w) rfl rfl]
    exact fun e => by cases e
  · rw [kZ_int h (p := 9) (k := w) rfl rfl] at hi
    omega
theorem pL_tot {σ : pmS} (h : ∀ p : Nat, σ.1[p]? = aG2 bZT p) : pmTot σ.1 ≤ 7302250 := by
  have hl : σ.1.length ≤ 126 := by
    by_cases c : σ.1.length ≤ 126
    · exact c
    · exfalso
      have h2 := h 126
      have e : aG2 bZT 126 = none := rfl
      rw [e] at h2
      rw [List.getElem?_eq_none_iff] at h2
      omega
  have hb : ∀ s ∈ σ.1, s.2.1 ≤ 5000 := by
    intro s hs
    obtain ⟨p, hp⟩ := List.getElem?_of_mem hs
    rw [h p] at hp
    have hc : (bZT.all fun c => c.all fun s => Nat.ble s.2.1 5000) = true := by decide +kernel
    unfold aG2 at hp
    split at hp
    · rename_i c e
      have h4 := List.all_eq_true.mp hc c (List.mem_of_getElem? e)
      exact Nat.le_of_ble_eq_true (List.all_eq_true.mp h4 s (List.mem_of_getElem? hp))
    · cases hp
  have h3 : ∀ l : List pmZ, (∀ s ∈ l, s.2.1 ≤ 5000) → pmTot l ≤ l.length * 5000 := by
    intro l
    induction l with
    | nil => intro _; exact Nat.zero_le _
    | cons s l ih =>
      intro hh
      have h1 := hh s List.mem_cons_self
      have h2 := ih fun t ht => hh t (List.mem_cons_of_mem _ ht)
      show s.2.1 + pmTot l ≤ (l.length + 1) * 5000
      rw [Nat.succ_mul]
      omega
  have := h3 σ.1 hb
  omega
theorem pL_shape : p1M.1.2 = bZT := by decide +kernel
end
