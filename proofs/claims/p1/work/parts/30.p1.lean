/-! the law on scripts of at most six ints: from node to node -/
section
noncomputable def p1S (m : Nat) : aSs := (fLk [(68, [(0, [(1, 1, 3), (3, 0, 4)])]), (25, [(0, [(1, 1, 3), (3, 0, 4)])]), (132, [(0, [(1, 0, 4)])]), (134, [(0, [(1, -2147483638, 0)])]), (23, [(0, [(1, 0, 128)])]), (20, [(0, [(1, -2147483638, 0)])]), (13, [(0, [(1, 0, 7), (2, 0, 7)])])] m).getD []
def p1K : aK := (13, 246, 2, pmT_246, [])
noncomputable def p1fin : Option aV → aX → aM → Bool := fun r X M => match r with
  | some (.inl (false, f)) => (match aCst X.1 f with
    | some z => zEq z 1 && (Nat.ble M.1.1 1000 && M.1.2.all fun c => c.all fun s => Nat.ble s.2.1 5000)
    | none => false)
  | _ => false
noncomputable def p1nod (N : List p1N) : aNod := fun d K pc pl st fs X M => bif Nat.beq K.2.1 246 && N.any (fun s => Nat.beq s.1 pc) then
    some ((Nat.beq d 20 && (Nat.beq K.1 13 && Nat.beq K.2.2.1 2)) && ((match fs with | [] => true | _ => false) && (eqM M p1M && N.any fun s => Nat.beq s.1 pc && eqT s.2 (pl, st, X)))) else none
def p1con : aCon := fun _ _ _ _ _ _ => none
noncomputable def p1go (N : List p1N) (pc : Nat) (pl : aL) (st : List aV) (X : aX) (M : aM) : Bool := aGo p1S (p1nod N) p1con p1fin 30000 20 true p1K pc pl st [] X M
noncomputable def p1run (N : List p1N) (s : p1N) : Bool := p1go N s.1 s.2.1 s.2.2.1 s.2.2.2 p1M
/-- the same where the variable v is from lo to hi -/
noncomputable def p1rr (N : List p1N) (s : p1N) (v : Nat) (lo hi : Int) : Bool := aLe s.2.2.2 (0, lo) (v, 0) 0 fun X => aLe X (v, 0) (0, hi) 0 fun X => p1go N s.1 s.2.1 s.2.2.1 X p1M
def p1Q : Option Value → pmS → Prop := fun v σ => v = some (.int 1) ∧ pmTot σ.1 ≤ 7302250
def p1H (Ln : Nat) (xs : Nat → Int32) (s : p1N) : Prop := ∀ ρ cl cs σ, aAll ((Ln : Int), xs) 0 (fun _ => 0) ρ pmσ0 s.2.2.2 p1M σ → aLok s.2.2.2.1.length ρ s.2.1 cl → aSok s.2.2.2.1.length ρ s.2.2.1 cs → pmWp (pmRo Ln xs) 20 13 246 2 s.1 cl cs σ (aRtQ (pmRo Ln xs) 20 [] p1Q)
variable {Ln : Nat} {xs : Nat → Int32}
theorem pmTot_le : ∀ (l : List pmZ) (b : Nat), (∀ s ∈ l, s.2.1 ≤ b) → pmTot l ≤ l.length * b
  | [], _, _ => Nat.zero_le _
  | s :: l, b, h => by
    have ih := pmTot_le l b fun t ht => h t (List.mem_cons_of_mem _ ht)
    have h1 := h s List.mem_cons_self
    show s.2.1 + pmTot l ≤ (l.length + 1) * b
    rw [Nat.succ_mul]
    omega
theorem p1_fin : aFinOk ((Ln : Int), xs) 0 (fun _ => 0) pmσ0 p1fin p1Q := fun r X M ρ v σ h hA hr => by
  unfold p1fin at h
  split at h
  · rename_i f
    split at h
    · rename_i z hz
      rw [zEq_eq] at h
      simp only [Bool.and_eq_true, decide_eq_true_eq] at h
      obtain ⟨h1, h2, h3⟩ := h
      subst h1
      cases v with
      | none => exact hr.elim
      | some v =>
        obtain ⟨x, rfl, hx⟩ := aVok_int hr
        have e := aCst_ok hA.1 hx hz
        have h10 : (1 : Int32).toInt = 1 := rfl
        have e1 : x = 1 := by rw [aEq32, h10]; exact e
        refine ⟨by rw [e1], ?_⟩
        obtain ⟨z1, z2⟩ := hA.2.1.1
        have hlen : σ.1.length ≤ 1000 := by rw [z1]; exact Nat.le_of_ble_eq_true h2
        have hb := pmTot_le σ.1 5000 fun s hs => by
          obtain ⟨p, hp⟩ := List.getElem?_of_mem hs
          rw [z2] at hp
          unfold aG2 at hp
          split at hp
          · rename_i c hc
            have h4 := List.all_eq_true.mp h3 c (List.mem_of_getElem? hc)
            exact Nat.le_of_ble_eq_true (List.all_eq_true.mp h4 s (List.mem_of_getElem? hp))
          · cases hp
        have : σ.1.length * 5000 ≤ 1000 * 5000 := Nat.mul_le_mul_right _ hlen
        omega
    · cases h
  · cases h
theorem p1_con {L : aLa} : aConOk (pmRo Ln xs) L pmσ0 p1con := fun d mm args X M k ρ vs σ Q h => by cases h
theorem p1_nod {N : List p1N} (hN : ∀ t ∈ N, p1H Ln xs t) : aNodOk (pmRo Ln xs) ((Ln : Int), xs) 0 (fun _ => 0) pmσ0 (p1nod N) p1Q := fun d K pc pl st fs X M ρ cl cs cfs σ h hK hA hl hs hfs => by
  unfold p1nod at h
  cases hb : (Nat.beq K.2.1 246 && N.any fun s => Nat.beq s.1 pc) with
  | false => rw [hb] at h; cases h
  | true =>
    rw [hb] at h
    simp only [cond_true, Option.some.injEq, Bool.and_eq_true] at h
    rw [Bool.and_eq_true] at hb
    obtain ⟨⟨h1, h2, h3⟩, h4, h5, h6⟩ := h
    obtain ⟨s, hs1, hs2⟩ := List.any_eq_true.mp h6
    rw [Bool.and_eq_true] at hs2
    obtain ⟨e1, e2⟩ := hs2
    have e2 := eqT_ok _ _ e2
    have h5 := eqM_ok _ _ h5
    have e1 := Nat.eq_of_beq_eq_true e1
    have h1 := Nat.eq_of_beq_eq_true h1
    have h2 := Nat.eq_of_beq_eq_true h2
    have h3 := Nat.eq_of_beq_eq_true h3
    have hm := Nat.eq_of_beq_eq_true hb.1
    have hH := hN s hs1
    obtain ⟨spc, spl⟩ := s
    change spc = pc at e1
    change spl = (pl, st, X) at e2
    subst e1
    subst e2
    subst h5
    cases fs with
    | cons _ _ => cases h4
    | nil =>
      cases cfs with
      | cons _ _ => exact hfs.elim
      | nil =>
        rw [h1, h2, h3, hm]
        exact hH ρ cl cs σ hA hl hs
theorem p1K_ok : aKok p1K := ⟨pmI_246, rfl⟩
theorem p1_go (hLn : Ln ≤ 3072) {N : List p1N} (hN : ∀ t ∈ N, p1H Ln xs t) {pc : Nat} {pl : aL} {st : List aV} {X : aX} {M : aM} {ρ : Nat → Int} {cl : pmL} {cs : List Value} {σ : pmS} (h : p1go N pc pl st X M = true) (hA : aAll ((Ln : Int), xs) 0 (fun _ => 0) ρ pmσ0 X M σ) (hl : aLok X.1.length ρ pl cl) (hs : aSok X.1.length ρ st cs) : pmWp (pmRo Ln xs) 20 13 246 2 pc cl cs σ (aRtQ (pmRo Ln xs) 20 [] p1Q) :=
  aGo_ok rfl rfl hLn p1_fin (p1_nod hN) p1_con 30000 20 true p1K pc pl st [] X M ρ cl cs [] σ h p1K_ok hA hl hs trivial
theorem p1_run (hLn : Ln ≤ 3072) {N : List p1N} (hN : ∀ t ∈ N, p1H Ln xs t) {s : p1N} (h : p1run N s = true) : p1H Ln xs s := fun ρ cl cs σ hA hl hs => p1_go hLn hN h hA hl hs
theorem p1_rr (hLn : Ln ≤ 3072) {N : List p1N} (hN : ∀ t ∈ N, p1H Ln xs t) {s : p1N} {v : Nat} {lo hi : Int} (h : p1rr N s v lo hi = true) {ρ : Nat → Int} {cl : pmL} {cs : List Value} {σ : pmS} (hA : aAll ((Ln : Int), xs) 0 (fun _ => 0) ρ pmσ0 s.2.2.2 p1M σ) (hl : aLok s.2.2.2.1.length ρ s.2.1 cl) (hs : aSok s.2.2.2.1.length ρ s.2.2.1 cs) (hv : v < s.2.2.2.1.length) (h1 : lo ≤ ρ v) (h2 : ρ v ≤ hi) : pmWp (pmRo Ln xs) 20 13 246 2 s.1 cl cs σ (aRtQ (pmRo Ln xs) 20 [] p1Q) := by
  obtain ⟨hX, hM, hn, he⟩ := hA
  have hf : ∀ {n : Nat}, v < n → aFok n ρ (v, 0) (ρ v) := fun h => ⟨h, by show ρ v = ρ v + 0; omega⟩
  obtain ⟨Y, y1, y2, y3⟩ := aLe_ok hX (aFok.c0 hX.1) (hf hv) (d := 0) (x := lo) (by omega) h
  obtain ⟨Z, z1, z2, z3⟩ := aLe_ok y2 (hf (by rw [y1]; exact hv)) (aFok.c0 y2.1) (d := 0) (y := hi) (by omega) y3
  have e : Z.1.length = s.2.2.2.1.length := z1.trans y1
  exact p1_go hLn hN z3 ⟨z2, by rw [e]; exact hM, Nat.zero_le _, he⟩ (by rw [e]; exact hl) (by rw [e]; exact hs)
theorem p1_rr4 (hLn : Ln ≤ 3072) {N : List p1N} (hN : ∀ t ∈ N, p1H Ln xs t) {s : p1N} {v : Nat} (hv : s.2.2.2.1[v]? = some (-2147483648, 2147483647)) (h1 : p1rr N s v (-2147483648) 31 = true) (h2 : p1rr N s v 32 63 = true) (h3 : p1rr N s v 64 95 = true) (h4 : p1rr N s v 96 2147483647 = true) : p1H Ln xs s := fun ρ cl cs σ hA hl hs => by
  have hlt := (List.getElem?_eq_some_iff.mp hv).1
  have hb := hA.1.1.2 _ _ hv
  have hb1 : (-2147483648 : Int) ≤ ρ v := hb.1
  have hb2 : ρ v ≤ (2147483647 : Int) := hb.2
  by_cases c1 : ρ v ≤ 31
  · exact p1_rr hLn hN h1 hA hl hs hlt hb1 c1
  · by_cases c2 : ρ v ≤ 63
    · exact p1_rr hLn hN h2 hA hl hs hlt (by omega) c2
    · by_cases c3 : ρ v ≤ 95
      · exact p1_rr hLn hN h3 hA hl hs hlt (by omega) c3
      · exact p1_rr hLn hN h4 hA hl hs hlt (by omega) hb2
end
