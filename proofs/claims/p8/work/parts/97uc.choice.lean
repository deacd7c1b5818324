/-! the class, what a folk wants -/
section
set_option maxRecDepth 100000


section
variable {Ln : Nat} {xs : Nat → Int32} {d : Nat} {Q : Option Value → pmS → Prop} {dr wp c pr cnt W : Int → Int} {T : Int → List Int} {n p k : Int} {l : Int64} {a0 a a' : xA} {b b' : xB} {ts : List Int} {S : Int → Int}
theorem uOrd {z q : Int} (m : Nat) (h0 : 0 ≤ z) (h1 : z < ((2 ^ m : Nat) : Int)) (h2 : 0 ≤ q) (h3 : q * ((2 ^ m : Nat) : Int) + z < 2147483648) : xOr z (q * ((2 ^ m : Nat) : Int)) = z + q * ((2 ^ m : Nat) : Int) := by
  have hz : 0 ≤ q * ((2 ^ m : Nat) : Int) := Int.mul_nonneg h2 (Int.natCast_nonneg _)
  have ez : BitVec.ofInt 32 z = BitVec.ofNat 32 z.toNat := by
    rw [show z = ((z.toNat : Nat) : Int) by omega, BitVec.ofInt_natCast]
    rfl
  have eq : BitVec.ofInt 32 (q * ((2 ^ m : Nat) : Int)) = BitVec.ofNat 32 (2 ^ m * q.toNat) := by
    rw [show q * ((2 ^ m : Nat) : Int) = ((2 ^ m * q.toNat : Nat) : Int) by rw [Int.natCast_mul, Int.toNat_of_nonneg h2, Int.mul_comm], BitVec.ofInt_natCast]
  have hb : ((2 ^ m * q.toNat : Nat) : Int) = q * ((2 ^ m : Nat) : Int) := by rw [Int.natCast_mul, Int.toNat_of_nonneg h2, Int.mul_comm]
  unfold xOr
  show (BitVec.ofInt 32 z ||| BitVec.ofInt 32 (q * ((2 ^ m : Nat) : Int))).toInt = _
  have e1 : (BitVec.ofInt 32 z ||| BitVec.ofInt 32 (q * ((2 ^ m : Nat) : Int))).toNat = z.toNat + 2 ^ m * q.toNat := by
    rw [ez, eq, BitVec.toNat_or, BitVec.toNat_ofNat, BitVec.toNat_ofNat, Nat.mod_eq_of_lt (by omega), Nat.mod_eq_of_lt (by omega), Nat.or_comm, ← Nat.two_pow_add_eq_or_of_lt (by omega), Nat.add_comm]
  rw [BitVec.toInt_eq_toNat_of_lt (by rw [e1]; omega), e1]
  omega
/-- the first deed of the plan, -1 for none -/
noncomputable def uFd (dr wp pr : Int → Int) (ts : List Int) (p : Int) (S : Int → Int) : Int := bif uHold p ts S then -1 else match uOpt dr wp pr p ts 4 S with
  | none => -1
  | some q => q.2.headD (-1)
theorem uPlan_fd (hE : uSe dr wp c u1 pr (uV a0 c) (uV a0 u1) p (T (p * 3 + k))) : (uFd dr wp pr (T (p * 3 + k)) p (uSl l) = -1 ∧ (uPlan dr wp pr T l p k = 0 ∨ uPlan dr wp pr T l p k = -1)) ∨ ((0 ≤ uFd dr wp pr (T (p * 3 + k)) p (uSl l) ∧ uFd dr wp pr (T (p * 3 + k)) p (uSl l) < 41) ∧ ¬ uPlan dr wp pr T l p k = 0 ∧ ¬ uPlan dr wp pr T l p k = -1 ∧ xL2 (uPlan dr wp pr T l p k &&& 511) = uD (uFd dr wp pr (T (p * 3 + k)) p (uSl l))) := by
  unfold uFd uPlan
  cases uHold p (T (p * 3 + k)) (uSl l) with
  | true => exact Or.inl ⟨rfl, Or.inr rfl⟩
  | false =>
    cases ho : uOpt dr wp pr p (T (p * 3 + k)) 4 (uSl l) with
    | none => exact Or.inl ⟨rfl, Or.inl rfl⟩
    | some q =>
      right
      have hb := uOpt_b hE ho (by decide)
      obtain ⟨z, r⟩ := q
      have hpl : (uMg 0 [] ((100000 : Int), (0 : Int64)) (some (z, r))).2 = uPl r z := by
        show (if 0 + z < 100000 then (0 + z, uPl ([] ++ r) (0 + z)) else (100000, 0)).2 = _
        rw [if_pos (by omega), show 0 + z = z by omega]
        rfl
      have e0 : (bif false then (-1 : Int64) else (uMg 0 [] ((100000 : Int), (0 : Int64)) (some (z, r))).2) = uPl r z := hpl
      rw [e0]
      obtain ⟨b1, b2, b3, b4, b5, b6⟩ := hb
      have b1 : 0 ≤ z := b1
      have b2 : z ≤ 292 := b2
      have b3 : r.length ≤ 4 := b3
      have b4 : 1 ≤ r.length := b4
      have b5 : z % 8 = (r.length : Int) := b5
      have hN := uPl_N (l := r) (z := z) (fun x hx => by have := b6 x hx; omega) b3 b1 (by omega)
      have hR := uRw_b r (fun x hx => by have := b6 x hx; omega)
      have h4 : 512 ^ r.length ≤ 2 ^ 36 := Nat.le_trans (Nat.pow_le_pow_right (by decide) b3) (by decide)
      match r, b3, b4, b5, b6, hN, hR, h4 with
      | x :: r', b3, b4, b5, b6, hN, hR, h4 =>
        have hx := b6 x List.mem_cons_self
        have hd := uD_b x (by omega)
        refine ⟨hx, fun e => ?_, fun e => ?_, ?_⟩
        · rw [e] at hN
          have e2 : uN 0 = 0 := rfl
          omega
        · rw [e] at hN
          have e2 : uN (-1) = 18446744073709551615 := by decide
          omega
        · have e3 : uN (uPl (x :: r') z &&& 511) = uN (uPl (x :: r') z) % 512 := by
            show (uPl (x :: r') z &&& 511).toBitVec.toNat = _
            rw [Int64.toBitVec_and, BitVec.toNat_and]
            show (uPl (x :: r') z).toBitVec.toNat &&& (2 ^ 9 - 1) = _
            rw [Nat.and_two_pow_sub_one_eq_mod]
            rfl
          have e4 : uRw (x :: r') = (uD x).toNat + 512 * uRw r' := rfl
          have e5 : uN (uPl (x :: r') z &&& 511) = (uD x).toNat := by
            rw [e3, hN, e4]
            omega
          rw [uN_l2 (by omega), e5]
          show _ = uD x
          omega
/-- which wish is chosen -/
def uChs (cn : Int) (W F : Int → Int) (k : Int) : Prop := (k = -1 ∧ ∀ i, 0 ≤ i → i < cn → F i = -1) ∨ ((0 ≤ k ∧ k < cn) ∧ ¬ F k = -1 ∧ ∀ i, 0 ≤ i → i < cn → ¬ F i = -1 → W i < W k ∨ (W i = W k ∧ k ≤ i))
theorem uChs_u {cn : Int} {W F : Int → Int} {k k' : Int} (h : uChs cn W F k) (h' : uChs cn W F k') : k = k' := by
  rcases h with ⟨h1, h2⟩ | ⟨h1, h2, h3⟩
  · rcases h' with ⟨g1, g2⟩ | ⟨g1, g2, g3⟩
    · omega
    · exact absurd (h2 k' g1.1 g1.2) g2
  · rcases h' with ⟨g1, g2⟩ | ⟨g1, g2, g3⟩
    · exact absurd (g2 k h1.1 h1.2) h2
    · have a1 := h3 k' g1.1 g1.2 g2
      have a2 := g3 k h1.1 h1.2 h2
      omega
/-- the class's order of wishes: by weights, then by numbers -/
def uOr (cnt W : Int → Int) (a : xA) : Prop := ∀ p, 1 ≤ p → p ≤ 3 → (∀ i j, 0 ≤ i → i < j → j < cnt p → W (p * 3 + a 11 (p * 3 + j)) < W (p * 3 + a 11 (p * 3 + i)) ∨ (W (p * 3 + a 11 (p * 3 + j)) = W (p * 3 + a 11 (p * 3 + i)) ∧ a 11 (p * 3 + i) < a 11 (p * 3 + j))) ∧ ∀ k, 0 ≤ k → k < cnt p → ∃ i, 0 ≤ i ∧ i < cnt p ∧ a 11 (p * 3 + i) = k
/-- choiceOf -/
theorem u85 (hG : uPg dr wp c cnt T n a0 a b) (hF : uPf dr wp c pr cnt T a0) (hO : uOr cnt W a) (hM : uMC dr wp pr cnt T b) (hp : 1 ≤ p ∧ p ≤ 3) (hS : uOk p (uSl l)) (h9 : uHi l) (hd : 9 ≤ d) (hQ : ∀ a' b' k z, uPx a a' b b' → xAr a' → uMC dr wp pr cnt T b' → uChs (cnt p) (fun i => W (p * 3 + i)) (fun i => uFd dr wp pr (T (p * 3 + i)) p (uSl l)) k → (k = -1 → z = 0) → (¬ k = -1 → z = uD (uFd dr wp pr (T (p * 3 + k)) p (uSl l)) + (k + 1) * 8192) → Q (some (xV z)) (xS a' b')) : pmCs (pmRo Ln xs) d 85 [.ref 34, .long l, xV p] (xS a b) Q := by
  obtain ⟨hcn, hcn0, hcn3⟩ := hG.2.2.2.2.2.2.1 p hp.1 hp.2
  obtain ⟨hs, hj⟩ := hO p hp.1 hp.2
  refine pmCs_deep (d := 9) (xg85 (w85 hp (fun e => by omega) (fun _ _ => ?_) (fun _ e => by omega))) hd
  have loop : ∀ (m : Nat) (i : Int) (a1 : xA) (b1 : xB) (v5 v6 : Option Value), cnt p - i ≤ (m : Int) → 0 ≤ i ∧ i ≤ cnt p → uPx a a1 b b1 → xAr a1 → uMC dr wp pr cnt T b1 → (∀ i', 0 ≤ i' → i' < i → uFd dr wp pr (T (p * 3 + a 11 (p * 3 + i'))) p (uSl l) = -1) →
      pmWp (pmRo Ln xs) 8 3 85 1 15 [some (.ref 34), some (.long l), none, some (xV p), some (xV i), v5, v6, none] [] (xS a1 b1) Q := by
    intro m
    induction m with
    | zero =>
      intro i a1 b1 v5 v6 hm hi g1 g2 g3 g4
      have ei : i = cnt p := by omega
      subst ei
      refine w85x hp ((g1.1 12 p (by decide) (by decide) (by decide) (by decide) (by decide) (by decide) (by decide)).trans hcn) ⟨hcn0, hcn3⟩ ?_
      refine hQ a1 b1 (-1) 0 g1 g2 g3 (Or.inl ⟨rfl, fun k k0 k1 => ?_⟩) (fun _ => rfl) (fun e => absurd rfl e)
      obtain ⟨i', i0, i1, e⟩ := hj k k0 k1
      rw [← e]
      exact g4 i' i0 i1
    | succ m ih =>
      intro i a1 b1 v5 v6 hm hi g1 g2 g3 g4
      by_cases ei : i = cnt p
      · subst ei
        refine w85x hp ((g1.1 12 p (by decide) (by decide) (by decide) (by decide) (by decide) (by decide) (by decide)).trans hcn) ⟨hcn0, hcn3⟩ ?_
        refine hQ a1 b1 (-1) 0 g1 g2 g3 (Or.inl ⟨rfl, fun k k0 k1 => ?_⟩) (fun _ => rfl) (fun e => absurd rfl e)
        obtain ⟨i', i0, i1, e⟩ := hj k k0 k1
        rw [← e]
        exact g4 i' i0 i1
      · have hk := hG.2.2.2.2.2.2.2 p i hp.1 hp.2 hi.1 (by omega)
        obtain ⟨k, ek⟩ : ∃ k, a 11 (p * 3 + i) = k := ⟨_, rfl⟩
        rw [ek] at hk
        refine w85a hp ((g1.1 12 p (by decide) (by decide) (by decide) (by decide) (by decide) (by decide) (by decide)).trans hcn) ⟨hcn0, hcn3⟩ ⟨hi.1, by omega⟩ ((g1.1 11 _ (by decide) (by decide) (by decide) (by decide) (by decide) (by decide) (by decide)).trans ek) ⟨hk.1, by omega⟩ (fun e => by omega) (fun _ => ?_)
        refine u77 (uPg_x hG g1 g2) hF g3 hp hk hS h9 (by decide) (fun a2 b2 x2 A2 M2 => ?_)
        have hE := (hF p k hp.1 hp.2 hk.1 hk.2).1
        have nx : ∀ (v5 v6 : Option Value), uFd dr wp pr (T (p * 3 + k)) p (uSl l) = -1 → pmWp (pmRo Ln xs) 8 3 85 1 15 [some (.ref 34), some (.long l), none, some (xV p), some (xV (i + 1)), v5, v6, none] [] (xS a2 b2) Q := by
          intro v5 v6 he
          refine ih (i + 1) a2 b2 v5 v6 (by omega) (by omega) (uPx_t g1 x2) A2 M2 (fun i' i0 i1 => ?_)
          by_cases c : i' = i
          · rw [c, ek]
            exact he
          · exact g4 i' i0 (by omega)
        refine w85b hp ⟨hi.1, by omega⟩ ⟨hk.1, by omega⟩ (fun e => ?_) (fun e1 e2 => ?_) (fun e1 e2 => ?_)
        · rw [xCmp0] at e
          rcases uPlan_fd (l := l) (T := T) (k := k) hE with h | h
          · exact nx _ _ h.1
          · exact absurd e h.2.1
        · rw [xCmp0] at e2
          rcases uPlan_fd (l := l) (T := T) (k := k) hE with h | h
          · exact nx _ _ h.1
          · exact absurd e2 h.2.2.1
        · rw [xCmp0] at e1 e2
          rcases uPlan_fd (l := l) (T := T) (k := k) hE with h | h
          · exfalso
            rcases h.2 with h | h
            · exact e1 h
            · exact e2 h
          · obtain ⟨h1, h2, h3, h4⟩ := h
            have hD := uD_b (uFd dr wp pr (T (p * 3 + k)) p (uSl l)) (by omega)
            have ho := uOrd (z := uD (uFd dr wp pr (T (p * 3 + k)) p (uSl l))) (q := k + 1) 13 hD.1 (by have e : ((2 ^ 13 : Nat) : Int) = 8192 := rfl; rw [e]; omega) (by omega) (by have e : ((2 ^ 13 : Nat) : Int) = 8192 := rfl; rw [e]; omega)
            rw [show ((2 ^ 13 : Nat) : Int) = 8192 from rfl] at ho
            rw [h4, ho]
            refine hQ a2 b2 k _ (uPx_t g1 x2) A2 M2 (Or.inr ⟨hk, (show ¬ uFd dr wp pr (T (p * 3 + k)) p (uSl l) = -1 by omega), fun i' i0 i1 hne => ?_⟩) (fun e => by omega) (fun _ => rfl)
            obtain ⟨j, j0, j1, ej⟩ := hj i' i0 i1
            rw [← ej] at hne ⊢
            dsimp only at hne ⊢
            by_cases c : j < i
            · exact absurd (g4 j j0 c) hne
            · by_cases c2 : j = i
              · rw [c2, ek]
                exact Or.inr ⟨rfl, Int.le_refl _⟩
              · have := hs i j hi.1 (by omega) j1
                rw [ek] at this
                omega
  exact loop 3 0 a b none none (by omega) ⟨by decide, hcn0⟩ uPx_r hG.1 hM (fun i' i0 i1 => by omega)
end
end
