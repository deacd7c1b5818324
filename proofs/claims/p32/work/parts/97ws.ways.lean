/-! measureWays -/
section
set_option maxRecDepth 100000


section
variable {ro : Nat → Nat × (Nat → Int32)} {d : Nat} {Q : Option Value → pmS → Prop} {dr : Int → Int} {D : Int → Int → Int} {K x y i j k : Int} {a a0 a1 : xA} {b : xB}
/-- ways: so many rooms may stand between -/
def vM (dr : Int → Int) (K : Int) (D : Int → Int → Int) : Prop := (∀ x y, 0 ≤ x → x < 7 → 0 ≤ y → y < 7 → (0 ≤ D x y ∧ D x y ≤ 99) ∧ (D x y = 0 ↔ x = y)) ∧ (∀ x e, 0 ≤ x → x < 7 → 0 ≤ e → e < 7 → ¬ dr (7 * x + e) = 0 → D x e ≤ 1) ∧ ∀ x e y, 0 ≤ x → x < 7 → 0 ≤ e → e < 7 → 0 ≤ y → y < 7 → e < K → D x y ≤ D x e + D e y
def vN (K : Int) (D : Int → Int → Int) (x y : Int) : Int := if D x K + D K y < D x y then D x K + D K y else D x y
theorem vN_r (h : D K K = 0) : vN K D x K = D x K := if_neg (by omega)
theorem vN_l (h : D K K = 0) : vN K D K y = D K y := if_neg (by omega)
theorem vN_c : (vN K D x y = D x K + D K y ∧ D x K + D K y < D x y) ∨ (vN K D x y = D x y ∧ D x y ≤ D x K + D K y) := by
  unfold vN
  split
  · exact Or.inl ⟨rfl, by assumption⟩
  · exact Or.inr ⟨rfl, by omega⟩
theorem vM_s (hK : 0 ≤ K ∧ K < 7) (h : vM dr K D) : vM dr (K + 1) (vN K D) := by
  obtain ⟨h1, h2, h3⟩ := h
  have hKK : D K K = 0 := (h1 K K hK.1 hK.2 hK.1 hK.2).2.mpr rfl
  refine ⟨fun x y x0 x6 y0 y6 => ?_, fun x e x0 x6 e0 e6 hn => ?_, fun x e y x0 x6 e0 e6 y0 y6 he => ?_⟩
  · obtain ⟨b1, b2⟩ := h1 x y x0 x6 y0 y6
    obtain ⟨b3, b4⟩ := h1 x K x0 x6 hK.1 hK.2
    obtain ⟨b5, b6⟩ := h1 K y hK.1 hK.2 y0 y6
    rcases vN_c (K := K) (D := D) (x := x) (y := y) with ⟨g1, g2⟩ | ⟨g1, g2⟩
    · rw [g1]
      exact ⟨by omega, fun e => by omega, fun e => by
        have := b2.mpr e
        omega⟩
    · rw [g1]
      exact ⟨b1, b2⟩
  · have := h2 x e x0 x6 e0 e6 hn
    rcases vN_c (K := K) (D := D) (x := x) (y := e) with ⟨g1, g2⟩ | ⟨g1, g2⟩ <;> omega
  · have n1 := (h1 e K e0 e6 hK.1 hK.2).1
    have n2 := (h1 K e hK.1 hK.2 e0 e6).1
    have hxy := vN_c (K := K) (D := D) (x := x) (y := y)
    by_cases c : e = K
    · rw [c, vN_r hKK, vN_l hKK]
      omega
    · have t1 := h3 x e y x0 x6 e0 e6 y0 y6 (by omega)
      have t2 := h3 K e y hK.1 hK.2 e0 e6 y0 y6 (by omega)
      have t3 := h3 x e K x0 x6 e0 e6 hK.1 hK.2 (by omega)
      have a1 := vN_c (K := K) (D := D) (x := x) (y := e)
      have a2 := vN_c (K := K) (D := D) (x := e) (y := y)
      omega
def vH (K : Int) (D : Int → Int → Int) (x y : Int) (a : xA) : Prop := ∀ i j, 0 ≤ i → i < 7 → 0 ≤ j → j < 7 → a 6 (7 * i + j) = if i < x ∨ (i = x ∧ j < y) then vN K D i j else D i j
theorem vH_s (hK : 0 ≤ K ∧ K < 7) (hKK : D K K = 0) (hx : 0 ≤ x ∧ x < 7) (hy : 0 ≤ y ∧ y < 7) (h : vH K D x y a) : vH K D x (y + 1) (xU a 6 (7 * x + y) (if a 6 (7 * x + K) + (a 6 (7 * K + y)) < a 6 (7 * x + y) then a 6 (7 * x + K) + (a 6 (7 * K + y)) else a 6 (7 * x + y))) := by
  have e1 : a 6 (7 * x + K) = D x K := by
    rw [h x K hx.1 hx.2 hK.1 hK.2]
    by_cases c : x < x ∨ (x = x ∧ K < y)
    · rw [if_pos c, vN_r hKK]
    · rw [if_neg c]
  have e2 : a 6 (7 * K + y) = D K y := by
    rw [h K y hK.1 hK.2 hy.1 hy.2]
    by_cases c : K < x ∨ (K = x ∧ y < y)
    · rw [if_pos c, vN_l hKK]
    · rw [if_neg c]
  have e3 : a 6 (7 * x + y) = D x y := by
    rw [h x y hx.1 hx.2 hy.1 hy.2, if_neg (by omega)]
  rw [e1, e2, e3]
  intro i j i0 i6 j0 j6
  by_cases e : i = x ∧ j = y
  · obtain ⟨g1, g2⟩ := e
    have c2 : x < x ∨ (x = x ∧ y < y + 1) := Or.inr ⟨rfl, by omega⟩
    rw [g1, g2, xUa]
    exact (if_pos c2).symm
  · rw [xUk (by omega), h i j i0 i6 j0 j6]
    by_cases c : i < x ∨ (i = x ∧ j < y)
    · rw [if_pos c, if_pos (by omega)]
    · rw [if_neg c, if_neg (by omega)]
theorem vH_n (h : vH K D x 7 a) : vH K D (x + 1) 0 a := by
  intro i j i0 i6 j0 j6
  rw [h i j i0 i6 j0 j6]
  by_cases c : i < x ∨ (i = x ∧ j < 7)
  · rw [if_pos c, if_pos (by omega)]
  · rw [if_neg c, if_neg (by omega)]
def vJ (a0 a : xA) : Prop := (∀ q j, q ≠ 6 → a q j = a0 q j) ∧ xAr a ∧ ∀ k, 0 ≤ k → 0 ≤ a 6 k ∧ a 6 k ≤ 99
theorem vJ_u {v : Int} (h : vJ a0 a) (hv : 0 ≤ v ∧ v ≤ 99) : vJ a0 (xU a 6 k v) := ⟨fun q j e => by rw [xUn e]; exact h.1 q j e, xAr_u h.2.1 ⟨by omega, by omega⟩, fun j j0 => by
  by_cases e : j = k
  · rw [e, xUa]
    exact hv
  · rw [xUk e]
    exact h.2.2 j j0⟩
theorem vw81 (hK : 0 ≤ K ∧ K < 7) (hKK : D K K = 0) (hx : 0 ≤ x ∧ x < 7) (hQ : ∀ a2 v3 v4, vJ a0 a2 → vH K D x 7 a2 → pmWp ro d 5 58 0 73 [some (.ref 3), some (xV K), some (xV (x + 1)), v3, v4] [] (xS a2 b) Q) : ∀ (u : Nat) (y : Int) (a : xA) (v4 : Option Value), y + (u : Int) = 7 → 0 ≤ y → vJ a0 a → vH K D x y a → pmWp ro d 5 58 0 81 [some (.ref 3), some (xV K), some (xV x), some (xV y), v4] [] (xS a b) Q
  | 0, y, a, v4, hu, y0, hJ, hH => wb58e (v4 := v4) hK hx ⟨y0, by omega⟩ hJ.2.2 (fun _ => hQ a _ _ hJ (by rw [show (7 : Int) = y by omega]; exact hH)) (fun e => absurd (by omega) e)
  | u + 1, y, a, v4, hu, y0, hJ, hH => wb58e (v4 := v4) hK hx ⟨y0, by omega⟩ hJ.2.2 (fun e => absurd e (by omega)) (fun _ => vw81 hK hKK hx hQ u (y + 1) _ _ (by omega) (by omega) (vJ_u hJ (by
      have n1 := hJ.2.2 (7 * x + K) (by omega)
      have n2 := hJ.2.2 (7 * K + y) (by omega)
      have n3 := hJ.2.2 (7 * x + y) (by omega)
      split <;> omega)) (vH_s hK hKK hx ⟨y0, by omega⟩ hH))
theorem vw73 (hK : 0 ≤ K ∧ K < 7) (hKK : D K K = 0) (hQ : ∀ a2 v2 v3 v4, vJ a0 a2 → vH K D 7 0 a2 → pmWp ro d 5 58 0 65 [some (.ref 3), some (xV (K + 1)), v2, v3, v4] [] (xS a2 b) Q) : ∀ (u : Nat) (x : Int) (a : xA) (v3 v4 : Option Value), x + (u : Int) = 7 → 0 ≤ x → vJ a0 a → vH K D x 0 a → pmWp ro d 5 58 0 73 [some (.ref 3), some (xV K), some (xV x), v3, v4] [] (xS a b) Q
  | 0, x, a, v3, v4, hu, x0, hJ, hH => wb58d (v3 := v3) (v4 := v4) hK ⟨x0, by omega⟩ (fun _ => hQ a _ _ _ hJ (by rw [show (7 : Int) = x by omega]; exact hH)) (fun e => absurd (by omega) e)
  | u + 1, x, a, v3, v4, hu, x0, hJ, hH => wb58d (v3 := v3) (v4 := v4) hK ⟨x0, by omega⟩ (fun e => absurd e (by omega)) (fun _ => vw81 hK hKK ⟨x0, by omega⟩ (fun a2 _ _ hJ2 hH2 => vw73 hK hKK hQ u (x + 1) a2 _ _ (by omega) (by omega) hJ2 (vH_n hH2)) 7 0 a _ (by decide) (by decide) hJ hH)
theorem vM_h (hH : vH K D 7 0 a) (h : vM dr (K + 1) (vN K D)) : vM dr (K + 1) (fun x y => a 6 (7 * x + y)) := by
  have e : ∀ i j, 0 ≤ i → i < 7 → 0 ≤ j → j < 7 → a 6 (7 * i + j) = vN K D i j := fun i j i0 i6 j0 j6 => by
    rw [hH i j i0 i6 j0 j6, if_pos (by omega)]
  obtain ⟨h1, h2, h3⟩ := h
  refine ⟨fun x y x0 x6 y0 y6 => ?_, fun x e' x0 x6 e0 e6 hn => ?_, fun x e' y x0 x6 e0 e6 y0 y6 he => ?_⟩
  · show (0 ≤ a 6 (7 * x + y) ∧ a 6 (7 * x + y) ≤ 99) ∧ (a 6 (7 * x + y) = 0 ↔ x = y)
    rw [e x y x0 x6 y0 y6]
    exact h1 x y x0 x6 y0 y6
  · show a 6 (7 * x + e') ≤ 1
    rw [e x e' x0 x6 e0 e6]
    exact h2 x e' x0 x6 e0 e6 hn
  · show a 6 (7 * x + y) ≤ a 6 (7 * x + e') + a 6 (7 * e' + y)
    rw [e x y x0 x6 y0 y6, e x e' x0 x6 e0 e6, e e' y e0 e6 y0 y6]
    exact h3 x e' y x0 x6 e0 e6 y0 y6 he
theorem vw65 (hQ : ∀ a2, vJ a0 a2 → vM dr 7 (fun x y => a2 6 (7 * x + y)) → Q none (xS a2 b)) : ∀ (u : Nat) (K : Int) (a : xA) (v2 v3 v4 : Option Value), K + (u : Int) = 7 → 0 ≤ K → vJ a0 a → vM dr K (fun x y => a 6 (7 * x + y)) → pmWp ro d 5 58 0 65 [some (.ref 3), some (xV K), v2, v3, v4] [] (xS a b) Q
  | 0, K, a, v2, v3, v4, hu, K0, hJ, hM => wb58c (v2 := v2) (v3 := v3) (v4 := v4) ⟨K0, by omega⟩ (fun _ => hQ a hJ (by rw [show (7 : Int) = K by omega]; rw [show (7 : Int) = K by omega] at hM; exact hM)) (fun e => absurd (by omega) e)
  | u + 1, K, a, v2, v3, v4, hu, K0, hJ, hM => wb58c (v2 := v2) (v3 := v3) (v4 := v4) ⟨K0, by omega⟩ (fun e => absurd e (by omega)) (fun _ => vw73 (D := fun x y => a 6 (7 * x + y)) ⟨K0, by omega⟩ ((hM.1 K K K0 (by omega) K0 (by omega)).2.mpr rfl) (fun a2 _ _ _ hJ2 hH2 => vw65 hQ u (K + 1) a2 _ _ _ (by omega) (by omega) hJ2 (vM_h hH2 (vM_s ⟨K0, by omega⟩ hM))) 7 0 a _ _ (by decide) (by decide) hJ (fun i j _ _ _ _ => by rw [if_neg (by omega)]))
def vI (b : xB) (x y : Int) : Int := if x = y then 0 else bif xBit (b 3 3) (7 * x + y) then 1 else 99
def vE (b : xB) (x y : Int) (a : xA) : Prop := ∀ i j, 0 ≤ i → i < 7 → 0 ≤ j → j < 7 → i < x ∨ (i = x ∧ j < y) → a 6 (7 * i + j) = vI b i j
theorem vE_s {v : Int} (hx : 0 ≤ x ∧ x < 7) (hy : 0 ≤ y ∧ y < 7) (hv : v = vI b x y) (h : vE b x y a) : vE b x (y + 1) (xU a 6 (7 * x + y) v) := by
  intro i j i0 i6 j0 j6 hc
  by_cases e : i = x ∧ j = y
  · obtain ⟨g1, g2⟩ := e
    rw [g1, g2, xUa]
    exact hv
  · rw [xUk (by omega)]
    exact h i j i0 i6 j0 j6 (by omega)
theorem vw10 (hx : 0 ≤ x ∧ x < 7) (hd : 1 ≤ d) (hQ : ∀ a2 v2 v3 v4, vJ a0 a2 → vE b x 7 a2 → pmWp ro d 5 58 0 2 [some (.ref 3), some (xV (x + 1)), v2, v3, v4] [] (xS a2 b) Q) : ∀ (u : Nat) (y : Int) (a : xA) (v3 v4 : Option Value), y + (u : Int) = 7 → 0 ≤ y → vJ a0 a → vE b x y a → pmWp ro d 5 58 0 10 [some (.ref 3), some (xV x), some (xV y), v3, v4] [] (xS a b) Q
  | 0, y, a, v3, v4, hu, y0, hJ, hH => wb58b (v3 := v3) (v4 := v4) hx ⟨y0, by omega⟩ hd (fun _ => hQ a _ _ _ hJ (by rw [show (7 : Int) = y by omega]; exact hH)) (fun e => absurd (by omega) e) (fun e => absurd (by omega) e) (fun e => absurd (by omega) e)
  | u + 1, y, a, v3, v4, hu, y0, hJ, hH => wb58b (v3 := v3) (v4 := v4) hx ⟨y0, by omega⟩ hd (fun e => absurd e (by omega))
      (fun _ e1 e2 => vw10 hx hd hQ u (y + 1) _ _ _ (by omega) (by omega) (vJ_u hJ (by decide)) (vE_s hx ⟨y0, by omega⟩ (by unfold vI; rw [if_neg e1, e2]; rfl) hH))
      (fun _ e1 e2 => vw10 hx hd hQ u (y + 1) _ _ _ (by omega) (by omega) (vJ_u hJ (by decide)) (vE_s hx ⟨y0, by omega⟩ (by unfold vI; rw [if_neg e1, e2]; rfl) hH))
      (fun _ e1 => vw10 hx hd hQ u (y + 1) _ _ _ (by omega) (by omega) (vJ_u hJ (by decide)) (vE_s hx ⟨y0, by omega⟩ (by unfold vI; rw [if_pos e1]) hH))
theorem vw2 (hd : 1 ≤ d) (hQ : ∀ a2 v2 v3 v4, vJ a0 a2 → vE b 7 0 a2 → pmWp ro d 5 58 0 65 [some (.ref 3), some (xV 0), v2, v3, v4] [] (xS a2 b) Q) : ∀ (u : Nat) (x : Int) (a : xA) (v2 v3 v4 : Option Value), x + (u : Int) = 7 → 0 ≤ x → vJ a0 a → vE b x 0 a → pmWp ro d 5 58 0 2 [some (.ref 3), some (xV x), v2, v3, v4] [] (xS a b) Q
  | 0, x, a, v2, v3, v4, hu, x0, hJ, hH => wb58a (v2 := v2) (v3 := v3) (v4 := v4) ⟨x0, by omega⟩ (fun _ => hQ a _ _ _ hJ (by rw [show (7 : Int) = x by omega]; exact hH)) (fun e => absurd (by omega) e)
  | u + 1, x, a, v2, v3, v4, hu, x0, hJ, hH => wb58a (v2 := v2) (v3 := v3) (v4 := v4) ⟨x0, by omega⟩ (fun e => absurd e (by omega)) (fun _ => vw10 ⟨x0, by omega⟩ hd (fun a2 _ _ _ hJ2 hH2 => vw2 hd hQ u (x + 1) a2 _ _ _ (by omega) (by omega) hJ2 (fun i j i0 i6 j0 j6 hc => hH2 i j i0 i6 j0 j6 (by omega))) 7 0 a _ _ (by decide) (by decide) hJ hH)
/-- measureWays -/
theorem u58 (hA : xAr a) (hW : ∀ k, 0 ≤ k → 0 ≤ a 6 k ∧ a 6 k ≤ 99) (hdr : ∀ k, 0 ≤ k → k < 49 → (xBit (b 3 3) k = true ↔ ¬ dr k = 0)) (hd : 2 ≤ d) (hQ : ∀ a', (∀ q j, q ≠ 6 → a' q j = a q j) → xAr a' → (∀ k, 0 ≤ k → 0 ≤ a' 6 k ∧ a' 6 k ≤ 99) → vM dr 7 (fun x y => a' 6 (7 * x + y)) → Q none (xS a' b)) : pmCs ro d 58 [.ref 3] (xS a b) Q := by
  refine pmCs_deep (d := 2) (xg58 (wb58 (vw2 (a0 := a) (by decide) (fun a2 v2 v3 v4 hJ hE => vw65 (fun a3 hJ3 hM => hQ a3 hJ3.1 hJ3.2.1 hJ3.2.2 hM) 7 0 a2 v2 v3 v4 (by decide) (by decide) hJ ?_) 7 0 a _ _ _ (by decide) (by decide) ⟨fun _ _ _ => rfl, hA, hW⟩ (fun i j i0 i6 j0 j6 hc => absurd hc (by omega))))) hd
  have e : ∀ i j, 0 ≤ i → i < 7 → 0 ≤ j → j < 7 → a2 6 (7 * i + j) = vI b i j := fun i j i0 i6 j0 j6 => hE i j i0 i6 j0 j6 (by omega)
  refine ⟨fun x y x0 x6 y0 y6 => ?_, fun x e' x0 x6 e0 e6 hn => ?_, fun x e' y x0 x6 e0 e6 y0 y6 he => absurd he (by omega)⟩
  · show (0 ≤ a2 6 (7 * x + y) ∧ a2 6 (7 * x + y) ≤ 99) ∧ (a2 6 (7 * x + y) = 0 ↔ x = y)
    rw [e x y x0 x6 y0 y6]
    unfold vI
    by_cases c : x = y
    · rw [if_pos c]
      exact ⟨by decide, fun _ => c, fun _ => rfl⟩
    · rw [if_neg c]
      cases xBit (b 3 3) (7 * x + y) with
      | true => exact ⟨by decide, fun g => absurd g (by decide), fun g => absurd g c⟩
      | false => exact ⟨by decide, fun g => absurd g (by decide), fun g => absurd g c⟩
  · show a2 6 (7 * x + e') ≤ 1
    rw [e x e' x0 x6 e0 e6]
    unfold vI
    by_cases c : x = e'
    · rw [if_pos c]
      decide
    · rw [if_neg c, (hdr (7 * x + e') (by omega) (by omega)).mpr hn]
      decide
end
end
