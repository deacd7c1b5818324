/-! otherwise and needless of the class -/
section
set_option maxRecDepth 100000


section
variable {Ln : Nat} {xs : Nat → Int32} {d w : Nat} {Q : Option Value → pmS → Prop} {dr wp co pr cnt W : Int → Int} {T : Int → List Int} {n m t wh k x c cd wt wi p id M L sw ws dn z tt bg : Int} {r r' R : Int → Int} {D C AC : Int → Int} {a a' a'' a0 : xA} {b b' b'' b0 : xB}
/-- all but the one who is without -/
def uMq (p : Int) : Int := if p = 1 then 13 else if p = 2 then 11 else 7
theorem uMq_b : 0 ≤ uMq p ∧ uMq p ≤ 15 := by
  unfold uMq
  split
  · decide
  · split <;> decide
theorem uMq_e (hp : 1 ≤ p ∧ p ≤ 3) : xAnd 15 (xXor (1 * ((2 ^ p.toNat : Nat) : Int)) (-1)) = uMq p := by
  have h : p = 1 ∨ p = 2 ∨ p = 3 := by omega
  rcases h with h | h | h <;> subst h <;> decide
theorem uMq_q (hp : 1 ≤ p ∧ p ≤ 3) : ∀ q : Nat, q < 4 → (uMq p / ((2 ^ q : Nat) : Int) % 2 = 0 ↔ (q : Int) = p) := by
  intro q hq
  have h : p = 1 ∨ p = 2 ∨ p = 3 := by omega
  have g : q = 0 ∨ q = 1 ∨ q = 2 ∨ q = 3 := by omega
  rcases h with h | h | h <;> rcases g with g | g | g | g <;> subst h <;> subst g <;> decide
/-- otherwise of the class -/
theorem u116 (qr1 : xR t) (hK : uRk pr cnt W T) (hn0 : 0 ≤ n ∧ n ≤ 5) (hC : uCb dr wp co pr cnt W T n a0 a b) (hX : uCx n 80 R a b) (hB : uBqr 0 R) (hR : uRec L D C AC a) (hL : 0 ≤ L ∧ L ≤ 60) (h21 : a 21 6 = L) (hd : 13 ≤ d) (hN : ¬ (1 ≤ t ∧ t ≤ L) → Q (some (xV (-1))) (xS a b)) (hQ : 1 ≤ t ∧ t ≤ L → ∀ a' b', uTgw 26 a a' b b' → uCb dr wp co pr cnt W T n a0 a' b' → Q (some (xV (uOnn dr wp pr cnt W T n D C AC t (-1) 14 R L.toNat))) (xS a' b')) : pmCs (pmRo Ln xs) d 116 [.ref 0, xV t] (xS a b) Q := by
  refine pmCs_deep (d := 13) (xg116 (wa116 qr1 (by omega) (fun h => hN (by omega)) (fun h1 h2 => ?_) (fun _ h => hN (by omega)))) hd
  have ht : 1 ≤ t ∧ t ≤ L := by omega
  exact u117 hK hn0 uWo26 (by decide) hC hX hB hR hL qr1 (by decide) (fun p p1 p3 => ⟨fun h => by omega, fun h => by omega⟩) (by decide) (by decide) (fun a' b' f C' => wa116a (hQ ht a' b' f C'))
/-- needless of the class -/
theorem u119 (qr1 : xR p) (hK : uRk pr cnt W T) (hn0 : 0 ≤ n ∧ n ≤ 5) (hC : uCb dr wp co pr cnt W T n a0 a b) (hX : uCx n 80 R a b) (hB : uBqr 0 R) (hR : uRec L D C AC a) (hL : 0 ≤ L ∧ L ≤ 60) (hb : a 0 12 = bg) (hbg : bg = 0 ∨ bg = 1) (hd : 13 ≤ d) (hN : bg = 0 ∨ ¬ (1 ≤ p ∧ p ≤ 3) → Q (some (xV (-1))) (xS a b)) (hQ : ¬ bg = 0 → 1 ≤ p ∧ p ≤ 3 → ∀ a' b', uTgw 26 a a' b b' → uCb dr wp co pr cnt W T n a0 a' b' → Q (some (xV (if uOnn dr wp pr cnt W T n D C AC (-1) p (uMq p) R L.toNat = 0 then 1 else 0))) (xS a' b')) : pmCs (pmRo Ln xs) d 119 [.ref 0, xV p] (xS a b) Q := by
  refine pmCs_deep (d := 13) (xg119 (wa119 qr1 hb hbg (by decide) (fun h => hN (Or.inl h)) (fun h1 h2 => ?_) (fun _ h => hN (Or.inr (by omega))))) hd
  have hp : 1 ≤ p ∧ p ≤ 3 := by omega
  rw [uMq_e hp]
  refine u117 hK hn0 uWo26 (by decide) hC hX hB hR hL (wi := 0) (wt := p) ⟨by decide, by decide⟩ ⟨by omega, hp.2⟩ (fun _ _ _ => Iff.rfl) uMq_b (by decide) (fun a' b' f C' => ?_)
  have e := uOnn_w (dr := dr) (wp := wp) (pr := pr) (cnt := cnt) (W := W) (T := T) (n := n) (D := D) (C := C) (AC := AC) (wi := 0) (wt := p) (M := uMq p) (R := R) (k := -1) (by decide) (by decide) L.toNat
  rw [e]
  have hb := uOnn_b (dr := dr) (wp := wp) (pr := pr) (cnt := cnt) (W := W) (T := T) (n := n) (D := D) (C := C) (AC := AC) (wi := -1) (wt := p) (M := uMq p) (R := R) L.toNat
  have g := hQ h1 hp a' b' f C'
  refine wa119a (by omega) (fun h => ?_) (fun h => ?_)
  · rw [if_neg h] at g
    exact g
  · rw [if_pos h] at g
    exact g
end
end
