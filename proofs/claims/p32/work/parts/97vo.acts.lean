/-! settle, shift by rows -/
section
set_option maxRecDepth 100000


section
variable {ro : Nat → Nat × (Nat → Int32)} {d w : Nat} {Q : Option Value → pmS → Prop} {dr wp co pr cnt W : Int → Int} {T : Int → List Int} {n c x rm p : Int} {r r' : Int → Int} {a a' a0 : xA} {b b' : xB}
theorem uAx_114 (hn0 : 0 ≤ n ∧ n ≤ 5) (hr : uRv n r) (hc : 0 ≤ c ∧ c ≤ 56) : uAx n c r 114 = r 114 := by
  unfold uAx
  by_cases c0 : c = 0
  · rw [if_pos c0]
  · rw [if_neg c0, uAl_hi hn0.2 (uRv_x hn0 hr ⟨by omega, hc.2⟩) (by decide), uAa_hi ⟨by omega, hc.2⟩ (by decide)]
    rfl
/-- what stands behind an act of the class's -/
def uPu (dr : Int → Int) (n c : Int) (r : Int → Int) (a a' : xA) (b b' : xB) : Prop := (∀ q j, ¬ q = 25 → ¬ (q = 21 ∧ (j = 8 ∨ j = 9 ∨ j = 10 ∨ j = 12)) → ¬ (q = 86 ∧ j = r 114) → a' q j = a q j) ∧ (∀ q j, ¬ (q = 21 ∧ (j = 4 ∨ j = 5)) → ¬ (q = 22 ∧ 1 ≤ j ∧ j ≤ 3) → b' q j = b q j) ∧ xAr a' ∧ uCx n 21 (uAx n c r) a' b' ∧ a' 86 (r 114) = uAn c ∧ ∀ j, 0 ≤ j → j < 3 → a' 25 j = 0
/-- push -/
theorem u101 (hA : xAr a) (hn0 : 0 ≤ n ∧ n ≤ 5) (hKs : uKs dr wp n a b) (hX : uCx n 21 r a b) (hB : uBd r) (ht : r 114 ≤ 60) (hc : 1 ≤ c ∧ c ≤ 56) (hd : 5 ≤ d) (hT : uAc dr n c r → ∀ a' b', uPu dr n c r a a' b b' → Q (some (xV (uPr c r))) (xS a' b')) (hF : ¬ uAc dr n c r → Q (some (xV (-1))) (xS a b)) : pmCs ro d 101 [.ref 0, xV (uAn c)] (xS a b) Q := by
  refine pmCs_deep (d := 5) (xg101 (w101 ?_)) hd
  refine u102 uWo21.1 hA hKs hX hB hc (by decide) (fun h => w101a (by decide) (fun _ => ?_) (fun e => absurd e (by decide))) (fun h => w101a (by decide) (fun e => absurd rfl e) (fun _ => hF h))
  refine u103 uWo21.1 hA hX hB (by omega) (by decide) (w101b ?_)
  have h1 : ¬ r 114 = 0 ∧ r 115 = 0 ∧ uAo dr n c r := h.elim (fun e => by omega) id
  refine u104 uWo21.1 hA hn0 hX hB hc h1.2.2 (by decide) (fun a1 b1 f1 A1 X1 z1 => w101c ?_)
  have e6 : a1 21 6 = r 114 := by rw [X1.2.1, uAx_114 hn0 hX.1.1 (by omega)]
  rw [e6]
  have hlo : 1 ≤ r 114 := by
    have := hB.1
    omega
  refine pmCs_deep (d := 1) (xg105 (w105 ⟨hlo, ht⟩ (fun e => by omega) (fun _ e => by omega) (fun _ _ => w101d (hT h _ b1 ⟨fun q j e1 e2 e3 => ?_, f1.2, xAr_u A1 ?_, ?_, xUa, fun j j0 j1 => ?_⟩)))) (by decide)
  · rw [xUo e3]
    exact f1.1 q j e1 e2
  · by_cases cs : c < 36
    · have := (uAn_s ⟨hc.1, cs⟩).1
      exact ⟨by omega, by omega⟩
    · have := (uAn_h ⟨by omega, hc.2⟩).1
      exact ⟨by omega, by omega⟩
  · obtain ⟨k1, k2, k3, k4, k5, k6⟩ := X1
    exact ⟨uCw_o k1 (fun j => xUn (by decide)) (xUn (by decide)) rfl rfl (fun _ _ _ => rfl), (xUn (by decide)).trans k2, (xUn (by decide)).trans k3, (xUn (by decide)).trans k4, (xUn (by decide)).trans k5, (xUn (by decide)).trans k6⟩
  · rw [xUn (by decide)]
    exact z1 j j0 j1
theorem uAn_1 (hx : 0 ≤ x ∧ x < 5) (hm : 0 ≤ rm ∧ rm < 7) : xOr (xOr 64 (x * 8)) rm = uAn (1 + 7 * x + rm) := by
  have e6 : ((2 ^ 6 : Nat) : Int) = 64 := rfl
  have e3 : ((2 ^ 3 : Nat) : Int) = 8 := rfl
  have o1 := xOr_dj 6 (by decide) (m := 1) (y := x * 8) (by decide) (by rw [e6]; omega)
  have o2 := xOr_dj 3 (by decide) (m := 8 + x) (y := rm) (by omega) (by rw [e3]; omega)
  rw [e6] at o1
  rw [e3] at o2
  rw [show (64 : Int) * 1 = 64 from rfl] at o1
  rw [o1, show 64 + x * 8 = 8 * (8 + x) by omega, o2]
  unfold uAn
  rw [if_neg (by omega), if_pos (by omega)]
  omega
theorem uAn_2 (hp : 1 ≤ p ∧ p < 4) (hm : 0 ≤ rm ∧ rm < 7) : xOr (xOr 128 (p * 8)) rm = uAn (36 + 7 * (p - 1) + rm) := by
  have e6 : ((2 ^ 6 : Nat) : Int) = 64 := rfl
  have e3 : ((2 ^ 3 : Nat) : Int) = 8 := rfl
  have o1 := xOr_dj 6 (by decide) (m := 2) (y := p * 8) (by decide) (by rw [e6]; omega)
  have o2 := xOr_dj 3 (by decide) (m := 16 + p) (y := rm) (by omega) (by rw [e3]; omega)
  rw [e6] at o1
  rw [e3] at o2
  rw [show (64 : Int) * 2 = 128 from rfl] at o1
  rw [o1, show 128 + p * 8 = 8 * (16 + p) by omega, o2]
  unfold uAn
  rw [if_neg (by omega), if_neg (by omega)]
  omega
/-- settle of the class -/
theorem u100 (q1 : xR x) (q2 : xR rm) (hA : xAr a) (hn0 : 0 ≤ n ∧ n ≤ 5) (hKs : uKs dr wp n a b) (hX : uCx n 21 r a b) (hB : uBd r) (ht : r 114 ≤ 60) (hd : 6 ≤ d) (hT : (0 ≤ x ∧ x < n) → (0 ≤ rm ∧ rm < 7) → uAc dr n (1 + 7 * x + rm) r → ∀ a' b', uPu dr n (1 + 7 * x + rm) r a a' b b' → Q (some (xV (uPr (1 + 7 * x + rm) r))) (xS a' b')) (hF : ¬ ((0 ≤ x ∧ x < n) ∧ (0 ≤ rm ∧ rm < 7) ∧ uAc dr n (1 + 7 * x + rm) r) → Q (some (xV (-1))) (xS a b)) : pmCs ro d 100 [.ref 0, xV x, xV rm] (xS a b) Q := by
  refine pmCs_deep (d := 6) (xg100 (w100 q1 q2 (by decide) (fun e => hF (fun h => by omega)) (fun _ e => hF (fun h => by omega)) (fun e1 e2 hm => ?_) (fun _ _ e => hF (fun h => e h.2.1)))) hd
  rw [uAn_1 ⟨by omega, by omega⟩ hm]
  refine u101 hA hn0 hKs hX hB ht (by omega) (by decide) (fun h a' b' hp => w100a (hT ?_ hm h a' b' hp)) (fun h => w100a (hF (fun g => h g.2.2)))
  have h1 : uAo dr n (1 + 7 * x + rm) r := h.elim (fun e => by omega) (fun e => e.2.2)
  rw [uAo_s (by omega), show (1 + 7 * x + rm - 1) / 7 = x by omega] at h1
  exact ⟨by omega, h1.1.1⟩
/-- shift of the class -/
theorem u106 (q1 : xR p) (q2 : xR rm) (hA : xAr a) (hn0 : 0 ≤ n ∧ n ≤ 5) (hKs : uKs dr wp n a b) (hX : uCx n 21 r a b) (hB : uBd r) (ht : r 114 ≤ 60) (hd : 6 ≤ d) (hT : (1 ≤ p ∧ p < 4) → (0 ≤ rm ∧ rm < 7) → uAc dr n (36 + 7 * (p - 1) + rm) r → ∀ a' b', uPu dr n (36 + 7 * (p - 1) + rm) r a a' b b' → Q (some (xV (uPr (36 + 7 * (p - 1) + rm) r))) (xS a' b')) (hF : ¬ ((1 ≤ p ∧ p < 4) ∧ (0 ≤ rm ∧ rm < 7) ∧ uAc dr n (36 + 7 * (p - 1) + rm) r) → Q (some (xV (-1))) (xS a b)) : pmCs ro d 106 [.ref 0, xV p, xV rm] (xS a b) Q := by
  refine pmCs_deep (d := 6) (xg106 (w106 q1 q2 (by decide) (fun hp hm => ?_) (fun _ e => hF (fun h => e h.2.1)) (fun e => hF (fun h => e h.1)))) hd
  rw [uAn_2 hp hm]
  exact u101 hA hn0 hKs hX hB ht (by omega) (by decide) (fun h a' b' hp' => w106a (hT hp hm h a' b' hp')) (fun h => w106a (hF (fun g => h g.2.2)))
/-- what stands behind an act of the reference -/
def uRa (n c : Int) (a a' : xA) : Prop := (∀ q j, q ≠ 88 → ¬ (q = 123 ∧ j = a 88 114) → a' q j = a q j) ∧ xAr a' ∧ a' 88 = uAx n c (a 88) ∧ a' 123 (a 88 114) = c
/-- actsNow -/
theorem u216 (hB : uRb dr wp pr cnt W T n a) (hr : uRv n (a 88)) (hbg : a 87 4 = 1) (hb : uBd (a 88)) (ht : a 88 114 ≤ 60) (hc : 1 ≤ c ∧ c ≤ 56) (hd : 5 ≤ d) (hT : uAc dr n c (a 88) → ∀ a', uRa n c a a' → Q (some (xV (uPr c (a 88)))) (xS a' b)) (hF : ¬ uAc dr n c (a 88) → Q (some (xV (-1))) (xS a b)) : pmCs ro d 216 [.ref 87, xV c] (xS a b) Q := by
  obtain ⟨b1, b2, b3, b4, b5, b6⟩ := hb
  have hA := hB.1
  have hn := hB.2.1.2.1
  have hn0 : 0 ≤ n ∧ n ≤ 5 := hB.2.1.2.2.1
  refine pmCs_deep (d := 5) (xg216 (w216 (by omega) (fun e => by omega) (fun _ => ?_))) hd
  refine u217 hA hn hn0 hB.2.2.1 hr (by omega) b2 (by omega) (by decide) (fun h => w216a (by decide) (by omega) (by decide) (fun _ => ?_) (fun e => absurd e (by decide))) (fun h => w216a (by decide) (by omega) (by decide) (fun e => absurd rfl e) (fun _ => hF h))
  refine u221 hA hn hn0 hr (by omega) (by omega) (by omega) (by omega) (by decide) (fun a1 x1 A1 R1 => ?_)
  have e114 : a1 88 114 = a 88 114 := by rw [R1, uAx_114 hn0 hr (by omega)]
  refine w216b e114 (by omega) (hT h _ ⟨fun q j e1 e2 => ?_, xAr_u A1 ⟨by omega, by omega⟩, ?_, xUa⟩)
  · rw [xUo e2]
    exact x1 q j e1
  · rw [← R1]
    exact funext fun j => xUn (by decide)
/-- settle of the reference -/
theorem u215 (q1 : xR x) (q2 : xR rm) (hB : uRb dr wp pr cnt W T n a) (hr : uRv n (a 88)) (hbg : a 87 4 = 1) (hb : uBd (a 88)) (ht : a 88 114 ≤ 60) (hd : 6 ≤ d) (hT : (0 ≤ x ∧ x < n) → (0 ≤ rm ∧ rm < 7) → uAc dr n (1 + 7 * x + rm) (a 88) → ∀ a', uRa n (1 + 7 * x + rm) a a' → Q (some (xV (uPr (1 + 7 * x + rm) (a 88)))) (xS a' b)) (hF : ¬ ((0 ≤ x ∧ x < n) ∧ (0 ≤ rm ∧ rm < 7) ∧ uAc dr n (1 + 7 * x + rm) (a 88)) → Q (some (xV (-1))) (xS a b)) : pmCs ro d 215 [.ref 87, xV x, xV rm] (xS a b) Q := by
  have hn0 : 0 ≤ n ∧ n ≤ 5 := hB.2.1.2.2.1
  refine pmCs_deep (d := 6) (xg215 (w215 q1 q2 hB.2.1.2.1 hn0 (by decide) (fun hx hm => ?_) (fun _ e => hF (fun h => e h.2.1)) (fun e => hF (fun h => e h.1)))) hd
  exact u216 hB hr hbg hb ht (by omega) (by decide) (fun h a' hp => w215a (hT hx hm h a' hp)) (fun h => w215a (hF (fun g => h g.2.2)))
/-- shift of the reference -/
theorem u222 (q1 : xR p) (q2 : xR rm) (hB : uRb dr wp pr cnt W T n a) (hr : uRv n (a 88)) (hbg : a 87 4 = 1) (hb : uBd (a 88)) (ht : a 88 114 ≤ 60) (hd : 6 ≤ d) (hT : (1 ≤ p ∧ p < 4) → (0 ≤ rm ∧ rm < 7) → uAc dr n (36 + 7 * (p - 1) + rm) (a 88) → ∀ a', uRa n (36 + 7 * (p - 1) + rm) a a' → Q (some (xV (uPr (36 + 7 * (p - 1) + rm) (a 88)))) (xS a' b)) (hF : ¬ ((1 ≤ p ∧ p < 4) ∧ (0 ≤ rm ∧ rm < 7) ∧ uAc dr n (36 + 7 * (p - 1) + rm) (a 88)) → Q (some (xV (-1))) (xS a b)) : pmCs ro d 222 [.ref 87, xV p, xV rm] (xS a b) Q := by
  refine pmCs_deep (d := 6) (xg222 (w222 q1 q2 (by decide) (fun hp hm => ?_) (fun _ e => hF (fun h => e h.2.1)) (fun e => hF (fun h => e h.1)))) hd
  exact u216 hB hr hbg hb ht (by omega) (by decide) (fun h a' hp' => w222a (hT hp hm h a' hp')) (fun h => w222a (hF (fun g => h g.2.2)))
end
end
