/-! ahead of the beginning: what is asked -/
section
set_option maxRecDepth 100000


section
variable {Ln : Nat} {xs : Nat → Int32} {d : Nat} {p k x y n t wh g i rm kk so sd tn : Int} {a a' : xA} {b b' : xB}
/-- believes -/
theorem vN68 (h : vPz a b) (q1 : xR p) (hg : g = 0 ∨ g = 1) (q2 : xR i) (hd : 6 ≤ d) : uBo Ln xs vPz d 68 182 [xV p, xV g, xV i] a b := by
  intro Q hQ
  have h0 := h
  obtain ⟨⟨⟨g1, g2⟩, hA, ⟨⟨k1, k2, k3, k4, k5⟩, k6, k7⟩, hp, ⟨hw1, hw2, hw3, hw4⟩, ⟨v1, v2, v3, v4, v5, v6, v7, v8, v9⟩, ⟨l1, l2, l3, l4⟩, T, hT⟩, z1, z2, z3⟩ := h
  exact u68 q1 hg q2 k3 k4 hw1 hw2 hw3 (by omega) (hQ _ _ _ (fun Q2 h2 => u182 q1 hg q2 hA rfl k4 (by omega) (h2 a b h0)))
/-- holds -/
theorem vN70 (h : vPz a b) (q1 : xR p) (q2 : xR k) (hd : 7 ≤ d) : uBo Ln xs vPz d 70 183 [xV p, xV k] a b := by
  intro Q hQ
  have h0 := h
  obtain ⟨⟨⟨g1, g2⟩, hA, ⟨⟨k1, k2, k3, k4, k5⟩, k6, k7⟩, hp, ⟨hw1, hw2, hw3, hw4⟩, ⟨v1, v2, v3, v4, v5, v6, v7, v8, v9⟩, ⟨l1, l2, l3, l4⟩, T, hT⟩, z1, z2, z3⟩ := h
  exact u70n q1 q2 hA g1 (by omega) (hQ _ _ _ (fun Q2 h2 => u183n q1 q2 hA g2 (by omega) (h2 a b h0)))
/-- plan -/
theorem vN76 (h : vPz a b) (q1 : xR p) (q2 : xR k) (hd : 7 ≤ d) : uBo Ln xs vPz d 76 189 [xV p, xV k, xV wh] a b := by
  intro Q hQ
  have h0 := h
  obtain ⟨⟨⟨g1, g2⟩, hA, ⟨⟨k1, k2, k3, k4, k5⟩, k6, k7⟩, hp, ⟨hw1, hw2, hw3, hw4⟩, ⟨v1, v2, v3, v4, v5, v6, v7, v8, v9⟩, ⟨l1, l2, l3, l4⟩, T, hT⟩, z1, z2, z3⟩ := h
  exact u76n q1 q2 hA g1 (by omega) (hQ _ _ _ (fun Q2 h2 => u189n q1 q2 hA g2 (by omega) (h2 a b h0)))
/-- wanted -/
theorem vN84 (h : vPz a b) (q1 : xR p) (hd : 7 ≤ d) : uBo Ln xs vPz d 84 197 [xV p] a b := by
  intro Q hQ
  have h0 := h
  obtain ⟨⟨⟨g1, g2⟩, hA, ⟨⟨k1, k2, k3, k4, k5⟩, k6, k7⟩, hp, ⟨hw1, hw2, hw3, hw4⟩, ⟨v1, v2, v3, v4, v5, v6, v7, v8, v9⟩, ⟨l1, l2, l3, l4⟩, T, hT⟩, z1, z2, z3⟩ := h
  exact u84n q1 hA g1 (by omega) (hQ _ _ _ (fun Q2 h2 => u197n q1 hA g2 (by omega) (h2 a b h0)))
/-- turn -/
theorem vN87 (h : vPz a b) (q0 : xR kk) (q1 : xR x) (q2 : xR y) (hd : 59 ≤ d) : uBo Ln xs vPz d 87 204 [xV kk, xV x, xV y] a b := by
  intro Q hQ
  have h0 := h
  obtain ⟨⟨⟨g1, g2⟩, hA, ⟨⟨k1, k2, k3, k4, k5⟩, k6, k7⟩, hp, ⟨hw1, hw2, hw3, hw4⟩, ⟨v1, v2, v3, v4, v5, v6, v7, v8, v9⟩, ⟨l1, l2, l3, l4⟩, T, hT⟩, z1, z2, z3⟩ := h
  exact pmCs_deep (d := 59) (xn87 q0 q1 q2 g1 hA (hQ _ _ _ (fun Q2 h2 => pmCs_deep (d := 59) (xn204 q0 q1 q2 g2 hA (h2 a b h0)) hd))) hd
/-- an act ahead of the beginning -/
theorem vN101 {ro : Nat → Nat × (Nat → Int32)} {Q : Option Value → pmS → Prop} {c : Int} (hA : xAr a) (hc : 0 ≤ c ∧ c ≤ 511) (hz : ∀ j, 6 ≤ j → j ≤ 12 → a 21 j = 0) (hd : 5 ≤ d) (hQ : Q (some (xV (-1))) (xS a b)) : pmCs ro d 101 [.ref 0, xV c] (xS a b) Q := by
  have e6 := hz 6 (by decide) (by decide)
  have e8 := hz 8 (by decide) (by decide)
  have e9 := hz 9 (by decide) (by decide)
  have e10 := hz 10 (by decide) (by decide)
  have e12 := hz 12 (by decide) (by decide)
  refine pmCs_deep (d := 5) (xg101 (w101 (pmCs_deep (d := 4) (xg102 (w102 uWo21.1 hc hA (by omega) (by omega) (by omega) (by omega) (by omega) (by decide) (fun _ => w101a (by decide) (fun e => absurd rfl e) (fun _ => hQ)) (fun e => absurd e6 e) (fun e => absurd e6 e) (fun e => absurd e6 e))) (by decide)))) hd
theorem vAn_b {c : Int} (h : 1 ≤ c ∧ c ≤ 56) : 0 ≤ uAn c ∧ uAn c ≤ 511 := by
  unfold uAn
  rw [if_neg (by omega)]
  split <;> omega
/-- settle -/
theorem vN100 (h : vPz a b) (q1 : xR x) (q2 : xR rm) (hd : 6 ≤ d) : uBo Ln xs vPz d 100 215 [xV x, xV rm] a b := by
  intro Q hQ
  have h0 := h
  obtain ⟨⟨⟨g1, g2⟩, hA, ⟨⟨k1, k2, k3, k4, k5⟩, k6, k7⟩, hp, ⟨hw1, hw2, hw3, hw4⟩, ⟨v1, v2, v3, v4, v5, v6, v7, v8, v9⟩, ⟨l1, l2, l3, l4⟩, T, hT⟩, z1, z2, z3⟩ := h
  have ref : ∀ Q2 : Option Value → pmS → Prop, (∀ a'' b'', vPz a'' b'' → Q2 (some (xV (-1))) (xS a'' b'')) → pmCs (pmRo Ln xs) d 215 [.ref 87, xV x, xV rm] (xS a b) Q2 := fun Q2 h2 =>
    pmCs_deep (d := 6) (xg215 (w215 q1 q2 rfl k4 (by decide) (fun _ _ => pmCs_deep (d := 5) (xg216 (w216 (by omega) (fun _ => w215a (h2 a b h0)) (fun e => absurd g2 e))) (by decide)) (fun _ _ => h2 a b h0) (fun _ => h2 a b h0))) hd
  refine pmCs_deep (d := 6) (xg100 (w100 q1 q2 (by decide) (fun _ => hQ _ _ _ ref) (fun _ _ => hQ _ _ _ ref) (fun e1 e2 hm => ?_) (fun _ _ _ => hQ _ _ _ ref))) hd
  rw [uAn_1 ⟨by omega, by omega⟩ hm]
  exact vN101 hA (vAn_b (by omega)) v2 (by decide) (w100a (hQ _ _ _ ref))
/-- shift -/
theorem vN106 (h : vPz a b) (q1 : xR p) (q2 : xR rm) (hd : 6 ≤ d) : uBo Ln xs vPz d 106 222 [xV p, xV rm] a b := by
  intro Q hQ
  have h0 := h
  obtain ⟨⟨⟨g1, g2⟩, hA, ⟨⟨k1, k2, k3, k4, k5⟩, k6, k7⟩, hp, ⟨hw1, hw2, hw3, hw4⟩, ⟨v1, v2, v3, v4, v5, v6, v7, v8, v9⟩, ⟨l1, l2, l3, l4⟩, T, hT⟩, z1, z2, z3⟩ := h
  have ref : ∀ Q2 : Option Value → pmS → Prop, (∀ a'' b'', vPz a'' b'' → Q2 (some (xV (-1))) (xS a'' b'')) → pmCs (pmRo Ln xs) d 222 [.ref 87, xV p, xV rm] (xS a b) Q2 := fun Q2 h2 =>
    pmCs_deep (d := 6) (xg222 (w222 q1 q2 (by decide) (fun _ _ => pmCs_deep (d := 5) (xg216 (w216 (by omega) (fun _ => w222a (h2 a b h0)) (fun e => absurd g2 e))) (by decide)) (fun _ _ => h2 a b h0) (fun _ => h2 a b h0))) hd
  refine pmCs_deep (d := 6) (xg106 (w106 q1 q2 (by decide) (fun hp hm => ?_) (fun _ _ => hQ _ _ _ ref) (fun _ => hQ _ _ _ ref))) hd
  rw [uAn_2 hp hm]
  exact vN101 hA (vAn_b (by omega)) v2 (by decide) (w106a (hQ _ _ _ ref))
/-- kept -/
theorem vN110 (h : vPz a b) (q0 : xR t) (hd : 59 ≤ d) : uBo Ln xs vPz d 110 223 [xV t] a b := by
  intro Q hQ
  have h0 := h
  obtain ⟨⟨⟨g1, g2⟩, hA, ⟨⟨k1, k2, k3, k4, k5⟩, k6, k7⟩, hp, ⟨hw1, hw2, hw3, hw4⟩, ⟨v1, v2, v3, v4, v5, v6, v7, v8, v9⟩, ⟨l1, l2, l3, l4⟩, T, hT⟩, z1, z2, z3⟩ := h
  exact pmCs_deep (d := 59) (xn110 q0 g1 hA (hQ _ _ _ (fun Q2 h2 => pmCs_deep (d := 59) (xn223 q0 g2 hA (h2 a b h0)) hd))) hd
/-- loses -/
theorem vN114 (h : vPz a b) (hd : 59 ≤ d) : uBo Ln xs vPz d 114 230 [] a b := by
  intro Q hQ
  have h0 := h
  obtain ⟨⟨⟨g1, g2⟩, hA, ⟨⟨k1, k2, k3, k4, k5⟩, k6, k7⟩, hp, ⟨hw1, hw2, hw3, hw4⟩, ⟨v1, v2, v3, v4, v5, v6, v7, v8, v9⟩, ⟨l1, l2, l3, l4⟩, T, hT⟩, z1, z2, z3⟩ := h
  exact pmCs_deep (d := 59) (xn114 g1 hA (hQ _ _ _ (fun Q2 h2 => pmCs_deep (d := 59) (xn230 g2 hA (h2 a b h0)) hd))) hd
/-- answer -/
theorem vN115 (h : vPz a b) (q0 : xR t) (q1 : xR wh) (hd : 59 ≤ d) : uBo Ln xs vPz d 115 231 [xV t, xV wh] a b := by
  intro Q hQ
  have h0 := h
  obtain ⟨⟨⟨g1, g2⟩, hA, ⟨⟨k1, k2, k3, k4, k5⟩, k6, k7⟩, hp, ⟨hw1, hw2, hw3, hw4⟩, ⟨v1, v2, v3, v4, v5, v6, v7, v8, v9⟩, ⟨l1, l2, l3, l4⟩, T, hT⟩, z1, z2, z3⟩ := h
  exact pmCs_deep (d := 59) (xn115 q0 q1 g1 hA (hQ _ _ _ (fun Q2 h2 => pmCs_deep (d := 59) (xn231 q0 q1 g2 hA (h2 a b h0)) hd))) hd
/-- otherwise -/
theorem vN116 (h : vPz a b) (q0 : xR t) (hd : 59 ≤ d) : uBo Ln xs vPz d 116 232 [xV t] a b := by
  intro Q hQ
  have h0 := h
  obtain ⟨⟨⟨g1, g2⟩, hA, ⟨⟨k1, k2, k3, k4, k5⟩, k6, k7⟩, hp, ⟨hw1, hw2, hw3, hw4⟩, ⟨v1, v2, v3, v4, v5, v6, v7, v8, v9⟩, ⟨l1, l2, l3, l4⟩, T, hT⟩, z1, z2, z3⟩ := h
  exact pmCs_deep (d := 59) (xn116 q0 g1 (v2 6 (by decide) (by decide)) hA (hQ _ _ _ (fun Q2 h2 => pmCs_deep (d := 59) (xn232 q0 g2 (v1 114 (by decide) (by decide)) hA (h2 a b h0)) hd))) hd
/-- needless -/
theorem vN119 (h : vPz a b) (q0 : xR p) (hd : 59 ≤ d) : uBo Ln xs vPz d 119 236 [xV p] a b := by
  intro Q hQ
  have h0 := h
  obtain ⟨⟨⟨g1, g2⟩, hA, ⟨⟨k1, k2, k3, k4, k5⟩, k6, k7⟩, hp, ⟨hw1, hw2, hw3, hw4⟩, ⟨v1, v2, v3, v4, v5, v6, v7, v8, v9⟩, ⟨l1, l2, l3, l4⟩, T, hT⟩, z1, z2, z3⟩ := h
  exact pmCs_deep (d := 59) (xn119 q0 g1 hA (hQ _ _ _ (fun Q2 h2 => pmCs_deep (d := 59) (xn236 q0 g2 hA (h2 a b h0)) hd))) hd
/-- made -/
theorem vN120 (h : vPz a b) (q0 : xR so) (q1 : xR sd) (q2 : xR tn) (q3 : xR wh) (hd : 59 ≤ d) : uBo Ln xs vPz d 120 237 [xV so, xV sd, xV tn, xV wh] a b := by
  intro Q hQ
  have h0 := h
  obtain ⟨⟨⟨g1, g2⟩, hA, ⟨⟨k1, k2, k3, k4, k5⟩, k6, k7⟩, hp, ⟨hw1, hw2, hw3, hw4⟩, ⟨v1, v2, v3, v4, v5, v6, v7, v8, v9⟩, ⟨l1, l2, l3, l4⟩, T, hT⟩, z1, z2, z3⟩ := h
  exact pmCs_deep (d := 59) (xn120 q0 q1 q2 q3 g1 hA (hQ _ _ _ (fun Q2 h2 => pmCs_deep (d := 59) (xn237 q0 q1 q2 q3 g2 hA (h2 a b h0)) hd))) hd
/-- surprise -/
theorem vN124 (h : vPz a b) (q1 : xR t) (hd : 5 ≤ d) : uBo Ln xs vPz d 124 239 [xV t] a b := by
  intro Q hQ
  have h0 := h
  obtain ⟨⟨⟨g1, g2⟩, hA, ⟨⟨k1, k2, k3, k4, k5⟩, k6, k7⟩, hp, ⟨hw1, hw2, hw3, hw4⟩, ⟨v1, v2, v3, v4, v5, v6, v7, v8, v9⟩, ⟨l1, l2, l3, l4⟩, T, hT⟩, z1, z2, z3⟩ := h
  have e88 := v1 114 (by decide) (by decide)
  refine u124 (L := 0) (D := a 124) (C := a 120) (AC := a 123) q1 hA ⟨v8, fun t p h1 h2 => absurd h1 (by omega), fun t h1 h2 => absurd h1 (by omega)⟩ (by decide) (v2 6 (by decide) (by decide)) (fun p i j _ _ h1 h2 h3 => absurd h1 (by omega)) (by omega) (hQ _ _ _ (fun Q2 h2 => ?_))
  refine u239 (L := 0) (D := a 124) (C := a 120) (AC := a 123) q1 hA ⟨fun t p h1 h2 => absurd h1 (by omega), fun t h1 h2 => absurd h1 (by omega)⟩ (fun t p h1 h2 => absurd h1 (by omega)) (by decide) e88 (by omega) (fun a' f A' => h2 a' b ⟨vPre_f h0.1 A' (fun q j h1 h2 h3 h4 h5 h6 h7 => f q j h7) (vPl_o ⟨l1, l2, l3, l4⟩ (fun q j hq => f q j (by omega))) ⟨T, vPg_o hT (fun q j hq => f q j (by omega))⟩, ?_⟩)
  unfold vT
  rw [f 1 1 (by decide), f 87 9 (by decide)]
  exact ⟨z1, z2, fun j j0 j1 => by rw [f 2 j (by decide), f 93 j (by decide)]; exact z3 j j0 j1⟩
/-- did -/
theorem vN127 (h : vPz a b) (q1 : xR t) (q2 : xR p) (q3 : xR k) (hd : 4 ≤ d) : uBo Ln xs vPz d 127 240 [xV t, xV p, xV k] a b := by
  intro Q hQ
  have h0 := h
  obtain ⟨⟨⟨g1, g2⟩, hA, ⟨⟨k1, k2, k3, k4, k5⟩, k6, k7⟩, hp, ⟨hw1, hw2, hw3, hw4⟩, ⟨v1, v2, v3, v4, v5, v6, v7, v8, v9⟩, ⟨l1, l2, l3, l4⟩, T, hT⟩, z1, z2, z3⟩ := h
  exact u127 (tn := 0) (dn := 0) (cd := 0) (sw := 0) (ws := 0) q1 q2 q3 (v2 6 (by decide) (by decide)) (by decide) (fun h1 h2 => absurd h1 (by omega)) (by omega) (hQ _ _ _ (fun Q2 h2 => u240 (tn := 0) (dn := 0) (cd := 0) (sw := 0) (ws := 0) q1 q2 q3 hA (v1 114 (by decide) (by decide)) (by decide) (fun h1 h2 => absurd h1 (by omega)) (by omega) (h2 a b h0)))
/-- check -/
theorem vN129 (h : vPz a b) (q1 : xR t) (q2 : xR n) (hd : 59 ≤ d) : uBo Ln xs vPz d 129 241 [xV t, xV n] a b := by
  intro Q hQ
  have h0 := h
  obtain ⟨⟨⟨g1, g2⟩, hA, ⟨⟨k1, k2, k3, k4, k5⟩, k6, k7⟩, hp, ⟨hw1, hw2, hw3, hw4⟩, ⟨v1, v2, v3, v4, v5, v6, v7, v8, v9⟩, ⟨l1, l2, l3, l4⟩, T, hT⟩, z1, z2, z3⟩ := h
  exact pmCs_deep (d := 59) (xn129 q1 q2 (v2 6 (by decide) (by decide)) hA (hQ _ _ _ (fun Q2 h2 => pmCs_deep (d := 59) (xn241 q1 q2 (v1 114 (by decide) (by decide)) hA (h2 a b h0)) hd))) hd
/-- where -/
theorem vN132 (h : vPz a b) (q1 : xR p) (hd : 4 ≤ d) : uBo Ln xs vPz d 132 243 [xV p] a b := by
  intro Q hQ
  have h0 := h
  obtain ⟨⟨⟨g1, g2⟩, hA, ⟨⟨k1, k2, k3, k4, k5⟩, k6, k7⟩, hp, ⟨hw1, hw2, hw3, hw4⟩, ⟨v1, v2, v3, v4, v5, v6, v7, v8, v9⟩, ⟨l1, l2, l3, l4⟩, T, hT⟩, z1, z2, z3⟩ := h
  exact u132 q1 hw1 hw2 (by omega) (hQ _ _ _ (fun Q2 h2 => u243 q1 (by omega) (h2 a b h0)))
/-- lies -/
theorem vN133 (h : vPz a b) (q1 : xR x) (hd : 4 ≤ d) : uBo Ln xs vPz d 133 244 [xV x] a b := by
  intro Q hQ
  have h0 := h
  obtain ⟨⟨⟨g1, g2⟩, hA, ⟨⟨k1, k2, k3, k4, k5⟩, k6, k7⟩, hp, ⟨hw1, hw2, hw3, hw4⟩, ⟨v1, v2, v3, v4, v5, v6, v7, v8, v9⟩, ⟨l1, l2, l3, l4⟩, T, hT⟩, z1, z2, z3⟩ := h
  exact u133 q1 k3 k4 hw1 hw2 (by omega) (hQ _ _ _ (fun Q2 h2 => u244 q1 hA rfl k4 (by omega) (h2 a b h0)))
/-- count -/
theorem vN134 (h : vPz a b) (hm0 : 0 ≤ a 13 7 ∧ a 13 7 ≤ 6) (q1 : xR k) (hd : 6 ≤ d) : uBo Ln xs vPz d 134 245 [xV k] a b := by
  intro Q hQ
  have h0 := h
  obtain ⟨⟨⟨g1, g2⟩, hA, ⟨⟨k1, k2, k3, k4, k5⟩, k6, k7⟩, hp, ⟨hw1, hw2, hw3, hw4⟩, ⟨v1, v2, v3, v4, v5, v6, v7, v8, v9⟩, ⟨l1, l2, l3, l4⟩, T, hT⟩, z1, z2, z3⟩ := h
  refine u134 (cnt := a 96) (sz := a 20) hA q1 k3 k4 rfl hm0 hw1 hw2 g1 (Or.inl rfl) rfl (fun f f0 f1 => (hT.1 f f0 f1).1) (fun _ _ _ => rfl) ((v2 6 (by decide) (by decide)).trans (v1 114 (by decide) (by decide)).symm) ((v2 8 (by decide) (by decide)).trans (v1 116 (by decide) (by decide)).symm) ((v2 9 (by decide) (by decide)).trans (v1 117 (by decide) (by decide)).symm) ((v2 10 (by decide) (by decide)).trans (v1 118 (by decide) (by decide)).symm) ((v2 11 (by decide) (by decide)).trans (v1 119 (by decide) (by decide)).symm) (by omega) (hQ _ _ _ (fun Q2 h2 => ?_))
  exact u245 (cnt := a 96) (sz := a 20) q1 hA rfl k4 l3.symm hm0 g2 (Or.inl rfl) z1.symm (fun f f0 f1 => rfl) (fun i i0 i1 => (l4 i i0 i1).symm) (by omega) (h2 a b h0)
end
end
