/-! believes, where, lies, count by rows -/
section
set_option maxRecDepth 100000


section
variable {ro : Nat → Nat × (Nat → Int32)} {d w : Nat} {Q : Option Value → pmS → Prop} {cnt sz : Int → Int} {n c x p g i v lw bg tl : Int} {r r' : Int → Int} {a a' a0 : xA} {b b' : xB}
/-- answers by the row -/
def uBl (n p g i : Int) (r : Int → Int) : Int := if 1 ≤ p ∧ p < 4 then (if g = 1 then (if 0 ≤ i ∧ i < 4 then (if i = p then r p else r (14 + 9 * (p - 1) + 5 + i)) else -1) else (if 0 ≤ i ∧ i < n then (if r (4 + i) = 10 + p then 10 + p else r (14 + 9 * (p - 1) + i)) else -1)) else -1
def uWe (p : Int) (r : Int → Int) : Int := if 0 ≤ p ∧ p < 4 then r p else -1
def uLie (n x : Int) (r : Int → Int) : Int := if 0 ≤ x ∧ x < n then r (4 + x) else -1
theorem uOu_1 (h : -1 ≤ v ∧ v ≤ 7) : uOu (v + 1) = v := by
  unfold uOu
  rw [if_neg (by omega), if_neg (by omega)]
  omega
theorem uOu_2 (h : 10 ≤ v ∧ v ≤ 13) : uOu (v - 1) = v := by
  unfold uOu
  rw [if_neg (by omega), if_pos (by omega)]
  omega
theorem uOu_t (h : (-1 ≤ v ∧ v ≤ 6) ∨ (10 ≤ v ∧ v ≤ 13)) : uOu (uTc v) = v := by
  unfold uTc
  rcases h with h | h
  · rw [if_pos (by omega)]
    exact uOu_1 (by omega)
  · rw [if_neg (by omega)]
    exact uOu_2 h
theorem uOu_w (hr : uRv n r) (x0 : 0 ≤ x) (xn : x < n) (h5 : n ≤ 5) : uOu (uWs n r (4 + x)) = r (4 + x) := by
  rcases uWs_x hr x0 (by omega) with ⟨_, h | h | h⟩ | h
  · rw [h.2.2]
    exact uOu_1 (by omega)
  · rw [h.2.2]
    exact uOu_2 (by omega)
  · rw [h.2, h.1]
    rfl
  · omega
/-- believes of the class -/
theorem u68 (q1 : xR p) (hg : g = 0 ∨ g = 1) (q2 : xR i) (hn : a 3 5 = n) (hn0 : 0 ≤ n ∧ n ≤ 5) (hr : uRv n r) (hT : uRt n 21 r b) (hM : uRm n 21 r b) (hd : 6 ≤ d) (hQ : Q (some (xV (uBl n p g i r))) (xS a b)) : pmCs ro d 68 [.ref 0, xV p, xV g, xV i] (xS a b) Q := by
  unfold uBl at hQ
  refine pmCs_deep (d := 6) (xg68 (w68 q1 hg q2 (by decide) (fun hp => ?_) (fun hp => ?_))) hd
  · rw [if_pos hp] at hQ
    obtain ⟨m1, m2, m3⟩ := hM p hp.1 (by omega)
    have no : Q (some (xV (-1))) (xS a b) → pmWp ro 5 11 68 1 13 [some (.ref 0), some (xV p), some (xV g), some (xV i), none, none, none] [xV 0] (xS a b) Q := fun h => w68a ⟨hp.1, by omega⟩ hg (fun e => absurd e (by decide)) (by decide) (by decide) (fun e => absurd rfl e) (fun e => absurd rfl e) (fun e => absurd rfl e) (fun e => absurd rfl e) (fun _ => h)
    refine pmCs_deep (d := 4) (xg27 (w27 hg q2 hn hn0 (by decide) (fun e1 e2 => no ?_) (fun e1 e2 e3 => no ?_) (fun e1 e2 e3 => ?_) (fun e1 e2 => ?_) (fun e1 e2 => no ?_))) (by decide)
    · rw [if_neg (by omega), if_neg (by omega)] at hQ
      exact hQ
    · rw [if_neg (by omega), if_neg (by omega)] at hQ
      exact hQ
    · rw [if_neg (by omega), if_pos (by omega)] at hQ
      have hwx := uWs_x hr (x := i) (by omega) (by omega)
      have e4 := hT.1 (4 + i) (by omega) (by omega)
      refine w68a ⟨hp.1, by omega⟩ hg (fun _ => by omega) (by decide) (by decide) (fun _ _ h => ?_) (fun _ _ h => ?_) (fun _ h => absurd e1 h) (fun _ h => absurd e1 h) (fun e => absurd e (by decide))
      · rw [if_neg (by omega)] at hQ
        rw [m3 i (by omega) (by omega), uOu_t (hr.2.2.2.1 p i hp.1 (by omega) (by omega) (by omega))]
        exact hQ
      · rw [if_pos (by omega)] at hQ
        rw [h, show 9 + p = 10 + p - 1 by omega, uOu_2 (by omega)]
        exact hQ
    · rw [if_pos (by omega), if_pos e2] at hQ
      refine w68a ⟨hp.1, by omega⟩ hg (fun _ => by omega) (by decide) (by decide) (fun _ h => absurd h e1) (fun _ h => absurd h e1) (fun _ _ h => ?_) (fun _ _ h => ?_) (fun e => absurd e (by decide))
      · rw [if_neg h] at hQ
        rw [m2 i e2.1 e2.2 h, uOu_1 (hr.2.2.2.2.1 p i hp.1 (by omega) e2.1 e2.2)]
        exact hQ
      · rw [if_pos h] at hQ
        have h7 := hr.1 p (by omega) (by omega)
        rw [h, hT.1 p (by omega) (by omega), uWs_p (by omega), uOu_1 (by omega)]
        exact hQ
    · rw [if_pos (by omega), if_neg e2] at hQ
      exact hQ
  · rw [if_neg hp] at hQ
    exact hQ
/-- where -/
theorem u132 (q1 : xR p) (hr : uRv n r) (hT : uRt n 21 r b) (hd : 4 ≤ d) (hQ : Q (some (xV (uWe p r))) (xS a b)) : pmCs ro d 132 [.ref 0, xV p] (xS a b) Q := by
  unfold uWe at hQ
  refine pmCs_deep (d := 4) (xg132 (w132 q1 (by decide) (fun hp => ?_) (fun hp => ?_))) hd
  · rw [if_pos hp] at hQ
    have h7 := hr.1 p hp.1 hp.2
    rw [hT.1 p hp.1 (by omega), uWs_p hp.2, uOu_1 (by omega)]
    exact hQ
  · rw [if_neg hp] at hQ
    exact hQ
/-- lies -/
theorem u133 (q1 : xR x) (hn : a 3 5 = n) (hn0 : 0 ≤ n ∧ n ≤ 5) (hr : uRv n r) (hT : uRt n 21 r b) (hd : 4 ≤ d) (hQ : Q (some (xV (uLie n x r))) (xS a b)) : pmCs ro d 133 [.ref 0, xV x] (xS a b) Q := by
  unfold uLie at hQ
  refine pmCs_deep (d := 4) (xg133 (w133 q1 hn hn0 (by decide) (fun h => ?_) (fun _ h => ?_) (fun h1 h2 => ?_))) hd
  · rw [if_neg (by omega)] at hQ
    exact hQ
  · rw [if_neg (by omega)] at hQ
    exact hQ
  · rw [if_pos (by omega)] at hQ
    rw [hT.1 (4 + x) (by omega) (by omega), uOu_w hr (by omega) (by omega) hn0.2]
    exact hQ
/-- count -/
def uCnt (n lw bg tl : Int) (cnt sz r : Int → Int) (v : Int) : Int := if v = 0 then r 114 else if v = 1 then bg else if v = 2 then n else if v = 3 then lw else if v = 4 then r 118 else if v = 5 then r 116 else if v = 6 then r 117 else if v = 7 then tl else if v = 8 then r 119 else if 11 ≤ v ∧ v ≤ 13 then cnt (v - 10) else if 20 ≤ v ∧ v ≤ 19 + n then (if r (4 + (v - 20)) = 20 then r (9 + (v - 20)) else -1) else if 30 ≤ v ∧ v ≤ 29 + lw then sz (v - 30) else -1
theorem xV_w {z : Int} : xV z = xV (z + 4294967296) := by
  unfold xV
  congr 1
  apply Int32.toBitVec_inj.mp
  show BitVec.ofInt 32 z = BitVec.ofInt 32 (z + 4294967296)
  rw [BitVec.ofInt_add, show BitVec.ofInt 32 4294967296 = 0#32 by decide, BitVec.add_zero]
theorem u134 (hA : xAr a) (q1 : xR v) (hn : a 3 5 = n) (hn0 : 0 ≤ n ∧ n ≤ 5) (hlw : a 13 7 = lw) (hlw0 : 0 ≤ lw ∧ lw ≤ 6) (hr : uRv n r) (hT : uRt n 21 r b) (hbg : a 0 12 = bg) (hbg0 : bg = 0 ∨ bg = 1) (htl : a 1 1 = tl) (hcn : ∀ f, 1 ≤ f → f ≤ 3 → a 12 f = cnt f) (hsz : ∀ i, 0 ≤ i → i < lw → a 20 i = sz i) (e6 : a 21 6 = r 114) (e8 : a 21 8 = r 116) (e9 : a 21 9 = r 117) (e10 : a 21 10 = r 118) (e11 : a 21 11 = r 119) (hd : 6 ≤ d) (hQ : Q (some (xV (uCnt n lw bg tl cnt sz r v))) (xS a b)) : pmCs ro d 134 [.ref 0, xV v] (xS a b) Q := by
  unfold uCnt at hQ
  refine pmCs_deep (d := 6) (xg134 (w134 hA q1 (by decide) ?_ ?_ ?_ ?_ ?_ ?_ ?_ ?_ ?_ ?_ ?_)) hd
  · intro h
    rw [if_pos h] at hQ
    rw [e6]
    exact hQ
  · intro h0 h h2
    rw [if_neg h0, if_pos h, show bg = 0 by omega] at hQ
    exact hQ
  · intro h0 h h2
    rw [if_neg h0, if_pos h, show bg = 1 by omega] at hQ
    exact hQ
  · intro h0 h1 h
    rw [if_neg h0, if_neg h1, if_pos h] at hQ
    rw [hn]
    exact hQ
  · intro h0 h1 h2 h
    rw [if_neg h0, if_neg h1, if_neg h2, if_pos h] at hQ
    rw [hlw]
    exact hQ
  · intro h0 h1 h2 h3 h
    rw [if_neg h0, if_neg h1, if_neg h2, if_neg h3, if_pos h] at hQ
    rw [e10]
    exact hQ
  · intro h0 h1 h2 h3 h4 h
    rw [if_neg h0, if_neg h1, if_neg h2, if_neg h3, if_neg h4, if_pos h] at hQ
    rw [e8]
    exact hQ
  · intro h0 h1 h2 h3 h4 h5 h
    rw [if_neg h0, if_neg h1, if_neg h2, if_neg h3, if_neg h4, if_neg h5, if_pos h] at hQ
    rw [e9]
    exact hQ
  · intro h0 h1 h2 h3 h4 h5 h6 h
    rw [if_neg h0, if_neg h1, if_neg h2, if_neg h3, if_neg h4, if_neg h5, if_neg h6, if_pos h] at hQ
    rw [htl]
    exact hQ
  · intro h0 h1 h2 h3 h4 h5 h6 h7 h
    rw [if_neg h0, if_neg h1, if_neg h2, if_neg h3, if_neg h4, if_neg h5, if_neg h6, if_neg h7, if_pos h] at hQ
    rw [e11]
    exact hQ
  · intro h0 h1 h2 h3 h4 h5 h6 h7 h8
    rw [if_neg h0, if_neg h1, if_neg h2, if_neg h3, if_neg h4, if_neg h5, if_neg h6, if_neg h7, if_neg h8] at hQ
    refine pmCs_deep (d := 5) (xg135 (w135 hA q1 hn hn0 hlw hlw0 (by decide) (fun h30 h20 => ?_) (fun h30 h20 e => w134a ?_) (fun h30 h20 e e2 => w134a ?_) (fun h30 h20 e e2 => w134a ?_) (fun h30 e => w134a ?_) (fun h30 e => w134a ?_))) (by decide)
    · have yes : (11 ≤ v ∧ v ≤ 13) → pmWp ro 4 11 135 1 111 [some (.ref 0), some (xV v), none] [xV 1] (xS a b) (fun r' s' => pmWp ro 5 11 134 1 134 [some (.ref 0), some (xV v)] (r'.toList ++ []) s' Q) := fun h => w135a (fun _ => h) (by decide) (fun e => absurd e (by decide)) (fun _ => w134a (by
        rw [if_pos h] at hQ
        rw [hcn (v - 10) (by omega) (by omega)]
        exact hQ))
      have no : ¬ (11 ≤ v ∧ v ≤ 13) → pmWp ro 4 11 135 1 111 [some (.ref 0), some (xV v), none] [xV 0] (xS a b) (fun r' s' => pmWp ro 5 11 134 1 134 [some (.ref 0), some (xV v)] (r'.toList ++ []) s' Q) := fun h => w135a (fun e => absurd e (by decide)) (by decide) (fun _ => w134a (by
        rw [if_neg h, if_neg (by omega), if_neg (by omega)] at hQ
        exact hQ)) (fun e => absurd rfl e)
      by_cases hv : -2147483638 ≤ v
      · exact xk26 (by decide) ⟨by omega, by have := q1.2; omega⟩ (fun h => yes (by omega)) (fun h => no (by omega))
      · rw [xV_w (z := v - 10)]
        have := q1.1
        exact xk26 (by decide) ⟨by omega, by omega⟩ (fun h => absurd h (by omega)) (fun h => no (by omega))
    · rw [if_neg (by omega), if_neg (by omega), if_neg (by omega)] at hQ
      exact hQ
    · rw [show 4 + v - 20 = 4 + (v - 20) by omega] at e2
      have hx := uWs_x hr (x := v - 20) (by omega) (by omega)
      rw [hT.1 (4 + (v - 20)) (by omega) (by omega)] at e2
      rw [if_neg (by omega), if_pos (by omega), if_neg (by omega)] at hQ
      exact hQ
    · rw [show 4 + v - 20 = 4 + (v - 20) by omega] at e2
      have hx := uWs_x hr (x := v - 20) (by omega) (by omega)
      rw [hT.1 (4 + (v - 20)) (by omega) (by omega)] at e2
      have h20 : r (4 + (v - 20)) = 20 := by omega
      rw [if_neg (by omega), if_pos (by omega), if_pos h20] at hQ
      rw [hT.2.2 (v - 20) (by omega) (by omega) h20]
      exact hQ
    · rw [if_neg (by omega), if_neg (by omega), if_neg (by omega)] at hQ
      exact hQ
    · rw [if_neg (by omega), if_neg (by omega), if_pos (by omega)] at hQ
      rw [hsz (v - 30) (by omega) (by omega)]
      exact hQ
/-- the same of the reference -/
theorem u182 (q1 : xR p) (hg : g = 0 ∨ g = 1) (q2 : xR i) (hA : xAr a) (hn : a 87 2 = n) (hn0 : 0 ≤ n ∧ n ≤ 5) (hd : 4 ≤ d) (hQ : Q (some (xV (uBl n p g i (a 88)))) (xS a b)) : pmCs ro d 182 [.ref 87, xV p, xV g, xV i] (xS a b) Q := by
  unfold uBl at hQ
  refine pmCs_deep (d := 4) (xg182 (w182 q1 hg q2 hA hn hn0 (by decide) ?_ ?_ ?_ ?_ ?_ ?_ ?_)) hd
  · intro h1 h2 h3 h4
    rw [if_pos h1, if_neg (by omega), if_pos h3, if_neg h4] at hQ
    exact hQ
  · intro h1 h2 h3 h4
    rw [if_pos h1, if_neg (by omega), if_pos h3, if_pos h4] at hQ
    exact hQ
  · intro h1 h2 h3
    rw [if_pos h1, if_neg (by omega), if_neg h3] at hQ
    exact hQ
  · intro h1 h2 h3 h4
    rw [if_pos h1, if_pos (by omega), if_pos h3, if_neg h4] at hQ
    exact hQ
  · intro h1 h2 h3 h4
    rw [if_pos h1, if_pos (by omega), if_pos h3, if_pos h4] at hQ
    rw [Int.zero_add]
    exact hQ
  · intro h1 h2 h3
    rw [if_pos h1, if_pos (by omega), if_neg h3] at hQ
    exact hQ
  · intro h1
    rw [if_neg h1] at hQ
    exact hQ
theorem u243 (q1 : xR p) (hd : 4 ≤ d) (hQ : Q (some (xV (uWe p (a 88)))) (xS a b)) : pmCs ro d 243 [.ref 87, xV p] (xS a b) Q := by
  unfold uWe at hQ
  refine pmCs_deep (d := 4) (xg243 (w243 q1 (by decide) (fun h => ?_) (fun h => ?_))) hd
  · rw [if_pos h] at hQ
    rw [Int.zero_add]
    exact hQ
  · rw [if_neg h] at hQ
    exact hQ
theorem u244 (q1 : xR x) (hA : xAr a) (hn : a 87 2 = n) (hn0 : 0 ≤ n ∧ n ≤ 5) (hd : 4 ≤ d) (hQ : Q (some (xV (uLie n x (a 88)))) (xS a b)) : pmCs ro d 244 [.ref 87, xV x] (xS a b) Q := by
  unfold uLie at hQ
  refine pmCs_deep (d := 4) (xg244 (w244 q1 hA hn hn0 (by decide) (fun h => ?_) (fun h => ?_))) hd
  · rw [if_pos h] at hQ
    exact hQ
  · rw [if_neg h] at hQ
    exact hQ
theorem u245 (q1 : xR v) (hA : xAr a) (hn : a 87 2 = n) (hn0 : 0 ≤ n ∧ n ≤ 5) (hlw : a 87 3 = lw) (hlw0 : 0 ≤ lw ∧ lw ≤ 6) (hbg : a 87 4 = bg) (hbg0 : bg = 0 ∨ bg = 1) (htl : a 87 9 = tl) (hcn : ∀ f, 1 ≤ f → f ≤ 3 → a 96 f = cnt f) (hsz : ∀ i, 0 ≤ i → i < lw → a 100 i = sz i) (hd : 4 ≤ d) (hQ : Q (some (xV (uCnt n lw bg tl cnt sz (a 88) v))) (xS a b)) : pmCs ro d 245 [.ref 87, xV v] (xS a b) Q := by
  unfold uCnt at hQ
  refine pmCs_deep (d := 4) (xg245 (w245 q1 (by omega) hlw hlw0 hA hn hn0 (by decide) ?_ ?_ ?_ ?_ ?_ ?_ ?_ ?_ ?_ ?_ ?_ ?_ ?_ ?_ ?_)) hd
  · intro h
    rw [if_pos h] at hQ
    exact hQ
  · intro h0 h h2
    rw [if_neg h0, if_pos h, show bg = 0 by omega] at hQ
    exact hQ
  · intro h0 h h2
    rw [if_neg h0, if_pos h, show bg = 1 by omega] at hQ
    exact hQ
  · intro h0 h1 h
    rw [if_neg h0, if_neg h1, if_pos h] at hQ
    exact hQ
  · intro h0 h1 h2 h
    rw [if_neg h0, if_neg h1, if_neg h2, if_pos h] at hQ
    exact hQ
  · intro h0 h1 h2 h3 h
    rw [if_neg h0, if_neg h1, if_neg h2, if_neg h3, if_pos h] at hQ
    exact hQ
  · intro h0 h1 h2 h3 h4 h
    rw [if_neg h0, if_neg h1, if_neg h2, if_neg h3, if_neg h4, if_pos h] at hQ
    exact hQ
  · intro h0 h1 h2 h3 h4 h5 h
    rw [if_neg h0, if_neg h1, if_neg h2, if_neg h3, if_neg h4, if_neg h5, if_pos h] at hQ
    exact hQ
  · intro h0 h1 h2 h3 h4 h5 h6 h
    rw [if_neg h0, if_neg h1, if_neg h2, if_neg h3, if_neg h4, if_neg h5, if_neg h6, if_pos h] at hQ
    rw [htl]
    exact hQ
  · intro h0 h1 h2 h3 h4 h5 h6 h7 h
    rw [if_neg h0, if_neg h1, if_neg h2, if_neg h3, if_neg h4, if_neg h5, if_neg h6, if_neg h7, if_pos h] at hQ
    exact hQ
  all_goals
    intro h0 h1 h2 h3 h4 h5 h6 h7 h8
    rw [if_neg h0, if_neg h1, if_neg h2, if_neg h3, if_neg h4, if_neg h5, if_neg h6, if_neg h7, if_neg h8] at hQ
  · intro h
    rw [if_pos h] at hQ
    rw [hcn (v - 10) (by omega) (by omega)]
    exact hQ
  · intro h h20 e
    rw [show 4 + v - 20 = 4 + (v - 20) by omega] at e
    rw [if_neg h, if_pos h20, if_neg e] at hQ
    exact hQ
  · intro h h20 e
    rw [show 4 + v - 20 = 4 + (v - 20) by omega] at e
    rw [if_neg h, if_pos h20, if_pos e] at hQ
    rw [show 9 + v - 20 = 9 + (v - 20) by omega]
    exact hQ
  · intro h h20 e
    rw [if_neg h, if_neg h20, if_pos e] at hQ
    rw [hsz (v - 30) (by omega) (by omega)]
    exact hQ
  · intro h h20 e
    rw [if_neg h, if_neg h20, if_neg e] at hQ
    exact hQ
end
end
