/-! ahead of the beginning: all, and what is put in -/
section
set_option maxRecDepth 100000


section
variable {Ln : Nat} {xs : Nat → Int32} {d : Nat} {n p q x y v f i j k m g : Int} {r r' : Int → Int} {a a' : xA} {b b' : xB} {l : Int64} {T : Int → List Int}
theorem vWn_d : ∀ n : Fin 5, ∀ w : Fin 32, ∀ i : Fin 5, (w.val : Int) < ((2 ^ n.val : Nat) : Int) → ((w.val : Int) + ((2 ^ n.val : Nat) : Int) < ((2 ^ (n.val + 1) : Nat) : Int) ∧ (w.val : Int) < ((2 ^ (n.val + 1) : Nat) : Int)) ∧ uBi ((w.val : Int) + ((2 ^ n.val : Nat) : Int)) (i.val : Int) = (if i.val = n.val then 1 else uBi (w.val : Int) (i.val : Int)) ∧ (i.val = n.val → uBi (w.val : Int) (i.val : Int) = 0) := by decide +kernel
theorem vWn_b (hn : 0 ≤ n ∧ n < 5) (hw : vWo n y) (hg : 0 ≤ g ∧ g ≤ 1) : vWo (n + 1) (vWn g n y) ∧ ∀ i, 0 ≤ i → i < 5 → uBi (vWn g n y) i = if i = n then g else uBi y i := by
  have h32 : ((2 ^ n.toNat : Nat) : Int) ≤ 32 := by
    have : n = 0 ∨ n = 1 ∨ n = 2 ∨ n = 3 ∨ n = 4 := by omega
    rcases this with rfl | rfl | rfl | rfl | rfl <;> decide
  have hw1 := hw.1
  have hw2 := hw.2
  have e1 : ((n.toNat : Nat) : Int) = n := Int.toNat_of_nonneg hn.1
  have e2 : ((y.toNat : Nat) : Int) = y := Int.toNat_of_nonneg hw.1
  have e3 : (n + 1).toNat = n.toNat + 1 := by omega
  have key : ∀ i, 0 ≤ i → i < 5 → (y + ((2 ^ n.toNat : Nat) : Int) < ((2 ^ (n.toNat + 1) : Nat) : Int) ∧ y < ((2 ^ (n.toNat + 1) : Nat) : Int)) ∧ uBi (y + ((2 ^ n.toNat : Nat) : Int)) i = (if i = n then 1 else uBi y i) ∧ (i = n → uBi y i = 0) := by
    intro i i0 i1
    have e4 : ((i.toNat : Nat) : Int) = i := Int.toNat_of_nonneg i0
    obtain ⟨k1, k2, k3⟩ := vWn_d ⟨n.toNat, by omega⟩ ⟨y.toNat, by omega⟩ ⟨i.toNat, by omega⟩ (by
      show ((y.toNat : Nat) : Int) < ((2 ^ n.toNat : Nat) : Int)
      omega)
    dsimp only at k1 k2 k3
    rw [e2] at k1 k2 k3
    rw [e4] at k2 k3
    refine ⟨k1, ?_, fun e => k3 (by omega)⟩
    rw [k2]
    by_cases c : i = n
    · rw [if_pos (by omega), if_pos c]
    · rw [if_neg (by omega), if_neg c]
  unfold vWo vWn
  rw [e3]
  by_cases c : g = 0
  · rw [if_pos c]
    refine ⟨⟨hw1, (key 0 (by decide) (by decide)).1.2⟩, fun i i0 i1 => ?_⟩
    by_cases ci : i = n
    · rw [if_pos ci, (key i i0 i1).2.2 ci, c]
    · rw [if_neg ci]
  · rw [if_neg c]
    refine ⟨⟨by omega, (key 0 (by decide) (by decide)).1.1⟩, fun i i0 i1 => ?_⟩
    rw [(key i i0 i1).2.1]
    by_cases ci : i = n
    · rw [if_pos ci, if_pos ci]
      omega
    · rw [if_neg ci, if_neg ci]
/-- the stage, the prices, what no one touches, the laws' numbers, the wishes -/
def vPs (a : xA) (b : xB) : Prop := uKs (a 90) (a 91) (a 87 2) a b ∧ (∀ i, a 87 2 ≤ i → 0 ≤ i → i < 5 → a 91 i = 0) ∧ vWo (a 87 2) (a 3 4)
def vPp (a : xA) : Prop := ∀ i, 1 ≤ i → i ≤ 5 → a 5 i = 8 * a 92 i + 1
def vPv (a : xA) (b : xB) : Prop := (∀ j, 113 ≤ j → j < 120 → a 88 j = 0) ∧ (∀ j, 6 ≤ j → j ≤ 12 → a 21 j = 0) ∧ (∀ j, 0 ≤ j → j < 3 → a 25 j = 0) ∧ (∀ j, 0 ≤ j → j < 24 → a 23 j = 0) ∧ (∀ j, 0 ≤ j → j < 3 → a 78 j = 0) ∧ (∀ j, 0 ≤ j → j < 512 → b 35 j = 0) ∧ (∀ j, 0 ≤ j → j < 4096 → b 114 j = 0) ∧ a 79 6 = 0 ∧ ∀ j, 0 ≤ j → j ≤ 60 → a 86 j = 0
def vPl (a : xA) : Prop := (∀ c, 0 ≤ c → c < 24 → 0 ≤ a 19 c ∧ a 19 c ≤ 99) ∧ (∀ c, 0 ≤ c → c < 24 → 0 ≤ a 106 c ∧ a 106 c ≤ 99) ∧ a 13 7 = a 87 3 ∧ ∀ i, 0 ≤ i → i < a 13 7 → a 20 i = a 100 i
def vRe (f : Int) (ts : List Int) : Prop := ts.length ≤ 40 ∧ (∀ t, t ∈ ts → uTv t) ∧ uDl ts 0 ≠ none ∧ ∀ S, ¬ uRun (uAt f S) (fun x => !x) (fun x y => x && y) (fun x y => x || y) ts [] = []
def vPg (T : Int → List Int) (a : xA) : Prop := (∀ p, 1 ≤ p → p ≤ 3 → a 12 p = a 96 p ∧ 0 ≤ a 96 p ∧ a 96 p ≤ 3) ∧ (∀ p k, 1 ≤ p → p ≤ 3 → 0 ≤ k → k < a 96 p → vRe p (T (p * 3 + k)) ∧ (1 ≤ a 97 (p * 3 + k) ∧ a 97 (p * 3 + k) ≤ 9) ∧ a 10 (p * 3 + k) = a 97 (p * 3 + k) ∧ a 9 (p * 3 + k) = ((T (p * 3 + k)).length : Int) ∧ a 98 (p * 3 + k) = ((T (p * 3 + k)).length : Int) ∧ ∀ (j : Nat) t, (T (p * 3 + k))[j]? = some t → a 8 ((p * 3 + k) * 40 + (j : Int)) = cT t ∧ a 99 (60 * (p * 3 + k) + (j : Int)) = t) ∧ uOr (a 96) (a 97) a ∧ ∀ p i, 1 ≤ p → p ≤ 3 → 0 ≤ i → i < a 96 p → 0 ≤ a 11 (p * 3 + i) ∧ a 11 (p * 3 + i) < a 96 p
def vPre (a : xA) (b : xB) : Prop := (a 0 12 = 0 ∧ a 87 4 = 0) ∧ xAr a ∧ vPs a b ∧ vPp a ∧ vPw (a 87 2) (a 88) b ∧ vPv a b ∧ vPl a ∧ ∃ T, vPg T a
/-- the tape, alike; with what the table tells -/
def vT (a : xA) : Prop := a 1 1 = a 87 9 ∧ (0 ≤ a 1 1 ∧ a 1 1 ≤ 400) ∧ ∀ j, 0 ≤ j → j < a 1 1 → a 2 j = a 93 j % 256
def vPz (a : xA) (b : xB) : Prop := vPre a b ∧ vT a
def vPk (a : xA) (b : xB) : Prop := vPz a b ∧ kOk (xS a b) ∧ kP (xS a b)
theorem vT_o (h : vT a) (e : ∀ q j, q = 1 ∨ q = 2 ∨ q = 93 ∨ (q = 87 ∧ j = 9) → a' q j = a q j) : vT a' := by
  unfold vT
  rw [e 1 1 (by omega), e 87 9 (by omega)]
  exact ⟨h.1, h.2.1, fun j j0 j1 => by
    rw [e 2 j (by omega), e 93 j (by omega)]
    exact h.2.2 j j0 j1⟩
theorem vPs_o (h : vPs a b) (e : ∀ q j, q = 90 ∨ q = 91 ∨ q = 4 ∨ (q = 87 ∧ j = 2) ∨ (q = 3 ∧ (j = 4 ∨ j = 5)) → a' q j = a q j) (eb : b' 3 3 = b 3 3) : vPs a' b' := by
  have e90 : a' 90 = a 90 := funext fun j => e 90 j (by omega)
  have e91 : a' 91 = a 91 := funext fun j => e 91 j (by omega)
  have e4 : a' 4 = a 4 := funext fun j => e 4 j (by omega)
  unfold vPs uKs
  rw [e90, e91, e4, e 87 2 (by omega), e 3 4 (by omega), e 3 5 (by omega), eb]
  exact h
theorem vPp_o (h : vPp a) (e : ∀ q j, q = 5 ∨ q = 92 → a' q j = a q j) : vPp a' := fun i i0 i1 => by
  rw [e 5 i (by omega), e 92 i (by omega)]
  exact h i i0 i1
theorem vPv_o (h : vPv a b) (e : ∀ q j, (q = 88 ∧ 113 ≤ j) ∨ (q = 21 ∧ 6 ≤ j) ∨ q = 25 ∨ q = 23 ∨ q = 78 ∨ q = 86 ∨ (q = 79 ∧ j = 6) → a' q j = a q j) (eb : ∀ j, b' 35 j = b 35 j ∧ b' 114 j = b 114 j) : vPv a' b' := by
  obtain ⟨h1, h2, h3, h4, h5, h6, h7, h8, h9⟩ := h
  exact ⟨fun j j0 j1 => (e 88 j (by omega)).trans (h1 j j0 j1), fun j j0 j1 => (e 21 j (by omega)).trans (h2 j j0 j1), fun j j0 j1 => (e 25 j (by omega)).trans (h3 j j0 j1), fun j j0 j1 => (e 23 j (by omega)).trans (h4 j j0 j1), fun j j0 j1 => (e 78 j (by omega)).trans (h5 j j0 j1), fun j j0 j1 => (eb j).1.trans (h6 j j0 j1), fun j j0 j1 => (eb j).2.trans (h7 j j0 j1), (e 79 6 (by omega)).trans h8, fun j j0 j1 => (e 86 j (by omega)).trans (h9 j j0 j1)⟩
theorem vPl_o (h : vPl a) (e : ∀ q j, q = 19 ∨ q = 106 ∨ q = 20 ∨ q = 100 ∨ (q = 13 ∧ j = 7) ∨ (q = 87 ∧ j = 3) → a' q j = a q j) : vPl a' := by
  obtain ⟨h1, h2, h3, h4⟩ := h
  refine ⟨fun c c0 c1 => ?_, fun c c0 c1 => ?_, ?_, fun i i0 i1 => ?_⟩
  · rw [e 19 c (by omega)]
    exact h1 c c0 c1
  · rw [e 106 c (by omega)]
    exact h2 c c0 c1
  · rw [e 13 7 (by omega), e 87 3 (by omega)]
    exact h3
  · rw [e 13 7 (by omega)] at i1
    rw [e 20 i (by omega), e 100 i (by omega)]
    exact h4 i i0 i1
theorem vPg_o (h : vPg T a) (e : ∀ q j, (8 ≤ q ∧ q ≤ 12) ∨ (96 ≤ q ∧ q ≤ 99) → a' q j = a q j) : vPg T a' := by
  have e8 : a' 8 = a 8 := funext fun j => e 8 j (by omega)
  have e9 : a' 9 = a 9 := funext fun j => e 9 j (by omega)
  have e10 : a' 10 = a 10 := funext fun j => e 10 j (by omega)
  have e11 : a' 11 = a 11 := funext fun j => e 11 j (by omega)
  have e12 : a' 12 = a 12 := funext fun j => e 12 j (by omega)
  have e96 : a' 96 = a 96 := funext fun j => e 96 j (by omega)
  have e97 : a' 97 = a 97 := funext fun j => e 97 j (by omega)
  have e98 : a' 98 = a 98 := funext fun j => e 98 j (by omega)
  have e99 : a' 99 = a 99 := funext fun j => e 99 j (by omega)
  unfold vPg uOr
  rw [e8, e9, e10, e11, e12, e96, e97, e98, e99]
  exact h
/-- door -/
theorem vB13 (h : vPk a b) (q1 : xR x) (q2 : xR y) (hd : 5 ≤ d) : uBo Ln xs vPk d 13 137 [xV x, xV y] a b := by
  intro Q hQ
  have h0 := h
  obtain ⟨⟨⟨⟨g1, g2⟩, hA, hs, hp, hw, hv, hl, T, hT⟩, hz⟩, hK, hP⟩ := h
  obtain ⟨⟨k1, k2, k3, k4, k5⟩, k6, k7⟩ := id hs
  have no : ¬ ((0 ≤ x ∧ x < 7) ∧ (0 ≤ y ∧ y < 7) ∧ ¬ x = y ∧ a 90 (7 * x + y) = 0) → ∀ Q2 : Option Value → pmS → Prop, (∀ a'' b'', vPk a'' b'' → Q2 (some (xV 0)) (xS a'' b'')) → pmCs (pmRo Ln xs) d 137 [.ref 87, xV x, xV y] (xS a b) Q2 := fun hno Q2 h2 => by
    refine pmCs_deep (d := 4) (xg137 (wb137 q1 q2 hA rfl k4 g2 (Or.inl rfl) (by decide) ?_ ?_ ?_ ?_ ?_ ?_)) (by omega) <;> intros
    all_goals first | exact h2 a b h0 | (exfalso; omega)
  refine pmCs_deep (d := 4) (xg13 (wb13 q1 q2 g1 (Or.inl rfl) (by decide) (fun e => absurd rfl e) (fun _ _ _ e => hQ _ _ _ (no (fun g => g.2.2.1 e))) (fun _ e1 e2 e3 e4 => hQ _ _ _ (no (fun g => (k1 (7 * x + y) (by omega) (by omega)).mp e4 g.2.2.2))) (fun _ e1 e2 e3 e4 => ?_) (fun _ _ e => hQ _ _ _ (no (fun g => e g.2.1))) (fun _ e => hQ _ _ _ (no (fun g => e g.1))))) (by omega)
  have h90 : a 90 (7 * x + y) = 0 := Classical.byContradiction fun c => by
    rw [(k1 (7 * x + y) (by omega) (by omega)).mpr c] at e4
    cases e4
  refine hQ _ _ _ (fun Q2 h2 => pmCs_deep (d := 4) (xg137 (wb137 q1 q2 hA rfl k4 g2 (Or.inl rfl) (by decide) (fun e => absurd rfl e) (fun _ _ _ e => absurd e e3) (fun _ _ _ _ _ => h2 _ _ ?_) (fun _ _ _ _ e => absurd h90 e) (fun _ _ e => absurd e2 e) (fun _ e => absurd e1 e))) (by omega))
  have hA2 : xAr (xU (xU a 90 (7 * x + y) 1) 90 (7 * y + x) 1) := xAr_u (xAr_u hA ⟨by decide, by decide⟩) ⟨by decide, by decide⟩
  have o : ∀ q j, ¬ q = 90 → (xU (xU a 90 (7 * x + y) 1) 90 (7 * y + x) 1) q j = a q j := fun q j h => by rw [xUn h, xUn h]
  have ob : ∀ q j, ¬ q = 3 → (xU b 3 3 ((b 3 3) ||| ((xShL (1 : Int64) (7 * x + y)) ||| (xShL (1 : Int64) (7 * y + x))))) q j = b q j := fun q j h => xUn h
  have o87 := o 87
  have e88 : (xU (xU a 90 (7 * x + y) 1) 90 (7 * y + x) 1) 88 = a 88 := funext fun j => o 88 j (by decide)
  have e91 : (xU (xU a 90 (7 * x + y) 1) 90 (7 * y + x) 1) 91 = a 91 := funext fun j => o 91 j (by decide)
  have K1 : kOk (xS a (xU b 3 3 ((b 3 3) ||| ((xShL (1 : Int64) (7 * x + y)) ||| (xShL (1 : Int64) (7 * y + x)))))) := xOk_l hK (by decide) (by decide +kernel) (bInL (by decide +kernel) _)
  have P1 : kP (xS a (xU b 3 3 ((b 3 3) ||| ((xShL (1 : Int64) (7 * x + y)) ||| (xShL (1 : Int64) (7 * y + x)))))) := xP_l kP_fr hP (by decide +kernel) (by decide)
  have K2 := xOk_i (xOk_i K1 (show 0 ≤ 7 * x + y by omega) ⟨by decide, by decide⟩ rfl (xIn1 (lo := 0) (hi := 1) (z := 1) (bGu_ok (p := 90) (by decide +kernel) _) (by decide))) (show 0 ≤ 7 * y + x by omega) ⟨by decide, by decide⟩ rfl (xIn1 (lo := 0) (hi := 1) (z := 1) (bGu_ok (p := 90) (by decide +kernel) _) (by decide))
  have P2 : kP (xS (xU (xU a 90 (7 * x + y) 1) 90 (7 * y + x) 1) (xU b 3 3 ((b 3 3) ||| ((xShL (1 : Int64) (7 * x + y)) ||| (xShL (1 : Int64) (7 * y + x)))))) := by
    refine xP_i kP_fr (xP_i kP_fr P1 ?_ (by omega)) ?_ (by omega)
    · rw [bRg_sing (by decide +kernel) _ 0]
      decide +kernel
    · rw [bRg_sing (by decide +kernel) _ 0]
      decide +kernel
  refine ⟨⟨?_, vT_o hz (fun q j hq => o q j (by omega))⟩, K2, P2⟩
  refine ⟨⟨(o 0 12 (by decide)).trans g1, (o 87 4 (by decide)).trans g2⟩, hA2, ?_, vPp_o hp (fun q j hq => o q j (by omega)), ?_, vPv_o hv (fun q j hq => o q j (by omega)) (fun j => ⟨ob 35 j (by decide), ob 114 j (by decide)⟩), vPl_o hl (fun q j hq => o q j (by omega)), T, vPg_o hT (fun q j hq => o q j (by omega))⟩
  · unfold vPs uKs
    rw [e91, o 87 2 (by decide), o 3 4 (by decide), o 3 5 (by decide)]
    refine ⟨⟨fun k c0 c1 => ?_, k2, k3, k4, fun k c0 c1 => (o 4 _ (by decide)).trans (k5 k c0 c1)⟩, k6, k7⟩
    have h1 := k1 k c0 c1
    rw [xUa, xBit_or, xBit_or, xBit_one (by omega) (by omega) c0 (by omega), xBit_one (by omega) (by omega) c0 (by omega)]
    by_cases c : k = 7 * y + x
    · rw [c, xUa, decide_eq_true rfl, Bool.or_true, Bool.or_true]
      exact ⟨fun _ => by decide, fun _ => rfl⟩
    · rw [xUk c, decide_eq_false c, Bool.or_false]
      by_cases c2 : k = 7 * x + y
      · rw [c2, xUa, decide_eq_true rfl, Bool.or_true]
        exact ⟨fun _ => by decide, fun _ => rfl⟩
      · rw [xUk c2, decide_eq_false c2, Bool.or_false]
        exact h1
  · rw [e88, o 87 2 (by decide)]
    exact vPw_o hw (ob 21 4 (by decide)) (ob 21 5 (by decide)) (fun f => ob 22 f (by decide))
/-- person -/
theorem vB17 (h : vPk a b) (q1 : xR p) (q2 : xR y) (hd : 5 ≤ d) : uBo Ln xs vPk d 17 139 [xV p, xV y] a b := by
  intro Q hQ
  have h0 := h
  obtain ⟨⟨⟨⟨g1, g2⟩, hA, hs, hp, hw, hv, hl, T, hT⟩, hz⟩, hK, hP⟩ := h
  obtain ⟨⟨k1, k2, k3, k4, k5⟩, k6, k7⟩ := id hs
  have no : ¬ ((0 ≤ p ∧ p < 4) ∧ (0 ≤ y ∧ y < 7)) → ∀ Q2 : Option Value → pmS → Prop, (∀ a'' b'', vPk a'' b'' → Q2 (some (xV 0)) (xS a'' b'')) → pmCs (pmRo Ln xs) d 139 [.ref 87, xV p, xV y] (xS a b) Q2 := fun hno Q2 h2 => by
    refine pmCs_deep (d := 4) (xg139 (wb139 q1 q2 hA rfl k4 g2 (Or.inl rfl) (by decide) ?_ ?_ ?_ ?_)) (by omega) <;> intros
    all_goals first | exact h2 a b h0 | (exfalso; omega)
  refine pmCs_deep (d := 4) (xg17 (wb17 q1 q2 g1 (Or.inl rfl) (by decide) (fun e => absurd rfl e) (fun _ e1 e2 => ?_) (fun _ _ e => hQ _ _ _ (no (fun g => e g.2))) (fun _ e => hQ _ _ _ (no (fun g => e g.1))))) (by omega)
  refine hQ _ _ _ (fun Q2 h2 => pmCs_deep (d := 4) (xg139 (wb139 q1 q2 hA rfl k4 g2 (Or.inl rfl) (by decide) (fun e => absurd rfl e) (fun _ _ _ => h2 _ _ ?_) (fun _ _ e => absurd e2 e) (fun _ e => absurd e1 e))) (by omega))
  have o : ∀ q j, ¬ (q = 88 ∧ j = 0 + p) → (xU a 88 (0 + p) y) q j = a q j := fun q j h => by
    unfold xU
    rw [if_neg h]
  have ob : ∀ q j, ¬ (q = 21 ∧ j = 4) → (xU b 21 4 (xWith (b 21 4) p (y + 1))) q j = b q j := fun q j h => by
    unfold xU
    rw [if_neg h]
  have hp4 : p = 0 ∨ p = 1 ∨ p = 2 ∨ p = 3 := by omega
  have K1 : kOk (xS a (xU b 21 4 (xWith (b 21 4) p (y + 1)))) := xOk_l hK (by decide) (by decide +kernel) (bInL (by decide +kernel) _)
  have P1 : kP (xS a (xU b 21 4 (xWith (b 21 4) p (y + 1)))) := xP_l kP_fr hP (by decide +kernel) (by decide)
  have K2 : kOk (xS (xU a 88 (0 + p) y) (xU b 21 4 (xWith (b 21 4) p (y + 1)))) := by
    refine xOk_i K1 (by omega) q2 rfl ?_
    rcases hp4 with e | e | e | e <;> rw [e] <;> exact xIn1 (lo := 0) (hi := 7) (by decide +kernel) (by omega)
  have P2 : kP (xS (xU a 88 (0 + p) y) (xU b 21 4 (xWith (b 21 4) p (y + 1)))) := by
    refine xP_i kP_fr P1 ?_ (by omega)
    rcases hp4 with e | e | e | e <;> rw [e] <;> decide +kernel
  refine ⟨⟨?_, vT_o hz (fun q j hq => o q j (by omega))⟩, K2, P2⟩
  refine ⟨⟨(o 0 12 (by omega)).trans g1, (o 87 4 (by omega)).trans g2⟩, xAr_u hA q2, vPs_o hs (fun q j hq => o q j (by omega)) (ob 3 3 (by omega)), vPp_o hp (fun q j hq => o q j (by omega)), ?_, vPv_o hv (fun q j hq => o q j (by omega)) (fun j => ⟨ob 35 j (by omega), ob 114 j (by omega)⟩), vPl_o hl (fun q j hq => o q j (by omega)), T, vPg_o hT (fun q j hq => o q j (by omega))⟩
  rw [o 87 2 (by omega)]
  refine vPw_p hw k4 e1 e2 ?_ (fun j hj => o 88 j (by omega)) xUa (ob 21 5 (by omega)) (fun f => ob 22 f (by omega))
  exact if_pos ⟨rfl, by omega⟩
/-- thing, hidden: what they leave -/
theorem vB20n {s w' : Int} {w5 : Int64} {a2 : xA} {b2 : xB} (h : vPre a b) (hn0 : 0 ≤ a 87 2 ∧ a 87 2 < 5) (hg : 0 ≤ g ∧ g ≤ 1) (hA : xAr a2) (o : ∀ q j, ¬ (q = 88 ∧ (j = 4 + a 87 2 ∨ j = 9 + a 87 2)) → ¬ (q = 91 ∧ j = a 87 2) → ¬ (q = 87 ∧ j = 2) → ¬ (q = 3 ∧ (j = 4 ∨ j = 5)) → a2 q j = a q j) (ob : ∀ q j, ¬ (q = 21 ∧ (j = 4 ∨ j = 5)) → b2 q j = b q j) (e91 : a2 91 (a 87 2) = g) (e87 : a2 87 2 = a 87 2 + 1) (e34 : a2 3 4 = vWn g (a 87 2) (a 3 4)) (e35 : a2 3 5 = a 87 2 + 1) (hw' : vPw (a 87 2 + 1) (a2 88) b2) : vPre a2 b2 := by
  obtain ⟨⟨g1, g2⟩, hA0, hs, hp, hw, hv, hl, T, hT⟩ := h
  obtain ⟨⟨k1, k2, k3, k4, k5⟩, k6, k7⟩ := id hs
  have e90 : a2 90 = a 90 := funext fun j => o 90 j (by omega) (by omega) (by omega) (by omega)
  obtain ⟨m1, m2⟩ := vWn_b hn0 k7 hg
  refine ⟨⟨(o 0 12 (by omega) (by omega) (by omega) (by omega)).trans g1, (o 87 4 (by omega) (by omega) (by omega) (by omega)).trans g2⟩, hA, ?_, vPp_o hp (fun q j hq => o q j (by omega) (by omega) (by omega) (by omega)), by rw [e87]; exact hw', vPv_o hv (fun q j hq => o q j (by omega) (by omega) (by omega) (by omega)) (fun j => ⟨ob 35 j (by omega), ob 114 j (by omega)⟩), vPl_o hl (fun q j hq => o q j (by omega) (by omega) (by omega) (by omega)), T, vPg_o hT (fun q j hq => o q j (by omega) (by omega) (by omega) (by omega))⟩
  unfold vPs uKs
  rw [e90, e87, e34, e35, ob 3 3 (by omega)]
  refine ⟨⟨k1, fun i i0 i1 => ?_, rfl, by omega, fun k c0 c1 => (o 4 _ (by omega) (by omega) (by omega) (by omega)).trans (k5 k c0 c1)⟩, fun i n0 i0 i1 => ?_, m1⟩
  · rw [m2 i i0 i1]
    by_cases c : i = a 87 2
    · rw [if_pos c, c, e91]
    · rw [if_neg c, o 91 i (by omega) (by omega) (by omega) (by omega)]
      exact k2 i i0 i1
  · rw [o 91 i (by omega) (by omega) (by omega) (by omega)]
    exact k6 i (by omega) i0 i1
end
end
