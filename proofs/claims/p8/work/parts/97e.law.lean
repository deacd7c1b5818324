/-! exact: law, on both sides, ahead of the beginning -/
section
variable {ro : Nat → Nat × (Nat → Int32)} {d : Nat} {Q : Option Value → pmS → Prop} {a : xA} {b : xB} {n m l : Int} {t : Int → Int}
theorem rLw_s (k : Nat) (c p : Int) : rLw t n (k + 1) c p = if (rCl t n p c).1 = 0 then (if n ≤ (rCl t n p c).2 then (0, c + 1) else if sG t n (rCl t n p c).2 = 59 then rLw t n k (c + 1) ((rCl t n p c).2 + 1) else (-1000 - (rCl t n p c).2, c + 1)) else ((rCl t n p c).1, c) := rfl
theorem yk47 (h_n : xR n) (hg : a 0 12 = 0) (hm : a 13 7 = m) (hl : a 1 1 = l) (hm0 : 0 ≤ m ∧ m ≤ 6) (hl0 : 0 ≤ l ∧ l ≤ 400) (ht : ∀ j, 0 ≤ j → j < n → a 2 j = t j) (hb : tB t) (hA : xAr a) (hd : 8 ≤ d)
    (hR : ¬ (1 ≤ n ∧ n ≤ 60 ∧ m < 6 ∧ n ≤ l) → Q (some (xV (-1))) (xS a b))
    (hB : (1 ≤ n ∧ n ≤ 60 ∧ m < 6 ∧ n ≤ l) → ¬ (rLw t n 6 0 0).1 = 0 → ∀ a1, xAr a1 → a1 13 7 = m → a1 1 1 = 0 → Q (some (xV (rLw t n 6 0 0).1)) (xS a1 b))
    (hG : (1 ≤ n ∧ n ≤ 60 ∧ m < 6 ∧ n ≤ l) → (rLw t n 6 0 0).1 = 0 → ∀ a1, xAr a1 → a1 13 7 = m + 1 → a1 1 1 = 0 → a1 20 m = (rLw t n 6 0 0).2 → Q (some (xV m)) (xS a1 b)) : pmCs ro d 47 [.ref 0, xV n] (xS a b) Q := by
  refine pmCs_deep (d := 8) (xg47 (w47 h_n hg hm hl (by decide) hm0 hl0 (fun e => absurd rfl e) (fun _ _ => hR (by omega)) (fun _ _ _ => hR (by omega)) (fun _ _ _ _ => hR (by omega)) (fun _ e1 e2 e3 e4 => ?_) (fun _ _ _ _ _ => hR (by omega)))) hd
  refine xk48 hl (by omega) hl0.2 (by omega) ht hb hm (by omega) hA (by decide) (fun a1 h1 h2 h3 h4 => ?_)
  by_cases hf : (rLw t n 6 0 0).1 = 0
  · obtain ⟨h5, h6, h7⟩ := h3 hf
    have hG' := hG (by omega) hf
    rw [hf]
    refine w47g h2 (by omega) h5 (by omega) (by decide) ?_
    refine hG' _ (xAr_u (xAr_u (xAr_u h1 xR0) ⟨by omega, by omega⟩) ⟨by omega, by omega⟩) xUa ?_ ?_
    · rw [xUn (by decide), xUn (by decide), xUa]
    · rw [xUn (by decide), xUa]
  · refine w47f (m := m) ⟨h4.1, by omega⟩ (by decide) (fun e => absurd e hf) (fun _ => ?_)
    exact hB (by omega) hf _ (xAr_u h1 xR0) (by rw [xUn (by decide)]; exact h2) xUa
/-- the reference, once a clause is read -/
theorem xl166 (hn : n ≤ 60) (hb : tB t) (hm0 : 0 ≤ m ∧ m < 6) (hd : 5 ≤ d) : ∀ (k : Nat) (a : xA) (c p : Int), 4 - c ≤ (k : Int) → tR a t n p → 0 ≤ p ∧ p ≤ n → xAr a → a 87 3 = m → 0 ≤ c ∧ c < 4 →
    (∀ f, f = (if n ≤ p then (0, c + 1) else if sG t n p = 59 then rLw t n k (c + 1) (p + 1) else (-1000 - p, c + 1)) →
      (¬ f.1 = 0 → ∀ a1, xAr a1 → a1 87 3 = m → a1 87 9 = 0 → Q (some (xV f.1)) (xS a1 b)) ∧ (f.1 = 0 → ∀ a1, xAr a1 → a1 87 3 = m + 1 → a1 87 9 = 0 → a1 100 m = f.2 → Q (some (xV m)) (xS a1 b))) →
    pmWp ro d 12 166 1 55 [some (.ref 87), some (xV n), some (xV c), some (xV 1)] [] (xS a b) Q := by
  intro k
  induction k with
  | zero =>
    intro a c p hk hC hp hA hm hc0 hQ
    exfalso
    omega
  | succ k ih =>
    intro a c p hk hC hp hA hm hc0 hQ
    -- a fault
    have bad : ∀ (a1 : xA) (f : Int) (v2 : Int), xAr a1 → a1 87 3 = m → a1 87 12 = f → f < 0 ∧ -10000 < f → (if n ≤ p then ((0 : Int), c + 1) else if sG t n p = 59 then rLw t n (k + 1) (c + 1) (p + 1) else (-1000 - p, c + 1)).1 = f → pmWp ro d 12 166 1 55 [some (.ref 87), some (xV n), some (xV v2), some (xV 0)] [] (xS a1 b) Q := by
      intro a1 f v2 g1 g2 g3 g4 g5
      refine w166f g2 g3 ⟨by omega, by omega⟩ ?_
      have h := (hQ _ rfl).1 (by omega) (xU a1 87 9 0) (xAr_u g1 xR0) (by rw [xUk (by decide)]; exact g2) xUa
      rw [g5] at h
      exact h
    -- one more clause
    have more : ∀ (a1 : xA) (p1 : Int), ¬ p = n → sG t n p = 59 → tR a1 t n p1 → xAr a1 → a1 87 3 = m → rCl t n (p + 1) (c + 1) = (0, p1) → p + 1 < p1 ∧ p1 ≤ n → c + 1 < 4 → pmWp ro d 12 166 1 55 [some (.ref 87), some (xV n), some (xV (c + 1)), some (xV 1)] [] (xS a1 b) Q := by
      intro a1 p1 g0 g00 g1 g2 g3 g4 g5 g6
      refine ih a1 (c + 1) p1 (by omega) g1 (by omega) g2 g3 (by omega) (fun f hf => hQ f ?_)
      have e1 : (if n ≤ p then ((0 : Int), c + 1) else if sG t n p = 59 then rLw t n (k + 1) (c + 1) (p + 1) else (-1000 - p, c + 1)) = rLw t n (k + 1) (c + 1) (p + 1) := by rw [if_neg (by omega), if_pos g00]
      rw [e1, hf, rLw_s, g4, if_pos rfl]
    have worse : ∀ (f q : Int), ¬ p = n → sG t n p = 59 → f < 0 → rCl t n (p + 1) (c + 1) = (f, q) → (if n ≤ p then ((0 : Int), c + 1) else if sG t n p = 59 then rLw t n (k + 1) (c + 1) (p + 1) else (-1000 - p, c + 1)).1 = f := by
      intro f q g0 g1 g2 g3
      rw [if_neg (by omega), if_pos g1, rLw_s, g3, if_neg (by show ¬ f = 0; omega)]
    have com : ∀ p1, rCom t n 59 p = (0, p1) → sG t n p = 59 ∧ p1 = p + 1 := by
      intro p1 h
      unfold rCom at h
      split at h
      · rename_i e
        exact ⟨e, (congrArg Prod.snd h).symm⟩
      · have := congrArg Prod.fst h
        simp only at this
        omega
    refine w166b hC hp hn hb hA hm hc0 hm0 hd ?_ ?_ ?_ ?_ ?_ ?_
    · intro e a1 p1 h1 h2 h3 h4 h5 a3 p3 h6 h7 h8 h9
      obtain ⟨g1, rfl⟩ := com p1 h3
      exfalso
      -- a fifth clause is none
      have : c + 1 = 4 := by omega
      rw [this] at h8
      have h10 : (rCl t n (p + 1) 4).1 = 0 := by rw [h8]
      unfold rCl at h10
      split at h10
      · have h11 : -1000 - (p + 1) = 0 := h10
        omega
      · rw [if_pos (by decide)] at h10
        have h11 : -4000 - (p + 1) = 0 := h10
        omega
    · intro e a1 p1 h1 h2 h3 h4 h5 a4 f4 q4 h6 h7 h8 h9
      obtain ⟨g1, rfl⟩ := com p1 h3
      exact bad a4 f4 (c + 1) h6.1 (h6.2.trans (h2.2.trans hm)) h7 h8 (worse f4 q4 e g1 h8.1 h9)
    · intro e a1 p1 h1 h2 h3 h4 h5 a3 p3 h6 h7 h8 h9
      obtain ⟨g1, rfl⟩ := com p1 h3
      exact more a3 p3 e g1 h6 h7.1 (h7.2.trans (h2.2.trans hm)) h8 h9 (by omega)
    · intro e a1 p1 h1 h2 h3 h4 h5 a4 f4 q4 h6 h7 h8 h9
      obtain ⟨g1, rfl⟩ := com p1 h3
      exact bad a4 f4 (c + 1) h6.1 (h6.2.trans (h2.2.trans hm)) h7 h8 (worse f4 q4 e g1 h8.1 h9)
    · intro e a2 f2 q2 h1 h2 h3 h4
      refine bad a2 f2 (c + 1) h1.1 (h1.2.trans hm) h2 h3 ?_
      unfold rCom at h4
      split at h4
      · have := congrArg Prod.fst h4
        have : (0 : Int) = f2 := this
        omega
      · rename_i g
        rw [if_neg (by omega), if_neg g]
        exact congrArg Prod.fst h4
    · intro e
      refine w166g hm hm0 ?_
      have h := (hQ _ rfl).2 (by rw [if_pos (by omega)]) (xU (xU (xU a 87 9 0) 100 m (c + 1)) 87 3 (m + 1)) (xAr_u (xAr_u (xAr_u hA xR0) ⟨by omega, by omega⟩) ⟨by omega, by omega⟩) xUa (by rw [xUk (by decide), xUn (by decide), xUa]) (by rw [xUn (by decide), xUa, if_pos (by omega)])
      rw [show (m + 1 - 1 : Int) = m by omega]
      exact h
theorem yk166 (h_n : xR n) (hg : a 87 4 = 0) (hm : a 87 3 = m) (hl : a 87 9 = l) (hm0 : 0 ≤ m ∧ m ≤ 6) (hl0 : 0 ≤ l ∧ l ≤ 400) (ht : ∀ j, 0 ≤ j → j < n → a 93 j % 256 = t j) (hb : tB t) (hA : xAr a) (hd : 8 ≤ d)
    (hR : ¬ (1 ≤ n ∧ n ≤ 60 ∧ m < 6 ∧ n ≤ l) → Q (some (xV (-1))) (xS a b))
    (hB : (1 ≤ n ∧ n ≤ 60 ∧ m < 6 ∧ n ≤ l) → ¬ (rLw t n 6 0 0).1 = 0 → ∀ a1, xAr a1 → a1 87 3 = m → a1 87 9 = 0 → Q (some (xV (rLw t n 6 0 0).1)) (xS a1 b))
    (hG : (1 ≤ n ∧ n ≤ 60 ∧ m < 6 ∧ n ≤ l) → (rLw t n 6 0 0).1 = 0 → ∀ a1, xAr a1 → a1 87 3 = m + 1 → a1 87 9 = 0 → a1 100 m = (rLw t n 6 0 0).2 → Q (some (xV m)) (xS a1 b)) : pmCs ro d 166 [.ref 87, xV n] (xS a b) Q := by
  refine pmCs_deep (d := 8) (xg166 (w166 h_n hm hl hg hm0 hl0 (by decide) (by decide) (fun e => absurd rfl e) (fun _ _ _ => hR (by omega)) (fun _ e1 e2 e3 => ?_) (fun _ _ _ _ => hR (by omega)) (fun _ _ => hR (by omega)))) hd
  generalize ha0 : xU (xU (xU (xU (xU a 87 10 0) 87 11 n) 87 13 0) 87 14 0) 87 15 0 = a0
  have hC : tR a0 t n 0 := by
    rw [← ha0]
    refine tR.fd (by decide) (by decide) (tR.fd (by decide) (by decide) (tR.fd (by decide) (by decide) ⟨fun j j0 j1 => ?_, xUa, ?_⟩))
    · rw [xUn (by decide), xUn (by decide)]
      exact ht j j0 j1
    · rw [xUk (by decide), xUa]
  have hA0 : xAr a0 := by
    rw [← ha0]
    exact xAr_u (xAr_u (xAr_u (xAr_u (xAr_u hA xR0) h_n) xR0) xR0) xR0
  have hm1 : a0 87 3 = m := by
    rw [← ha0, xUk (by decide), xUk (by decide), xUk (by decide), xUk (by decide), xUk (by decide)]
    exact hm
  refine xk167 hC (by omega) (by omega) hb hA0 (by omega) (by omega) (by decide) (fun a1 p1 h1 h2 h3 h4 => ?_) (fun a1 f q h1 h2 h3 h4 => ?_)
  · refine w166c ?_
    refine xl166 (by omega) hb (by omega) (by decide) 5 a1 0 p1 (by decide) h1 (by omega) h2.1 (h2.2.trans hm1) (by decide) (fun f hf => ?_)
    have er : rLw t n 6 0 0 = f := by
      rw [hf]
      show (if (rCl t n 0 0).1 = 0 then _ else _) = _
      rw [h3, if_pos rfl]
    rw [← er]
    exact ⟨hB (by omega), hG (by omega)⟩
  · refine w166c ?_
    refine w166f (h1.2.trans hm1) h2 ⟨by omega, by omega⟩ ?_
    have er : rLw t n 6 0 0 = (f, 0) := by
      show (if (rCl t n 0 0).1 = 0 then _ else _) = _
      rw [h4, if_neg (by show ¬ f = 0; omega)]
    rw [er] at hB
    exact hB (by omega) (by show ¬ f = 0; omega) _ (xAr_u h1.1 xR0) (by rw [xUk (by decide)]; exact h1.2.trans hm1) xUa
end
