/-! all of the class look -/
section
set_option maxRecDepth 100000


section
variable {ro : Nat → Nat × (Nat → Int32)} {d w : Nat} {Q : Option Value → pmS → Prop} {n f g p k x : Int} {r r' : Int → Int} {a a' : xA} {b b' : xB}
/-- a world of the class's, by the row: the minds, and that the folk know their own room -/
def uRm (n : Int) (w : Nat) (r : Int → Int) (b : xB) : Prop := ∀ f, 1 ≤ f → f ≤ 3 → uRf n w r b f
def uOx (w : Nat) (r : Int → Int) (b : xB) (k : Int) : Prop := ∀ f, 1 ≤ f → f < k → ¬ r f = 7 → uSl (b (w + 1) f) f = r f + 1
theorem uRt_c (hT : uRt n w r b) (hn5 : n ≤ 5) (e : ∀ j, j < 14 → r' j = r j) (h4 : b' w 4 = b w 4) (h5 : b' w 5 = b w 5) : uRt n w r' b' := ⟨fun j j0 j1 => by
  rw [h4, hT.1 j j0 j1]
  exact (uWs_c (e j (by omega))).symm, by rw [h4]; exact hT.2.1, fun x x0 xn hx => by
  rw [e _ (by omega)] at hx
  rw [h5, e _ (by omega)]
  exact hT.2.2 x x0 xn hx⟩
theorem uRf_c (hM : uRf n w r b g) (e : ∀ j, 0 ≤ j → j < 9 → r' (14 + 9 * (g - 1) + j) = r (14 + 9 * (g - 1) + j)) (hb : b' (w + 1) g = b (w + 1) g) : uRf n w r' b' g := by
  obtain ⟨m1, m2, m3⟩ := hM
  refine ⟨by rw [hb]; exact m1, fun q q0 q1 hq => ?_, fun x x0 x1 => ?_⟩
  · rw [hb, m2 q q0 q1 hq, show 14 + 9 * (g - 1) + 5 + q = 14 + 9 * (g - 1) + (5 + q) by omega, e (5 + q) (by omega) (by omega)]
  · rw [hb, m3 x x0 x1, e x x0 (by omega)]
/-- lookAbout -/
theorem u59 (hz : uWz w) (hn0 : 0 ≤ n ∧ n ≤ 5) (hr : uRv n r) (hT : uRt n w r b) (hM : uRm n w r b) (hd : 3 ≤ d) (hQ : ∀ b', (∀ q j, ¬ (q = w ∧ (j = 4 ∨ j = 5)) → ¬ (q = w + 1 ∧ 1 ≤ j ∧ j ≤ 3) → b' q j = b q j) → uRt n w (uAl n r) b' → uRm n w (uAl n r) b' → uOx w (uAl n r) b' 4 → Q none (xS a b')) : pmCs ro d 59 [.ref 43, .ref w] (xS a b) Q := by
  refine pmCs_deep (d := 3) (xg59 (w59 hz (by decide) (u60 hz hn0 hr hT (by decide) (fun b1 x1 T1 => w59a hz (by decide) ?_)))) hd
  have hf0 := uRv_f hn0.2 hr
  have M1 : uRm n w (uLf n r) b1 := fun f f0 f1 => uRf_c (hM f f0 f1) (fun j j0 j1 => hf0.2 _ (by omega)) (x1 _ _ (by omega))
  have loop : ∀ (m : Nat) (f : Int) (r1 : Int → Int) (b1 : xB), f + (m : Int) = 4 → 1 ≤ f → (∀ q j, ¬ (q = w ∧ (j = 4 ∨ j = 5)) → ¬ (q = w + 1 ∧ 1 ≤ j ∧ j ≤ 3) → b1 q j = b q j) → uRv n r1 → uRt n w r1 b1 → uRm n w r1 b1 → uOx w r1 b1 f → uAr n m f r1 = uAl n r → pmWp ro 2 4 59 0 7 [some (.ref 43), some (.ref w), some (xV f)] [] (xS a b1) Q := by
    intro m
    induction m with
    | zero =>
      intro f r1 b1 hf f1 g1 g2 g3 g4 g5 g6
      have g6 : r1 = uAl n r := g6
      have e4 : f = 4 := by omega
      rw [e4] at g5
      exact w59p hz (by decide) ⟨f1, by omega⟩ (fun _ => hQ b1 g1 (by rw [← g6]; exact g3) (by rw [← g6]; exact g4) (by rw [← g6]; exact g5)) (fun e => by omega)
    | succ m ih =>
      intro f r1 b1 hf f1 g1 g2 g3 g4 g5 g6
      have g6 : uAr n m (f + 1) (if r1 f = 7 then r1 else uLk n f r1) = uAl n r := g6
      refine w59p hz (by decide) ⟨f1, by omega⟩ (fun e => by omega) (fun _ => ?_)
      have ef : uSl (b1 w 4) f = r1 f + 1 := (g3.1 f (by omega) (by omega)).trans (uWs_p (by omega))
      by_cases c : r1 f = 7
      · rw [if_pos c] at g6
        refine pmCs_deep (d := 2) (xg63 (w63 hz (by decide) ⟨f1, by omega⟩ (fun e => absurd (by omega) e) (fun _ => w59n hz (by decide) ⟨f1, by omega⟩ ?_))) (by decide)
        refine ih (f + 1) r1 b1 (by omega) (by omega) g1 g2 g3 g4 (fun k k1 k2 hk => ?_) g6
        by_cases ck : k = f
        · rw [ck] at hk
          exact absurd c hk
        · exact g5 k k1 (by omega) hk
      · rw [if_neg c] at g6
        refine u63 hz hn0 g2 g3 ⟨f1, by omega⟩ (g4 f f1 (by omega)) c (by decide) (fun l h1 h2 => w59n hz (by decide) ⟨f1, by omega⟩ ?_)
        have lo : ∀ j, j < 14 → uLk n f r1 j = r1 j := fun j hj => uLk_lo f1 (Or.inl hj) (by omega) hn0.2
        refine ih (f + 1) (uLk n f r1) _ (by omega) (by omega) (fun q j e1 e2 => by rw [xUo (fun e => e2 ⟨e.1, by omega⟩)]; exact g1 q j e1 e2) (uRv_k hn0.2 g2 ⟨f1, by omega⟩ c) (uRt_c g3 hn0.2 lo (xUn (by omega)) (xUn (by omega))) (fun k k1 k3 => ?_) (fun k k1 k2 hk => ?_) g6
        · by_cases ck : k = f
          · rw [ck]
            exact h1
          · exact uRf_c (g4 k k1 k3) (fun j j0 j1 => uLk_o hn0.2 ck j0 j1) (xUk ck)
        · rw [lo k (by omega)] at hk ⊢
          by_cases ck : k = f
          · rw [ck, xUa]
            exact h2
          · rw [xUk ck]
            exact g5 k k1 (by omega) hk
  exact loop 3 1 (uLf n r) b1 (by decide) (by decide) (fun q j e1 _ => x1 q j e1) hf0.1 T1 M1 (fun k k1 k2 => by omega) rfl
end
end
