/-! copies of worlds, by rows -/
section
set_option maxRecDepth 100000


section
variable {ro : Nat → Nat × (Nat → Int32)} {d w v : Nat} {Q : Option Value → pmS → Prop} {n m : Int} {r r' : Int → Int} {a a' : xA} {b b' : xB}
/-- world w is world v again -/
def uCopd (w v : Nat) (a a' : xA) (b b' : xB) : Prop := (∀ j, 6 ≤ j → j ≤ 12 → a' w j = a v j) ∧ (∀ j, 0 ≤ j → j < 24 → a' (w + 2) j = a (v + 2) j) ∧ (∀ j, 0 ≤ j → j < 3 → a' (w + 4) j = 0) ∧ (b' w 4 = b v 4 ∧ b' w 5 = b v 5) ∧ (∀ j, 0 ≤ j → j < 4 → b' (w + 1) j = b (v + 1) j) ∧ (∀ q j, ¬ (w ≤ q ∧ q ≤ w + 4) → a' q j = a q j) ∧ ∀ q j, ¬ (w ≤ q ∧ q ≤ w + 4) → b' q j = b q j
theorem u66 (hw : uWo w) (hv : uWo v) (hdj : v + 4 < w ∨ w + 4 < v) (hA : xAr a) (h12 : 0 ≤ a v 12 ∧ a v 12 ≤ 1) (hd : 2 ≤ d) (hQ : ∀ a' b', uCopd w v a a' b b' → xAr a' → Q none (xS a' b')) : pmCs ro d 66 [.ref w, .ref v] (xS a b) Q := by
  have w0 := hw.2
  have v0 := hv.2
  have hF : ∀ j, (uFg w (xCp (xCp a (v + 2) (w + 2) 0 0 24) (v + 3) (w + 3) 0 0 6)) v j = a v j := fun j => by
    unfold uFg
    rw [xUn (by omega), xUn (by omega), xUn (by omega), xCpN (by omega), xCpN (by omega)]
  have hG : ∀ j, (xCl b (v + 1) (w + 1) 0 0 4) v j = b v j := fun j => xClN (by omega)
  refine pmCs_deep (d := 2) (xg66 (w66 hw.1 hv.1 (by omega) hF hG h12 (by decide) (hQ _ _ ⟨fun j j0 j1 => ?_, fun j j0 j1 => ?_, fun j j0 j1 => ?_, ⟨?_, ?_⟩, fun j j0 j1 => ?_, fun q j h => ?_, fun q j h => ?_⟩ ?_))) hd
  · by_cases c : j = 12
    · rw [c, xUa]
    rw [xUk c]
    by_cases c : j = 11
    · rw [c, xUa]
    rw [xUk c]
    by_cases c : j = 10
    · rw [c, xUa]
    rw [xUk c]
    by_cases c : j = 9
    · rw [c, xUa]
    rw [xUk c]
    by_cases c : j = 8
    · rw [c, xUa]
    rw [xUk c]
    by_cases c : j = 7
    · rw [c, xUa]
    rw [xUk c, show j = 6 by omega, xUa]
  · rw [xUn (by omega), xUn (by omega), xUn (by omega), xUn (by omega), xUn (by omega), xUn (by omega), xUn (by omega)]
    unfold uFg
    rw [xUn (by omega), xUn (by omega), xUn (by omega), xCpN (by omega)]
    show (if w + 2 = w + 2 ∧ 0 ≤ j ∧ j < 0 + 24 then a (v + 2) (0 + (j - 0)) else _) = _
    rw [if_pos ⟨rfl, j0, by omega⟩, show 0 + (j - 0) = j by omega]
  · rw [xUn (by omega), xUn (by omega), xUn (by omega), xUn (by omega), xUn (by omega), xUn (by omega), xUn (by omega)]
    unfold uFg
    by_cases j2 : j = 2
    · rw [j2, xUa]
    · rw [xUk j2]
      by_cases j1 : j = 1
      · rw [j1, xUa]
      · rw [xUk j1, show j = 0 by omega, xUa]
  · rw [xUk (by decide), xUa]
  · rw [xUa]
  · rw [xUn (by omega), xUn (by omega)]
    show (if w + 1 = w + 1 ∧ 0 ≤ j ∧ j < 0 + 4 then b (v + 1) (0 + (j - 0)) else _) = _
    rw [if_pos ⟨rfl, j0, by omega⟩, show 0 + (j - 0) = j by omega]
  · rw [xUn (by omega), xUn (by omega), xUn (by omega), xUn (by omega), xUn (by omega), xUn (by omega), xUn (by omega)]
    unfold uFg
    rw [xUn (by omega), xUn (by omega), xUn (by omega), xCpN (by omega), xCpN (by omega)]
  · rw [xUn (by omega), xUn (by omega), xClN (by omega)]
  · have h0 : xAr (uFg w (xCp (xCp a (v + 2) (w + 2) 0 0 24) (v + 3) (w + 3) 0 0 6)) := by
      unfold uFg
      exact xAr_u (xAr_u (xAr_u (xAr_cp (xAr_cp hA)) xR0) xR0) xR0
    exact xAr_u (xAr_u (xAr_u (xAr_u (xAr_u (xAr_u (xAr_u h0 (hA _ _)) (hA _ _)) (hA _ _)) (hA _ _)) (hA _ _)) (hA _ _)) (hA _ _)
theorem uCx_cp (h : uCx n v r a b) (hc : uCopd w v a a' b b') : uCx n w r a' b' := by
  obtain ⟨⟨h1, h2, h3, h4, h5, h6, h7⟩, e6, e12, e8, e9, e10⟩ := h
  obtain ⟨c1, c2, c3, ⟨c4, c5⟩, c6, c7, c8⟩ := hc
  refine ⟨⟨h1, ⟨fun j j0 j1 => by rw [c4]; exact h2.1 j j0 j1, by rw [c4]; exact h2.2.1, fun x x0 xn hx => by rw [c5]; exact h2.2.2 x x0 xn hx⟩, fun f f0 f1 => ?_, fun f f0 f1 hf => by rw [c6 f (by omega) f1]; exact h4 f f0 f1 hf, h5, fun c c0 c1' => by rw [c2 c c0 c1']; exact h6 c c0 c1', by rw [c1 11 (by decide) (by decide)]; exact h7⟩, by rw [c1 6 (by decide) (by decide)]; exact e6, by rw [c1 12 (by decide) (by decide)]; exact e12, by rw [c1 8 (by decide) (by decide)]; exact e8, by rw [c1 9 (by decide) (by decide)]; exact e9, by rw [c1 10 (by decide) (by decide)]; exact e10⟩
  obtain ⟨m1, m2, m3⟩ := h3 f f0 f1
  have e := c6 f (by omega) (by omega)
  exact ⟨by rw [e]; exact m1, fun q q0 q1 hq => by rw [e]; exact m2 q q0 q1 hq, fun x x0 x1 => by rw [e]; exact m3 x x0 x1⟩
/-- goesOnAs -/
theorem u113 (hw : uWo w) (hv : uWo v) (hA : xAr a) (hd : 1 ≤ d) (hQ : ∀ z, (z = 0 ∨ z = 1) → Q (some (xV z)) (xS a b)) : pmCs ro d 113 [.ref w, .ref v] (xS a b) Q := by
  have a0 : ∀ g : Int, (g = 0 ∨ g = 1) → xAnd g 0 = 0 := fun g hg => by rcases hg with h | h <;> rw [h] <;> decide
  have a1 : ∀ g : Int, (g = 0 ∨ g = 1) → g % 2 = g := fun g hg => by omega
  have lk : ∀ (m : Nat) (i g : Int), i + (m : Int) = 24 → 0 ≤ i → (g = 0 ∨ g = 1) → pmWp ro 0 10 113 2 80 [some (.ref w), some (.ref v), some (xV g), some (xV i)] [] (xS a b) Q := by
    intro m
    induction m with
    | zero =>
      intro i g hi i0 hg
      exact w113k hw.1 hv.1 hw.2.1.2 hv.2.1.2 hA hg ⟨i0, by omega⟩ (fun _ => hQ g hg) (fun e => absurd (by omega) e) (fun e => absurd (by omega) e)
    | succ m ih =>
      intro i g hi i0 hg
      refine w113k hw.1 hv.1 hw.2.1.2 hv.2.1.2 hA hg ⟨i0, by omega⟩ (fun e => absurd e (by omega)) (fun _ _ => ?_) (fun _ _ => ?_)
      · rw [a0 g hg]
        exact ih (i + 1) 0 (by omega) (by omega) (by decide)
      · rw [a1 g hg]
        exact ih (i + 1) g (by omega) (by omega) hg
  have lm : ∀ (m : Nat) (i g : Int), i + (m : Int) = 4 → 0 ≤ i → (g = 0 ∨ g = 1) → pmWp ro 0 10 113 2 43 [some (.ref w), some (.ref v), some (xV g), some (xV i)] [] (xS a b) Q := by
    intro m
    induction m with
    | zero =>
      intro i g hi i0 hg
      exact w113m hw.1 hv.1 hw.2.1.2 hv.2.1.2 hA hg ⟨i0, by omega⟩ (fun _ => lk 24 0 g (by decide) (by decide) hg) (fun e => absurd (by omega) e) (fun e => absurd (by omega) e)
    | succ m ih =>
      intro i g hi i0 hg
      refine w113m hw.1 hv.1 hw.2.1.2 hv.2.1.2 hA hg ⟨i0, by omega⟩ (fun e => absurd e (by omega)) (fun _ _ => ?_) (fun _ _ => ?_)
      · rw [a0 g hg]
        exact ih (i + 1) 0 (by omega) (by omega) (by decide)
      · rw [a1 g hg]
        exact ih (i + 1) g (by omega) (by omega) hg
  refine pmCs_deep (d := 1) (xg113 (w113 hw.1 hv.1 hw.2.1.2 hv.2.1.2 hA (fun _ => lm 4 0 0 (by decide) (by decide) (by decide)) (fun _ _ => lm 4 0 0 (by decide) (by decide) (by decide)) (fun _ _ _ => lm 4 0 0 (by decide) (by decide) (by decide)) (fun _ _ _ => lm 4 0 1 (by decide) (by decide) (by decide)))) hd
end
end
