/-! the class looks for things -/
section
set_option maxRecDepth 100000


section
variable {ro : Nat → Nat × (Nat → Int32)} {d w : Nat} {Q : Option Value → pmS → Prop} {n f p k x : Int} {r r' : Int → Int} {a a' : xA} {b b' : xB}
/-- the truth of a world of the class's, by the row -/
def uRt (n : Int) (w : Nat) (r : Int → Int) (b : xB) : Prop := (∀ j, 0 ≤ j → j < 9 → uSl (b w 4) j = uWs n r j) ∧ uHi (b w 4) ∧ ∀ x, 0 ≤ x → x < n → r (4 + x) = 20 → uSt (b w 5) x = r (9 + x)
theorem uWi {l : Int64} {i c j : Int} (i0 : 0 ≤ i) (i1 : i < 16) (c0 : 0 ≤ c) (c1 : c < 16) (j0 : 0 ≤ j) (j1 : j < 16) : uSl (xWith l i c) j = if j = i then c else uSl l j := uWith (k := 4 * i) i0 i1 c0 c1 j0 j1 rfl
theorem uWs_c {j : Int} (h : r' j = r j) : uWs n r' j = uWs n r j := by
  unfold uWs
  generalize r' j = v at h ⊢
  subst h
  rfl
theorem uWs_v {j v : Int} (h : r j = v) (h4 : 4 ≤ j) (hn : j - 4 < n) (hv : v < 7) : uWs n r j = v + 1 := by
  unfold uWs
  generalize r j = u at h ⊢
  subst h
  rw [if_neg (show ¬ j < 4 by omega), if_pos hn, if_neg (show ¬ u = 20 by omega)]
  exact if_pos hv
/-- lookFor -/
theorem u60 (hz : uWz w) (hn0 : 0 ≤ n ∧ n ≤ 5) (hr : uRv n r) (hT : uRt n w r b) (hd : 2 ≤ d) (hQ : ∀ b', (∀ q j, ¬ (q = w ∧ (j = 4 ∨ j = 5)) → b' q j = b q j) → uRt n w (uLf n r) b' → Q none (xS a b')) : pmCs ro d 60 [.ref 43, .ref w] (xS a b) Q := by
  refine pmCs_deep (d := 2) (xg60 (w60 hz (by decide) ?_)) hd
  have lx : ∀ (m : Nat) (p x : Int) (r1 : Int → Int) (b1 : xB) (v5 : Option Value), x + (m : Int) = 5 → 0 ≤ x → 0 ≤ p ∧ p < 4 → (∀ q j, ¬ (q = w ∧ (j = 4 ∨ j = 5)) → b1 q j = b q j) → uRv n r1 → uRt n w r1 b1 → (∀ (b2 : xB) (v3 v4 v5 : Option Value), (∀ q j, ¬ (q = w ∧ (j = 4 ∨ j = 5)) → b2 q j = b q j) → uRt n w (uLr n p m x r1) b2 → pmWp ro 1 4 60 0 139 [some (.ref 43), some (.ref w), some (xV p), v3, v4, v5] [] (xS a b2) Q) →
      pmWp ro 1 4 60 0 21 [some (.ref 43), some (.ref w), some (xV p), some (xV (r1 p)), some (xV x), v5] [] (xS a b1) Q := by
    intro m
    induction m with
    | zero =>
      intro p x r1 b1 v5 hx x0 hp g1 g2 g3 K
      have h7 := g2.1 p hp.1 hp.2
      exact w60x hz (by decide) ⟨hp.1, by omega⟩ ⟨by omega, by omega⟩ ⟨x0, by omega⟩ (fun _ => K b1 _ _ _ g1 g3) (fun e => by omega) (fun e => by omega) (fun e => by omega) (fun e => by omega) (fun e => by omega)
    | succ m ih =>
      intro p x r1 b1 v5 hx x0 hp g1 g2 g3 K
      have h7 := g2.1 p hp.1 hp.2
      have hs := uWs_x g2 x0 (by omega)
      have eS := g3.1 (4 + x) (by omega) (by omega)
      have hst := g2.2.2.1 x x0 (by omega)
      have skip : ¬ ((x < n ∧ r1 (4 + x) = 20) ∧ ¬ r1 p = 7 ∧ ¬ r1 (9 + x) / ((2 ^ (r1 p).toNat : Nat) : Int) % 2 = 0) → ∀ v5, pmWp ro 1 4 60 0 133 [some (.ref 43), some (.ref w), some (xV p), some (xV (r1 p)), some (xV x), v5] [] (xS a b1) Q := fun hc v5 => w60n hz (by decide) ⟨x0, by omega⟩ (ih p (x + 1) r1 b1 _ (by omega) (by omega) hp g1 g2 g3 (fun b2 v3 v4 v5 k1 k2 => K b2 v3 v4 v5 k1 (by
        show uRt n w (uLr n p m (x + 1) (uL1 n p x r1)) b2
        rw [uL1_n hc]
        exact k2)))
      refine w60x hz (by decide) ⟨hp.1, by omega⟩ ⟨by omega, by omega⟩ ⟨x0, by omega⟩ (fun e => by omega) (fun _ e => by omega) (fun _ _ e => K b1 _ _ _ g1 (by rw [uLr_n (Or.inr (by omega))]; exact g3)) (fun _ _ _ e => skip (fun h => by omega) _) (fun _ _ e1 e2 e3 => skip (fun h => ?_) _) (fun _ _ e1 e2 e3 => ?_)
      · have e20 := g3.2.2 x x0 h.1.1 h.1.2
        rw [e20] at e3
        exact h.2.2 e3
      · rw [eS] at e2
        have hxn : x < n ∧ r1 (4 + x) = 20 := by omega
        have e20 := g3.2.2 x x0 hxn.1 hxn.2
        rw [e20] at e3
        have hcond : (x < n ∧ r1 (4 + x) = 20) ∧ ¬ r1 p = 7 ∧ ¬ r1 (9 + x) / ((2 ^ (r1 p).toNat : Nat) : Int) % 2 = 0 := ⟨hxn, by omega, e3⟩
        have hcl := uCl_b (z := r1 (9 + x)) (r := r1 p) hst.1 (by omega) h7.1 (by omega)
        have clr : ∀ y, 0 ≤ y → y < 9 → uSt ((xU b1 w 5 ((b1 w 5) &&& ((xShL (1 : Int64) (7 * x + r1 p)) ^^^ (-1 : Int64)))) w 5) y = if y = x then uCl (r1 (9 + x)) (r1 p) else uSt (b1 w 5) y := fun y y0 y1 => by
          rw [xUa, uSt_clr x0 (by omega) y0 y1 h7.1 (by omega) rfl, e20]
        obtain ⟨b2, eb2⟩ : ∃ z, xU b1 w 5 ((b1 w 5) &&& ((xShL (1 : Int64) (7 * x + r1 p)) ^^^ (-1 : Int64))) = z := ⟨_, rfl⟩
        have f2 : ∀ q j, ¬ (q = w ∧ (j = 4 ∨ j = 5)) → b2 q j = b q j := fun q j h => by
          rw [← eb2, xUo (fun e => h ⟨e.1, Or.inr e.2⟩)]
          exact g1 q j h
        have f4 : b2 w 4 = b1 w 4 := by rw [← eb2, xUk (by decide)]
        rw [eb2] at clr ⊢
        have ex : uSt (b2 w 5) x = uCl (r1 (9 + x)) (r1 p) := by rw [clr x x0 (by omega), if_pos rfl]
        refine w60y hz (by decide) ⟨x0, by omega⟩ (fun e4 => ?_) (fun e4 => ?_)
        · rw [ex] at e4
          have er : uL1 n p x r1 = fun j => if j = 9 + x then uCl (r1 (9 + x)) (r1 p) else r1 j := by
            unfold uL1
            rw [if_pos hcond, if_neg e4]
          refine w60n hz (by decide) ⟨x0, by omega⟩ ?_
          have ep : uL1 n p x r1 p = r1 p := uL1_lo x0 (by omega) (by omega)
          have := ih p (x + 1) (uL1 n p x r1) b2 v5 (by omega) (by omega) hp f2 (uRv_1 hn0.2 g2 hp ⟨x0, by omega⟩) ⟨fun j j0 j1 => ?_, ?_, fun y y0 yn hy => ?_⟩ K
          · rw [ep] at this
            exact this
          · rw [f4, g3.1 j j0 j1, er]
            exact (uWs_c (if_neg (show ¬ j = 9 + x by omega))).symm
          · rw [f4]
            exact g3.2.1
          · rw [er] at hy ⊢
            dsimp only at hy ⊢
            rw [if_neg (show ¬ 4 + y = 9 + x by omega)] at hy
            rw [clr y y0 (by omega)]
            by_cases c : y = x
            · rw [if_pos c, if_pos (by omega)]
            · rw [if_neg c, if_neg (by omega)]
              exact g3.2.2 y y0 yn hy
        · rw [ex] at e4
          have hne : ¬ uCl (r1 (9 + x)) (r1 p) = 0 := uBs_1 e4
          refine w60u hz (by decide) ⟨x0, by omega⟩ (by rw [ex]; omega) ?_
          rw [ex]
          obtain ⟨l1, l2, l3⟩ := uLo_one hcl.1 hcl.2 e4
          rw [l1]
          refine w60z hz (by decide) ⟨x0, by omega⟩ ⟨l3, by omega⟩ (w60n hz (by decide) ⟨x0, by omega⟩ ?_)
          have er : uL1 n p x r1 = fun j => if j = 9 + x then 0 else if j = 4 + x then uLo (uCl (r1 (9 + x)) (r1 p)) else r1 j := by
            unfold uL1
            rw [if_pos hcond, if_pos e4]
          have ep : uL1 n p x r1 p = r1 p := uL1_lo x0 (by omega) (by omega)
          have := ih p (x + 1) (uL1 n p x r1) (xU b2 w 4 (xWith (b2 w 4) (4 + x) (uLo (uCl (r1 (9 + x)) (r1 p)) + 1))) (some (xV (uLo (uCl (r1 (9 + x)) (r1 p))))) (by omega) (by omega) hp (fun q j h => by rw [xUo (fun e => h ⟨e.1, Or.inl e.2⟩)]; exact f2 q j h) (uRv_1 hn0.2 g2 hp ⟨x0, by omega⟩) ⟨fun j j0 j1 => ?_, fun j j0 j1 => ?_, fun y y0 yn hy => ?_⟩ K
          · rw [ep] at this
            exact this
          · rw [xUa, uWi (by omega) (by omega) (by omega) (by omega) j0 (by omega), f4, er]
            by_cases c : j = 4 + x
            · rw [if_pos c]
              have hj4 : 4 ≤ j := by omega
              have hjn : j - 4 < n := by omega
              refine (uWs_v ?_ hj4 hjn l2).symm
              rw [if_neg (show ¬ j = 9 + x by omega), if_pos c]
            · rw [if_neg c, g3.1 j j0 j1]
              refine (uWs_c ?_).symm
              rw [if_neg (show ¬ j = 9 + x by omega), if_neg c]
          · rw [xUa, uWi (by omega) (by omega) (by omega) (by omega) (by omega) j1, if_neg (by omega), f4]
            exact g3.2.1 j j0 j1
          · rw [xUk (by decide)]
            rw [er] at hy ⊢
            dsimp only at hy ⊢
            rw [if_neg (show ¬ 4 + y = 9 + x by omega)] at hy
            by_cases c : y = x
            · rw [if_pos (show 4 + y = 4 + x by omega)] at hy
              omega
            · rw [if_neg (show ¬ 4 + y = 4 + x by omega)] at hy
              rw [if_neg (show ¬ 9 + y = 9 + x by omega), if_neg (show ¬ 9 + y = 4 + x by omega), clr y y0 (by omega), if_neg c]
              exact g3.2.2 y y0 yn hy
  have lp : ∀ (m : Nat) (p : Int) (r1 : Int → Int) (b1 : xB) (v3 v4 v5 : Option Value), p + (m : Int) = 4 → 0 ≤ p → (∀ q j, ¬ (q = w ∧ (j = 4 ∨ j = 5)) → b1 q j = b q j) → uRv n r1 → uRt n w r1 b1 → uLq n m p r1 = uLf n r → pmWp ro 1 4 60 0 2 [some (.ref 43), some (.ref w), some (xV p), v3, v4, v5] [] (xS a b1) Q := by
    intro m
    induction m with
    | zero =>
      intro p r1 b1 v3 v4 v5 hp p0 g1 g2 g3 g4
      have g4 : r1 = uLf n r := g4
      exact w60p hz (by decide) ⟨p0, by omega⟩ (fun _ => hQ b1 g1 (by rw [← g4]; exact g3)) (fun e => by omega)
    | succ m ih =>
      intro p r1 b1 v3 v4 v5 hp p0 g1 g2 g3 g4
      refine w60p hz (by decide) ⟨p0, by omega⟩ (fun e => by omega) (fun _ => ?_)
      rw [g3.1 p p0 (by omega), uWs_p (by omega), show r1 p + 1 - 1 = r1 p by omega]
      refine lx 5 p 0 r1 b1 _ (by decide) (by decide) ⟨p0, by omega⟩ g1 g2 g3 (fun b2 v3 v4 v5 k1 k2 => w60m ⟨p0, by omega⟩ ?_)
      exact ih (p + 1) _ b2 _ _ _ (by omega) (by omega) k1 (uRv_r hn0.2 ⟨p0, by omega⟩ 5 0 _ g2 (by decide) (by decide)).1 k2 g4
  exact lp 4 0 r b _ _ _ (by decide) (by decide) (fun _ _ _ => rfl) hr hT rfl
end
end
