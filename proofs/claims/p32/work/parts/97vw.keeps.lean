/-! keeping of the reference -/
section
set_option maxRecDepth 100000


section
variable {ro : Nat → Nat × (Nat → Int32)} {d : Nat} {Q : Option Value → pmS → Prop} {dr wp pr cnt W : Int → Int} {T : Int → List Int} {n f k p x c s m i t wh bg : Int} {r r' R : Int → Int} {a a' : xA} {b b' : xB}

/-- actKeeps 226 -/
theorem u226 (hK : uRk pr cnt W T) (hS : uSx dr wp pr cnt W T n a b) (hR : a 88 = R) (hrow : uRow n m R) (hm : 0 ≤ m ∧ m ≤ 20) (hc : 0 ≤ c ∧ c ≤ 56) (hs : 0 ≤ s ∧ s ≤ 5) (hsh : uShl s R a) (hd : 8 ≤ d) (hQ : ∀ a' b' z, uPq a a' b b' → uSx dr wp pr cnt W T n a' b' → a' 88 = R → (∀ j, j < 120 * (s + 1) → a' 89 j = a 89 j) → (z = 0 ∨ z = 1) → Q (some (xV z)) (xS a' b')) : pmCs ro d 226 [.ref 87, xV c, xV s] (xS a b) Q := by
  have hn0 : 0 ≤ n ∧ n ≤ 5 := hS.1.2.1.2.2.1
  have hs7 : 0 ≤ s ∧ s ≤ 7 := ⟨hs.1, by omega⟩
  obtain ⟨r1, y1, y2, y3, y4, y5, y6⟩ := hrow
  have hrow1 : uRow n (m + 1) (uAx n c R) := uRow_x hn0 (by omega) ⟨r1, y1, y2, y3, y4, y5, y6⟩ hc
  have out1 : ∀ j, j < 0 ∨ 120 ≤ j → uAx n c R j = R j := fun j hj => uAx_n hn0 r1 hc hj
  refine pmCs_deep (d := 8) (xg226 (w226 ?_)) hd
  refine u221 hS.1.1 hS.1.2.1.2.1 hn0 (by rw [hR]; exact r1) (by rw [hR]; omega) (by rw [hR]; omega) (by rw [hR]; omega) hc (by decide) (fun a1 x1 A1 R1 => w226a hs7 (u181 (by omega) (by decide) (w226b ?_)))
  rw [hR] at R1
  -- the loop
  obtain ⟨R2, eR2⟩ : ∃ R2, uAx n c R = R2 := ⟨_, rfl⟩
  rw [eR2] at hrow1 out1 R1
  have fin : ∀ (a2 : xA) (b2 : xB) (g k : Int), (g = 0 ∨ g = 1) → (-1 ≤ k ∧ k ≤ 61) → uPq a a2 b b2 → uSx dr wp pr cnt W T n a2 b2 → a2 88 = R2 → (∀ j, j < 120 * (s + 1) → a2 89 j = a 89 j) → pmWp ro 7 12 226 2 80 [some (.ref 87), some (xV c), some (xV s), some (xV g), some (xV k)] [] (xS a2 b2) Q := by
    intro a2 b2 g k hg hk i1 i2 i3 i5
    refine w226e hg hk (u227 (by omega) (by decide) (w226f hg hk ?_))
    refine hQ _ b2 g (uPq_t i1 (uPq_8 (fun q j _ e => uTa_n e))) (uSx_8 i2 (xAr_ta i2.1.1) (fun q j _ e => uTa_n e)) (uTa_row (uShl_o ⟨hs.1, by omega⟩ hsh i5) (fun j hj => by rw [i3]; exact out1 j hj)) (fun j hj => ?_) hg
    rw [uTa_n (by decide)]
    exact i5 j hj
  have loop : ∀ (w : Nat) (k g : Int) (a2 : xA) (b2 : xB), k + (w : Int) = 61 → -1 ≤ k → (g = 0 ∨ g = 1) → uPq a a2 b b2 → uSx dr wp pr cnt W T n a2 b2 → a2 88 = R2 → uShl (s + 1) R2 a2 → (∀ j, j < 120 * (s + 1) → a2 89 j = a 89 j) → pmWp ro 7 12 226 2 17 [some (.ref 87), some (xV c), some (xV s), some (xV g), some (xV k)] [] (xS a2 b2) Q := by
    intro w
    induction w with
    | zero =>
      intro k g a2 b2 hk k0 hg i1 i2 i3 i4 i5
      exact w226k hg ⟨k0, by omega⟩ (fun _ => fin a2 b2 g k hg ⟨k0, by omega⟩ i1 i2 i3 i5) (fun e => absurd (by omega) e) (fun e => absurd (by omega) e) (fun e => absurd (by omega) e)
    | succ w ih =>
      intro k g a2 b2 hk k0 hg i1 i2 i3 i4 i5
      have hkk : -1 ≤ k ∧ k ≤ 61 := ⟨k0, by omega⟩
      have nxt : ∀ (g2 : Int) (a3 : xA) (b3 : xB), (g2 = 0 ∨ g2 = 1) → uPq a a3 b b3 → uSx dr wp pr cnt W T n a3 b3 → a3 88 = R2 → uShl (s + 1) R2 a3 → (∀ j, j < 120 * (s + 1) → a3 89 j = a 89 j) → pmWp ro 7 12 226 2 74 [some (.ref 87), some (xV c), some (xV s), some (xV g2), some (xV k)] [] (xS a3 b3) Q := fun g2 a3 b3 hg2 j1 j2 j3 j4 j5 => w226n hg2 hkk (ih (k + 1) g2 a3 b3 (by omega) (by omega) hg2 j1 j2 j3 j4 j5)
      -- behind a turn: the row is taken up again
      have back : ∀ (g2 : Int) (a3 : xA) (b3 : xB), (g2 = 0 ∨ g2 = 1) → uPq a a3 b b3 → uSx dr wp pr cnt W T n a3 b3 → (∀ j, j < 0 ∨ 120 ≤ j → a3 88 j = R2 j) → uShl (s + 1) R2 a3 → (∀ j, j < 120 * (s + 1) → a3 89 j = a 89 j) → pmWp ro 7 12 226 2 67 [some (.ref 87), some (xV c), some (xV s), some (xV g2), some (xV k)] [] (xS a3 b3) Q := by
        intro g2 a3 b3 hg2 j1 j2 j3 j4 j5
        refine w226t hg2 hkk hs7 (u227 (by omega) (by decide) (nxt g2 _ b3 hg2 (uPq_t j1 (uPq_8 (fun q j _ e => uTa_n e))) (uSx_8 j2 (xAr_ta j2.1.1) (fun q j _ e => uTa_n e)) (uTa_row j4 j3) (fun j j0 j1 => ?_) (fun j hj => ?_)))
        · rw [uTa_n (by decide)]
          exact j4 j j0 j1
        · rw [uTa_n (by decide)]
          exact j5 j hj
      have goes : (k = -1 ∨ ((0 ≤ k ∧ k < 61) ∧ (¬ a2 88 0 = 7 → uCp n 0 k (a2 88)))) → pmWp ro 7 12 226 2 47 [some (.ref 87), some (xV c), some (xV s), some (xV g), some (xV k)] [] (xS a2 b2) Q := by
        intro hcp
        refine w226p hg hkk (u208x (m := m + 1) hK i2 (by rw [i3]; exact hrow1) (by omega) hcp (by decide) (by decide) (fun a3 b3 f3 S3 w3 o3 => ?_))
        have p3 : uPq a a3 b b3 := uPq_t i1 (uPq_m f3)
        have e89 : ∀ j, a3 89 j = a2 89 j := fun j => f3.1 89 j (by decide) (by decide) (by decide) (by decide) (by decide) (by decide) (by decide) (by decide) (by decide) (by decide) (by decide) (by decide) (by omega)
        have j3 : ∀ j, j < 0 ∨ 120 ≤ j → a3 88 j = R2 j := fun j hj => by rw [o3 j hj, i3]
        have j4 : uShl (s + 1) R2 a3 := fun j j0 j1 => by rw [e89]; exact i4 j j0 j1
        have j5 : ∀ j, j < 120 * (s + 1) → a3 89 j = a 89 j := fun j hj => by rw [e89]; exact i5 j hj
        refine w226q hg hkk (u224 S3.1.1 S3.2.2.1 S3.2.2.2 (by decide) (fun z hz => ?_))
        exact w226r hg hkk hz hs7 (fun _ => back 0 a3 b3 (by decide) p3 S3 j3 j4 j5) (fun _ => back 1 a3 b3 (by decide) p3 S3 j3 j4 j5)
      refine w226k hg hkk (fun e => absurd e (by omega)) (fun _ _ => fin a2 b2 g k hg hkk i1 i2 i3 i5) (fun _ _ e => goes (Or.inl e)) (fun _ _ e => ?_)
      have hk60 : 0 ≤ k ∧ k < 61 := ⟨by omega, by omega⟩
      have hr2 : uRv n (a2 88) := by rw [i3]; exact hrow1.1
      refine u206 i2.1.1 i2.1.2.1 i2.1.2.2.1 hr2 (by decide) hk60 (by decide) (fun h => w226z hg hkk (by decide) (fun _ => goes (Or.inr ⟨hk60, fun _ => uCa_p hr2 hk60 h⟩)) (fun e => absurd e (by decide))) (fun h => w226z hg hkk (by decide) (fun e => absurd rfl e) (fun _ => nxt g a2 b2 hg i1 i2 i3 i4 i5))
  have e1 : ∀ q j, ¬ q = 89 → q ≠ 88 → (uLa (s + 1) a1) q j = a q j := fun q j e e2 => (uLa_n e).trans (x1 q j e2)
  have e88 : (uLa (s + 1) a1) 88 = a1 88 := funext fun j => uLa_n (by decide)
  refine loop 62 (-1) 1 (uLa (s + 1) a1) b (by decide) (by decide) (by decide) (uPq_8 e1) (uSx_8 hS (xAr_la A1) e1) (by rw [e88]; exact R1) (by rw [← R1]; exact uLa_s) (fun j hj => (uLa_lo hj).trans (x1 89 j (by decide)))

/-- isKept 225 -/
theorem u225 (hK : uRk pr cnt W T) (hS : uSx dr wp pr cnt W T n a b) (hR : a 88 = R) (hrow : uRow n m R) (hm : 0 ≤ m ∧ m ≤ 20) (hs : 0 ≤ s ∧ s ≤ 5) (hd : 9 ≤ d) (hQ : ∀ a' b' z, uPq a a' b b' → uSx dr wp pr cnt W T n a' b' → a' 88 = R → (∀ j, j < 120 * s → a' 89 j = a 89 j) → (z = 0 ∨ z = 1) → Q (some (xV z)) (xS a' b')) : pmCs ro d 225 [.ref 87, xV s] (xS a b) Q := by
  have hn0 : 0 ≤ n ∧ n ≤ 5 := hS.1.2.1.2.2.1
  have hrow0 := hrow
  obtain ⟨r1, y1, y2, y3, y4, y5, y6⟩ := hrow
  refine pmCs_deep (d := 9) (xg225 (w225 (u181 (by omega) (by decide) (w225a ?_)))) hd
  have loop : ∀ (w : Nat) (c : Int) (a2 : xA) (b2 : xB), c + (w : Int) = 57 → 0 ≤ c → uPq a a2 b b2 → uSx dr wp pr cnt W T n a2 b2 → a2 88 = R → uShl s R a2 → (∀ j, j < 120 * s → a2 89 j = a 89 j) → pmWp ro 8 12 225 2 7 [some (.ref 87), some (xV s), some (xV c)] [] (xS a2 b2) Q := by
    intro w
    induction w with
    | zero =>
      intro c a2 b2 hc c0 i1 i2 i3 i4 i5
      exact w225c ⟨c0, by omega⟩ (fun _ => hQ a2 b2 0 i1 i2 i3 i5 (by decide)) (fun e => absurd (by omega) e)
    | succ w ih =>
      intro c a2 b2 hc c0 i1 i2 i3 i4 i5
      have nxt : ∀ (a3 : xA) (b3 : xB), uPq a a3 b b3 → uSx dr wp pr cnt W T n a3 b3 → a3 88 = R → uShl s R a3 → (∀ j, j < 120 * s → a3 89 j = a 89 j) → pmWp ro 8 12 225 2 32 [some (.ref 87), some (xV s), some (xV c)] [] (xS a3 b3) Q := fun a3 b3 j1 j2 j3 j4 j5 => w225n (ih (c + 1) a3 b3 (by omega) (by omega) j1 j2 j3 j4 j5)
      refine w225c ⟨c0, by omega⟩ (fun e => absurd e (by omega)) (fun _ => ?_)
      have hr2 : uRv n (a2 88) := by rw [i3]; exact r1
      refine u217 i2.1.1 i2.1.2.1.2.1 hn0 i2.1.2.2.1 hr2 (by rw [i3]; omega) (by rw [i3]; exact y2) ⟨c0, by omega⟩ (by decide) (fun _ => w225z (by decide) (fun e => absurd e (by decide)) (fun _ => ?_)) (fun _ => w225z (by decide) (fun _ => nxt a2 b2 i1 i2 i3 i4 i5) (fun e => absurd rfl e))
      refine u226 hK i2 i3 hrow0 hm ⟨c0, by omega⟩ hs i4 (by decide) (fun a3 b3 z f3 S3 e3 l3 hz => ?_)
      have k4 : uShl s R a3 := uShl_o (x := s + 1) ⟨hs.1, by omega⟩ i4 l3
      have k5 : ∀ j, j < 120 * s → a3 89 j = a 89 j := fun j hj => (l3 j (by omega)).trans (i5 j hj)
      exact w225y hz (fun _ => nxt a3 b3 (uPq_t i1 f3) S3 e3 k4 k5) (fun _ => hQ a3 b3 1 (uPq_t i1 f3) S3 e3 k5 (by decide))
  have e1 : ∀ q j, ¬ q = 89 → q ≠ 88 → (uLa s a) q j = a q j := fun q j e _ => uLa_n e
  have e88 : (uLa s a) 88 = a 88 := funext fun j => uLa_n (by decide)
  refine loop 57 0 (uLa s a) b (by decide) (by decide) (uPq_8 e1) (uSx_8 hS (xAr_la hS.1.1) e1) (by rw [e88]; exact hR) (by rw [← hR]; exact uLa_s) (fun j hj => uLa_lo hj)

/-- actKeeps 229 -/
theorem u229 (hK : uRk pr cnt W T) (hS : uSx dr wp pr cnt W T n a b) (hR : a 88 = R) (hrow : uRow n m R) (hm : 0 ≤ m ∧ m ≤ 18) (hc : 0 ≤ c ∧ c ≤ 56) (hs : 0 ≤ s ∧ s ≤ 3) (hsh : uShl s R a) (hd : 10 ≤ d) (hQ : ∀ a' b' z, uPq a a' b b' → uSx dr wp pr cnt W T n a' b' → a' 88 = R → (∀ j, j < 120 * (s + 1) → a' 89 j = a 89 j) → (z = 0 ∨ z = 1) → Q (some (xV z)) (xS a' b')) : pmCs ro d 229 [.ref 87, xV c, xV s] (xS a b) Q := by
  have hn0 : 0 ≤ n ∧ n ≤ 5 := hS.1.2.1.2.2.1
  have hs7 : 0 ≤ s ∧ s ≤ 7 := ⟨hs.1, by omega⟩
  obtain ⟨r1, y1, y2, y3, y4, y5, y6⟩ := hrow
  have hrow1 : uRow n (m + 1) (uAx n c R) := uRow_x hn0 (by omega) ⟨r1, y1, y2, y3, y4, y5, y6⟩ hc
  have out1 : ∀ j, j < 0 ∨ 120 ≤ j → uAx n c R j = R j := fun j hj => uAx_n hn0 r1 hc hj
  refine pmCs_deep (d := 10) (xg229 (w229 ?_)) hd
  refine u221 hS.1.1 hS.1.2.1.2.1 hn0 (by rw [hR]; exact r1) (by rw [hR]; omega) (by rw [hR]; omega) (by rw [hR]; omega) hc (by decide) (fun a1 x1 A1 R1 => w229a hs7 (u181 (by omega) (by decide) (w229b ?_)))
  rw [hR] at R1
  -- the loop
  obtain ⟨R2, eR2⟩ : ∃ R2, uAx n c R = R2 := ⟨_, rfl⟩
  rw [eR2] at hrow1 out1 R1
  have fin : ∀ (a2 : xA) (b2 : xB) (g k : Int), (g = 0 ∨ g = 1) → (-1 ≤ k ∧ k ≤ 61) → uPq a a2 b b2 → uSx dr wp pr cnt W T n a2 b2 → a2 88 = R2 → (∀ j, j < 120 * (s + 1) → a2 89 j = a 89 j) → pmWp ro 9 12 229 2 90 [some (.ref 87), some (xV c), some (xV s), some (xV g), some (xV k)] [] (xS a2 b2) Q := by
    intro a2 b2 g k hg hk i1 i2 i3 i5
    refine w229e hg hk (u227 (by omega) (by decide) (w229f hg hk ?_))
    refine hQ _ b2 g (uPq_t i1 (uPq_8 (fun q j _ e => uTa_n e))) (uSx_8 i2 (xAr_ta i2.1.1) (fun q j _ e => uTa_n e)) (uTa_row (uShl_o ⟨hs.1, by omega⟩ hsh i5) (fun j hj => by rw [i3]; exact out1 j hj)) (fun j hj => ?_) hg
    rw [uTa_n (by decide)]
    exact i5 j hj
  have loop : ∀ (w : Nat) (k g : Int) (a2 : xA) (b2 : xB), k + (w : Int) = 61 → -1 ≤ k → (g = 0 ∨ g = 1) → uPq a a2 b b2 → uSx dr wp pr cnt W T n a2 b2 → a2 88 = R2 → uShl (s + 1) R2 a2 → (∀ j, j < 120 * (s + 1) → a2 89 j = a 89 j) → pmWp ro 9 12 229 2 17 [some (.ref 87), some (xV c), some (xV s), some (xV g), some (xV k)] [] (xS a2 b2) Q := by
    intro w
    induction w with
    | zero =>
      intro k g a2 b2 hk k0 hg i1 i2 i3 i4 i5
      exact w229k hg ⟨k0, by omega⟩ (fun _ => fin a2 b2 g k hg ⟨k0, by omega⟩ i1 i2 i3 i5) (fun e => absurd (by omega) e) (fun e => absurd (by omega) e) (fun e => absurd (by omega) e)
    | succ w ih =>
      intro k g a2 b2 hk k0 hg i1 i2 i3 i4 i5
      have hkk : -1 ≤ k ∧ k ≤ 61 := ⟨k0, by omega⟩
      have nxt : ∀ (g2 : Int) (a3 : xA) (b3 : xB), (g2 = 0 ∨ g2 = 1) → uPq a a3 b b3 → uSx dr wp pr cnt W T n a3 b3 → a3 88 = R2 → uShl (s + 1) R2 a3 → (∀ j, j < 120 * (s + 1) → a3 89 j = a 89 j) → pmWp ro 9 12 229 2 84 [some (.ref 87), some (xV c), some (xV s), some (xV g2), some (xV k)] [] (xS a3 b3) Q := fun g2 a3 b3 hg2 j1 j2 j3 j4 j5 => w229n hg2 hkk (ih (k + 1) g2 a3 b3 (by omega) (by omega) hg2 j1 j2 j3 j4 j5)
      -- behind a turn: the row is taken up again
      have back : ∀ (g2 : Int) (a3 : xA) (b3 : xB), (g2 = 0 ∨ g2 = 1) → uPq a a3 b b3 → uSx dr wp pr cnt W T n a3 b3 → (∀ j, j < 0 ∨ 120 ≤ j → a3 88 j = R2 j) → uShl (s + 1) R2 a3 → (∀ j, j < 120 * (s + 1) → a3 89 j = a 89 j) → pmWp ro 9 12 229 2 77 [some (.ref 87), some (xV c), some (xV s), some (xV g2), some (xV k)] [] (xS a3 b3) Q := by
        intro g2 a3 b3 hg2 j1 j2 j3 j4 j5
        refine w229t hg2 hkk hs7 (u227 (by omega) (by decide) (nxt g2 _ b3 hg2 (uPq_t j1 (uPq_8 (fun q j _ e => uTa_n e))) (uSx_8 j2 (xAr_ta j2.1.1) (fun q j _ e => uTa_n e)) (uTa_row j4 j3) (fun j j0 j1 => ?_) (fun j hj => ?_)))
        · rw [uTa_n (by decide)]
          exact j4 j j0 j1
        · rw [uTa_n (by decide)]
          exact j5 j hj
      have goes : (k = -1 ∨ ((0 ≤ k ∧ k < 61) ∧ (¬ a2 88 0 = 7 → uCp n 0 k (a2 88)))) → pmWp ro 9 12 229 2 47 [some (.ref 87), some (xV c), some (xV s), some (xV g), some (xV k)] [] (xS a2 b2) Q := by
        intro hcp
        refine w229p hg hkk (u208x (m := m + 1) hK i2 (by rw [i3]; exact hrow1) (by omega) hcp (by decide) (by decide) (fun a3 b3 f3 S3 w3 o3 => ?_))
        have p3 : uPq a a3 b b3 := uPq_t i1 (uPq_m f3)
        have e89 : ∀ j, a3 89 j = a2 89 j := fun j => f3.1 89 j (by decide) (by decide) (by decide) (by decide) (by decide) (by decide) (by decide) (by decide) (by decide) (by decide) (by decide) (by decide) (by omega)
        have j3 : ∀ j, j < 0 ∨ 120 ≤ j → a3 88 j = R2 j := fun j hj => by rw [o3 j hj, i3]
        have j4 : uShl (s + 1) R2 a3 := fun j j0 j1 => by rw [e89]; exact i4 j j0 j1
        have j5 : ∀ j, j < 120 * (s + 1) → a3 89 j = a 89 j := fun j hj => by rw [e89]; exact i5 j hj
        refine w229q hg hkk (u224 S3.1.1 S3.2.2.1 S3.2.2.2 (by decide) (fun z hz => ?_))
        refine w229r hg hkk hz hs7 (fun _ => back 0 a3 b3 (by decide) p3 S3 j3 j4 j5) (fun _ => ?_)
        refine u225 (m := m + 2) hK S3 rfl (by rw [show m + 2 = m + 1 + 1 by omega]; exact w3) (by omega) (by omega) (by decide) (fun a4 b4 z2 f4 S4 e4 l4 hz2 => ?_)
        have k3 : ∀ j, j < 0 ∨ 120 ≤ j → a4 88 j = R2 j := fun j hj => by rw [e4]; exact j3 j hj
        have k4 : uShl (s + 1) R2 a4 := uShl_o (x := s + 2) ⟨by omega, by omega⟩ j4 l4
        have k5 : ∀ j, j < 120 * (s + 1) → a4 89 j = a 89 j := fun j hj => (l4 j (by omega)).trans (j5 j hj)
        exact w229x hg hkk hz2 (fun _ => back 0 a4 b4 (by decide) (uPq_t p3 f4) S4 k3 k4 k5) (fun _ => back 1 a4 b4 (by decide) (uPq_t p3 f4) S4 k3 k4 k5)
      refine w229k hg hkk (fun e => absurd e (by omega)) (fun _ _ => fin a2 b2 g k hg hkk i1 i2 i3 i5) (fun _ _ e => goes (Or.inl e)) (fun _ _ e => ?_)
      have hk60 : 0 ≤ k ∧ k < 61 := ⟨by omega, by omega⟩
      have hr2 : uRv n (a2 88) := by rw [i3]; exact hrow1.1
      refine u206 i2.1.1 i2.1.2.1 i2.1.2.2.1 hr2 (by decide) hk60 (by decide) (fun h => w229z hg hkk (by decide) (fun _ => goes (Or.inr ⟨hk60, fun _ => uCa_p hr2 hk60 h⟩)) (fun e => absurd e (by decide))) (fun h => w229z hg hkk (by decide) (fun e => absurd rfl e) (fun _ => nxt g a2 b2 hg i1 i2 i3 i4 i5))
  have e1 : ∀ q j, ¬ q = 89 → q ≠ 88 → (uLa (s + 1) a1) q j = a q j := fun q j e e2 => (uLa_n e).trans (x1 q j e2)
  have e88 : (uLa (s + 1) a1) 88 = a1 88 := funext fun j => uLa_n (by decide)
  refine loop 62 (-1) 1 (uLa (s + 1) a1) b (by decide) (by decide) (by decide) (uPq_8 e1) (uSx_8 hS (xAr_la A1) e1) (by rw [e88]; exact R1) (by rw [← R1]; exact uLa_s) (fun j hj => (uLa_lo hj).trans (x1 89 j (by decide)))

/-- isKept 228 -/
theorem u228 (hK : uRk pr cnt W T) (hS : uSx dr wp pr cnt W T n a b) (hR : a 88 = R) (hrow : uRow n m R) (hm : 0 ≤ m ∧ m ≤ 18) (hs : 0 ≤ s ∧ s ≤ 3) (hd : 11 ≤ d) (hQ : ∀ a' b' z, uPq a a' b b' → uSx dr wp pr cnt W T n a' b' → a' 88 = R → (∀ j, j < 120 * s → a' 89 j = a 89 j) → (z = 0 ∨ z = 1) → Q (some (xV z)) (xS a' b')) : pmCs ro d 228 [.ref 87, xV s] (xS a b) Q := by
  have hn0 : 0 ≤ n ∧ n ≤ 5 := hS.1.2.1.2.2.1
  have hrow0 := hrow
  obtain ⟨r1, y1, y2, y3, y4, y5, y6⟩ := hrow
  refine pmCs_deep (d := 11) (xg228 (w228 (u181 (by omega) (by decide) (w228a ?_)))) hd
  have loop : ∀ (w : Nat) (c : Int) (a2 : xA) (b2 : xB), c + (w : Int) = 57 → 0 ≤ c → uPq a a2 b b2 → uSx dr wp pr cnt W T n a2 b2 → a2 88 = R → uShl s R a2 → (∀ j, j < 120 * s → a2 89 j = a 89 j) → pmWp ro 10 12 228 2 7 [some (.ref 87), some (xV s), some (xV c)] [] (xS a2 b2) Q := by
    intro w
    induction w with
    | zero =>
      intro c a2 b2 hc c0 i1 i2 i3 i4 i5
      exact w228c ⟨c0, by omega⟩ (fun _ => hQ a2 b2 0 i1 i2 i3 i5 (by decide)) (fun e => absurd (by omega) e)
    | succ w ih =>
      intro c a2 b2 hc c0 i1 i2 i3 i4 i5
      have nxt : ∀ (a3 : xA) (b3 : xB), uPq a a3 b b3 → uSx dr wp pr cnt W T n a3 b3 → a3 88 = R → uShl s R a3 → (∀ j, j < 120 * s → a3 89 j = a 89 j) → pmWp ro 10 12 228 2 32 [some (.ref 87), some (xV s), some (xV c)] [] (xS a3 b3) Q := fun a3 b3 j1 j2 j3 j4 j5 => w228n (ih (c + 1) a3 b3 (by omega) (by omega) j1 j2 j3 j4 j5)
      refine w228c ⟨c0, by omega⟩ (fun e => absurd e (by omega)) (fun _ => ?_)
      have hr2 : uRv n (a2 88) := by rw [i3]; exact r1
      refine u217 i2.1.1 i2.1.2.1.2.1 hn0 i2.1.2.2.1 hr2 (by rw [i3]; omega) (by rw [i3]; exact y2) ⟨c0, by omega⟩ (by decide) (fun _ => w228z (by decide) (fun e => absurd e (by decide)) (fun _ => ?_)) (fun _ => w228z (by decide) (fun _ => nxt a2 b2 i1 i2 i3 i4 i5) (fun e => absurd rfl e))
      refine u229 hK i2 i3 hrow0 hm ⟨c0, by omega⟩ hs i4 (by decide) (fun a3 b3 z f3 S3 e3 l3 hz => ?_)
      have k4 : uShl s R a3 := uShl_o (x := s + 1) ⟨hs.1, by omega⟩ i4 l3
      have k5 : ∀ j, j < 120 * s → a3 89 j = a 89 j := fun j hj => (l3 j (by omega)).trans (i5 j hj)
      exact w228y hz (fun _ => nxt a3 b3 (uPq_t i1 f3) S3 e3 k4 k5) (fun _ => hQ a3 b3 1 (uPq_t i1 f3) S3 e3 k5 (by decide))
  have e1 : ∀ q j, ¬ q = 89 → q ≠ 88 → (uLa s a) q j = a q j := fun q j e _ => uLa_n e
  have e88 : (uLa s a) 88 = a 88 := funext fun j => uLa_n (by decide)
  refine loop 57 0 (uLa s a) b (by decide) (by decide) (uPq_8 e1) (uSx_8 hS (xAr_la hS.1.1) e1) (by rw [e88]; exact hR) (by rw [← hR]; exact uLa_s) (fun j hj => uLa_lo hj)

/-- what a question about keeping leaves -/
def uKq (dr wp pr cnt W : Int → Int) (T : Int → List Int) (n : Int) (a a' : xA) (b b' : xB) : Prop := uPq a a' b b' ∧ uSx dr wp pr cnt W T n a' b' ∧ a' 88 = a 88 ∧ ∀ j, j < 120 → a' 89 j = a 89 j
theorem uKq_r (hS : uSx dr wp pr cnt W T n a b) : uKq dr wp pr cnt W T n a a b b := ⟨uPq_r, hS, rfl, fun _ _ => rfl⟩
theorem u223 (q1 : xR t) (hK : uRk pr cnt W T) (hS : uSx dr wp pr cnt W T n a b) (hrow : uRow n 0 (a 88)) (hb : a 87 4 = bg) (hbg : bg = 0 ∨ bg = 1) (hd : 13 ≤ d) (hQ : ∀ a' b' z, uKq dr wp pr cnt W T n a a' b b' → (-1 ≤ z ∧ z ≤ 1) → Q (some (xV z)) (xS a' b')) : pmCs ro d 223 [.ref 87, xV t] (xS a b) Q := by
  have no := hQ a b (-1) (uKq_r hS) (by decide)
  refine pmCs_deep (d := 13) (xg223 (w223 q1 hb hbg (by decide) (fun _ => no) (fun _ ht => ?_) (fun _ _ => no))) hd
  refine u224 hS.1.1 hS.2.2.1 hS.2.2.2 (by decide) (fun z hz => ?_)
  refine w223a ht hz (fun _ _ _ => ?_) (fun _ _ _ => ?_) (fun _ _ => hQ a b 1 (uKq_r hS) (by decide)) (fun _ => hQ a b 0 (uKq_r hS) (by decide))
  · refine u228 (m := 0) hK hS rfl hrow (by decide) (by decide) (by decide) (fun a2 b2 z2 f2 S2 e2 l2 hz2 => ?_)
    exact w223c hz2 (fun _ => hQ a2 b2 0 ⟨f2, S2, e2, fun j hj => l2 j (by omega)⟩ (by decide)) (fun _ => hQ a2 b2 1 ⟨f2, S2, e2, fun j hj => l2 j (by omega)⟩ (by decide))
  · refine u225 (m := 0) hK hS rfl hrow (by decide) (by decide) (by decide) (fun a2 b2 z2 f2 S2 e2 l2 hz2 => ?_)
    exact w223b hz2 (fun _ => hQ a2 b2 0 ⟨f2, S2, e2, fun j hj => l2 j (by omega)⟩ (by decide)) (fun _ => hQ a2 b2 1 ⟨f2, S2, e2, fun j hj => l2 j (by omega)⟩ (by decide))
theorem u230 (hK : uRk pr cnt W T) (hS : uSx dr wp pr cnt W T n a b) (hrow : uRow n 0 (a 88)) (hb : a 87 4 = bg) (hbg : bg = 0 ∨ bg = 1) (hd : 13 ≤ d) (hQ : ∀ a' b' z, uKq dr wp pr cnt W T n a a' b b' → (-1 ≤ z ∧ z ≤ 3) → Q (some (xV z)) (xS a' b')) : pmCs ro d 230 [.ref 87] (xS a b) Q := by
  refine pmCs_deep (d := 13) (xg230 (w230 hb hbg (by decide) (fun _ => ?_) (fun _ => hQ a b (-1) (uKq_r hS) (by decide)))) hd
  refine u224 hS.1.1 hS.2.2.1 hS.2.2.2 (by decide) (fun z hz => ?_)
  refine w230a hz (fun _ => ?_) (fun _ => hQ a b 0 (uKq_r hS) (by decide))
  refine u225 (m := 0) hK hS rfl hrow (by decide) (by decide) (by decide) (fun a2 b2 z2 f2 S2 e2 l2 hz2 => ?_)
  refine w230b hz2 (fun _ => ?_) (fun _ => hQ a2 b2 1 ⟨f2, S2, e2, fun j hj => l2 j (by omega)⟩ (by decide))
  refine u228 (m := 0) hK S2 e2 hrow (by decide) (by decide) (by decide) (fun a3 b3 z3 f3 S3 e3 l3 hz3 => ?_)
  have g : uKq dr wp pr cnt W T n a a3 b b3 := ⟨uPq_t f2 f3, S3, e3, fun j hj => (l3 j (by omega)).trans (l2 j (by omega))⟩
  exact w230c hz3 (fun _ => hQ a3 b3 2 g (by decide)) (fun _ => hQ a3 b3 3 g (by decide))
theorem u231 (q1 : xR t) (q2 : xR wh) (hK : uRk pr cnt W T) (hS : uSx dr wp pr cnt W T n a b) (hrow : uRow n 0 (a 88)) (hb : a 87 4 = bg) (hbg : bg = 0 ∨ bg = 1) (hd : 13 ≤ d) (hQ : ∀ a' b' z, uKq dr wp pr cnt W T n a a' b b' → (-2 ≤ z ∧ z ≤ 4000) → Q (some (xV z)) (xS a' b')) : pmCs ro d 231 [.ref 87, xV t, xV wh] (xS a b) Q := by
  have no := hQ a b (-1) (uKq_r hS) (by decide)
  have hn0 : 0 ≤ n ∧ n ≤ 5 := hS.1.2.1.2.2.1
  obtain ⟨R, eR⟩ : ∃ R, a 88 = R := ⟨_, rfl⟩
  have hrow0 := hrow
  rw [eR] at hrow
  obtain ⟨r1, y1, y2, y3, y4, y5, y6⟩ := hrow
  refine pmCs_deep (d := 13) (xg231 (wa231 q1 q2 hb hbg (by decide) (fun _ => no) (fun _ ht hw => ?_) (fun _ _ _ => no) (fun _ _ => no))) hd
  refine u224 hS.1.1 hS.2.2.1 hS.2.2.2 (by decide) (fun z hz => wa231a hz ht hw (fun _ => ?_) (fun _ => hQ a b (-2) (uKq_r hS) (by decide)))
  refine u181 (by decide) (by decide) (wa231b ?_)
  have loop : ∀ (w : Nat) (c bs : Int) (a2 : xA) (b2 : xB), c + (w : Int) = 57 → 0 ≤ c → (-1 ≤ bs ∧ bs ≤ 56) → uPq a a2 b b2 → uSx dr wp pr cnt W T n a2 b2 → a2 88 = R → uShl 1 R a2 → (∀ j, j < 120 → a2 89 j = a 89 j) → pmWp ro 12 12 231 1 47 [some (.ref 87), some (xV t), some (xV wh), some (xV bs), some (xV c)] [] (xS a2 b2) Q := by
    intro w
    induction w with
    | zero =>
      intro c bs a2 b2 hc c0 hbs i1 i2 i3 i4 i5
      have g : uKq dr wp pr cnt W T n a a2 b b2 := ⟨i1, i2, i3.trans eR.symm, i5⟩
      have h116 : 0 ≤ a2 88 116 ∧ a2 88 116 ≤ 1000 := by rw [i3]; omega
      have h117 : 0 ≤ a2 88 117 ∧ a2 88 117 ≤ 1000 := by rw [i3]; omega
      have hpb := uPr_b (c := bs) h116 h117
      refine wa231k ht hw hbs ⟨c0, by omega⟩ (fun _ => ?_) (fun e => absurd (by omega) e)
      refine wa231e ht hw hbs ⟨c0, by omega⟩ h116 h117 (by decide) ?_ ?_ ?_ ?_ ?_ ?_ ?_ ?_ ?_ ?_ ?_ <;> intros <;> exact hQ a2 b2 _ g (by omega)
    | succ w ih =>
      intro c bs a2 b2 hc c0 hbs i1 i2 i3 i4 i5
      have hc56 : 0 ≤ c ∧ c ≤ 56 := ⟨c0, by omega⟩
      have nxt : ∀ (bs : Int) (a3 : xA) (b3 : xB), (-1 ≤ bs ∧ bs ≤ 56) → uPq a a3 b b3 → uSx dr wp pr cnt W T n a3 b3 → a3 88 = R → uShl 1 R a3 → (∀ j, j < 120 → a3 89 j = a 89 j) → pmWp ro 12 12 231 1 116 [some (.ref 87), some (xV t), some (xV wh), some (xV bs), some (xV c)] [] (xS a3 b3) Q := fun bs a3 b3 hbs j1 j2 j3 j4 j5 => wa231n (ih (c + 1) bs a3 b3 (by omega) (by omega) hbs j1 j2 j3 j4 j5)
      refine wa231k ht hw hbs ⟨c0, by omega⟩ (fun e => absurd e (by omega)) (fun _ => ?_)
      have hr2 : uRv n (a2 88) := by rw [i3]; exact r1
      have h116 : 0 ≤ a2 88 116 ∧ a2 88 116 ≤ 1000 := by rw [i3]; omega
      have h117 : 0 ≤ a2 88 117 ∧ a2 88 117 ≤ 1000 := by rw [i3]; omega
      have tries : pmWp ro 12 12 231 1 85 [some (.ref 87), some (xV t), some (xV wh), some (xV bs), some (xV c)] [] (xS a2 b2) Q := by
        refine wa231y ht hw hbs hc56 (fun _ => ?_) (fun _ => ?_)
        · refine u229 (m := 0) hK i2 i3 (by rw [← eR]; exact hrow0) (by decide) hc56 (by decide) i4 (by decide) (fun a3 b3 z f3 S3 e3 l3 hz => ?_)
          have k4 : uShl 1 R a3 := uShl_o (x := 2) (by decide) i4 (fun j hj => l3 j (by omega))
          have k5 : ∀ j, j < 120 → a3 89 j = a 89 j := fun j hj => (l3 j (by omega)).trans (i5 j hj)
          exact wa231q ht hw hbs hc56 hz (fun _ => nxt bs a3 b3 hbs (uPq_t i1 f3) S3 e3 k4 k5) (fun _ => nxt c a3 b3 ⟨by omega, by omega⟩ (uPq_t i1 f3) S3 e3 k4 k5)
        · refine u226 (m := 0) hK i2 i3 (by rw [← eR]; exact hrow0) (by decide) hc56 (by decide) i4 (by decide) (fun a3 b3 z f3 S3 e3 l3 hz => ?_)
          have k4 : uShl 1 R a3 := uShl_o (x := 2) (by decide) i4 (fun j hj => l3 j (by omega))
          have k5 : ∀ j, j < 120 → a3 89 j = a 89 j := fun j hj => (l3 j (by omega)).trans (i5 j hj)
          exact wa231p ht hw hbs hc56 hz (fun _ => nxt bs a3 b3 hbs (uPq_t i1 f3) S3 e3 k4 k5) (fun _ => nxt c a3 b3 ⟨by omega, by omega⟩ (uPq_t i1 f3) S3 e3 k4 k5)
      refine u217 i2.1.1 i2.1.2.1.2.1 hn0 i2.1.2.2.1 hr2 (by rw [i3]; omega) (by rw [i3]; exact y2) hc56 (by decide) (fun _ => wa231z ht hw hbs hc56 (by decide) h116 h117 (by decide) (fun e => absurd e (by decide)) (fun _ _ => tries) (fun _ _ _ => tries) (fun _ _ _ => nxt bs a2 b2 hbs i1 i2 i3 i4 i5)) (fun _ => wa231z ht hw hbs hc56 (by decide) h116 h117 (by decide) (fun _ => nxt bs a2 b2 hbs i1 i2 i3 i4 i5) (fun e => absurd rfl e) (fun e => absurd rfl e) (fun e => absurd rfl e))
  have e1 : ∀ q j, ¬ q = 89 → q ≠ 88 → (uLa 1 a) q j = a q j := fun q j e _ => uLa_n e
  have e88 : (uLa 1 a) 88 = a 88 := funext fun j => uLa_n (by decide)
  refine loop 57 0 (-1) (uLa 1 a) b (by decide) (by decide) (by decide) (uPq_8 e1) (uSx_8 hS (xAr_la hS.1.1) e1) (by rw [e88]; exact eR) (by rw [← eR]; exact uLa_s) (fun j hj => uLa_lo (by omega))
end
end
