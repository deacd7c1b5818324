section
/-! the reference plays a turn, whole -/
section
set_option maxRecDepth 100000


section
variable {ro : Nat → Nat × (Nat → Int32)} {d : Nat} {Q : Option Value → pmS → Prop} {dr wp pr cnt W : Int → Int} {T : Int → List Int} {n f p k c wt : Int} {r r' R : Int → Int} {a a' : xA} {b b' : xB}
theorem uEn_o (h : uEn dr wp pr cnt W T n c wt a p r) (e : ∀ q, (q = 116 ∨ q = 117 ∨ q = 118 ∨ q = 119) → a' q p = a q p) : uEn dr wp pr cnt W T n c wt a' p r := by
  obtain ⟨h1, h2, h3, h4⟩ := h
  exact ⟨(e 119 (by omega)).trans h1, (e 116 (by omega)).trans h2, (e 117 (by omega)).trans h3, (e 118 (by omega)).trans h4⟩
theorem uIfc {P P' : Prop} [Decidable P] [Decidable P'] {x y : Int} (h : P ↔ P') : (if P then x else y) = if P' then x else y := by
  by_cases c : P'
  · rw [if_pos c, if_pos (h.mpr c)]
  · rw [if_neg c, if_neg (fun g => c (h.mp g))]
/-- what stands while a turn is played -/
def uPi (dr wp pr cnt W : Int → Int) (T : Int → List Int) (n : Int) (a0 : xA) (b0 : xB) (q : Nat) (a : xA) (b : xB) : Prop := uPm a0 a b0 b ∧ uRb dr wp pr cnt W T n a ∧ uRv n (a 88) ∧ uMV dr wp pr cnt T n a b ∧ uLw a ∧ a 88 114 = a0 88 114 ∧ 0 ≤ a 88 119 ∧ a 88 119 ≤ a0 88 119 + (q : Int)
theorem uPi_u {a0 : xA} {b0 : xB} {q i : Nat} {j v : Int} (h : uPi dr wp pr cnt W T n a0 b0 q a b) (hi : i = 116 ∨ i = 117 ∨ i = 118 ∨ i = 119) (hv : xR v) : uPi dr wp pr cnt W T n a0 b0 q (xU a i j v) b := by
  obtain ⟨h1, h2, h3, h4, h5, h6, h7, h8⟩ := h
  have e8 : (xU a i j v) 88 = a 88 := funext fun x => xUn (by omega)
  refine ⟨uPm_t h1 (uPm_u hi), uRb_o h2 (xAr_u h2.1 hv) (fun q x e => xUn (by omega)) (fun x x0 x1 => by rw [xUn (by omega)]; exact h2.2.2.2.2.2.2 x x0 x1), by rw [e8]; exact h3, uMV_f h4 (xUn (by omega)) (fun x => xUn (by omega)) (fun _ => rfl), uLw_o h5 (fun q x e => xUn (by omega)), by rw [e8]; exact h6, by rw [e8]; exact h7, by rw [e8]; exact h8⟩
theorem uPi_1 {a0 : xA} {b0 : xB} {q : Nat} (h : uPi dr wp pr cnt W T n a0 b0 q a b) : uPi dr wp pr cnt W T n a0 b0 (q + 1) a b := by
  obtain ⟨h1, h2, h3, h4, h5, h6, h7, h8⟩ := h
  exact ⟨h1, h2, h3, h4, h5, h6, h7, by omega⟩
theorem uRq_s (h : uRq r r') : uRq r' r := fun j hj => (h j hj).symm
theorem uRq_t {r'' : Int → Int} (h : uRq r r') (h' : uRq r' r'') : uRq r r'' := fun j hj => (h' j hj).trans (h j hj)
theorem u208 (hK : uRk pr cnt W T) (hB : uRb dr wp pr cnt W T n a) (hr : uRv n (a 88)) (hV : uMV dr wp pr cnt T n a b) (hL : uLw a) (htn : 0 ≤ a 88 114 ∧ a 88 114 ≤ 90) (hev : 0 ≤ a 88 119 ∧ a 88 119 ≤ 900) (hc : c = -1 ∨ ((0 ≤ c ∧ c < 61) ∧ (¬ a 88 0 = 7 → uCd n 0 c (a 88)))) (hwt : -1 ≤ wt ∧ wt ≤ 3) (hd : 7 ≤ d)
    (hQ : ∀ a' b', uPm a a' b b' → uRb dr wp pr cnt W T n a' → uRv n (a' 88) → uMV dr wp pr cnt T n a' b' → uLw a' → (∀ j, j < 41 ∨ (113 ≤ j ∧ ¬ j = 114 ∧ ¬ j = 115) → a' 88 j = uTr dr wp pr cnt W T n c wt (a 88) 4 j) → a' 88 114 = a 88 114 + 1 → a' 88 115 = 0 → a' 88 119 ≤ a 88 119 + 4 → 0 ≤ a' 88 119 → (∀ p : Nat, p < 4 → uEn dr wp pr cnt W T n c wt a' p (uTr dr wp pr cnt W T n c wt (a 88) p)) → Q none (xS a' b')) : pmCs ro d 208 [.ref 87, xV c, xV wt] (xS a b) Q := by
  refine pmCs_deep (d := 7) (xg208 (w208 ?_)) hd
  have hn : a 87 2 = n := hB.2.1.2.1
  have hn0 : 0 ≤ n ∧ n ≤ 5 := hB.2.1.2.2.1
  have hcb : -1 ≤ c ∧ c ≤ 60 := by omega
  obtain ⟨R, hR⟩ : ∃ R, a 88 = R := ⟨_, rfl⟩
  rw [hR] at hQ
  have loop : ∀ (m q : Nat) (a1 : xA) (b1 : xB), q + m = 4 → uPi dr wp pr cnt W T n a b q a1 b1 → uRq (uTr dr wp pr cnt W T n c wt R q) (a1 88) → (∀ p : Nat, p < q → uEn dr wp pr cnt W T n c wt a1 p (uTr dr wp pr cnt W T n c wt R p)) → pmWp ro 6 12 208 0 2 [some (.ref 87), some (xV c), some (xV wt), some (xV (q : Int))] [] (xS a1 b1) Q := by
    intro m
    induction m with
    | zero =>
      intro q a1 b1 hq hI hRq hE
      have e4 : q = 4 := by omega
      subst e4
      obtain ⟨h1, h2, h3, h4, h5, h6, h7, h8⟩ := hI
      refine w208p h2.1 (by decide) hcb hwt (by decide) (fun _ => ?_) (fun e => absurd (by decide) e) (fun e => absurd (by decide) e)
      refine u214 h2.1 h5 (by omega) (by decide) (fun a2 x2 => w208e ?_)
      have e2 : ∀ q j, q ≠ 88 → a2 q j = a1 q j := fun q j h => by rw [x2.1 q j (fun e => h e.1), xUn h, xUn h]
      have e3 : ∀ j, (j < 41 ∨ 113 ≤ j) → ¬ j = 114 → ¬ j = 115 → a2 88 j = a1 88 j := fun j hj g1 g2 => by rw [x2.1 88 j (by omega), xUk g2, xUk g1]
      refine hQ a2 b1 (uPm_t h1 (uPm_8 e2)) (uRb_o h2 x2.2 (fun q j e => e2 q j (by omega)) (fun j j0 j1 => by rw [e2 109 j (by decide)]; exact h2.2.2.2.2.2.2 j j0 j1)) ?_ (uMV_f h4 (e2 _ _ (by decide)) (fun j => e2 _ _ (by decide)) (fun _ => rfl)) (uLw_o h5 (fun q j e => e2 q j (by omega))) (fun j hj => ?_) ?_ ?_ ?_ ?_ (fun p hp => uEn_o (hE p hp) (fun q e => e2 q _ (by omega)))
      · obtain ⟨g1, g2, g3, g4, g5, g6⟩ := h3
        have e : ∀ j, j < 41 → a2 88 j = a1 88 j := fun j hj => e3 j (Or.inl hj) (by omega) (by omega)
        exact ⟨fun q q0 q1 => by rw [e q (by omega)]; exact g1 q q0 q1, fun y y0 y1 => by rw [e _ (by omega)]; exact g2 y y0 y1, fun y y0 y1 => by rw [e _ (by omega)]; exact g3 y y0 y1, fun f y f0 f1 y0 y1 => by rw [e _ (by omega)]; exact g4 f y f0 f1 y0 y1, fun f q f0 f1 q0 q1 => by rw [e _ (by omega)]; exact g5 f q f0 f1 q0 q1, fun f y f0 f1 yn y0 y1 => by rw [e _ (by omega)]; exact g6 f y f0 f1 yn y0 y1⟩
      · rw [e3 j (by omega) (by omega) (by omega)]
        exact hRq j (by omega)
      · rw [x2.1 88 114 (by omega), xUk (by decide), xUa, h6, hR]
      · rw [x2.1 88 115 (by omega), xUa]
      · rw [e3 119 (by decide) (by decide) (by decide)]
        rw [← hR]
        exact h8
      · rw [e3 119 (by decide) (by decide) (by decide)]
        exact h7
    | succ m ih =>
      intro q a1 b1 hq hI hRq hE
      have hq3 : 0 ≤ (q : Int) ∧ (q : Int) ≤ 3 := by omega
      have hq88 : a1 88 (q : Int) = uTr dr wp pr cnt W T n c wt R q q := hRq q (by omega)
      -- on to the next
      have nxt : ∀ (a2 : xA) (b2 : xB), uPi dr wp pr cnt W T n a b (q + 1) a2 b2 → uRq (uTr dr wp pr cnt W T n c wt R (q + 1)) (a2 88) → (∀ p : Nat, p < q → uEn dr wp pr cnt W T n c wt a2 p (uTr dr wp pr cnt W T n c wt R p)) → uEn dr wp pr cnt W T n c wt a2 q (uTr dr wp pr cnt W T n c wt R q) → pmWp ro 6 12 208 0 122 [some (.ref 87), some (xV c), some (xV wt), some (xV (q : Int))] [] (xS a2 b2) Q := by
        intro a2 b2 g1 g2 g3 g4
        refine w208n hq3 ?_
        refine ih (q + 1) a2 b2 (by omega) g1 g2 (fun p hp => ?_)
        by_cases cpq : p = q
        · rw [cpq]
          exact g4
        · exact g3 p (by omega)
      -- the deed
      have at95 : ¬ uTr dr wp pr cnt W T n c wt R q q = 7 → ∀ (a2 : xA) (b2 : xB) (cd : Int), uPi dr wp pr cnt W T n a b q a2 b2 → uRq (uTr dr wp pr cnt W T n c wt R q) (a2 88) → (∀ p : Nat, p < q → uEn dr wp pr cnt W T n c wt a2 p (uTr dr wp pr cnt W T n c wt R p)) → cd = uDc dr wp pr cnt W T n c wt q (uTr dr wp pr cnt W T n c wt R q) → a2 116 q = cd → (cd = -1 ∨ ((0 ≤ cd ∧ cd < 61) ∧ uCd n q cd (uTr dr wp pr cnt W T n c wt R q))) → a2 119 q = 1 → a2 117 q = -1 → (a2 118 q = if (q : Int) = 0 ∨ (q : Int) = wt then -1 else uWk dr wp pr cnt W T n (uTr dr wp pr cnt W T n c wt R q) q) → pmWp ro 6 12 208 0 95 [some (.ref 87), some (xV c), some (xV wt), some (xV (q : Int))] [] (xS a2 b2) Q := by
        intro hal a2 b2 cd g1 g2 g3 ecd g4 g5 g6 g7 g8
        have hor : (uTr dr wp pr cnt W T n c wt R q q = 7 ∨ (q : Int) = 0 ∨ (q : Int) = wt) ↔ ((q : Int) = 0 ∨ (q : Int) = wt) := ⟨fun h => h.elim (fun h => absurd h hal) id, Or.inr⟩
        refine w208d hq3 g4 (by omega) (fun e => ?_) (fun e => ?_)
        · refine nxt a2 b2 (uPi_1 g1) ?_ g3 ⟨?_, ?_, ?_, ?_⟩
          · show uRq (uS1 dr wp pr cnt W T n c wt q (uTr dr wp pr cnt W T n c wt R q)) (a2 88)
            unfold uS1
            rw [if_pos (Or.inr (ecd.symm.trans e))]
            exact g2
          · rw [if_neg hal]
            exact g6
          · rw [if_neg hal, g4]
            exact ecd
          · rw [if_pos (Or.inr (ecd.symm.trans e))]
            exact g7
          · rw [uIfc hor]
            exact g8
        · obtain ⟨h1, h2, h3, h4, h5, h6, h7, h8⟩ := g1
          have hcd : (0 ≤ cd ∧ cd < 61) ∧ uCd n q cd (uTr dr wp pr cnt W T n c wt R q) := g5.elim (fun h => absurd h e) id
          have hv := uRv_c hn0.2 h3 (uRq_s g2)
          have hc2 : uCd n q cd (a2 88) := ⟨by rw [g2 q (by omega)]; exact hal, hcd.2.2⟩
          refine u209 h2.1 h2.2.1.2.1 hn0 h5 (by omega) ⟨h7, by omega⟩ h3 hq3 hcd.1 hc2 (by decide) (fun a3 x3 A3 V3 R3 => ?_)
          have hsg : uSg q cd (a2 88) 4 = uSg q cd (uTr dr wp pr cnt W T n c wt R q) 4 := uSg_q g2 hq3 4 (by decide)
          rw [hsg]
          have hsb := uSg_b (p := q) (k := cd) (r := uTr dr wp pr cnt W T n c wt R q) 4
          have h16 : ((2 ^ 4 : Nat) : Int) = 16 := rfl
          refine w208s hq3 ⟨hsb.1, by omega⟩ ?_
          obtain ⟨d1, d2, d3⟩ := uDe_v hn0.2 h3 hq3 hcd.1 hc2
          have hI3 : uPi dr wp pr cnt W T n a b (q + 1) a3 b2 := ⟨uPm_t h1 (uPm_8 x3), uRb_o h2 A3 (fun i j e => x3 i j (by omega)) (fun j j0 j1 => by rw [x3 109 j (by decide)]; exact h2.2.2.2.2.2.2 j j0 j1), V3, uMV_f h4 (x3 _ _ (by decide)) (fun j => x3 _ _ (by decide)) (fun _ => rfl), uLw_o h5 (fun i j e => x3 i j (by omega)), by rw [R3 114 (by omega), d2]; exact h6, by rw [R3 119 (by omega), d3]; omega, by rw [R3 119 (by omega), d3]; omega⟩
          have e8 : (xU a3 117 (q : Int) (uSg q cd (uTr dr wp pr cnt W T n c wt R q) 4)) 88 = a3 88 := funext fun x => xUn (by decide)
          refine nxt _ b2 (uPi_u hI3 (by omega) ⟨by omega, by omega⟩) ?_ (fun p hp => uEn_o (g3 p hp) (fun i e => ?_)) ⟨?_, ?_, ?_, ?_⟩
          · rw [e8]
            show uRq (uS1 dr wp pr cnt W T n c wt q (uTr dr wp pr cnt W T n c wt R q)) (a3 88)
            unfold uS1
            rw [if_neg (fun h => h.elim hal (fun h => e (ecd.trans h))), ← ecd]
            exact uRq_t (uDe_q hn0.2 g2 hv hq3 hcd.1 hcd.2) R3
          · rw [xUo (by omega)]
            exact x3 i p (by omega)
          · rw [if_neg hal, xUn (by decide), x3 _ _ (by decide)]
            exact g6
          · rw [if_neg hal, xUn (by decide), x3 _ _ (by decide), g4]
            exact ecd
          · rw [if_neg (fun h => h.elim hal (fun h => e (ecd.trans h))), xUa, ← ecd]
          · rw [uIfc hor, xUn (by decide), x3 _ _ (by decide)]
            exact g8
      have hI2 : ∀ z, (z = 0 ∨ z = 1) → uPi dr wp pr cnt W T n a b q (xU (xU (xU (xU a1 119 q z) 116 q (-1)) 117 q (-1)) 118 q (-1)) b1 := fun z hz => uPi_u (uPi_u (uPi_u (uPi_u hI (by omega) ⟨by omega, by omega⟩) (by omega) ⟨by decide, by decide⟩) (by omega) ⟨by decide, by decide⟩) (by omega) ⟨by decide, by decide⟩
      have c119 : ∀ z, (xU (xU (xU (xU a1 119 q z) 116 q (-1)) 117 q (-1)) 118 q (-1)) 119 q = z := fun z => by rw [xUn (by decide), xUn (by decide), xUn (by decide), xUa]
      have c116 : ∀ z, (xU (xU (xU (xU a1 119 q z) 116 q (-1)) 117 q (-1)) 118 q (-1)) 116 q = -1 := fun z => by rw [xUn (by decide), xUn (by decide), xUa]
      have c117 : ∀ z, (xU (xU (xU (xU a1 119 q z) 116 q (-1)) 117 q (-1)) 118 q (-1)) 117 q = -1 := fun z => by rw [xUn (by decide), xUa]
      have c118 : ∀ z, (xU (xU (xU (xU a1 119 q z) 116 q (-1)) 117 q (-1)) 118 q (-1)) 118 q = -1 := fun z => xUa
      have c88 : ∀ z, (xU (xU (xU (xU a1 119 q z) 116 q (-1)) 117 q (-1)) 118 q (-1)) 88 = a1 88 := fun z => funext fun x => by rw [xUn (by decide), xUn (by decide), xUn (by decide), xUn (by decide)]
      have cE : ∀ z, ∀ p : Nat, p < q → uEn dr wp pr cnt W T n c wt (xU (xU (xU (xU a1 119 q z) 116 q (-1)) 117 q (-1)) 118 q (-1)) p (uTr dr wp pr cnt W T n c wt R p) := fun z p hp => uEn_o (hE p hp) (fun i e => by rw [xUo (by omega), xUo (by omega), xUo (by omega), xUo (by omega)])
      refine w208p hI.2.1.1 (by omega) hcb hwt (by decide) (fun e => by omega) (fun _ e => ?_) (fun _ e => ?_)
      · rw [hq88] at e
        have h2 := hI2 1 (Or.inr rfl)
        have p1 := c119 1
        have p2 := c116 1
        have p3 := c117 1
        have p4 := c118 1
        have p5 := c88 1
        have p6 := cE 1
        obtain ⟨a2, ea2⟩ : ∃ z, (xU (xU (xU (xU a1 119 q 1) 116 q (-1)) 117 q (-1)) 118 q (-1)) = z := ⟨_, rfl⟩
        rw [ea2] at h2 p1 p2 p3 p4 p5 p6 ⊢
        have hRq2 : uRq (uTr dr wp pr cnt W T n c wt R q) (a2 88) := by rw [p5]; exact hRq
        refine w208q h2.2.1.1 hq3 hcb hwt (by decide) (fun f1 f2 => ?_) (fun f1 f2 => ?_) (fun f1 => ?_)
        · refine at95 e a2 b1 (-1) h2 hRq2 p6 ?_ p2 (Or.inl rfl) p1 p3 ?_
          · unfold uDc
            rw [if_neg f1, if_pos f2]
          · rw [if_pos (Or.inr f2)]
            exact p4
        · obtain ⟨h21, h22, h23, h24, h25, h26, h27, h28⟩ := h2
          refine u198 hK h22 h23 ⟨by omega, hq3.2⟩ (by rw [hRq2 q (by omega)]; exact e) h24 (by decide) (fun a3 b3 k x3 B3 V3 e42 hch e43 => ?_)
          have x88 : a3 88 = a2 88 := funext fun j => x3.1 88 j (by decide) (by decide) (by decide) (by decide) (by decide) (by decide) (by decide) (by omega)
          have xo : ∀ i j, i = 116 ∨ i = 117 ∨ i = 118 ∨ i = 119 → a3 i j = a2 i j := fun i j hi => x3.1 i j (by omega) (by omega) (by omega) (by omega) (by omega) (by omega) (by omega) (by omega)
          have hf : 1 ≤ (q : Int) ∧ (q : Int) ≤ 3 := ⟨by omega, hq3.2⟩
          rw [uMn_q hn0.2 hRq2 hf] at hch e43
          obtain ⟨kb, wb⟩ := uWd_b (dr := dr) (wp := wp) (n := n) hK hf hch
          have ewk := uWk_e hch
          have ewd : a3 87 43 = uWd dr wp pr cnt W T n (uTr dr wp pr cnt W T n c wt R q) q := by
            unfold uWd
            rw [ewk]
            exact e43
          have hI3 : uPi dr wp pr cnt W T n a b q a3 b3 := ⟨uPm_t h21 (uPm_w x3), B3, by rw [x88]; exact h23, V3, uLw_o h25 (fun i j g => x3.1 i j (by omega) (by omega) (by omega) (by omega) (by omega) (by omega) (by omega) (by omega)), by rw [x88]; exact h26, by rw [x88]; exact h27, by rw [x88]; exact h28⟩
          refine w208w hq3 ewd (by omega) e42 kb ?_
          have e8 : (xU (xU a3 116 q (uWd dr wp pr cnt W T n (uTr dr wp pr cnt W T n c wt R q) q)) 118 q k) 88 = a3 88 := funext fun x => by rw [xUn (by decide), xUn (by decide)]
          refine at95 e _ b3 (uWd dr wp pr cnt W T n (uTr dr wp pr cnt W T n c wt R q) q) (uPi_u (uPi_u hI3 (by omega) ⟨by omega, by omega⟩) (by omega) ⟨by omega, by omega⟩) (by rw [e8, x88]; exact hRq2) (fun p hp => uEn_o (p6 p hp) (fun i g => by rw [xUo (by omega), xUo (by omega)]; exact xo i p g)) ?_ (by rw [xUn (by decide), xUa]) ?_ (by rw [xUn (by decide), xUn (by decide), xo 119 q (by omega)]; exact p1) (by rw [xUn (by decide), xUn (by decide), xo 117 q (by omega)]; exact p3) ?_
          · unfold uDc
            rw [if_neg f1, if_neg f2]
          · by_cases g : uWd dr wp pr cnt W T n (uTr dr wp pr cnt W T n c wt R q) q = -1
            · exact Or.inl g
            · refine Or.inr ⟨by omega, e, fun h6 => ?_⟩
              have := @uK_e (uWd dr wp pr cnt W T n (uTr dr wp pr cnt W T n c wt R q) q)
              omega
          · rw [xUa, if_neg (fun h => h.elim f1 f2)]
            exact ewk.symm
        · have q0 : q = 0 := by omega
          have e8 : (xU a2 116 q c) 88 = a2 88 := funext fun x => xUn (by decide)
          refine at95 e _ b1 c (uPi_u h2 (by omega) ⟨by omega, by omega⟩) (by rw [e8]; exact hRq2) (fun p hp => uEn_o (p6 p hp) (fun i g => xUo (by omega))) ?_ xUa ?_ (by rw [xUn (by decide)]; exact p1) (by rw [xUn (by decide)]; exact p3) ?_
          · unfold uDc
            rw [if_pos f1]
          · rcases hc with hc | ⟨hc1, hc2⟩
            · exact Or.inl hc
            · refine Or.inr ⟨hc1, ?_⟩
              subst q0
              rw [hR] at hc2
              exact hc2 e
          · rw [xUn (by decide), if_pos (Or.inl f1)]
            exact p4
      · rw [hq88] at e
        refine nxt _ b1 (uPi_1 (hI2 0 (Or.inl rfl))) ?_ (cE 0) ⟨?_, ?_, ?_, ?_⟩
        · rw [c88]
          show uRq (uS1 dr wp pr cnt W T n c wt q (uTr dr wp pr cnt W T n c wt R q)) (a1 88)
          unfold uS1
          rw [if_pos (Or.inl e)]
          exact hRq
        · rw [if_pos e]
          exact c119 0
        · rw [if_pos e]
          exact c116 0
        · rw [if_pos (Or.inl e)]
          exact c117 0
        · rw [if_pos (Or.inl e)]
          exact c118 0
  refine loop 4 0 a b rfl ⟨uPm_r, hB, hr, hV, hL, rfl, hev.1, by omega⟩ ?_ (fun p hp => absurd hp (Nat.not_lt_zero _))
  rw [hR]
  exact fun j _ => rfl
end
end
end
section
/-! exact: the class, worlds; small methods -/
section
set_option maxRecDepth 100000
theorem xi24 : pmInf[24]? = some pmI_24 := rfl
theorem xi61 : pmInf[61]? = some pmI_61 := rfl
theorem xi62 : pmInf[62]? = some pmI_62 := rfl
theorem xi64 : pmInf[64]? = some pmI_64 := rfl
theorem xc24_0 : pmCode 24 0 = some (.iload_n 0) ∧ 0 + 1 = 1 := ⟨rfl, rfl⟩
theorem xc24_1 : pmCode 24 1 = some (.iload_n 0) ∧ 1 + 1 = 2 := ⟨rfl, rfl⟩
theorem xc24_2 : pmCode 24 2 = some (.iconst 1) ∧ 2 + 1 = 3 := ⟨rfl, rfl⟩
theorem xc24_3 : pmCode 24 3 = some .iushr ∧ 3 + 1 = 4 := ⟨rfl, rfl⟩
theorem xc24_4 : pmCode 24 4 = some (.ldc_w 265) ∧ 4 + 3 = 7 := ⟨rfl, rfl⟩
theorem xc24_7 : pmCode 24 7 = some .iand ∧ 7 + 1 = 8 := ⟨rfl, rfl⟩
theorem xc24_8 : pmCode 24 8 = some .isub ∧ 8 + 1 = 9 := ⟨rfl, rfl⟩
theorem xc24_9 : pmCode 24 9 = some (.istore_n 0) ∧ 9 + 1 = 10 := ⟨rfl, rfl⟩
theorem xc24_10 : pmCode 24 10 = some (.iload_n 0) ∧ 10 + 1 = 11 := ⟨rfl, rfl⟩
theorem xc24_11 : pmCode 24 11 = some (.ldc_w 266) ∧ 11 + 3 = 14 := ⟨rfl, rfl⟩
theorem xc24_14 : pmCode 24 14 = some .iand ∧ 14 + 1 = 15 := ⟨rfl, rfl⟩
theorem xc24_15 : pmCode 24 15 = some (.iload_n 0) ∧ 15 + 1 = 16 := ⟨rfl, rfl⟩
theorem xc24_16 : pmCode 24 16 = some (.iconst 2) ∧ 16 + 1 = 17 := ⟨rfl, rfl⟩
theorem xc24_17 : pmCode 24 17 = some .iushr ∧ 17 + 1 = 18 := ⟨rfl, rfl⟩
theorem xc24_18 : pmCode 24 18 = some (.ldc_w 266) ∧ 18 + 3 = 21 := ⟨rfl, rfl⟩
theorem xc24_21 : pmCode 24 21 = some .iand ∧ 21 + 1 = 22 := ⟨rfl, rfl⟩
theorem xc24_22 : pmCode 24 22 = some .iadd ∧ 22 + 1 = 23 := ⟨rfl, rfl⟩
theorem xc24_23 : pmCode 24 23 = some (.istore_n 0) ∧ 23 + 1 = 24 := ⟨rfl, rfl⟩
theorem xc24_24 : pmCode 24 24 = some (.iload_n 0) ∧ 24 + 1 = 25 := ⟨rfl, rfl⟩
theorem xc24_25 : pmCode 24 25 = some (.iload_n 0) ∧ 25 + 1 = 26 := ⟨rfl, rfl⟩
theorem xc24_26 : pmCode 24 26 = some (.iconst 4) ∧ 26 + 1 = 27 := ⟨rfl, rfl⟩
theorem xc24_27 : pmCode 24 27 = some .iushr ∧ 27 + 1 = 28 := ⟨rfl, rfl⟩
theorem xc24_28 : pmCode 24 28 = some .iadd ∧ 28 + 1 = 29 := ⟨rfl, rfl⟩
theorem xc24_29 : pmCode 24 29 = some (.ldc_w 267) ∧ 29 + 3 = 32 := ⟨rfl, rfl⟩
theorem xc24_32 : pmCode 24 32 = some .iand ∧ 32 + 1 = 33 := ⟨rfl, rfl⟩
theorem xc24_33 : pmCode 24 33 = some (.istore_n 0) ∧ 33 + 1 = 34 := ⟨rfl, rfl⟩
theorem xc24_34 : pmCode 24 34 = some (.iload_n 0) ∧ 34 + 1 = 35 := ⟨rfl, rfl⟩
theorem xc24_35 : pmCode 24 35 = some (.iload_n 0) ∧ 35 + 1 = 36 := ⟨rfl, rfl⟩
theorem xc24_36 : pmCode 24 36 = some (.bipush 8) ∧ 36 + 2 = 38 := ⟨rfl, rfl⟩
theorem xc24_38 : pmCode 24 38 = some .iushr ∧ 38 + 1 = 39 := ⟨rfl, rfl⟩
theorem xc24_39 : pmCode 24 39 = some .iadd ∧ 39 + 1 = 40 := ⟨rfl, rfl⟩
theorem xc24_40 : pmCode 24 40 = some (.istore_n 0) ∧ 40 + 1 = 41 := ⟨rfl, rfl⟩
theorem xc24_41 : pmCode 24 41 = some (.iload_n 0) ∧ 41 + 1 = 42 := ⟨rfl, rfl⟩
theorem xc24_42 : pmCode 24 42 = some (.iload_n 0) ∧ 42 + 1 = 43 := ⟨rfl, rfl⟩
theorem xc24_43 : pmCode 24 43 = some (.bipush 16) ∧ 43 + 2 = 45 := ⟨rfl, rfl⟩
theorem xc24_45 : pmCode 24 45 = some .iushr ∧ 45 + 1 = 46 := ⟨rfl, rfl⟩
theorem xc24_46 : pmCode 24 46 = some .iadd ∧ 46 + 1 = 47 := ⟨rfl, rfl⟩
theorem xc24_47 : pmCode 24 47 = some (.istore_n 0) ∧ 47 + 1 = 48 := ⟨rfl, rfl⟩
theorem xc24_48 : pmCode 24 48 = some (.iload_n 0) ∧ 48 + 1 = 49 := ⟨rfl, rfl⟩
theorem xc24_49 : pmCode 24 49 = some (.bipush 63) ∧ 49 + 2 = 51 := ⟨rfl, rfl⟩
theorem xc24_51 : pmCode 24 51 = some .iand ∧ 51 + 1 = 52 := ⟨rfl, rfl⟩
theorem xc24_52 : pmCode 24 52 = some .ireturn := rfl
theorem xc61_0 : pmCode 61 0 = some (.lload_n 0) ∧ 0 + 1 = 1 := ⟨rfl, rfl⟩
theorem xc61_1 : pmCode 61 1 = some (.iconst 4) ∧ 1 + 1 = 2 := ⟨rfl, rfl⟩
theorem xc61_2 : pmCode 61 2 = some (.iload_n 2) ∧ 2 + 1 = 3 := ⟨rfl, rfl⟩
theorem xc61_3 : pmCode 61 3 = some .imul ∧ 3 + 1 = 4 := ⟨rfl, rfl⟩
theorem xc61_4 : pmCode 61 4 = some .lushr ∧ 4 + 1 = 5 := ⟨rfl, rfl⟩
theorem xc61_5 : pmCode 61 5 = some .l2i ∧ 5 + 1 = 6 := ⟨rfl, rfl⟩
theorem xc61_6 : pmCode 61 6 = some (.bipush 15) ∧ 6 + 2 = 8 := ⟨rfl, rfl⟩
theorem xc61_8 : pmCode 61 8 = some .iand ∧ 8 + 1 = 9 := ⟨rfl, rfl⟩
theorem xc61_9 : pmCode 61 9 = some .ireturn := rfl
theorem xc62_0 : pmCode 62 0 = some (.aload_n 0) ∧ 0 + 1 = 1 := ⟨rfl, rfl⟩
theorem xc62_1 : pmCode 62 1 = some (.getfield 42) ∧ 1 + 3 = 4 := ⟨rfl, rfl⟩
theorem xc62_4 : pmCode 62 4 = some (.bipush 7) ∧ 4 + 2 = 6 := ⟨rfl, rfl⟩
theorem xc62_6 : pmCode 62 6 = some (.iload_n 1) ∧ 6 + 1 = 7 := ⟨rfl, rfl⟩
theorem xc62_7 : pmCode 62 7 = some .imul ∧ 7 + 1 = 8 := ⟨rfl, rfl⟩
theorem xc62_8 : pmCode 62 8 = some .lushr ∧ 8 + 1 = 9 := ⟨rfl, rfl⟩
theorem xc62_9 : pmCode 62 9 = some .l2i ∧ 9 + 1 = 10 := ⟨rfl, rfl⟩
theorem xc62_10 : pmCode 62 10 = some (.bipush 127) ∧ 10 + 2 = 12 := ⟨rfl, rfl⟩
theorem xc62_12 : pmCode 62 12 = some .iand ∧ 12 + 1 = 13 := ⟨rfl, rfl⟩
theorem xc62_13 : pmCode 62 13 = some .ireturn := rfl
theorem xc64_0 : pmCode 64 0 = some (.iload_n 1) ∧ 0 + 1 = 1 := ⟨rfl, rfl⟩
theorem xc64_1 : pmCode 64 1 = some (.bipush 9) ∧ 1 + 2 = 3 := ⟨rfl, rfl⟩
theorem xc64_3 : pmCode 64 3 = some (.if_icmp .lt 32) ∧ ((3 : Nat) : Int) + 32 = ((35 : Nat) : Int) ∧ 3 + 3 = 6 := ⟨rfl, rfl, rfl⟩
theorem xc64_6 : pmCode 64 6 = some (.iload_n 1) ∧ 6 + 1 = 7 := ⟨rfl, rfl⟩
theorem xc64_7 : pmCode 64 7 = some (.bipush 13) ∧ 7 + 2 = 9 := ⟨rfl, rfl⟩
theorem xc64_9 : pmCode 64 9 = some (.if_icmp .ge 26) ∧ ((9 : Nat) : Int) + 26 = ((35 : Nat) : Int) ∧ 9 + 3 = 12 := ⟨rfl, rfl, rfl⟩
theorem xc64_12 : pmCode 64 12 = some (.aload_n 0) ∧ 12 + 1 = 13 := ⟨rfl, rfl⟩
theorem xc64_13 : pmCode 64 13 = some (.getfield 47) ∧ 13 + 3 = 16 := ⟨rfl, rfl⟩
theorem xc64_16 : pmCode 64 16 = some (.iconst 4) ∧ 16 + 1 = 17 := ⟨rfl, rfl⟩
theorem xc64_17 : pmCode 64 17 = some (.iload_n 1) ∧ 17 + 1 = 18 := ⟨rfl, rfl⟩
theorem xc64_18 : pmCode 64 18 = some (.bipush 9) ∧ 18 + 2 = 20 := ⟨rfl, rfl⟩
theorem xc64_20 : pmCode 64 20 = some .isub ∧ 20 + 1 = 21 := ⟨rfl, rfl⟩
theorem xc64_21 : pmCode 64 21 = some .imul ∧ 21 + 1 = 22 := ⟨rfl, rfl⟩
theorem xc64_22 : pmCode 64 22 = some .lushr ∧ 22 + 1 = 23 := ⟨rfl, rfl⟩
theorem xc64_23 : pmCode 64 23 = some .l2i ∧ 23 + 1 = 24 := ⟨rfl, rfl⟩
theorem xc64_24 : pmCode 64 24 = some (.bipush 15) ∧ 24 + 2 = 26 := ⟨rfl, rfl⟩
theorem xc64_26 : pmCode 64 26 = some .iand ∧ 26 + 1 = 27 := ⟨rfl, rfl⟩
theorem xc64_27 : pmCode 64 27 = some (.iload_n 2) ∧ 27 + 1 = 28 := ⟨rfl, rfl⟩
theorem xc64_28 : pmCode 64 28 = some (.if_icmp .ne 7) ∧ ((28 : Nat) : Int) + 7 = ((35 : Nat) : Int) ∧ 28 + 3 = 31 := ⟨rfl, rfl, rfl⟩
theorem xc64_31 : pmCode 64 31 = some (.iconst 1) ∧ 31 + 1 = 32 := ⟨rfl, rfl⟩
theorem xc64_32 : pmCode 64 32 = some (.goto 4) ∧ ((32 : Nat) : Int) + 4 = ((36 : Nat) : Int) := ⟨rfl, rfl⟩
theorem xc64_35 : pmCode 64 35 = some (.iconst 0) ∧ 35 + 1 = 36 := ⟨rfl, rfl⟩
theorem xc64_36 : pmCode 64 36 = some .ireturn := rfl
/-- a world of the class lies at w -/
def uWz (w : Nat) : Prop := xZ[w]? = some (10, 13, [some (w + 1), some (w + 2), some (w + 3), some (w + 4), none, none, none, none, none, none, none, none, none]) ∧ xZ[w + 1]? = some (51, 4, []) ∧ xZ[w + 2]? = some (50, 24, []) ∧ xZ[w + 3]? = some (50, 6, []) ∧ xZ[w + 4]? = some (50, 3, [])
theorem w61 {ro : Nat → Nat × (Nat → Int32)} {d : Nat} {Q : Option Value → pmS → Prop} {x : Int} {l : Int64} {a : xA} {b : xB} (hx : 0 ≤ x ∧ x ≤ 15)
    (k1 : Q (some (xV ((xL2 (xShr l (4 * x))) % 16))) (xS a b)) :
    pmWp ro d 11 61 1 0 [some (.long l), none, some (xV x)] [] (xS a b) Q := by
  refine x_lloadn xc61_0 rfl ?_
  refine x_iconst xc61_1 ?_
  refine x_iloadn xc61_2 rfl ?_
  refine x_imul xc61_3 ?_
  refine x_lushr xc61_4 ?_
  refine x_l2i xc61_5 ?_
  refine x_bipush xc61_6 (by decide) ?_
  refine x_iandm (M := 16) 4 (by decide) (by decide) (by decide) xc61_8 ?_
  refine x_iret xc61_9 (Or.inl rfl) ?_
  exact k1

theorem xg61 {ro : Nat → Nat × (Nat → Int32)} {d : Nat} {Q : Option Value → pmS → Prop} {a : xA} {b : xB} {x : Int} {l : Int64} (h : pmWp ro d 11 61 1 0 [some (.long l), none, some (xV x)] [] (xS a b) Q) : pmCs ro (d + 1) 61 [.long l, xV x] (xS a b) Q := x_go xi61 rfl rfl rfl rfl rfl h
theorem w24 {ro : Nat → Nat × (Nat → Int32)} {d : Nat} {Q : Option Value → pmS → Prop} {v : Int} {a : xA} {b : xB} (hv : 0 ≤ v ∧ v ≤ 127)
    (k1 : Q (some (xV ((xAnd (xAnd (v - (xAnd (xUs v 1) 1431655765)) 858993459 + (xAnd (xUs (v - (xAnd (xUs v 1) 1431655765)) 2) 858993459) + (xUs (xAnd (v - (xAnd (xUs v 1) 1431655765)) 858993459 + (xAnd (xUs (v - (xAnd (xUs v 1) 1431655765)) 2) 858993459)) 4)) 252645135 + (xUs (xAnd (xAnd (v - (xAnd (xUs v 1) 1431655765)) 858993459 + (xAnd (xUs (v - (xAnd (xUs v 1) 1431655765)) 2) 858993459) + (xUs (xAnd (v - (xAnd (xUs v 1) 1431655765)) 858993459 + (xAnd (xUs (v - (xAnd (xUs v 1) 1431655765)) 2) 858993459)) 4)) 252645135) 8) + (xUs (xAnd (xAnd (v - (xAnd (xUs v 1) 1431655765)) 858993459 + (xAnd (xUs (v - (xAnd (xUs v 1) 1431655765)) 2) 858993459) + (xUs (xAnd (v - (xAnd (xUs v 1) 1431655765)) 858993459 + (xAnd (xUs (v - (xAnd (xUs v 1) 1431655765)) 2) 858993459)) 4)) 252645135 + (xUs (xAnd (xAnd (v - (xAnd (xUs v 1) 1431655765)) 858993459 + (xAnd (xUs (v - (xAnd (xUs v 1) 1431655765)) 2) 858993459) + (xUs (xAnd (v - (xAnd (xUs v 1) 1431655765)) 858993459 + (xAnd (xUs (v - (xAnd (xUs v 1) 1431655765)) 2) 858993459)) 4)) 252645135) 8)) 16)) % 64))) (xS a b)) :
    pmWp ro d 14 24 1 0 [some (xV v)] [] (xS a b) Q := by
  refine x_iloadn xc24_0 rfl ?_
  refine x_iloadn xc24_1 rfl ?_
  refine x_iconst xc24_2 ?_
  refine x_iushr xc24_3 ?_
  refine x_ldcw (z := 1431655765) xc24_4 rfl ?_
  refine x_iand xc24_7 ?_
  refine x_isub xc24_8 ?_
  refine x_istoren (pl' := [some (xV (v - (xAnd (xUs v 1) 1431655765)))]) xc24_9 rfl rfl ?_
  refine x_iloadn xc24_10 rfl ?_
  refine x_ldcw (z := 858993459) xc24_11 rfl ?_
  refine x_iand xc24_14 ?_
  refine x_iloadn xc24_15 rfl ?_
  refine x_iconst xc24_16 ?_
  refine x_iushr xc24_17 ?_
  refine x_ldcw (z := 858993459) xc24_18 rfl ?_
  refine x_iand xc24_21 ?_
  refine x_iadd xc24_22 ?_
  refine x_istoren (pl' := [some (xV (xAnd (v - (xAnd (xUs v 1) 1431655765)) 858993459 + (xAnd (xUs (v - (xAnd (xUs v 1) 1431655765)) 2) 858993459)))]) xc24_23 rfl rfl ?_
  refine x_iloadn xc24_24 rfl ?_
  refine x_iloadn xc24_25 rfl ?_
  refine x_iconst xc24_26 ?_
  refine x_iushr xc24_27 ?_
  refine x_iadd xc24_28 ?_
  refine x_ldcw (z := 252645135) xc24_29 rfl ?_
  refine x_iand xc24_32 ?_
  refine x_istoren (pl' := [some (xV (xAnd (xAnd (v - (xAnd (xUs v 1) 1431655765)) 858993459 + (xAnd (xUs (v - (xAnd (xUs v 1) 1431655765)) 2) 858993459) + (xUs (xAnd (v - (xAnd (xUs v 1) 1431655765)) 858993459 + (xAnd (xUs (v - (xAnd (xUs v 1) 1431655765)) 2) 858993459)) 4)) 252645135))]) xc24_33 rfl rfl ?_
  refine x_iloadn xc24_34 rfl ?_
  refine x_iloadn xc24_35 rfl ?_
  refine x_bipush xc24_36 (by decide) ?_
  refine x_iushr xc24_38 ?_
  refine x_iadd xc24_39 ?_
  refine x_istoren (pl' := [some (xV (xAnd (xAnd (v - (xAnd (xUs v 1) 1431655765)) 858993459 + (xAnd (xUs (v - (xAnd (xUs v 1) 1431655765)) 2) 858993459) + (xUs (xAnd (v - (xAnd (xUs v 1) 1431655765)) 858993459 + (xAnd (xUs (v - (xAnd (xUs v 1) 1431655765)) 2) 858993459)) 4)) 252645135 + (xUs (xAnd (xAnd (v - (xAnd (xUs v 1) 1431655765)) 858993459 + (xAnd (xUs (v - (xAnd (xUs v 1) 1431655765)) 2) 858993459) + (xUs (xAnd (v - (xAnd (xUs v 1) 1431655765)) 858993459 + (xAnd (xUs (v - (xAnd (xUs v 1) 1431655765)) 2) 858993459)) 4)) 252645135) 8)))]) xc24_40 rfl rfl ?_
  refine x_iloadn xc24_41 rfl ?_
  refine x_iloadn xc24_42 rfl ?_
  refine x_bipush xc24_43 (by decide) ?_
  refine x_iushr xc24_45 ?_
  refine x_iadd xc24_46 ?_
  refine x_istoren (pl' := [some (xV (xAnd (xAnd (v - (xAnd (xUs v 1) 1431655765)) 858993459 + (xAnd (xUs (v - (xAnd (xUs v 1) 1431655765)) 2) 858993459) + (xUs (xAnd (v - (xAnd (xUs v 1) 1431655765)) 858993459 + (xAnd (xUs (v - (xAnd (xUs v 1) 1431655765)) 2) 858993459)) 4)) 252645135 + (xUs (xAnd (xAnd (v - (xAnd (xUs v 1) 1431655765)) 858993459 + (xAnd (xUs (v - (xAnd (xUs v 1) 1431655765)) 2) 858993459) + (xUs (xAnd (v - (xAnd (xUs v 1) 1431655765)) 858993459 + (xAnd (xUs (v - (xAnd (xUs v 1) 1431655765)) 2) 858993459)) 4)) 252645135) 8) + (xUs (xAnd (xAnd (v - (xAnd (xUs v 1) 1431655765)) 858993459 + (xAnd (xUs (v - (xAnd (xUs v 1) 1431655765)) 2) 858993459) + (xUs (xAnd (v - (xAnd (xUs v 1) 1431655765)) 858993459 + (xAnd (xUs (v - (xAnd (xUs v 1) 1431655765)) 2) 858993459)) 4)) 252645135 + (xUs (xAnd (xAnd (v - (xAnd (xUs v 1) 1431655765)) 858993459 + (xAnd (xUs (v - (xAnd (xUs v 1) 1431655765)) 2) 858993459) + (xUs (xAnd (v - (xAnd (xUs v 1) 1431655765)) 858993459 + (xAnd (xUs (v - (xAnd (xUs v 1) 1431655765)) 2) 858993459)) 4)) 252645135) 8)) 16)))]) xc24_47 rfl rfl ?_
  refine x_iloadn xc24_48 rfl ?_
  refine x_bipush xc24_49 (by decide) ?_
  refine x_iandm (M := 64) 6 (by decide) (by decide) (by decide) xc24_51 ?_
  refine x_iret xc24_52 (Or.inl rfl) ?_
  exact k1

theorem xg24 {ro : Nat → Nat × (Nat → Int32)} {d : Nat} {Q : Option Value → pmS → Prop} {a : xA} {b : xB} {v : Int} (h : pmWp ro d 14 24 1 0 [some (xV v)] [] (xS a b) Q) : pmCs ro (d + 1) 24 [xV v] (xS a b) Q := x_go xi24 rfl rfl rfl rfl rfl h
theorem w62 {ro : Nat → Nat × (Nat → Int32)} {d : Nat} {Q : Option Value → pmS → Prop} {w : Nat} {x : Int} {a : xA} {b : xB} (hz : uWz w) (hx : 0 ≤ x ∧ x ≤ 8)
    (k1 : Q (some (xV ((xL2 (xShr (b w 5) (7 * x))) % 128))) (xS a b)) :
    pmWp ro d 10 62 1 0 [some (.ref w), some (xV x)] [] (xS a b) Q := by
  refine x_aloadn xc62_0 rfl ?_
  refine x_gfl (k := 5) xc62_1 rfl rfl rfl hz.1 ?_
  refine x_bipush xc62_4 (by decide) ?_
  refine x_iloadn xc62_6 rfl ?_
  refine x_imul xc62_7 ?_
  refine x_lushr xc62_8 ?_
  refine x_l2i xc62_9 ?_
  refine x_bipush xc62_10 (by decide) ?_
  refine x_iandm (M := 128) 7 (by decide) (by decide) (by decide) xc62_12 ?_
  refine x_iret xc62_13 (Or.inl rfl) ?_
  exact k1

theorem xg62 {ro : Nat → Nat × (Nat → Int32)} {d : Nat} {Q : Option Value → pmS → Prop} {a : xA} {b : xB} {x : Int} {w : Nat} (h : pmWp ro d 10 62 1 0 [some (.ref w), some (xV x)] [] (xS a b) Q) : pmCs ro (d + 1) 62 [.ref w, xV x] (xS a b) Q := x_go xi62 rfl rfl rfl rfl rfl h
theorem w64 {ro : Nat → Nat × (Nat → Int32)} {d : Nat} {Q : Option Value → pmS → Prop} {w : Nat} {v rm : Int} {a : xA} {b : xB} (hz : uWz w) (hv : 0 ≤ v ∧ v ≤ 15) (hrm : 0 ≤ rm ∧ rm ≤ 15)
    (k1 : (v < 9) → Q (some (xV 0)) (xS a b))
    (k2 : (¬ v < 9) → (13 ≤ v) → Q (some (xV 0)) (xS a b))
    (k3 : (¬ v < 9) → (¬ 13 ≤ v) → (¬ (xL2 (xShr (b w 4) (4 * (v - 9)))) % 16 = rm) → Q (some (xV 0)) (xS a b))
    (k4 : (¬ v < 9) → (¬ 13 ≤ v) → ((xL2 (xShr (b w 4) (4 * (v - 9)))) % 16 = rm) → Q (some (xV 1)) (xS a b)) :
    pmWp ro d 4 64 2 0 [some (.ref w), some (xV v), some (xV rm)] [] (xS a b) Q := by
  refine x_iloadn xc64_0 rfl ?_
  refine x_bipush xc64_1 (by decide) ?_
  refine x_iclt xc64_3 (xRk (by have g0 := hv; omega)) (xRk (by decide)) (fun h0 => ?_) (fun h0 => ?_)
  · refine x_iconst xc64_35 ?_
    refine x_iret xc64_36 (Or.inr ⟨rfl, (by omega)⟩) ?_
    exact k1 h0
  · refine x_iloadn xc64_6 rfl ?_
    refine x_bipush xc64_7 (by decide) ?_
    refine x_icge xc64_9 (xRk (by have g0 := hv; omega)) (xRk (by decide)) (fun h1 => ?_) (fun h1 => ?_)
    · refine x_iconst xc64_35 ?_
      refine x_iret xc64_36 (Or.inr ⟨rfl, (by omega)⟩) ?_
      exact k2 h0 h1
    · refine x_aloadn xc64_12 rfl ?_
      refine x_gfl (k := 4) xc64_13 rfl rfl rfl hz.1 ?_
      refine x_iconst xc64_16 ?_
      refine x_iloadn xc64_17 rfl ?_
      refine x_bipush xc64_18 (by decide) ?_
      refine x_isub xc64_20 ?_
      refine x_imul xc64_21 ?_
      refine x_lushr xc64_22 ?_
      refine x_l2i xc64_23 ?_
      refine x_bipush xc64_24 (by decide) ?_
      refine x_iandm (M := 16) 4 (by decide) (by decide) (by decide) xc64_26 ?_
      refine x_iloadn xc64_27 rfl ?_
      refine x_icne xc64_28 (xRk (by have g0 := xL2B (xShr (b w 4) (4 * (v - 9))); omega)) (xRk (by have g0 := hrm; omega)) (fun h2 => ?_) (fun h2 => ?_)
      · refine x_iconst xc64_35 ?_
        refine x_iret xc64_36 (Or.inr ⟨rfl, (by omega)⟩) ?_
        exact k3 h0 h1 h2
      · replace h2 := Classical.not_not.mp h2
        refine x_iconst xc64_31 ?_
        refine x_goto xc64_32 ?_
        refine x_iret xc64_36 (Or.inr ⟨rfl, (by omega)⟩) ?_
        exact k4 h0 h1 h2

theorem xg64 {ro : Nat → Nat × (Nat → Int32)} {d : Nat} {Q : Option Value → pmS → Prop} {a : xA} {b : xB} {v rm : Int} {w : Nat} (h : pmWp ro d 4 64 2 0 [some (.ref w), some (xV v), some (xV rm)] [] (xS a b) Q) : pmCs ro (d + 1) 64 [.ref w, xV v, xV rm] (xS a b) Q := x_go xi64 rfl rfl rfl rfl rfl h
section
variable {ro : Nat → Nat × (Nat → Int32)} {d : Nat} {Q : Option Value → pmS → Prop} {a : xA} {b : xB} {x v rm : Int} {l : Int64} {w : Nat}
theorem rk61 (hd : 1 ≤ d) (hx : 0 ≤ x ∧ x ≤ 15) (hQ : Q (some (xV (uSl l x))) (xS a b)) : pmCs ro d 61 [.long l, xV x] (xS a b) Q := pmCs_deep (d := 1) (xg61 (w61 hx hQ)) hd
theorem rk62 (hd : 1 ≤ d) (hz : uWz w) (hx : 0 ≤ x ∧ x ≤ 8) (hQ : Q (some (xV (uSt (b w 5) x))) (xS a b)) : pmCs ro d 62 [.ref w, xV x] (xS a b) Q := pmCs_deep (d := 1) (xg62 (w62 hz hx hQ)) hd
theorem rk64 (hd : 1 ≤ d) (hz : uWz w) (hv : 0 ≤ v ∧ v ≤ 15) (hrm : 0 ≤ rm ∧ rm ≤ 15) (hT : (9 ≤ v ∧ v < 13) ∧ uSl (b w 4) (v - 9) = rm → Q (some (xV 1)) (xS a b)) (hF : ¬ ((9 ≤ v ∧ v < 13) ∧ uSl (b w 4) (v - 9) = rm) → Q (some (xV 0)) (xS a b)) : pmCs ro d 64 [.ref w, xV v, xV rm] (xS a b) Q := pmCs_deep (d := 1) (xg64 (w64 hz hv hrm (fun e => hF (fun h => by omega)) (fun _ e => hF (fun h => by omega)) (fun _ _ e => hF (fun h => e h.2)) (fun e1 e2 e3 => hT ⟨⟨by omega, by omega⟩, e3⟩))) hd
theorem uBc_e (hv : 0 ≤ v ∧ v ≤ 127) : (xAnd (xAnd (v - (xAnd (xUs v 1) 1431655765)) 858993459 + (xAnd (xUs (v - (xAnd (xUs v 1) 1431655765)) 2) 858993459) + (xUs (xAnd (v - (xAnd (xUs v 1) 1431655765)) 858993459 + (xAnd (xUs (v - (xAnd (xUs v 1) 1431655765)) 2) 858993459)) 4)) 252645135 + (xUs (xAnd (xAnd (v - (xAnd (xUs v 1) 1431655765)) 858993459 + (xAnd (xUs (v - (xAnd (xUs v 1) 1431655765)) 2) 858993459) + (xUs (xAnd (v - (xAnd (xUs v 1) 1431655765)) 858993459 + (xAnd (xUs (v - (xAnd (xUs v 1) 1431655765)) 2) 858993459)) 4)) 252645135) 8) + (xUs (xAnd (xAnd (v - (xAnd (xUs v 1) 1431655765)) 858993459 + (xAnd (xUs (v - (xAnd (xUs v 1) 1431655765)) 2) 858993459) + (xUs (xAnd (v - (xAnd (xUs v 1) 1431655765)) 858993459 + (xAnd (xUs (v - (xAnd (xUs v 1) 1431655765)) 2) 858993459)) 4)) 252645135 + (xUs (xAnd (xAnd (v - (xAnd (xUs v 1) 1431655765)) 858993459 + (xAnd (xUs (v - (xAnd (xUs v 1) 1431655765)) 2) 858993459) + (xUs (xAnd (v - (xAnd (xUs v 1) 1431655765)) 858993459 + (xAnd (xUs (v - (xAnd (xUs v 1) 1431655765)) 2) 858993459)) 4)) 252645135) 8)) 16)) % 64 = uBs v := by
  have key : ∀ v : Fin 128, (xAnd (xAnd ((v.val : Int) - (xAnd (xUs (v.val : Int) 1) 1431655765)) 858993459 + (xAnd (xUs ((v.val : Int) - (xAnd (xUs (v.val : Int) 1) 1431655765)) 2) 858993459) + (xUs (xAnd ((v.val : Int) - (xAnd (xUs (v.val : Int) 1) 1431655765)) 858993459 + (xAnd (xUs ((v.val : Int) - (xAnd (xUs (v.val : Int) 1) 1431655765)) 2) 858993459)) 4)) 252645135 + (xUs (xAnd (xAnd ((v.val : Int) - (xAnd (xUs (v.val : Int) 1) 1431655765)) 858993459 + (xAnd (xUs ((v.val : Int) - (xAnd (xUs (v.val : Int) 1) 1431655765)) 2) 858993459) + (xUs (xAnd ((v.val : Int) - (xAnd (xUs (v.val : Int) 1) 1431655765)) 858993459 + (xAnd (xUs ((v.val : Int) - (xAnd (xUs (v.val : Int) 1) 1431655765)) 2) 858993459)) 4)) 252645135) 8) + (xUs (xAnd (xAnd ((v.val : Int) - (xAnd (xUs (v.val : Int) 1) 1431655765)) 858993459 + (xAnd (xUs ((v.val : Int) - (xAnd (xUs (v.val : Int) 1) 1431655765)) 2) 858993459) + (xUs (xAnd ((v.val : Int) - (xAnd (xUs (v.val : Int) 1) 1431655765)) 858993459 + (xAnd (xUs ((v.val : Int) - (xAnd (xUs (v.val : Int) 1) 1431655765)) 2) 858993459)) 4)) 252645135 + (xUs (xAnd (xAnd ((v.val : Int) - (xAnd (xUs (v.val : Int) 1) 1431655765)) 858993459 + (xAnd (xUs ((v.val : Int) - (xAnd (xUs (v.val : Int) 1) 1431655765)) 2) 858993459) + (xUs (xAnd ((v.val : Int) - (xAnd (xUs (v.val : Int) 1) 1431655765)) 858993459 + (xAnd (xUs ((v.val : Int) - (xAnd (xUs (v.val : Int) 1) 1431655765)) 2) 858993459)) 4)) 252645135) 8)) 16)) % 64 = uBs (v.val : Int) := by decide +kernel
  exact uF128 (P := fun v => (xAnd (xAnd (v - (xAnd (xUs v 1) 1431655765)) 858993459 + (xAnd (xUs (v - (xAnd (xUs v 1) 1431655765)) 2) 858993459) + (xUs (xAnd (v - (xAnd (xUs v 1) 1431655765)) 858993459 + (xAnd (xUs (v - (xAnd (xUs v 1) 1431655765)) 2) 858993459)) 4)) 252645135 + (xUs (xAnd (xAnd (v - (xAnd (xUs v 1) 1431655765)) 858993459 + (xAnd (xUs (v - (xAnd (xUs v 1) 1431655765)) 2) 858993459) + (xUs (xAnd (v - (xAnd (xUs v 1) 1431655765)) 858993459 + (xAnd (xUs (v - (xAnd (xUs v 1) 1431655765)) 2) 858993459)) 4)) 252645135) 8) + (xUs (xAnd (xAnd (v - (xAnd (xUs v 1) 1431655765)) 858993459 + (xAnd (xUs (v - (xAnd (xUs v 1) 1431655765)) 2) 858993459) + (xUs (xAnd (v - (xAnd (xUs v 1) 1431655765)) 858993459 + (xAnd (xUs (v - (xAnd (xUs v 1) 1431655765)) 2) 858993459)) 4)) 252645135 + (xUs (xAnd (xAnd (v - (xAnd (xUs v 1) 1431655765)) 858993459 + (xAnd (xUs (v - (xAnd (xUs v 1) 1431655765)) 2) 858993459) + (xUs (xAnd (v - (xAnd (xUs v 1) 1431655765)) 858993459 + (xAnd (xUs (v - (xAnd (xUs v 1) 1431655765)) 2) 858993459)) 4)) 252645135) 8)) 16)) % 64 = uBs v) key hv.1 (by omega)
theorem rk24 (hd : 1 ≤ d) (hv : 0 ≤ v ∧ v ≤ 127) (hQ : Q (some (xV (uBs v))) (xS a b)) : pmCs ro d 24 [xV v] (xS a b) Q := pmCs_deep (d := 1) (xg24 (w24 hv (by rw [uBc_e hv]; exact hQ))) hd
end
end
end
section
/-! exact: the class looks -/
section
set_option maxRecDepth 100000
theorem xi60 : pmInf[60]? = some pmI_60 := rfl
theorem xi63 : pmInf[63]? = some pmI_63 := rfl
theorem xi92 : pmInf[92]? = some pmI_92 := rfl
theorem xc59_0 : pmCode 59 0 = some (.aload_n 0) ∧ 0 + 1 = 1 := ⟨rfl, rfl⟩
theorem xc59_1 : pmCode 59 1 = some (.aload_n 1) ∧ 1 + 1 = 2 := ⟨rfl, rfl⟩
theorem xc59_2 : pmCode 59 2 = some (.invokevirtual 108) ∧ 2 + 3 = 5 := ⟨rfl, rfl⟩
theorem xc59_5 : pmCode 59 5 = some (.iconst 1) ∧ 5 + 1 = 6 := ⟨rfl, rfl⟩
theorem xc59_6 : pmCode 59 6 = some (.istore_n 2) ∧ 6 + 1 = 7 := ⟨rfl, rfl⟩
theorem xc59_7 : pmCode 59 7 = some (.iload_n 2) ∧ 7 + 1 = 8 := ⟨rfl, rfl⟩
theorem xc59_8 : pmCode 59 8 = some (.iconst 4) ∧ 8 + 1 = 9 := ⟨rfl, rfl⟩
theorem xc59_9 : pmCode 59 9 = some (.if_icmp .ge 15) ∧ ((9 : Nat) : Int) + 15 = ((24 : Nat) : Int) ∧ 9 + 3 = 12 := ⟨rfl, rfl, rfl⟩
theorem xc59_12 : pmCode 59 12 = some (.aload_n 0) ∧ 12 + 1 = 13 := ⟨rfl, rfl⟩
theorem xc59_13 : pmCode 59 13 = some (.aload_n 1) ∧ 13 + 1 = 14 := ⟨rfl, rfl⟩
theorem xc59_14 : pmCode 59 14 = some (.iload_n 2) ∧ 14 + 1 = 15 := ⟨rfl, rfl⟩
theorem xc59_15 : pmCode 59 15 = some (.invokevirtual 111) ∧ 15 + 3 = 18 := ⟨rfl, rfl⟩
theorem xc59_18 : pmCode 59 18 = some (.iinc 2 1) ∧ 18 + 3 = 21 := ⟨rfl, rfl⟩
theorem xc59_21 : pmCode 59 21 = some (.goto (-14)) ∧ ((21 : Nat) : Int) + (-14) = ((7 : Nat) : Int) := ⟨rfl, rfl⟩
theorem xc59_24 : pmCode 59 24 = some .return_ := rfl
theorem xc60_0 : pmCode 60 0 = some (.iconst 0) ∧ 0 + 1 = 1 := ⟨rfl, rfl⟩
theorem xc60_1 : pmCode 60 1 = some (.istore_n 2) ∧ 1 + 1 = 2 := ⟨rfl, rfl⟩
theorem xc60_2 : pmCode 60 2 = some (.iload_n 2) ∧ 2 + 1 = 3 := ⟨rfl, rfl⟩
theorem xc60_3 : pmCode 60 3 = some (.iconst 4) ∧ 3 + 1 = 4 := ⟨rfl, rfl⟩
theorem xc60_4 : pmCode 60 4 = some (.if_icmp .ge 141) ∧ ((4 : Nat) : Int) + 141 = ((145 : Nat) : Int) ∧ 4 + 3 = 7 := ⟨rfl, rfl, rfl⟩
theorem xc60_7 : pmCode 60 7 = some (.aload_n 1) ∧ 7 + 1 = 8 := ⟨rfl, rfl⟩
theorem xc60_8 : pmCode 60 8 = some (.getfield 47) ∧ 8 + 3 = 11 := ⟨rfl, rfl⟩
theorem xc60_11 : pmCode 60 11 = some (.iload_n 2) ∧ 11 + 1 = 12 := ⟨rfl, rfl⟩
theorem xc60_12 : pmCode 60 12 = some (.invokestatic 51) ∧ 12 + 3 = 15 := ⟨rfl, rfl⟩
theorem xc60_15 : pmCode 60 15 = some (.iconst 1) ∧ 15 + 1 = 16 := ⟨rfl, rfl⟩
theorem xc60_16 : pmCode 60 16 = some .isub ∧ 16 + 1 = 17 := ⟨rfl, rfl⟩
theorem xc60_17 : pmCode 60 17 = some (.istore_n 3) ∧ 17 + 1 = 18 := ⟨rfl, rfl⟩
theorem xc60_18 : pmCode 60 18 = some (.iconst 0) ∧ 18 + 1 = 19 := ⟨rfl, rfl⟩
theorem xc60_19 : pmCode 60 19 = some (.istore 4) ∧ 19 + 2 = 21 := ⟨rfl, rfl⟩
theorem xc60_21 : pmCode 60 21 = some (.iload 4) ∧ 21 + 2 = 23 := ⟨rfl, rfl⟩
theorem xc60_23 : pmCode 60 23 = some (.iconst 5) ∧ 23 + 1 = 24 := ⟨rfl, rfl⟩
theorem xc60_24 : pmCode 60 24 = some (.if_icmp .ge 115) ∧ ((24 : Nat) : Int) + 115 = ((139 : Nat) : Int) ∧ 24 + 3 = 27 := ⟨rfl, rfl, rfl⟩
theorem xc60_27 : pmCode 60 27 = some (.iload_n 3) ∧ 27 + 1 = 28 := ⟨rfl, rfl⟩
theorem xc60_28 : pmCode 60 28 = some (.ifCond .lt 111) ∧ ((28 : Nat) : Int) + 111 = ((139 : Nat) : Int) ∧ 28 + 3 = 31 := ⟨rfl, rfl, rfl⟩
theorem xc60_31 : pmCode 60 31 = some (.iload_n 3) ∧ 31 + 1 = 32 := ⟨rfl, rfl⟩
theorem xc60_32 : pmCode 60 32 = some (.bipush 7) ∧ 32 + 2 = 34 := ⟨rfl, rfl⟩
theorem xc60_34 : pmCode 60 34 = some (.if_icmp .ge 105) ∧ ((34 : Nat) : Int) + 105 = ((139 : Nat) : Int) ∧ 34 + 3 = 37 := ⟨rfl, rfl, rfl⟩
theorem xc60_37 : pmCode 60 37 = some (.aload_n 1) ∧ 37 + 1 = 38 := ⟨rfl, rfl⟩
theorem xc60_38 : pmCode 60 38 = some (.getfield 47) ∧ 38 + 3 = 41 := ⟨rfl, rfl⟩
theorem xc60_41 : pmCode 60 41 = some (.iconst 4) ∧ 41 + 1 = 42 := ⟨rfl, rfl⟩
theorem xc60_42 : pmCode 60 42 = some (.iload 4) ∧ 42 + 2 = 44 := ⟨rfl, rfl⟩
theorem xc60_44 : pmCode 60 44 = some .iadd ∧ 44 + 1 = 45 := ⟨rfl, rfl⟩
theorem xc60_45 : pmCode 60 45 = some (.invokestatic 51) ∧ 45 + 3 = 48 := ⟨rfl, rfl⟩
theorem xc60_48 : pmCode 60 48 = some (.bipush 13) ∧ 48 + 2 = 50 := ⟨rfl, rfl⟩
theorem xc60_50 : pmCode 60 50 = some (.if_icmp .ne 83) ∧ ((50 : Nat) : Int) + 83 = ((133 : Nat) : Int) ∧ 50 + 3 = 53 := ⟨rfl, rfl, rfl⟩
theorem xc60_53 : pmCode 60 53 = some (.aload_n 1) ∧ 53 + 1 = 54 := ⟨rfl, rfl⟩
theorem xc60_54 : pmCode 60 54 = some (.iload 4) ∧ 54 + 2 = 56 := ⟨rfl, rfl⟩
theorem xc60_56 : pmCode 60 56 = some (.invokevirtual 114) ∧ 56 + 3 = 59 := ⟨rfl, rfl⟩
theorem xc60_59 : pmCode 60 59 = some (.iload_n 3) ∧ 59 + 1 = 60 := ⟨rfl, rfl⟩
theorem xc60_60 : pmCode 60 60 = some .ishr ∧ 60 + 1 = 61 := ⟨rfl, rfl⟩
theorem xc60_61 : pmCode 60 61 = some (.iconst 1) ∧ 61 + 1 = 62 := ⟨rfl, rfl⟩
theorem xc60_62 : pmCode 60 62 = some .iand ∧ 62 + 1 = 63 := ⟨rfl, rfl⟩
theorem xc60_63 : pmCode 60 63 = some (.ifCond .eq 70) ∧ ((63 : Nat) : Int) + 70 = ((133 : Nat) : Int) ∧ 63 + 3 = 66 := ⟨rfl, rfl, rfl⟩
theorem xc60_66 : pmCode 60 66 = some (.aload_n 1) ∧ 66 + 1 = 67 := ⟨rfl, rfl⟩
theorem xc60_67 : pmCode 60 67 = some .dup ∧ 67 + 1 = 68 := ⟨rfl, rfl⟩
theorem xc60_68 : pmCode 60 68 = some (.getfield 118) ∧ 68 + 3 = 71 := ⟨rfl, rfl⟩
theorem xc60_71 : pmCode 60 71 = some (.lconst 1) ∧ 71 + 1 = 72 := ⟨rfl, rfl⟩
theorem xc60_72 : pmCode 60 72 = some (.bipush 7) ∧ 72 + 2 = 74 := ⟨rfl, rfl⟩
theorem xc60_74 : pmCode 60 74 = some (.iload 4) ∧ 74 + 2 = 76 := ⟨rfl, rfl⟩
theorem xc60_76 : pmCode 60 76 = some .imul ∧ 76 + 1 = 77 := ⟨rfl, rfl⟩
theorem xc60_77 : pmCode 60 77 = some (.iload_n 3) ∧ 77 + 1 = 78 := ⟨rfl, rfl⟩
theorem xc60_78 : pmCode 60 78 = some .iadd ∧ 78 + 1 = 79 := ⟨rfl, rfl⟩
theorem xc60_79 : pmCode 60 79 = some .lshl ∧ 79 + 1 = 80 := ⟨rfl, rfl⟩
theorem xc60_80 : pmCode 60 80 = some (.ldc2_w 121) ∧ 80 + 3 = 83 := ⟨rfl, rfl⟩
theorem xc60_83 : pmCode 60 83 = some .lxor ∧ 83 + 1 = 84 := ⟨rfl, rfl⟩
theorem xc60_84 : pmCode 60 84 = some .land ∧ 84 + 1 = 85 := ⟨rfl, rfl⟩
theorem xc60_85 : pmCode 60 85 = some (.putfield 118) ∧ 85 + 3 = 88 := ⟨rfl, rfl⟩
theorem xc60_88 : pmCode 60 88 = some (.aload_n 1) ∧ 88 + 1 = 89 := ⟨rfl, rfl⟩
theorem xc60_89 : pmCode 60 89 = some (.iload 4) ∧ 89 + 2 = 91 := ⟨rfl, rfl⟩
theorem xc60_91 : pmCode 60 91 = some (.invokevirtual 114) ∧ 91 + 3 = 94 := ⟨rfl, rfl⟩
theorem xc60_94 : pmCode 60 94 = some (.invokestatic 123) ∧ 94 + 3 = 97 := ⟨rfl, rfl⟩
theorem xc60_97 : pmCode 60 97 = some (.iconst 1) ∧ 97 + 1 = 98 := ⟨rfl, rfl⟩
theorem xc60_98 : pmCode 60 98 = some (.if_icmp .ne 35) ∧ ((98 : Nat) : Int) + 35 = ((133 : Nat) : Int) ∧ 98 + 3 = 101 := ⟨rfl, rfl, rfl⟩
theorem xc60_101 : pmCode 60 101 = some (.aload_n 1) ∧ 101 + 1 = 102 := ⟨rfl, rfl⟩
theorem xc60_102 : pmCode 60 102 = some (.iload 4) ∧ 102 + 2 = 104 := ⟨rfl, rfl⟩
theorem xc60_104 : pmCode 60 104 = some (.invokevirtual 114) ∧ 104 + 3 = 107 := ⟨rfl, rfl⟩
theorem xc60_107 : pmCode 60 107 = some (.iconst 1) ∧ 107 + 1 = 108 := ⟨rfl, rfl⟩
theorem xc60_108 : pmCode 60 108 = some .isub ∧ 108 + 1 = 109 := ⟨rfl, rfl⟩
theorem xc60_109 : pmCode 60 109 = some (.invokestatic 123) ∧ 109 + 3 = 112 := ⟨rfl, rfl⟩
theorem xc60_112 : pmCode 60 112 = some (.istore 5) ∧ 112 + 2 = 114 := ⟨rfl, rfl⟩
theorem xc60_114 : pmCode 60 114 = some (.aload_n 1) ∧ 114 + 1 = 115 := ⟨rfl, rfl⟩
theorem xc60_115 : pmCode 60 115 = some (.aload_n 1) ∧ 115 + 1 = 116 := ⟨rfl, rfl⟩
theorem xc60_116 : pmCode 60 116 = some (.getfield 47) ∧ 116 + 3 = 119 := ⟨rfl, rfl⟩
theorem xc60_119 : pmCode 60 119 = some (.iconst 4) ∧ 119 + 1 = 120 := ⟨rfl, rfl⟩
theorem xc60_120 : pmCode 60 120 = some (.iload 4) ∧ 120 + 2 = 122 := ⟨rfl, rfl⟩
theorem xc60_122 : pmCode 60 122 = some .iadd ∧ 122 + 1 = 123 := ⟨rfl, rfl⟩
theorem xc60_123 : pmCode 60 123 = some (.iload 5) ∧ 123 + 2 = 125 := ⟨rfl, rfl⟩
theorem xc60_125 : pmCode 60 125 = some (.iconst 1) ∧ 125 + 1 = 126 := ⟨rfl, rfl⟩
theorem xc60_126 : pmCode 60 126 = some .iadd ∧ 126 + 1 = 127 := ⟨rfl, rfl⟩
theorem xc60_127 : pmCode 60 127 = some (.invokestatic 84) ∧ 127 + 3 = 130 := ⟨rfl, rfl⟩
theorem xc60_130 : pmCode 60 130 = some (.putfield 47) ∧ 130 + 3 = 133 := ⟨rfl, rfl⟩
theorem xc60_133 : pmCode 60 133 = some (.iinc 4 1) ∧ 133 + 3 = 136 := ⟨rfl, rfl⟩
theorem xc60_136 : pmCode 60 136 = some (.goto (-115)) ∧ ((136 : Nat) : Int) + (-115) = ((21 : Nat) : Int) := ⟨rfl, rfl⟩
theorem xc60_139 : pmCode 60 139 = some (.iinc 2 1) ∧ 139 + 3 = 142 := ⟨rfl, rfl⟩
theorem xc60_142 : pmCode 60 142 = some (.goto (-140)) ∧ ((142 : Nat) : Int) + (-140) = ((2 : Nat) : Int) := ⟨rfl, rfl⟩
theorem xc60_145 : pmCode 60 145 = some .return_ := rfl
theorem xc63_0 : pmCode 63 0 = some (.aload_n 1) ∧ 0 + 1 = 1 := ⟨rfl, rfl⟩
theorem xc63_1 : pmCode 63 1 = some (.getfield 47) ∧ 1 + 3 = 4 := ⟨rfl, rfl⟩
theorem xc63_4 : pmCode 63 4 = some (.iload_n 2) ∧ 4 + 1 = 5 := ⟨rfl, rfl⟩
theorem xc63_5 : pmCode 63 5 = some (.invokestatic 51) ∧ 5 + 3 = 8 := ⟨rfl, rfl⟩
theorem xc63_8 : pmCode 63 8 = some (.istore_n 3) ∧ 8 + 1 = 9 := ⟨rfl, rfl⟩
theorem xc63_9 : pmCode 63 9 = some (.iload_n 3) ∧ 9 + 1 = 10 := ⟨rfl, rfl⟩
theorem xc63_10 : pmCode 63 10 = some (.bipush 8) ∧ 10 + 2 = 12 := ⟨rfl, rfl⟩
theorem xc63_12 : pmCode 63 12 = some (.if_icmp .ne 4) ∧ ((12 : Nat) : Int) + 4 = ((16 : Nat) : Int) ∧ 12 + 3 = 15 := ⟨rfl, rfl, rfl⟩
theorem xc63_15 : pmCode 63 15 = some .return_ := rfl
theorem xc63_16 : pmCode 63 16 = some (.aload_n 1) ∧ 16 + 1 = 17 := ⟨rfl, rfl⟩
theorem xc63_17 : pmCode 63 17 = some (.getfield 59) ∧ 17 + 3 = 20 := ⟨rfl, rfl⟩
theorem xc63_20 : pmCode 63 20 = some (.iload_n 2) ∧ 20 + 1 = 21 := ⟨rfl, rfl⟩
theorem xc63_21 : pmCode 63 21 = some .laload ∧ 21 + 1 = 22 := ⟨rfl, rfl⟩
theorem xc63_22 : pmCode 63 22 = some (.lstore 4) ∧ 22 + 2 = 24 := ⟨rfl, rfl⟩
theorem xc63_24 : pmCode 63 24 = some (.iconst 0) ∧ 24 + 1 = 25 := ⟨rfl, rfl⟩
theorem xc63_25 : pmCode 63 25 = some (.istore 6) ∧ 25 + 2 = 27 := ⟨rfl, rfl⟩
theorem xc63_27 : pmCode 63 27 = some (.iload 6) ∧ 27 + 2 = 29 := ⟨rfl, rfl⟩
theorem xc63_29 : pmCode 63 29 = some (.bipush 9) ∧ 29 + 2 = 31 := ⟨rfl, rfl⟩
theorem xc63_31 : pmCode 63 31 = some (.if_icmp .ge 121) ∧ ((31 : Nat) : Int) + 121 = ((152 : Nat) : Int) ∧ 31 + 3 = 34 := ⟨rfl, rfl, rfl⟩
theorem xc63_34 : pmCode 63 34 = some (.aload_n 1) ∧ 34 + 1 = 35 := ⟨rfl, rfl⟩
theorem xc63_35 : pmCode 63 35 = some (.getfield 47) ∧ 35 + 3 = 38 := ⟨rfl, rfl⟩
theorem xc63_38 : pmCode 63 38 = some (.iload 6) ∧ 38 + 2 = 40 := ⟨rfl, rfl⟩
theorem xc63_40 : pmCode 63 40 = some (.invokestatic 51) ∧ 40 + 3 = 43 := ⟨rfl, rfl⟩
theorem xc63_43 : pmCode 63 43 = some (.istore 7) ∧ 43 + 2 = 45 := ⟨rfl, rfl⟩
theorem xc63_45 : pmCode 63 45 = some (.lload 4) ∧ 45 + 2 = 47 := ⟨rfl, rfl⟩
theorem xc63_47 : pmCode 63 47 = some (.iload 6) ∧ 47 + 2 = 49 := ⟨rfl, rfl⟩
theorem xc63_49 : pmCode 63 49 = some (.invokestatic 51) ∧ 49 + 3 = 52 := ⟨rfl, rfl⟩
theorem xc63_52 : pmCode 63 52 = some (.istore 8) ∧ 52 + 2 = 54 := ⟨rfl, rfl⟩
theorem xc63_54 : pmCode 63 54 = some (.iload 7) ∧ 54 + 2 = 56 := ⟨rfl, rfl⟩
theorem xc63_56 : pmCode 63 56 = some (.iload_n 3) ∧ 56 + 1 = 57 := ⟨rfl, rfl⟩
theorem xc63_57 : pmCode 63 57 = some (.if_icmp .eq 19) ∧ ((57 : Nat) : Int) + 19 = ((76 : Nat) : Int) ∧ 57 + 3 = 60 := ⟨rfl, rfl, rfl⟩
theorem xc63_60 : pmCode 63 60 = some (.iload 6) ∧ 60 + 2 = 62 := ⟨rfl, rfl⟩
theorem xc63_62 : pmCode 63 62 = some (.iconst 4) ∧ 62 + 1 = 63 := ⟨rfl, rfl⟩
theorem xc63_63 : pmCode 63 63 = some (.if_icmp .lt 17) ∧ ((63 : Nat) : Int) + 17 = ((80 : Nat) : Int) ∧ 63 + 3 = 66 := ⟨rfl, rfl, rfl⟩
theorem xc63_66 : pmCode 63 66 = some (.aload_n 1) ∧ 66 + 1 = 67 := ⟨rfl, rfl⟩
theorem xc63_67 : pmCode 63 67 = some (.iload 7) ∧ 67 + 2 = 69 := ⟨rfl, rfl⟩
theorem xc63_69 : pmCode 63 69 = some (.iload_n 3) ∧ 69 + 1 = 70 := ⟨rfl, rfl⟩
theorem xc63_70 : pmCode 63 70 = some (.invokestatic 128) ∧ 70 + 3 = 73 := ⟨rfl, rfl⟩
theorem xc63_73 : pmCode 63 73 = some (.ifCond .eq 7) ∧ ((73 : Nat) : Int) + 7 = ((80 : Nat) : Int) ∧ 73 + 3 = 76 := ⟨rfl, rfl, rfl⟩
theorem xc63_76 : pmCode 63 76 = some (.iconst 1) ∧ 76 + 1 = 77 := ⟨rfl, rfl⟩
theorem xc63_77 : pmCode 63 77 = some (.goto 4) ∧ ((77 : Nat) : Int) + 4 = ((81 : Nat) : Int) := ⟨rfl, rfl⟩
theorem xc63_80 : pmCode 63 80 = some (.iconst 0) ∧ 80 + 1 = 81 := ⟨rfl, rfl⟩
theorem xc63_81 : pmCode 63 81 = some (.istore 9) ∧ 81 + 2 = 83 := ⟨rfl, rfl⟩
theorem xc63_83 : pmCode 63 83 = some (.iload 8) ∧ 83 + 2 = 85 := ⟨rfl, rfl⟩
theorem xc63_85 : pmCode 63 85 = some (.iload_n 3) ∧ 85 + 1 = 86 := ⟨rfl, rfl⟩
theorem xc63_86 : pmCode 63 86 = some (.if_icmp .eq 19) ∧ ((86 : Nat) : Int) + 19 = ((105 : Nat) : Int) ∧ 86 + 3 = 89 := ⟨rfl, rfl, rfl⟩
theorem xc63_89 : pmCode 63 89 = some (.iload 6) ∧ 89 + 2 = 91 := ⟨rfl, rfl⟩
theorem xc63_91 : pmCode 63 91 = some (.iconst 4) ∧ 91 + 1 = 92 := ⟨rfl, rfl⟩
theorem xc63_92 : pmCode 63 92 = some (.if_icmp .lt 17) ∧ ((92 : Nat) : Int) + 17 = ((109 : Nat) : Int) ∧ 92 + 3 = 95 := ⟨rfl, rfl, rfl⟩
theorem xc63_95 : pmCode 63 95 = some (.aload_n 1) ∧ 95 + 1 = 96 := ⟨rfl, rfl⟩
theorem xc63_96 : pmCode 63 96 = some (.iload 8) ∧ 96 + 2 = 98 := ⟨rfl, rfl⟩
theorem xc63_98 : pmCode 63 98 = some (.iload_n 3) ∧ 98 + 1 = 99 := ⟨rfl, rfl⟩
theorem xc63_99 : pmCode 63 99 = some (.invokestatic 128) ∧ 99 + 3 = 102 := ⟨rfl, rfl⟩
theorem xc63_102 : pmCode 63 102 = some (.ifCond .eq 7) ∧ ((102 : Nat) : Int) + 7 = ((109 : Nat) : Int) ∧ 102 + 3 = 105 := ⟨rfl, rfl, rfl⟩
theorem xc63_105 : pmCode 63 105 = some (.iconst 1) ∧ 105 + 1 = 106 := ⟨rfl, rfl⟩
theorem xc63_106 : pmCode 63 106 = some (.goto 4) ∧ ((106 : Nat) : Int) + 4 = ((110 : Nat) : Int) := ⟨rfl, rfl⟩
theorem xc63_109 : pmCode 63 109 = some (.iconst 0) ∧ 109 + 1 = 110 := ⟨rfl, rfl⟩
theorem xc63_110 : pmCode 63 110 = some (.istore 10) ∧ 110 + 2 = 112 := ⟨rfl, rfl⟩
theorem xc63_112 : pmCode 63 112 = some (.iload 9) ∧ 112 + 2 = 114 := ⟨rfl, rfl⟩
theorem xc63_114 : pmCode 63 114 = some (.ifCond .eq 17) ∧ ((114 : Nat) : Int) + 17 = ((131 : Nat) : Int) ∧ 114 + 3 = 117 := ⟨rfl, rfl, rfl⟩
theorem xc63_117 : pmCode 63 117 = some (.lload 4) ∧ 117 + 2 = 119 := ⟨rfl, rfl⟩
theorem xc63_119 : pmCode 63 119 = some (.iload 6) ∧ 119 + 2 = 121 := ⟨rfl, rfl⟩
theorem xc63_121 : pmCode 63 121 = some (.iload 7) ∧ 121 + 2 = 123 := ⟨rfl, rfl⟩
theorem xc63_123 : pmCode 63 123 = some (.invokestatic 84) ∧ 123 + 3 = 126 := ⟨rfl, rfl⟩
theorem xc63_126 : pmCode 63 126 = some (.lstore 4) ∧ 126 + 2 = 128 := ⟨rfl, rfl⟩
theorem xc63_128 : pmCode 63 128 = some (.goto 18) ∧ ((128 : Nat) : Int) + 18 = ((146 : Nat) : Int) := ⟨rfl, rfl⟩
theorem xc63_131 : pmCode 63 131 = some (.iload 10) ∧ 131 + 2 = 133 := ⟨rfl, rfl⟩
theorem xc63_133 : pmCode 63 133 = some (.ifCond .eq 13) ∧ ((133 : Nat) : Int) + 13 = ((146 : Nat) : Int) ∧ 133 + 3 = 136 := ⟨rfl, rfl, rfl⟩
theorem xc63_136 : pmCode 63 136 = some (.lload 4) ∧ 136 + 2 = 138 := ⟨rfl, rfl⟩
theorem xc63_138 : pmCode 63 138 = some (.iload 6) ∧ 138 + 2 = 140 := ⟨rfl, rfl⟩
theorem xc63_140 : pmCode 63 140 = some (.iconst 0) ∧ 140 + 1 = 141 := ⟨rfl, rfl⟩
theorem xc63_141 : pmCode 63 141 = some (.invokestatic 84) ∧ 141 + 3 = 144 := ⟨rfl, rfl⟩
theorem xc63_144 : pmCode 63 144 = some (.lstore 4) ∧ 144 + 2 = 146 := ⟨rfl, rfl⟩
theorem xc63_146 : pmCode 63 146 = some (.iinc 6 1) ∧ 146 + 3 = 149 := ⟨rfl, rfl⟩
theorem xc63_149 : pmCode 63 149 = some (.goto (-122)) ∧ ((149 : Nat) : Int) + (-122) = ((27 : Nat) : Int) := ⟨rfl, rfl⟩
theorem xc63_152 : pmCode 63 152 = some (.aload_n 1) ∧ 152 + 1 = 153 := ⟨rfl, rfl⟩
theorem xc63_153 : pmCode 63 153 = some (.getfield 59) ∧ 153 + 3 = 156 := ⟨rfl, rfl⟩
theorem xc63_156 : pmCode 63 156 = some (.iload_n 2) ∧ 156 + 1 = 157 := ⟨rfl, rfl⟩
theorem xc63_157 : pmCode 63 157 = some (.lload 4) ∧ 157 + 2 = 159 := ⟨rfl, rfl⟩
theorem xc63_159 : pmCode 63 159 = some .lastore ∧ 159 + 1 = 160 := ⟨rfl, rfl⟩
theorem xc63_160 : pmCode 63 160 = some .return_ := rfl
theorem xc92_0 : pmCode 92 0 = some (.iload_n 2) ∧ 0 + 1 = 1 := ⟨rfl, rfl⟩
theorem xc92_1 : pmCode 92 1 = some (.invokestatic 104) ∧ 1 + 3 = 4 := ⟨rfl, rfl⟩
theorem xc92_4 : pmCode 92 4 = some (.ifCond .eq 43) ∧ ((4 : Nat) : Int) + 43 = ((47 : Nat) : Int) ∧ 4 + 3 = 7 := ⟨rfl, rfl, rfl⟩
theorem xc92_7 : pmCode 92 7 = some (.aload_n 0) ∧ 7 + 1 = 8 := ⟨rfl, rfl⟩
theorem xc92_8 : pmCode 92 8 = some (.getfield 47) ∧ 8 + 3 = 11 := ⟨rfl, rfl⟩
theorem xc92_11 : pmCode 92 11 = some (.iconst 4) ∧ 11 + 1 = 12 := ⟨rfl, rfl⟩
theorem xc92_12 : pmCode 92 12 = some (.iload_n 1) ∧ 12 + 1 = 13 := ⟨rfl, rfl⟩
theorem xc92_13 : pmCode 92 13 = some .iadd ∧ 13 + 1 = 14 := ⟨rfl, rfl⟩
theorem xc92_14 : pmCode 92 14 = some (.invokestatic 51) ∧ 14 + 3 = 17 := ⟨rfl, rfl⟩
theorem xc92_17 : pmCode 92 17 = some (.istore_n 3) ∧ 17 + 1 = 18 := ⟨rfl, rfl⟩
theorem xc92_18 : pmCode 92 18 = some (.aload_n 0) ∧ 18 + 1 = 19 := ⟨rfl, rfl⟩
theorem xc92_19 : pmCode 92 19 = some (.getfield 59) ∧ 19 + 3 = 22 := ⟨rfl, rfl⟩
theorem xc92_22 : pmCode 92 22 = some (.iload_n 2) ∧ 22 + 1 = 23 := ⟨rfl, rfl⟩
theorem xc92_23 : pmCode 92 23 = some (.aload_n 0) ∧ 23 + 1 = 24 := ⟨rfl, rfl⟩
theorem xc92_24 : pmCode 92 24 = some (.getfield 59) ∧ 24 + 3 = 27 := ⟨rfl, rfl⟩
theorem xc92_27 : pmCode 92 27 = some (.iload_n 2) ∧ 27 + 1 = 28 := ⟨rfl, rfl⟩
theorem xc92_28 : pmCode 92 28 = some .laload ∧ 28 + 1 = 29 := ⟨rfl, rfl⟩
theorem xc92_29 : pmCode 92 29 = some (.iconst 4) ∧ 29 + 1 = 30 := ⟨rfl, rfl⟩
theorem xc92_30 : pmCode 92 30 = some (.iload_n 1) ∧ 30 + 1 = 31 := ⟨rfl, rfl⟩
theorem xc92_31 : pmCode 92 31 = some .iadd ∧ 31 + 1 = 32 := ⟨rfl, rfl⟩
theorem xc92_32 : pmCode 92 32 = some (.iload_n 3) ∧ 32 + 1 = 33 := ⟨rfl, rfl⟩
theorem xc92_33 : pmCode 92 33 = some (.bipush 13) ∧ 33 + 2 = 35 := ⟨rfl, rfl⟩
theorem xc92_35 : pmCode 92 35 = some (.if_icmp .ne 7) ∧ ((35 : Nat) : Int) + 7 = ((42 : Nat) : Int) ∧ 35 + 3 = 38 := ⟨rfl, rfl, rfl⟩
theorem xc92_38 : pmCode 92 38 = some (.iconst 0) ∧ 38 + 1 = 39 := ⟨rfl, rfl⟩
theorem xc92_39 : pmCode 92 39 = some (.goto 4) ∧ ((39 : Nat) : Int) + 4 = ((43 : Nat) : Int) := ⟨rfl, rfl⟩
theorem xc92_42 : pmCode 92 42 = some (.iload_n 3) ∧ 42 + 1 = 43 := ⟨rfl, rfl⟩
theorem xc92_43 : pmCode 92 43 = some (.invokestatic 84) ∧ 43 + 3 = 46 := ⟨rfl, rfl⟩
theorem xc92_46 : pmCode 92 46 = some .lastore ∧ 46 + 1 = 47 := ⟨rfl, rfl⟩
theorem xc92_47 : pmCode 92 47 = some .return_ := rfl
theorem w60 {ro : Nat → Nat × (Nat → Int32)} {d : Nat} {Q : Option Value → pmS → Prop} {w : Nat} {a : xA} {b : xB} (hz : uWz w) (hd : 1 ≤ d)
    (k1 : pmWp ro d 4 60 0 2 [some (.ref 43), some (.ref w), some (xV 0), none, none, none] [] (xS a b) Q) :
    pmWp ro d 4 60 0 0 [some (.ref 43), some (.ref w), none, none, none, none] [] (xS a b) Q := by
  refine x_iconst xc60_0 ?_
  refine x_istoren (pl' := [some (.ref 43), some (.ref w), some (xV 0), none, none, none]) xc60_1 rfl rfl ?_
  exact k1

theorem xg60 {ro : Nat → Nat × (Nat → Int32)} {d : Nat} {Q : Option Value → pmS → Prop} {a : xA} {b : xB} {w : Nat} (h : pmWp ro d 4 60 0 0 [some (.ref 43), some (.ref w), none, none, none, none] [] (xS a b) Q) : pmCs ro (d + 1) 60 [.ref 43, .ref w] (xS a b) Q := x_go xi60 rfl rfl rfl rfl rfl h
theorem w60p {ro : Nat → Nat × (Nat → Int32)} {d : Nat} {Q : Option Value → pmS → Prop} {v3 : Option Value} {v4 : Option Value} {v5 : Option Value} {p : Int} {w : Nat} {a : xA} {b : xB} (hz : uWz w) (hd : 1 ≤ d) (hp : 0 ≤ p ∧ p ≤ 4)
    (k1 : (4 ≤ p) → Q none (xS a b))
    (k2 : (¬ 4 ≤ p) → pmWp ro d 4 60 0 21 [some (.ref 43), some (.ref w), some (xV p), some (xV (uSl (b w 4) p - 1)), some (xV 0), v5] [] (xS a b) Q) :
    pmWp ro d 4 60 0 2 [some (.ref 43), some (.ref w), some (xV p), v3, v4, v5] [] (xS a b) Q := by
  refine x_iloadn xc60_2 rfl ?_
  refine x_iconst xc60_3 ?_
  refine x_icge xc60_4 (xRk (by have g0 := hp; omega)) (xRk (by decide)) (fun h0 => ?_) (fun h0 => ?_)
  · refine x_ret xc60_145 rfl ?_
    exact k1 h0
  · refine x_aloadn xc60_7 rfl ?_
    refine x_gfl (k := 4) xc60_8 rfl rfl rfl hz.1 ?_
    refine x_iloadn xc60_11 rfl ?_
    refine x_cS (as := [.long (b w 4), xV p]) (rest := []) xc60_12 rfl rfl xi61 ⟨rfl, rfl⟩ rfl rfl ?_
    refine rk61 (by omega) (by have g0 := hp; omega) ?_
    refine x_iconst xc60_15 ?_
    refine x_isub xc60_16 ?_
    refine x_istoren (pl' := [some (.ref 43), some (.ref w), some (xV p), some (xV (uSl (b w 4) p - 1)), v4, v5]) xc60_17 rfl rfl ?_
    refine x_iconst xc60_18 ?_
    refine x_istore (pl' := [some (.ref 43), some (.ref w), some (xV p), some (xV (uSl (b w 4) p - 1)), some (xV 0), v5]) xc60_19 rfl rfl ?_
    exact k2 h0

theorem w60x {ro : Nat → Nat × (Nat → Int32)} {d : Nat} {Q : Option Value → pmS → Prop} {v5 : Option Value} {p rm x : Int} {w : Nat} {a : xA} {b : xB} (hz : uWz w) (hd : 1 ≤ d) (hp : 0 ≤ p ∧ p ≤ 3) (hrm : -1 ≤ rm ∧ rm ≤ 14) (hx : 0 ≤ x ∧ x ≤ 5)
    (k1 : (5 ≤ x) → pmWp ro d 4 60 0 139 [some (.ref 43), some (.ref w), some (xV p), some (xV rm), some (xV x), v5] [] (xS a b) Q)
    (k2 : (¬ 5 ≤ x) → (rm < 0) → pmWp ro d 4 60 0 139 [some (.ref 43), some (.ref w), some (xV p), some (xV rm), some (xV x), v5] [] (xS a b) Q)
    (k3 : (¬ 5 ≤ x) → (¬ rm < 0) → (7 ≤ rm) → pmWp ro d 4 60 0 139 [some (.ref 43), some (.ref w), some (xV p), some (xV rm), some (xV x), v5] [] (xS a b) Q)
    (k4 : (¬ 5 ≤ x) → (¬ rm < 0) → (¬ 7 ≤ rm) → (¬ uSl (b w 4) (4 + x) = 13) → pmWp ro d 4 60 0 133 [some (.ref 43), some (.ref w), some (xV p), some (xV rm), some (xV x), v5] [] (xS a b) Q)
    (k5 : (¬ 5 ≤ x) → (¬ rm < 0) → (¬ 7 ≤ rm) → (uSl (b w 4) (4 + x) = 13) → (((uSt (b w 5) x) / ((2 ^ rm.toNat : Nat) : Int)) % 2 = 0) → pmWp ro d 4 60 0 133 [some (.ref 43), some (.ref w), some (xV p), some (xV rm), some (xV x), v5] [] (xS a b) Q)
    (k6 : (¬ 5 ≤ x) → (¬ rm < 0) → (¬ 7 ≤ rm) → (uSl (b w 4) (4 + x) = 13) → (¬ ((uSt (b w 5) x) / ((2 ^ rm.toNat : Nat) : Int)) % 2 = 0) → pmWp ro d 4 60 0 88 [some (.ref 43), some (.ref w), some (xV p), some (xV rm), some (xV x), v5] [] (xS a (xU b w 5 ((b w 5) &&& ((xShL (1 : Int64) (7 * x + rm)) ^^^ (-1 : Int64))))) Q) :
    pmWp ro d 4 60 0 21 [some (.ref 43), some (.ref w), some (xV p), some (xV rm), some (xV x), v5] [] (xS a b) Q := by
  refine x_iload xc60_21 rfl ?_
  refine x_iconst xc60_23 ?_
  refine x_icge xc60_24 (xRk (by have g0 := hx; omega)) (xRk (by decide)) (fun h0 => ?_) (fun h0 => ?_)
  · exact k1 h0
  · refine x_iloadn xc60_27 rfl ?_
    refine x_iflt xc60_28 (xRk (by have g0 := hrm; omega)) (fun h1 => ?_) (fun h1 => ?_)
    · exact k2 h0 h1
    · refine x_iloadn xc60_31 rfl ?_
      refine x_bipush xc60_32 (by decide) ?_
      refine x_icge xc60_34 (xRk (by have g0 := hrm; omega)) (xRk (by decide)) (fun h2 => ?_) (fun h2 => ?_)
      · exact k3 h0 h1 h2
      · refine x_aloadn xc60_37 rfl ?_
        refine x_gfl (k := 4) xc60_38 rfl rfl rfl hz.1 ?_
        refine x_iconst xc60_41 ?_
        refine x_iload xc60_42 rfl ?_
        refine x_iadd xc60_44 ?_
        refine x_cS (as := [.long (b w 4), xV (4 + x)]) (rest := []) xc60_45 rfl rfl xi61 ⟨rfl, rfl⟩ rfl rfl ?_
        refine rk61 (by omega) (by have g0 := hx; omega) ?_
        refine x_bipush xc60_48 (by decide) ?_
        refine x_icne xc60_50 (xRk (by have g0 := uSl_b (l := b w 4) (j := 4 + x) (by have g0 := hx; omega) (by have g0 := hx; omega); omega)) (xRk (by decide)) (fun h3 => ?_) (fun h3 => ?_)
        · exact k4 h0 h1 h2 h3
        · replace h3 := Classical.not_not.mp h3
          refine x_aloadn xc60_53 rfl ?_
          refine x_iload xc60_54 rfl ?_
          refine x_cV (as := [xV x]) (rest := []) xc60_56 rfl xi62 hz.1 ⟨rfl, rfl⟩ rfl rfl ?_
          refine rk62 (by omega) hz (by have g0 := hx; omega) ?_
          refine x_iloadn xc60_59 rfl ?_
          refine x_ishr (M := ((2 ^ rm.toNat : Nat) : Int)) (by have g0 := hrm; omega) (by have g0 := hrm; omega) rfl (xRk (by have g0 := uSt_b (l := b w 5) (x := x); omega)) xc60_60 ?_
          refine x_iconst xc60_61 ?_
          refine x_iandm (M := 2) 1 (by decide) (by decide) (by decide) xc60_62 ?_
          refine x_ifeq xc60_63 (xRk (by have g0 := uSt_b (l := b w 5) (x := x); have g1 := hrm; omega)) (fun h4 => ?_) (fun h4 => ?_)
          · exact k5 h0 h1 h2 h3 h4
          · refine x_aloadn xc60_66 rfl ?_
            refine x_dup xc60_67 rfl ?_
            refine x_gfl (k := 5) xc60_68 rfl rfl rfl hz.1 ?_
            refine x_lconst (l := 1) xc60_71 rfl ?_
            refine x_bipush xc60_72 (by decide) ?_
            refine x_iload xc60_74 rfl ?_
            refine x_imul xc60_76 ?_
            refine x_iloadn xc60_77 rfl ?_
            refine x_iadd xc60_78 ?_
            refine x_lshl xc60_79 ?_
            refine x_ldc2 (l := (-1)) xc60_80 rfl ?_
            refine x_lxor xc60_83 ?_
            refine x_land xc60_84 ?_
            refine x_pfl (k := 5) xc60_85 rfl ⟨rfl, rfl⟩ rfl hz.1 ?_
            exact k6 h0 h1 h2 h3 h4

theorem w60y {ro : Nat → Nat × (Nat → Int32)} {d : Nat} {Q : Option Value → pmS → Prop} {v5 : Option Value} {p rm x : Int} {w : Nat} {a : xA} {b : xB} (hz : uWz w) (hd : 1 ≤ d) (hx : 0 ≤ x ∧ x ≤ 4)
    (k1 : (¬ uBs (uSt (b w 5) x) = 1) → pmWp ro d 4 60 0 133 [some (.ref 43), some (.ref w), some (xV p), some (xV rm), some (xV x), v5] [] (xS a b) Q)
    (k2 : (uBs (uSt (b w 5) x) = 1) → pmWp ro d 4 60 0 101 [some (.ref 43), some (.ref w), some (xV p), some (xV rm), some (xV x), v5] [] (xS a b) Q) :
    pmWp ro d 4 60 0 88 [some (.ref 43), some (.ref w), some (xV p), some (xV rm), some (xV x), v5] [] (xS a b) Q := by
  refine x_aloadn xc60_88 rfl ?_
  refine x_iload xc60_89 rfl ?_
  refine x_cV (as := [xV x]) (rest := []) xc60_91 rfl xi62 hz.1 ⟨rfl, rfl⟩ rfl rfl ?_
  refine rk62 (by omega) hz (by have g0 := hx; omega) ?_
  refine x_cS (as := [xV (uSt (b w 5) x)]) (rest := []) xc60_94 rfl rfl xi24 ⟨rfl, rfl⟩ rfl rfl ?_
  refine rk24 (by omega) (by have g0 := uSt_b (l := b w 5) (x := x); omega) ?_
  refine x_iconst xc60_97 ?_
  refine x_icne xc60_98 (xRk (by have g0 := uBs_b (by have g0 := uSt_b (l := b w 5) (x := x); omega); omega)) (xRk (by decide)) (fun h0 => ?_) (fun h0 => ?_)
  · exact k1 h0
  · replace h0 := Classical.not_not.mp h0
    exact k2 h0

theorem w60u {ro : Nat → Nat × (Nat → Int32)} {d : Nat} {Q : Option Value → pmS → Prop} {v5 : Option Value} {p rm x : Int} {w : Nat} {a : xA} {b : xB} (hz : uWz w) (hd : 1 ≤ d) (hx : 0 ≤ x ∧ x ≤ 4) (h1 : 1 ≤ uSt (b w 5) x)
    (k1 : pmWp ro d 4 60 0 112 [some (.ref 43), some (.ref w), some (xV p), some (xV rm), some (xV x), v5] [xV (uBs (uSt (b w 5) x - 1))] (xS a b) Q) :
    pmWp ro d 4 60 0 101 [some (.ref 43), some (.ref w), some (xV p), some (xV rm), some (xV x), v5] [] (xS a b) Q := by
  refine x_aloadn xc60_101 rfl ?_
  refine x_iload xc60_102 rfl ?_
  refine x_cV (as := [xV x]) (rest := []) xc60_104 rfl xi62 hz.1 ⟨rfl, rfl⟩ rfl rfl ?_
  refine rk62 (by omega) hz (by have g0 := hx; omega) ?_
  refine x_iconst xc60_107 ?_
  refine x_isub xc60_108 ?_
  refine x_cS (as := [xV (uSt (b w 5) x - 1)]) (rest := []) xc60_109 rfl rfl xi24 ⟨rfl, rfl⟩ rfl rfl ?_
  refine rk24 (by omega) (by have g0 := uSt_b (l := b w 5) (x := x); omega) ?_
  exact k1

theorem w60z {ro : Nat → Nat × (Nat → Int32)} {d : Nat} {Q : Option Value → pmS → Prop} {v5 : Option Value} {p rm x lo : Int} {w : Nat} {a : xA} {b : xB} (hz : uWz w) (hd : 1 ≤ d) (hx : 0 ≤ x ∧ x ≤ 4) (hlo : 0 ≤ lo ∧ lo ≤ 6)
    (k1 : pmWp ro d 4 60 0 133 [some (.ref 43), some (.ref w), some (xV p), some (xV rm), some (xV x), some (xV lo)] [] (xS a (xU b w 4 (xWith (b w 4) (4 + x) (lo + 1)))) Q) :
    pmWp ro d 4 60 0 112 [some (.ref 43), some (.ref w), some (xV p), some (xV rm), some (xV x), v5] [xV lo] (xS a b) Q := by
  refine x_istore (pl' := [some (.ref 43), some (.ref w), some (xV p), some (xV rm), some (xV x), some (xV lo)]) xc60_112 rfl rfl ?_
  refine x_aloadn xc60_114 rfl ?_
  refine x_aloadn xc60_115 rfl ?_
  refine x_gfl (k := 4) xc60_116 rfl rfl rfl hz.1 ?_
  refine x_iconst xc60_119 ?_
  refine x_iload xc60_120 rfl ?_
  refine x_iadd xc60_122 ?_
  refine x_iload xc60_123 rfl ?_
  refine x_iconst xc60_125 ?_
  refine x_iadd xc60_126 ?_
  refine x_cS (as := [.long (b w 4), xV (4 + x), xV (lo + 1)]) (rest := [.ref w]) xc60_127 rfl rfl xi19 ⟨rfl, rfl⟩ rfl rfl ?_
  refine xk19 (by omega) (xRk (by have g0 := hx; omega)) (xRk (by have g0 := hlo; omega)) ?_
  refine x_pfl (k := 4) xc60_130 rfl ⟨rfl, rfl⟩ rfl hz.1 ?_
  exact k1

theorem w60n {ro : Nat → Nat × (Nat → Int32)} {d : Nat} {Q : Option Value → pmS → Prop} {v5 : Option Value} {p rm x : Int} {w : Nat} {a : xA} {b : xB} (hz : uWz w) (hd : 1 ≤ d) (hx : 0 ≤ x ∧ x ≤ 4)
    (k1 : pmWp ro d 4 60 0 21 [some (.ref 43), some (.ref w), some (xV p), some (xV rm), some (xV (x + 1)), v5] [] (xS a b) Q) :
    pmWp ro d 4 60 0 133 [some (.ref 43), some (.ref w), some (xV p), some (xV rm), some (xV x), v5] [] (xS a b) Q := by
  refine x_iinc (pl' := [some (.ref 43), some (.ref w), some (xV p), some (xV rm), some (xV (x + 1)), v5]) xc60_133 rfl rfl ?_
  refine x_goto xc60_136 ?_
  exact k1

theorem w60m {ro : Nat → Nat × (Nat → Int32)} {d : Nat} {Q : Option Value → pmS → Prop} {v3 : Option Value} {v4 : Option Value} {v5 : Option Value} {p : Int} {w : Nat} {a : xA} {b : xB} (hp : 0 ≤ p ∧ p ≤ 3)
    (k1 : pmWp ro d 4 60 0 2 [some (.ref 43), some (.ref w), some (xV (p + 1)), v3, v4, v5] [] (xS a b) Q) :
    pmWp ro d 4 60 0 139 [some (.ref 43), some (.ref w), some (xV p), v3, v4, v5] [] (xS a b) Q := by
  refine x_iinc (pl' := [some (.ref 43), some (.ref w), some (xV (p + 1)), v3, v4, v5]) xc60_139 rfl rfl ?_
  refine x_goto xc60_142 ?_
  exact k1

theorem w63 {ro : Nat → Nat × (Nat → Int32)} {d : Nat} {Q : Option Value → pmS → Prop} {p : Int} {w : Nat} {a : xA} {b : xB} (hz : uWz w) (hd : 1 ≤ d) (hp : 1 ≤ p ∧ p ≤ 3)
    (k1 : (¬ uSl (b w 4) p = 8) → pmWp ro d 4 63 0 27 [some (.ref 43), some (.ref w), some (xV p), some (xV (uSl (b w 4) p)), some (.long (b (w + 1) p)), none, some (xV 0), none, none, none, none] [] (xS a b) Q)
    (k2 : (uSl (b w 4) p = 8) → Q none (xS a b)) :
    pmWp ro d 4 63 0 0 [some (.ref 43), some (.ref w), some (xV p), none, none, none, none, none, none, none, none] [] (xS a b) Q := by
  refine x_aloadn xc63_0 rfl ?_
  refine x_gfl (k := 4) xc63_1 rfl rfl rfl hz.1 ?_
  refine x_iloadn xc63_4 rfl ?_
  refine x_cS (as := [.long (b w 4), xV p]) (rest := []) xc63_5 rfl rfl xi61 ⟨rfl, rfl⟩ rfl rfl ?_
  refine rk61 (by omega) (by have g0 := hp; omega) ?_
  refine x_istoren (pl' := [some (.ref 43), some (.ref w), some (xV p), some (xV (uSl (b w 4) p)), none, none, none, none, none, none, none]) xc63_8 rfl rfl ?_
  refine x_iloadn xc63_9 rfl ?_
  refine x_bipush xc63_10 (by decide) ?_
  refine x_icne xc63_12 (xRk (by have g0 := uSl_b (l := b w 4) (j := p) (by have g0 := hp; omega) (by have g0 := hp; omega); omega)) (xRk (by decide)) (fun h0 => ?_) (fun h0 => ?_)
  · refine x_aloadn xc63_16 rfl ?_
    refine x_gfr xc63_17 rfl rfl hz.1 rfl ?_
    refine x_iloadn xc63_20 rfl ?_
    refine x_lal xc63_21 hz.2.1 (by have g0 := hp; omega) (by have g0 := hp; omega) (by have g0 := hp; omega) ?_
    refine x_lstore (pl' := [some (.ref 43), some (.ref w), some (xV p), some (xV (uSl (b w 4) p)), some (.long (b (w + 1) p)), none, none, none, none, none, none]) xc63_22 rfl rfl rfl ?_
    refine x_iconst xc63_24 ?_
    refine x_istore (pl' := [some (.ref 43), some (.ref w), some (xV p), some (xV (uSl (b w 4) p)), some (.long (b (w + 1) p)), none, some (xV 0), none, none, none, none]) xc63_25 rfl rfl ?_
    exact k1 h0
  · replace h0 := Classical.not_not.mp h0
    refine x_ret xc63_15 rfl ?_
    exact k2 h0

theorem xg63 {ro : Nat → Nat × (Nat → Int32)} {d : Nat} {Q : Option Value → pmS → Prop} {a : xA} {b : xB} {p : Int} {w : Nat} (h : pmWp ro d 4 63 0 0 [some (.ref 43), some (.ref w), some (xV p), none, none, none, none, none, none, none, none] [] (xS a b) Q) : pmCs ro (d + 1) 63 [.ref 43, .ref w, xV p] (xS a b) Q := x_go xi63 rfl rfl rfl rfl rfl h
theorem w63i {ro : Nat → Nat × (Nat → Int32)} {d : Nat} {Q : Option Value → pmS → Prop} {v10 : Option Value} {v7 : Option Value} {v8 : Option Value} {v9 : Option Value} {p hr i : Int} {l : Int64} {w : Nat} {a : xA} {b : xB} (hz : uWz w) (hd : 1 ≤ d) (hp : 1 ≤ p ∧ p ≤ 3) (hhr : 0 ≤ hr ∧ hr ≤ 15) (hi : 0 ≤ i ∧ i ≤ 9)
    (k1 : (9 ≤ i) → Q none (xS a (xU b (w + 1) p l)))
    (k2 : (¬ 9 ≤ i) → (uSl (b w 4) i = hr) → (uSl l i = hr) → pmWp ro d 4 63 0 146 [some (.ref 43), some (.ref w), some (xV p), some (xV hr), some (.long (xWith l i (uSl (b w 4) i))), none, some (xV i), some (xV (uSl (b w 4) i)), some (xV (uSl l i)), some (xV 1), some (xV 1)] [] (xS a b) Q)
    (k3 : (¬ 9 ≤ i) → (uSl (b w 4) i = hr) → (¬ uSl l i = hr) → (i < 4) → pmWp ro d 4 63 0 146 [some (.ref 43), some (.ref w), some (xV p), some (xV hr), some (.long (xWith l i (uSl (b w 4) i))), none, some (xV i), some (xV (uSl (b w 4) i)), some (xV (uSl l i)), some (xV 1), some (xV 0)] [] (xS a b) Q)
    (k4 : (¬ 9 ≤ i) → (uSl (b w 4) i = hr) → (¬ uSl l i = hr) → (¬ i < 4) → ((9 ≤ uSl l i ∧ uSl l i < 13) ∧ uSl (b w 4) (uSl l i - 9) = hr) → pmWp ro d 4 63 0 146 [some (.ref 43), some (.ref w), some (xV p), some (xV hr), some (.long (xWith l i (uSl (b w 4) i))), none, some (xV i), some (xV (uSl (b w 4) i)), some (xV (uSl l i)), some (xV 1), some (xV 1)] [] (xS a b) Q)
    (k5 : (¬ 9 ≤ i) → (uSl (b w 4) i = hr) → (¬ uSl l i = hr) → (¬ i < 4) → (¬ ((9 ≤ uSl l i ∧ uSl l i < 13) ∧ uSl (b w 4) (uSl l i - 9) = hr)) → pmWp ro d 4 63 0 146 [some (.ref 43), some (.ref w), some (xV p), some (xV hr), some (.long (xWith l i (uSl (b w 4) i))), none, some (xV i), some (xV (uSl (b w 4) i)), some (xV (uSl l i)), some (xV 1), some (xV 0)] [] (xS a b) Q)
    (k6 : (¬ 9 ≤ i) → (¬ uSl (b w 4) i = hr) → (i < 4) → (uSl l i = hr) → pmWp ro d 4 63 0 146 [some (.ref 43), some (.ref w), some (xV p), some (xV hr), some (.long (xWith l i 0)), none, some (xV i), some (xV (uSl (b w 4) i)), some (xV (uSl l i)), some (xV 0), some (xV 1)] [] (xS a b) Q)
    (k7 : (¬ 9 ≤ i) → (¬ uSl (b w 4) i = hr) → (i < 4) → (¬ uSl l i = hr) → pmWp ro d 4 63 0 146 [some (.ref 43), some (.ref w), some (xV p), some (xV hr), some (.long l), none, some (xV i), some (xV (uSl (b w 4) i)), some (xV (uSl l i)), some (xV 0), some (xV 0)] [] (xS a b) Q)
    (k8 : (¬ 9 ≤ i) → (¬ uSl (b w 4) i = hr) → (¬ i < 4) → ((9 ≤ uSl (b w 4) i ∧ uSl (b w 4) i < 13) ∧ uSl (b w 4) (uSl (b w 4) i - 9) = hr) → (uSl l i = hr) → pmWp ro d 4 63 0 146 [some (.ref 43), some (.ref w), some (xV p), some (xV hr), some (.long (xWith l i (uSl (b w 4) i))), none, some (xV i), some (xV (uSl (b w 4) i)), some (xV (uSl l i)), some (xV 1), some (xV 1)] [] (xS a b) Q)
    (k9 : (¬ 9 ≤ i) → (¬ uSl (b w 4) i = hr) → (¬ i < 4) → ((9 ≤ uSl (b w 4) i ∧ uSl (b w 4) i < 13) ∧ uSl (b w 4) (uSl (b w 4) i - 9) = hr) → (¬ uSl l i = hr) → ((9 ≤ uSl l i ∧ uSl l i < 13) ∧ uSl (b w 4) (uSl l i - 9) = hr) → pmWp ro d 4 63 0 146 [some (.ref 43), some (.ref w), some (xV p), some (xV hr), some (.long (xWith l i (uSl (b w 4) i))), none, some (xV i), some (xV (uSl (b w 4) i)), some (xV (uSl l i)), some (xV 1), some (xV 1)] [] (xS a b) Q)
    (k10 : (¬ 9 ≤ i) → (¬ uSl (b w 4) i = hr) → (¬ i < 4) → ((9 ≤ uSl (b w 4) i ∧ uSl (b w 4) i < 13) ∧ uSl (b w 4) (uSl (b w 4) i - 9) = hr) → (¬ uSl l i = hr) → (¬ ((9 ≤ uSl l i ∧ uSl l i < 13) ∧ uSl (b w 4) (uSl l i - 9) = hr)) → pmWp ro d 4 63 0 146 [some (.ref 43), some (.ref w), some (xV p), some (xV hr), some (.long (xWith l i (uSl (b w 4) i))), none, some (xV i), some (xV (uSl (b w 4) i)), some (xV (uSl l i)), some (xV 1), some (xV 0)] [] (xS a b) Q)
    (k11 : (¬ 9 ≤ i) → (¬ uSl (b w 4) i = hr) → (¬ i < 4) → (¬ ((9 ≤ uSl (b w 4) i ∧ uSl (b w 4) i < 13) ∧ uSl (b w 4) (uSl (b w 4) i - 9) = hr)) → (uSl l i = hr) → pmWp ro d 4 63 0 146 [some (.ref 43), some (.ref w), some (xV p), some (xV hr), some (.long (xWith l i 0)), none, some (xV i), some (xV (uSl (b w 4) i)), some (xV (uSl l i)), some (xV 0), some (xV 1)] [] (xS a b) Q)
    (k12 : (¬ 9 ≤ i) → (¬ uSl (b w 4) i = hr) → (¬ i < 4) → (¬ ((9 ≤ uSl (b w 4) i ∧ uSl (b w 4) i < 13) ∧ uSl (b w 4) (uSl (b w 4) i - 9) = hr)) → (¬ uSl l i = hr) → ((9 ≤ uSl l i ∧ uSl l i < 13) ∧ uSl (b w 4) (uSl l i - 9) = hr) → pmWp ro d 4 63 0 146 [some (.ref 43), some (.ref w), some (xV p), some (xV hr), some (.long (xWith l i 0)), none, some (xV i), some (xV (uSl (b w 4) i)), some (xV (uSl l i)), some (xV 0), some (xV 1)] [] (xS a b) Q)
    (k13 : (¬ 9 ≤ i) → (¬ uSl (b w 4) i = hr) → (¬ i < 4) → (¬ ((9 ≤ uSl (b w 4) i ∧ uSl (b w 4) i < 13) ∧ uSl (b w 4) (uSl (b w 4) i - 9) = hr)) → (¬ uSl l i = hr) → (¬ ((9 ≤ uSl l i ∧ uSl l i < 13) ∧ uSl (b w 4) (uSl l i - 9) = hr)) → pmWp ro d 4 63 0 146 [some (.ref 43), some (.ref w), some (xV p), some (xV hr), some (.long l), none, some (xV i), some (xV (uSl (b w 4) i)), some (xV (uSl l i)), some (xV 0), some (xV 0)] [] (xS a b) Q) :
    pmWp ro d 4 63 0 27 [some (.ref 43), some (.ref w), some (xV p), some (xV hr), some (.long l), none, some (xV i), v7, v8, v9, v10] [] (xS a b) Q := by
  refine x_iload xc63_27 rfl ?_
  refine x_bipush xc63_29 (by decide) ?_
  refine x_icge xc63_31 (xRk (by have g0 := hi; omega)) (xRk (by decide)) (fun h0 => ?_) (fun h0 => ?_)
  · refine x_aloadn xc63_152 rfl ?_
    refine x_gfr xc63_153 rfl rfl hz.1 rfl ?_
    refine x_iloadn xc63_156 rfl ?_
    refine x_lload xc63_157 rfl ?_
    refine x_las xc63_159 hz.2.1 (by have g0 := hp; omega) (by have g0 := hp; omega) (by have g0 := hp; omega) ?_
    refine x_ret xc63_160 rfl ?_
    exact k1 h0
  · refine x_aloadn xc63_34 rfl ?_
    refine x_gfl (k := 4) xc63_35 rfl rfl rfl hz.1 ?_
    refine x_iload xc63_38 rfl ?_
    refine x_cS (as := [.long (b w 4), xV i]) (rest := []) xc63_40 rfl rfl xi61 ⟨rfl, rfl⟩ rfl rfl ?_
    refine rk61 (by omega) (by have g0 := hi; omega) ?_
    refine x_istore (pl' := [some (.ref 43), some (.ref w), some (xV p), some (xV hr), some (.long l), none, some (xV i), some (xV (uSl (b w 4) i)), v8, v9, v10]) xc63_43 rfl rfl ?_
    refine x_lload xc63_45 rfl ?_
    refine x_iload xc63_47 rfl ?_
    refine x_cS (as := [.long l, xV i]) (rest := []) xc63_49 rfl rfl xi61 ⟨rfl, rfl⟩ rfl rfl ?_
    refine rk61 (by omega) (by have g0 := hi; omega) ?_
    refine x_istore (pl' := [some (.ref 43), some (.ref w), some (xV p), some (xV hr), some (.long l), none, some (xV i), some (xV (uSl (b w 4) i)), some (xV (uSl l i)), v9, v10]) xc63_52 rfl rfl ?_
    refine x_iload xc63_54 rfl ?_
    refine x_iloadn xc63_56 rfl ?_
    refine x_iceq xc63_57 (xRk (by have g0 := uSl_b (l := b w 4) (j := i) (by have g0 := hi; omega) (by have g0 := hi; omega); omega)) (xRk (by have g0 := hhr; omega)) (fun h1 => ?_) (fun h1 => ?_)
    · refine x_iconst xc63_76 ?_
      refine x_goto xc63_77 ?_
      refine x_istore (pl' := [some (.ref 43), some (.ref w), some (xV p), some (xV hr), some (.long l), none, some (xV i), some (xV (uSl (b w 4) i)), some (xV (uSl l i)), some (xV 1), v10]) xc63_81 rfl rfl ?_
      refine x_iload xc63_83 rfl ?_
      refine x_iloadn xc63_85 rfl ?_
      refine x_iceq xc63_86 (xRk (by have g0 := uSl_b (l := l) (j := i) (by have g0 := hi; omega) (by have g0 := hi; omega); omega)) (xRk (by have g0 := hhr; omega)) (fun h2 => ?_) (fun h2 => ?_)
      · refine x_iconst xc63_105 ?_
        refine x_goto xc63_106 ?_
        refine x_istore (pl' := [some (.ref 43), some (.ref w), some (xV p), some (xV hr), some (.long l), none, some (xV i), some (xV (uSl (b w 4) i)), some (xV (uSl l i)), some (xV 1), some (xV 1)]) xc63_110 rfl rfl ?_
        refine x_iload xc63_112 rfl ?_
        refine x_ifeq xc63_114 (xRk (by decide)) (fun h => absurd h (by omega)) (fun _ => ?_)
        refine x_lload xc63_117 rfl ?_
        refine x_iload xc63_119 rfl ?_
        refine x_iload xc63_121 rfl ?_
        refine x_cS (as := [.long l, xV i, xV (uSl (b w 4) i)]) (rest := []) xc63_123 rfl rfl xi19 ⟨rfl, rfl⟩ rfl rfl ?_
        refine xk19 (by omega) (xRk (by have g0 := hi; omega)) (xRk (by have g0 := uSl_b (l := b w 4) (j := i) (by have g0 := hi; omega) (by have g0 := hi; omega); omega)) ?_
        refine x_lstore (pl' := [some (.ref 43), some (.ref w), some (xV p), some (xV hr), some (.long (xWith l i (uSl (b w 4) i))), none, some (xV i), some (xV (uSl (b w 4) i)), some (xV (uSl l i)), some (xV 1), some (xV 1)]) xc63_126 rfl rfl rfl ?_
        refine x_goto xc63_128 ?_
        exact k2 h0 h1 h2
      · refine x_iload xc63_89 rfl ?_
        refine x_iconst xc63_91 ?_
        refine x_iclt xc63_92 (xRk (by have g0 := hi; omega)) (xRk (by decide)) (fun h4 => ?_) (fun h4 => ?_)
        · refine x_iconst xc63_109 ?_
          refine x_istore (pl' := [some (.ref 43), some (.ref w), some (xV p), some (xV hr), some (.long l), none, some (xV i), some (xV (uSl (b w 4) i)), some (xV (uSl l i)), some (xV 1), some (xV 0)]) xc63_110 rfl rfl ?_
          refine x_iload xc63_112 rfl ?_
          refine x_ifeq xc63_114 (xRk (by decide)) (fun h => absurd h (by omega)) (fun _ => ?_)
          refine x_lload xc63_117 rfl ?_
          refine x_iload xc63_119 rfl ?_
          refine x_iload xc63_121 rfl ?_
          refine x_cS (as := [.long l, xV i, xV (uSl (b w 4) i)]) (rest := []) xc63_123 rfl rfl xi19 ⟨rfl, rfl⟩ rfl rfl ?_
          refine xk19 (by omega) (xRk (by have g0 := hi; omega)) (xRk (by have g0 := uSl_b (l := b w 4) (j := i) (by have g0 := hi; omega) (by have g0 := hi; omega); omega)) ?_
          refine x_lstore (pl' := [some (.ref 43), some (.ref w), some (xV p), some (xV hr), some (.long (xWith l i (uSl (b w 4) i))), none, some (xV i), some (xV (uSl (b w 4) i)), some (xV (uSl l i)), some (xV 1), some (xV 0)]) xc63_126 rfl rfl rfl ?_
          refine x_goto xc63_128 ?_
          exact k3 h0 h1 h2 h4
        · refine x_aloadn xc63_95 rfl ?_
          refine x_iload xc63_96 rfl ?_
          refine x_iloadn xc63_98 rfl ?_
          refine x_cS (as := [.ref w, xV (uSl l i), xV hr]) (rest := []) xc63_99 rfl rfl xi64 ⟨rfl, rfl⟩ rfl rfl ?_
          refine rk64 (by omega) hz (by have g0 := uSl_b (l := l) (j := i) (by have g0 := hi; omega) (by have g0 := hi; omega); omega) (by have g0 := hhr; omega) (fun h6 => ?_) (fun h7 => ?_)
          · refine x_ifeq xc63_102 (xRk (by decide)) (fun h => absurd h (by omega)) (fun _ => ?_)
            refine x_iconst xc63_105 ?_
            refine x_goto xc63_106 ?_
            refine x_istore (pl' := [some (.ref 43), some (.ref w), some (xV p), some (xV hr), some (.long l), none, some (xV i), some (xV (uSl (b w 4) i)), some (xV (uSl l i)), some (xV 1), some (xV 1)]) xc63_110 rfl rfl ?_
            refine x_iload xc63_112 rfl ?_
            refine x_ifeq xc63_114 (xRk (by decide)) (fun h => absurd h (by omega)) (fun _ => ?_)
            refine x_lload xc63_117 rfl ?_
            refine x_iload xc63_119 rfl ?_
            refine x_iload xc63_121 rfl ?_
            refine x_cS (as := [.long l, xV i, xV (uSl (b w 4) i)]) (rest := []) xc63_123 rfl rfl xi19 ⟨rfl, rfl⟩ rfl rfl ?_
            refine xk19 (by omega) (xRk (by have g0 := hi; omega)) (xRk (by have g0 := uSl_b (l := b w 4) (j := i) (by have g0 := hi; omega) (by have g0 := hi; omega); omega)) ?_
            refine x_lstore (pl' := [some (.ref 43), some (.ref w), some (xV p), some (xV hr), some (.long (xWith l i (uSl (b w 4) i))), none, some (xV i), some (xV (uSl (b w 4) i)), some (xV (uSl l i)), some (xV 1), some (xV 1)]) xc63_126 rfl rfl rfl ?_
            refine x_goto xc63_128 ?_
            exact k4 h0 h1 h2 h4 h6
          · refine x_ifeq xc63_102 (xRk (by decide)) (fun _ => ?_) (fun h => absurd h (by omega))
            refine x_iconst xc63_109 ?_
            refine x_istore (pl' := [some (.ref 43), some (.ref w), some (xV p), some (xV hr), some (.long l), none, some (xV i), some (xV (uSl (b w 4) i)), some (xV (uSl l i)), some (xV 1), some (xV 0)]) xc63_110 rfl rfl ?_
            refine x_iload xc63_112 rfl ?_
            refine x_ifeq xc63_114 (xRk (by decide)) (fun h => absurd h (by omega)) (fun _ => ?_)
            refine x_lload xc63_117 rfl ?_
            refine x_iload xc63_119 rfl ?_
            refine x_iload xc63_121 rfl ?_
            refine x_cS (as := [.long l, xV i, xV (uSl (b w 4) i)]) (rest := []) xc63_123 rfl rfl xi19 ⟨rfl, rfl⟩ rfl rfl ?_
            refine xk19 (by omega) (xRk (by have g0 := hi; omega)) (xRk (by have g0 := uSl_b (l := b w 4) (j := i) (by have g0 := hi; omega) (by have g0 := hi; omega); omega)) ?_
            refine x_lstore (pl' := [some (.ref 43), some (.ref w), some (xV p), some (xV hr), some (.long (xWith l i (uSl (b w 4) i))), none, some (xV i), some (xV (uSl (b w 4) i)), some (xV (uSl l i)), some (xV 1), some (xV 0)]) xc63_126 rfl rfl rfl ?_
            refine x_goto xc63_128 ?_
            exact k5 h0 h1 h2 h4 h7
    · refine x_iload xc63_60 rfl ?_
      refine x_iconst xc63_62 ?_
      refine x_iclt xc63_63 (xRk (by have g0 := hi; omega)) (xRk (by decide)) (fun h12 => ?_) (fun h12 => ?_)
      · refine x_iconst xc63_80 ?_
        refine x_istore (pl' := [some (.ref 43), some (.ref w), some (xV p), some (xV hr), some (.long l), none, some (xV i), some (xV (uSl (b w 4) i)), some (xV (uSl l i)), some (xV 0), v10]) xc63_81 rfl rfl ?_
        refine x_iload xc63_83 rfl ?_
        refine x_iloadn xc63_85 rfl ?_
        refine x_iceq xc63_86 (xRk (by have g0 := uSl_b (l := l) (j := i) (by have g0 := hi; omega) (by have g0 := hi; omega); omega)) (xRk (by have g0 := hhr; omega)) (fun h13 => ?_) (fun h13 => ?_)
        · refine x_iconst xc63_105 ?_
          refine x_goto xc63_106 ?_
          refine x_istore (pl' := [some (.ref 43), some (.ref w), some (xV p), some (xV hr), some (.long l), none, some (xV i), some (xV (uSl (b w 4) i)), some (xV (uSl l i)), some (xV 0), some (xV 1)]) xc63_110 rfl rfl ?_
          refine x_iload xc63_112 rfl ?_
          refine x_ifeq xc63_114 (xRk (by decide)) (fun _ => ?_) (fun h => absurd h (by omega))
          refine x_iload xc63_131 rfl ?_
          refine x_ifeq xc63_133 (xRk (by decide)) (fun h => absurd h (by omega)) (fun _ => ?_)
          refine x_lload xc63_136 rfl ?_
          refine x_iload xc63_138 rfl ?_
          refine x_iconst xc63_140 ?_
          refine x_cS (as := [.long l, xV i, xV 0]) (rest := []) xc63_141 rfl rfl xi19 ⟨rfl, rfl⟩ rfl rfl ?_
          refine xk19 (by omega) (xRk (by have g0 := hi; omega)) (xRk (by decide)) ?_
          refine x_lstore (pl' := [some (.ref 43), some (.ref w), some (xV p), some (xV hr), some (.long (xWith l i 0)), none, some (xV i), some (xV (uSl (b w 4) i)), some (xV (uSl l i)), some (xV 0), some (xV 1)]) xc63_144 rfl rfl rfl ?_
          exact k6 h0 h1 h12 h13
        · refine x_iload xc63_89 rfl ?_
          refine x_iconst xc63_91 ?_
          refine x_iclt xc63_92 (xRk (by have g0 := hi; omega)) (xRk (by decide)) (fun _ => ?_) (fun h => absurd h (by omega))
          refine x_iconst xc63_109 ?_
          refine x_istore (pl' := [some (.ref 43), some (.ref w), some (xV p), some (xV hr), some (.long l), none, some (xV i), some (xV (uSl (b w 4) i)), some (xV (uSl l i)), some (xV 0), some (xV 0)]) xc63_110 rfl rfl ?_
          refine x_iload xc63_112 rfl ?_
          refine x_ifeq xc63_114 (xRk (by decide)) (fun _ => ?_) (fun h => absurd h (by omega))
          refine x_iload xc63_131 rfl ?_
          refine x_ifeq xc63_133 (xRk (by decide)) (fun _ => ?_) (fun h => absurd h (by omega))
          exact k7 h0 h1 h12 h13
      · refine x_aloadn xc63_66 rfl ?_
        refine x_iload xc63_67 rfl ?_
        refine x_iloadn xc63_69 rfl ?_
        refine x_cS (as := [.ref w, xV (uSl (b w 4) i), xV hr]) (rest := []) xc63_70 rfl rfl xi64 ⟨rfl, rfl⟩ rfl rfl ?_
        refine rk64 (by omega) hz (by have g0 := uSl_b (l := b w 4) (j := i) (by have g0 := hi; omega) (by have g0 := hi; omega); omega) (by have g0 := hhr; omega) (fun h19 => ?_) (fun h20 => ?_)
        · refine x_ifeq xc63_73 (xRk (by decide)) (fun h => absurd h (by omega)) (fun _ => ?_)
          refine x_iconst xc63_76 ?_
          refine x_goto xc63_77 ?_
          refine x_istore (pl' := [some (.ref 43), some (.ref w), some (xV p), some (xV hr), some (.long l), none, some (xV i), some (xV (uSl (b w 4) i)), some (xV (uSl l i)), some (xV 1), v10]) xc63_81 rfl rfl ?_
          refine x_iload xc63_83 rfl ?_
          refine x_iloadn xc63_85 rfl ?_
          refine x_iceq xc63_86 (xRk (by have g0 := uSl_b (l := l) (j := i) (by have g0 := hi; omega) (by have g0 := hi; omega); omega)) (xRk (by have g0 := hhr; omega)) (fun h22 => ?_) (fun h22 => ?_)
          · refine x_iconst xc63_105 ?_
            refine x_goto xc63_106 ?_
            refine x_istore (pl' := [some (.ref 43), some (.ref w), some (xV p), some (xV hr), some (.long l), none, some (xV i), some (xV (uSl (b w 4) i)), some (xV (uSl l i)), some (xV 1), some (xV 1)]) xc63_110 rfl rfl ?_
            refine x_iload xc63_112 rfl ?_
            refine x_ifeq xc63_114 (xRk (by decide)) (fun h => absurd h (by omega)) (fun _ => ?_)
            refine x_lload xc63_117 rfl ?_
            refine x_iload xc63_119 rfl ?_
            refine x_iload xc63_121 rfl ?_
            refine x_cS (as := [.long l, xV i, xV (uSl (b w 4) i)]) (rest := []) xc63_123 rfl rfl xi19 ⟨rfl, rfl⟩ rfl rfl ?_
            refine xk19 (by omega) (xRk (by have g0 := hi; omega)) (xRk (by have g0 := uSl_b (l := b w 4) (j := i) (by have g0 := hi; omega) (by have g0 := hi; omega); omega)) ?_
            refine x_lstore (pl' := [some (.ref 43), some (.ref w), some (xV p), some (xV hr), some (.long (xWith l i (uSl (b w 4) i))), none, some (xV i), some (xV (uSl (b w 4) i)), some (xV (uSl l i)), some (xV 1), some (xV 1)]) xc63_126 rfl rfl rfl ?_
            refine x_goto xc63_128 ?_
            exact k8 h0 h1 h12 h19 h22
          · refine x_iload xc63_89 rfl ?_
            refine x_iconst xc63_91 ?_
            refine x_iclt xc63_92 (xRk (by have g0 := hi; omega)) (xRk (by decide)) (fun h => absurd h (by omega)) (fun _ => ?_)
            refine x_aloadn xc63_95 rfl ?_
            refine x_iload xc63_96 rfl ?_
            refine x_iloadn xc63_98 rfl ?_
            refine x_cS (as := [.ref w, xV (uSl l i), xV hr]) (rest := []) xc63_99 rfl rfl xi64 ⟨rfl, rfl⟩ rfl rfl ?_
            refine rk64 (by omega) hz (by have g0 := uSl_b (l := l) (j := i) (by have g0 := hi; omega) (by have g0 := hi; omega); omega) (by have g0 := hhr; omega) (fun h25 => ?_) (fun h26 => ?_)
            · refine x_ifeq xc63_102 (xRk (by decide)) (fun h => absurd h (by omega)) (fun _ => ?_)
              refine x_iconst xc63_105 ?_
              refine x_goto xc63_106 ?_
              refine x_istore (pl' := [some (.ref 43), some (.ref w), some (xV p), some (xV hr), some (.long l), none, some (xV i), some (xV (uSl (b w 4) i)), some (xV (uSl l i)), some (xV 1), some (xV 1)]) xc63_110 rfl rfl ?_
              refine x_iload xc63_112 rfl ?_
              refine x_ifeq xc63_114 (xRk (by decide)) (fun h => absurd h (by omega)) (fun _ => ?_)
              refine x_lload xc63_117 rfl ?_
              refine x_iload xc63_119 rfl ?_
              refine x_iload xc63_121 rfl ?_
              refine x_cS (as := [.long l, xV i, xV (uSl (b w 4) i)]) (rest := []) xc63_123 rfl rfl xi19 ⟨rfl, rfl⟩ rfl rfl ?_
              refine xk19 (by omega) (xRk (by have g0 := hi; omega)) (xRk (by have g0 := uSl_b (l := b w 4) (j := i) (by have g0 := hi; omega) (by have g0 := hi; omega); omega)) ?_
              refine x_lstore (pl' := [some (.ref 43), some (.ref w), some (xV p), some (xV hr), some (.long (xWith l i (uSl (b w 4) i))), none, some (xV i), some (xV (uSl (b w 4) i)), some (xV (uSl l i)), some (xV 1), some (xV 1)]) xc63_126 rfl rfl rfl ?_
              refine x_goto xc63_128 ?_
              exact k9 h0 h1 h12 h19 h22 h25
            · refine x_ifeq xc63_102 (xRk (by decide)) (fun _ => ?_) (fun h => absurd h (by omega))
              refine x_iconst xc63_109 ?_
              refine x_istore (pl' := [some (.ref 43), some (.ref w), some (xV p), some (xV hr), some (.long l), none, some (xV i), some (xV (uSl (b w 4) i)), some (xV (uSl l i)), some (xV 1), some (xV 0)]) xc63_110 rfl rfl ?_
              refine x_iload xc63_112 rfl ?_
              refine x_ifeq xc63_114 (xRk (by decide)) (fun h => absurd h (by omega)) (fun _ => ?_)
              refine x_lload xc63_117 rfl ?_
              refine x_iload xc63_119 rfl ?_
              refine x_iload xc63_121 rfl ?_
              refine x_cS (as := [.long l, xV i, xV (uSl (b w 4) i)]) (rest := []) xc63_123 rfl rfl xi19 ⟨rfl, rfl⟩ rfl rfl ?_
              refine xk19 (by omega) (xRk (by have g0 := hi; omega)) (xRk (by have g0 := uSl_b (l := b w 4) (j := i) (by have g0 := hi; omega) (by have g0 := hi; omega); omega)) ?_
              refine x_lstore (pl' := [some (.ref 43), some (.ref w), some (xV p), some (xV hr), some (.long (xWith l i (uSl (b w 4) i))), none, some (xV i), some (xV (uSl (b w 4) i)), some (xV (uSl l i)), some (xV 1), some (xV 0)]) xc63_126 rfl rfl rfl ?_
              refine x_goto xc63_128 ?_
              exact k10 h0 h1 h12 h19 h22 h26
        · refine x_ifeq xc63_73 (xRk (by decide)) (fun _ => ?_) (fun h => absurd h (by omega))
          refine x_iconst xc63_80 ?_
          refine x_istore (pl' := [some (.ref 43), some (.ref w), some (xV p), some (xV hr), some (.long l), none, some (xV i), some (xV (uSl (b w 4) i)), some (xV (uSl l i)), some (xV 0), v10]) xc63_81 rfl rfl ?_
          refine x_iload xc63_83 rfl ?_
          refine x_iloadn xc63_85 rfl ?_
          refine x_iceq xc63_86 (xRk (by have g0 := uSl_b (l := l) (j := i) (by have g0 := hi; omega) (by have g0 := hi; omega); omega)) (xRk (by have g0 := hhr; omega)) (fun h32 => ?_) (fun h32 => ?_)
          · refine x_iconst xc63_105 ?_
            refine x_goto xc63_106 ?_
            refine x_istore (pl' := [some (.ref 43), some (.ref w), some (xV p), some (xV hr), some (.long l), none, some (xV i), some (xV (uSl (b w 4) i)), some (xV (uSl l i)), some (xV 0), some (xV 1)]) xc63_110 rfl rfl ?_
            refine x_iload xc63_112 rfl ?_
            refine x_ifeq xc63_114 (xRk (by decide)) (fun _ => ?_) (fun h => absurd h (by omega))
            refine x_iload xc63_131 rfl ?_
            refine x_ifeq xc63_133 (xRk (by decide)) (fun h => absurd h (by omega)) (fun _ => ?_)
            refine x_lload xc63_136 rfl ?_
            refine x_iload xc63_138 rfl ?_
            refine x_iconst xc63_140 ?_
            refine x_cS (as := [.long l, xV i, xV 0]) (rest := []) xc63_141 rfl rfl xi19 ⟨rfl, rfl⟩ rfl rfl ?_
            refine xk19 (by omega) (xRk (by have g0 := hi; omega)) (xRk (by decide)) ?_
            refine x_lstore (pl' := [some (.ref 43), some (.ref w), some (xV p), some (xV hr), some (.long (xWith l i 0)), none, some (xV i), some (xV (uSl (b w 4) i)), some (xV (uSl l i)), some (xV 0), some (xV 1)]) xc63_144 rfl rfl rfl ?_
            exact k11 h0 h1 h12 h20 h32
          · refine x_iload xc63_89 rfl ?_
            refine x_iconst xc63_91 ?_
            refine x_iclt xc63_92 (xRk (by have g0 := hi; omega)) (xRk (by decide)) (fun h => absurd h (by omega)) (fun _ => ?_)
            refine x_aloadn xc63_95 rfl ?_
            refine x_iload xc63_96 rfl ?_
            refine x_iloadn xc63_98 rfl ?_
            refine x_cS (as := [.ref w, xV (uSl l i), xV hr]) (rest := []) xc63_99 rfl rfl xi64 ⟨rfl, rfl⟩ rfl rfl ?_
            refine rk64 (by omega) hz (by have g0 := uSl_b (l := l) (j := i) (by have g0 := hi; omega) (by have g0 := hi; omega); omega) (by have g0 := hhr; omega) (fun h36 => ?_) (fun h37 => ?_)
            · refine x_ifeq xc63_102 (xRk (by decide)) (fun h => absurd h (by omega)) (fun _ => ?_)
              refine x_iconst xc63_105 ?_
              refine x_goto xc63_106 ?_
              refine x_istore (pl' := [some (.ref 43), some (.ref w), some (xV p), some (xV hr), some (.long l), none, some (xV i), some (xV (uSl (b w 4) i)), some (xV (uSl l i)), some (xV 0), some (xV 1)]) xc63_110 rfl rfl ?_
              refine x_iload xc63_112 rfl ?_
              refine x_ifeq xc63_114 (xRk (by decide)) (fun _ => ?_) (fun h => absurd h (by omega))
              refine x_iload xc63_131 rfl ?_
              refine x_ifeq xc63_133 (xRk (by decide)) (fun h => absurd h (by omega)) (fun _ => ?_)
              refine x_lload xc63_136 rfl ?_
              refine x_iload xc63_138 rfl ?_
              refine x_iconst xc63_140 ?_
              refine x_cS (as := [.long l, xV i, xV 0]) (rest := []) xc63_141 rfl rfl xi19 ⟨rfl, rfl⟩ rfl rfl ?_
              refine xk19 (by omega) (xRk (by have g0 := hi; omega)) (xRk (by decide)) ?_
              refine x_lstore (pl' := [some (.ref 43), some (.ref w), some (xV p), some (xV hr), some (.long (xWith l i 0)), none, some (xV i), some (xV (uSl (b w 4) i)), some (xV (uSl l i)), some (xV 0), some (xV 1)]) xc63_144 rfl rfl rfl ?_
              exact k12 h0 h1 h12 h20 h32 h36
            · refine x_ifeq xc63_102 (xRk (by decide)) (fun _ => ?_) (fun h => absurd h (by omega))
              refine x_iconst xc63_109 ?_
              refine x_istore (pl' := [some (.ref 43), some (.ref w), some (xV p), some (xV hr), some (.long l), none, some (xV i), some (xV (uSl (b w 4) i)), some (xV (uSl l i)), some (xV 0), some (xV 0)]) xc63_110 rfl rfl ?_
              refine x_iload xc63_112 rfl ?_
              refine x_ifeq xc63_114 (xRk (by decide)) (fun _ => ?_) (fun h => absurd h (by omega))
              refine x_iload xc63_131 rfl ?_
              refine x_ifeq xc63_133 (xRk (by decide)) (fun _ => ?_) (fun h => absurd h (by omega))
              exact k13 h0 h1 h12 h20 h32 h37

theorem w63n {ro : Nat → Nat × (Nat → Int32)} {d : Nat} {Q : Option Value → pmS → Prop} {v10 : Option Value} {v7 : Option Value} {v8 : Option Value} {v9 : Option Value} {p hr i : Int} {l : Int64} {w : Nat} {a : xA} {b : xB} (hz : uWz w) (hd : 1 ≤ d) (hp : 1 ≤ p ∧ p ≤ 3) (hhr : 0 ≤ hr ∧ hr ≤ 15) (hi : 0 ≤ i ∧ i ≤ 9)
    (k1 : pmWp ro d 4 63 0 27 [some (.ref 43), some (.ref w), some (xV p), some (xV hr), some (.long l), none, some (xV (i + 1)), v7, v8, v9, v10] [] (xS a b) Q) :
    pmWp ro d 4 63 0 146 [some (.ref 43), some (.ref w), some (xV p), some (xV hr), some (.long l), none, some (xV i), v7, v8, v9, v10] [] (xS a b) Q := by
  refine x_iinc (pl' := [some (.ref 43), some (.ref w), some (xV p), some (xV hr), some (.long l), none, some (xV (i + 1)), v7, v8, v9, v10]) xc63_146 rfl rfl ?_
  refine x_goto xc63_149 ?_
  exact k1

theorem w59 {ro : Nat → Nat × (Nat → Int32)} {d : Nat} {Q : Option Value → pmS → Prop} {w : Nat} {a : xA} {b : xB} (hz : uWz w) (hd : 1 ≤ d)
    (k1 : pmCs ro d 60 [.ref 43, .ref w] (xS a b) fun r σ' => pmWp ro d 4 59 0 5 [some (.ref 43), some (.ref w), none] (r.toList ++ []) σ' Q) :
    pmWp ro d 4 59 0 0 [some (.ref 43), some (.ref w), none] [] (xS a b) Q := by
  refine x_aloadn xc59_0 rfl ?_
  refine x_aloadn xc59_1 rfl ?_
  refine x_cV (as := [.ref w]) (rest := []) xc59_2 rfl xi60 xz43 ⟨rfl, rfl⟩ rfl rfl ?_
  exact k1

theorem xg59 {ro : Nat → Nat × (Nat → Int32)} {d : Nat} {Q : Option Value → pmS → Prop} {a : xA} {b : xB} {w : Nat} (h : pmWp ro d 4 59 0 0 [some (.ref 43), some (.ref w), none] [] (xS a b) Q) : pmCs ro (d + 1) 59 [.ref 43, .ref w] (xS a b) Q := x_go xi59 rfl rfl rfl rfl rfl h
theorem w59a {ro : Nat → Nat × (Nat → Int32)} {d : Nat} {Q : Option Value → pmS → Prop} {w : Nat} {a : xA} {b : xB} (hz : uWz w) (hd : 1 ≤ d)
    (k1 : pmWp ro d 4 59 0 7 [some (.ref 43), some (.ref w), some (xV 1)] [] (xS a b) Q) :
    pmWp ro d 4 59 0 5 [some (.ref 43), some (.ref w), none] [] (xS a b) Q := by
  refine x_iconst xc59_5 ?_
  refine x_istoren (pl' := [some (.ref 43), some (.ref w), some (xV 1)]) xc59_6 rfl rfl ?_
  exact k1

theorem w59p {ro : Nat → Nat × (Nat → Int32)} {d : Nat} {Q : Option Value → pmS → Prop} {p : Int} {w : Nat} {a : xA} {b : xB} (hz : uWz w) (hd : 1 ≤ d) (hp : 1 ≤ p ∧ p ≤ 4)
    (k1 : (4 ≤ p) → Q none (xS a b))
    (k2 : (¬ 4 ≤ p) → pmCs ro d 63 [.ref 43, .ref w, xV p] (xS a b) fun r σ' => pmWp ro d 4 59 0 18 [some (.ref 43), some (.ref w), some (xV p)] (r.toList ++ []) σ' Q) :
    pmWp ro d 4 59 0 7 [some (.ref 43), some (.ref w), some (xV p)] [] (xS a b) Q := by
  refine x_iloadn xc59_7 rfl ?_
  refine x_iconst xc59_8 ?_
  refine x_icge xc59_9 (xRk (by have g0 := hp; omega)) (xRk (by decide)) (fun h0 => ?_) (fun h0 => ?_)
  · refine x_ret xc59_24 rfl ?_
    exact k1 h0
  · refine x_aloadn xc59_12 rfl ?_
    refine x_aloadn xc59_13 rfl ?_
    refine x_iloadn xc59_14 rfl ?_
    refine x_cV (as := [.ref w, xV p]) (rest := []) xc59_15 rfl xi63 xz43 ⟨rfl, rfl⟩ rfl rfl ?_
    exact k2 h0

theorem w59n {ro : Nat → Nat × (Nat → Int32)} {d : Nat} {Q : Option Value → pmS → Prop} {p : Int} {w : Nat} {a : xA} {b : xB} (hz : uWz w) (hd : 1 ≤ d) (hp : 1 ≤ p ∧ p ≤ 4)
    (k1 : pmWp ro d 4 59 0 7 [some (.ref 43), some (.ref w), some (xV (p + 1))] [] (xS a b) Q) :
    pmWp ro d 4 59 0 18 [some (.ref 43), some (.ref w), some (xV p)] [] (xS a b) Q := by
  refine x_iinc (pl' := [some (.ref 43), some (.ref w), some (xV (p + 1))]) xc59_18 rfl rfl ?_
  refine x_goto xc59_21 ?_
  exact k1

theorem w92 {ro : Nat → Nat × (Nat → Int32)} {d : Nat} {Q : Option Value → pmS → Prop} {x y : Int} {w : Nat} {a : xA} {b : xB} (hz : uWz w) (hd : 1 ≤ d) (hx : 0 ≤ x ∧ x ≤ 4) (hy : 0 ≤ y ∧ y ≤ 3)
    (k1 : (1 ≤ y ∧ y < 4) → (¬ uSl (b w 4) (4 + x) = 13) → Q none (xS a (xU b (w + 1) y (xWith (b (w + 1) y) (4 + x) (uSl (b w 4) (4 + x))))))
    (k2 : (1 ≤ y ∧ y < 4) → (uSl (b w 4) (4 + x) = 13) → Q none (xS a (xU b (w + 1) y (xWith (b (w + 1) y) (4 + x) 0))))
    (k3 : (¬ (1 ≤ y ∧ y < 4)) → Q none (xS a b)) :
    pmWp ro d 4 92 0 0 [some (.ref w), some (xV x), some (xV y), none] [] (xS a b) Q := by
  refine x_iloadn xc92_0 rfl ?_
  refine x_cS (as := [xV y]) (rest := []) xc92_1 rfl rfl xi26 ⟨rfl, rfl⟩ rfl rfl ?_
  refine xk26 (by omega) (xRk (by have g0 := hy; omega)) (fun h0 => ?_) (fun h1 => ?_)
  · refine x_ifeq xc92_4 (xRk (by decide)) (fun h => absurd h (by omega)) (fun _ => ?_)
    refine x_aloadn xc92_7 rfl ?_
    refine x_gfl (k := 4) xc92_8 rfl rfl rfl hz.1 ?_
    refine x_iconst xc92_11 ?_
    refine x_iloadn xc92_12 rfl ?_
    refine x_iadd xc92_13 ?_
    refine x_cS (as := [.long (b w 4), xV (4 + x)]) (rest := []) xc92_14 rfl rfl xi61 ⟨rfl, rfl⟩ rfl rfl ?_
    refine rk61 (by omega) (by have g0 := hx; omega) ?_
    refine x_istoren (pl' := [some (.ref w), some (xV x), some (xV y), some (xV (uSl (b w 4) (4 + x)))]) xc92_17 rfl rfl ?_
    refine x_aloadn xc92_18 rfl ?_
    refine x_gfr xc92_19 rfl rfl hz.1 rfl ?_
    refine x_iloadn xc92_22 rfl ?_
    refine x_aloadn xc92_23 rfl ?_
    refine x_gfr xc92_24 rfl rfl hz.1 rfl ?_
    refine x_iloadn xc92_27 rfl ?_
    refine x_lal xc92_28 hz.2.1 (by have g0 := hy; omega) (by have g0 := hy; omega) (by have g0 := hy; omega) ?_
    refine x_iconst xc92_29 ?_
    refine x_iloadn xc92_30 rfl ?_
    refine x_iadd xc92_31 ?_
    refine x_iloadn xc92_32 rfl ?_
    refine x_bipush xc92_33 (by decide) ?_
    refine x_icne xc92_35 (xRk (by have g0 := uSl_b (l := b w 4) (j := 4 + x) (by have g0 := hx; omega) (by have g0 := hx; omega); omega)) (xRk (by decide)) (fun h3 => ?_) (fun h3 => ?_)
    · refine x_iloadn xc92_42 rfl ?_
      refine x_cS (as := [.long (b (w + 1) y), xV (4 + x), xV (uSl (b w 4) (4 + x))]) (rest := [xV y, .ref (w + 1)]) xc92_43 rfl rfl xi19 ⟨rfl, rfl⟩ rfl rfl ?_
      refine xk19 (by omega) (xRk (by have g0 := hx; omega)) (xRk (by have g0 := uSl_b (l := b w 4) (j := 4 + x) (by have g0 := hx; omega) (by have g0 := hx; omega); omega)) ?_
      refine x_las xc92_46 hz.2.1 (by have g0 := hy; omega) (by have g0 := hy; omega) (by have g0 := hy; omega) ?_
      refine x_ret xc92_47 rfl ?_
      exact k1 h0 h3
    · replace h3 := Classical.not_not.mp h3
      refine x_iconst xc92_38 ?_
      refine x_goto xc92_39 ?_
      refine x_cS (as := [.long (b (w + 1) y), xV (4 + x), xV 0]) (rest := [xV y, .ref (w + 1)]) xc92_43 rfl rfl xi19 ⟨rfl, rfl⟩ rfl rfl ?_
      refine xk19 (by omega) (xRk (by have g0 := hx; omega)) (xRk (by decide)) ?_
      refine x_las xc92_46 hz.2.1 (by have g0 := hy; omega) (by have g0 := hy; omega) (by have g0 := hy; omega) ?_
      refine x_ret xc92_47 rfl ?_
      exact k2 h0 h3
  · refine x_ifeq xc92_4 (xRk (by decide)) (fun _ => ?_) (fun h => absurd h (by omega))
    refine x_ret xc92_47 rfl ?_
    exact k3 h1

theorem xg92 {ro : Nat → Nat × (Nat → Int32)} {d : Nat} {Q : Option Value → pmS → Prop} {a : xA} {b : xB} {x y : Int} {w : Nat} (h : pmWp ro d 4 92 0 0 [some (.ref w), some (xV x), some (xV y), none] [] (xS a b) Q) : pmCs ro (d + 1) 92 [.ref w, xV x, xV y] (xS a b) Q := x_go xi92 rfl rfl rfl rfl rfl h
end
end
section
/-! the class looks for things -/
section
set_option maxRecDepth 100000


section
variable {ro : Nat → Nat × (Nat → Int32)} {d w : Nat} {Q : Option Value → pmS → Prop} {n f p k x : Int} {r r' : Int → Int} {a a' : xA} {b b' : xB}
/-- the truth of a world of the class's, by the row -/
def uRt (n : Int) (w : Nat) (r : Int → Int) (b : xB) : Prop := (∀ j, 0 ≤ j → j < 9 → uSl (b w 4) j = uWs n r j) ∧ uHi (b w 4) ∧ ∀ x, 0 ≤ x → x < n → r (4 + x) = 20 → uSt (b w 5) x = r (9 + x)
theorem uWi {l : Int64} {i c j : Int} (i0 : 0 ≤ i) (i1 : i < 16) (c0 : 0 ≤ c) (c1 : c < 16) (j0 : 0 ≤ j) (j1 : j < 16) : uSl (xWith l i c) j = if j = i then c else uSl l j := uWith (k := 4 * i) i0 i1 c0 c1 j0 j1 rfl
theorem uWs_c {j : Int} (h : r' j = r j) : uWs n r' j = uWs n r j := by
  unfold uWs
  generalize r' j = v at h ⊢
  subst h
  rfl
theorem uWs_v {j v : Int} (h : r j = v) (h4 : 4 ≤ j) (hn : j - 4 < n) (hv : v < 7) : uWs n r j = v + 1 := by
  unfold uWs
  generalize r j = u at h ⊢
  subst h
  rw [if_neg (show ¬ j < 4 by omega), if_pos hn, if_neg (show ¬ u = 20 by omega)]
  exact if_pos hv
/-- lookFor -/
theorem u60 (hz : uWz w) (hn0 : 0 ≤ n ∧ n ≤ 5) (hr : uRv n r) (hT : uRt n w r b) (hd : 2 ≤ d) (hQ : ∀ b', (∀ q j, ¬ (q = w ∧ (j = 4 ∨ j = 5)) → b' q j = b q j) → uRt n w (uLf n r) b' → Q none (xS a b')) : pmCs ro d 60 [.ref 43, .ref w] (xS a b) Q := by
  refine pmCs_deep (d := 2) (xg60 (w60 hz (by decide) ?_)) hd
  have lx : ∀ (m : Nat) (p x : Int) (r1 : Int → Int) (b1 : xB) (v5 : Option Value), x + (m : Int) = 5 → 0 ≤ x → 0 ≤ p ∧ p < 4 → (∀ q j, ¬ (q = w ∧ (j = 4 ∨ j = 5)) → b1 q j = b q j) → uRv n r1 → uRt n w r1 b1 → (∀ (b2 : xB) (v3 v4 v5 : Option Value), (∀ q j, ¬ (q = w ∧ (j = 4 ∨ j = 5)) → b2 q j = b q j) → uRt n w (uLr n p m x r1) b2 → pmWp ro 1 4 60 0 139 [some (.ref 43), some (.ref w), some (xV p), v3, v4, v5] [] (xS a b2) Q) →
      pmWp ro 1 4 60 0 21 [some (.ref 43), some (.ref w), some (xV p), some (xV (r1 p)), some (xV x), v5] [] (xS a b1) Q := by
    intro m
    induction m with
    | zero =>
      intro p x r1 b1 v5 hx x0 hp g1 g2 g3 K
      have h7 := g2.1 p hp.1 hp.2
      exact w60x hz (by decide) ⟨hp.1, by omega⟩ ⟨by omega, by omega⟩ ⟨x0, by omega⟩ (fun _ => K b1 _ _ _ g1 g3) (fun e => by omega) (fun e => by omega) (fun e => by omega) (fun e => by omega) (fun e => by omega)
    | succ m ih =>
      intro p x r1 b1 v5 hx x0 hp g1 g2 g3 K
      have h7 := g2.1 p hp.1 hp.2
      have hs := uWs_x g2 x0 (by omega)
      have eS := g3.1 (4 + x) (by omega) (by omega)
      have hst := g2.2.2.1 x x0 (by omega)
      have skip : ¬ ((x < n ∧ r1 (4 + x) = 20) ∧ ¬ r1 p = 7 ∧ ¬ r1 (9 + x) / ((2 ^ (r1 p).toNat : Nat) : Int) % 2 = 0) → ∀ v5, pmWp ro 1 4 60 0 133 [some (.ref 43), some (.ref w), some (xV p), some (xV (r1 p)), some (xV x), v5] [] (xS a b1) Q := fun hc v5 => w60n hz (by decide) ⟨x0, by omega⟩ (ih p (x + 1) r1 b1 _ (by omega) (by omega) hp g1 g2 g3 (fun b2 v3 v4 v5 k1 k2 => K b2 v3 v4 v5 k1 (by
        show uRt n w (uLr n p m (x + 1) (uL1 n p x r1)) b2
        rw [uL1_n hc]
        exact k2)))
      refine w60x hz (by decide) ⟨hp.1, by omega⟩ ⟨by omega, by omega⟩ ⟨x0, by omega⟩ (fun e => by omega) (fun _ e => by omega) (fun _ _ e => K b1 _ _ _ g1 (by rw [uLr_n (Or.inr (by omega))]; exact g3)) (fun _ _ _ e => skip (fun h => by omega) _) (fun _ _ e1 e2 e3 => skip (fun h => ?_) _) (fun _ _ e1 e2 e3 => ?_)
      · have e20 := g3.2.2 x x0 h.1.1 h.1.2
        rw [e20] at e3
        exact h.2.2 e3
      · rw [eS] at e2
        have hxn : x < n ∧ r1 (4 + x) = 20 := by omega
        have e20 := g3.2.2 x x0 hxn.1 hxn.2
        rw [e20] at e3
        have hcond : (x < n ∧ r1 (4 + x) = 20) ∧ ¬ r1 p = 7 ∧ ¬ r1 (9 + x) / ((2 ^ (r1 p).toNat : Nat) : Int) % 2 = 0 := ⟨hxn, by omega, e3⟩
        have hcl := uCl_b (z := r1 (9 + x)) (r := r1 p) hst.1 (by omega) h7.1 (by omega)
        have clr : ∀ y, 0 ≤ y → y < 9 → uSt ((xU b1 w 5 ((b1 w 5) &&& ((xShL (1 : Int64) (7 * x + r1 p)) ^^^ (-1 : Int64)))) w 5) y = if y = x then uCl (r1 (9 + x)) (r1 p) else uSt (b1 w 5) y := fun y y0 y1 => by
          rw [xUa, uSt_clr x0 (by omega) y0 y1 h7.1 (by omega) rfl, e20]
        obtain ⟨b2, eb2⟩ : ∃ z, xU b1 w 5 ((b1 w 5) &&& ((xShL (1 : Int64) (7 * x + r1 p)) ^^^ (-1 : Int64))) = z := ⟨_, rfl⟩
        have f2 : ∀ q j, ¬ (q = w ∧ (j = 4 ∨ j = 5)) → b2 q j = b q j := fun q j h => by
          rw [← eb2, xUo (fun e => h ⟨e.1, Or.inr e.2⟩)]
          exact g1 q j h
        have f4 : b2 w 4 = b1 w 4 := by rw [← eb2, xUk (by decide)]
        rw [eb2] at clr ⊢
        have ex : uSt (b2 w 5) x = uCl (r1 (9 + x)) (r1 p) := by rw [clr x x0 (by omega), if_pos rfl]
        refine w60y hz (by decide) ⟨x0, by omega⟩ (fun e4 => ?_) (fun e4 => ?_)
        · rw [ex] at e4
          have er : uL1 n p x r1 = fun j => if j = 9 + x then uCl (r1 (9 + x)) (r1 p) else r1 j := by
            unfold uL1
            rw [if_pos hcond, if_neg e4]
          refine w60n hz (by decide) ⟨x0, by omega⟩ ?_
          have ep : uL1 n p x r1 p = r1 p := uL1_lo x0 (by omega) (by omega)
          have := ih p (x + 1) (uL1 n p x r1) b2 v5 (by omega) (by omega) hp f2 (uRv_1 hn0.2 g2 hp ⟨x0, by omega⟩) ⟨fun j j0 j1 => ?_, ?_, fun y y0 yn hy => ?_⟩ K
          · rw [ep] at this
            exact this
          · rw [f4, g3.1 j j0 j1, er]
            exact (uWs_c (if_neg (show ¬ j = 9 + x by omega))).symm
          · rw [f4]
            exact g3.2.1
          · rw [er] at hy ⊢
            dsimp only at hy ⊢
            rw [if_neg (show ¬ 4 + y = 9 + x by omega)] at hy
            rw [clr y y0 (by omega)]
            by_cases c : y = x
            · rw [if_pos c, if_pos (by omega)]
            · rw [if_neg c, if_neg (by omega)]
              exact g3.2.2 y y0 yn hy
        · rw [ex] at e4
          have hne : ¬ uCl (r1 (9 + x)) (r1 p) = 0 := uBs_1 e4
          refine w60u hz (by decide) ⟨x0, by omega⟩ (by rw [ex]; omega) ?_
          rw [ex]
          obtain ⟨l1, l2, l3⟩ := uLo_one hcl.1 hcl.2 e4
          rw [l1]
          refine w60z hz (by decide) ⟨x0, by omega⟩ ⟨l3, by omega⟩ (w60n hz (by decide) ⟨x0, by omega⟩ ?_)
          have er : uL1 n p x r1 = fun j => if j = 9 + x then 0 else if j = 4 + x then uLo (uCl (r1 (9 + x)) (r1 p)) else r1 j := by
            unfold uL1
            rw [if_pos hcond, if_pos e4]
          have ep : uL1 n p x r1 p = r1 p := uL1_lo x0 (by omega) (by omega)
          have := ih p (x + 1) (uL1 n p x r1) (xU b2 w 4 (xWith (b2 w 4) (4 + x) (uLo (uCl (r1 (9 + x)) (r1 p)) + 1))) (some (xV (uLo (uCl (r1 (9 + x)) (r1 p))))) (by omega) (by omega) hp (fun q j h => by rw [xUo (fun e => h ⟨e.1, Or.inl e.2⟩)]; exact f2 q j h) (uRv_1 hn0.2 g2 hp ⟨x0, by omega⟩) ⟨fun j j0 j1 => ?_, fun j j0 j1 => ?_, fun y y0 yn hy => ?_⟩ K
          · rw [ep] at this
            exact this
          · rw [xUa, uWi (by omega) (by omega) (by omega) (by omega) j0 (by omega), f4, er]
            by_cases c : j = 4 + x
            · rw [if_pos c]
              have hj4 : 4 ≤ j := by omega
              have hjn : j - 4 < n := by omega
              refine (uWs_v ?_ hj4 hjn l2).symm
              rw [if_neg (show ¬ j = 9 + x by omega), if_pos c]
            · rw [if_neg c, g3.1 j j0 j1]
              refine (uWs_c ?_).symm
              rw [if_neg (show ¬ j = 9 + x by omega), if_neg c]
          · rw [xUa, uWi (by omega) (by omega) (by omega) (by omega) (by omega) j1, if_neg (by omega), f4]
            exact g3.2.1 j j0 j1
          · rw [xUk (by decide)]
            rw [er] at hy ⊢
            dsimp only at hy ⊢
            rw [if_neg (show ¬ 4 + y = 9 + x by omega)] at hy
            by_cases c : y = x
            · rw [if_pos (show 4 + y = 4 + x by omega)] at hy
              omega
            · rw [if_neg (show ¬ 4 + y = 4 + x by omega)] at hy
              rw [if_neg (show ¬ 9 + y = 9 + x by omega), if_neg (show ¬ 9 + y = 4 + x by omega), clr y y0 (by omega), if_neg c]
              exact g3.2.2 y y0 yn hy
  have lp : ∀ (m : Nat) (p : Int) (r1 : Int → Int) (b1 : xB) (v3 v4 v5 : Option Value), p + (m : Int) = 4 → 0 ≤ p → (∀ q j, ¬ (q = w ∧ (j = 4 ∨ j = 5)) → b1 q j = b q j) → uRv n r1 → uRt n w r1 b1 → uLq n m p r1 = uLf n r → pmWp ro 1 4 60 0 2 [some (.ref 43), some (.ref w), some (xV p), v3, v4, v5] [] (xS a b1) Q := by
    intro m
    induction m with
    | zero =>
      intro p r1 b1 v3 v4 v5 hp p0 g1 g2 g3 g4
      have g4 : r1 = uLf n r := g4
      exact w60p hz (by decide) ⟨p0, by omega⟩ (fun _ => hQ b1 g1 (by rw [← g4]; exact g3)) (fun e => by omega)
    | succ m ih =>
      intro p r1 b1 v3 v4 v5 hp p0 g1 g2 g3 g4
      refine w60p hz (by decide) ⟨p0, by omega⟩ (fun e => by omega) (fun _ => ?_)
      rw [g3.1 p p0 (by omega), uWs_p (by omega), show r1 p + 1 - 1 = r1 p by omega]
      refine lx 5 p 0 r1 b1 _ (by decide) (by decide) ⟨p0, by omega⟩ g1 g2 g3 (fun b2 v3 v4 v5 k1 k2 => w60m ⟨p0, by omega⟩ ?_)
      exact ih (p + 1) _ b2 _ _ _ (by omega) (by omega) k1 (uRv_r hn0.2 ⟨p0, by omega⟩ 5 0 _ g2 (by decide) (by decide)).1 k2 g4
  exact lp 4 0 r b _ _ _ (by decide) (by decide) (fun _ _ _ => rfl) hr hT rfl
end
end
end
section
/-! a folk of the class looks -/
section
set_option maxRecDepth 100000


section
variable {ro : Nat → Nat × (Nat → Int32)} {d w : Nat} {Q : Option Value → pmS → Prop} {n f p k x : Int} {r r' : Int → Int} {a a' : xA} {b b' : xB}
/-- a slot that is here, by the slots of the truth -/
abbrev uHr (S : Int → Int) (hr i v : Int) : Prop := v = hr ∨ (4 ≤ i ∧ (9 ≤ v ∧ v < 13) ∧ S (v - 9) = hr)
/-- a slot of a mind after a look -/
def uTg (S M : Int → Int) (hr i : Int) : Int := if uHr S hr i (S i) then S i else if uHr S hr i (M i) then 0 else M i
/-- look, by slots -/
theorem u63s (hz : uWz w) (hp : 1 ≤ p ∧ p ≤ 3) (h9 : uHi (b (w + 1) p)) (hal : ¬ uSl (b w 4) p = 8) (hd : 2 ≤ d) (hQ : ∀ l, uHi l → (∀ i, 0 ≤ i → i < 9 → uSl l i = uTg (uSl (b w 4)) (uSl (b (w + 1) p)) (uSl (b w 4) p) i) → Q none (xS a (xU b (w + 1) p l))) : pmCs ro d 63 [.ref 43, .ref w, xV p] (xS a b) Q := by
  refine pmCs_deep (d := 2) (xg63 (w63 hz (by decide) hp (fun _ => ?_) (fun e => absurd e hal))) hd
  have hhr := uSl_b (l := b w 4) (j := p) (by omega) (by omega)
  obtain ⟨hr, ehr⟩ : ∃ z, uSl (b w 4) p = z := ⟨_, rfl⟩
  rw [ehr] at hhr hQ ⊢
  have loop : ∀ (m : Nat) (i : Int) (l : Int64) (v7 v8 v9 v10 : Option Value), i + (m : Int) = 9 → 0 ≤ i → uHi l → (∀ j, 0 ≤ j → j < i → uSl l j = uTg (uSl (b w 4)) (uSl (b (w + 1) p)) hr j) → (∀ j, i ≤ j → j < 9 → uSl l j = uSl (b (w + 1) p) j) →
      pmWp ro 1 4 63 0 27 [some (.ref 43), some (.ref w), some (xV p), some (xV hr), some (.long l), none, some (xV i), v7, v8, v9, v10] [] (xS a b) Q := by
    intro m
    induction m with
    | zero =>
      intro i l v7 v8 v9 v10 hi i0 g1 g2 g3
      refine w63i hz (by decide) hp hhr ⟨i0, by omega⟩ (fun _ => hQ l g1 (fun j j0 j1 => g2 j j0 (by omega))) ?_ ?_ ?_ ?_ ?_ ?_ ?_ ?_ ?_ ?_ ?_ ?_ <;> (intro e; omega)
    | succ m ih =>
      intro i l v7 v8 v9 v10 hi i0 g1 g2 g3
      have i9 : i < 9 := by omega
      have hs := uSl_b (l := b w 4) (j := i) i0 (by omega)
      have eM := g3 i (by omega) i9
      have nx : ∀ (l2 : Int64) (v7 v8 v9 v10 : Option Value), (∀ j, 0 ≤ j → j < 16 → uSl l2 j = if j = i then uTg (uSl (b w 4)) (uSl (b (w + 1) p)) hr i else uSl l j) → pmWp ro 1 4 63 0 146 [some (.ref 43), some (.ref w), some (xV p), some (xV hr), some (.long l2), none, some (xV i), v7, v8, v9, v10] [] (xS a b) Q := by
        intro l2 v7 v8 v9 v10 h
        refine w63n hz (by decide) hp hhr ⟨i0, by omega⟩ ?_
        refine ih (i + 1) l2 _ _ _ _ (by omega) (by omega) (fun j j0 j1 => ?_) (fun j j0 j1 => ?_) (fun j j0 j1 => ?_)
        · rw [h j (by omega) j1, if_neg (by omega)]
          exact g1 j j0 j1
        · rw [h j j0 (by omega)]
          by_cases c : j = i
          · rw [if_pos c, c]
          · rw [if_neg c]
            exact g2 j j0 (by omega)
        · rw [h j (by omega) (by omega), if_neg (by omega)]
          exact g3 j (by omega) j1
      have yes : uHr (uSl (b w 4)) hr i (uSl (b w 4) i) → ∀ (v7 v8 v9 v10 : Option Value), pmWp ro 1 4 63 0 146 [some (.ref 43), some (.ref w), some (xV p), some (xV hr), some (.long (xWith l i (uSl (b w 4) i))), none, some (xV i), v7, v8, v9, v10] [] (xS a b) Q := fun h v7 v8 v9 v10 => nx _ _ _ _ _ (fun j j0 j1 => by
        rw [uWi i0 (by omega) hs.1 (by omega) j0 j1]
        unfold uTg
        rw [if_pos h])
      have gone : ¬ uHr (uSl (b w 4)) hr i (uSl (b w 4) i) → uHr (uSl (b w 4)) hr i (uSl l i) → ∀ (v7 v8 v9 v10 : Option Value), pmWp ro 1 4 63 0 146 [some (.ref 43), some (.ref w), some (xV p), some (xV hr), some (.long (xWith l i 0)), none, some (xV i), v7, v8, v9, v10] [] (xS a b) Q := fun h h2 v7 v8 v9 v10 => nx _ _ _ _ _ (fun j j0 j1 => by
        rw [uWi i0 (by omega) (by decide) (by decide) j0 j1]
        rw [eM] at h2
        unfold uTg
        rw [if_neg h, if_pos h2])
      have stay : ¬ uHr (uSl (b w 4)) hr i (uSl (b w 4) i) → ¬ uHr (uSl (b w 4)) hr i (uSl l i) → ∀ (v7 v8 v9 v10 : Option Value), pmWp ro 1 4 63 0 146 [some (.ref 43), some (.ref w), some (xV p), some (xV hr), some (.long l), none, some (xV i), v7, v8, v9, v10] [] (xS a b) Q := fun h h2 v7 v8 v9 v10 => nx _ _ _ _ _ (fun j j0 j1 => by
        rw [eM] at h2
        unfold uTg
        rw [if_neg h, if_neg h2]
        by_cases c : j = i
        · rw [if_pos c, c]
          exact eM
        · rw [if_neg c])
      refine w63i hz (by decide) hp hhr ⟨i0, by omega⟩ (fun e => by omega) (fun _ e1 e2 => yes (Or.inl e1) _ _ _ _) (fun _ e1 _ _ => yes (Or.inl e1) _ _ _ _) (fun _ e1 _ _ _ => yes (Or.inl e1) _ _ _ _) (fun _ e1 _ _ _ => yes (Or.inl e1) _ _ _ _) (fun _ e1 e2 e3 => gone (fun h => h.elim e1 (fun h => by omega)) (Or.inl e3) _ _ _ _) (fun _ e1 e2 e3 => stay (fun h => h.elim e1 (fun h => by omega)) (fun h => h.elim e3 (fun h => by omega)) _ _ _ _) (fun _ e1 e2 e3 e4 => yes (Or.inr ⟨by omega, e3⟩) _ _ _ _) (fun _ e1 e2 e3 e4 e5 => yes (Or.inr ⟨by omega, e3⟩) _ _ _ _) (fun _ e1 e2 e3 e4 e5 => yes (Or.inr ⟨by omega, e3⟩) _ _ _ _) (fun _ e1 e2 e3 e4 => gone (fun h => h.elim e1 (fun h => e3 h.2)) (Or.inl e4) _ _ _ _) (fun _ e1 e2 e3 e4 e5 => gone (fun h => h.elim e1 (fun h => e3 h.2)) (Or.inr ⟨by omega, e5⟩) _ _ _ _) (fun _ e1 e2 e3 e4 e5 => stay (fun h => h.elim e1 (fun h => e3 h.2)) (fun h => h.elim e4 (fun h => e5 h.2)) _ _ _ _)
  exact loop 9 0 (b (w + 1) p) _ _ _ _ (by decide) (by decide) h9 (fun j j0 j1 => by omega) (fun j _ _ => rfl)
end
end
end
