/-! the reference plays a turn, whole -/
section
set_option maxRecDepth 100000


section
variable {ro : Nat → Nat × (Nat → Int32)} {d : Nat} {Q : Option Value → pmS → Prop} {dr wp pr cnt W : Int → Int} {T : Int → List Int} {n f p k c wt : Int} {r r' R : Int → Int} {a a' : xA} {b b' : xB}
theorem uEn_o (h : uEn dr wp pr cnt W T n c wt a p r) (e : ∀ q, (q = 116 ∨ q = 117 ∨ q = 118 ∨ q = 119) → a' q p = a q p) : uEn dr wp pr cnt W T n c wt a' p r := by
  obtain ⟨h1, h2, h3, h4⟩ := h
  exact ⟨(e 119 (by omega)).trans h1, (e 116 (by omega)).trans h2, (e 117 (by omega)).trans h3, (e 118 (by omega)).trans h4⟩
theorem uIfc {P P' : Prop} [Decidable P] [Decidable P'] {x y : Int} (h : P ↔ P') : (if P then x else y) = if P' then x else y := by
  by_cases c : P'
  · rw [if_pos c, if_pos (h.mpr c)]
  · rw [if_neg c, if_neg (fun g => c (h.mp g))]
/-- what stands while a turn is played -/
def uPi (dr wp pr cnt W : Int → Int) (T : Int → List Int) (n : Int) (a0 : xA) (b0 : xB) (q : Nat) (a : xA) (b : xB) : Prop := uPm a0 a b0 b ∧ uRb dr wp pr cnt W T n a ∧ uRv n (a 88) ∧ uMV dr wp pr cnt T n a b ∧ uLw a ∧ a 88 114 = a0 88 114 ∧ 0 ≤ a 88 119 ∧ a 88 119 ≤ a0 88 119 + (q : Int)
theorem uPi_u {a0 : xA} {b0 : xB} {q i : Nat} {j v : Int} (h : uPi dr wp pr cnt W T n a0 b0 q a b) (hi : i = 116 ∨ i = 117 ∨ i = 118 ∨ i = 119) (hv : xR v) : uPi dr wp pr cnt W T n a0 b0 q (xU a i j v) b := by
  obtain ⟨h1, h2, h3, h4, h5, h6, h7, h8⟩ := h
  have e8 : (xU a i j v) 88 = a 88 := funext fun x => xUn (by omega)
  refine ⟨uPm_t h1 (uPm_u hi), uRb_o h2 (xAr_u h2.1 hv) (fun q x e => xUn (by omega)) (fun x x0 x1 => by rw [xUn (by omega)]; exact h2.2.2.2.2.2.2 x x0 x1), by rw [e8]; exact h3, uMV_f h4 (xUn (by omega)) (fun x => xUn (by omega)) (fun _ => rfl), uLw_o h5 (fun q x e => xUn (by omega)), by rw [e8]; exact h6, by rw [e8]; exact h7, by rw [e8]; exact h8⟩
theorem uPi_1 {a0 : xA} {b0 : xB} {q : Nat} (h : uPi dr wp pr cnt W T n a0 b0 q a b) : uPi dr wp pr cnt W T n a0 b0 (q + 1) a b := by
  obtain ⟨h1, h2, h3, h4, h5, h6, h7, h8⟩ := h
  exact ⟨h1, h2, h3, h4, h5, h6, h7, by omega⟩
theorem uRq_s (h : uRq r r') : uRq r' r := fun j hj => (h j hj).symm
theorem uRq_t {r'' : Int → Int} (h : uRq r r') (h' : uRq r' r'') : uRq r r'' := fun j hj => (h' j hj).trans (h j hj)
theorem u208 (hK : uRk pr cnt W T) (hB : uRb dr wp pr cnt W T n a) (hr : uRv n (a 88)) (hV : uMV dr wp pr cnt T n a b) (hL : uLw a) (htn : 0 ≤ a 88 114 ∧ a 88 114 ≤ 90) (hev : 0 ≤ a 88 119 ∧ a 88 119 ≤ 900) (hc : c = -1 ∨ ((0 ≤ c ∧ c < 61) ∧ (¬ a 88 0 = 7 → uCd n 0 c (a 88)))) (hwt : -1 ≤ wt ∧ wt ≤ 3) (hd : 7 ≤ d)
    (hQ : ∀ a' b', uPm a a' b b' → uRb dr wp pr cnt W T n a' → uRv n (a' 88) → uMV dr wp pr cnt T n a' b' → uLw a' → (∀ j, j < 41 ∨ (113 ≤ j ∧ ¬ j = 114 ∧ ¬ j = 115) → a' 88 j = uTr dr wp pr cnt W T n c wt (a 88) 4 j) → a' 88 114 = a 88 114 + 1 → a' 88 115 = 0 → a' 88 119 ≤ a 88 119 + 4 → 0 ≤ a' 88 119 → (∀ p : Nat, p < 4 → uEn dr wp pr cnt W T n c wt a' p (uTr dr wp pr cnt W T n c wt (a 88) p)) → Q none (xS a' b')) : pmCs ro d 208 [.ref 87, xV c, xV wt] (xS a b) Q := by
  refine pmCs_deep (d := 7) (xg208 (w208 ?_)) hd
  have hn : a 87 2 = n := hB.2.1.2.1
  have hn0 : 0 ≤ n ∧ n ≤ 5 := hB.2.1.2.2.1
  have hcb : -1 ≤ c ∧ c ≤ 60 := by omega
  obtain ⟨R, hR⟩ : ∃ R, a 88 = R := ⟨_, rfl⟩
  rw [hR] at hQ
  have loop : ∀ (m q : Nat) (a1 : xA) (b1 : xB), q + m = 4 → uPi dr wp pr cnt W T n a b q a1 b1 → uRq (uTr dr wp pr cnt W T n c wt R q) (a1 88) → (∀ p : Nat, p < q → uEn dr wp pr cnt W T n c wt a1 p (uTr dr wp pr cnt W T n c wt R p)) → pmWp ro 6 12 208 0 2 [some (.ref 87), some (xV c), some (xV wt), some (xV (q : Int))] [] (xS a1 b1) Q := by
    intro m
    induction m with
    | zero =>
      intro q a1 b1 hq hI hRq hE
      have e4 : q = 4 := by omega
      subst e4
      obtain ⟨h1, h2, h3, h4, h5, h6, h7, h8⟩ := hI
      refine w208p h2.1 (by decide) hcb hwt (by decide) (fun _ => ?_) (fun e => absurd (by decide) e) (fun e => absurd (by decide) e)
      refine u214 h2.1 h5 (by omega) (by decide) (fun a2 x2 => w208e ?_)
      have e2 : ∀ q j, q ≠ 88 → a2 q j = a1 q j := fun q j h => by rw [x2.1 q j (fun e => h e.1), xUn h, xUn h]
      have e3 : ∀ j, (j < 41 ∨ 113 ≤ j) → ¬ j = 114 → ¬ j = 115 → a2 88 j = a1 88 j := fun j hj g1 g2 => by rw [x2.1 88 j (by omega), xUk g2, xUk g1]
      refine hQ a2 b1 (uPm_t h1 (uPm_8 e2)) (uRb_o h2 x2.2 (fun q j e => e2 q j (by omega)) (fun j j0 j1 => by rw [e2 109 j (by decide)]; exact h2.2.2.2.2.2.2 j j0 j1)) ?_ (uMV_f h4 (e2 _ _ (by decide)) (fun j => e2 _ _ (by decide)) (fun _ => rfl)) (uLw_o h5 (fun q j e => e2 q j (by omega))) (fun j hj => ?_) ?_ ?_ ?_ ?_ (fun p hp => uEn_o (hE p hp) (fun q e => e2 q _ (by omega)))
      · obtain ⟨g1, g2, g3, g4, g5, g6⟩ := h3
        have e : ∀ j, j < 41 → a2 88 j = a1 88 j := fun j hj => e3 j (Or.inl hj) (by omega) (by omega)
        exact ⟨fun q q0 q1 => by rw [e q (by omega)]; exact g1 q q0 q1, fun y y0 y1 => by rw [e _ (by omega)]; exact g2 y y0 y1, fun y y0 y1 => by rw [e _ (by omega)]; exact g3 y y0 y1, fun f y f0 f1 y0 y1 => by rw [e _ (by omega)]; exact g4 f y f0 f1 y0 y1, fun f q f0 f1 q0 q1 => by rw [e _ (by omega)]; exact g5 f q f0 f1 q0 q1, fun f y f0 f1 yn y0 y1 => by rw [e _ (by omega)]; exact g6 f y f0 f1 yn y0 y1⟩
      · rw [e3 j (by omega) (by omega) (by omega)]
        exact hRq j (by omega)
      · rw [x2.1 88 114 (by omega), xUk (by decide), xUa, h6, hR]
      · rw [x2.1 88 115 (by omega), xUa]
      · rw [e3 119 (by decide) (by decide) (by decide)]
        rw [← hR]
        exact h8
      · rw [e3 119 (by decide) (by decide) (by decide)]
        exact h7
    | succ m ih =>
      intro q a1 b1 hq hI hRq hE
      have hq3 : 0 ≤ (q : Int) ∧ (q : Int) ≤ 3 := by omega
      have hq88 : a1 88 (q : Int) = uTr dr wp pr cnt W T n c wt R q q := hRq q (by omega)
      -- on to the next
      have nxt : ∀ (a2 : xA) (b2 : xB), uPi dr wp pr cnt W T n a b (q + 1) a2 b2 → uRq (uTr dr wp pr cnt W T n c wt R (q + 1)) (a2 88) → (∀ p : Nat, p < q → uEn dr wp pr cnt W T n c wt a2 p (uTr dr wp pr cnt W T n c wt R p)) → uEn dr wp pr cnt W T n c wt a2 q (uTr dr wp pr cnt W T n c wt R q) → pmWp ro 6 12 208 0 122 [some (.ref 87), some (xV c), some (xV wt), some (xV (q : Int))] [] (xS a2 b2) Q := by
        intro a2 b2 g1 g2 g3 g4
        refine w208n hq3 ?_
        refine ih (q + 1) a2 b2 (by omega) g1 g2 (fun p hp => ?_)
        by_cases cpq : p = q
        · rw [cpq]
          exact g4
        · exact g3 p (by omega)
      -- the deed
      have at95 : ¬ uTr dr wp pr cnt W T n c wt R q q = 7 → ∀ (a2 : xA) (b2 : xB) (cd : Int), uPi dr wp pr cnt W T n a b q a2 b2 → uRq (uTr dr wp pr cnt W T n c wt R q) (a2 88) → (∀ p : Nat, p < q → uEn dr wp pr cnt W T n c wt a2 p (uTr dr wp pr cnt W T n c wt R p)) → cd = uDc dr wp pr cnt W T n c wt q (uTr dr wp pr cnt W T n c wt R q) → a2 116 q = cd → (cd = -1 ∨ ((0 ≤ cd ∧ cd < 61) ∧ uCd n q cd (uTr dr wp pr cnt W T n c wt R q))) → a2 119 q = 1 → a2 117 q = -1 → (a2 118 q = if (q : Int) = 0 ∨ (q : Int) = wt then -1 else uWk dr wp pr cnt W T n (uTr dr wp pr cnt W T n c wt R q) q) → pmWp ro 6 12 208 0 95 [some (.ref 87), some (xV c), some (xV wt), some (xV (q : Int))] [] (xS a2 b2) Q := by
        intro hal a2 b2 cd g1 g2 g3 ecd g4 g5 g6 g7 g8
        have hor : (uTr dr wp pr cnt W T n c wt R q q = 7 ∨ (q : Int) = 0 ∨ (q : Int) = wt) ↔ ((q : Int) = 0 ∨ (q : Int) = wt) := ⟨fun h => h.elim (fun h => absurd h hal) id, Or.inr⟩
        refine w208d hq3 g4 (by omega) (fun e => ?_) (fun e => ?_)
        · refine nxt a2 b2 (uPi_1 g1) ?_ g3 ⟨?_, ?_, ?_, ?_⟩
          · show uRq (uS1 dr wp pr cnt W T n c wt q (uTr dr wp pr cnt W T n c wt R q)) (a2 88)
            unfold uS1
            rw [if_pos (Or.inr (ecd.symm.trans e))]
            exact g2
          · rw [if_neg hal]
            exact g6
          · rw [if_neg hal, g4]
            exact ecd
          · rw [if_pos (Or.inr (ecd.symm.trans e))]
            exact g7
          · rw [uIfc hor]
            exact g8
        · obtain ⟨h1, h2, h3, h4, h5, h6, h7, h8⟩ := g1
          have hcd : (0 ≤ cd ∧ cd < 61) ∧ uCd n q cd (uTr dr wp pr cnt W T n c wt R q) := g5.elim (fun h => absurd h e) id
          have hv := uRv_c hn0.2 h3 (uRq_s g2)
          have hc2 : uCd n q cd (a2 88) := ⟨by rw [g2 q (by omega)]; exact hal, hcd.2.2⟩
          refine u209 h2.1 h2.2.1.2.1 hn0 h5 (by omega) ⟨h7, by omega⟩ h3 hq3 hcd.1 hc2 (by decide) (fun a3 x3 A3 V3 R3 => ?_)
          have hsg : uSg q cd (a2 88) 4 = uSg q cd (uTr dr wp pr cnt W T n c wt R q) 4 := uSg_q g2 hq3 4 (by decide)
          rw [hsg]
          have hsb := uSg_b (p := q) (k := cd) (r := uTr dr wp pr cnt W T n c wt R q) 4
          have h16 : ((2 ^ 4 : Nat) : Int) = 16 := rfl
          refine w208s hq3 ⟨hsb.1, by omega⟩ ?_
          obtain ⟨d1, d2, d3⟩ := uDe_v hn0.2 h3 hq3 hcd.1 hc2
          have hI3 : uPi dr wp pr cnt W T n a b (q + 1) a3 b2 := ⟨uPm_t h1 (uPm_8 x3), uRb_o h2 A3 (fun i j e => x3 i j (by omega)) (fun j j0 j1 => by rw [x3 109 j (by decide)]; exact h2.2.2.2.2.2.2 j j0 j1), V3, uMV_f h4 (x3 _ _ (by decide)) (fun j => x3 _ _ (by decide)) (fun _ => rfl), uLw_o h5 (fun i j e => x3 i j (by omega)), by rw [R3 114 (by omega), d2]; exact h6, by rw [R3 119 (by omega), d3]; omega, by rw [R3 119 (by omega), d3]; omega⟩
          have e8 : (xU a3 117 (q : Int) (uSg q cd (uTr dr wp pr cnt W T n c wt R q) 4)) 88 = a3 88 := funext fun x => xUn (by decide)
          refine nxt _ b2 (uPi_u hI3 (by omega) ⟨by omega, by omega⟩) ?_ (fun p hp => uEn_o (g3 p hp) (fun i e => ?_)) ⟨?_, ?_, ?_, ?_⟩
          · rw [e8]
            show uRq (uS1 dr wp pr cnt W T n c wt q (uTr dr wp pr cnt W T n c wt R q)) (a3 88)
            unfold uS1
            rw [if_neg (fun h => h.elim hal (fun h => e (ecd.trans h))), ← ecd]
            exact uRq_t (uDe_q hn0.2 g2 hv hq3 hcd.1 hcd.2) R3
          · rw [xUo (by omega)]
            exact x3 i p (by omega)
          · rw [if_neg hal, xUn (by decide), x3 _ _ (by decide)]
            exact g6
          · rw [if_neg hal, xUn (by decide), x3 _ _ (by decide), g4]
            exact ecd
          · rw [if_neg (fun h => h.elim hal (fun h => e (ecd.trans h))), xUa, ← ecd]
          · rw [uIfc hor, xUn (by decide), x3 _ _ (by decide)]
            exact g8
      have hI2 : ∀ z, (z = 0 ∨ z = 1) → uPi dr wp pr cnt W T n a b q (xU (xU (xU (xU a1 119 q z) 116 q (-1)) 117 q (-1)) 118 q (-1)) b1 := fun z hz => uPi_u (uPi_u (uPi_u (uPi_u hI (by omega) ⟨by omega, by omega⟩) (by omega) ⟨by decide, by decide⟩) (by omega) ⟨by decide, by decide⟩) (by omega) ⟨by decide, by decide⟩
      have c119 : ∀ z, (xU (xU (xU (xU a1 119 q z) 116 q (-1)) 117 q (-1)) 118 q (-1)) 119 q = z := fun z => by rw [xUn (by decide), xUn (by decide), xUn (by decide), xUa]
      have c116 : ∀ z, (xU (xU (xU (xU a1 119 q z) 116 q (-1)) 117 q (-1)) 118 q (-1)) 116 q = -1 := fun z => by rw [xUn (by decide), xUn (by decide), xUa]
      have c117 : ∀ z, (xU (xU (xU (xU a1 119 q z) 116 q (-1)) 117 q (-1)) 118 q (-1)) 117 q = -1 := fun z => by rw [xUn (by decide), xUa]
      have c118 : ∀ z, (xU (xU (xU (xU a1 119 q z) 116 q (-1)) 117 q (-1)) 118 q (-1)) 118 q = -1 := fun z => xUa
      have c88 : ∀ z, (xU (xU (xU (xU a1 119 q z) 116 q (-1)) 117 q (-1)) 118 q (-1)) 88 = a1 88 := fun z => funext fun x => by rw [xUn (by decide), xUn (by decide), xUn (by decide), xUn (by decide)]
      have cE : ∀ z, ∀ p : Nat, p < q → uEn dr wp pr cnt W T n c wt (xU (xU (xU (xU a1 119 q z) 116 q (-1)) 117 q (-1)) 118 q (-1)) p (uTr dr wp pr cnt W T n c wt R p) := fun z p hp => uEn_o (hE p hp) (fun i e => by rw [xUo (by omega), xUo (by omega), xUo (by omega), xUo (by omega)])
      refine w208p hI.2.1.1 (by omega) hcb hwt (by decide) (fun e => by omega) (fun _ e => ?_) (fun _ e => ?_)
      · rw [hq88] at e
        have h2 := hI2 1 (Or.inr rfl)
        have p1 := c119 1
        have p2 := c116 1
        have p3 := c117 1
        have p4 := c118 1
        have p5 := c88 1
        have p6 := cE 1
        obtain ⟨a2, ea2⟩ : ∃ z, (xU (xU (xU (xU a1 119 q 1) 116 q (-1)) 117 q (-1)) 118 q (-1)) = z := ⟨_, rfl⟩
        rw [ea2] at h2 p1 p2 p3 p4 p5 p6 ⊢
        have hRq2 : uRq (uTr dr wp pr cnt W T n c wt R q) (a2 88) := by rw [p5]; exact hRq
        refine w208q h2.2.1.1 hq3 hcb hwt (by decide) (fun f1 f2 => ?_) (fun f1 f2 => ?_) (fun f1 => ?_)
        · refine at95 e a2 b1 (-1) h2 hRq2 p6 ?_ p2 (Or.inl rfl) p1 p3 ?_
          · unfold uDc
            rw [if_neg f1, if_pos f2]
          · rw [if_pos (Or.inr f2)]
            exact p4
        · obtain ⟨h21, h22, h23, h24, h25, h26, h27, h28⟩ := h2
          refine u198 hK h22 h23 ⟨by omega, hq3.2⟩ (by rw [hRq2 q (by omega)]; exact e) h24 (by decide) (fun a3 b3 k x3 B3 V3 e42 hch e43 => ?_)
          have x88 : a3 88 = a2 88 := funext fun j => x3.1 88 j (by decide) (by decide) (by decide) (by decide) (by decide) (by decide) (by decide) (by omega)
          have xo : ∀ i j, i = 116 ∨ i = 117 ∨ i = 118 ∨ i = 119 → a3 i j = a2 i j := fun i j hi => x3.1 i j (by omega) (by omega) (by omega) (by omega) (by omega) (by omega) (by omega) (by omega)
          have hf : 1 ≤ (q : Int) ∧ (q : Int) ≤ 3 := ⟨by omega, hq3.2⟩
          rw [uMn_q hn0.2 hRq2 hf] at hch e43
          obtain ⟨kb, wb⟩ := uWd_b (dr := dr) (wp := wp) (n := n) hK hf hch
          have ewk := uWk_e hch
          have ewd : a3 87 43 = uWd dr wp pr cnt W T n (uTr dr wp pr cnt W T n c wt R q) q := by
            unfold uWd
            rw [ewk]
            exact e43
          have hI3 : uPi dr wp pr cnt W T n a b q a3 b3 := ⟨uPm_t h21 (uPm_w x3), B3, by rw [x88]; exact h23, V3, uLw_o h25 (fun i j g => x3.1 i j (by omega) (by omega) (by omega) (by omega) (by omega) (by omega) (by omega) (by omega)), by rw [x88]; exact h26, by rw [x88]; exact h27, by rw [x88]; exact h28⟩
          refine w208w hq3 ewd (by omega) e42 kb ?_
          have e8 : (xU (xU a3 116 q (uWd dr wp pr cnt W T n (uTr dr wp pr cnt W T n c wt R q) q)) 118 q k) 88 = a3 88 := funext fun x => by rw [xUn (by decide), xUn (by decide)]
          refine at95 e _ b3 (uWd dr wp pr cnt W T n (uTr dr wp pr cnt W T n c wt R q) q) (uPi_u (uPi_u hI3 (by omega) ⟨by omega, by omega⟩) (by omega) ⟨by omega, by omega⟩) (by rw [e8, x88]; exact hRq2) (fun p hp => uEn_o (p6 p hp) (fun i g => by rw [xUo (by omega), xUo (by omega)]; exact xo i p g)) ?_ (by rw [xUn (by decide), xUa]) ?_ (by rw [xUn (by decide), xUn (by decide), xo 119 q (by omega)]; exact p1) (by rw [xUn (by decide), xUn (by decide), xo 117 q (by omega)]; exact p3) ?_
          · unfold uDc
            rw [if_neg f1, if_neg f2]
          · by_cases g : uWd dr wp pr cnt W T n (uTr dr wp pr cnt W T n c wt R q) q = -1
            · exact Or.inl g
            · refine Or.inr ⟨by omega, e, fun h6 => ?_⟩
              have := @uK_e (uWd dr wp pr cnt W T n (uTr dr wp pr cnt W T n c wt R q) q)
              omega
          · rw [xUa, if_neg (fun h => h.elim f1 f2)]
            exact ewk.symm
        · have q0 : q = 0 := by omega
          have e8 : (xU a2 116 q c) 88 = a2 88 := funext fun x => xUn (by decide)
          refine at95 e _ b1 c (uPi_u h2 (by omega) ⟨by omega, by omega⟩) (by rw [e8]; exact hRq2) (fun p hp => uEn_o (p6 p hp) (fun i g => xUo (by omega))) ?_ xUa ?_ (by rw [xUn (by decide)]; exact p1) (by rw [xUn (by decide)]; exact p3) ?_
          · unfold uDc
            rw [if_pos f1]
          · rcases hc with hc | ⟨hc1, hc2⟩
            · exact Or.inl hc
            · refine Or.inr ⟨hc1, ?_⟩
              subst q0
              rw [hR] at hc2
              exact hc2 e
          · rw [xUn (by decide), if_pos (Or.inl f1)]
            exact p4
      · rw [hq88] at e
        refine nxt _ b1 (uPi_1 (hI2 0 (Or.inl rfl))) ?_ (cE 0) ⟨?_, ?_, ?_, ?_⟩
        · rw [c88]
          show uRq (uS1 dr wp pr cnt W T n c wt q (uTr dr wp pr cnt W T n c wt R q)) (a1 88)
          unfold uS1
          rw [if_pos (Or.inl e)]
          exact hRq
        · rw [if_pos e]
          exact c119 0
        · rw [if_pos e]
          exact c116 0
        · rw [if_pos (Or.inl e)]
          exact c117 0
        · rw [if_pos (Or.inl e)]
          exact c118 0
  refine loop 4 0 a b rfl ⟨uPm_r, hB, hr, hV, hL, rfl, hev.1, by omega⟩ ?_ (fun p hp => absurd hp (Nat.not_lt_zero _))
  rw [hR]
  exact fun j _ => rfl
end
end
