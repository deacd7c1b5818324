section
/-! ahead of the beginning: wish, law -/
section
set_option maxRecDepth 100000


section
variable {Ln : Nat} {xs : Nat → Int32} {d : Nat} {p k x n : Int} {ts : List Int} {T : Int → List Int} {a a1 a2 : xA} {b : xB}
/-- an order, once a wish is put into it -/
theorem vOr_p {W W' o o' : Int → Int} {s : Int} (hk : 0 ≤ k) (hs : 0 ≤ s ∧ s ≤ k) (o1 : ∀ i, 0 ≤ i → i < k → 0 ≤ o i ∧ o i < k) (o2 : ∀ i j, 0 ≤ i → i < j → j < k → W (o j) < W (o i) ∨ (W (o j) = W (o i) ∧ o i < o j)) (o3 : ∀ q, 0 ≤ q → q < k → ∃ i, 0 ≤ i ∧ i < k ∧ o i = q) (w1 : W' k = x) (w2 : ∀ i, 0 ≤ i → i < k → W' i = W i) (n1 : ∀ i, 0 ≤ i → i < s → o' i = o i) (n2 : o' s = k) (n3 : ∀ i, s < i → i ≤ k → o' i = o (i - 1) ∧ W (o (i - 1)) < x) (n4 : s = 0 ∨ x ≤ W (o (s - 1))) : (∀ i, 0 ≤ i → i < k + 1 → 0 ≤ o' i ∧ o' i < k + 1) ∧ (∀ i j, 0 ≤ i → i < j → j < k + 1 → W' (o' j) < W' (o' i) ∨ (W' (o' j) = W' (o' i) ∧ o' i < o' j)) ∧ ∀ q, 0 ≤ q → q < k + 1 → ∃ i, 0 ≤ i ∧ i < k + 1 ∧ o' i = q := by
  refine ⟨fun i i0 i1 => ?_, fun i j i0 ij jk => ?_, fun q q0 q1 => ?_⟩
  · by_cases c : i < s
    · rw [n1 i i0 c]
      have := o1 i i0 (by omega)
      omega
    · by_cases c2 : i = s
      · rw [c2, n2]
        omega
      · rw [(n3 i (by omega) (by omega)).1]
        have := o1 (i - 1) (by omega) (by omega)
        omega
  · by_cases c : j < s
    · rw [n1 i i0 (by omega), n1 j (by omega) c]
      have b1 := o1 i i0 (by omega)
      have b2 := o1 j (by omega) (by omega)
      rw [w2 _ b1.1 b1.2, w2 _ b2.1 b2.2]
      exact o2 i j i0 ij (by omega)
    · by_cases c2 : j = s
      · have b1 := o1 i i0 (by omega)
        rw [c2, n2, n1 i i0 (by omega), w1, w2 _ b1.1 b1.2]
        have h4 : x ≤ W (o (s - 1)) := by
          rcases n4 with e | e
          · omega
          · exact e
        by_cases ci : i = s - 1
        · rw [ci] at b1 ⊢
          omega
        · have := o2 i (s - 1) i0 (by omega) (by omega)
          omega
      · obtain ⟨e1, e2⟩ := n3 j (by omega) (by omega)
        have b2 := o1 (j - 1) (by omega) (by omega)
        rw [e1, w2 _ b2.1 b2.2]
        by_cases ci : i < s
        · have b1 := o1 i i0 (by omega)
          rw [n1 i i0 ci, w2 _ b1.1 b1.2]
          exact o2 i (j - 1) i0 (by omega) (by omega)
        · by_cases ci2 : i = s
          · rw [ci2, n2, w1]
            exact Or.inl e2
          · obtain ⟨e3, e4⟩ := n3 i (by omega) (by omega)
            have b1 := o1 (i - 1) (by omega) (by omega)
            rw [e3, w2 _ b1.1 b1.2]
            exact o2 (i - 1) (j - 1) (by omega) (by omega) (by omega)
  · by_cases c : q = k
    · exact ⟨s, hs.1, by omega, n2.trans c.symm⟩
    · obtain ⟨i, i0, i1, e⟩ := o3 q q0 (by omega)
      by_cases ci : i < s
      · exact ⟨i, i0, by omega, (n1 i i0 ci).trans e⟩
      · exact ⟨i + 1, by omega, by omega, by rw [(n3 (i + 1) (by omega) (by omega)).1, show i + 1 - 1 = i by omega]; exact e⟩
theorem vPg_w (h : vPg T a) (hp : 1 ≤ p ∧ p ≤ 3) (hk : a 96 p = k) (hk0 : 0 ≤ k ∧ k < 3) (hx : 1 ≤ x ∧ x ≤ 9) (hg : vGt ts) (hl : ts.length ≤ 40) (h1 : vAd p k x ts a a1) (h2 : vAr p k x ts a1 a2) (e1 : ∀ q j, 96 ≤ q → q ≤ 99 → a1 q j = a q j) (e2 : ∀ q j, 8 ≤ q → q ≤ 12 → a2 q j = a1 q j) : vPg (fun i => if i = p * 3 + k then ts else T i) a2 := by
  obtain ⟨p1, p2, p3, p4⟩ := h
  obtain ⟨⟨c1, c2⟩, ⟨c3, c4⟩, ⟨c5, c6⟩, ⟨c7, c8⟩, q, d1, d2, d3, d4, d5⟩ := h1
  obtain ⟨⟨f1, f2⟩, ⟨f3, f4⟩, ⟨f5, f6⟩, f7, f8⟩ := h2
  rw [show 3 * p + k = p * 3 + k by omega] at f3 f4 f5 f6 f7 f8
  have g12 : ∀ j, ¬ j = p → a2 12 j = a 12 j := fun j hj => (e2 12 j (by decide) (by decide)).trans (c2 j hj)
  have g12p : a2 12 p = k + 1 := (e2 12 p (by decide) (by decide)).trans c1
  have g96 : ∀ j, ¬ j = p → a2 96 j = a 96 j := fun j hj => (f2 j hj).trans (e1 96 j (by decide) (by decide))
  have g97 : ∀ j, ¬ j = p * 3 + k → a2 97 j = a 97 j := fun j hj => (f4 j hj).trans (e1 97 j (by decide) (by decide))
  have g98 : ∀ j, ¬ j = p * 3 + k → a2 98 j = a 98 j := fun j hj => (f6 j hj).trans (e1 98 j (by decide) (by decide))
  have g99 : ∀ j, (j < 60 * (p * 3 + k) ∨ 60 * (p * 3 + k) + 60 ≤ j) → a2 99 j = a 99 j := fun j hj => (f8 j hj).trans (e1 99 j (by decide) (by decide))
  have g8 : ∀ j, (j < (p * 3 + k) * 40 ∨ (p * 3 + k) * 40 + 40 ≤ j) → a2 8 j = a 8 j := fun j hj => (e2 8 j (by decide) (by decide)).trans (c4 j hj)
  have g9 : ∀ j, ¬ j = p * 3 + k → a2 9 j = a 9 j := fun j hj => (e2 9 j (by decide) (by decide)).trans (c6 j hj)
  have g10 : ∀ j, ¬ j = p * 3 + k → a2 10 j = a 10 j := fun j hj => (e2 10 j (by decide) (by decide)).trans (c8 j hj)
  have g11 : ∀ i, (i < q ∨ p * 3 + k < i) → a2 11 i = a 11 i := fun i hi => (e2 11 i (by decide) (by decide)).trans (d2 i hi)
  -- what p's wishes become
  have key := vOr_p (k := k) (x := x) (s := q - p * 3) (W := fun i => a 97 (p * 3 + i)) (W' := fun i => a2 97 (p * 3 + i)) (o := fun i => a 11 (p * 3 + i)) (o' := fun i => a2 11 (p * 3 + i)) hk0.1 (by omega) (fun i i0 i1 => by
      have := p4 p i hp.1 hp.2 i0 (by omega)
      rw [hk] at this
      exact this) (fun i j i0 ij jk => (p3 p hp.1 hp.2).1 i j i0 ij (by omega)) (fun r r0 r1 => by
      obtain ⟨i, i0, i1, e⟩ := (p3 p hp.1 hp.2).2 r r0 (by omega)
      exact ⟨i, i0, by omega, e⟩) f3 (fun i i0 i1 => g97 _ (by omega)) (fun i i0 i1 => g11 _ (by omega)) (by
      show a2 11 (p * 3 + (q - p * 3)) = k
      rw [show p * 3 + (q - p * 3) = q by omega, e2 11 q (by decide) (by decide)]
      exact d3) (fun i i0 i1 => by
      obtain ⟨r1, r2⟩ := d4 (p * 3 + i) (by omega) (by omega)
      rw [show p * 3 + i - 1 = p * 3 + (i - 1) by omega] at r1 r2
      have b := p4 p (i - 1) hp.1 hp.2 (by omega) (by omega)
      refine ⟨(e2 11 _ (by decide) (by decide)).trans r1, ?_⟩
      have w := (p2 p (a 11 (p * 3 + (i - 1))) hp.1 hp.2 b.1 b.2).2.2.1
      rw [c8 _ (by omega), w] at r2
      exact r2) (by
      rcases d5 with e | e
      · exact Or.inl (by omega)
      · by_cases c : q = p * 3
        · exact Or.inl (by omega)
        · have b := p4 p (q - 1 - p * 3) hp.1 hp.2 (by omega) (by omega)
          rw [show p * 3 + (q - 1 - p * 3) = q - 1 by omega] at b
          have w := (p2 p (a 11 (q - 1)) hp.1 hp.2 b.1 b.2).2.2.1
          rw [c8 _ (by omega), w] at e
          refine Or.inr ?_
          show x ≤ a 97 (p * 3 + a 11 (p * 3 + (q - p * 3 - 1)))
          rw [show p * 3 + (q - p * 3 - 1) = q - 1 by omega]
          exact e)
  obtain ⟨K1, K2, K3⟩ := key
  have g11o : ∀ f i, 1 ≤ f → f ≤ 3 → ¬ f = p → 0 ≤ i → i < 3 → a2 11 (f * 3 + i) = a 11 (f * 3 + i) := fun f i f0 f1' c i0 i1 => g11 _ (by omega)
  refine ⟨fun f f0 f1' => ?_, fun f i f0 f1' i0 i1 => ?_, fun f f0 f1' => ?_, fun f i f0 f1' i0 i1 => ?_⟩
  · by_cases c : f = p
    · rw [c, g12p, f1]
      exact ⟨rfl, by omega, by omega⟩
    · rw [g12 f c, g96 f c]
      exact p1 f f0 f1'
  · by_cases c : f = p ∧ i = k
    · obtain ⟨c0, c9⟩ := c
      rw [c0, c9]
      dsimp only
      rw [if_pos rfl, f3, f5]
      refine ⟨vRe_g hg hl, hx, (e2 10 _ (by decide) (by decide)).trans c7, (e2 9 _ (by decide) (by decide)).trans c5, rfl, fun j t ht => ⟨(e2 8 _ (by decide) (by decide)).trans (c3 j t ht), f7 j t ht⟩⟩
    · have hi : i < a 96 f := by
        by_cases cp : f = p
        · rw [cp, f1] at i1
          rw [cp, hk]
          omega
        · rw [g96 f cp] at i1
          exact i1
      have h3 := (p1 f f0 f1').2.2
      have hne : ¬ f * 3 + i = p * 3 + k := fun e => c (by omega)
      obtain ⟨r1, r2, r3, r4, r5, r6⟩ := p2 f i f0 f1' i0 hi
      dsimp only
      rw [if_neg hne, g97 _ hne, g10 _ hne, g9 _ hne, g98 _ hne]
      refine ⟨r1, r2, r3, r4, r5, fun j t ht => ?_⟩
      have hj : j < (T (f * 3 + i)).length := by
        rcases Nat.lt_or_ge j (T (f * 3 + i)).length with g | g
        · exact g
        · rw [List.getElem?_eq_none g] at ht
          cases ht
      have h40 := r1.1
      rw [g8 _ (by omega), g99 _ (by omega)]
      exact r6 j t ht
  · by_cases c : f = p
    · rw [c, f1]
      exact ⟨K2, K3⟩
    · rw [g96 f c]
      have h3 := (p1 f f0 f1').2.2
      obtain ⟨r1, r2⟩ := p3 f f0 f1'
      refine ⟨fun i j i0 ij jc => ?_, fun r r0 r1' => ?_⟩
      · have b1 := p4 f i f0 f1' i0 (by omega)
        have b2 := p4 f j f0 f1' (by omega) jc
        rw [g11o f i f0 f1' c i0 (by omega), g11o f j f0 f1' c (by omega) (by omega), g97 _ (by omega), g97 _ (by omega)]
        exact r1 i j i0 ij jc
      · obtain ⟨i, i0, i1, e⟩ := r2 r r0 r1'
        exact ⟨i, i0, i1, by rw [g11o f i f0 f1' c i0 (by omega)]; exact e⟩
  · by_cases c : f = p
    · rw [c, f1] at i1 ⊢
      exact K1 i i0 i1
    · rw [g96 f c] at i1 ⊢
      have h3 := (p1 f f0 f1').2.2
      rw [g11o f i f0 f1' c i0 (by omega)]
      exact p4 f i f0 f1' i0 i1
/-- but for the tape, the readers, the wishes, the laws -/
theorem vPre_f (h : vPre a b) (hA : xAr a2) (e : ∀ q j, ¬ q = 1 → ¬ q = 2 → ¬ (8 ≤ q ∧ q ≤ 20) → ¬ (31 ≤ q ∧ q ≤ 33) → ¬ (93 ≤ q ∧ q ≤ 107) → ¬ (q = 87 ∧ (j = 3 ∨ 9 ≤ j)) → ¬ q = 125 → a2 q j = a q j) (hl : vPl a2) (hg : ∃ T, vPg T a2) : vPre a2 b := by
  obtain ⟨⟨g1, g2⟩, _, hs, hp, hw, hv, _, _⟩ := h
  have e' : ∀ q j, ¬ (q ≤ 2 ∧ ¬ q = 0) → ¬ (8 ≤ q ∧ q ≤ 20) → ¬ (31 ≤ q ∧ q ≤ 33) → ¬ (93 ≤ q ∧ q ≤ 107) → ¬ (q = 87 ∧ (j = 3 ∨ 9 ≤ j)) → ¬ q = 125 → a2 q j = a q j := fun q j h1 h2 h3 h4 h5 h6 => e q j (by omega) (by omega) h2 h3 h4 h5 h6
  have e88 : a2 88 = a 88 := funext fun j => e' 88 j (by omega) (by omega) (by omega) (by omega) (by omega) (by omega)
  refine ⟨⟨(e' 0 12 (by omega) (by omega) (by omega) (by omega) (by omega) (by omega)).trans g1, (e' 87 4 (by omega) (by omega) (by omega) (by omega) (by omega) (by omega)).trans g2⟩, hA, vPs_o hs (fun q j hq => e' q j (by omega) (by omega) (by omega) (by omega) (by omega) (by omega)) rfl, vPp_o hp (fun q j hq => e' q j (by omega) (by omega) (by omega) (by omega) (by omega) (by omega)), ?_, vPv_o hv (fun q j hq => e' q j (by omega) (by omega) (by omega) (by omega) (by omega) (by omega)) (fun _ => ⟨rfl, rfl⟩), hl, hg⟩
  rw [e88, e' 87 2 (by omega) (by omega) (by omega) (by omega) (by omega) (by omega)]
  exact hw
/-- wish -/
theorem vB31 (h : vPz a b) (hb : tB (a 2)) (h11 : ∀ i, 0 ≤ i → 0 ≤ a 11 i ∧ a 11 i ≤ 2) (h12 : ∀ i, 0 ≤ i → 0 ≤ a 12 i ∧ a 12 i ≤ 3) (h96 : ∀ i, 0 ≤ i → 0 ≤ a 96 i ∧ a 96 i ≤ 3) (q1 : xR p) (q2 : xR x) (q3 : xR n) (hd : 34 ≤ d) : uBo Ln xs vPz d 31 153 [xV p, xV x, xV n] a b := by
  intro Q hQ
  have h0 := h
  obtain ⟨⟨⟨g1, g2⟩, hA, hs, hp, hw, hv, hl, T, hT⟩, z1, z2, z3⟩ := h
  have cp : 1 ≤ p → p ≤ 3 → a 12 p = a 96 p := fun c1 c2 => (hT.1 p c1 c2).1
  refine ym31 (t := a 2) q1 q2 q3 g1 rfl z2 (fun _ _ _ => rfl) hb hA h11 h12 hd (fun hno => hQ _ _ _ (fun Q2 h2 => ?_)) (fun hy a1 f m hm A1 l1 fr => hQ _ _ _ (fun Q2 h2 => ?_)) (fun hy a1 ts m hm hgt hl40 A1 l1 had fr => hQ _ _ _ (fun Q2 h2 => ?_))
  · have hno' : ¬ (1 ≤ p ∧ p ≤ 3 ∧ 1 ≤ x ∧ x ≤ 9 ∧ 1 ≤ n ∧ n ≤ 40 ∧ a 96 p < 3 ∧ n ≤ a 1 1) := fun e => hno (by
      have := cp e.1 e.2.1
      omega)
    exact ym153 (m := 0) (r := .inl 0) (t := fun j => a 93 j % 256) q1 q2 q3 g2 z1.symm z2 (fun _ _ _ => rfl) (fun j _ => (by
      show 0 ≤ a 93 j % 256 ∧ a 93 j % 256 ≤ 255
      omega)) hA h96 (by omega) (fun e => absurd e hno') (fun _ => h2 a b h0) (fun e => absurd e hno') (fun e => absurd e hno')
  · have hy' : 1 ≤ p ∧ p ≤ 3 ∧ 1 ≤ x ∧ x ≤ 9 ∧ 1 ≤ n ∧ n ≤ 40 ∧ a1 96 p < 3 ∧ n ≤ a 1 1 := by
      have := cp hy.1 hy.2.1
      have := fr 96 p (by decide) (by decide) (by decide)
      omega
    refine ym153 (m := m) (r := .inl f) (t := a 2) q1 q2 q3 ((fr 87 4 (by decide) (by decide) (by decide)).trans g2) ((fr 87 9 (by decide) (by decide) (by decide)).trans z1.symm) z2 (fun j j0 j1 => ?_) hb A1 (fun i i0 => ?_) (by omega) (fun _ => hm) (fun e => absurd hy' e) (fun _ a2 f' ef A2 l2 gr zr => ?_) (fun _ a2 ts' ef => by cases ef)
    · rw [fr 93 j (by decide) (by decide) (by decide)]
      exact (z3 j j0 (by omega)).symm
    · rw [fr 96 i (by decide) (by decide) (by decide)]
      exact h96 i i0
    · cases ef
      have e12 : ∀ q j, ¬ q = 1 → ¬ q = 31 → ¬ q = 32 → ¬ q = 87 → ¬ q = 94 → ¬ q = 95 → a2 q j = a q j := fun q j h1 h2 h3 h4 h5 h6 => (gr q j h4 h5 h6).trans (fr q j h1 h2 h3)
      have e87 : ∀ j, ¬ 9 ≤ j → a2 87 j = a 87 j := fun j hj => (zr.2 j (by omega) (by omega) (by omega) (by omega) (by omega) (by omega) (by omega) (by omega)).trans (fr 87 j (by decide) (by decide) (by decide))
      have e11 : a2 1 1 = 0 := (gr 1 1 (by decide) (by decide) (by decide)).trans l1
      refine h2 a2 b ⟨vPre_f h0.1 A2 (fun q j h1 h2 h3 h4 h5 h6 _ => ?_) (vPl_o hl (fun q j hq => ?_)) ⟨T, vPg_o hT (fun q j hq => e12 q j (by omega) (by omega) (by omega) (by omega) (by omega) (by omega))⟩, e11.trans l2.symm, by omega, fun j j0 j1 => by omega⟩
      · by_cases c : q = 87
        · rw [c]
          exact e87 j (by omega)
        · exact e12 q j h1 (by omega) (by omega) c (by omega) (by omega)
      · by_cases c : q = 87
        · rw [c]
          exact e87 j (by omega)
        · exact e12 q j (by omega) (by omega) (by omega) c (by omega) (by omega)
  · have ck := cp hy.1 hy.2.1
    have f96 : ∀ j, a1 96 j = a 96 j := fun j => fr 96 j (by decide) (by decide) (by decide) (by decide) (by decide) (by decide) (by decide) (by decide)
    have hy' : 1 ≤ p ∧ p ≤ 3 ∧ 1 ≤ x ∧ x ≤ 9 ∧ 1 ≤ n ∧ n ≤ 40 ∧ a1 96 p < 3 ∧ n ≤ a 1 1 := by
      have := f96 p
      omega
    have fw : ∀ q j, 33 ≤ q → a1 q j = a q j := fun q j hq => fr q j (by omega) (by omega) (by omega) (by omega) (by omega) (by omega) (by omega) (by omega)
    refine ym153 (m := m) (r := .inr ts) (t := a 2) q1 q2 q3 ((fw 87 4 (by decide)).trans g2) ((fw 87 9 (by decide)).trans z1.symm) z2 (fun j j0 j1 => ?_) hb A1 (fun i i0 => ?_) (by omega) (fun _ => hm) (fun e => absurd hy' e) (fun _ a2 f' ef => by cases ef) (fun _ a2 ts' ef A2 l2 had2 zr => ?_)
    · rw [fw 93 j (by decide)]
      exact (z3 j j0 (by omega)).symm
    · rw [f96]
      exact h96 i i0
    · cases ef
      have e12 : ∀ q j, ¬ q = 1 → ¬ (8 ≤ q ∧ q ≤ 12) → ¬ q = 31 → ¬ q = 32 → ¬ q = 87 → ¬ (94 ≤ q ∧ q ≤ 99) → a2 q j = a q j := fun q j h1 h2 h3 h4 h5 h6 => (zr.1 q j h5 (by omega) (by omega) (by omega) (by omega) (by omega) (by omega)).trans (fr q j h1 (by omega) (by omega) (by omega) (by omega) (by omega) h3 h4)
      have e87 : ∀ j, ¬ 9 ≤ j → a2 87 j = a 87 j := fun j hj => (zr.2 j (by omega) (by omega) (by omega) (by omega) (by omega) (by omega) (by omega) (by omega)).trans (fw 87 j (by decide))
      have e11 : a2 1 1 = 0 := (zr.1 1 1 (by decide) (by decide) (by decide) (by decide) (by decide) (by decide) (by decide)).trans l1
      rw [f96, ← ck]
      rw [f96] at had2
      rw [← ck] at had2
      refine h2 a2 b ⟨vPre_f h0.1 A2 (fun q j h1 h2 h3 h4 h5 h6 _ => ?_) (vPl_o hl (fun q j hq => ?_)) ⟨_, vPg_w hT ⟨hy.1, hy.2.1⟩ ck.symm ⟨by have := h12 p (by omega); omega, by omega⟩ ⟨hy.2.2.1, hy.2.2.2.1⟩ hgt hl40 had had2 (fun q j h1 h2 => fw q j (by omega)) (fun q j h1 h2 => zr.1 q j (by omega) (by omega) (by omega) (by omega) (by omega) (by omega) (by omega))⟩, e11.trans l2.symm, by omega, fun j j0 j1 => by omega⟩
      · by_cases c : q = 87
        · rw [c]
          exact e87 j (by omega)
        · exact e12 q j h1 (by omega) (by omega) (by omega) c (by omega)
      · by_cases c : q = 87
        · rw [c]
          exact e87 j (by omega)
        · exact e12 q j (by omega) (by omega) (by omega) (by omega) c (by omega)
/-- law -/
theorem vB47 (h : vPz a b) (hb : tB (a 2)) (hm0 : 0 ≤ a 13 7 ∧ a 13 7 ≤ 6) (q1 : xR n) (hd : 8 ≤ d) : uBo Ln xs vPz d 47 166 [xV n] a b := by
  intro Q hQ
  have h0 := h
  obtain ⟨⟨⟨g1, g2⟩, hA, hs, hp, hw, hv, ⟨l1, l2, l3, l4⟩, T, hT⟩, z1, z2, z3⟩ := h
  obtain ⟨m, em⟩ : ∃ m, a 13 7 = m := ⟨_, rfl⟩
  rw [em] at hm0 l3 l4
  refine ym47 (t := a 2) q1 g1 em rfl hm0 z2 (fun _ _ _ => rfl) hb hA hd (fun hno => hQ _ _ _ (fun Q2 h2 => ?_)) (fun hy hf a1 A1 vg m1 t1 => hQ _ _ _ (fun Q2 h2 => ?_)) (fun hy hf a1 A1 r19 fr m1 t1 s1 => hQ _ _ _ (fun Q2 h2 => ?_))
  · exact ym166 (t := fun j => a 93 j % 256) q1 g2 l3.symm z1.symm hm0 z2 (fun _ _ _ => rfl) (fun j _ => (by
      show 0 ≤ a 93 j % 256 ∧ a 93 j % 256 ≤ 255
      omega)) hA hd (fun _ => h2 a b h0) (fun e => absurd e hno) (fun e => absurd e hno)
  · have fr : ∀ q j, ¬ q = 1 → ¬ q = 33 → ¬ (14 ≤ q ∧ q ≤ 19) → a1 q j = a q j := vg.1
    refine ym166 (t := a 2) q1 ((fr 87 4 (by decide) (by decide) (by decide)).trans g2) ((fr 87 3 (by decide) (by decide) (by decide)).trans l3.symm) ((fr 87 9 (by decide) (by decide) (by decide)).trans z1.symm) hm0 z2 (fun j j0 j1 => ?_) hb A1 hd (fun e => absurd hy e) (fun _ _ a2 A2 vr m2 t2 => ?_) (fun _ e => absurd e hf)
    · rw [fr 93 j (by decide) (by decide) (by decide)]
      exact (z3 j j0 (by omega)).symm
    · have e12 : ∀ q j, ¬ q = 1 → ¬ q = 33 → ¬ (14 ≤ q ∧ q ≤ 19) → ¬ (q = 87 ∧ 9 ≤ j) → ¬ (101 ≤ q ∧ q ≤ 107) → a2 q j = a q j := fun q j h1 h2 h3 h4 h5 => (vr.1 q j h4 h5).trans (fr q j h1 h2 h3)
      have e11 : a2 1 1 = 0 := (vr.1 1 1 (by omega) (by decide)).trans t1
      refine h2 a2 b ⟨vPre_f h0.1 A2 (fun q j h1 h2 h3 h4 h5 h6 _ => e12 q j h1 (by omega) (by omega) (by omega) (by omega)) ⟨fun c c0 c1 => ?_, fun c c0 c1 => ?_, ?_, fun i i0 i1 => ?_⟩ ⟨T, vPg_o hT (fun q j hq => e12 q j (by omega) (by omega) (by omega) (by omega) (by omega))⟩, e11.trans t2.symm, by omega, fun j j0 j1 => by omega⟩
      · rw [vr.1 19 c (by omega) (by decide)]
        exact vg.2 c c0 c1 (l1 c c0 c1)
      · refine vr.2 c c0 c1 ?_
        rw [fr 106 c (by decide) (by decide) (by decide)]
        exact l2 c c0 c1
      · rw [e12 13 7 (by decide) (by decide) (by decide) (by omega) (by decide), e12 87 3 (by decide) (by decide) (by decide) (by omega) (by decide), em]
        exact l3
      · rw [e12 13 7 (by decide) (by decide) (by decide) (by omega) (by decide), em] at i1
        rw [e12 20 i (by decide) (by decide) (by decide) (by omega) (by decide), e12 100 i (by decide) (by decide) (by decide) (by omega) (by decide)]
        exact l4 i i0 i1
  · have fw : ∀ q j, 34 ≤ q → a1 q j = a q j := fun q j hq => fr q j (by omega) (by omega) (by omega) (by omega) (by omega)
    refine ym166 (t := a 2) q1 ((fw 87 4 (by decide)).trans g2) ((fw 87 3 (by decide)).trans l3.symm) ((fw 87 9 (by decide)).trans z1.symm) hm0 z2 (fun j j0 j1 => ?_) hb A1 hd (fun e => absurd hy e) (fun _ e => absurd hf e) (fun _ _ a2 A2 r106 fr2 m2 t2 s2 => ?_)
    · rw [fw 93 j (by decide)]
      exact (z3 j j0 (by omega)).symm
    · have e12 : ∀ q j, ¬ q = 1 → ¬ q = 33 → ¬ (14 ≤ q ∧ q ≤ 20) → ¬ (q = 13 ∧ j = 7) → ¬ (q = 87 ∧ (9 ≤ j ∨ j = 3)) → ¬ (100 ≤ q ∧ q ≤ 107) → a2 q j = a q j := fun q j h1 h2 h3 h4 h5 h6 => (fr2 q j h5 (by omega) (by omega)).trans (fr q j h1 h2 (by omega) (by omega) h4)
      have e11 : a2 1 1 = 0 := (fr2 1 1 (by omega) (by decide) (by omega)).trans t1
      have e13 : a2 13 7 = m + 1 := (fr2 13 7 (by omega) (by decide) (by omega)).trans m1
      refine h2 a2 b ⟨vPre_f h0.1 A2 (fun q j h1 h2 h3 h4 h5 h6 _ => e12 q j h1 (by omega) (by omega) (by omega) (by omega) (by omega)) ⟨fun c c0 c1 => ?_, fun c c0 c1 => ?_, e13.trans m2.symm, fun i i0 i1 => ?_⟩ ⟨T, vPg_o hT (fun q j hq => e12 q j (by omega) (by omega) (by omega) (by omega) (by omega) (by omega))⟩, e11.trans t2.symm, by omega, fun j j0 j1 => by omega⟩
      · rw [fr2 19 c (by omega) (by decide) (by omega)]
        exact r19 c c0 c1 (l1 c c0 c1)
      · refine r106 c c0 c1 ?_
        rw [fw 106 c (by decide)]
        exact l2 c c0 c1
      · rw [e13] at i1
        rw [fr2 20 i (by omega) (by decide) (by omega)]
        by_cases c : i = m
        · rw [c, s1, s2]
        · rw [fr2 100 i (by omega) (by decide) (by omega), fw 100 i (by decide), fr 20 i (by decide) (by decide) (by decide) (by omega) (by omega)]
          exact l4 i i0 (by omega)
end
end
end
section
/-! ahead of the beginning: what is asked -/
section
set_option maxRecDepth 100000


section
variable {Ln : Nat} {xs : Nat → Int32} {d : Nat} {p k x y n t wh g i rm kk so sd tn : Int} {a a' : xA} {b b' : xB}
/-- believes -/
theorem vN68 (h : vPz a b) (q1 : xR p) (hg : g = 0 ∨ g = 1) (q2 : xR i) (hd : 6 ≤ d) : uBo Ln xs vPz d 68 182 [xV p, xV g, xV i] a b := by
  intro Q hQ
  have h0 := h
  obtain ⟨⟨⟨g1, g2⟩, hA, ⟨⟨k1, k2, k3, k4, k5⟩, k6, k7⟩, hp, ⟨hw1, hw2, hw3, hw4⟩, ⟨v1, v2, v3, v4, v5, v6, v7, v8, v9⟩, ⟨l1, l2, l3, l4⟩, T, hT⟩, z1, z2, z3⟩ := h
  exact u68 q1 hg q2 k3 k4 hw1 hw2 hw3 (by omega) (hQ _ _ _ (fun Q2 h2 => u182 q1 hg q2 hA rfl k4 (by omega) (h2 a b h0)))
/-- holds -/
theorem vN70 (h : vPz a b) (q1 : xR p) (q2 : xR k) (hd : 7 ≤ d) : uBo Ln xs vPz d 70 183 [xV p, xV k] a b := by
  intro Q hQ
  have h0 := h
  obtain ⟨⟨⟨g1, g2⟩, hA, ⟨⟨k1, k2, k3, k4, k5⟩, k6, k7⟩, hp, ⟨hw1, hw2, hw3, hw4⟩, ⟨v1, v2, v3, v4, v5, v6, v7, v8, v9⟩, ⟨l1, l2, l3, l4⟩, T, hT⟩, z1, z2, z3⟩ := h
  exact u70n q1 q2 hA g1 (by omega) (hQ _ _ _ (fun Q2 h2 => u183n q1 q2 hA g2 (by omega) (h2 a b h0)))
/-- plan -/
theorem vN76 (h : vPz a b) (q1 : xR p) (q2 : xR k) (hd : 7 ≤ d) : uBo Ln xs vPz d 76 189 [xV p, xV k, xV wh] a b := by
  intro Q hQ
  have h0 := h
  obtain ⟨⟨⟨g1, g2⟩, hA, ⟨⟨k1, k2, k3, k4, k5⟩, k6, k7⟩, hp, ⟨hw1, hw2, hw3, hw4⟩, ⟨v1, v2, v3, v4, v5, v6, v7, v8, v9⟩, ⟨l1, l2, l3, l4⟩, T, hT⟩, z1, z2, z3⟩ := h
  exact u76n q1 q2 hA g1 (by omega) (hQ _ _ _ (fun Q2 h2 => u189n q1 q2 hA g2 (by omega) (h2 a b h0)))
/-- wanted -/
theorem vN84 (h : vPz a b) (q1 : xR p) (hd : 7 ≤ d) : uBo Ln xs vPz d 84 197 [xV p] a b := by
  intro Q hQ
  have h0 := h
  obtain ⟨⟨⟨g1, g2⟩, hA, ⟨⟨k1, k2, k3, k4, k5⟩, k6, k7⟩, hp, ⟨hw1, hw2, hw3, hw4⟩, ⟨v1, v2, v3, v4, v5, v6, v7, v8, v9⟩, ⟨l1, l2, l3, l4⟩, T, hT⟩, z1, z2, z3⟩ := h
  exact u84n q1 hA g1 (by omega) (hQ _ _ _ (fun Q2 h2 => u197n q1 hA g2 (by omega) (h2 a b h0)))
/-- turn -/
theorem vN87 (h : vPz a b) (q0 : xR kk) (q1 : xR x) (q2 : xR y) (hd : 59 ≤ d) : uBo Ln xs vPz d 87 204 [xV kk, xV x, xV y] a b := by
  intro Q hQ
  have h0 := h
  obtain ⟨⟨⟨g1, g2⟩, hA, ⟨⟨k1, k2, k3, k4, k5⟩, k6, k7⟩, hp, ⟨hw1, hw2, hw3, hw4⟩, ⟨v1, v2, v3, v4, v5, v6, v7, v8, v9⟩, ⟨l1, l2, l3, l4⟩, T, hT⟩, z1, z2, z3⟩ := h
  exact pmCs_deep (d := 59) (xn87 q0 q1 q2 g1 hA (hQ _ _ _ (fun Q2 h2 => pmCs_deep (d := 59) (xn204 q0 q1 q2 g2 hA (h2 a b h0)) hd))) hd
/-- an act ahead of the beginning -/
theorem vN101 {ro : Nat → Nat × (Nat → Int32)} {Q : Option Value → pmS → Prop} {c : Int} (hA : xAr a) (hc : 0 ≤ c ∧ c ≤ 511) (hz : ∀ j, 6 ≤ j → j ≤ 12 → a 21 j = 0) (hd : 5 ≤ d) (hQ : Q (some (xV (-1))) (xS a b)) : pmCs ro d 101 [.ref 0, xV c] (xS a b) Q := by
  have e6 := hz 6 (by decide) (by decide)
  have e8 := hz 8 (by decide) (by decide)
  have e9 := hz 9 (by decide) (by decide)
  have e10 := hz 10 (by decide) (by decide)
  have e12 := hz 12 (by decide) (by decide)
  refine pmCs_deep (d := 5) (xg101 (w101 (pmCs_deep (d := 4) (xg102 (w102 uWo21.1 hc hA (by omega) (by omega) (by omega) (by omega) (by omega) (by decide) (fun _ => w101a (by decide) (fun e => absurd rfl e) (fun _ => hQ)) (fun e => absurd e6 e) (fun e => absurd e6 e) (fun e => absurd e6 e))) (by decide)))) hd
theorem vAn_b {c : Int} (h : 1 ≤ c ∧ c ≤ 56) : 0 ≤ uAn c ∧ uAn c ≤ 511 := by
  unfold uAn
  rw [if_neg (by omega)]
  split <;> omega
/-- settle -/
theorem vN100 (h : vPz a b) (q1 : xR x) (q2 : xR rm) (hd : 6 ≤ d) : uBo Ln xs vPz d 100 215 [xV x, xV rm] a b := by
  intro Q hQ
  have h0 := h
  obtain ⟨⟨⟨g1, g2⟩, hA, ⟨⟨k1, k2, k3, k4, k5⟩, k6, k7⟩, hp, ⟨hw1, hw2, hw3, hw4⟩, ⟨v1, v2, v3, v4, v5, v6, v7, v8, v9⟩, ⟨l1, l2, l3, l4⟩, T, hT⟩, z1, z2, z3⟩ := h
  have ref : ∀ Q2 : Option Value → pmS → Prop, (∀ a'' b'', vPz a'' b'' → Q2 (some (xV (-1))) (xS a'' b'')) → pmCs (pmRo Ln xs) d 215 [.ref 87, xV x, xV rm] (xS a b) Q2 := fun Q2 h2 =>
    pmCs_deep (d := 6) (xg215 (w215 q1 q2 rfl k4 (by decide) (fun _ _ => pmCs_deep (d := 5) (xg216 (w216 (by omega) (fun _ => w215a (h2 a b h0)) (fun e => absurd g2 e))) (by decide)) (fun _ _ => h2 a b h0) (fun _ => h2 a b h0))) hd
  refine pmCs_deep (d := 6) (xg100 (w100 q1 q2 (by decide) (fun _ => hQ _ _ _ ref) (fun _ _ => hQ _ _ _ ref) (fun e1 e2 hm => ?_) (fun _ _ _ => hQ _ _ _ ref))) hd
  rw [uAn_1 ⟨by omega, by omega⟩ hm]
  exact vN101 hA (vAn_b (by omega)) v2 (by decide) (w100a (hQ _ _ _ ref))
/-- shift -/
theorem vN106 (h : vPz a b) (q1 : xR p) (q2 : xR rm) (hd : 6 ≤ d) : uBo Ln xs vPz d 106 222 [xV p, xV rm] a b := by
  intro Q hQ
  have h0 := h
  obtain ⟨⟨⟨g1, g2⟩, hA, ⟨⟨k1, k2, k3, k4, k5⟩, k6, k7⟩, hp, ⟨hw1, hw2, hw3, hw4⟩, ⟨v1, v2, v3, v4, v5, v6, v7, v8, v9⟩, ⟨l1, l2, l3, l4⟩, T, hT⟩, z1, z2, z3⟩ := h
  have ref : ∀ Q2 : Option Value → pmS → Prop, (∀ a'' b'', vPz a'' b'' → Q2 (some (xV (-1))) (xS a'' b'')) → pmCs (pmRo Ln xs) d 222 [.ref 87, xV p, xV rm] (xS a b) Q2 := fun Q2 h2 =>
    pmCs_deep (d := 6) (xg222 (w222 q1 q2 (by decide) (fun _ _ => pmCs_deep (d := 5) (xg216 (w216 (by omega) (fun _ => w222a (h2 a b h0)) (fun e => absurd g2 e))) (by decide)) (fun _ _ => h2 a b h0) (fun _ => h2 a b h0))) hd
  refine pmCs_deep (d := 6) (xg106 (w106 q1 q2 (by decide) (fun hp hm => ?_) (fun _ _ => hQ _ _ _ ref) (fun _ => hQ _ _ _ ref))) hd
  rw [uAn_2 hp hm]
  exact vN101 hA (vAn_b (by omega)) v2 (by decide) (w106a (hQ _ _ _ ref))
/-- kept -/
theorem vN110 (h : vPz a b) (q0 : xR t) (hd : 59 ≤ d) : uBo Ln xs vPz d 110 223 [xV t] a b := by
  intro Q hQ
  have h0 := h
  obtain ⟨⟨⟨g1, g2⟩, hA, ⟨⟨k1, k2, k3, k4, k5⟩, k6, k7⟩, hp, ⟨hw1, hw2, hw3, hw4⟩, ⟨v1, v2, v3, v4, v5, v6, v7, v8, v9⟩, ⟨l1, l2, l3, l4⟩, T, hT⟩, z1, z2, z3⟩ := h
  exact pmCs_deep (d := 59) (xn110 q0 g1 hA (hQ _ _ _ (fun Q2 h2 => pmCs_deep (d := 59) (xn223 q0 g2 hA (h2 a b h0)) hd))) hd
/-- loses -/
theorem vN114 (h : vPz a b) (hd : 59 ≤ d) : uBo Ln xs vPz d 114 230 [] a b := by
  intro Q hQ
  have h0 := h
  obtain ⟨⟨⟨g1, g2⟩, hA, ⟨⟨k1, k2, k3, k4, k5⟩, k6, k7⟩, hp, ⟨hw1, hw2, hw3, hw4⟩, ⟨v1, v2, v3, v4, v5, v6, v7, v8, v9⟩, ⟨l1, l2, l3, l4⟩, T, hT⟩, z1, z2, z3⟩ := h
  exact pmCs_deep (d := 59) (xn114 g1 hA (hQ _ _ _ (fun Q2 h2 => pmCs_deep (d := 59) (xn230 g2 hA (h2 a b h0)) hd))) hd
/-- answer -/
theorem vN115 (h : vPz a b) (q0 : xR t) (q1 : xR wh) (hd : 59 ≤ d) : uBo Ln xs vPz d 115 231 [xV t, xV wh] a b := by
  intro Q hQ
  have h0 := h
  obtain ⟨⟨⟨g1, g2⟩, hA, ⟨⟨k1, k2, k3, k4, k5⟩, k6, k7⟩, hp, ⟨hw1, hw2, hw3, hw4⟩, ⟨v1, v2, v3, v4, v5, v6, v7, v8, v9⟩, ⟨l1, l2, l3, l4⟩, T, hT⟩, z1, z2, z3⟩ := h
  exact pmCs_deep (d := 59) (xn115 q0 q1 g1 hA (hQ _ _ _ (fun Q2 h2 => pmCs_deep (d := 59) (xn231 q0 q1 g2 hA (h2 a b h0)) hd))) hd
/-- otherwise -/
theorem vN116 (h : vPz a b) (q0 : xR t) (hd : 59 ≤ d) : uBo Ln xs vPz d 116 232 [xV t] a b := by
  intro Q hQ
  have h0 := h
  obtain ⟨⟨⟨g1, g2⟩, hA, ⟨⟨k1, k2, k3, k4, k5⟩, k6, k7⟩, hp, ⟨hw1, hw2, hw3, hw4⟩, ⟨v1, v2, v3, v4, v5, v6, v7, v8, v9⟩, ⟨l1, l2, l3, l4⟩, T, hT⟩, z1, z2, z3⟩ := h
  exact pmCs_deep (d := 59) (xn116 q0 g1 (v2 6 (by decide) (by decide)) hA (hQ _ _ _ (fun Q2 h2 => pmCs_deep (d := 59) (xn232 q0 g2 (v1 114 (by decide) (by decide)) hA (h2 a b h0)) hd))) hd
/-- needless -/
theorem vN119 (h : vPz a b) (q0 : xR p) (hd : 59 ≤ d) : uBo Ln xs vPz d 119 236 [xV p] a b := by
  intro Q hQ
  have h0 := h
  obtain ⟨⟨⟨g1, g2⟩, hA, ⟨⟨k1, k2, k3, k4, k5⟩, k6, k7⟩, hp, ⟨hw1, hw2, hw3, hw4⟩, ⟨v1, v2, v3, v4, v5, v6, v7, v8, v9⟩, ⟨l1, l2, l3, l4⟩, T, hT⟩, z1, z2, z3⟩ := h
  exact pmCs_deep (d := 59) (xn119 q0 g1 hA (hQ _ _ _ (fun Q2 h2 => pmCs_deep (d := 59) (xn236 q0 g2 hA (h2 a b h0)) hd))) hd
/-- made -/
theorem vN120 (h : vPz a b) (q0 : xR so) (q1 : xR sd) (q2 : xR tn) (q3 : xR wh) (hd : 59 ≤ d) : uBo Ln xs vPz d 120 237 [xV so, xV sd, xV tn, xV wh] a b := by
  intro Q hQ
  have h0 := h
  obtain ⟨⟨⟨g1, g2⟩, hA, ⟨⟨k1, k2, k3, k4, k5⟩, k6, k7⟩, hp, ⟨hw1, hw2, hw3, hw4⟩, ⟨v1, v2, v3, v4, v5, v6, v7, v8, v9⟩, ⟨l1, l2, l3, l4⟩, T, hT⟩, z1, z2, z3⟩ := h
  exact pmCs_deep (d := 59) (xn120 q0 q1 q2 q3 g1 hA (hQ _ _ _ (fun Q2 h2 => pmCs_deep (d := 59) (xn237 q0 q1 q2 q3 g2 hA (h2 a b h0)) hd))) hd
/-- surprise -/
theorem vN124 (h : vPz a b) (q1 : xR t) (hd : 5 ≤ d) : uBo Ln xs vPz d 124 239 [xV t] a b := by
  intro Q hQ
  have h0 := h
  obtain ⟨⟨⟨g1, g2⟩, hA, ⟨⟨k1, k2, k3, k4, k5⟩, k6, k7⟩, hp, ⟨hw1, hw2, hw3, hw4⟩, ⟨v1, v2, v3, v4, v5, v6, v7, v8, v9⟩, ⟨l1, l2, l3, l4⟩, T, hT⟩, z1, z2, z3⟩ := h
  have e88 := v1 114 (by decide) (by decide)
  refine u124 (L := 0) (D := a 124) (C := a 120) (AC := a 123) q1 hA ⟨v8, fun t p h1 h2 => absurd h1 (by omega), fun t h1 h2 => absurd h1 (by omega)⟩ (by decide) (v2 6 (by decide) (by decide)) (fun p i j _ _ h1 h2 h3 => absurd h1 (by omega)) (by omega) (hQ _ _ _ (fun Q2 h2 => ?_))
  refine u239 (L := 0) (D := a 124) (C := a 120) (AC := a 123) q1 hA ⟨fun t p h1 h2 => absurd h1 (by omega), fun t h1 h2 => absurd h1 (by omega)⟩ (fun t p h1 h2 => absurd h1 (by omega)) (by decide) e88 (by omega) (fun a' f A' => h2 a' b ⟨vPre_f h0.1 A' (fun q j h1 h2 h3 h4 h5 h6 h7 => f q j h7) (vPl_o ⟨l1, l2, l3, l4⟩ (fun q j hq => f q j (by omega))) ⟨T, vPg_o hT (fun q j hq => f q j (by omega))⟩, ?_⟩)
  unfold vT
  rw [f 1 1 (by decide), f 87 9 (by decide)]
  exact ⟨z1, z2, fun j j0 j1 => by rw [f 2 j (by decide), f 93 j (by decide)]; exact z3 j j0 j1⟩
/-- did -/
theorem vN127 (h : vPz a b) (q1 : xR t) (q2 : xR p) (q3 : xR k) (hd : 4 ≤ d) : uBo Ln xs vPz d 127 240 [xV t, xV p, xV k] a b := by
  intro Q hQ
  have h0 := h
  obtain ⟨⟨⟨g1, g2⟩, hA, ⟨⟨k1, k2, k3, k4, k5⟩, k6, k7⟩, hp, ⟨hw1, hw2, hw3, hw4⟩, ⟨v1, v2, v3, v4, v5, v6, v7, v8, v9⟩, ⟨l1, l2, l3, l4⟩, T, hT⟩, z1, z2, z3⟩ := h
  exact u127 (tn := 0) (dn := 0) (cd := 0) (sw := 0) (ws := 0) q1 q2 q3 (v2 6 (by decide) (by decide)) (by decide) (fun h1 h2 => absurd h1 (by omega)) (by omega) (hQ _ _ _ (fun Q2 h2 => u240 (tn := 0) (dn := 0) (cd := 0) (sw := 0) (ws := 0) q1 q2 q3 hA (v1 114 (by decide) (by decide)) (by decide) (fun h1 h2 => absurd h1 (by omega)) (by omega) (h2 a b h0)))
/-- check -/
theorem vN129 (h : vPz a b) (q1 : xR t) (q2 : xR n) (hd : 59 ≤ d) : uBo Ln xs vPz d 129 241 [xV t, xV n] a b := by
  intro Q hQ
  have h0 := h
  obtain ⟨⟨⟨g1, g2⟩, hA, ⟨⟨k1, k2, k3, k4, k5⟩, k6, k7⟩, hp, ⟨hw1, hw2, hw3, hw4⟩, ⟨v1, v2, v3, v4, v5, v6, v7, v8, v9⟩, ⟨l1, l2, l3, l4⟩, T, hT⟩, z1, z2, z3⟩ := h
  exact pmCs_deep (d := 59) (xn129 q1 q2 (v2 6 (by decide) (by decide)) hA (hQ _ _ _ (fun Q2 h2 => pmCs_deep (d := 59) (xn241 q1 q2 (v1 114 (by decide) (by decide)) hA (h2 a b h0)) hd))) hd
/-- where -/
theorem vN132 (h : vPz a b) (q1 : xR p) (hd : 4 ≤ d) : uBo Ln xs vPz d 132 243 [xV p] a b := by
  intro Q hQ
  have h0 := h
  obtain ⟨⟨⟨g1, g2⟩, hA, ⟨⟨k1, k2, k3, k4, k5⟩, k6, k7⟩, hp, ⟨hw1, hw2, hw3, hw4⟩, ⟨v1, v2, v3, v4, v5, v6, v7, v8, v9⟩, ⟨l1, l2, l3, l4⟩, T, hT⟩, z1, z2, z3⟩ := h
  exact u132 q1 hw1 hw2 (by omega) (hQ _ _ _ (fun Q2 h2 => u243 q1 (by omega) (h2 a b h0)))
/-- lies -/
theorem vN133 (h : vPz a b) (q1 : xR x) (hd : 4 ≤ d) : uBo Ln xs vPz d 133 244 [xV x] a b := by
  intro Q hQ
  have h0 := h
  obtain ⟨⟨⟨g1, g2⟩, hA, ⟨⟨k1, k2, k3, k4, k5⟩, k6, k7⟩, hp, ⟨hw1, hw2, hw3, hw4⟩, ⟨v1, v2, v3, v4, v5, v6, v7, v8, v9⟩, ⟨l1, l2, l3, l4⟩, T, hT⟩, z1, z2, z3⟩ := h
  exact u133 q1 k3 k4 hw1 hw2 (by omega) (hQ _ _ _ (fun Q2 h2 => u244 q1 hA rfl k4 (by omega) (h2 a b h0)))
/-- count -/
theorem vN134 (h : vPz a b) (hm0 : 0 ≤ a 13 7 ∧ a 13 7 ≤ 6) (q1 : xR k) (hd : 6 ≤ d) : uBo Ln xs vPz d 134 245 [xV k] a b := by
  intro Q hQ
  have h0 := h
  obtain ⟨⟨⟨g1, g2⟩, hA, ⟨⟨k1, k2, k3, k4, k5⟩, k6, k7⟩, hp, ⟨hw1, hw2, hw3, hw4⟩, ⟨v1, v2, v3, v4, v5, v6, v7, v8, v9⟩, ⟨l1, l2, l3, l4⟩, T, hT⟩, z1, z2, z3⟩ := h
  refine u134 (cnt := a 96) (sz := a 20) hA q1 k3 k4 rfl hm0 hw1 hw2 g1 (Or.inl rfl) rfl (fun f f0 f1 => (hT.1 f f0 f1).1) (fun _ _ _ => rfl) ((v2 6 (by decide) (by decide)).trans (v1 114 (by decide) (by decide)).symm) ((v2 8 (by decide) (by decide)).trans (v1 116 (by decide) (by decide)).symm) ((v2 9 (by decide) (by decide)).trans (v1 117 (by decide) (by decide)).symm) ((v2 10 (by decide) (by decide)).trans (v1 118 (by decide) (by decide)).symm) ((v2 11 (by decide) (by decide)).trans (v1 119 (by decide) (by decide)).symm) (by omega) (hQ _ _ _ (fun Q2 h2 => ?_))
  exact u245 (cnt := a 96) (sz := a 20) q1 hA rfl k4 l3.symm hm0 g2 (Or.inl rfl) z1.symm (fun f f0 f1 => rfl) (fun i i0 i1 => (l4 i i0 i1).symm) (by omega) (h2 a b h0)
end
end
end
section
/-! one call on both: what comes of it -/
section
set_option maxRecDepth 100000


theorem wr20 {ro : Nat → Nat × (Nat → Int32)} {d : Nat} {Q : Option Value → pmS → Prop} {x g n : Int} {a : xA} {b : xB} (q1 : xR x) (hg : 0 ≤ g ∧ g ≤ 1) (hn : a 3 5 = n) (hn0 : 0 ≤ n ∧ n ≤ 5) (hb : a 0 12 = 1) (hd : 3 ≤ d)
    (k1 : (x < 10) → Q (some (xV (-1))) (xS a b))
    (k2 : (¬ x < 10) → (0 ≤ x - 10 ∧ x - 10 < 4) → Q (some (xV (-1))) (xS a b))
    (k3 : (¬ x < 10) → (¬ (0 ≤ x - 10 ∧ x - 10 < 4)) → Q (some (xV (-1))) (xS a b)) :
    pmWp ro d 11 20 1 0 [some (.ref 0), some (xV x), some (xV g), none, none] [] (xS a b) Q := by
  refine x_iloadn xc20_0 rfl ?_
  refine x_bipush xc20_1 (by decide) ?_
  refine x_iclt xc20_3 (xRk (by have g0 := xRb q1; omega)) (xRk (by decide)) (fun h0 => ?_) (fun h0 => ?_)
  · refine x_iconst xc20_20 ?_
    refine x_istoren (pl' := [some (.ref 0), some (xV x), some (xV g), some (xV 0), none]) xc20_21 rfl rfl ?_
    refine x_aloadn xc20_22 rfl ?_
    refine x_gfi' (k := 12) (v := 1) xc20_23 rfl (Or.inr rfl) rfl xz0 hb ?_
    refine x_ifne xc20_26 (xRk (by decide)) (fun _ => ?_) (fun h => absurd h (by omega))
    refine x_iconst xc20_51 ?_
    refine x_iret xc20_52 (Or.inl rfl) ?_
    exact k1 h0
  · refine x_iloadn xc20_6 rfl ?_
    refine x_bipush xc20_7 (by decide) ?_
    refine x_isub xc20_9 ?_
    refine x_cS (as := [xV (x - 10)]) (rest := []) xc20_10 rfl rfl xi18 ⟨rfl, rfl⟩ rfl rfl ?_
    refine xk18 (by omega) (xRk (by have g0 := xRb q1; omega)) (fun h2 => ?_) (fun h3 => ?_)
    · refine x_ifeq xc20_13 (xRk (by decide)) (fun h => absurd h (by omega)) (fun _ => ?_)
      refine x_iconst xc20_16 ?_
      refine x_goto xc20_17 ?_
      refine x_istoren (pl' := [some (.ref 0), some (xV x), some (xV g), some (xV 1), none]) xc20_21 rfl rfl ?_
      refine x_aloadn xc20_22 rfl ?_
      refine x_gfi' (k := 12) (v := 1) xc20_23 rfl (Or.inr rfl) rfl xz0 hb ?_
      refine x_ifne xc20_26 (xRk (by decide)) (fun _ => ?_) (fun h => absurd h (by omega))
      refine x_iconst xc20_51 ?_
      refine x_iret xc20_52 (Or.inl rfl) ?_
      exact k2 h0 h2
    · refine x_ifeq xc20_13 (xRk (by decide)) (fun _ => ?_) (fun h => absurd h (by omega))
      refine x_iconst xc20_20 ?_
      refine x_istoren (pl' := [some (.ref 0), some (xV x), some (xV g), some (xV 0), none]) xc20_21 rfl rfl ?_
      refine x_aloadn xc20_22 rfl ?_
      refine x_gfi' (k := 12) (v := 1) xc20_23 rfl (Or.inr rfl) rfl xz0 hb ?_
      refine x_ifne xc20_26 (xRk (by decide)) (fun _ => ?_) (fun h => absurd h (by omega))
      refine x_iconst xc20_51 ?_
      refine x_iret xc20_52 (Or.inl rfl) ?_
      exact k3 h0 h3

theorem wr23 {ro : Nat → Nat × (Nat → Int32)} {d : Nat} {Q : Option Value → pmS → Prop} {v g n : Int} {a : xA} {b : xB} (q1 : xR v) (hg : 0 ≤ g ∧ g ≤ 1) (hn : a 3 5 = n) (hn0 : 0 ≤ n ∧ n ≤ 5) (hb : a 0 12 = 1) (hd : 3 ≤ d)
    (k1 : (v < 0) → Q (some (xV (-1))) (xS a b))
    (k2 : (¬ v < 0) → (128 ≤ v) → Q (some (xV (-1))) (xS a b))
    (k3 : (¬ v < 0) → (¬ 128 ≤ v) → (uBs v < 2) → Q (some (xV (-1))) (xS a b))
    (k4 : (¬ v < 0) → (¬ 128 ≤ v) → (¬ uBs v < 2) → Q (some (xV (-1))) (xS a b)) :
    pmWp ro d 11 23 1 0 [some (.ref 0), some (xV v), some (xV g), none, none] [] (xS a b) Q := by
  refine x_iloadn xc23_0 rfl ?_
  refine x_iflt xc23_1 (xRk (by have g0 := xRb q1; omega)) (fun h0 => ?_) (fun h0 => ?_)
  · refine x_iconst xc23_23 ?_
    refine x_istoren (pl' := [some (.ref 0), some (xV v), some (xV g), some (xV 0), none]) xc23_24 rfl rfl ?_
    refine x_aloadn xc23_25 rfl ?_
    refine x_gfi' (k := 12) (v := 1) xc23_26 rfl (Or.inr rfl) rfl xz0 hb ?_
    refine x_ifne xc23_29 (xRk (by decide)) (fun _ => ?_) (fun h => absurd h (by omega))
    refine x_iconst xc23_47 ?_
    refine x_iret xc23_48 (Or.inl rfl) ?_
    exact k1 h0
  · refine x_iloadn xc23_4 rfl ?_
    refine x_sipush xc23_5 (by decide) ?_
    refine x_icge xc23_8 (xRk (by have g0 := xRb q1; omega)) (xRk (by decide)) (fun h2 => ?_) (fun h2 => ?_)
    · refine x_iconst xc23_23 ?_
      refine x_istoren (pl' := [some (.ref 0), some (xV v), some (xV g), some (xV 0), none]) xc23_24 rfl rfl ?_
      refine x_aloadn xc23_25 rfl ?_
      refine x_gfi' (k := 12) (v := 1) xc23_26 rfl (Or.inr rfl) rfl xz0 hb ?_
      refine x_ifne xc23_29 (xRk (by decide)) (fun _ => ?_) (fun h => absurd h (by omega))
      refine x_iconst xc23_47 ?_
      refine x_iret xc23_48 (Or.inl rfl) ?_
      exact k2 h0 h2
    · refine x_iloadn xc23_11 rfl ?_
      refine x_cS (as := [xV v]) (rest := []) xc23_12 rfl rfl xi24 ⟨rfl, rfl⟩ rfl rfl ?_
      refine rk24 (by omega) (by have g0 := xRb q1; omega) ?_
      refine x_iconst xc23_15 ?_
      refine x_iclt xc23_16 (xRk (by have g0 := vBs_b (v := v); omega)) (xRk (by decide)) (fun h4 => ?_) (fun h4 => ?_)
      · refine x_iconst xc23_23 ?_
        refine x_istoren (pl' := [some (.ref 0), some (xV v), some (xV g), some (xV 0), none]) xc23_24 rfl rfl ?_
        refine x_aloadn xc23_25 rfl ?_
        refine x_gfi' (k := 12) (v := 1) xc23_26 rfl (Or.inr rfl) rfl xz0 hb ?_
        refine x_ifne xc23_29 (xRk (by decide)) (fun _ => ?_) (fun h => absurd h (by omega))
        refine x_iconst xc23_47 ?_
        refine x_iret xc23_48 (Or.inl rfl) ?_
        exact k3 h0 h2 h4
      · refine x_iconst xc23_19 ?_
        refine x_goto xc23_20 ?_
        refine x_istoren (pl' := [some (.ref 0), some (xV v), some (xV g), some (xV 1), none]) xc23_24 rfl rfl ?_
        refine x_aloadn xc23_25 rfl ?_
        refine x_gfi' (k := 12) (v := 1) xc23_26 rfl (Or.inr rfl) rfl xz0 hb ?_
        refine x_ifne xc23_29 (xRk (by decide)) (fun _ => ?_) (fun h => absurd h (by omega))
        refine x_iconst xc23_47 ?_
        refine x_iret xc23_48 (Or.inl rfl) ?_
        exact k4 h0 h2 h4

section
variable {Ln : Nat} {xs : Nat → Int32} {WC WR mC mR : Nat} {as : List Value} {I : xA → xB → Prop} {a a' a1 : xA} {b b' b1 : xB} {s : pmS} {z : Int}
def vStep (ro : Nat → Nat × (Nat → Int32)) (d mm : Nat) (as : List Value) (mm' : Nat) (as' : List Value) (Inv : xA → xB → Prop) (Ans : Int → Int → Prop) (a : xA) (b : xB) : Prop := pmCs ro d mm as (xS a b) fun r σ1 => ∃ z a1 b1, r = some (xV z) ∧ xR z ∧ σ1 = xS a1 b1 ∧ pmCs ro d mm' as' (xS a1 b1) fun r' σ2 => ∃ z' a2 b2, r' = some (xV z') ∧ xR z' ∧ σ2 = xS a2 b2 ∧ Inv a2 b2 ∧ Ans z z'
/-- what always holds -/
def vInv (a : xA) (b : xB) : Prop := (kOk (xS a b) ∧ kP (xS a b)) ∧ xAr a ∧ vQ a ∧ vT a ∧ (vPre a b ∨ vBg a b)
theorem vXV (z : Int) : xR (Int32.ofInt z).toInt ∧ xV (Int32.ofInt z).toInt = xV z := ⟨aB32 _, by
  unfold xV
  rw [Int32.ofInt_toInt]⟩
theorem vSm (h : kOk s) (hW : kSm 0 s (xS a b)) : s = xS a b := by
  obtain ⟨a', b', rfl, hA'⟩ := xEx h
  have h1 : (fun (p k : Nat) => Int32.ofInt (a' p (k : Int))) = fun (p k : Nat) => Int32.ofInt (a p (k : Int)) := by
    funext p k
    exact (hW p k (Nat.zero_testBit _)).1
  have h2 : (fun (p k : Nat) => b' p (k : Int)) = fun (p k : Nat) => b p (k : Int) := by
    funext p k
    exact (hW p k (Nat.zero_testBit _)).2
  show (xZ, _, _) = (xZ, _, _)
  rw [h1, h2]
/-- the engine's word on a call -/
def vEn (Ln : Nat) (xs : Nat → Int32) (mm W : Nat) (as : List Value) (a : xA) (b : xB) : Prop := ∀ Q : Option Value → pmS → Prop, (∀ z a' b', kOk (xS a' b') → kP (xS a' b') → xAr a' → kSm W (xS a' b') (xS a b) → xR z → Q (some (xV z)) (xS a' b')) → pmCs (pmRo Ln xs) 59 mm as (xS a b) Q
theorem vJo (hC : vEn Ln xs mC WC (.ref 0 :: as) a b) (hR : ∀ a1 b1, kOk (xS a1 b1) → kP (xS a1 b1) → xAr a1 → kSm WC (xS a1 b1) (xS a b) → vEn Ln xs mR WR (.ref 87 :: as) a1 b1) (hB : uBo Ln xs I 59 mC mR as a b) (fin : ∀ a1 b1 a2 b2, xAr a1 → kSm WC (xS a1 b1) (xS a b) → kSm WR (xS a2 b2) (xS a1 b1) → kOk (xS a2 b2) → kP (xS a2 b2) → I a2 b2 → vInv a2 b2) : vStep (pmRo Ln xs) 59 mC (.ref 0 :: as) mR (.ref 87 :: as) vInv (fun z z' => z = z') a b := by
  unfold vStep
  refine pmCs_mono (pmCs_deep (pmCs_and (hC (fun r s => kOk s ∧ kP s ∧ kSm WC s (xS a b) ∧ ∃ z, xR z ∧ r = some (xV z)) (fun z a' b' k1 k2 k3 k4 k5 => ⟨k1, k2, k4, z, k5, rfl⟩)) (hB (fun r s => ∃ z a' b', r = some (xV z) ∧ s = xS a' b' ∧ ∀ Q2 : Option Value → pmS → Prop, (∀ a'' b'', I a'' b'' → Q2 (some (xV z)) (xS a'' b'')) → pmCs (pmRo Ln xs) 59 mR (.ref 87 :: as) (xS a' b') Q2) (fun z a' b' hk => ⟨z, a', b', rfl, rfl, hk⟩))) (by decide)) ?_
  rintro r s ⟨⟨k1, k2, k4, z, hz, hr⟩, z', a', b', hr', hs, hk⟩
  obtain ⟨a1, b1, hs1, hA1⟩ := xEx k1
  refine ⟨z, a1, b1, hr, hz, hs1, ?_⟩
  have hk2 := hk (fun r' σ2 => ∃ a'' b'', r' = some (xV z) ∧ σ2 = xS a'' b'' ∧ I a'' b'') (fun a'' b'' hI => ⟨a'', b'', by rw [← hr', hr], rfl, hI⟩)
  rw [← hs, hs1] at hk2
  rw [hs1] at k1 k2 k4
  refine pmCs_mono (pmCs_deep (pmCs_and (hR a1 b1 k1 k2 hA1 k4 (fun r s => kOk s ∧ kP s ∧ kSm WR s (xS a1 b1)) (fun z a' b' q1 q2 q3 q4 q5 => ⟨q1, q2, q4⟩)) hk2) (by decide)) ?_
  rintro r' σ2 ⟨⟨q1, q2, q4⟩, a2, b2, e1, e2, hI⟩
  rw [e2] at q1 q2 q4
  exact ⟨z, a2, b2, e1, hz, e2, fin a1 b1 a2 b2 hA1 k4 q4 q1 q2 hI, rfl⟩
theorem vJf (hC : vEn Ln xs mC WC (.ref 0 :: as) a b) (hR : ∀ a1 b1, kOk (xS a1 b1) → kP (xS a1 b1) → xAr a1 → kSm WC (xS a1 b1) (xS a b) → vEn Ln xs mR WR (.ref 87 :: as) a1 b1) (hB : uBf Ln xs I 59 mC mR as a b) (fin : ∀ a1 b1 a2 b2, xAr a1 → kSm WC (xS a1 b1) (xS a b) → kSm WR (xS a2 b2) (xS a1 b1) → kOk (xS a2 b2) → kP (xS a2 b2) → I a2 b2 → vInv a2 b2) : vStep (pmRo Ln xs) 59 mC (.ref 0 :: as) mR (.ref 87 :: as) vInv (fun _ _ => True) a b := by
  unfold vStep
  refine pmCs_mono (pmCs_deep (pmCs_and (hC (fun r s => kOk s ∧ kP s ∧ kSm WC s (xS a b) ∧ ∃ z, xR z ∧ r = some (xV z)) (fun z a' b' k1 k2 k3 k4 k5 => ⟨k1, k2, k4, z, k5, rfl⟩)) (hB (fun r s => ∃ a' b', s = xS a' b' ∧ ∀ Q2 : Option Value → pmS → Prop, (∀ z' a'' b'', I a'' b'' → Q2 (some (xV z')) (xS a'' b'')) → pmCs (pmRo Ln xs) 59 mR (.ref 87 :: as) (xS a' b') Q2) (fun z a' b' hk => ⟨a', b', rfl, hk⟩))) (by decide)) ?_
  rintro r s ⟨⟨k1, k2, k4, z, hz, hr⟩, a', b', hs, hk⟩
  obtain ⟨a1, b1, hs1, hA1⟩ := xEx k1
  refine ⟨z, a1, b1, hr, hz, hs1, ?_⟩
  have hk2 := hk (fun r' σ2 => ∃ a'' b'', σ2 = xS a'' b'' ∧ I a'' b'') (fun z' a'' b'' hI => ⟨a'', b'', rfl, hI⟩)
  rw [← hs, hs1] at hk2
  rw [hs1] at k1 k2 k4
  refine pmCs_mono (pmCs_deep (pmCs_and (hR a1 b1 k1 k2 hA1 k4 (fun r s => kOk s ∧ kP s ∧ kSm WR s (xS a1 b1) ∧ ∃ z, xR z ∧ r = some (xV z)) (fun z a' b' q1 q2 q3 q4 q5 => ⟨q1, q2, q4, z, q5, rfl⟩)) hk2) (by decide)) ?_
  rintro r' σ2 ⟨⟨q1, q2, q4, z', hz', hr'⟩, a2, b2, e2, hI⟩
  rw [e2] at q1 q2 q4
  exact ⟨z', a2, b2, hr', hz', e2, fin a1 b1 a2 b2 hA1 k4 q4 q1 q2 hI, trivial⟩
/-- without the engine -/
theorem vJx (hB : uBo Ln xs I 59 mC mR as a b) (fin : ∀ a2 b2, I a2 b2 → vInv a2 b2) : vStep (pmRo Ln xs) 59 mC (.ref 0 :: as) mR (.ref 87 :: as) vInv (fun z z' => z = z') a b := by
  unfold vStep
  refine hB _ (fun z a' b' hk => ?_)
  obtain ⟨g1, g2⟩ := vXV z
  exact ⟨_, a', b', by rw [g2], g1, rfl, hk _ (fun a'' b'' hI => ⟨_, a'', b'', by rw [g2], g1, rfl, fin a'' b'' hI, rfl⟩)⟩
/-- nothing changes -/
theorem vU (hI : vInv a b) (z : Int) (hC : ∀ Q : Option Value → pmS → Prop, Q (some (xV z)) (xS a b) → pmCs (pmRo Ln xs) 59 mC (.ref 0 :: as) (xS a b) Q) (hR : ∀ Q : Option Value → pmS → Prop, Q (some (xV z)) (xS a b) → pmCs (pmRo Ln xs) 59 mR (.ref 87 :: as) (xS a b) Q) : vStep (pmRo Ln xs) 59 mC (.ref 0 :: as) mR (.ref 87 :: as) vInv (fun z z' => z = z') a b :=
  vJx (I := fun a'' b'' => a'' = a ∧ b'' = b) (fun Q hQ => hC Q (hQ z a b (fun Q2 h2 => hR Q2 (h2 a b ⟨rfl, rfl⟩)))) (fun a2 b2 h => by
    rw [h.1, h.2]
    exact hI)
theorem vMono {ro : Nat → Nat × (Nat → Int32)} {d mm mm' : Nat} {as as' : List Value} {Inv : xA → xB → Prop} {A A' : Int → Int → Prop} (h : vStep ro d mm as mm' as' Inv A a b) (hA : ∀ z z', A z z' → A' z z') : vStep ro d mm as mm' as' Inv A' a b := by
  refine pmCs_mono h ?_
  rintro r s ⟨z, a1, b1, e1, e2, e3, h2⟩
  refine ⟨z, a1, b1, e1, e2, e3, pmCs_mono h2 ?_⟩
  rintro r' s' ⟨z', a2, b2, g1, g2, g3, g4, g5⟩
  exact ⟨z', a2, b2, g1, g2, g3, g4, hA _ _ g5⟩
/-- the tape, the laws' numbers: not written -/
noncomputable def vMq (W : Nat) : Bool := W.testBit (bRg 13 7) || W.testBit (bRg 87 3) || W.testBit (bRg 20 0) || W.testBit (bRg 100 0)
noncomputable def vMt (W : Nat) : Bool := W.testBit (bRg 1 1) || W.testBit (bRg 87 9) || W.testBit (bRg 2 0) || W.testBit (bRg 93 0)
theorem vFq {W : Nat} (hW : kSm W (xS a' b') (xS a b)) (hA' : xAr a') (hA : xAr a) (m : vMq W = false) (h : vQ a) : vQ a' := by
  unfold vMq at m
  simp only [Bool.or_eq_false_iff] at m
  obtain ⟨⟨⟨m1, m2⟩, m3⟩, m4⟩ := m
  have c1 := (xFr hW hA' hA (p := 13) (k := 7) (by decide) m1).1
  have c2 := (xFr hW hA' hA (p := 87) (k := 3) (by decide) m2).1
  unfold vQ
  rw [c1, c2]
  exact ⟨h.1, fun i i0 i1 => by
    rw [(xFrr hW hA' hA (p := 20) (by decide +kernel) m3 i0).1, (xFrr hW hA' hA (p := 100) (by decide +kernel) m4 i0).1]
    exact h.2 i i0 i1⟩
theorem vFt {W : Nat} (hW : kSm W (xS a' b') (xS a b)) (hA' : xAr a') (hA : xAr a) (m : vMt W = false) (h : vT a) : vT a' := by
  unfold vMt at m
  simp only [Bool.or_eq_false_iff] at m
  obtain ⟨⟨⟨m1, m2⟩, m3⟩, m4⟩ := m
  have c1 := (xFr hW hA' hA (p := 1) (k := 1) (by decide) m1).1
  have c2 := (xFr hW hA' hA (p := 87) (k := 9) (by decide) m2).1
  unfold vT
  rw [c1, c2]
  exact ⟨h.1, h.2.1, fun j j0 j1 => by
    rw [(xFrr hW hA' hA (p := 2) (by decide +kernel) m3 j0).1, (xFrr hW hA' hA (p := 93) (by decide +kernel) m4 j0).1]
    exact h.2.2 j j0 j1⟩
theorem vPre_q (h : vPre a b) : vQ a := ⟨h.2.2.2.2.2.2.1.2.2.1, h.2.2.2.2.2.2.1.2.2.2⟩
theorem vPre_114 (h : vPre a b) : 0 ≤ a 88 114 ∧ a 88 114 ≤ 60 := by
  have := h.2.2.2.2.2.1.1 114 (by decide) (by decide)
  omega
theorem vBg_114 (h : vBg a b) : 0 ≤ a 88 114 ∧ a 88 114 ≤ 60 := by
  obtain ⟨dr, wp, co, pr, cnt, W, T, n, a0, R, h⟩ := h
  exact h.2.2.1.2.2.1.1
theorem vBg_A (h : vBg a b) : xAr a := by
  obtain ⟨dr, wp, co, pr, cnt, W, T, n, a0, R, h⟩ := h
  exact h.2.1.1.1.1
theorem vInv_114 (h : vInv a b) : 0 ≤ a 88 114 ∧ a 88 114 ≤ 60 := h.2.2.2.2.elim vPre_114 vBg_114
theorem vInv_p (h : vPz a b) (k : kOk (xS a b)) (k2 : kP (xS a b)) : vInv a b := ⟨⟨k, k2⟩, h.1.2.1, vPre_q h.1, h.2, Or.inl h.1⟩
theorem vInv_b (h : vBg a b) (k : kOk (xS a b)) (k2 : kP (xS a b)) (hq : vQ a) (ht : vT a) : vInv a b := ⟨⟨k, k2⟩, vBg_A h, hq, ht, Or.inr h⟩
/-- once begun: both masks keep the tape and the laws' numbers -/
theorem vInv_m {b2 : xB} {a2 : xA} (h : vInv a b) (hA1 : xAr a1) (k1 : kSm WC (xS a1 b1) (xS a b)) (k2 : kSm WR (xS a2 b2) (xS a1 b1)) (m1 : vMq WC = false) (m2 : vMt WC = false) (m3 : vMq WR = false) (m4 : vMt WR = false) (q1 : kOk (xS a2 b2)) (q2 : kP (xS a2 b2)) (hb : vBg a2 b2) : vInv a2 b2 :=
  vInv_b hb q1 q2 (vFq k2 (vBg_A hb) hA1 m3 (vFq k1 hA1 h.2.1 m1 h.2.2.1)) (vFt k2 (vBg_A hb) hA1 m4 (vFt k1 hA1 h.2.1 m2 h.2.2.2.1))
end
section
variable {Ln : Nat} {xs : Nat → Int32} {d : Nat} {dr wp co pr cnt W : Int → Int} {T : Int → List Int} {n n' m t k x c cd wt p L l : Int} {r r' R tp : Int → Int} {a a' a0 a1 a2 : xA} {b b' b1 b2 : xB}
/-- feeding leaves what has begun -/
theorem uBg_f (h : uBg dr wp co pr cnt W T n a0 R a b) (A : xAr a') (e : ∀ q j, ¬ (q = 2 ∨ q = 93) → ¬ q = 1 → ¬ (q = 87 ∧ j = 9) → a' q j = a q j) : uBg dr wp co pr cnt W T n a0 R a' b := by
  obtain ⟨g1, ⟨c1, c2, c3, c4, c5, c6⟩, ⟨s1, s2, s3, s4, s5, s6⟩, ch⟩ := h
  have e2 : ∀ q j, ¬ (q = 2 ∨ q = 93) → ¬ q = 1 → ¬ q = 87 → a' q j = a q j := fun q j h1 h2 h3 => e q j h1 h2 (by omega)
  have e88 : a' 88 = a 88 := funext fun j => e2 88 j (by decide) (by decide) (by decide)
  obtain ⟨t1, t2, t3, t4⟩ := s1
  unfold uBg
  rw [e88]
  refine ⟨g1, ⟨uCb_e c1 (fun q j h1 h2 => e2 q j (by omega) (by omega) (by omega)) (fun _ _ _ => rfl) A, uHm_o c2 (fun j => e2 78 j (by decide) (by decide) (by decide)), (fun j j0 j1 => by rw [e2 (21 + 4) j (by decide) (by decide) (by decide)]; exact c3 j j0 j1), uCx_o uWo21 c4 (fun q j q1 q2 => e2 q j (by omega) (by omega) (by omega)) (fun _ _ _ _ => rfl), uCx_o uWo80 c5 (fun q j q1 q2 => e2 q j (by omega) (by omega) (by omega)) (fun _ _ _ _ => rfl), ?_⟩, ⟨⟨uRb_o t1 A (fun q j g => e q j (by omega) (by omega) (by omega)) (fun j j0 j1 => by rw [e2 109 j (by decide) (by decide) (by decide)]; exact t1.2.2.2.2.2.2 j j0 j1), uMV_f t2 (e 87 41 (by decide) (by decide) (by decide)) (fun j => e2 115 j (by decide) (by decide) (by decide)) (fun _ => rfl), uLw_o t3 (fun q j g => e q j (by omega) (by omega) (by omega)), fun i i0 i1 => by rw [e2 100 i (by decide) (by decide) (by decide)]; exact t4 i i0 i1⟩, s2, s3, uShl_o (x := 1) (by decide) s4 (fun j _ => e2 89 j (by decide) (by decide) (by decide)), s5, ?_⟩, uChr_o ch (e2 79 6 (by decide) (by decide) (by decide)) (fun q j hq => e2 q j (by omega) (by omega) (by omega)) (fun _ _ _ g => g)⟩
  · rw [e2 0 12 (by decide) (by decide) (by decide)]
    exact c6
  · rw [e 87 4 (by decide) (by decide) (by decide)]
    exact s6
end
end
end
section
/-! every call keeps what always holds -/
section
set_option maxRecDepth 100000


section
variable {Ln : Nat} {xs : Nat → Int32} {v0 v1 v2 v3 v4 : Int} {a : xA} {b : xB}
theorem vE20 (hLn : Ln ≤ 3072) (hK : kOk (xS a b)) (hP : kP (xS a b)) (hA : xAr a) (q0 : xR v0) (q1 : v1 = 0 ∨ v1 = 1) : vEn Ln xs 20 xW20 [.ref 0, xV v0, xV v1] a b := fun Q hq => xe20 (xL0 hLn) (xC20 hLn) hK hP hA (by decide) q0 (by omega) (fun z a' b' k1 k2 k3 k4 k5 => hq z a' b' k1 k2 k3 k4 ⟨by omega, by omega⟩)
theorem vE141 (hLn : Ln ≤ 3072) (hK : kOk (xS a b)) (hP : kP (xS a b)) (hA : xAr a) (q0 : xR v0) (q1 : v1 = 0 ∨ v1 = 1) : vEn Ln xs 141 xW141 [.ref 87, xV v0, xV v1] a b := fun Q hq => xe141 (xL0 hLn) (xC141 hLn) hK hP hA (by decide) q0 (by omega) (fun z a' b' k1 k2 k3 k4 k5 => hq z a' b' k1 k2 k3 k4 ⟨by omega, by omega⟩)
theorem vE23 (hLn : Ln ≤ 3072) (hK : kOk (xS a b)) (hP : kP (xS a b)) (hA : xAr a) (q0 : xR v0) (q1 : v1 = 0 ∨ v1 = 1) : vEn Ln xs 23 xW23 [.ref 0, xV v0, xV v1] a b := fun Q hq => xe23 (xL0 hLn) (xC23 hLn) hK hP hA (by decide) q0 (by omega) (fun z a' b' k1 k2 k3 k4 k5 => hq z a' b' k1 k2 k3 k4 ⟨by omega, by omega⟩)
theorem vE142 (hLn : Ln ≤ 3072) (hK : kOk (xS a b)) (hP : kP (xS a b)) (hA : xAr a) (q0 : xR v0) (q1 : v1 = 0 ∨ v1 = 1) : vEn Ln xs 142 xW142 [.ref 87, xV v0, xV v1] a b := fun Q hq => xe142 (xL0 hLn) (xC142 hLn) hK hP hA (by decide) q0 (by omega) (fun z a' b' k1 k2 k3 k4 k5 => hq z a' b' k1 k2 k3 k4 ⟨by omega, by omega⟩)
theorem vE25 (hLn : Ln ≤ 3072) (hK : kOk (xS a b)) (hP : kP (xS a b)) (hA : xAr a) (q0 : xR v0) (q1 : v1 = 0 ∨ v1 = 1) (q2 : xR v2) (q3 : xR v3) : vEn Ln xs 25 xW25 [.ref 0, xV v0, xV v1, xV v2, xV v3] a b := fun Q hq => xe25 (xL0 hLn) (xC25 hLn) hK hP hA (by decide) q0 (by omega) q2 q3 (fun z a' b' k1 k2 k3 k4 k5 => hq z a' b' k1 k2 k3 k4 ⟨by omega, by omega⟩)
theorem vE145 (hLn : Ln ≤ 3072) (hK : kOk (xS a b)) (hP : kP (xS a b)) (hA : xAr a) (q0 : xR v0) (q1 : v1 = 0 ∨ v1 = 1) (q2 : xR v2) (q3 : xR v3) : vEn Ln xs 145 xW145 [.ref 87, xV v0, xV v1, xV v2, xV v3] a b := fun Q hq => xe145 (xL0 hLn) (xC145 hLn) hK hP hA (by decide) q0 (by omega) q2 q3 (fun z a' b' k1 k2 k3 k4 k5 => hq z a' b' k1 k2 k3 k4 ⟨by omega, by omega⟩)
theorem vE28 (hLn : Ln ≤ 3072) (hK : kOk (xS a b)) (hP : kP (xS a b)) (hA : xAr a) (q0 : xR v0) (q1 : xR v1) : vEn Ln xs 28 xW28 [.ref 0, xV v0, xV v1] a b := fun Q hq => xe28 (xL0 hLn) (xC28 hLn) hK hP hA (by decide) q0 q1 (fun z a' b' k1 k2 k3 k4 k5 => hq z a' b' k1 k2 k3 k4 ⟨by omega, by omega⟩)
theorem vE150 (hLn : Ln ≤ 3072) (hK : kOk (xS a b)) (hP : kP (xS a b)) (hA : xAr a) (q0 : xR v0) (q1 : xR v1) : vEn Ln xs 150 xW150 [.ref 87, xV v0, xV v1] a b := fun Q hq => xe150 (xL0 hLn) (xC150 hLn) hK hP hA (by decide) q0 q1 (fun z a' b' k1 k2 k3 k4 k5 => hq z a' b' k1 k2 k3 k4 ⟨by omega, by omega⟩)
theorem vE29 (hLn : Ln ≤ 3072) (hK : kOk (xS a b)) (hP : kP (xS a b)) (hA : xAr a) (q0 : xR v0) (q1 : xR v1) (q2 : xR v2) (q3 : xR v3) (q4 : xR v4) : vEn Ln xs 29 xW29 [.ref 0, xV v0, xV v1, xV v2, xV v3, xV v4] a b := fun Q hq => xe29 (xL0 hLn) (xC29 hLn) hK hP hA (by decide) q0 q1 q2 q3 q4 (fun z a' b' k1 k2 k3 k4 k5 => hq z a' b' k1 k2 k3 k4 ⟨by omega, by omega⟩)
theorem vE151 (hLn : Ln ≤ 3072) (hK : kOk (xS a b)) (hP : kP (xS a b)) (hA : xAr a) (q0 : xR v0) (q1 : xR v1) (q2 : xR v2) (q3 : xR v3) (q4 : xR v4) : vEn Ln xs 151 xW151 [.ref 87, xV v0, xV v1, xV v2, xV v3, xV v4] a b := fun Q hq => xe151 (xL0 hLn) (xC151 hLn) hK hP hA (by decide) q0 q1 q2 q3 q4 (fun z a' b' k1 k2 k3 k4 k5 => hq z a' b' k1 k2 k3 k4 ⟨by omega, by omega⟩)
theorem vE31 (hLn : Ln ≤ 3072) (hK : kOk (xS a b)) (hP : kP (xS a b)) (hA : xAr a) (q0 : xR v0) (q1 : xR v1) (q2 : xR v2) : vEn Ln xs 31 xW31 [.ref 0, xV v0, xV v1, xV v2] a b := fun Q hq => xe31 (xL0 hLn) (xC31 hLn) hK hP hA (by decide) q0 q1 q2 (fun z a' b' k1 k2 k3 k4 k5 => hq z a' b' k1 k2 k3 k4 ⟨by omega, by omega⟩)
theorem vE153 (hLn : Ln ≤ 3072) (hK : kOk (xS a b)) (hP : kP (xS a b)) (hA : xAr a) (q0 : xR v0) (q1 : xR v1) (q2 : xR v2) : vEn Ln xs 153 xW153 [.ref 87, xV v0, xV v1, xV v2] a b := fun Q hq => xe153 (xL0 hLn) (xC153 hLn) hK hP hA (by decide) q0 q1 q2 (fun z a' b' k1 k2 k3 k4 k5 => hq z a' b' k1 k2 k3 k4 ⟨by omega, by omega⟩)
theorem vE47 (hLn : Ln ≤ 3072) (hK : kOk (xS a b)) (hP : kP (xS a b)) (hA : xAr a) (q0 : xR v0) : vEn Ln xs 47 xW47 [.ref 0, xV v0] a b := fun Q hq => xe47 (xL0 hLn) (xC47 hLn) hK hP hA (by decide) q0 (fun z a' b' k1 k2 k3 k4 k5 => hq z a' b' k1 k2 k3 k4 ⟨by omega, by omega⟩)
theorem vE166 (hLn : Ln ≤ 3072) (hK : kOk (xS a b)) (hP : kP (xS a b)) (hA : xAr a) (q0 : xR v0) : vEn Ln xs 166 xW166 [.ref 87, xV v0] a b := fun Q hq => xe166 (xL0 hLn) (xC166 hLn) hK hP hA (by decide) q0 (fun z a' b' k1 k2 k3 k4 k5 => hq z a' b' k1 k2 k3 k4 ⟨by omega, by omega⟩)
theorem vE68 (hLn : Ln ≤ 3072) (hK : kOk (xS a b)) (hP : kP (xS a b)) (hA : xAr a) (q0 : xR v0) (q1 : v1 = 0 ∨ v1 = 1) (q2 : xR v2) : vEn Ln xs 68 xW68 [.ref 0, xV v0, xV v1, xV v2] a b := fun Q hq => xe68 (xL0 hLn) (xC68 hLn) hK hP hA (by decide) q0 (by omega) q2 (fun z a' b' k1 k2 k3 k4 k5 => hq z a' b' k1 k2 k3 k4 ⟨by omega, by omega⟩)
theorem vE182 (hLn : Ln ≤ 3072) (hK : kOk (xS a b)) (hP : kP (xS a b)) (hA : xAr a) (q0 : xR v0) (q1 : v1 = 0 ∨ v1 = 1) (q2 : xR v2) : vEn Ln xs 182 xW182 [.ref 87, xV v0, xV v1, xV v2] a b := fun Q hq => xe182 (xL0 hLn) (xC182 hLn) hK hP hA (by decide) q0 (by omega) q2 (fun z a' b' k1 k2 k3 k4 k5 => hq z a' b' k1 k2 k3 k4 ⟨by omega, by omega⟩)
theorem vE70 (hLn : Ln ≤ 3072) (hK : kOk (xS a b)) (hP : kP (xS a b)) (hA : xAr a) (q0 : xR v0) (q1 : xR v1) : vEn Ln xs 70 xW70 [.ref 0, xV v0, xV v1] a b := fun Q hq => xe70 (xL0 hLn) (xC70 hLn) hK hP hA (by decide) q0 q1 (fun z a' b' k1 k2 k3 k4 k5 => hq z a' b' k1 k2 k3 k4 ⟨by omega, by omega⟩)
theorem vE183 (hLn : Ln ≤ 3072) (hK : kOk (xS a b)) (hP : kP (xS a b)) (hA : xAr a) (q0 : xR v0) (q1 : xR v1) : vEn Ln xs 183 xW183 [.ref 87, xV v0, xV v1] a b := fun Q hq => xe183 (xL0 hLn) (xC183 hLn) hK hP hA (by decide) q0 q1 (fun z a' b' k1 k2 k3 k4 k5 => hq z a' b' k1 k2 k3 k4 ⟨by omega, by omega⟩)
theorem vE76 (hLn : Ln ≤ 3072) (hK : kOk (xS a b)) (hP : kP (xS a b)) (hA : xAr a) (q0 : xR v0) (q1 : xR v1) (q2 : xR v2) : vEn Ln xs 76 xW76 [.ref 0, xV v0, xV v1, xV v2] a b := fun Q hq => xe76 (xL0 hLn) (xC76 hLn) hK hP hA (by decide) q0 q1 q2 (fun z a' b' k1 k2 k3 k4 k5 => hq z a' b' k1 k2 k3 k4 ⟨by omega, by omega⟩)
theorem vE189 (hLn : Ln ≤ 3072) (hK : kOk (xS a b)) (hP : kP (xS a b)) (hA : xAr a) (q0 : xR v0) (q1 : xR v1) (q2 : xR v2) : vEn Ln xs 189 xW189 [.ref 87, xV v0, xV v1, xV v2] a b := fun Q hq => xe189 (xL0 hLn) (xC189 hLn) hK hP hA (by decide) q0 q1 q2 (fun z a' b' k1 k2 k3 k4 k5 => hq z a' b' k1 k2 k3 k4 ⟨by omega, by omega⟩)
theorem vE84 (hLn : Ln ≤ 3072) (hK : kOk (xS a b)) (hP : kP (xS a b)) (hA : xAr a) (q0 : xR v0) : vEn Ln xs 84 xW84 [.ref 0, xV v0] a b := fun Q hq => xe84 (xL0 hLn) (xC84 hLn) hK hP hA (by decide) q0 (fun z a' b' k1 k2 k3 k4 k5 => hq z a' b' k1 k2 k3 k4 ⟨by omega, by omega⟩)
theorem vE197 (hLn : Ln ≤ 3072) (hK : kOk (xS a b)) (hP : kP (xS a b)) (hA : xAr a) (q0 : xR v0) : vEn Ln xs 197 xW197 [.ref 87, xV v0] a b := fun Q hq => xe197 (xL0 hLn) (xC197 hLn) hK hP hA (by decide) q0 (fun z a' b' k1 k2 k3 k4 k5 => hq z a' b' k1 k2 k3 k4 ⟨by omega, by omega⟩)
theorem vE87 (hLn : Ln ≤ 3072) (hK : kOk (xS a b)) (hP : kP (xS a b)) (hA : xAr a) (q0 : xR v0) (q1 : xR v1) (q2 : xR v2) : vEn Ln xs 87 xW87 [.ref 0, xV v0, xV v1, xV v2] a b := fun Q hq => xe87 (xL0 hLn) (xC87 hLn) hK hP hA (by decide) q0 q1 q2 (fun z a' b' k1 k2 k3 k4 k5 => hq z a' b' k1 k2 k3 k4 ⟨by omega, by omega⟩)
theorem vE204 (hLn : Ln ≤ 3072) (hK : kOk (xS a b)) (hP : kP (xS a b)) (hA : xAr a) (q0 : xR v0) (q1 : xR v1) (q2 : xR v2) (h114 : 0 ≤ a 88 114 ∧ a 88 114 ≤ 60) : vEn Ln xs 204 xW204 [.ref 87, xV v0, xV v1, xV v2] a b := fun Q hq => xe204 (xL0 hLn) (xC204 hLn) hK hP hA (by decide) q0 q1 q2 h114 (fun z a' b' k1 k2 k3 k4 k5 _ => hq z a' b' k1 k2 k3 k4 ⟨by omega, by omega⟩)
theorem vE100 (hLn : Ln ≤ 3072) (hK : kOk (xS a b)) (hP : kP (xS a b)) (hA : xAr a) (q0 : xR v0) (q1 : xR v1) : vEn Ln xs 100 xW100 [.ref 0, xV v0, xV v1] a b := fun Q hq => xe100 (xL0 hLn) (xC100 hLn) hK hP hA (by decide) q0 q1 (fun z a' b' k1 k2 k3 k4 k5 => hq z a' b' k1 k2 k3 k4 ⟨by omega, by omega⟩)
theorem vE215 (hLn : Ln ≤ 3072) (hK : kOk (xS a b)) (hP : kP (xS a b)) (hA : xAr a) (q0 : xR v0) (q1 : xR v1) (h114 : 0 ≤ a 88 114 ∧ a 88 114 ≤ 60) : vEn Ln xs 215 xW215 [.ref 87, xV v0, xV v1] a b := fun Q hq => xe215 (xL0 hLn) (xC215 hLn) hK hP hA (by decide) q0 q1 h114 (fun z a' b' k1 k2 k3 k4 k5 => hq z a' b' k1 k2 k3 k4 ⟨by omega, by omega⟩)
theorem vE106 (hLn : Ln ≤ 3072) (hK : kOk (xS a b)) (hP : kP (xS a b)) (hA : xAr a) (q0 : xR v0) (q1 : xR v1) : vEn Ln xs 106 xW106 [.ref 0, xV v0, xV v1] a b := fun Q hq => xe106 (xL0 hLn) (xC106 hLn) hK hP hA (by decide) q0 q1 (fun z a' b' k1 k2 k3 k4 k5 => hq z a' b' k1 k2 k3 k4 ⟨by omega, by omega⟩)
theorem vE222 (hLn : Ln ≤ 3072) (hK : kOk (xS a b)) (hP : kP (xS a b)) (hA : xAr a) (q0 : xR v0) (q1 : xR v1) (h114 : 0 ≤ a 88 114 ∧ a 88 114 ≤ 60) : vEn Ln xs 222 xW222 [.ref 87, xV v0, xV v1] a b := fun Q hq => xe222 (xL0 hLn) (xC222 hLn) hK hP hA (by decide) q0 q1 h114 (fun z a' b' k1 k2 k3 k4 k5 => hq z a' b' k1 k2 k3 k4 ⟨by omega, by omega⟩)
theorem vE110 (hLn : Ln ≤ 3072) (hK : kOk (xS a b)) (hP : kP (xS a b)) (hA : xAr a) (q0 : xR v0) : vEn Ln xs 110 xW110 [.ref 0, xV v0] a b := fun Q hq => xe110 (xL0 hLn) (xC110 hLn) hK hP hA (by decide) q0 (fun z a' b' k1 k2 k3 k4 k5 => hq z a' b' k1 k2 k3 k4 ⟨by omega, by omega⟩)
theorem vE223 (hLn : Ln ≤ 3072) (hK : kOk (xS a b)) (hP : kP (xS a b)) (hA : xAr a) (q0 : xR v0) (h114 : 0 ≤ a 88 114 ∧ a 88 114 ≤ 60) : vEn Ln xs 223 xW223 [.ref 87, xV v0] a b := fun Q hq => xe223 (xL0 hLn) (xC223 hLn) hK hP hA (by decide) q0 h114 (fun z a' b' k1 k2 k3 k4 k5 _ => hq z a' b' k1 k2 k3 k4 ⟨by omega, by omega⟩)
theorem vE114 (hLn : Ln ≤ 3072) (hK : kOk (xS a b)) (hP : kP (xS a b)) (hA : xAr a) : vEn Ln xs 114 xW114 [.ref 0] a b := fun Q hq => xe114 (xL0 hLn) (xC114 hLn) hK hP hA (by decide) (fun z a' b' k1 k2 k3 k4 k5 => hq z a' b' k1 k2 k3 k4 ⟨by omega, by omega⟩)
theorem vE230 (hLn : Ln ≤ 3072) (hK : kOk (xS a b)) (hP : kP (xS a b)) (hA : xAr a) (h114 : 0 ≤ a 88 114 ∧ a 88 114 ≤ 60) : vEn Ln xs 230 xW230 [.ref 87] a b := fun Q hq => xe230 (xL0 hLn) (xC230 hLn) hK hP hA (by decide) h114 (fun z a' b' k1 k2 k3 k4 k5 _ => hq z a' b' k1 k2 k3 k4 ⟨by omega, by omega⟩)
theorem vE115 (hLn : Ln ≤ 3072) (hK : kOk (xS a b)) (hP : kP (xS a b)) (hA : xAr a) (q0 : xR v0) (q1 : xR v1) : vEn Ln xs 115 xW115 [.ref 0, xV v0, xV v1] a b := fun Q hq => xe115 (xL0 hLn) (xC115 hLn) hK hP hA (by decide) q0 q1 (fun z a' b' k1 k2 k3 k4 k5 => hq z a' b' k1 k2 k3 k4 ⟨by omega, by omega⟩)
theorem vE231 (hLn : Ln ≤ 3072) (hK : kOk (xS a b)) (hP : kP (xS a b)) (hA : xAr a) (q0 : xR v0) (q1 : xR v1) (h114 : 0 ≤ a 88 114 ∧ a 88 114 ≤ 60) : vEn Ln xs 231 xW231 [.ref 87, xV v0, xV v1] a b := fun Q hq => xe231 (xL0 hLn) (xC231 hLn) hK hP hA (by decide) q0 q1 h114 (fun z a' b' k1 k2 k3 k4 k5 _ => hq z a' b' k1 k2 k3 k4 ⟨by omega, by omega⟩)
theorem vE116 (hLn : Ln ≤ 3072) (hK : kOk (xS a b)) (hP : kP (xS a b)) (hA : xAr a) (q0 : xR v0) : vEn Ln xs 116 xW116 [.ref 0, xV v0] a b := fun Q hq => xe116 (xL0 hLn) (xC116 hLn) hK hP hA (by decide) q0 (fun z a' b' k1 k2 k3 k4 k5 => hq z a' b' k1 k2 k3 k4 ⟨by omega, by omega⟩)
theorem vE232 (hLn : Ln ≤ 3072) (hK : kOk (xS a b)) (hP : kP (xS a b)) (hA : xAr a) (q0 : xR v0) (h114 : 0 ≤ a 88 114 ∧ a 88 114 ≤ 60) : vEn Ln xs 232 xW232 [.ref 87, xV v0] a b := fun Q hq => xe232 (xL0 hLn) (xC232 hLn) hK hP hA (by decide) q0 h114 (fun z a' b' k1 k2 k3 k4 k5 _ => hq z a' b' k1 k2 k3 k4 ⟨by omega, by omega⟩)
theorem vE119 (hLn : Ln ≤ 3072) (hK : kOk (xS a b)) (hP : kP (xS a b)) (hA : xAr a) (q0 : xR v0) : vEn Ln xs 119 xW119 [.ref 0, xV v0] a b := fun Q hq => xe119 (xL0 hLn) (xC119 hLn) hK hP hA (by decide) q0 (fun z a' b' k1 k2 k3 k4 k5 => hq z a' b' k1 k2 k3 k4 ⟨by omega, by omega⟩)
theorem vE236 (hLn : Ln ≤ 3072) (hK : kOk (xS a b)) (hP : kP (xS a b)) (hA : xAr a) (q0 : xR v0) (h114 : 0 ≤ a 88 114 ∧ a 88 114 ≤ 60) : vEn Ln xs 236 xW236 [.ref 87, xV v0] a b := fun Q hq => xe236 (xL0 hLn) (xC236 hLn) hK hP hA (by decide) q0 h114 (fun z a' b' k1 k2 k3 k4 k5 _ => hq z a' b' k1 k2 k3 k4 ⟨by omega, by omega⟩)
theorem vE120 (hLn : Ln ≤ 3072) (hK : kOk (xS a b)) (hP : kP (xS a b)) (hA : xAr a) (q0 : xR v0) (q1 : xR v1) (q2 : xR v2) (q3 : xR v3) : vEn Ln xs 120 xW120 [.ref 0, xV v0, xV v1, xV v2, xV v3] a b := fun Q hq => xe120 (xL0 hLn) (xC120 hLn) hK hP hA (by decide) q0 q1 q2 q3 (fun z a' b' k1 k2 k3 k4 k5 => hq z a' b' k1 k2 k3 k4 ⟨by omega, by omega⟩)
theorem vE237 (hLn : Ln ≤ 3072) (hK : kOk (xS a b)) (hP : kP (xS a b)) (hA : xAr a) (q0 : xR v0) (q1 : xR v1) (q2 : xR v2) (q3 : xR v3) (h114 : 0 ≤ a 88 114 ∧ a 88 114 ≤ 60) : vEn Ln xs 237 xW237 [.ref 87, xV v0, xV v1, xV v2, xV v3] a b := fun Q hq => xe237 (xL0 hLn) (xC237 hLn) hK hP hA (by decide) q0 q1 q2 q3 h114 (fun z a' b' k1 k2 k3 k4 k5 _ => hq z a' b' k1 k2 k3 k4 ⟨by omega, by omega⟩)
theorem vE124 (hLn : Ln ≤ 3072) (hK : kOk (xS a b)) (hP : kP (xS a b)) (hA : xAr a) (q0 : xR v0) : vEn Ln xs 124 xW124 [.ref 0, xV v0] a b := fun Q hq => xe124 (xL0 hLn) (xC124 hLn) hK hP hA (by decide) q0 (fun z a' b' k1 k2 k3 k4 k5 => hq z a' b' k1 k2 k3 k4 ⟨by omega, by omega⟩)
theorem vE239 (hLn : Ln ≤ 3072) (hK : kOk (xS a b)) (hP : kP (xS a b)) (hA : xAr a) (q0 : xR v0) (h114 : 0 ≤ a 88 114 ∧ a 88 114 ≤ 60) : vEn Ln xs 239 xW239 [.ref 87, xV v0] a b := fun Q hq => xe239 (xL0 hLn) (xC239 hLn) hK hP hA (by decide) q0 h114 (fun z a' b' k1 k2 k3 k4 k5 => hq z a' b' k1 k2 k3 k4 ⟨by omega, by omega⟩)
theorem vE127 (hLn : Ln ≤ 3072) (hK : kOk (xS a b)) (hP : kP (xS a b)) (hA : xAr a) (q0 : xR v0) (q1 : xR v1) (q2 : xR v2) : vEn Ln xs 127 xW127 [.ref 0, xV v0, xV v1, xV v2] a b := fun Q hq => xe127 (xL0 hLn) (xC127 hLn) hK hP hA (by decide) q0 q1 q2 (fun z a' b' k1 k2 k3 k4 k5 => hq z a' b' k1 k2 k3 k4 ⟨by omega, by omega⟩)
theorem vE240 (hLn : Ln ≤ 3072) (hK : kOk (xS a b)) (hP : kP (xS a b)) (hA : xAr a) (q0 : xR v0) (q1 : xR v1) (q2 : xR v2) (h114 : 0 ≤ a 88 114 ∧ a 88 114 ≤ 60) : vEn Ln xs 240 xW240 [.ref 87, xV v0, xV v1, xV v2] a b := fun Q hq => xe240 (xL0 hLn) (xC240 hLn) hK hP hA (by decide) q0 q1 q2 h114 (fun z a' b' k1 k2 k3 k4 k5 => hq z a' b' k1 k2 k3 k4 ⟨by omega, by omega⟩)
theorem vE129 (hLn : Ln ≤ 3072) (hK : kOk (xS a b)) (hP : kP (xS a b)) (hA : xAr a) (q0 : xR v0) (q1 : xR v1) : vEn Ln xs 129 xW129 [.ref 0, xV v0, xV v1] a b := fun Q hq => xe129 (xL0 hLn) (xC129 hLn) hK hP hA (by decide) q0 q1 (fun z a' b' k1 k2 k3 k4 k5 => hq z a' b' k1 k2 k3 k4 ⟨by omega, by omega⟩)
theorem vE241 (hLn : Ln ≤ 3072) (hK : kOk (xS a b)) (hP : kP (xS a b)) (hA : xAr a) (q0 : xR v0) (q1 : xR v1) (h114 : 0 ≤ a 88 114 ∧ a 88 114 ≤ 60) : vEn Ln xs 241 xW241 [.ref 87, xV v0, xV v1] a b := fun Q hq => xe241 (xL0 hLn) (xC241 hLn) hK hP hA (by decide) q0 q1 h114 (fun z a' b' k1 k2 k3 k4 k5 => hq z a' b' k1 k2 k3 k4 ⟨by omega, by omega⟩)
theorem vE132 (hLn : Ln ≤ 3072) (hK : kOk (xS a b)) (hP : kP (xS a b)) (hA : xAr a) (q0 : xR v0) : vEn Ln xs 132 xW132 [.ref 0, xV v0] a b := fun Q hq => xe132 (xL0 hLn) (xC132 hLn) hK hP hA (by decide) q0 (fun z a' b' k1 k2 k3 k4 k5 => hq z a' b' k1 k2 k3 k4 ⟨by omega, by omega⟩)
theorem vE243 (hLn : Ln ≤ 3072) (hK : kOk (xS a b)) (hP : kP (xS a b)) (hA : xAr a) (q0 : xR v0) : vEn Ln xs 243 xW243 [.ref 87, xV v0] a b := fun Q hq => xe243 (xL0 hLn) (xC243 hLn) hK hP hA (by decide) q0 (fun z a' b' k1 k2 k3 k4 k5 => hq z a' b' k1 k2 k3 k4 ⟨by omega, by omega⟩)
theorem vE133 (hLn : Ln ≤ 3072) (hK : kOk (xS a b)) (hP : kP (xS a b)) (hA : xAr a) (q0 : xR v0) : vEn Ln xs 133 xW133 [.ref 0, xV v0] a b := fun Q hq => xe133 (xL0 hLn) (xC133 hLn) hK hP hA (by decide) q0 (fun z a' b' k1 k2 k3 k4 k5 => hq z a' b' k1 k2 k3 k4 ⟨by omega, by omega⟩)
theorem vE244 (hLn : Ln ≤ 3072) (hK : kOk (xS a b)) (hP : kP (xS a b)) (hA : xAr a) (q0 : xR v0) : vEn Ln xs 244 xW244 [.ref 87, xV v0] a b := fun Q hq => xe244 (xL0 hLn) (xC244 hLn) hK hP hA (by decide) q0 (fun z a' b' k1 k2 k3 k4 k5 => hq z a' b' k1 k2 k3 k4 ⟨by omega, by omega⟩)
theorem vE134 (hLn : Ln ≤ 3072) (hK : kOk (xS a b)) (hP : kP (xS a b)) (hA : xAr a) (q0 : xR v0) : vEn Ln xs 134 xW134 [.ref 0, xV v0] a b := fun Q hq => xe134 (xL0 hLn) (xC134 hLn) hK hP hA (by decide) q0 (fun z a' b' k1 k2 k3 k4 k5 => hq z a' b' k1 k2 k3 k4 ⟨by omega, by omega⟩)
theorem vE245 (hLn : Ln ≤ 3072) (hK : kOk (xS a b)) (hP : kP (xS a b)) (hA : xAr a) (q0 : xR v0) : vEn Ln xs 245 xW245 [.ref 87, xV v0] a b := fun Q hq => xe245 (xL0 hLn) (xC245 hLn) hK hP hA (by decide) q0 (fun z a' b' k1 k2 k3 k4 k5 => hq z a' b' k1 k2 k3 k4 ⟨by omega, by omega⟩)
end
section
variable {Ln : Nat} {xs : Nat → Int32} {a : xA} {b : xB}
/-- with whether each has begun -/
def zJ (g h : Int) (a : xA) (b : xB) : Prop := kOk (xS a b) ∧ kP (xS a b) ∧ xAr a ∧ (0 ≤ a 88 114 ∧ a 88 114 ≤ 60) ∧ (a 0 12 = g ∧ a 87 4 = h)
theorem zJf {a a' : xA} {b b' : xB} {W : Nat} {g h : Int} (hI : zJ g h a b) (h1 : kOk (xS a' b')) (h2 : kP (xS a' b')) (h3 : xAr a') (hW : kSm W (xS a' b') (xS a b)) (f0 : W.testBit (bRg 88 114) = false) (f1 : W.testBit (bRg 0 12) = false) (f2 : W.testBit (bRg 87 4) = false) : zJ g h a' b' := by
  obtain ⟨i1, i2, i3, i4, i5⟩ := hI
  refine ⟨h1, h2, h3, ?_, ?_⟩
  · rw [(xFr hW h3 i3 (p := 88) (k := 114) (by decide) f0).1]
    exact i4
  · rw [(xFr hW h3 i3 (p := 0) (k := 12) (by decide) f1).1, (xFr hW h3 i3 (p := 87) (k := 4) (by decide) f2).1]
    exact i5
/-- the engine's word on the beginning -/
theorem vE9 (hLn : Ln ≤ 3072) (i1 : kOk (xS a b)) (i2 : kP (xS a b)) (i3 : xAr a) (i4 : 0 ≤ a 88 114 ∧ a 88 114 ≤ 60) (g0 : a 0 12 = 0) (g4 : a 87 4 = 0) : pmCs (pmRo Ln xs) 59 57 [.ref 0] (xS a b) fun _ σ1 => pmCs (pmRo Ln xs) 59 173 [.ref 87] σ1 fun _ σ2 => kOk σ2 ∧ kP σ2 := by
  have key : ∀ a1 b1, zJ 1 0 a1 b1 → pmCs (pmRo Ln xs) 59 173 [.ref 87] (xS a1 b1) fun _ σ2 => kOk σ2 ∧ kP σ2 := by
    intro a1 b1 hJ
    obtain ⟨j1, j2, j3, j4, j5⟩ := id hJ
    refine pmCs_deep (d := 6) (xg173 (w173 j1 j3 (by decide) (fun _ => ?_) (fun e => absurd j5.2 e))) (by decide)
    have hJ2 : zJ 1 1 (xU a1 87 4 1) b1 := ⟨xOk_i j1 (by decide) ⟨by decide, by decide⟩ (by decide +kernel) (xIn1 (lo := 0) (hi := 1) (by decide +kernel) (by decide)), xP_i kP_fr j2 (by decide +kernel) (by decide), xAr_u j3 ⟨by decide, by decide⟩, by rw [xUn (by decide)]; exact j4, ⟨by rw [xUn (by decide)]; exact j5.1, xUa⟩⟩
    refine xe174 (xL0 hLn) (xC174 hLn) hJ2.1 hJ2.2.1 hJ2.2.2.1 (by decide) (fun a2 b2 k1 k2 k3 k4 => ?_)
    have hJ3 : zJ 1 1 a2 b2 := zJf hJ2 k1 k2 k3 k4 (by decide +kernel) (by decide +kernel) (by decide +kernel)
    refine w173_18 k1 k3 (by decide) ?_
    refine xe181d (xL0 hLn) (xC181d hLn) k1 k2 k3 (by decide) (k3 88 114) (fun a3 b3 l1 l2 l3 l4 => ?_)
    have hJ4 : zJ 1 1 a3 b3 := zJf hJ3 l1 l2 l3 l4 (by decide +kernel) (by decide +kernel) (by decide +kernel)
    refine w173_23 l1 l3 (by decide) ?_
    obtain ⟨m1, m2, m3, m4, m5⟩ := hJ4
    exact ⟨m1, m2⟩
  refine pmCs_deep (d := 6) (xg57 (w57 i1 i3 (by decide) (fun e => ?_) (fun e => absurd g0 e))) (by decide)
  · have hJ1 : zJ 1 0 (xU a 0 12 1) b := ⟨xOk_i i1 (by decide) ⟨by decide, by decide⟩ (by decide +kernel) (xIn1 (lo := 0) (hi := 1) (by decide +kernel) (by decide)), xP_i kP_fr i2 (by decide +kernel) (by decide), xAr_u i3 ⟨by decide, by decide⟩, by rw [xUn (by decide)]; exact i4, ⟨xUa, by rw [xUn (by decide)]; exact g4⟩⟩
    refine xe58 (xL0 hLn) (xC58 hLn) hJ1.1 hJ1.2.1 hJ1.2.2.1 (by decide) (fun a1 b1 k1 k2 k3 k4 => ?_)
    have hJ2 : zJ 1 0 a1 b1 := zJf hJ1 k1 k2 k3 k4 (by decide +kernel) (by decide +kernel) (by decide +kernel)
    refine w57_21 k1 k3 (by decide) ?_
    refine xe59 (xL0 hLn) (xC59 hLn) k1 k2 k3 (by decide) (by decide) (fun a2 b2 l1 l2 l3 l4 => ?_)
    have hJ3 : zJ 1 0 a2 b2 := zJf hJ2 l1 l2 l3 l4 (by decide +kernel) (by decide +kernel) (by decide +kernel)
    refine w57_32 l1 l3 (by decide) ?_
    refine pmCs_deep (d := 4) (xg65 (w65 l1 l3 ?_)) (by decide)
    refine xe66 (xL0 hLn) (xC66 hLn) l1 l2 l3 (by decide) (by decide) (by decide) (fun a3 b3 m1 m2 m3 m4 => ?_)
    have hJ4 : zJ 1 0 a3 b3 := zJf hJ3 m1 m2 m3 m4 (by decide +kernel) (by decide +kernel) (by decide +kernel)
    refine w65_8 m1 m3 ?_
    refine w57_43 m1 m3 (by decide) ?_
    exact key a3 b3 hJ4
end
section
variable {Ln : Nat} {xs : Nat → Int32}
theorem vS0 (hLn : Ln ≤ 3072) : ∀ v0 : Int, xR v0 → ∀ v1 : Int, xR v1 → ∀ a b, vInv a b → vStep (pmRo Ln xs) 59 13 [.ref 0, xV v0, xV v1] 137 [.ref 87, xV v0, xV v1] vInv (fun z z' => z = z') a b := by
  intro v0 h0 v1 h1 a b hI
  have hI0 := hI
  obtain ⟨⟨hK, hP⟩, hA, hq, ht, hp | hb⟩ := hI
  · exact vJx (vB13 ⟨⟨hp, ht⟩, hK, hP⟩ h0 h1 (by decide)) (fun a2 b2 h => vInv_p h.1 h.2.1 h.2.2)
  · obtain ⟨dr, wp, co, pr, cnt, W, T, n, a0, R, hg⟩ := hb
    have c6 : a 0 12 = 1 := hg.2.1.2.2.2.2.2
    have s6 : a 87 4 = 1 := hg.2.2.1.2.2.2.2.2
    have hn : a 3 5 = n := hg.2.1.1.1.2.1.2.2.1
    have hn0 : 0 ≤ n ∧ n ≤ 5 := hg.1.1
    have hn2 : a 87 2 = n := hg.2.2.1.1.1.2.1.2.1
    exact vU hI0 0 (fun Q h => pmCs_deep (d := 4) (xg13 (wb13 h0 h1 c6 (Or.inr rfl) (by decide) (fun _ => h) (fun e => absurd e (by decide)) (fun e => absurd e (by decide)) (fun e => absurd e (by decide)) (fun e => absurd e (by decide)) (fun e => absurd e (by decide)))) (by decide)) (fun Q h => pmCs_deep (d := 4) (xg137 (wb137 h0 h1 hA hn2 hn0 s6 (Or.inr rfl) (by decide) (fun _ => h) (fun e => absurd e (by decide)) (fun e => absurd e (by decide)) (fun e => absurd e (by decide)) (fun e => absurd e (by decide)) (fun e => absurd e (by decide)))) (by decide))
theorem vS1 (hLn : Ln ≤ 3072) : ∀ v0 : Int, xR v0 → ∀ v1 : Int, xR v1 → ∀ a b, vInv a b → vStep (pmRo Ln xs) 59 17 [.ref 0, xV v0, xV v1] 139 [.ref 87, xV v0, xV v1] vInv (fun z z' => z = z') a b := by
  intro v0 h0 v1 h1 a b hI
  have hI0 := hI
  obtain ⟨⟨hK, hP⟩, hA, hq, ht, hp | hb⟩ := hI
  · exact vJx (vB17 ⟨⟨hp, ht⟩, hK, hP⟩ h0 h1 (by decide)) (fun a2 b2 h => vInv_p h.1 h.2.1 h.2.2)
  · obtain ⟨dr, wp, co, pr, cnt, W, T, n, a0, R, hg⟩ := hb
    have c6 : a 0 12 = 1 := hg.2.1.2.2.2.2.2
    have s6 : a 87 4 = 1 := hg.2.2.1.2.2.2.2.2
    have hn : a 3 5 = n := hg.2.1.1.1.2.1.2.2.1
    have hn0 : 0 ≤ n ∧ n ≤ 5 := hg.1.1
    have hn2 : a 87 2 = n := hg.2.2.1.1.1.2.1.2.1
    exact vU hI0 0 (fun Q h => pmCs_deep (d := 4) (xg17 (wb17 h0 h1 c6 (Or.inr rfl) (by decide) (fun _ => h) (fun e => absurd e (by decide)) (fun e => absurd e (by decide)) (fun e => absurd e (by decide)))) (by decide)) (fun Q h => pmCs_deep (d := 4) (xg139 (wb139 h0 h1 hA hn2 hn0 s6 (Or.inr rfl) (by decide) (fun _ => h) (fun e => absurd e (by decide)) (fun e => absurd e (by decide)) (fun e => absurd e (by decide)))) (by decide))
theorem vS2 (hLn : Ln ≤ 3072) : ∀ v0 : Int, xR v0 → ∀ v1 : Int, (v1 = 0 ∨ v1 = 1) → ∀ a b, vInv a b → vStep (pmRo Ln xs) 59 20 [.ref 0, xV v0, xV v1] 141 [.ref 87, xV v0, xV v1] vInv (fun z z' => z = z') a b := by
  intro v0 h0 v1 h1 a b hI
  have hI0 := hI
  obtain ⟨⟨hK, hP⟩, hA, hq, ht, hp | hb⟩ := hI
  · exact vJo (vE20 hLn hK hP hA h0 h1) (fun a1 b1 k1 k2 k3 k4 => vE141 hLn k1 k2 k3 h0 h1) (vB20 ⟨hp, ht⟩ h0 (by omega) (by decide)) (fun a1 b1 a2 b2 _ _ _ q1 q2 hi => vInv_p hi q1 q2)
  · obtain ⟨dr, wp, co, pr, cnt, W, T, n, a0, R, hg⟩ := hb
    have c6 : a 0 12 = 1 := hg.2.1.2.2.2.2.2
    have s6 : a 87 4 = 1 := hg.2.2.1.2.2.2.2.2
    have hn : a 3 5 = n := hg.2.1.1.1.2.1.2.2.1
    have hn0 : 0 ≤ n ∧ n ≤ 5 := hg.1.1
    have hn2 : a 87 2 = n := hg.2.2.1.1.1.2.1.2.1
    exact vU hI0 (-1) (fun Q h => pmCs_deep (d := 4) (xg20 (wr20 h0 (by omega) hn hn0 c6 (by decide) (fun _ => h) (fun _ _ => h) (fun _ _ => h))) (by decide)) (fun Q h => pmCs_deep (d := 4) (xg141 (wb141 h0 (by omega) hA hn2 hn0 s6 (Or.inr rfl) (by decide) (fun _ => h) (fun e => absurd e (by decide)) (fun e => absurd e (by decide)) (fun e => absurd e (by decide)) (fun e => absurd e (by decide)))) (by decide))
theorem vS3 (hLn : Ln ≤ 3072) : ∀ v0 : Int, xR v0 → ∀ v1 : Int, (v1 = 0 ∨ v1 = 1) → ∀ a b, vInv a b → vStep (pmRo Ln xs) 59 23 [.ref 0, xV v0, xV v1] 142 [.ref 87, xV v0, xV v1] vInv (fun z z' => z = z') a b := by
  intro v0 h0 v1 h1 a b hI
  have hI0 := hI
  obtain ⟨⟨hK, hP⟩, hA, hq, ht, hp | hb⟩ := hI
  · exact vJo (vE23 hLn hK hP hA h0 h1) (fun a1 b1 k1 k2 k3 k4 => vE142 hLn k1 k2 k3 h0 h1) (vB23 ⟨hp, ht⟩ h0 (by omega) (by decide)) (fun a1 b1 a2 b2 _ _ _ q1 q2 hi => vInv_p hi q1 q2)
  · obtain ⟨dr, wp, co, pr, cnt, W, T, n, a0, R, hg⟩ := hb
    have c6 : a 0 12 = 1 := hg.2.1.2.2.2.2.2
    have s6 : a 87 4 = 1 := hg.2.2.1.2.2.2.2.2
    have hn : a 3 5 = n := hg.2.1.1.1.2.1.2.2.1
    have hn0 : 0 ≤ n ∧ n ≤ 5 := hg.1.1
    have hn2 : a 87 2 = n := hg.2.2.1.1.1.2.1.2.1
    exact vU hI0 (-1) (fun Q h => pmCs_deep (d := 4) (xg23 (wr23 h0 (by omega) hn hn0 c6 (by decide) (fun _ => h) (fun _ _ => h) (fun _ _ _ => h) (fun _ _ _ => h))) (by decide)) (fun Q h => pmCs_deep (d := 4) (xg142 (wb142 h0 (by omega) hA hn2 hn0 s6 (Or.inr rfl) (by decide) (fun _ => h) (fun e => absurd e (by decide)) (fun e => absurd e (by decide)) (fun e => absurd e (by decide)) (fun e => absurd e (by decide)))) (by decide))
theorem vS4 (hLn : Ln ≤ 3072) : ∀ v0 : Int, xR v0 → ∀ v1 : Int, (v1 = 0 ∨ v1 = 1) → ∀ v2 : Int, xR v2 → ∀ v3 : Int, xR v3 → ∀ a b, vInv a b → vStep (pmRo Ln xs) 59 25 [.ref 0, xV v0, xV v1, xV v2, xV v3] 145 [.ref 87, xV v0, xV v1, xV v2, xV v3] vInv (fun z z' => z = z') a b := by
  intro v0 h0 v1 h1 v2 h2 v3 h3 a b hI
  have hI0 := hI
  obtain ⟨⟨hK, hP⟩, hA, hq, ht, hp | hb⟩ := hI
  · exact vJo (vE25 hLn hK hP hA h0 h1 h2 h3) (fun a1 b1 k1 k2 k3 k4 => vE145 hLn k1 k2 k3 h0 h1 h2 h3) (vB25 ⟨hp, ht⟩ h0 h1 h2 h3 (by decide)) (fun a1 b1 a2 b2 _ _ _ q1 q2 hi => vInv_p hi q1 q2)
  · obtain ⟨dr, wp, co, pr, cnt, W, T, n, a0, R, hg⟩ := hb
    have c6 : a 0 12 = 1 := hg.2.1.2.2.2.2.2
    have s6 : a 87 4 = 1 := hg.2.2.1.2.2.2.2.2
    have hn : a 3 5 = n := hg.2.1.1.1.2.1.2.2.1
    have hn0 : 0 ≤ n ∧ n ≤ 5 := hg.1.1
    have hn2 : a 87 2 = n := hg.2.2.1.1.1.2.1.2.1
    exact vU hI0 0 (fun Q h => pmCs_deep (d := 4) (xg25 (wb25 h0 h1 h2 h3 c6 (Or.inr rfl) (by decide) (fun _ => h) (fun e => absurd e (by decide)) (fun e => absurd e (by decide)))) (by decide)) (fun Q h => pmCs_deep (d := 4) (xg145 (wb145 h0 h1 h2 h3 hA hn2 hn0 s6 (Or.inr rfl) (by decide) (fun _ => h) (fun e => absurd e (by decide)) (fun e => absurd e (by decide)) (fun e => absurd e (by decide)) (fun e => absurd e (by decide)) (fun e => absurd e (by decide)) (fun e => absurd e (by decide)) (fun e => absurd e (by decide)) (fun e => absurd e (by decide)) (fun e => absurd e (by decide)) (fun e => absurd e (by decide)) (fun e => absurd e (by decide)) (fun e => absurd e (by decide)) (fun e => absurd e (by decide)) (fun e => absurd e (by decide)))) (by decide))
theorem vS5 (hLn : Ln ≤ 3072) : ∀ v0 : Int, xR v0 → ∀ v1 : Int, xR v1 → ∀ a b, vInv a b → vStep (pmRo Ln xs) 59 28 [.ref 0, xV v0, xV v1] 150 [.ref 87, xV v0, xV v1] vInv (fun z z' => z = z') a b := by
  intro v0 h0 v1 h1 a b hI
  have hI0 := hI
  obtain ⟨⟨hK, hP⟩, hA, hq, ht, hp | hb⟩ := hI
  · exact vJo (vE28 hLn hK hP hA h0 h1) (fun a1 b1 k1 k2 k3 k4 => vE150 hLn k1 k2 k3 h0 h1) (vB28 ⟨hp, ht⟩ h0 h1 (by decide)) (fun a1 b1 a2 b2 _ _ _ q1 q2 hi => vInv_p hi q1 q2)
  · obtain ⟨dr, wp, co, pr, cnt, W, T, n, a0, R, hg⟩ := hb
    have c6 : a 0 12 = 1 := hg.2.1.2.2.2.2.2
    have s6 : a 87 4 = 1 := hg.2.2.1.2.2.2.2.2
    have hn : a 3 5 = n := hg.2.1.1.1.2.1.2.2.1
    have hn0 : 0 ≤ n ∧ n ≤ 5 := hg.1.1
    have hn2 : a 87 2 = n := hg.2.2.1.1.1.2.1.2.1
    exact vU hI0 0 (fun Q h => pmCs_deep (d := 4) (xg28 (wb28 h0 h1 c6 (Or.inr rfl) (by decide) (fun _ => h) (fun e => absurd e (by decide)) (fun e => absurd e (by decide)) (fun e => absurd e (by decide)) (fun e => absurd e (by decide)) (fun e => absurd e (by decide)))) (by decide)) (fun Q h => pmCs_deep (d := 4) (xg150 (wb150 h0 h1 hA hn2 hn0 s6 (Or.inr rfl) (by decide) (fun _ => h) (fun e => absurd e (by decide)) (fun e => absurd e (by decide)) (fun e => absurd e (by decide)))) (by decide))
theorem vS6 (hLn : Ln ≤ 3072) : ∀ v0 : Int, xR v0 → ∀ v1 : Int, xR v1 → ∀ v2 : Int, xR v2 → ∀ v3 : Int, xR v3 → ∀ v4 : Int, xR v4 → ∀ a b, vInv a b → vStep (pmRo Ln xs) 59 29 [.ref 0, xV v0, xV v1, xV v2, xV v3, xV v4] 151 [.ref 87, xV v0, xV v1, xV v2, xV v3, xV v4] vInv (fun z z' => z = z') a b := by
  intro v0 h0 v1 h1 v2 h2 v3 h3 v4 h4 a b hI
  have hI0 := hI
  obtain ⟨⟨hK, hP⟩, hA, hq, ht, hp | hb⟩ := hI
  · refine vJo (vE29 hLn hK hP hA h0 h1 h2 h3 h4) (fun a1 b1 k1 k2 k3 k4 => vE151 hLn k1 k2 k3 h0 h1 h2 h3 h4) (vB29 (I := vPz) hA ht h0 h1 h2 h3 h4 (by decide) (fun a' A' t' fr => ?_)) (fun a1 b1 a2 b2 _ _ _ q1 q2 hi => vInv_p hi q1 q2)
    obtain ⟨T, hT⟩ := hp.2.2.2.2.2.2.2
    exact ⟨vPre_f hp A' (fun q j e1 e2 e3 e4 e5 e6 _ => fr q j e2 (fun e => e1 e.1) (by omega) (by omega)) (vPl_o hp.2.2.2.2.2.2.1 (fun q j hq => fr q j (by omega) (by omega) (by omega) (by omega))) ⟨T, vPg_o hT (fun q j hq => fr q j (by omega) (by omega) (by omega) (by omega))⟩, t'⟩
  · obtain ⟨dr, wp, co, pr, cnt, W, T, n, a0, R, hg⟩ := hb
    exact vJo (vE29 hLn hK hP hA h0 h1 h2 h3 h4) (fun a1 b1 k1 k2 k3 k4 => vE151 hLn k1 k2 k3 h0 h1 h2 h3 h4) (vB29 (I := vBq) hA ht h0 h1 h2 h3 h4 (by decide) (fun a' A' t' fr => ⟨⟨dr, wp, co, pr, cnt, W, T, n, a0, R, uBg_f hg A' (fun q j e1 e2 e3 => fr q j (fun e => e1 (Or.inl e)) (fun e => e2 e.1) (fun e => e1 (Or.inr e)) e3)⟩, t', vQ_o hq (fun q j hq => fr q j (by omega) (by omega) (by omega) (by omega))⟩)) (fun a1 b1 a2 b2 _ _ _ q1 q2 hi => vInv_b hi.1 q1 q2 hi.2.2 hi.2.1)
theorem vS7 (hLn : Ln ≤ 3072) : ∀ v0 : Int, xR v0 → ∀ v1 : Int, xR v1 → ∀ v2 : Int, xR v2 → ∀ a b, vInv a b → vStep (pmRo Ln xs) 59 31 [.ref 0, xV v0, xV v1, xV v2] 153 [.ref 87, xV v0, xV v1, xV v2] vInv (fun z z' => z = z') a b := by
  intro v0 h0 v1 h1 v2 h2 a b hI
  have hI0 := hI
  obtain ⟨⟨hK, hP⟩, hA, hq, ht, hp | hb⟩ := hI
  · exact vJo (vE31 hLn hK hP hA h0 h1 h2) (fun a1 b1 k1 k2 k3 k4 => vE153 hLn k1 k2 k3 h0 h1 h2) (vB31 ⟨hp, ht⟩ (fun j hj => xt2 hK hA hj) (fun i hi => xt11 hK hA hi) (fun i hi => xt12 hK hA hi) (fun i hi => xt96 hK hA hi) h0 h1 h2 (by decide)) (fun a1 b1 a2 b2 _ _ _ q1 q2 hi => vInv_p hi q1 q2)
  · obtain ⟨dr, wp, co, pr, cnt, W, T, n, a0, R, hg⟩ := hb
    have c6 : a 0 12 = 1 := hg.2.1.2.2.2.2.2
    have s6 : a 87 4 = 1 := hg.2.2.1.2.2.2.2.2
    have hn : a 3 5 = n := hg.2.1.1.1.2.1.2.2.1
    have hn0 : 0 ≤ n ∧ n ≤ 5 := hg.1.1
    have hn2 : a 87 2 = n := hg.2.2.1.1.1.2.1.2.1
    refine vU hI0 (-1) (fun Q h => pmCs_deep (d := 3) (xg31 (w31 h0 h1 h2 c6 rfl (by decide) (xt1_1 hK hA) hA (by decide) ?_ ?_ ?_ ?_ ?_ ?_ ?_ ?_ ?_ ?_ ?_ ?_ ?_ ?_)) (by decide)) (fun Q h => pmCs_deep (d := 3) (xg153 (w153 h0 h1 h2 s6 rfl (by decide) (xt87_9 hK hA) hA (by decide) ?_ ?_ ?_ ?_ ?_ ?_ ?_)) (by decide))
    all_goals (
      (try unfold xK)
      intros
      first
        | (exfalso; omega)
        | exact h)
theorem vS8 (hLn : Ln ≤ 3072) : ∀ v0 : Int, xR v0 → ∀ a b, vInv a b → vStep (pmRo Ln xs) 59 47 [.ref 0, xV v0] 166 [.ref 87, xV v0] vInv (fun z z' => z = z') a b := by
  intro v0 h0 a b hI
  have hI0 := hI
  obtain ⟨⟨hK, hP⟩, hA, hq, ht, hp | hb⟩ := hI
  · exact vJo (vE47 hLn hK hP hA h0) (fun a1 b1 k1 k2 k3 k4 => vE166 hLn k1 k2 k3 h0) (vB47 ⟨hp, ht⟩ (fun j hj => xt2 hK hA hj) (xt13_7 hK hA) h0 (by decide)) (fun a1 b1 a2 b2 _ _ _ q1 q2 hi => vInv_p hi q1 q2)
  · obtain ⟨dr, wp, co, pr, cnt, W, T, n, a0, R, hg⟩ := hb
    have c6 : a 0 12 = 1 := hg.2.1.2.2.2.2.2
    have s6 : a 87 4 = 1 := hg.2.2.1.2.2.2.2.2
    have hn : a 3 5 = n := hg.2.1.1.1.2.1.2.2.1
    have hn0 : 0 ≤ n ∧ n ≤ 5 := hg.1.1
    have hn2 : a 87 2 = n := hg.2.2.1.1.1.2.1.2.1
    refine vU hI0 (-1) (fun Q h => pmCs_deep (d := 3) (xg47 (w47 h0 c6 rfl rfl (by decide) (xt13_7 hK hA) (xt1_1 hK hA) ?_ ?_ ?_ ?_ ?_ ?_)) (by decide)) (fun Q h => pmCs_deep (d := 6) (xg166 (w166 h0 rfl rfl s6 (xt87_3 hK hA) (xt87_9 hK hA) (by decide) (by decide) ?_ ?_ ?_ ?_ ?_)) (by decide))
    all_goals (
      intros
      first
        | (exfalso; omega)
        | exact h)
theorem vS9 (hLn : Ln ≤ 3072) : ∀ a b, vInv a b → vStep (pmRo Ln xs) 59 57 [.ref 0] 173 [.ref 87] vInv (fun z z' => z = z') a b := by
  intro  a b hI
  have hI0 := hI
  obtain ⟨⟨hK, hP⟩, hA, hq, ht, hp | hb⟩ := hI
  · have hE := vE9 (xs := xs) hLn hK hP hA (vInv_114 hI0) hp.1.1 hp.1.2
    have hB := vB57 (Ln := Ln) (xs := xs) (d := 59) ⟨hp, ht⟩ (vTb_k hK hA) (by decide) (fun r s => ∃ z a' b', r = some (xV z) ∧ s = xS a' b' ∧ ∀ Q2 : Option Value → pmS → Prop, (∀ a'' b'', vBq a'' b'' → Q2 (some (xV z)) (xS a'' b'')) → pmCs (pmRo Ln xs) 59 173 [.ref 87] (xS a' b') Q2) (fun z a' b' hk => ⟨z, a', b', rfl, rfl, hk⟩)
    refine pmCs_mono (pmCs_deep (pmCs_and hE hB) (by decide)) ?_
    rintro r s ⟨hE2, z, a', b', rfl, rfl, hk⟩
    obtain ⟨g1, g2⟩ := vXV z
    refine ⟨_, a', b', by rw [g2], g1, rfl, ?_⟩
    refine pmCs_mono (pmCs_deep (pmCs_and hE2 (hk (fun r' σ2 => ∃ a'' b'', r' = some (xV z) ∧ σ2 = xS a'' b'' ∧ vBq a'' b'') (fun a'' b'' h => ⟨a'', b'', rfl, rfl, h⟩))) (by decide)) ?_
    rintro r' σ2 ⟨⟨q1, q2⟩, a2, b2, e1, e2, hI⟩
    rw [e2] at q1 q2
    exact ⟨_, a2, b2, by rw [g2]; exact e1, g1, e2, vInv_b hI.1 q1 q2 hI.2.2 hI.2.1, rfl⟩
  · obtain ⟨dr, wp, co, pr, cnt, W, T, n, a0, R, hg⟩ := hb
    have c6 : a 0 12 = 1 := hg.2.1.2.2.2.2.2
    have s6 : a 87 4 = 1 := hg.2.2.1.2.2.2.2.2
    have hn : a 3 5 = n := hg.2.1.1.1.2.1.2.2.1
    have hn0 : 0 ≤ n ∧ n ≤ 5 := hg.1.1
    have hn2 : a 87 2 = n := hg.2.2.1.1.1.2.1.2.1
    exact vU hI0 0 (fun Q h => pmCs_deep (d := 6) (xg57 (wb57 (by omega) (fun e => absurd e (by omega)) (fun _ => h))) (by decide)) (fun Q h => pmCs_deep (d := 6) (xg173 (wb173 (by omega) (fun e => absurd e (by omega)) (fun _ => h))) (by decide))
theorem vS10 (hLn : Ln ≤ 3072) : ∀ v0 : Int, xR v0 → ∀ v1 : Int, (v1 = 0 ∨ v1 = 1) → ∀ v2 : Int, xR v2 → ∀ a b, vInv a b → vStep (pmRo Ln xs) 59 68 [.ref 0, xV v0, xV v1, xV v2] 182 [.ref 87, xV v0, xV v1, xV v2] vInv (fun z z' => z = z') a b := by
  intro v0 h0 v1 h1 v2 h2 a b hI
  have hI0 := hI
  obtain ⟨⟨hK, hP⟩, hA, hq, ht, hp | hb⟩ := hI
  · exact vJo (vE68 hLn hK hP hA h0 h1 h2) (fun a1 b1 k1 k2 k3 k4 => vE182 hLn k1 k2 k3 h0 h1 h2) (vN68 ⟨hp, ht⟩ h0 h1 h2 (by decide)) (fun a1 b1 a2 b2 _ _ _ q1 q2 hi => vInv_p hi q1 q2)
  · obtain ⟨dr, wp, co, pr, cnt, W, T, n, a0, R, hg⟩ := hb
    exact vJo (vE68 hLn hK hP hA h0 h1 h2) (fun a1 b1 k1 k2 k3 k4 => vE182 hLn k1 k2 k3 h0 h1 h2) (uB68 hg h0 h1 h2 (by decide)) (fun a1 b1 a2 b2 g1 g2 g3 q1 q2 hi => vInv_m hI0 g1 g2 g3 (by decide +kernel) (by decide +kernel) (by decide +kernel) (by decide +kernel) q1 q2 ⟨dr, wp, co, pr, cnt, W, T, n, a0, R, hi⟩)
theorem vS11 (hLn : Ln ≤ 3072) : ∀ v0 : Int, xR v0 → ∀ v1 : Int, xR v1 → ∀ a b, vInv a b → vStep (pmRo Ln xs) 59 70 [.ref 0, xV v0, xV v1] 183 [.ref 87, xV v0, xV v1] vInv (fun z z' => z = z') a b := by
  intro v0 h0 v1 h1 a b hI
  have hI0 := hI
  obtain ⟨⟨hK, hP⟩, hA, hq, ht, hp | hb⟩ := hI
  · exact vJo (vE70 hLn hK hP hA h0 h1) (fun a1 b1 k1 k2 k3 k4 => vE183 hLn k1 k2 k3 h0 h1) (vN70 ⟨hp, ht⟩ h0 h1 (by decide)) (fun a1 b1 a2 b2 _ _ _ q1 q2 hi => vInv_p hi q1 q2)
  · obtain ⟨dr, wp, co, pr, cnt, W, T, n, a0, R, hg⟩ := hb
    exact vJo (vE70 hLn hK hP hA h0 h1) (fun a1 b1 k1 k2 k3 k4 => vE183 hLn k1 k2 k3 h0 h1) (uB70 hg h0 h1 (by decide)) (fun a1 b1 a2 b2 g1 g2 g3 q1 q2 hi => vInv_m hI0 g1 g2 g3 (by decide +kernel) (by decide +kernel) (by decide +kernel) (by decide +kernel) q1 q2 ⟨dr, wp, co, pr, cnt, W, T, n, a0, R, hi⟩)
theorem vS12 (hLn : Ln ≤ 3072) : ∀ v0 : Int, xR v0 → ∀ v1 : Int, xR v1 → ∀ v2 : Int, xR v2 → ∀ a b, vInv a b → vStep (pmRo Ln xs) 59 76 [.ref 0, xV v0, xV v1, xV v2] 189 [.ref 87, xV v0, xV v1, xV v2] vInv (fun z z' => z = z') a b := by
  intro v0 h0 v1 h1 v2 h2 a b hI
  have hI0 := hI
  obtain ⟨⟨hK, hP⟩, hA, hq, ht, hp | hb⟩ := hI
  · exact vJo (vE76 hLn hK hP hA h0 h1 h2) (fun a1 b1 k1 k2 k3 k4 => vE189 hLn k1 k2 k3 h0 h1 h2) (vN76 ⟨hp, ht⟩ h0 h1 (by decide)) (fun a1 b1 a2 b2 _ _ _ q1 q2 hi => vInv_p hi q1 q2)
  · obtain ⟨dr, wp, co, pr, cnt, W, T, n, a0, R, hg⟩ := hb
    exact vJo (vE76 hLn hK hP hA h0 h1 h2) (fun a1 b1 k1 k2 k3 k4 => vE189 hLn k1 k2 k3 h0 h1 h2) (uB76 hg h0 h1 h2 (by decide)) (fun a1 b1 a2 b2 g1 g2 g3 q1 q2 hi => vInv_m hI0 g1 g2 g3 (by decide +kernel) (by decide +kernel) (by decide +kernel) (by decide +kernel) q1 q2 ⟨dr, wp, co, pr, cnt, W, T, n, a0, R, hi⟩)
theorem vS13 (hLn : Ln ≤ 3072) : ∀ v0 : Int, xR v0 → ∀ a b, vInv a b → vStep (pmRo Ln xs) 59 84 [.ref 0, xV v0] 197 [.ref 87, xV v0] vInv (fun z z' => z = z') a b := by
  intro v0 h0 a b hI
  have hI0 := hI
  obtain ⟨⟨hK, hP⟩, hA, hq, ht, hp | hb⟩ := hI
  · exact vJo (vE84 hLn hK hP hA h0) (fun a1 b1 k1 k2 k3 k4 => vE197 hLn k1 k2 k3 h0) (vN84 ⟨hp, ht⟩ h0 (by decide)) (fun a1 b1 a2 b2 _ _ _ q1 q2 hi => vInv_p hi q1 q2)
  · obtain ⟨dr, wp, co, pr, cnt, W, T, n, a0, R, hg⟩ := hb
    exact vJo (vE84 hLn hK hP hA h0) (fun a1 b1 k1 k2 k3 k4 => vE197 hLn k1 k2 k3 h0) (uB84 hg h0 (by decide)) (fun a1 b1 a2 b2 g1 g2 g3 q1 q2 hi => vInv_m hI0 g1 g2 g3 (by decide +kernel) (by decide +kernel) (by decide +kernel) (by decide +kernel) q1 q2 ⟨dr, wp, co, pr, cnt, W, T, n, a0, R, hi⟩)
theorem vS14 (hLn : Ln ≤ 3072) : ∀ v0 : Int, xR v0 → ∀ v1 : Int, xR v1 → ∀ v2 : Int, xR v2 → ∀ a b, vInv a b → vStep (pmRo Ln xs) 59 87 [.ref 0, xV v0, xV v1, xV v2] 204 [.ref 87, xV v0, xV v1, xV v2] vInv (fun z z' => z = z') a b := by
  intro v0 h0 v1 h1 v2 h2 a b hI
  have hI0 := hI
  obtain ⟨⟨hK, hP⟩, hA, hq, ht, hp | hb⟩ := hI
  · exact vJo (vE87 hLn hK hP hA h0 h1 h2) (fun a1 b1 k1 k2 k3 k4 => vE204 hLn k1 k2 k3 h0 h1 h2 (by rw [(xFr k4 k3 hA (p := 88) (k := 114) (by decide) (by decide +kernel)).1]; exact vInv_114 hI0)) (vN87 ⟨hp, ht⟩ h0 h1 h2 (by decide)) (fun a1 b1 a2 b2 _ _ _ q1 q2 hi => vInv_p hi q1 q2)
  · obtain ⟨dr, wp, co, pr, cnt, W, T, n, a0, R, hg⟩ := hb
    exact vJo (vE87 hLn hK hP hA h0 h1 h2) (fun a1 b1 k1 k2 k3 k4 => vE204 hLn k1 k2 k3 h0 h1 h2 (by rw [(xFr k4 k3 hA (p := 88) (k := 114) (by decide) (by decide +kernel)).1]; exact vInv_114 hI0)) (uB87 hg h0 h1 h2 (by decide)) (fun a1 b1 a2 b2 g1 g2 g3 q1 q2 hi => vInv_m hI0 g1 g2 g3 (by decide +kernel) (by decide +kernel) (by decide +kernel) (by decide +kernel) q1 q2 ⟨dr, wp, co, pr, cnt, W, T, n, a0, R, hi⟩)
theorem vS15 (hLn : Ln ≤ 3072) : ∀ v0 : Int, xR v0 → ∀ v1 : Int, xR v1 → ∀ a b, vInv a b → vStep (pmRo Ln xs) 59 100 [.ref 0, xV v0, xV v1] 215 [.ref 87, xV v0, xV v1] vInv (fun z z' => z = z') a b := by
  intro v0 h0 v1 h1 a b hI
  have hI0 := hI
  obtain ⟨⟨hK, hP⟩, hA, hq, ht, hp | hb⟩ := hI
  · exact vJo (vE100 hLn hK hP hA h0 h1) (fun a1 b1 k1 k2 k3 k4 => vE215 hLn k1 k2 k3 h0 h1 (by rw [(xFr k4 k3 hA (p := 88) (k := 114) (by decide) (by decide +kernel)).1]; exact vInv_114 hI0)) (vN100 ⟨hp, ht⟩ h0 h1 (by decide)) (fun a1 b1 a2 b2 _ _ _ q1 q2 hi => vInv_p hi q1 q2)
  · obtain ⟨dr, wp, co, pr, cnt, W, T, n, a0, R, hg⟩ := hb
    exact vJo (vE100 hLn hK hP hA h0 h1) (fun a1 b1 k1 k2 k3 k4 => vE215 hLn k1 k2 k3 h0 h1 (by rw [(xFr k4 k3 hA (p := 88) (k := 114) (by decide) (by decide +kernel)).1]; exact vInv_114 hI0)) (uB100 hg h0 h1 (by decide)) (fun a1 b1 a2 b2 g1 g2 g3 q1 q2 hi => vInv_m hI0 g1 g2 g3 (by decide +kernel) (by decide +kernel) (by decide +kernel) (by decide +kernel) q1 q2 ⟨dr, wp, co, pr, cnt, W, T, n, a0, R, hi⟩)
theorem vS16 (hLn : Ln ≤ 3072) : ∀ v0 : Int, xR v0 → ∀ v1 : Int, xR v1 → ∀ a b, vInv a b → vStep (pmRo Ln xs) 59 106 [.ref 0, xV v0, xV v1] 222 [.ref 87, xV v0, xV v1] vInv (fun z z' => z = z') a b := by
  intro v0 h0 v1 h1 a b hI
  have hI0 := hI
  obtain ⟨⟨hK, hP⟩, hA, hq, ht, hp | hb⟩ := hI
  · exact vJo (vE106 hLn hK hP hA h0 h1) (fun a1 b1 k1 k2 k3 k4 => vE222 hLn k1 k2 k3 h0 h1 (by rw [(xFr k4 k3 hA (p := 88) (k := 114) (by decide) (by decide +kernel)).1]; exact vInv_114 hI0)) (vN106 ⟨hp, ht⟩ h0 h1 (by decide)) (fun a1 b1 a2 b2 _ _ _ q1 q2 hi => vInv_p hi q1 q2)
  · obtain ⟨dr, wp, co, pr, cnt, W, T, n, a0, R, hg⟩ := hb
    exact vJo (vE106 hLn hK hP hA h0 h1) (fun a1 b1 k1 k2 k3 k4 => vE222 hLn k1 k2 k3 h0 h1 (by rw [(xFr k4 k3 hA (p := 88) (k := 114) (by decide) (by decide +kernel)).1]; exact vInv_114 hI0)) (uB106 hg h0 h1 (by decide)) (fun a1 b1 a2 b2 g1 g2 g3 q1 q2 hi => vInv_m hI0 g1 g2 g3 (by decide +kernel) (by decide +kernel) (by decide +kernel) (by decide +kernel) q1 q2 ⟨dr, wp, co, pr, cnt, W, T, n, a0, R, hi⟩)
theorem vS17 (hLn : Ln ≤ 3072) : ∀ v0 : Int, xR v0 → ∀ a b, vInv a b → vStep (pmRo Ln xs) 59 107 [.ref 0, xV v0] 201 [.ref 87, xV v0] vInv (fun _ _ => True) a b := by
  intro v0 h0 a b hI
  obtain ⟨⟨hK, hP⟩, hA, _⟩ := id hI
  refine xe107 (xL0 hLn) (xC107 hLn) hK hP hA (by decide) h0 (fun z1 a1 b1 k1 k2 k3 k4 k5 => ⟨z1, a, b, rfl, ⟨by omega, by omega⟩, vSm k1 k4, ?_⟩)
  exact xe201 (xL0 hLn) (xC201 hLn) hK hP hA (by decide) h0 (fun z2 a2 b2 l1 l2 l3 l4 l5 => ⟨z2, a, b, rfl, ⟨by omega, by omega⟩, vSm l1 l4, hI, trivial⟩)
theorem vS18 (hLn : Ln ≤ 3072) : ∀ v0 : Int, xR v0 → ∀ a b, vInv a b → vStep (pmRo Ln xs) 59 109 [.ref 0, xV v0] 203 [.ref 87, xV v0] vInv (fun _ _ => True) a b := by
  intro v0 h0 a b hI
  obtain ⟨⟨hK, hP⟩, hA, _⟩ := id hI
  refine xe109 (xL0 hLn) (xC109 hLn) hK hP hA (by decide) h0 (fun z1 a1 b1 k1 k2 k3 k4 k5 => ⟨z1, a, b, rfl, ⟨by omega, by omega⟩, vSm k1 k4, ?_⟩)
  exact xe203 (xL0 hLn) (xC203 hLn) hK hP hA (by decide) h0 (fun z2 a2 b2 l1 l2 l3 l4 l5 => ⟨z2, a, b, rfl, ⟨by omega, by omega⟩, vSm l1 l4, hI, trivial⟩)
theorem vS19 (hLn : Ln ≤ 3072) : ∀ v0 : Int, xR v0 → ∀ a b, vInv a b → vStep (pmRo Ln xs) 59 110 [.ref 0, xV v0] 223 [.ref 87, xV v0] vInv (fun _ _ => True) a b := by
  intro v0 h0 a b hI
  have hI0 := hI
  obtain ⟨⟨hK, hP⟩, hA, hq, ht, hp | hb⟩ := hI
  · exact vMono (vJo (vE110 hLn hK hP hA h0) (fun a1 b1 k1 k2 k3 k4 => vE223 hLn k1 k2 k3 h0 (by rw [(xFr k4 k3 hA (p := 88) (k := 114) (by decide) (by decide +kernel)).1]; exact vInv_114 hI0)) (vN110 ⟨hp, ht⟩ h0 (by decide)) (fun a1 b1 a2 b2 _ _ _ q1 q2 hi => vInv_p hi q1 q2)) (fun _ _ _ => trivial)
  · obtain ⟨dr, wp, co, pr, cnt, W, T, n, a0, R, hg⟩ := hb
    exact vJf (vE110 hLn hK hP hA h0) (fun a1 b1 k1 k2 k3 k4 => vE223 hLn k1 k2 k3 h0 (by rw [(xFr k4 k3 hA (p := 88) (k := 114) (by decide) (by decide +kernel)).1]; exact vInv_114 hI0)) (uB110 hg h0 (by decide)) (fun a1 b1 a2 b2 g1 g2 g3 q1 q2 hi => vInv_m hI0 g1 g2 g3 (by decide +kernel) (by decide +kernel) (by decide +kernel) (by decide +kernel) q1 q2 ⟨dr, wp, co, pr, cnt, W, T, n, a0, R, hi⟩)
theorem vS20 (hLn : Ln ≤ 3072) : ∀ a b, vInv a b → vStep (pmRo Ln xs) 59 114 [.ref 0] 230 [.ref 87] vInv (fun _ _ => True) a b := by
  intro  a b hI
  have hI0 := hI
  obtain ⟨⟨hK, hP⟩, hA, hq, ht, hp | hb⟩ := hI
  · exact vMono (vJo (vE114 hLn hK hP hA) (fun a1 b1 k1 k2 k3 k4 => vE230 hLn k1 k2 k3 (by rw [(xFr k4 k3 hA (p := 88) (k := 114) (by decide) (by decide +kernel)).1]; exact vInv_114 hI0)) (vN114 ⟨hp, ht⟩ (by decide)) (fun a1 b1 a2 b2 _ _ _ q1 q2 hi => vInv_p hi q1 q2)) (fun _ _ _ => trivial)
  · obtain ⟨dr, wp, co, pr, cnt, W, T, n, a0, R, hg⟩ := hb
    exact vJf (vE114 hLn hK hP hA) (fun a1 b1 k1 k2 k3 k4 => vE230 hLn k1 k2 k3 (by rw [(xFr k4 k3 hA (p := 88) (k := 114) (by decide) (by decide +kernel)).1]; exact vInv_114 hI0)) (uB114 hg (by decide)) (fun a1 b1 a2 b2 g1 g2 g3 q1 q2 hi => vInv_m hI0 g1 g2 g3 (by decide +kernel) (by decide +kernel) (by decide +kernel) (by decide +kernel) q1 q2 ⟨dr, wp, co, pr, cnt, W, T, n, a0, R, hi⟩)
theorem vS21 (hLn : Ln ≤ 3072) : ∀ v0 : Int, xR v0 → ∀ v1 : Int, xR v1 → ∀ a b, vInv a b → vStep (pmRo Ln xs) 59 115 [.ref 0, xV v0, xV v1] 231 [.ref 87, xV v0, xV v1] vInv (fun _ _ => True) a b := by
  intro v0 h0 v1 h1 a b hI
  have hI0 := hI
  obtain ⟨⟨hK, hP⟩, hA, hq, ht, hp | hb⟩ := hI
  · exact vMono (vJo (vE115 hLn hK hP hA h0 h1) (fun a1 b1 k1 k2 k3 k4 => vE231 hLn k1 k2 k3 h0 h1 (by rw [(xFr k4 k3 hA (p := 88) (k := 114) (by decide) (by decide +kernel)).1]; exact vInv_114 hI0)) (vN115 ⟨hp, ht⟩ h0 h1 (by decide)) (fun a1 b1 a2 b2 _ _ _ q1 q2 hi => vInv_p hi q1 q2)) (fun _ _ _ => trivial)
  · obtain ⟨dr, wp, co, pr, cnt, W, T, n, a0, R, hg⟩ := hb
    exact vJf (vE115 hLn hK hP hA h0 h1) (fun a1 b1 k1 k2 k3 k4 => vE231 hLn k1 k2 k3 h0 h1 (by rw [(xFr k4 k3 hA (p := 88) (k := 114) (by decide) (by decide +kernel)).1]; exact vInv_114 hI0)) (uB115 hg h0 h1 (by decide)) (fun a1 b1 a2 b2 g1 g2 g3 q1 q2 hi => vInv_m hI0 g1 g2 g3 (by decide +kernel) (by decide +kernel) (by decide +kernel) (by decide +kernel) q1 q2 ⟨dr, wp, co, pr, cnt, W, T, n, a0, R, hi⟩)
theorem vS22 (hLn : Ln ≤ 3072) : ∀ v0 : Int, xR v0 → ∀ a b, vInv a b → vStep (pmRo Ln xs) 59 116 [.ref 0, xV v0] 232 [.ref 87, xV v0] vInv (fun z z' => z = z') a b := by
  intro v0 h0 a b hI
  have hI0 := hI
  obtain ⟨⟨hK, hP⟩, hA, hq, ht, hp | hb⟩ := hI
  · exact vJo (vE116 hLn hK hP hA h0) (fun a1 b1 k1 k2 k3 k4 => vE232 hLn k1 k2 k3 h0 (by rw [(xFr k4 k3 hA (p := 88) (k := 114) (by decide) (by decide +kernel)).1]; exact vInv_114 hI0)) (vN116 ⟨hp, ht⟩ h0 (by decide)) (fun a1 b1 a2 b2 _ _ _ q1 q2 hi => vInv_p hi q1 q2)
  · obtain ⟨dr, wp, co, pr, cnt, W, T, n, a0, R, hg⟩ := hb
    exact vJo (vE116 hLn hK hP hA h0) (fun a1 b1 k1 k2 k3 k4 => vE232 hLn k1 k2 k3 h0 (by rw [(xFr k4 k3 hA (p := 88) (k := 114) (by decide) (by decide +kernel)).1]; exact vInv_114 hI0)) (uB116 hg h0 (by decide)) (fun a1 b1 a2 b2 g1 g2 g3 q1 q2 hi => vInv_m hI0 g1 g2 g3 (by decide +kernel) (by decide +kernel) (by decide +kernel) (by decide +kernel) q1 q2 ⟨dr, wp, co, pr, cnt, W, T, n, a0, R, hi⟩)
theorem vS23 (hLn : Ln ≤ 3072) : ∀ v0 : Int, xR v0 → ∀ a b, vInv a b → vStep (pmRo Ln xs) 59 119 [.ref 0, xV v0] 236 [.ref 87, xV v0] vInv (fun z z' => z = z') a b := by
  intro v0 h0 a b hI
  have hI0 := hI
  obtain ⟨⟨hK, hP⟩, hA, hq, ht, hp | hb⟩ := hI
  · exact vJo (vE119 hLn hK hP hA h0) (fun a1 b1 k1 k2 k3 k4 => vE236 hLn k1 k2 k3 h0 (by rw [(xFr k4 k3 hA (p := 88) (k := 114) (by decide) (by decide +kernel)).1]; exact vInv_114 hI0)) (vN119 ⟨hp, ht⟩ h0 (by decide)) (fun a1 b1 a2 b2 _ _ _ q1 q2 hi => vInv_p hi q1 q2)
  · obtain ⟨dr, wp, co, pr, cnt, W, T, n, a0, R, hg⟩ := hb
    exact vJo (vE119 hLn hK hP hA h0) (fun a1 b1 k1 k2 k3 k4 => vE236 hLn k1 k2 k3 h0 (by rw [(xFr k4 k3 hA (p := 88) (k := 114) (by decide) (by decide +kernel)).1]; exact vInv_114 hI0)) (uB119 hg h0 (by decide)) (fun a1 b1 a2 b2 g1 g2 g3 q1 q2 hi => vInv_m hI0 g1 g2 g3 (by decide +kernel) (by decide +kernel) (by decide +kernel) (by decide +kernel) q1 q2 ⟨dr, wp, co, pr, cnt, W, T, n, a0, R, hi⟩)
theorem vS24 (hLn : Ln ≤ 3072) : ∀ v0 : Int, xR v0 → ∀ v1 : Int, xR v1 → ∀ v2 : Int, xR v2 → ∀ v3 : Int, xR v3 → ∀ a b, vInv a b → vStep (pmRo Ln xs) 59 120 [.ref 0, xV v0, xV v1, xV v2, xV v3] 237 [.ref 87, xV v0, xV v1, xV v2, xV v3] vInv (fun _ _ => True) a b := by
  intro v0 h0 v1 h1 v2 h2 v3 h3 a b hI
  have hI0 := hI
  obtain ⟨⟨hK, hP⟩, hA, hq, ht, hp | hb⟩ := hI
  · exact vMono (vJo (vE120 hLn hK hP hA h0 h1 h2 h3) (fun a1 b1 k1 k2 k3 k4 => vE237 hLn k1 k2 k3 h0 h1 h2 h3 (by rw [(xFr k4 k3 hA (p := 88) (k := 114) (by decide) (by decide +kernel)).1]; exact vInv_114 hI0)) (vN120 ⟨hp, ht⟩ h0 h1 h2 h3 (by decide)) (fun a1 b1 a2 b2 _ _ _ q1 q2 hi => vInv_p hi q1 q2)) (fun _ _ _ => trivial)
  · obtain ⟨dr, wp, co, pr, cnt, W, T, n, a0, R, hg⟩ := hb
    exact vJf (vE120 hLn hK hP hA h0 h1 h2 h3) (fun a1 b1 k1 k2 k3 k4 => vE237 hLn k1 k2 k3 h0 h1 h2 h3 (by rw [(xFr k4 k3 hA (p := 88) (k := 114) (by decide) (by decide +kernel)).1]; exact vInv_114 hI0)) (uB120 hg h0 h1 h2 h3 (by decide)) (fun a1 b1 a2 b2 g1 g2 g3 q1 q2 hi => vInv_m hI0 g1 g2 g3 (by decide +kernel) (by decide +kernel) (by decide +kernel) (by decide +kernel) q1 q2 ⟨dr, wp, co, pr, cnt, W, T, n, a0, R, hi⟩)
theorem vS25 (hLn : Ln ≤ 3072) : ∀ v0 : Int, xR v0 → ∀ a b, vInv a b → vStep (pmRo Ln xs) 59 124 [.ref 0, xV v0] 239 [.ref 87, xV v0] vInv (fun z z' => z = z') a b := by
  intro v0 h0 a b hI
  have hI0 := hI
  obtain ⟨⟨hK, hP⟩, hA, hq, ht, hp | hb⟩ := hI
  · exact vJo (vE124 hLn hK hP hA h0) (fun a1 b1 k1 k2 k3 k4 => vE239 hLn k1 k2 k3 h0 (by rw [(xFr k4 k3 hA (p := 88) (k := 114) (by decide) (by decide +kernel)).1]; exact vInv_114 hI0)) (vN124 ⟨hp, ht⟩ h0 (by decide)) (fun a1 b1 a2 b2 _ _ _ q1 q2 hi => vInv_p hi q1 q2)
  · obtain ⟨dr, wp, co, pr, cnt, W, T, n, a0, R, hg⟩ := hb
    exact vJo (vE124 hLn hK hP hA h0) (fun a1 b1 k1 k2 k3 k4 => vE239 hLn k1 k2 k3 h0 (by rw [(xFr k4 k3 hA (p := 88) (k := 114) (by decide) (by decide +kernel)).1]; exact vInv_114 hI0)) (uB124 hg h0 (by decide)) (fun a1 b1 a2 b2 g1 g2 g3 q1 q2 hi => vInv_m hI0 g1 g2 g3 (by decide +kernel) (by decide +kernel) (by decide +kernel) (by decide +kernel) q1 q2 ⟨dr, wp, co, pr, cnt, W, T, n, a0, R, hi⟩)
theorem vS26 (hLn : Ln ≤ 3072) : ∀ v0 : Int, xR v0 → ∀ v1 : Int, xR v1 → ∀ v2 : Int, xR v2 → ∀ a b, vInv a b → vStep (pmRo Ln xs) 59 127 [.ref 0, xV v0, xV v1, xV v2] 240 [.ref 87, xV v0, xV v1, xV v2] vInv (fun z z' => z = z') a b := by
  intro v0 h0 v1 h1 v2 h2 a b hI
  have hI0 := hI
  obtain ⟨⟨hK, hP⟩, hA, hq, ht, hp | hb⟩ := hI
  · exact vJo (vE127 hLn hK hP hA h0 h1 h2) (fun a1 b1 k1 k2 k3 k4 => vE240 hLn k1 k2 k3 h0 h1 h2 (by rw [(xFr k4 k3 hA (p := 88) (k := 114) (by decide) (by decide +kernel)).1]; exact vInv_114 hI0)) (vN127 ⟨hp, ht⟩ h0 h1 h2 (by decide)) (fun a1 b1 a2 b2 _ _ _ q1 q2 hi => vInv_p hi q1 q2)
  · obtain ⟨dr, wp, co, pr, cnt, W, T, n, a0, R, hg⟩ := hb
    exact vJo (vE127 hLn hK hP hA h0 h1 h2) (fun a1 b1 k1 k2 k3 k4 => vE240 hLn k1 k2 k3 h0 h1 h2 (by rw [(xFr k4 k3 hA (p := 88) (k := 114) (by decide) (by decide +kernel)).1]; exact vInv_114 hI0)) (uB127 hg h0 h1 h2 (by decide)) (fun a1 b1 a2 b2 g1 g2 g3 q1 q2 hi => vInv_m hI0 g1 g2 g3 (by decide +kernel) (by decide +kernel) (by decide +kernel) (by decide +kernel) q1 q2 ⟨dr, wp, co, pr, cnt, W, T, n, a0, R, hi⟩)
theorem vS27 (hLn : Ln ≤ 3072) : ∀ v0 : Int, xR v0 → ∀ v1 : Int, xR v1 → ∀ a b, vInv a b → vStep (pmRo Ln xs) 59 129 [.ref 0, xV v0, xV v1] 241 [.ref 87, xV v0, xV v1] vInv (fun z z' => z = z') a b := by
  intro v0 h0 v1 h1 a b hI
  have hI0 := hI
  obtain ⟨⟨hK, hP⟩, hA, hq, ht, hp | hb⟩ := hI
  · exact vJo (vE129 hLn hK hP hA h0 h1) (fun a1 b1 k1 k2 k3 k4 => vE241 hLn k1 k2 k3 h0 h1 (by rw [(xFr k4 k3 hA (p := 88) (k := 114) (by decide) (by decide +kernel)).1]; exact vInv_114 hI0)) (vN129 ⟨hp, ht⟩ h0 h1 (by decide)) (fun a1 b1 a2 b2 _ _ _ q1 q2 hi => vInv_p hi q1 q2)
  · obtain ⟨dr, wp, co, pr, cnt, W, T, n, a0, R, hg⟩ := hb
    refine vJo (vE129 hLn hK hP hA h0 h1) (fun a1 b1 k1 k2 k3 k4 => vE241 hLn k1 k2 k3 h0 h1 (by rw [(xFr k4 k3 hA (p := 88) (k := 114) (by decide) (by decide +kernel)).1]; exact vInv_114 hI0)) (uB129 (l := a 1 1) (tp := a 2) hg rfl ht.1.symm ht.2.1 (fun _ _ _ => rfl) (fun j j0 j1 => (ht.2.2 j j0 j1).symm) h0 h1 (by decide)) (fun a1 b1 a2 b2 g1 g2 g3 q1 q2 hi => ?_)
    obtain ⟨i1, i2, i3, i4⟩ := hi
    have hb2 : vBg a2 b2 := ⟨dr, wp, co, pr, cnt, W, T, n, a0, R, i1⟩
    refine vInv_b hb2 q1 q2 (vFq g3 (vBg_A hb2) g1 (by decide +kernel) (vFq g2 g1 hA (by decide +kernel) hq)) ?_
    unfold vT
    rw [i3, i4]
    rcases i2 with ⟨e1, e2⟩ | ⟨e1, e2⟩
    · rw [e1, e2]
      exact ⟨rfl, ht.2.1, fun j j0 j1 => ht.2.2 j j0 j1⟩
    · rw [e1, e2]
      exact ⟨rfl, by decide, fun j j0 j1 => absurd j1 (by omega)⟩
theorem vS28 (hLn : Ln ≤ 3072) : ∀ v0 : Int, xR v0 → ∀ a b, vInv a b → vStep (pmRo Ln xs) 59 132 [.ref 0, xV v0] 243 [.ref 87, xV v0] vInv (fun z z' => z = z') a b := by
  intro v0 h0 a b hI
  have hI0 := hI
  obtain ⟨⟨hK, hP⟩, hA, hq, ht, hp | hb⟩ := hI
  · exact vJo (vE132 hLn hK hP hA h0) (fun a1 b1 k1 k2 k3 k4 => vE243 hLn k1 k2 k3 h0) (vN132 ⟨hp, ht⟩ h0 (by decide)) (fun a1 b1 a2 b2 _ _ _ q1 q2 hi => vInv_p hi q1 q2)
  · obtain ⟨dr, wp, co, pr, cnt, W, T, n, a0, R, hg⟩ := hb
    exact vJo (vE132 hLn hK hP hA h0) (fun a1 b1 k1 k2 k3 k4 => vE243 hLn k1 k2 k3 h0) (uB132 hg h0 (by decide)) (fun a1 b1 a2 b2 g1 g2 g3 q1 q2 hi => vInv_m hI0 g1 g2 g3 (by decide +kernel) (by decide +kernel) (by decide +kernel) (by decide +kernel) q1 q2 ⟨dr, wp, co, pr, cnt, W, T, n, a0, R, hi⟩)
theorem vS29 (hLn : Ln ≤ 3072) : ∀ v0 : Int, xR v0 → ∀ a b, vInv a b → vStep (pmRo Ln xs) 59 133 [.ref 0, xV v0] 244 [.ref 87, xV v0] vInv (fun z z' => z = z') a b := by
  intro v0 h0 a b hI
  have hI0 := hI
  obtain ⟨⟨hK, hP⟩, hA, hq, ht, hp | hb⟩ := hI
  · exact vJo (vE133 hLn hK hP hA h0) (fun a1 b1 k1 k2 k3 k4 => vE244 hLn k1 k2 k3 h0) (vN133 ⟨hp, ht⟩ h0 (by decide)) (fun a1 b1 a2 b2 _ _ _ q1 q2 hi => vInv_p hi q1 q2)
  · obtain ⟨dr, wp, co, pr, cnt, W, T, n, a0, R, hg⟩ := hb
    exact vJo (vE133 hLn hK hP hA h0) (fun a1 b1 k1 k2 k3 k4 => vE244 hLn k1 k2 k3 h0) (uB133 hg h0 (by decide)) (fun a1 b1 a2 b2 g1 g2 g3 q1 q2 hi => vInv_m hI0 g1 g2 g3 (by decide +kernel) (by decide +kernel) (by decide +kernel) (by decide +kernel) q1 q2 ⟨dr, wp, co, pr, cnt, W, T, n, a0, R, hi⟩)
theorem vS30 (hLn : Ln ≤ 3072) : ∀ v0 : Int, xR v0 → ∀ a b, vInv a b → vStep (pmRo Ln xs) 59 134 [.ref 0, xV v0] 245 [.ref 87, xV v0] vInv (fun z z' => z = z') a b := by
  intro v0 h0 a b hI
  have hI0 := hI
  obtain ⟨⟨hK, hP⟩, hA, hq, ht, hp | hb⟩ := hI
  · exact vJo (vE134 hLn hK hP hA h0) (fun a1 b1 k1 k2 k3 k4 => vE245 hLn k1 k2 k3 h0) (vN134 ⟨hp, ht⟩ (xt13_7 hK hA) h0 (by decide)) (fun a1 b1 a2 b2 _ _ _ q1 q2 hi => vInv_p hi q1 q2)
  · obtain ⟨dr, wp, co, pr, cnt, W, T, n, a0, R, hg⟩ := hb
    exact vJo (vE134 hLn hK hP hA h0) (fun a1 b1 k1 k2 k3 k4 => vE245 hLn k1 k2 k3 h0) (uB134 hg h0 ht.1 hq.1 hq.2 (by decide)) (fun a1 b1 a2 b2 g1 g2 g3 q1 q2 hi => vInv_m hI0 g1 g2 g3 (by decide +kernel) (by decide +kernel) (by decide +kernel) (by decide +kernel) q1 q2 ⟨dr, wp, co, pr, cnt, W, T, n, a0, R, hi⟩)
end
end
end
section
/-! at the start -/
section
set_option maxRecDepth 100000


section
variable {ρ : Nat → Int} {σ : pmS} {p k : Nat} {v : Int} {a : xA} {b : xB}
noncomputable def vCk (p k : Nat) (v : Int) : Bool := match aG2 p1M.2.1 p with
  | some c => (match pmLk c.2 k with
    | some f => decide (f.1 = 0) && decide (f.2 = v)
    | none => decide (c.1.1 = 0) && decide (c.1.2 = 0) && decide (v = 0))
  | none => false
theorem vCk_i (h0 : ρ 0 = 0) (h : aMok 2 ρ pmσ0 p1M σ) (hc : vCk p k v = true) : kI σ p k = v := by
  unfold vCk at hc
  split at hc
  · rename_i c e
    have := h.2.1 p c e k
    split at hc
    · rename_i f ef
      simp only [ef] at this
      rw [Bool.and_eq_true, decide_eq_true_eq, decide_eq_true_eq] at hc
      have h2 : aZi σ p k = ρ f.1 + f.2 := this.2
      rw [hc.1, h0] at h2
      show aZi σ p k = v
      omega
    · rename_i ef
      simp only [ef] at this
      rw [Bool.and_eq_true, Bool.and_eq_true, decide_eq_true_eq, decide_eq_true_eq, decide_eq_true_eq] at hc
      have h2 : c.1.1 ≤ aZi σ p k ∧ aZi σ p k ≤ c.1.2 := this
      show aZi σ p k = v
      omega
  · cases hc
theorem v88_all : (List.range 120).all (fun k => vCk 88 k (if 14 ≤ k ∧ k ≤ 40 then -1 else 0)) = true := by decide +kernel
theorem v4_all : (List.range 62).all (fun k => vCk 4 k (uD ((k : Int) - 1))) = true := by decide +kernel
theorem vSl1 : ∀ j : Fin 16, uSl (4369 : Int64) (j.val : Int) = if j.val < 4 then 1 else 0 := by decide +kernel
theorem vSl0 : ∀ j : Fin 16, uSl (0 : Int64) (j.val : Int) = 0 := by decide +kernel
theorem vSt0 : ∀ j : Fin 5, uSt (0 : Int64) (j.val : Int) = 0 := by decide +kernel
theorem vIni (h0 : ρ 0 = 0) (hM : aMok 2 ρ pmσ0 p1M (xS a b)) (hA : xAr a) (hK : kOk (xS a b)) (hP : kP (xS a b)) : vInv a b := by
  have cv : ∀ p (k : Nat), kI (xS a b) p k = a p (k : Int) := fun p k => xI (hA p k)
  have ci : ∀ p (k : Nat) v, vCk p k v = true → a p (k : Int) = v := fun p k v h => (cv p k).symm.trans (vCk_i h0 hM h)
  have e88 : ∀ j, 0 ≤ j → j < 120 → a 88 j = if 14 ≤ j ∧ j ≤ 40 then -1 else 0 := fun j j0 j1 => by
    have h := ci 88 j.toNat _ (List.all_eq_true.mp v88_all j.toNat (List.mem_range.mpr (by omega)))
    rw [Int.toNat_of_nonneg j0] at h
    rw [h]
    by_cases c : 14 ≤ j ∧ j ≤ 40
    · rw [if_pos c, if_pos (by omega)]
    · rw [if_neg c, if_neg (by omega)]
  have n88 : ∀ j, 14 ≤ j → j ≤ 40 → a 88 j = -1 := fun j j0 j1 => by
    rw [e88 j (by omega) (by omega), if_pos ⟨j0, j1⟩]
  have z88 : ∀ j, 0 ≤ j → j < 120 → ¬ (14 ≤ j ∧ j ≤ 40) → a 88 j = 0 := fun j j0 j1 h => by
    rw [e88 j j0 j1, if_neg h]
  have row : ∀ p, (∀ k, kI (xS a b) p k = 0) → ∀ j, 0 ≤ j → a p j = 0 := fun p h j j0 => by
    have := h j.toNat
    rw [cv, Int.toNat_of_nonneg j0] at this
    exact this
  have r90 := row 90 (fun k => kZ_int hM (p := 90) (k := k) rfl rfl)
  have r91 := row 91 (fun k => kZ_int hM (p := 91) (k := k) rfl rfl)
  have r96 := row 96 (fun k => kZ_int hM (p := 96) (k := k) rfl rfl)
  have r12 := row 12 (fun k => kZ_int hM (p := 12) (k := k) rfl rfl)
  have r21 := row 21 (fun k => kZ_int hM (p := 21) (k := k) rfl rfl)
  have r23 := row 23 (fun k => kZ_int hM (p := 23) (k := k) rfl rfl)
  have r25 := row 25 (fun k => kZ_int hM (p := 25) (k := k) rfl rfl)
  have r78 := row 78 (fun k => kZ_int hM (p := 78) (k := k) rfl rfl)
  have r79 := row 79 (fun k => kZ_int hM (p := 79) (k := k) rfl rfl)
  have r86 := row 86 (fun k => kZ_int hM (p := 86) (k := k) rfl rfl)
  have r19 := row 19 (fun k => kZ_int hM (p := 19) (k := k) rfl rfl)
  have r106 := row 106 (fun k => kZ_int hM (p := 106) (k := k) rfl rfl)
  have r3 := row 3 (fun k => kZ_int hM (p := 3) (k := k) rfl rfl)
  have r0 := row 0 (fun k => kZ_int hM (p := 0) (k := k) rfl rfl)
  have r1 := row 1 (fun k => kZ_int hM (p := 1) (k := k) rfl rfl)
  have r13 := row 13 (fun k => kZ_int hM (p := 13) (k := k) rfl rfl)
  have d2 : a 87 2 = 0 := ci 87 2 0 (by decide +kernel)
  have d3 : a 87 3 = 0 := ci 87 3 0 (by decide +kernel)
  have d4 : a 87 4 = 0 := ci 87 4 0 (by decide +kernel)
  have d9 : a 87 9 = 0 := ci 87 9 0 (by decide +kernel)
  have lo : ∀ p, (∀ k, (xS a b).2.2 p k = 0) → ∀ j, 0 ≤ j → b p j = 0 := fun p h j j0 => by
    have h2 : b p ((j.toNat : Nat) : Int) = 0 := h j.toNat
    rw [Int.toNat_of_nonneg j0] at h2
    exact h2
  have l3 := lo 3 (fun k => kZ_long hM (p := 3) (k := k) rfl rfl)
  have l22 := lo 22 (fun k => kZ_long hM (p := 22) (k := k) rfl rfl)
  have l35 := lo 35 (fun k => kZ_long hM (p := 35) (k := k) rfl rfl)
  have l114 := lo 114 (fun k => kZ_long hM (p := 114) (k := k) rfl rfl)
  have l215 : b 21 5 = 0 := kZ_long hM (p := 21) (k := 5) rfl rfl
  have l214 : b 21 4 = 4369 := by
    have := hM.2.2.1 21 _ rfl 4
    have h2 : aZl (xS a b) 21 4 = ρ 0 + 4369 := this.2
    rw [h0] at h2
    exact Int64.toInt_inj.mp (h2.trans rfl)
  have s1 : ∀ j, 0 ≤ j → j < 16 → uSl (b 21 4) j = if j < 4 then 1 else 0 := fun j j0 j1 => by
    have h := vSl1 ⟨j.toNat, by omega⟩
    dsimp only at h
    rw [Int.toNat_of_nonneg j0] at h
    rw [l214, h]
    by_cases c : j < 4
    · rw [if_pos c, if_pos (by omega)]
    · rw [if_neg c, if_neg (by omega)]
  have s0 : ∀ f j, 0 ≤ f → 0 ≤ j → j < 16 → uSl (b 22 f) j = 0 := fun f j f0 j0 j1 => by
    have h := vSl0 ⟨j.toNat, by omega⟩
    dsimp only at h
    rw [Int.toNat_of_nonneg j0] at h
    rw [l22 f f0, h]
  refine ⟨⟨hK, hP⟩, hA, ⟨(r13 7 (by decide)).trans d3.symm, fun i i0 i1 => ?_⟩, ⟨(r1 1 (by decide)).trans d9.symm, ?_, fun j j0 j1 => ?_⟩, Or.inl ⟨⟨r0 12 (by decide), d4⟩, hA, ?_, fun i i0 i1 => ?_, ?_, ?_, ?_, fun _ => [], ?_⟩⟩
  · rw [r13 7 (by decide)] at i1
    omega
  · rw [r1 1 (by decide)]
    decide
  · rw [r1 1 (by decide)] at j1
    omega
  · unfold vPs uKs
    rw [d2, r3 4 (by decide), r3 5 (by decide), l3 3 (by decide)]
    refine ⟨⟨fun k k0 k1 => ?_, fun i i0 i1 => ?_, rfl, by decide, fun k k0 k1 => ?_⟩, fun i _ i0 i1 => r91 i i0, by decide, by decide⟩
    · rw [r90 k k0]
      have e : xBit (0 : Int64) k = false := BitVec.getLsbD_zero
      rw [e]
      exact ⟨fun h => (by cases h), fun h => absurd rfl h⟩
    · rw [r91 i i0]
      have e : uBi 0 i = 0 := by
        unfold uBi
        rw [Int.zero_ediv]
        rfl
      rw [e]
    · have h := ci 4 (k + 1).toNat _ (List.all_eq_true.mp v4_all (k + 1).toNat (List.mem_range.mpr (by omega)))
      rw [Int.toNat_of_nonneg (by omega), show k + 1 - 1 = k by omega] at h
      exact h
  · have : i = 1 ∨ i = 2 ∨ i = 3 ∨ i = 4 ∨ i = 5 := by omega
    rcases this with rfl | rfl | rfl | rfl | rfl
    · rw [show a 5 1 = 9 from ci 5 1 9 (by decide +kernel), show a 92 1 = 1 from ci 92 1 1 (by decide +kernel)]
      rfl
    · rw [show a 5 2 = 9 from ci 5 2 9 (by decide +kernel), show a 92 2 = 1 from ci 92 2 1 (by decide +kernel)]
      rfl
    · rw [show a 5 3 = 9 from ci 5 3 9 (by decide +kernel), show a 92 3 = 1 from ci 92 3 1 (by decide +kernel)]
      rfl
    · rw [show a 5 4 = 9 from ci 5 4 9 (by decide +kernel), show a 92 4 = 1 from ci 92 4 1 (by decide +kernel)]
      rfl
    · rw [show a 5 5 = 9 from ci 5 5 9 (by decide +kernel), show a 92 5 = 1 from ci 92 5 1 (by decide +kernel)]
      rfl
  · rw [d2]
    refine ⟨⟨fun p p0 p1 => ?_, fun x x0 x1 => absurd x1 (by omega), fun x x0 x1 => ?_, fun f x f0 f1 x0 x1 => ?_, fun f q f0 f1 q0 q1 => ?_, fun f x f0 f1 _ x0 x1 => ?_⟩, ⟨fun j j0 j1 => ?_, fun j j0 j1 => ?_, fun x x0 x1 => absurd x1 (by omega)⟩, fun f f0 f1 => ⟨fun j j0 j1 => s0 f j (by omega) (by omega) j1, fun q q0 q1 _ => ?_, fun x x0 x1 => ?_⟩, fun x x0 x1 => ?_⟩
    · rw [z88 p p0 (by omega) (by omega)]
      decide
    · rw [z88 _ (by omega) (by omega) (by omega)]
      decide
    · rw [n88 _ (by omega) (by omega)]
      decide
    · rw [n88 _ (by omega) (by omega)]
      decide
    · rw [n88 _ (by omega) (by omega)]
    · rw [s1 j j0 (by omega)]
      unfold uWs
      by_cases c : j < 4
      · rw [if_pos c, if_pos c, z88 j j0 (by omega) (by omega)]
        rfl
      · rw [if_neg c, if_neg c, if_neg (by omega)]
    · rw [s1 j (by omega) j1, if_neg (by omega)]
    · show uSl (b 22 f) q = _
      rw [s0 f q (by omega) q0 (by omega), n88 _ (by omega) (by omega)]
      rfl
    · show uSl (b 22 f) (4 + x) = _
      rw [s0 f (4 + x) (by omega) (by omega) (by omega), n88 _ (by omega) (by omega)]
      rfl
    · have h := vSt0 ⟨x.toNat, by omega⟩
      dsimp only at h
      rw [Int.toNat_of_nonneg x0] at h
      rw [l215, h]
  · exact ⟨fun j j0 j1 => z88 j (by omega) j1 (by omega), fun j j0 j1 => r21 j (by omega), fun j j0 _ => r25 j j0, fun j j0 _ => r23 j j0, fun j j0 _ => r78 j j0, fun j j0 _ => l35 j j0, fun j j0 _ => l114 j j0, r79 6 (by decide), fun j j0 _ => r86 j j0⟩
  · exact ⟨fun c c0 _ => by rw [r19 c c0]; decide, fun c c0 _ => by rw [r106 c c0]; decide, (r13 7 (by decide)).trans d3.symm, fun i i0 i1 => by
      rw [r13 7 (by decide)] at i1
      omega⟩
  · refine ⟨fun p p0 p1 => ?_, fun p k p0 p1 k0 k1 => ?_, fun p p0 p1 => ⟨fun i j i0 ij jc => ?_, fun k k0 k1 => ?_⟩, fun p i p0 p1 i0 i1 => ?_⟩
    · rw [r12 p (by omega), r96 p (by omega)]
      decide
    · rw [r96 p (by omega)] at k1
      omega
    · rw [r96 p (by omega)] at jc
      omega
    · rw [r96 p (by omega)] at k1
      omega
    · rw [r96 p (by omega)] at i1
      omega
end
end
end
