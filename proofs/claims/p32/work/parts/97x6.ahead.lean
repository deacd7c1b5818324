/-! ahead of the beginning: wish, law -/
section
set_option maxRecDepth 100000


section
variable {Ln : Nat} {xs : Nat → Int32} {d : Nat} {p k x n : Int} {ts : List Int} {T : Int → List Int} {a a1 a2 : xA} {b : xB}
/-- an order, once a wish is put into it -/
theorem vOr_p {W W' o o' : Int → Int} {s : Int} (hk : 0 ≤ k) (hs : 0 ≤ s ∧ s ≤ k) (o1 : ∀ i, 0 ≤ i → i < k → 0 ≤ o i ∧ o i < k) (o2 : ∀ i j, 0 ≤ i → i < j → j < k → W (o j) < W (o i) ∨ (W (o j) = W (o i) ∧ o i < o j)) (o3 : ∀ q, 0 ≤ q → q < k → ∃ i, 0 ≤ i ∧ i < k ∧ o i = q) (w1 : W' k = x) (w2 : ∀ i, 0 ≤ i → i < k → W' i = W i) (n1 : ∀ i, 0 ≤ i → i < s → o' i = o i) (n2 : o' s = k) (n3 : ∀ i, s < i → i ≤ k → o' i = o (i - 1) ∧ W (o (i - 1)) < x) (n4 : s = 0 ∨ x ≤ W (o (s - 1))) : (∀ i, 0 ≤ i → i < k + 1 → 0 ≤ o' i ∧ o' i < k + 1) ∧ (∀ i j, 0 ≤ i → i < j → j < k + 1 → W' (o' j) < W' (o' i) ∨ (W' (o' j) = W' (o' i) ∧ o' i < o' j)) ∧ ∀ q, 0 ≤ q → q < k + 1 → ∃ i, 0 ≤ i ∧ i < k + 1 ∧ o' i = q := by
  refine ⟨fun i i0 i1 => ?_, fun i j i0 ij jk => ?_, fun q q0 q1 => ?_⟩
  · by_cases c : i < s
    · rw [n1 i i0 c]
      have := o1 i i0 (by omega)
      omega
    · by_cases c2 : i = s
      · rw [c2, n2]
        omega
      · rw [(n3 i (by omega) (by omega)).1]
        have := o1 (i - 1) (by omega) (by omega)
        omega
  · by_cases c : j < s
    · rw [n1 i i0 (by omega), n1 j (by omega) c]
      have b1 := o1 i i0 (by omega)
      have b2 := o1 j (by omega) (by omega)
      rw [w2 _ b1.1 b1.2, w2 _ b2.1 b2.2]
      exact o2 i j i0 ij (by omega)
    · by_cases c2 : j = s
      · have b1 := o1 i i0 (by omega)
        rw [c2, n2, n1 i i0 (by omega), w1, w2 _ b1.1 b1.2]
        have h4 : x ≤ W (o (s - 1)) := by
          rcases n4 with e | e
          · omega
          · exact e
        by_cases ci : i = s - 1
        · rw [ci] at b1 ⊢
          omega
        · have := o2 i (s - 1) i0 (by omega) (by omega)
          omega
      · obtain ⟨e1, e2⟩ := n3 j (by omega) (by omega)
        have b2 := o1 (j - 1) (by omega) (by omega)
        rw [e1, w2 _ b2.1 b2.2]
        by_cases ci : i < s
        · have b1 := o1 i i0 (by omega)
          rw [n1 i i0 ci, w2 _ b1.1 b1.2]
          exact o2 i (j - 1) i0 (by omega) (by omega)
        · by_cases ci2 : i = s
          · rw [ci2, n2, w1]
            exact Or.inl e2
          · obtain ⟨e3, e4⟩ := n3 i (by omega) (by omega)
            have b1 := o1 (i - 1) (by omega) (by omega)
            rw [e3, w2 _ b1.1 b1.2]
            exact o2 (i - 1) (j - 1) (by omega) (by omega) (by omega)
  · by_cases c : q = k
    · exact ⟨s, hs.1, by omega, n2.trans c.symm⟩
    · obtain ⟨i, i0, i1, e⟩ := o3 q q0 (by omega)
      by_cases ci : i < s
      · exact ⟨i, i0, by omega, (n1 i i0 ci).trans e⟩
      · exact ⟨i + 1, by omega, by omega, by rw [(n3 (i + 1) (by omega) (by omega)).1, show i + 1 - 1 = i by omega]; exact e⟩
theorem vPg_w (h : vPg T a) (hp : 1 ≤ p ∧ p ≤ 3) (hk : a 96 p = k) (hk0 : 0 ≤ k ∧ k < 3) (hx : 1 ≤ x ∧ x ≤ 9) (hg : vGt ts) (hl : ts.length ≤ 40) (h1 : vAd p k x ts a a1) (h2 : vAr p k x ts a1 a2) (e1 : ∀ q j, 96 ≤ q → q ≤ 99 → a1 q j = a q j) (e2 : ∀ q j, 8 ≤ q → q ≤ 12 → a2 q j = a1 q j) : vPg (fun i => if i = p * 3 + k then ts else T i) a2 := by
  obtain ⟨p1, p2, p3, p4⟩ := h
  obtain ⟨⟨c1, c2⟩, ⟨c3, c4⟩, ⟨c5, c6⟩, ⟨c7, c8⟩, q, d1, d2, d3, d4, d5⟩ := h1
  obtain ⟨⟨f1, f2⟩, ⟨f3, f4⟩, ⟨f5, f6⟩, f7, f8⟩ := h2
  rw [show 3 * p + k = p * 3 + k by omega] at f3 f4 f5 f6 f7 f8
  have g12 : ∀ j, ¬ j = p → a2 12 j = a 12 j := fun j hj => (e2 12 j (by decide) (by decide)).trans (c2 j hj)
  have g12p : a2 12 p = k + 1 := (e2 12 p (by decide) (by decide)).trans c1
  have g96 : ∀ j, ¬ j = p → a2 96 j = a 96 j := fun j hj => (f2 j hj).trans (e1 96 j (by decide) (by decide))
  have g97 : ∀ j, ¬ j = p * 3 + k → a2 97 j = a 97 j := fun j hj => (f4 j hj).trans (e1 97 j (by decide) (by decide))
  have g98 : ∀ j, ¬ j = p * 3 + k → a2 98 j = a 98 j := fun j hj => (f6 j hj).trans (e1 98 j (by decide) (by decide))
  have g99 : ∀ j, (j < 60 * (p * 3 + k) ∨ 60 * (p * 3 + k) + 60 ≤ j) → a2 99 j = a 99 j := fun j hj => (f8 j hj).trans (e1 99 j (by decide) (by decide))
  have g8 : ∀ j, (j < (p * 3 + k) * 40 ∨ (p * 3 + k) * 40 + 40 ≤ j) → a2 8 j = a 8 j := fun j hj => (e2 8 j (by decide) (by decide)).trans (c4 j hj)
  have g9 : ∀ j, ¬ j = p * 3 + k → a2 9 j = a 9 j := fun j hj => (e2 9 j (by decide) (by decide)).trans (c6 j hj)
  have g10 : ∀ j, ¬ j = p * 3 + k → a2 10 j = a 10 j := fun j hj => (e2 10 j (by decide) (by decide)).trans (c8 j hj)
  have g11 : ∀ i, (i < q ∨ p * 3 + k < i) → a2 11 i = a 11 i := fun i hi => (e2 11 i (by decide) (by decide)).trans (d2 i hi)
  -- what p's wishes become
  have key := vOr_p (k := k) (x := x) (s := q - p * 3) (W := fun i => a 97 (p * 3 + i)) (W' := fun i => a2 97 (p * 3 + i)) (o := fun i => a 11 (p * 3 + i)) (o' := fun i => a2 11 (p * 3 + i)) hk0.1 (by omega) (fun i i0 i1 => by
      have := p4 p i hp.1 hp.2 i0 (by omega)
      rw [hk] at this
      exact this) (fun i j i0 ij jk => (p3 p hp.1 hp.2).1 i j i0 ij (by omega)) (fun r r0 r1 => by
      obtain ⟨i, i0, i1, e⟩ := (p3 p hp.1 hp.2).2 r r0 (by omega)
      exact ⟨i, i0, by omega, e⟩) f3 (fun i i0 i1 => g97 _ (by omega)) (fun i i0 i1 => g11 _ (by omega)) (by
      show a2 11 (p * 3 + (q - p * 3)) = k
      rw [show p * 3 + (q - p * 3) = q by omega, e2 11 q (by decide) (by decide)]
      exact d3) (fun i i0 i1 => by
      obtain ⟨r1, r2⟩ := d4 (p * 3 + i) (by omega) (by omega)
      rw [show p * 3 + i - 1 = p * 3 + (i - 1) by omega] at r1 r2
      have b := p4 p (i - 1) hp.1 hp.2 (by omega) (by omega)
      refine ⟨(e2 11 _ (by decide) (by decide)).trans r1, ?_⟩
      have w := (p2 p (a 11 (p * 3 + (i - 1))) hp.1 hp.2 b.1 b.2).2.2.1
      rw [c8 _ (by omega), w] at r2
      exact r2) (by
      rcases d5 with e | e
      · exact Or.inl (by omega)
      · by_cases c : q = p * 3
        · exact Or.inl (by omega)
        · have b := p4 p (q - 1 - p * 3) hp.1 hp.2 (by omega) (by omega)
          rw [show p * 3 + (q - 1 - p * 3) = q - 1 by omega] at b
          have w := (p2 p (a 11 (q - 1)) hp.1 hp.2 b.1 b.2).2.2.1
          rw [c8 _ (by omega), w] at e
          refine Or.inr ?_
          show x ≤ a 97 (p * 3 + a 11 (p * 3 + (q - p * 3 - 1)))
          rw [show p * 3 + (q - p * 3 - 1) = q - 1 by omega]
          exact e)
  obtain ⟨K1, K2, K3⟩ := key
  have g11o : ∀ f i, 1 ≤ f → f ≤ 3 → ¬ f = p → 0 ≤ i → i < 3 → a2 11 (f * 3 + i) = a 11 (f * 3 + i) := fun f i f0 f1' c i0 i1 => g11 _ (by omega)
  refine ⟨fun f f0 f1' => ?_, fun f i f0 f1' i0 i1 => ?_, fun f f0 f1' => ?_, fun f i f0 f1' i0 i1 => ?_⟩
  · by_cases c : f = p
    · rw [c, g12p, f1]
      exact ⟨rfl, by omega, by omega⟩
    · rw [g12 f c, g96 f c]
      exact p1 f f0 f1'
  · by_cases c : f = p ∧ i = k
    · obtain ⟨c0, c9⟩ := c
      rw [c0, c9]
      dsimp only
      rw [if_pos rfl, f3, f5]
      refine ⟨vRe_g hg hl, hx, (e2 10 _ (by decide) (by decide)).trans c7, (e2 9 _ (by decide) (by decide)).trans c5, rfl, fun j t ht => ⟨(e2 8 _ (by decide) (by decide)).trans (c3 j t ht), f7 j t ht⟩⟩
    · have hi : i < a 96 f := by
        by_cases cp : f = p
        · rw [cp, f1] at i1
          rw [cp, hk]
          omega
        · rw [g96 f cp] at i1
          exact i1
      have h3 := (p1 f f0 f1').2.2
      have hne : ¬ f * 3 + i = p * 3 + k := fun e => c (by omega)
      obtain ⟨r1, r2, r3, r4, r5, r6⟩ := p2 f i f0 f1' i0 hi
      dsimp only
      rw [if_neg hne, g97 _ hne, g10 _ hne, g9 _ hne, g98 _ hne]
      refine ⟨r1, r2, r3, r4, r5, fun j t ht => ?_⟩
      have hj : j < (T (f * 3 + i)).length := by
        rcases Nat.lt_or_ge j (T (f * 3 + i)).length with g | g
        · exact g
        · rw [List.getElem?_eq_none g] at ht
          cases ht
      have h40 := r1.1
      rw [g8 _ (by omega), g99 _ (by omega)]
      exact r6 j t ht
  · by_cases c : f = p
    · rw [c, f1]
      exact ⟨K2, K3⟩
    · rw [g96 f c]
      have h3 := (p1 f f0 f1').2.2
      obtain ⟨r1, r2⟩ := p3 f f0 f1'
      refine ⟨fun i j i0 ij jc => ?_, fun r r0 r1' => ?_⟩
      · have b1 := p4 f i f0 f1' i0 (by omega)
        have b2 := p4 f j f0 f1' (by omega) jc
        rw [g11o f i f0 f1' c i0 (by omega), g11o f j f0 f1' c (by omega) (by omega), g97 _ (by omega), g97 _ (by omega)]
        exact r1 i j i0 ij jc
      · obtain ⟨i, i0, i1, e⟩ := r2 r r0 r1'
        exact ⟨i, i0, i1, by rw [g11o f i f0 f1' c i0 (by omega)]; exact e⟩
  · by_cases c : f = p
    · rw [c, f1] at i1 ⊢
      exact K1 i i0 i1
    · rw [g96 f c] at i1 ⊢
      have h3 := (p1 f f0 f1').2.2
      rw [g11o f i f0 f1' c i0 (by omega)]
      exact p4 f i f0 f1' i0 i1
/-- but for the tape, the readers, the wishes, the laws -/
theorem vPre_f (h : vPre a b) (hA : xAr a2) (e : ∀ q j, ¬ q = 1 → ¬ q = 2 → ¬ (8 ≤ q ∧ q ≤ 20) → ¬ (31 ≤ q ∧ q ≤ 33) → ¬ (93 ≤ q ∧ q ≤ 107) → ¬ (q = 87 ∧ (j = 3 ∨ 9 ≤ j)) → ¬ q = 125 → a2 q j = a q j) (hl : vPl a2) (hg : ∃ T, vPg T a2) : vPre a2 b := by
  obtain ⟨⟨g1, g2⟩, _, hs, hp, hw, hv, _, _⟩ := h
  have e' : ∀ q j, ¬ (q ≤ 2 ∧ ¬ q = 0) → ¬ (8 ≤ q ∧ q ≤ 20) → ¬ (31 ≤ q ∧ q ≤ 33) → ¬ (93 ≤ q ∧ q ≤ 107) → ¬ (q = 87 ∧ (j = 3 ∨ 9 ≤ j)) → ¬ q = 125 → a2 q j = a q j := fun q j h1 h2 h3 h4 h5 h6 => e q j (by omega) (by omega) h2 h3 h4 h5 h6
  have e88 : a2 88 = a 88 := funext fun j => e' 88 j (by omega) (by omega) (by omega) (by omega) (by omega) (by omega)
  refine ⟨⟨(e' 0 12 (by omega) (by omega) (by omega) (by omega) (by omega) (by omega)).trans g1, (e' 87 4 (by omega) (by omega) (by omega) (by omega) (by omega) (by omega)).trans g2⟩, hA, vPs_o hs (fun q j hq => e' q j (by omega) (by omega) (by omega) (by omega) (by omega) (by omega)) rfl, vPp_o hp (fun q j hq => e' q j (by omega) (by omega) (by omega) (by omega) (by omega) (by omega)), ?_, vPv_o hv (fun q j hq => e' q j (by omega) (by omega) (by omega) (by omega) (by omega) (by omega)) (fun _ => ⟨rfl, rfl⟩), hl, hg⟩
  rw [e88, e' 87 2 (by omega) (by omega) (by omega) (by omega) (by omega) (by omega)]
  exact hw
/-- wish -/
theorem vB31 (h : vPz a b) (hb : tB (a 2)) (h11 : ∀ i, 0 ≤ i → 0 ≤ a 11 i ∧ a 11 i ≤ 2) (h12 : ∀ i, 0 ≤ i → 0 ≤ a 12 i ∧ a 12 i ≤ 3) (h96 : ∀ i, 0 ≤ i → 0 ≤ a 96 i ∧ a 96 i ≤ 3) (q1 : xR p) (q2 : xR x) (q3 : xR n) (hd : 34 ≤ d) : uBo Ln xs vPz d 31 153 [xV p, xV x, xV n] a b := by
  intro Q hQ
  have h0 := h
  obtain ⟨⟨⟨g1, g2⟩, hA, hs, hp, hw, hv, hl, T, hT⟩, z1, z2, z3⟩ := h
  have cp : 1 ≤ p → p ≤ 3 → a 12 p = a 96 p := fun c1 c2 => (hT.1 p c1 c2).1
  refine ym31 (t := a 2) q1 q2 q3 g1 rfl z2 (fun _ _ _ => rfl) hb hA h11 h12 hd (fun hno => hQ _ _ _ (fun Q2 h2 => ?_)) (fun hy a1 f m hm A1 l1 fr => hQ _ _ _ (fun Q2 h2 => ?_)) (fun hy a1 ts m hm hgt hl40 A1 l1 had fr => hQ _ _ _ (fun Q2 h2 => ?_))
  · have hno' : ¬ (1 ≤ p ∧ p ≤ 3 ∧ 1 ≤ x ∧ x ≤ 9 ∧ 1 ≤ n ∧ n ≤ 40 ∧ a 96 p < 3 ∧ n ≤ a 1 1) := fun e => hno (by
      have := cp e.1 e.2.1
      omega)
    exact ym153 (m := 0) (r := .inl 0) (t := fun j => a 93 j % 256) q1 q2 q3 g2 z1.symm z2 (fun _ _ _ => rfl) (fun j _ => (by
      show 0 ≤ a 93 j % 256 ∧ a 93 j % 256 ≤ 255
      omega)) hA h96 (by omega) (fun e => absurd e hno') (fun _ => h2 a b h0) (fun e => absurd e hno') (fun e => absurd e hno')
  · have hy' : 1 ≤ p ∧ p ≤ 3 ∧ 1 ≤ x ∧ x ≤ 9 ∧ 1 ≤ n ∧ n ≤ 40 ∧ a1 96 p < 3 ∧ n ≤ a 1 1 := by
      have := cp hy.1 hy.2.1
      have := fr 96 p (by decide) (by decide) (by decide)
      omega
    refine ym153 (m := m) (r := .inl f) (t := a 2) q1 q2 q3 ((fr 87 4 (by decide) (by decide) (by decide)).trans g2) ((fr 87 9 (by decide) (by decide) (by decide)).trans z1.symm) z2 (fun j j0 j1 => ?_) hb A1 (fun i i0 => ?_) (by omega) (fun _ => hm) (fun e => absurd hy' e) (fun _ a2 f' ef A2 l2 gr zr => ?_) (fun _ a2 ts' ef => by cases ef)
    · rw [fr 93 j (by decide) (by decide) (by decide)]
      exact (z3 j j0 (by omega)).symm
    · rw [fr 96 i (by decide) (by decide) (by decide)]
      exact h96 i i0
    · cases ef
      have e12 : ∀ q j, ¬ q = 1 → ¬ q = 31 → ¬ q = 32 → ¬ q = 87 → ¬ q = 94 → ¬ q = 95 → a2 q j = a q j := fun q j h1 h2 h3 h4 h5 h6 => (gr q j h4 h5 h6).trans (fr q j h1 h2 h3)
      have e87 : ∀ j, ¬ 9 ≤ j → a2 87 j = a 87 j := fun j hj => (zr.2 j (by omega) (by omega) (by omega) (by omega) (by omega) (by omega) (by omega) (by omega)).trans (fr 87 j (by decide) (by decide) (by decide))
      have e11 : a2 1 1 = 0 := (gr 1 1 (by decide) (by decide) (by decide)).trans l1
      refine h2 a2 b ⟨vPre_f h0.1 A2 (fun q j h1 h2 h3 h4 h5 h6 _ => ?_) (vPl_o hl (fun q j hq => ?_)) ⟨T, vPg_o hT (fun q j hq => e12 q j (by omega) (by omega) (by omega) (by omega) (by omega) (by omega))⟩, e11.trans l2.symm, by omega, fun j j0 j1 => by omega⟩
      · by_cases c : q = 87
        · rw [c]
          exact e87 j (by omega)
        · exact e12 q j h1 (by omega) (by omega) c (by omega) (by omega)
      · by_cases c : q = 87
        · rw [c]
          exact e87 j (by omega)
        · exact e12 q j (by omega) (by omega) (by omega) c (by omega) (by omega)
  · have ck := cp hy.1 hy.2.1
    have f96 : ∀ j, a1 96 j = a 96 j := fun j => fr 96 j (by decide) (by decide) (by decide) (by decide) (by decide) (by decide) (by decide) (by decide)
    have hy' : 1 ≤ p ∧ p ≤ 3 ∧ 1 ≤ x ∧ x ≤ 9 ∧ 1 ≤ n ∧ n ≤ 40 ∧ a1 96 p < 3 ∧ n ≤ a 1 1 := by
      have := f96 p
      omega
    have fw : ∀ q j, 33 ≤ q → a1 q j = a q j := fun q j hq => fr q j (by omega) (by omega) (by omega) (by omega) (by omega) (by omega) (by omega) (by omega)
    refine ym153 (m := m) (r := .inr ts) (t := a 2) q1 q2 q3 ((fw 87 4 (by decide)).trans g2) ((fw 87 9 (by decide)).trans z1.symm) z2 (fun j j0 j1 => ?_) hb A1 (fun i i0 => ?_) (by omega) (fun _ => hm) (fun e => absurd hy' e) (fun _ a2 f' ef => by cases ef) (fun _ a2 ts' ef A2 l2 had2 zr => ?_)
    · rw [fw 93 j (by decide)]
      exact (z3 j j0 (by omega)).symm
    · rw [f96]
      exact h96 i i0
    · cases ef
      have e12 : ∀ q j, ¬ q = 1 → ¬ (8 ≤ q ∧ q ≤ 12) → ¬ q = 31 → ¬ q = 32 → ¬ q = 87 → ¬ (94 ≤ q ∧ q ≤ 99) → a2 q j = a q j := fun q j h1 h2 h3 h4 h5 h6 => (zr.1 q j h5 (by omega) (by omega) (by omega) (by omega) (by omega) (by omega)).trans (fr q j h1 (by omega) (by omega) (by omega) (by omega) (by omega) h3 h4)
      have e87 : ∀ j, ¬ 9 ≤ j → a2 87 j = a 87 j := fun j hj => (zr.2 j (by omega) (by omega) (by omega) (by omega) (by omega) (by omega) (by omega) (by omega)).trans (fw 87 j (by decide))
      have e11 : a2 1 1 = 0 := (zr.1 1 1 (by decide) (by decide) (by decide) (by decide) (by decide) (by decide) (by decide)).trans l1
      rw [f96, ← ck]
      rw [f96] at had2
      rw [← ck] at had2
      refine h2 a2 b ⟨vPre_f h0.1 A2 (fun q j h1 h2 h3 h4 h5 h6 _ => ?_) (vPl_o hl (fun q j hq => ?_)) ⟨_, vPg_w hT ⟨hy.1, hy.2.1⟩ ck.symm ⟨by have := h12 p (by omega); omega, by omega⟩ ⟨hy.2.2.1, hy.2.2.2.1⟩ hgt hl40 had had2 (fun q j h1 h2 => fw q j (by omega)) (fun q j h1 h2 => zr.1 q j (by omega) (by omega) (by omega) (by omega) (by omega) (by omega) (by omega))⟩, e11.trans l2.symm, by omega, fun j j0 j1 => by omega⟩
      · by_cases c : q = 87
        · rw [c]
          exact e87 j (by omega)
        · exact e12 q j h1 (by omega) (by omega) (by omega) c (by omega)
      · by_cases c : q = 87
        · rw [c]
          exact e87 j (by omega)
        · exact e12 q j (by omega) (by omega) (by omega) (by omega) c (by omega)
/-- law -/
theorem vB47 (h : vPz a b) (hb : tB (a 2)) (hm0 : 0 ≤ a 13 7 ∧ a 13 7 ≤ 6) (q1 : xR n) (hd : 8 ≤ d) : uBo Ln xs vPz d 47 166 [xV n] a b := by
  intro Q hQ
  have h0 := h
  obtain ⟨⟨⟨g1, g2⟩, hA, hs, hp, hw, hv, ⟨l1, l2, l3, l4⟩, T, hT⟩, z1, z2, z3⟩ := h
  obtain ⟨m, em⟩ : ∃ m, a 13 7 = m := ⟨_, rfl⟩
  rw [em] at hm0 l3 l4
  refine ym47 (t := a 2) q1 g1 em rfl hm0 z2 (fun _ _ _ => rfl) hb hA hd (fun hno => hQ _ _ _ (fun Q2 h2 => ?_)) (fun hy hf a1 A1 vg m1 t1 => hQ _ _ _ (fun Q2 h2 => ?_)) (fun hy hf a1 A1 r19 fr m1 t1 s1 => hQ _ _ _ (fun Q2 h2 => ?_))
  · exact ym166 (t := fun j => a 93 j % 256) q1 g2 l3.symm z1.symm hm0 z2 (fun _ _ _ => rfl) (fun j _ => (by
      show 0 ≤ a 93 j % 256 ∧ a 93 j % 256 ≤ 255
      omega)) hA hd (fun _ => h2 a b h0) (fun e => absurd e hno) (fun e => absurd e hno)
  · have fr : ∀ q j, ¬ q = 1 → ¬ q = 33 → ¬ (14 ≤ q ∧ q ≤ 19) → a1 q j = a q j := vg.1
    refine ym166 (t := a 2) q1 ((fr 87 4 (by decide) (by decide) (by decide)).trans g2) ((fr 87 3 (by decide) (by decide) (by decide)).trans l3.symm) ((fr 87 9 (by decide) (by decide) (by decide)).trans z1.symm) hm0 z2 (fun j j0 j1 => ?_) hb A1 hd (fun e => absurd hy e) (fun _ _ a2 A2 vr m2 t2 => ?_) (fun _ e => absurd e hf)
    · rw [fr 93 j (by decide) (by decide) (by decide)]
      exact (z3 j j0 (by omega)).symm
    · have e12 : ∀ q j, ¬ q = 1 → ¬ q = 33 → ¬ (14 ≤ q ∧ q ≤ 19) → ¬ (q = 87 ∧ 9 ≤ j) → ¬ (101 ≤ q ∧ q ≤ 107) → a2 q j = a q j := fun q j h1 h2 h3 h4 h5 => (vr.1 q j h4 h5).trans (fr q j h1 h2 h3)
      have e11 : a2 1 1 = 0 := (vr.1 1 1 (by omega) (by decide)).trans t1
      refine h2 a2 b ⟨vPre_f h0.1 A2 (fun q j h1 h2 h3 h4 h5 h6 _ => e12 q j h1 (by omega) (by omega) (by omega) (by omega)) ⟨fun c c0 c1 => ?_, fun c c0 c1 => ?_, ?_, fun i i0 i1 => ?_⟩ ⟨T, vPg_o hT (fun q j hq => e12 q j (by omega) (by omega) (by omega) (by omega) (by omega))⟩, e11.trans t2.symm, by omega, fun j j0 j1 => by omega⟩
      · rw [vr.1 19 c (by omega) (by decide)]
        exact vg.2 c c0 c1 (l1 c c0 c1)
      · refine vr.2 c c0 c1 ?_
        rw [fr 106 c (by decide) (by decide) (by decide)]
        exact l2 c c0 c1
      · rw [e12 13 7 (by decide) (by decide) (by decide) (by omega) (by decide), e12 87 3 (by decide) (by decide) (by decide) (by omega) (by decide), em]
        exact l3
      · rw [e12 13 7 (by decide) (by decide) (by decide) (by omega) (by decide), em] at i1
        rw [e12 20 i (by decide) (by decide) (by decide) (by omega) (by decide), e12 100 i (by decide) (by decide) (by decide) (by omega) (by decide)]
        exact l4 i i0 i1
  · have fw : ∀ q j, 34 ≤ q → a1 q j = a q j := fun q j hq => fr q j (by omega) (by omega) (by omega) (by omega) (by omega)
    refine ym166 (t := a 2) q1 ((fw 87 4 (by decide)).trans g2) ((fw 87 3 (by decide)).trans l3.symm) ((fw 87 9 (by decide)).trans z1.symm) hm0 z2 (fun j j0 j1 => ?_) hb A1 hd (fun e => absurd hy e) (fun _ e => absurd hf e) (fun _ _ a2 A2 r106 fr2 m2 t2 s2 => ?_)
    · rw [fw 93 j (by decide)]
      exact (z3 j j0 (by omega)).symm
    · have e12 : ∀ q j, ¬ q = 1 → ¬ q = 33 → ¬ (14 ≤ q ∧ q ≤ 20) → ¬ (q = 13 ∧ j = 7) → ¬ (q = 87 ∧ (9 ≤ j ∨ j = 3)) → ¬ (100 ≤ q ∧ q ≤ 107) → a2 q j = a q j := fun q j h1 h2 h3 h4 h5 h6 => (fr2 q j h5 (by omega) (by omega)).trans (fr q j h1 h2 (by omega) (by omega) h4)
      have e11 : a2 1 1 = 0 := (fr2 1 1 (by omega) (by decide) (by omega)).trans t1
      have e13 : a2 13 7 = m + 1 := (fr2 13 7 (by omega) (by decide) (by omega)).trans m1
      refine h2 a2 b ⟨vPre_f h0.1 A2 (fun q j h1 h2 h3 h4 h5 h6 _ => e12 q j h1 (by omega) (by omega) (by omega) (by omega) (by omega)) ⟨fun c c0 c1 => ?_, fun c c0 c1 => ?_, e13.trans m2.symm, fun i i0 i1 => ?_⟩ ⟨T, vPg_o hT (fun q j hq => e12 q j (by omega) (by omega) (by omega) (by omega) (by omega) (by omega))⟩, e11.trans t2.symm, by omega, fun j j0 j1 => by omega⟩
      · rw [fr2 19 c (by omega) (by decide) (by omega)]
        exact r19 c c0 c1 (l1 c c0 c1)
      · refine r106 c c0 c1 ?_
        rw [fw 106 c (by decide)]
        exact l2 c c0 c1
      · rw [e13] at i1
        rw [fr2 20 i (by omega) (by decide) (by omega)]
        by_cases c : i = m
        · rw [c, s1, s2]
        · rw [fr2 100 i (by omega) (by decide) (by omega), fw 100 i (by decide), fr 20 i (by decide) (by decide) (by decide) (by omega) (by omega)]
          exact l4 i i0 (by omega)
end
end
