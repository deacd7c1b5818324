/-! feed once more: what it leaves -/
section
set_option maxRecDepth 100000


section
variable {a a1 a2 : xA}
/-- what feeding leaves -/
def vFd (a a1 : xA) : Prop := ∀ q j, ¬ q = 2 → ¬ (q = 1 ∧ j = 1) → a1 q j = a q j
def vFe (a a1 : xA) : Prop := ∀ q j, ¬ q = 93 → ¬ (q = 87 ∧ j = 9) → a1 q j = a q j
theorem vFd.tr (h : vFd a a1) (h' : vFd a1 a2) : vFd a a2 := fun q j e1 e2 => (h' q j e1 e2).trans (h q j e1 e2)
theorem vFe.tr (h : vFe a a1) (h' : vFe a1 a2) : vFe a a2 := fun q j e1 e2 => (h' q j e1 e2).trans (h q j e1 e2)
end
theorem xm30 {ro : Nat → Nat × (Nat → Int32)} {d : Nat} {Q : Option Value → pmS → Prop} {a : xA} {b : xB} {x l : Int} {t : Int → Int} (h_x : xR x) (hl : a 1 1 = l) (hl0 : 0 ≤ l ∧ l ≤ 396) (ht : ∀ j, 0 ≤ j → j < l → a 2 j = t j) (hA : xAr a) (hd : 1 ≤ d) (hQ : ∀ a1, xAr a1 → a1 1 1 = l + 4 → (∀ j, 0 ≤ j → j < l + 4 → a1 2 j = fT t l x j) → vFd a a1 → Q none (xS a1 b)) : pmCs ro d 30 [.ref 1, xV x] (xS a b) Q := by
  refine pmCs_deep (d := 1) (xg30 (w30 h_x hl hl0 hA ?_)) hd
  have bx : ∀ s : Int, xR (xUs x s % 256) := fun s => ⟨by omega, by omega⟩
  refine hQ _ ?_ ?_ (fun j j0 j1 => ?_) (fun q j e1 e2 => ?_)
  · repeat (first | exact hA | refine xAr_u ?_ ?_ | exact bx _ | exact ⟨by omega, by omega⟩)
  · rw [xUa]
    omega
  · rw [xUn (by decide)]
    have e0 := fU24 h_x
    have e1 : xUs x (24 + (-8)) % 256 = _ := fU16 h_x
    have e2 : xUs x (24 + (-8) + (-8)) % 256 = _ := fU8 h_x
    have e3 : xUs x (24 + (-8) + (-8) + (-8)) % 256 = _ := fU0 h_x
    unfold fT fB
    by_cases c3 : j = l + 1 + 1 + 1
    · subst c3
      rw [xUa, e3, if_neg (by omega), if_neg (by omega), if_neg (by omega), if_neg (by omega)]
    · rw [xUk c3, xUn (by decide)]
      by_cases c2 : j = l + 1 + 1
      · subst c2
        rw [xUa, e2, if_neg (by omega), if_neg (by omega), if_neg (by omega), if_pos (by omega)]
      · rw [xUk c2, xUn (by decide)]
        by_cases c1 : j = l + 1
        · subst c1
          rw [xUa, e1, if_neg (by omega), if_neg (by omega), if_pos (by omega)]
        · rw [xUk c1, xUn (by decide)]
          by_cases c0 : j = l
          · subst c0
            rw [xUa, e0, if_neg (by omega), if_pos (by omega)]
          · rw [xUk c0, if_pos (by omega)]
            exact ht j j0 (by omega)
  · unfold xU
    rw [if_neg (by omega), if_neg (by omega), if_neg (by omega), if_neg (by omega), if_neg (by omega), if_neg (by omega), if_neg (by omega), if_neg (by omega)]
theorem xm152 {ro : Nat → Nat × (Nat → Int32)} {d : Nat} {Q : Option Value → pmS → Prop} {a : xA} {b : xB} {x l : Int} {t : Int → Int} (h_x : xR x) (hl : a 87 9 = l) (hl0 : 0 ≤ l ∧ l ≤ 396) (ht : ∀ j, 0 ≤ j → j < l → a 93 j % 256 = t j) (hA : xAr a) (hd : 1 ≤ d) (hQ : ∀ a1, xAr a1 → a1 87 9 = l + 4 → (∀ j, 0 ≤ j → j < l + 4 → a1 93 j % 256 = fT t l x j) → vFe a a1 → Q none (xS a1 b)) : pmCs ro d 152 [.ref 87, xV x] (xS a b) Q := by
  refine pmCs_deep (d := 1) (xg152 (w152 h_x hl hl0 hA ?_)) hd
  have bx : ∀ s : Int, xR (xByte s) := fun s => by
    have := xByteB s
    exact ⟨by omega, by omega⟩
  refine hQ _ ?_ ?_ (fun j j0 j1 => ?_) (fun q j e1 e2 => ?_)
  · repeat (first | exact hA | refine xAr_u ?_ ?_ | exact bx _ | exact ⟨by omega, by omega⟩)
  · rw [xUa]
    omega
  · rw [xUn (by decide)]
    unfold fT fB
    by_cases c3 : j = l + 1 + 1 + 1
    · subst c3
      rw [xUa, fBy, if_neg (by omega), if_neg (by omega), if_neg (by omega), if_neg (by omega)]
    · rw [xUk c3, xUn (by decide)]
      by_cases c2 : j = l + 1 + 1
      · subst c2
        rw [xUa, fBy, if_neg (by omega), if_neg (by omega), if_neg (by omega), if_pos (by omega)]
      · rw [xUk c2, xUn (by decide)]
        by_cases c1 : j = l + 1
        · subst c1
          rw [xUa, fBy, if_neg (by omega), if_neg (by omega), if_pos (by omega)]
        · rw [xUk c1, xUn (by decide)]
          by_cases c0 : j = l
          · subst c0
            rw [xUa, fBy, if_neg (by omega), if_pos (by omega)]
          · rw [xUk c0, if_pos (by omega)]
            exact ht j j0 (by omega)
  · unfold xU
    rw [if_neg (by omega), if_neg (by omega), if_neg (by omega), if_neg (by omega), if_neg (by omega), if_neg (by omega), if_neg (by omega), if_neg (by omega)]
theorem wm29 {ro : Nat → Nat × (Nat → Int32)} {d : Nat} {Q : Option Value → pmS → Prop} {a : xA} {b : xB} {l v0 v1 v2 v3 v4 : Int} {t : Int → Int} (h_v0 : xR v0) (h_v1 : xR v1) (h_v2 : xR v2) (h_v3 : xR v3) (h_v4 : xR v4) (hl : a 1 1 = l) (hl0 : 0 ≤ l ∧ l ≤ 400) (ht : ∀ j, 0 ≤ j → j < l → a 2 j = t j) (hA : xAr a) (hd : 1 ≤ d)
    (k1 : (l + 20 ≤ 400) → ∀ a1 : xA, (xAr a1) → (a1 1 1 = l + 4) → (∀ j : Int, 0 ≤ j → j < l + 4 → a1 2 j = fT t l v0 j) → (vFd a a1) → ∀ a2 : xA, (xAr a2) → (a2 1 1 = l + 4 + 4) → (∀ j : Int, 0 ≤ j → j < l + 4 + 4 → a2 2 j = fT (fT t l v0) (l + 4) v1 j) → (vFd a1 a2) → ∀ a3 : xA, (xAr a3) → (a3 1 1 = l + 4 + 4 + 4) → (∀ j : Int, 0 ≤ j → j < l + 4 + 4 + 4 → a3 2 j = fT (fT (fT t l v0) (l + 4) v1) (l + 4 + 4) v2 j) → (vFd a2 a3) → ∀ a4 : xA, (xAr a4) → (a4 1 1 = l + 4 + 4 + 4 + 4) → (∀ j : Int, 0 ≤ j → j < l + 4 + 4 + 4 + 4 → a4 2 j = fT (fT (fT (fT t l v0) (l + 4) v1) (l + 4 + 4) v2) (l + 4 + 4 + 4) v3 j) → (vFd a3 a4) → ∀ a5 : xA, (xAr a5) → (a5 1 1 = l + 4 + 4 + 4 + 4 + 4) → (∀ j : Int, 0 ≤ j → j < l + 4 + 4 + 4 + 4 + 4 → a5 2 j = fT (fT (fT (fT (fT t l v0) (l + 4) v1) (l + 4 + 4) v2) (l + 4 + 4 + 4) v3) (l + 4 + 4 + 4 + 4) v4 j) → (vFd a4 a5) → Q (some (xV (l + 4 + 4 + 4 + 4 + 4))) (xS a5 b))
    (k2 : (¬ l + 20 ≤ 400) → Q (some (xV (-1))) (xS a b)) :
    pmWp ro d 11 29 1 0 [some (.ref 0), some (xV v0), some (xV v1), some (xV v2), some (xV v3), some (xV v4)] [] (xS a b) Q := by
  refine x_aloadn xc29_0 rfl ?_
  refine x_gfr xc29_1 rfl rfl xz0 rfl ?_
  refine x_gfi' (k := 1) (v := l) xc29_4 rfl (Or.inl rfl) rfl xz1 hl ?_
  refine x_bipush xc29_7 (by decide) ?_
  refine x_iadd xc29_9 ?_
  refine x_sipush xc29_10 (by decide) ?_
  refine x_icle xc29_13 (xRk (by omega)) (xRk (by decide)) (fun h0 => ?_) (fun h0 => ?_)
  · refine x_aloadn xc29_18 rfl ?_
    refine x_gfr xc29_19 rfl rfl xz0 rfl ?_
    refine x_iloadn xc29_22 rfl ?_
    refine x_cV (as := [xV v0]) (rest := []) xc29_23 rfl xi30 xz1 ⟨rfl, rfl⟩ rfl rfl ?_
    refine xm30 (xRk (by have g0 := xRb h_v0; omega)) hl (by omega) ht hA (by omega) (fun a1 h1 h2 h3 h4 => ?_)
    refine x_aloadn xc29_26 rfl ?_
    refine x_gfr xc29_27 rfl rfl xz0 rfl ?_
    refine x_iloadn xc29_30 rfl ?_
    refine x_cV (as := [xV v1]) (rest := []) xc29_31 rfl xi30 xz1 ⟨rfl, rfl⟩ rfl rfl ?_
    refine xm30 (xRk (by have g0 := xRb h_v1; omega)) h2 (by omega) h3 h1 (by omega) (fun a2 h5 h6 h7 h8 => ?_)
    refine x_aloadn xc29_34 rfl ?_
    refine x_gfr xc29_35 rfl rfl xz0 rfl ?_
    refine x_iloadn xc29_38 rfl ?_
    refine x_cV (as := [xV v2]) (rest := []) xc29_39 rfl xi30 xz1 ⟨rfl, rfl⟩ rfl rfl ?_
    refine xm30 (xRk (by have g0 := xRb h_v2; omega)) h6 (by omega) h7 h5 (by omega) (fun a3 h9 h10 h11 h12 => ?_)
    refine x_aloadn xc29_42 rfl ?_
    refine x_gfr xc29_43 rfl rfl xz0 rfl ?_
    refine x_iload xc29_46 rfl ?_
    refine x_cV (as := [xV v3]) (rest := []) xc29_48 rfl xi30 xz1 ⟨rfl, rfl⟩ rfl rfl ?_
    refine xm30 (xRk (by have g0 := xRb h_v3; omega)) h10 (by omega) h11 h9 (by omega) (fun a4 h13 h14 h15 h16 => ?_)
    refine x_aloadn xc29_51 rfl ?_
    refine x_gfr xc29_52 rfl rfl xz0 rfl ?_
    refine x_iload xc29_55 rfl ?_
    refine x_cV (as := [xV v4]) (rest := []) xc29_57 rfl xi30 xz1 ⟨rfl, rfl⟩ rfl rfl ?_
    refine xm30 (xRk (by have g0 := xRb h_v4; omega)) h14 (by omega) h15 h13 (by omega) (fun a5 h17 h18 h19 h20 => ?_)
    refine x_aloadn xc29_60 rfl ?_
    refine x_gfr xc29_61 rfl rfl xz0 rfl ?_
    refine x_gfi' (k := 1) (v := l + 4 + 4 + 4 + 4 + 4) xc29_64 rfl (Or.inl rfl) rfl xz1 h18 ?_
    refine x_iret xc29_67 (Or.inl rfl) ?_
    exact k1 h0 a1 h1 h2 h3 h4 a2 h5 h6 h7 h8 a3 h9 h10 h11 h12 a4 h13 h14 h15 h16 a5 h17 h18 h19 h20
  · refine x_iconst xc29_16 ?_
    refine x_iret xc29_17 (Or.inl rfl) ?_
    exact k2 h0

theorem wm151 {ro : Nat → Nat × (Nat → Int32)} {d : Nat} {Q : Option Value → pmS → Prop} {a : xA} {b : xB} {l v0 v1 v2 v3 v4 : Int} {t : Int → Int} (h_v0 : xR v0) (h_v1 : xR v1) (h_v2 : xR v2) (h_v3 : xR v3) (h_v4 : xR v4) (hl : a 87 9 = l) (hl0 : 0 ≤ l ∧ l ≤ 400) (ht : ∀ j, 0 ≤ j → j < l → a 93 j % 256 = t j) (hA : xAr a) (hd : 1 ≤ d)
    (k1 : (l + 20 ≤ 400) → ∀ a1 : xA, (xAr a1) → (a1 87 9 = l + 4) → (∀ j : Int, 0 ≤ j → j < l + 4 → a1 93 j % 256 = fT t l v0 j) → (vFe a a1) → ∀ a2 : xA, (xAr a2) → (a2 87 9 = l + 4 + 4) → (∀ j : Int, 0 ≤ j → j < l + 4 + 4 → a2 93 j % 256 = fT (fT t l v0) (l + 4) v1 j) → (vFe a1 a2) → ∀ a3 : xA, (xAr a3) → (a3 87 9 = l + 4 + 4 + 4) → (∀ j : Int, 0 ≤ j → j < l + 4 + 4 + 4 → a3 93 j % 256 = fT (fT (fT t l v0) (l + 4) v1) (l + 4 + 4) v2 j) → (vFe a2 a3) → ∀ a4 : xA, (xAr a4) → (a4 87 9 = l + 4 + 4 + 4 + 4) → (∀ j : Int, 0 ≤ j → j < l + 4 + 4 + 4 + 4 → a4 93 j % 256 = fT (fT (fT (fT t l v0) (l + 4) v1) (l + 4 + 4) v2) (l + 4 + 4 + 4) v3 j) → (vFe a3 a4) → ∀ a5 : xA, (xAr a5) → (a5 87 9 = l + 4 + 4 + 4 + 4 + 4) → (∀ j : Int, 0 ≤ j → j < l + 4 + 4 + 4 + 4 + 4 → a5 93 j % 256 = fT (fT (fT (fT (fT t l v0) (l + 4) v1) (l + 4 + 4) v2) (l + 4 + 4 + 4) v3) (l + 4 + 4 + 4 + 4) v4 j) → (vFe a4 a5) → Q (some (xV (l + 4 + 4 + 4 + 4 + 4))) (xS a5 b))
    (k2 : (¬ l + 20 ≤ 400) → Q (some (xV (-1))) (xS a b)) :
    pmWp ro d 12 151 1 0 [some (.ref 87), some (xV v0), some (xV v1), some (xV v2), some (xV v3), some (xV v4)] [] (xS a b) Q := by
  refine x_aloadn xc151_0 rfl ?_
  refine x_gfi' (k := 9) (v := l) xc151_1 rfl (Or.inl rfl) rfl xz87 hl ?_
  refine x_bipush xc151_4 (by decide) ?_
  refine x_iadd xc151_6 ?_
  refine x_sipush xc151_7 (by decide) ?_
  refine x_icle xc151_10 (xRk (by omega)) (xRk (by decide)) (fun h0 => ?_) (fun h0 => ?_)
  · refine x_aloadn xc151_15 rfl ?_
    refine x_iloadn xc151_16 rfl ?_
    refine x_cV (as := [xV v0]) (rest := []) xc151_17 rfl xi152 xz87 ⟨rfl, rfl⟩ rfl rfl ?_
    refine xm152 (xRk (by have g0 := xRb h_v0; omega)) hl (by omega) ht hA (by omega) (fun a1 h1 h2 h3 h4 => ?_)
    refine x_aloadn xc151_20 rfl ?_
    refine x_iloadn xc151_21 rfl ?_
    refine x_cV (as := [xV v1]) (rest := []) xc151_22 rfl xi152 xz87 ⟨rfl, rfl⟩ rfl rfl ?_
    refine xm152 (xRk (by have g0 := xRb h_v1; omega)) h2 (by omega) h3 h1 (by omega) (fun a2 h5 h6 h7 h8 => ?_)
    refine x_aloadn xc151_25 rfl ?_
    refine x_iloadn xc151_26 rfl ?_
    refine x_cV (as := [xV v2]) (rest := []) xc151_27 rfl xi152 xz87 ⟨rfl, rfl⟩ rfl rfl ?_
    refine xm152 (xRk (by have g0 := xRb h_v2; omega)) h6 (by omega) h7 h5 (by omega) (fun a3 h9 h10 h11 h12 => ?_)
    refine x_aloadn xc151_30 rfl ?_
    refine x_iload xc151_31 rfl ?_
    refine x_cV (as := [xV v3]) (rest := []) xc151_33 rfl xi152 xz87 ⟨rfl, rfl⟩ rfl rfl ?_
    refine xm152 (xRk (by have g0 := xRb h_v3; omega)) h10 (by omega) h11 h9 (by omega) (fun a4 h13 h14 h15 h16 => ?_)
    refine x_aloadn xc151_36 rfl ?_
    refine x_iload xc151_37 rfl ?_
    refine x_cV (as := [xV v4]) (rest := []) xc151_39 rfl xi152 xz87 ⟨rfl, rfl⟩ rfl rfl ?_
    refine xm152 (xRk (by have g0 := xRb h_v4; omega)) h14 (by omega) h15 h13 (by omega) (fun a5 h17 h18 h19 h20 => ?_)
    refine x_aloadn xc151_42 rfl ?_
    refine x_gfi' (k := 9) (v := l + 4 + 4 + 4 + 4 + 4) xc151_43 rfl (Or.inl rfl) rfl xz87 h18 ?_
    refine x_iret xc151_46 (Or.inl rfl) ?_
    exact k1 h0 a1 h1 h2 h3 h4 a2 h5 h6 h7 h8 a3 h9 h10 h11 h12 a4 h13 h14 h15 h16 a5 h17 h18 h19 h20
  · refine x_iconst xc151_13 ?_
    refine x_iret xc151_14 (Or.inl rfl) ?_
    exact k2 h0

section
variable {Ln : Nat} {xs : Nat → Int32} {d : Nat} {a : xA} {b : xB} {v0 v1 v2 v3 v4 : Int}
theorem vB29 {I : xA → xB → Prop} (hA : xAr a) (hz : vT a) (h0 : xR v0) (h1 : xR v1) (h2 : xR v2) (h3 : xR v3) (h4 : xR v4) (hd : 2 ≤ d) (hI : ∀ a', xAr a' → vT a' → (∀ q j, ¬ q = 2 → ¬ (q = 1 ∧ j = 1) → ¬ q = 93 → ¬ (q = 87 ∧ j = 9) → a' q j = a q j) → I a' b) : uBo Ln xs I d 29 151 [xV v0, xV v1, xV v2, xV v3, xV v4] a b := by
  intro Q hQ
  obtain ⟨z1, z2, z3⟩ := id hz
  refine pmCs_deep (d := 2) (xg29 (wm29 (t := a 2) h0 h1 h2 h3 h4 rfl z2 (fun _ _ _ => rfl) hA (by decide) (fun e a1 _ _ _ f1 a2 _ _ _ f2 a3 _ _ _ f3 a4 _ _ _ f4 a5 g1 g2 g3 f5 => hQ _ _ _ (fun Q2 hQ2 => ?_)) (fun e => hQ _ _ _ (fun Q2 hQ2 => ?_)))) hd
  · have F : vFd a a5 := vFd.tr f1 (vFd.tr f2 (vFd.tr f3 (vFd.tr f4 f5)))
    have e87 : a5 87 9 = a 1 1 := (F 87 9 (by decide) (by decide)).trans z1.symm
    refine pmCs_deep (d := 2) (xg151 (wm151 (l := a 1 1) (t := a 2) h0 h1 h2 h3 h4 e87 z2 (fun j j0 j1 => ?_) g1 (by decide) (fun e a1 _ _ _ f1 a2 _ _ _ f2 a3 _ _ _ f3 a4 _ _ _ f4 c5 k1 k2 k3 f5 => ?_) (fun e' => absurd e e'))) hd
    · rw [F 93 j (by omega) (by omega)]
      exact (z3 j j0 j1).symm
    · have G : vFe a5 c5 := vFe.tr f1 (vFe.tr f2 (vFe.tr f3 (vFe.tr f4 f5)))
      have e11 : c5 1 1 = a 1 1 + 4 + 4 + 4 + 4 + 4 := (G 1 1 (by decide) (by decide)).trans g2
      refine hQ2 c5 b (hI c5 k1 ⟨e11.trans k2.symm, by omega, fun j j0 j1 => ?_⟩ (fun q j n2 n1 n93 n87 => (G q j n93 n87).trans (F q j n2 n1)))
      rw [e11] at j1
      rw [G 2 j (by omega) (by omega), g3 j j0 j1, k3 j j0 j1]
  · exact pmCs_deep (d := 2) (xg151 (wm151 (l := a 1 1) (t := a 2) h0 h1 h2 h3 h4 z1.symm z2 (fun j j0 j1 => (z3 j j0 j1).symm) hA (by decide) (fun e' => absurd e' e) (fun _ => hQ2 a b (hI a hA hz (fun _ _ _ _ _ _ => rfl))))) hd
end
end
