/-! laws read once more: the numbers, the sizes (the reference) -/
section
set_option maxRecDepth 100000


section
variable {a a1 a2 : xA} {v k : Int} {q : Nat}
/-- what reading a law leaves of sizes and numbers -/
def vGr (a a1 : xA) : Prop := (∀ q j, ¬ (q = 87 ∧ 9 ≤ j) → ¬ (101 ≤ q ∧ q ≤ 107) → a1 q j = a q j) ∧ ∀ j, 0 ≤ j → j < 24 → (0 ≤ a 106 j ∧ a 106 j ≤ 99) → 0 ≤ a1 106 j ∧ a1 106 j ≤ 99
theorem vGr.r : vGr a a := ⟨fun _ _ _ _ => rfl, fun _ _ _ h => h⟩
theorem vGr.u (h1 : (q = 87 ∧ 9 ≤ k) ∨ (101 ≤ q ∧ q ≤ 107)) (h2 : q = 106 → 0 ≤ v ∧ v ≤ 99) (h : vGr a a1) : vGr a (xU a1 q k v) := ⟨fun r j e1 e2 => by
  unfold xU
  rw [if_neg (by omega)]
  exact h.1 r j e1 e2, fun j j0 j1 g => by
  by_cases c : (106 : Nat) = q ∧ j = k
  · unfold xU
    rw [if_pos c]
    exact h2 c.1.symm
  · unfold xU
    rw [if_neg c]
    exact h.2 j j0 j1 g⟩
theorem vGr.tr (h1 : vGr a a1) (h2 : vGr a1 a2) : vGr a a2 := ⟨fun q j e1 e2 => (h2.1 q j e1 e2).trans (h1.1 q j e1 e2), fun j j0 j1 g => h2.2 j j0 j1 (h1.2 j j0 j1 g)⟩
def vLr (a a1 : xA) : Prop := xAr a1 ∧ a1 87 3 = a 87 3 ∧ vGr a a1
theorem vLr.r (h : xAr a) : vLr a a := ⟨h, rfl, vGr.r⟩
theorem vLr.u (hv : xR v) (h1 : ¬ (87 = q ∧ 3 = k)) (h3 : (q = 87 ∧ 9 ≤ k) ∨ (101 ≤ q ∧ q ≤ 107)) (h4 : q = 106 → 0 ≤ v ∧ v ≤ 99) (h : vLr a a1) : vLr a (xU a1 q k v) := ⟨xAr_u h.1 hv, by
  rw [← h.2.1]
  exact if_neg h1, vGr.u h3 h4 h.2.2⟩
theorem vLr.tr (h1 : vLr a a1) (h2 : vLr a1 a2) : vLr a a2 := ⟨h2.1, h2.2.1.trans h1.2.1, vGr.tr h1.2.2 h2.2.2⟩
end
theorem wm171 {ro : Nat → Nat × (Nat → Int32)} {d : Nat} {Q : Option Value → pmS → Prop} {a : xA} {b : xB} {t : Int → Int} {n p : Int} (hC : tR a t n p) (hp : 0 ≤ p ∧ p ≤ n) (hn : n ≤ 60) (hb : tB t) (hA : xAr a) {c : Int} (h_c : xR c) (hc : 0 ≤ c) (hd : 1 ≤ d)
    (k1 : (sG t n p = -1 ∨ p < n) → (sG t n p = c) → Q (some (xV 1)) (xS (xU a 87 10 (p + 1)) b))
    (k2 : (sG t n p = -1 ∨ p < n) → (¬ sG t n p = c) → Q (some (xV 0)) (xS (xU a 87 12 (-1000 * 1 - p)) b)) :
    pmWp ro d 12 171 2 0 [some (.ref 87), some (xV c)] [] (xS a b) Q := by
  refine x_aloadn xc171_0 rfl ?_
  refine x_cV (as := []) (rest := []) xc171_1 rfl xi156 xz87 ⟨rfl, rfl⟩ rfl rfl ?_
  refine xk156 hC (by omega) (by omega) hb hA (by omega) (fun h0 => ?_)
  refine x_iloadn xc171_4 rfl ?_
  refine x_iceq xc171_5 (xRk (by have g0 := sGB (n := n) (p := p) hb (by omega); omega)) (xRk (by have g0 := xRb h_c; omega)) (fun h1 => ?_) (fun h1 => ?_)
  · refine x_aloadn xc171_18 rfl ?_
    refine x_aloadn xc171_19 rfl ?_
    refine x_gfi' (k := 10) (v := p) xc171_20 rfl (Or.inl rfl) rfl xz87 hC.2.2 ?_
    refine x_iconst xc171_23 ?_
    refine x_iadd xc171_24 ?_
    refine x_pfi (k := 10) xc171_25 rfl ⟨rfl, rfl⟩ rfl xz87 ?_
    refine x_iconst xc171_28 ?_
    refine x_iret xc171_29 (Or.inr ⟨rfl, (by omega)⟩) ?_
    exact k1 h0 h1
  · refine x_aloadn xc171_8 rfl ?_
    refine x_iconst xc171_9 ?_
    refine x_aloadn xc171_10 rfl ?_
    refine x_gfi' (k := 10) (v := p) xc171_11 rfl (Or.inl rfl) rfl xz87 hC.2.2 ?_
    refine x_cV (as := [xV 1, xV p]) (rest := []) xc171_14 rfl xi158 xz87 ⟨rfl, rfl⟩ rfl rfl ?_
    refine xk158 (xRk (by decide)) (xRk (by omega)) (by omega) ?_
    refine x_iret xc171_17 (Or.inr ⟨rfl, (by omega)⟩) ?_
    exact k2 h0 h1

theorem xm171 {ro : Nat → Nat × (Nat → Int32)} {d : Nat} {Q : Option Value → pmS → Prop} {a : xA} {b : xB} {t : Int → Int} {n p : Int} (hC : tR a t n p) (hp : 0 ≤ p ∧ p ≤ n) (hn : n ≤ 60) (hb : tB t) (hA : xAr a) {c : Int} (hc : 0 ≤ c ∧ c ≤ 255) (hd : 2 ≤ d)
    (hT : ∀ (a1 : xA) (p1 : Int), tR a1 t n p1 → vLr a a1 → rCom t n c p = (0, p1) → p < p1 ∧ p1 ≤ n → Q (some (xV 1)) (xS a1 b))
    (hF : ∀ (a1 : xA) (f q : Int), vLr a a1 → a1 87 12 = f → f < 0 ∧ -10000 < f → rCom t n c p = (f, q) → Q (some (xV 0)) (xS a1 b)) : pmCs ro d 171 [.ref 87, xV c] (xS a b) Q := by
  refine pmCs_deep (d := 2) (xg171 (wm171 hC hp hn hb hA ⟨by omega, by omega⟩ hc.1 (by decide) ?_ ?_)) hd
  · intro h0 h1
    first | (exfalso; omega) | exact hT _ (p + 1) (tR.at hC) (vLr.u (xRk (by omega)) (by omega) (by omega) (by omega) (vLr.r hA)) (by unfold rCom; (repeat (first | rw [rSeq_00] | rw [rSeq_as] | rw [rSeq_0 (by assumption)] | rw [rSeq_n (by assumption) (by omega)] | rw [if_neg (by omega)] | rw [if_pos (by omega)])); all_goals (repeat' split); all_goals (first | (exfalso; omega) | assumption | rfl)) (by omega)
  · intro h0 h1
    first | (exfalso; omega) | exact hF _ (-1000 * 1 - p) _ (vLr.u (xRk (by omega)) (by omega) (by omega) (by omega) (vLr.r hA)) (by rw [xUa]) (by omega) (Prod.ext (by unfold rCom; (repeat (first | rw [rSeq_00] | rw [rSeq_as] | rw [rSeq_0 (by assumption)] | rw [rSeq_n (by assumption) (by omega)] | rw [if_neg (by omega)] | rw [if_pos (by omega)])); all_goals (repeat' split); all_goals (first | (exfalso; omega) | (dsimp only; exact rFst (by assumption)) | (dsimp only; omega) | omega)) rfl)

theorem wm160 {ro : Nat → Nat × (Nat → Int32)} {d : Nat} {Q : Option Value → pmS → Prop} {a : xA} {b : xB} {t : Int → Int} {n p : Int} (hC : tR a t n p) (hp : 0 ≤ p ∧ p ≤ n) (hn : n ≤ 60) (hb : tB t) (hA : xAr a) {g : Int} (h_g : xR g) (hd : 1 ≤ d)
    (k1 : (sG t n p = -1 ∨ p < n) → (sG t n p < 48) → Q (some (xV 0)) (xS (xU a 87 12 (-1000 * 1 - p)) b))
    (k2 : (sG t n p = -1 ∨ p < n) → (¬ sG t n p < 48) → (sG t n p = -1 ∨ p < n) → (sG t n p ≤ 57) → (sG t n p = -1 ∨ p < n) → (sG t n p - 48 ≤ g) → Q (some (xV 1)) (xS (xU (xU a 87 22 (sG t n p - 48)) 87 10 (p + 1)) b))
    (k3 : (sG t n p = -1 ∨ p < n) → (¬ sG t n p < 48) → (sG t n p = -1 ∨ p < n) → (sG t n p ≤ 57) → (sG t n p = -1 ∨ p < n) → (¬ sG t n p - 48 ≤ g) → Q (some (xV 0)) (xS (xU (xU a 87 22 (sG t n p - 48)) 87 12 (-1000 * 3 - p)) b))
    (k4 : (sG t n p = -1 ∨ p < n) → (¬ sG t n p < 48) → (sG t n p = -1 ∨ p < n) → (¬ sG t n p ≤ 57) → Q (some (xV 0)) (xS (xU a 87 12 (-1000 * 1 - p)) b)) :
    pmWp ro d 12 160 2 0 [some (.ref 87), some (xV g)] [] (xS a b) Q := by
  refine x_aloadn xc160_0 rfl ?_
  refine x_cV (as := []) (rest := []) xc160_1 rfl xi156 xz87 ⟨rfl, rfl⟩ rfl rfl ?_
  refine xk156 hC (by omega) (by omega) hb hA (by omega) (fun h0 => ?_)
  refine x_bipush xc160_4 (by decide) ?_
  refine x_iclt xc160_6 (xRk (by have g0 := sGB (n := n) (p := p) hb (by omega); omega)) (xRk (by decide)) (fun h1 => ?_) (fun h1 => ?_)
  · refine x_aloadn xc160_18 rfl ?_
    refine x_iconst xc160_19 ?_
    refine x_aloadn xc160_20 rfl ?_
    refine x_gfi' (k := 10) (v := p) xc160_21 rfl (Or.inl rfl) rfl xz87 hC.2.2 ?_
    refine x_cV (as := [xV 1, xV p]) (rest := []) xc160_24 rfl xi158 xz87 ⟨rfl, rfl⟩ rfl rfl ?_
    refine xk158 (xRk (by decide)) (xRk (by omega)) (by omega) ?_
    refine x_iret xc160_27 (Or.inr ⟨rfl, (by omega)⟩) ?_
    exact k1 h0 h1
  · refine x_aloadn xc160_9 rfl ?_
    refine x_cV (as := []) (rest := []) xc160_10 rfl xi156 xz87 ⟨rfl, rfl⟩ rfl rfl ?_
    refine xk156 hC (by omega) (by omega) hb hA (by omega) (fun h2 => ?_)
    refine x_bipush xc160_13 (by decide) ?_
    refine x_icle xc160_15 (xRk (by have g0 := sGB (n := n) (p := p) hb (by omega); omega)) (xRk (by decide)) (fun h3 => ?_) (fun h3 => ?_)
    · refine x_aloadn xc160_28 rfl ?_
      refine x_aloadn xc160_29 rfl ?_
      refine x_cV (as := []) (rest := [.ref 87]) xc160_30 rfl xi156 xz87 ⟨rfl, rfl⟩ rfl rfl ?_
      refine xk156 hC (by omega) (by omega) hb hA (by omega) (fun h4 => ?_)
      refine x_bipush xc160_33 (by decide) ?_
      refine x_isub xc160_35 ?_
      refine x_pfi (k := 22) xc160_36 rfl ⟨rfl, rfl⟩ rfl xz87 ?_
      refine x_aloadn xc160_39 rfl ?_
      refine x_gfi' (k := 22) (v := sG t n p - 48) xc160_40 rfl (Or.inl rfl) rfl xz87 (by rw [xUa]) ?_
      refine x_iloadn xc160_43 rfl ?_
      refine x_icle xc160_44 (xRk (by have g0 := sGB (n := n) (p := p) hb (by omega); omega)) (xRk (by have g0 := xRb h_g; omega)) (fun h5 => ?_) (fun h5 => ?_)
      · refine x_aloadn xc160_57 rfl ?_
        refine x_aloadn xc160_58 rfl ?_
        refine x_gfi' (k := 10) (v := p) xc160_59 rfl (Or.inl rfl) rfl xz87 (by rw [xUk (by decide), hC.2.2]) ?_
        refine x_iconst xc160_62 ?_
        refine x_iadd xc160_63 ?_
        refine x_pfi (k := 10) xc160_64 rfl ⟨rfl, rfl⟩ rfl xz87 ?_
        refine x_iconst xc160_67 ?_
        refine x_iret xc160_68 (Or.inr ⟨rfl, (by omega)⟩) ?_
        exact k2 h0 h1 h2 h3 h4 h5
      · refine x_aloadn xc160_47 rfl ?_
        refine x_iconst xc160_48 ?_
        refine x_aloadn xc160_49 rfl ?_
        refine x_gfi' (k := 10) (v := p) xc160_50 rfl (Or.inl rfl) rfl xz87 (by rw [xUk (by decide), hC.2.2]) ?_
        refine x_cV (as := [xV 3, xV p]) (rest := []) xc160_53 rfl xi158 xz87 ⟨rfl, rfl⟩ rfl rfl ?_
        refine xk158 (xRk (by decide)) (xRk (by omega)) (by omega) ?_
        refine x_iret xc160_56 (Or.inr ⟨rfl, (by omega)⟩) ?_
        exact k3 h0 h1 h2 h3 h4 h5
    · refine x_aloadn xc160_18 rfl ?_
      refine x_iconst xc160_19 ?_
      refine x_aloadn xc160_20 rfl ?_
      refine x_gfi' (k := 10) (v := p) xc160_21 rfl (Or.inl rfl) rfl xz87 hC.2.2 ?_
      refine x_cV (as := [xV 1, xV p]) (rest := []) xc160_24 rfl xi158 xz87 ⟨rfl, rfl⟩ rfl rfl ?_
      refine xk158 (xRk (by decide)) (xRk (by omega)) (by omega) ?_
      refine x_iret xc160_27 (Or.inr ⟨rfl, (by omega)⟩) ?_
      exact k4 h0 h1 h2 h3

theorem xm160 {ro : Nat → Nat × (Nat → Int32)} {d : Nat} {Q : Option Value → pmS → Prop} {a : xA} {b : xB} {t : Int → Int} {n p : Int} (hC : tR a t n p) (hp : 0 ≤ p ∧ p ≤ n) (hn : n ≤ 60) (hb : tB t) (hA : xAr a) {g : Int} (hg : 0 ≤ g ∧ g ≤ 9) (hd : 2 ≤ d)
    (hT : ∀ (a1 : xA) (p1 : Int), tR a1 t n p1 → vLr a a1 → -1 ≤ a1 87 22 ∧ a1 87 22 ≤ 9 → rDig t n g p = (0, p1) → p < p1 ∧ p1 ≤ n → Q (some (xV 1)) (xS a1 b))
    (hF : ∀ (a1 : xA) (f q : Int), vLr a a1 → a1 87 12 = f → f < 0 ∧ -10000 < f → rDig t n g p = (f, q) → Q (some (xV 0)) (xS a1 b)) : pmCs ro d 160 [.ref 87, xV g] (xS a b) Q := by
  refine pmCs_deep (d := 2) (xg160 (wm160 hC hp hn hb hA ⟨by omega, by omega⟩ (by decide) ?_ ?_ ?_ ?_)) hd
  · intro h0 h1
    first | (exfalso; omega) | exact hF _ (-1000 * 1 - p) _ (vLr.u (xRk (by omega)) (by omega) (by omega) (by omega) (vLr.r hA)) (by rw [xUa]) (by omega) (Prod.ext (by unfold rDig; (repeat (first | rw [rSeq_00] | rw [rSeq_as] | rw [rSeq_0 (by assumption)] | rw [rSeq_n (by assumption) (by omega)] | rw [if_neg (by omega)] | rw [if_pos (by omega)])); all_goals (repeat' split); all_goals (first | (exfalso; omega) | (dsimp only; exact rFst (by assumption)) | (dsimp only; omega) | omega)) rfl)
  · intro h0 h1 h2 h3 h4 h5
    first | (exfalso; omega) | exact hT _ (p + 1) (tR.at (tR.fd (by decide) (by decide) hC)) (vLr.u (xRk (by omega)) (by omega) (by omega) (by omega) (vLr.u (xRk (by have g0 := sGB (n := n) (p := p) hb (by omega); omega)) (by omega) (by omega) (by omega) (vLr.r hA))) (by rw [show (xU (xU a 87 22 (sG t n p - 48)) 87 10 (p + 1)) 87 22 = (sG t n p - 48) from (by rw [xUk (by decide), xUa])]; have g0 := sGB (n := n) (p := p) hb (by omega); omega) (by unfold rDig; (repeat (first | rw [rSeq_00] | rw [rSeq_as] | rw [rSeq_0 (by assumption)] | rw [rSeq_n (by assumption) (by omega)] | rw [if_neg (by omega)] | rw [if_pos (by omega)])); all_goals (repeat' split); all_goals (first | (exfalso; omega) | assumption | rfl)) (by omega)
  · intro h0 h1 h2 h3 h4 h5
    first | (exfalso; omega) | exact hF _ (-1000 * 3 - p) _ (vLr.u (xRk (by omega)) (by omega) (by omega) (by omega) (vLr.u (xRk (by have g0 := sGB (n := n) (p := p) hb (by omega); omega)) (by omega) (by omega) (by omega) (vLr.r hA))) (by rw [xUa]) (by omega) (Prod.ext (by unfold rDig; (repeat (first | rw [rSeq_00] | rw [rSeq_as] | rw [rSeq_0 (by assumption)] | rw [rSeq_n (by assumption) (by omega)] | rw [if_neg (by omega)] | rw [if_pos (by omega)])); all_goals (repeat' split); all_goals (first | (exfalso; omega) | (dsimp only; exact rFst (by assumption)) | (dsimp only; omega) | omega)) rfl)
  · intro h0 h1 h2 h3
    first | (exfalso; omega) | exact hF _ (-1000 * 1 - p) _ (vLr.u (xRk (by omega)) (by omega) (by omega) (by omega) (vLr.r hA)) (by rw [xUa]) (by omega) (Prod.ext (by unfold rDig; (repeat (first | rw [rSeq_00] | rw [rSeq_as] | rw [rSeq_0 (by assumption)] | rw [rSeq_n (by assumption) (by omega)] | rw [if_neg (by omega)] | rw [if_pos (by omega)])); all_goals (repeat' split); all_goals (first | (exfalso; omega) | (dsimp only; exact rFst (by assumption)) | (dsimp only; omega) | omega)) rfl)

theorem wm170 {ro : Nat → Nat × (Nat → Int32)} {d : Nat} {Q : Option Value → pmS → Prop} {a : xA} {b : xB} {t : Int → Int} {n p : Int} (hC : tR a t n p) (hp : 0 ≤ p ∧ p ≤ n) (hn : n ≤ 60) (hb : tB t) (hA : xAr a) (hd : 2 ≤ d)
    (k1 : (sG t n p = -1 ∨ p < n) → (sG t n p = 46) → Q (some (xV 1)) (xS (xU (xU a 87 22 (-1)) 87 10 (p + 1)) b))
    (k2 : (sG t n p = -1 ∨ p < n) → (¬ sG t n p = 46) → ∀ a1 : xA, ∀ p1 : Int, (tR a1 t n p1) → (vLr (xU a 87 22 (-1)) a1) → (-1 ≤ a1 87 22 ∧ a1 87 22 ≤ 9) → (rDig t n 6 p = (0, p1)) → (p < p1 ∧ p1 ≤ n) → Q (some (xV 1)) (xS a1 b))
    (k3 : (sG t n p = -1 ∨ p < n) → (¬ sG t n p = 46) → ∀ a2 : xA, ∀ f2 : Int, ∀ q2 : Int, (vLr (xU a 87 22 (-1)) a2) → (a2 87 12 = f2) → (f2 < 0 ∧ -10000 < f2) → (rDig t n 6 p = (f2, q2)) → Q (some (xV 0)) (xS a2 b)) :
    pmWp ro d 12 170 2 0 [some (.ref 87)] [] (xS a b) Q := by
  refine x_aloadn xc170_0 rfl ?_
  refine x_iconst xc170_1 ?_
  refine x_pfi (k := 22) xc170_2 rfl ⟨rfl, rfl⟩ rfl xz87 ?_
  refine x_aloadn xc170_5 rfl ?_
  refine x_cV (as := []) (rest := []) xc170_6 rfl xi156 xz87 ⟨rfl, rfl⟩ rfl rfl ?_
  refine xk156 (tR.fd (by decide) (by decide) hC) (by omega) (by omega) hb (xAr_u hA (xRk (by decide))) (by omega) (fun h0 => ?_)
  refine x_bipush xc170_9 (by decide) ?_
  refine x_iceq xc170_11 (xRk (by have g0 := sGB (n := n) (p := p) hb (by omega); omega)) (xRk (by decide)) (fun h1 => ?_) (fun h1 => ?_)
  · refine x_aloadn xc170_21 rfl ?_
    refine x_aloadn xc170_22 rfl ?_
    refine x_gfi' (k := 10) (v := p) xc170_23 rfl (Or.inl rfl) rfl xz87 (by rw [xUk (by decide), hC.2.2]) ?_
    refine x_iconst xc170_26 ?_
    refine x_iadd xc170_27 ?_
    refine x_pfi (k := 10) xc170_28 rfl ⟨rfl, rfl⟩ rfl xz87 ?_
    refine x_iconst xc170_31 ?_
    refine x_iret xc170_32 (Or.inr ⟨rfl, (by omega)⟩) ?_
    exact k1 h0 h1
  · refine x_aloadn xc170_14 rfl ?_
    refine x_bipush xc170_15 (by decide) ?_
    refine x_cV (as := [xV 6]) (rest := []) xc170_17 rfl xi160 xz87 ⟨rfl, rfl⟩ rfl rfl ?_
    refine xm160 (tR.fd (by decide) (by decide) hC) (by omega) (by omega) hb (xAr_u hA (xRk (by decide))) (by omega) (by omega) (fun a1 p1 h2 h3 h4 h5 h6 => ?_) (fun a2 f2 q2 h7 h8 h9 h10 => ?_)
    · refine x_iret xc170_20 (Or.inr ⟨rfl, (by omega)⟩) ?_
      exact k2 h0 h1 a1 p1 h2 h3 h4 h5 h6
    · refine x_iret xc170_20 (Or.inr ⟨rfl, (by omega)⟩) ?_
      exact k3 h0 h1 a2 f2 q2 h7 h8 h9 h10

theorem xm170 {ro : Nat → Nat × (Nat → Int32)} {d : Nat} {Q : Option Value → pmS → Prop} {a : xA} {b : xB} {t : Int → Int} {n p : Int} (hC : tR a t n p) (hp : 0 ≤ p ∧ p ≤ n) (hn : n ≤ 60) (hb : tB t) (hA : xAr a) (hd : 3 ≤ d)
    (hT : ∀ (a1 : xA) (p1 : Int), tR a1 t n p1 → vLr a a1 → -1 ≤ a1 87 22 ∧ a1 87 22 ≤ 9 → rSig t n p = (0, p1) → p < p1 ∧ p1 ≤ n → Q (some (xV 1)) (xS a1 b))
    (hF : ∀ (a1 : xA) (f q : Int), vLr a a1 → a1 87 12 = f → f < 0 ∧ -10000 < f → rSig t n p = (f, q) → Q (some (xV 0)) (xS a1 b)) : pmCs ro d 170 [.ref 87] (xS a b) Q := by
  refine pmCs_deep (d := 3) (xg170 (wm170 hC hp hn hb hA (by decide) ?_ ?_ ?_)) hd
  · intro h0 h1
    first | (exfalso; omega) | exact hT _ (p + 1) (tR.at (tR.fd (by decide) (by decide) hC)) (vLr.u (xRk (by omega)) (by omega) (by omega) (by omega) (vLr.u (xRk (by decide)) (by omega) (by omega) (by omega) (vLr.r hA))) (by rw [show (xU (xU a 87 22 (-1)) 87 10 (p + 1)) 87 22 = (-1) from (by rw [xUk (by decide), xUa])]; skip; omega) (by unfold rSig; (repeat (first | rw [rSeq_00] | rw [rSeq_as] | rw [rSeq_0 (by assumption)] | rw [rSeq_n (by assumption) (by omega)] | rw [if_neg (by omega)] | rw [if_pos (by omega)])); all_goals (repeat' split); all_goals (first | (exfalso; omega) | assumption | rfl)) (by omega)
  · intro h0 h1 a1 p1 h2 h3 h4 h5 h6
    first | (exfalso; omega) | exact hT _ (p1) h2 (vLr.tr (vLr.u (xRk (by decide)) (by omega) (by omega) (by omega) (vLr.r hA)) h3) (by rw [show a1 87 22 = (a1 87 22) from rfl]; have g0 := h4; omega) (by unfold rSig; (repeat (first | rw [rSeq_00] | rw [rSeq_as] | rw [rSeq_0 (by assumption)] | rw [rSeq_n (by assumption) (by omega)] | rw [if_neg (by omega)] | rw [if_pos (by omega)])); all_goals (repeat' split); all_goals (first | (exfalso; omega) | assumption | rfl)) (by omega)
  · intro h0 h1 a2 f2 q2 h7 h8 h9 h10
    first | (exfalso; omega) | exact hF _ (f2) _ (vLr.tr (vLr.u (xRk (by decide)) (by omega) (by omega) (by omega) (vLr.r hA)) h7) h8 (by omega) (Prod.ext (by unfold rSig; (repeat (first | rw [rSeq_00] | rw [rSeq_as] | rw [rSeq_0 (by assumption)] | rw [rSeq_n (by assumption) (by omega)] | rw [if_neg (by omega)] | rw [if_pos (by omega)])); all_goals (repeat' split); all_goals (first | (exfalso; omega) | (dsimp only; exact rFst (by assumption)) | (dsimp only; omega) | omega)) rfl)

theorem wm168 {ro : Nat → Nat × (Nat → Int32)} {d : Nat} {Q : Option Value → pmS → Prop} {a : xA} {b : xB} {t : Int → Int} {n p : Int} (hC : tR a t n p) (hp : 0 ≤ p ∧ p ≤ n) (hn : n ≤ 60) (hb : tB t) (hA : xAr a) {x : Int} (h_x : xR x) (hx : 0 ≤ x ∧ x < 48) (hd : 3 ≤ d)
    (k1 : (sG t n p = -1 ∨ p < n) → (rKd (sG t n p) = -1 ∨ 97 ≤ sG t n p) → (¬ rKd (sG t n p) = -1) → (sG t n p = -1 ∨ p < n) → (rKd (sG t n p) = -1 ∨ 97 ≤ sG t n p) → ∀ a1 : xA, ∀ p1 : Int, (tR a1 t n p1) → (vLr (xU (xU a 102 x (rKd (sG t n p))) 87 10 (p + 1)) a1) → (-1 ≤ a1 87 22 ∧ a1 87 22 ≤ 9) → (rSig t n (p + 1) = (0, p1)) → (p + 1 < p1 ∧ p1 ≤ n) → ∀ a3 : xA, ∀ p3 : Int, (tR a3 t n p3) → (vLr (xU a1 103 x (a1 87 22)) a3) → (-1 ≤ a3 87 22 ∧ a3 87 22 ≤ 9) → (rSig t n p1 = (0, p3)) → (p1 < p3 ∧ p3 ≤ n) → ∀ a5 : xA, ∀ p5 : Int, (tR a5 t n p5) → (vLr (xU a3 104 x (a3 87 22)) a5) → (-1 ≤ a5 87 22 ∧ a5 87 22 ≤ 9) → (rSig t n p3 = (0, p5)) → (p3 < p5 ∧ p5 ≤ n) → (sG t n p5 = -1 ∨ p5 < n) → (¬ sG t n p5 = 117) → Q (some (xV 1)) (xS (xU (xU a5 105 x (a5 87 22)) 107 x 0) b))
    (k2 : (sG t n p = -1 ∨ p < n) → (rKd (sG t n p) = -1 ∨ 97 ≤ sG t n p) → (¬ rKd (sG t n p) = -1) → (sG t n p = -1 ∨ p < n) → (rKd (sG t n p) = -1 ∨ 97 ≤ sG t n p) → ∀ a1 : xA, ∀ p1 : Int, (tR a1 t n p1) → (vLr (xU (xU a 102 x (rKd (sG t n p))) 87 10 (p + 1)) a1) → (-1 ≤ a1 87 22 ∧ a1 87 22 ≤ 9) → (rSig t n (p + 1) = (0, p1)) → (p + 1 < p1 ∧ p1 ≤ n) → ∀ a3 : xA, ∀ p3 : Int, (tR a3 t n p3) → (vLr (xU a1 103 x (a1 87 22)) a3) → (-1 ≤ a3 87 22 ∧ a3 87 22 ≤ 9) → (rSig t n p1 = (0, p3)) → (p1 < p3 ∧ p3 ≤ n) → ∀ a5 : xA, ∀ p5 : Int, (tR a5 t n p5) → (vLr (xU a3 104 x (a3 87 22)) a5) → (-1 ≤ a5 87 22 ∧ a5 87 22 ≤ 9) → (rSig t n p3 = (0, p5)) → (p3 < p5 ∧ p5 ≤ n) → (sG t n p5 = -1 ∨ p5 < n) → (¬ ¬ sG t n p5 = 117) → Q (some (xV 1)) (xS (xU (xU (xU a5 105 x (a5 87 22)) 107 x 1) 87 10 (p5 + 1)) b))
    (k3 : (sG t n p = -1 ∨ p < n) → (rKd (sG t n p) = -1 ∨ 97 ≤ sG t n p) → (¬ rKd (sG t n p) = -1) → (sG t n p = -1 ∨ p < n) → (rKd (sG t n p) = -1 ∨ 97 ≤ sG t n p) → ∀ a1 : xA, ∀ p1 : Int, (tR a1 t n p1) → (vLr (xU (xU a 102 x (rKd (sG t n p))) 87 10 (p + 1)) a1) → (-1 ≤ a1 87 22 ∧ a1 87 22 ≤ 9) → (rSig t n (p + 1) = (0, p1)) → (p + 1 < p1 ∧ p1 ≤ n) → ∀ a3 : xA, ∀ p3 : Int, (tR a3 t n p3) → (vLr (xU a1 103 x (a1 87 22)) a3) → (-1 ≤ a3 87 22 ∧ a3 87 22 ≤ 9) → (rSig t n p1 = (0, p3)) → (p1 < p3 ∧ p3 ≤ n) → ∀ a6 : xA, ∀ f6 : Int, ∀ q6 : Int, (vLr (xU a3 104 x (a3 87 22)) a6) → (a6 87 12 = f6) → (f6 < 0 ∧ -10000 < f6) → (rSig t n p3 = (f6, q6)) → Q (some (xV 0)) (xS a6 b))
    (k4 : (sG t n p = -1 ∨ p < n) → (rKd (sG t n p) = -1 ∨ 97 ≤ sG t n p) → (¬ rKd (sG t n p) = -1) → (sG t n p = -1 ∨ p < n) → (rKd (sG t n p) = -1 ∨ 97 ≤ sG t n p) → ∀ a1 : xA, ∀ p1 : Int, (tR a1 t n p1) → (vLr (xU (xU a 102 x (rKd (sG t n p))) 87 10 (p + 1)) a1) → (-1 ≤ a1 87 22 ∧ a1 87 22 ≤ 9) → (rSig t n (p + 1) = (0, p1)) → (p + 1 < p1 ∧ p1 ≤ n) → ∀ a4 : xA, ∀ f4 : Int, ∀ q4 : Int, (vLr (xU a1 103 x (a1 87 22)) a4) → (a4 87 12 = f4) → (f4 < 0 ∧ -10000 < f4) → (rSig t n p1 = (f4, q4)) → Q (some (xV 0)) (xS a4 b))
    (k5 : (sG t n p = -1 ∨ p < n) → (rKd (sG t n p) = -1 ∨ 97 ≤ sG t n p) → (¬ rKd (sG t n p) = -1) → (sG t n p = -1 ∨ p < n) → (rKd (sG t n p) = -1 ∨ 97 ≤ sG t n p) → ∀ a2 : xA, ∀ f2 : Int, ∀ q2 : Int, (vLr (xU (xU a 102 x (rKd (sG t n p))) 87 10 (p + 1)) a2) → (a2 87 12 = f2) → (f2 < 0 ∧ -10000 < f2) → (rSig t n (p + 1) = (f2, q2)) → Q (some (xV 0)) (xS a2 b))
    (k6 : (sG t n p = -1 ∨ p < n) → (rKd (sG t n p) = -1 ∨ 97 ≤ sG t n p) → (¬ ¬ rKd (sG t n p) = -1) → Q (some (xV 0)) (xS (xU a 87 12 (-1000 * 1 - p)) b)) :
    pmWp ro d 12 168 2 0 [some (.ref 87), some (xV x)] [] (xS a b) Q := by
  refine x_aloadn xc168_0 rfl ?_
  refine x_cV (as := []) (rest := []) xc168_1 rfl xi156 xz87 ⟨rfl, rfl⟩ rfl rfl ?_
  refine xk156 hC (by omega) (by omega) hb hA (by omega) (fun h0 => ?_)
  refine x_cS (as := [xV (sG t n p)]) (rest := []) xc168_4 rfl rfl xi169 ⟨rfl, rfl⟩ rfl rfl ?_
  refine xk169 (xRk (by have g0 := sGB (n := n) (p := p) hb (by omega); omega)) (by omega) (fun h1 => ?_)
  refine x_iconst xc168_7 ?_
  refine x_icne xc168_8 (xRk (by have g0 := rKdB (sG t n p); omega)) (xRk (by decide)) (fun h2 => ?_) (fun h2 => ?_)
  · refine x_aloadn xc168_21 rfl ?_
    refine x_gfr xc168_22 rfl rfl xz87 rfl ?_
    refine x_iloadn xc168_25 rfl ?_
    refine x_aloadn xc168_26 rfl ?_
    refine x_cV (as := []) (rest := [xV x, .ref 102]) xc168_27 rfl xi156 xz87 ⟨rfl, rfl⟩ rfl rfl ?_
    refine xk156 hC (by omega) (by omega) hb hA (by omega) (fun h3 => ?_)
    refine x_cS (as := [xV (sG t n p)]) (rest := [xV x, .ref 102]) xc168_30 rfl rfl xi169 ⟨rfl, rfl⟩ rfl rfl ?_
    refine xk169 (xRk (by have g0 := sGB (n := n) (p := p) hb (by omega); omega)) (by omega) (fun h4 => ?_)
    refine x_ias xc168_33 xz102 (by have g0 := xRb h_x; omega) (by have g0 := xRb h_x; omega) (by have g0 := xRb h_x; omega) ?_
    refine x_aloadn xc168_34 rfl ?_
    refine x_aloadn xc168_35 rfl ?_
    refine x_gfi' (k := 10) (v := p) xc168_36 rfl (Or.inl rfl) rfl xz87 (by rw [xUn (by decide), hC.2.2]) ?_
    refine x_iconst xc168_39 ?_
    refine x_iadd xc168_40 ?_
    refine x_pfi (k := 10) xc168_41 rfl ⟨rfl, rfl⟩ rfl xz87 ?_
    refine x_aloadn xc168_44 rfl ?_
    refine x_cV (as := []) (rest := []) xc168_45 rfl xi170 xz87 ⟨rfl, rfl⟩ rfl rfl ?_
    refine xm170 (tR.at (tR.ot (by decide) (by decide) hC)) (by omega) (by omega) hb (xAr_u (xAr_u hA (xRk (by have g0 := rKdB (sG t n p); omega))) (xRk (by omega))) (by omega) (fun a1 p1 h5 h6 h7 h8 h9 => ?_) (fun a2 f2 q2 h10 h11 h12 h13 => ?_)
    · refine x_ifne xc168_48 (xRk (by decide)) (fun _ => ?_) (fun h => absurd h (by omega))
      refine x_aloadn xc168_53 rfl ?_
      refine x_gfr xc168_54 rfl rfl xz87 rfl ?_
      refine x_iloadn xc168_57 rfl ?_
      refine x_aloadn xc168_58 rfl ?_
      refine x_gfi' (k := 22) (v := a1 87 22) xc168_59 rfl (Or.inl rfl) rfl xz87 rfl ?_
      refine x_ias xc168_62 xz103 (by have g0 := xRb h_x; omega) (by have g0 := xRb h_x; omega) (by have g0 := xRb h_x; omega) ?_
      refine x_aloadn xc168_63 rfl ?_
      refine x_cV (as := []) (rest := []) xc168_64 rfl xi170 xz87 ⟨rfl, rfl⟩ rfl rfl ?_
      refine xm170 (tR.ot (by decide) (by decide) h5) (by omega) (by omega) hb (xAr_u h6.1 (xRk (by have g0 := h7; omega))) (by omega) (fun a3 p3 h15 h16 h17 h18 h19 => ?_) (fun a4 f4 q4 h20 h21 h22 h23 => ?_)
      · refine x_ifne xc168_67 (xRk (by decide)) (fun _ => ?_) (fun h => absurd h (by omega))
        refine x_aloadn xc168_72 rfl ?_
        refine x_gfr xc168_73 rfl rfl xz87 rfl ?_
        refine x_iloadn xc168_76 rfl ?_
        refine x_aloadn xc168_77 rfl ?_
        refine x_gfi' (k := 22) (v := a3 87 22) xc168_78 rfl (Or.inl rfl) rfl xz87 rfl ?_
        refine x_ias xc168_81 xz104 (by have g0 := xRb h_x; omega) (by have g0 := xRb h_x; omega) (by have g0 := xRb h_x; omega) ?_
        refine x_aloadn xc168_82 rfl ?_
        refine x_cV (as := []) (rest := []) xc168_83 rfl xi170 xz87 ⟨rfl, rfl⟩ rfl rfl ?_
        refine xm170 (tR.ot (by decide) (by decide) h15) (by omega) (by omega) hb (xAr_u h16.1 (xRk (by have g0 := h17; omega))) (by omega) (fun a5 p5 h25 h26 h27 h28 h29 => ?_) (fun a6 f6 q6 h30 h31 h32 h33 => ?_)
        · refine x_ifne xc168_86 (xRk (by decide)) (fun _ => ?_) (fun h => absurd h (by omega))
          refine x_aloadn xc168_91 rfl ?_
          refine x_gfr xc168_92 rfl rfl xz87 rfl ?_
          refine x_iloadn xc168_95 rfl ?_
          refine x_aloadn xc168_96 rfl ?_
          refine x_gfi' (k := 22) (v := a5 87 22) xc168_97 rfl (Or.inl rfl) rfl xz87 rfl ?_
          refine x_ias xc168_100 xz105 (by have g0 := xRb h_x; omega) (by have g0 := xRb h_x; omega) (by have g0 := xRb h_x; omega) ?_
          refine x_aloadn xc168_101 rfl ?_
          refine x_gfr xc168_102 rfl rfl xz87 rfl ?_
          refine x_iloadn xc168_105 rfl ?_
          refine x_aloadn xc168_106 rfl ?_
          refine x_cV (as := []) (rest := [xV x, .ref 107]) xc168_107 rfl xi156 xz87 ⟨rfl, rfl⟩ rfl rfl ?_
          refine xk156 (tR.ot (by decide) (by decide) h25) (by omega) (by omega) hb (xAr_u h26.1 (xRk (by have g0 := h27; omega))) (by omega) (fun h35 => ?_)
          refine x_bipush xc168_110 (by decide) ?_
          refine x_icne xc168_112 (xRk (by have g0 := sGB (n := n) (p := p5) hb (by omega); omega)) (xRk (by decide)) (fun h36 => ?_) (fun h36 => ?_)
          · refine x_iconst xc168_119 ?_
            refine x_zas (by omega) xc168_120 xz107 (by have g0 := xRb h_x; omega) (by have g0 := xRb h_x; omega) (by have g0 := xRb h_x; omega) ?_
            refine x_aloadn xc168_121 rfl ?_
            refine x_gfr xc168_122 rfl rfl xz87 rfl ?_
            refine x_iloadn xc168_125 rfl ?_
            refine x_bal' (v := 0) xc168_126 xz107 (Or.inl rfl) (by have g0 := xRb h_x; omega) (by have g0 := xRb h_x; omega) (by have g0 := xRb h_x; omega) (by rw [xUa]) ?_
            refine x_ifeq xc168_127 (xRk (by decide)) (fun _ => ?_) (fun h => absurd h (by omega))
            refine x_iconst xc168_140 ?_
            refine x_iret xc168_141 (Or.inr ⟨rfl, (by omega)⟩) ?_
            exact k1 h0 h1 h2 h3 h4 a1 p1 h5 h6 h7 h8 h9 a3 p3 h15 h16 h17 h18 h19 a5 p5 h25 h26 h27 h28 h29 h35 h36
          · refine x_iconst xc168_115 ?_
            refine x_goto xc168_116 ?_
            refine x_zas (by omega) xc168_120 xz107 (by have g0 := xRb h_x; omega) (by have g0 := xRb h_x; omega) (by have g0 := xRb h_x; omega) ?_
            refine x_aloadn xc168_121 rfl ?_
            refine x_gfr xc168_122 rfl rfl xz87 rfl ?_
            refine x_iloadn xc168_125 rfl ?_
            refine x_bal' (v := 1) xc168_126 xz107 (Or.inl rfl) (by have g0 := xRb h_x; omega) (by have g0 := xRb h_x; omega) (by have g0 := xRb h_x; omega) (by rw [xUa]) ?_
            refine x_ifeq xc168_127 (xRk (by decide)) (fun h => absurd h (by omega)) (fun _ => ?_)
            refine x_aloadn xc168_130 rfl ?_
            refine x_aloadn xc168_131 rfl ?_
            refine x_gfi' (k := 10) (v := p5) xc168_132 rfl (Or.inl rfl) rfl xz87 (by rw [xUn (by decide), xUn (by decide), h25.2.2]) ?_
            refine x_iconst xc168_135 ?_
            refine x_iadd xc168_136 ?_
            refine x_pfi (k := 10) xc168_137 rfl ⟨rfl, rfl⟩ rfl xz87 ?_
            refine x_iconst xc168_140 ?_
            refine x_iret xc168_141 (Or.inr ⟨rfl, (by omega)⟩) ?_
            exact k2 h0 h1 h2 h3 h4 a1 p1 h5 h6 h7 h8 h9 a3 p3 h15 h16 h17 h18 h19 a5 p5 h25 h26 h27 h28 h29 h35 h36
        · refine x_ifne xc168_86 (xRk (by decide)) (fun h => absurd h (by omega)) (fun _ => ?_)
          refine x_iconst xc168_89 ?_
          refine x_iret xc168_90 (Or.inr ⟨rfl, (by omega)⟩) ?_
          exact k3 h0 h1 h2 h3 h4 a1 p1 h5 h6 h7 h8 h9 a3 p3 h15 h16 h17 h18 h19 a6 f6 q6 h30 h31 h32 h33
      · refine x_ifne xc168_67 (xRk (by decide)) (fun h => absurd h (by omega)) (fun _ => ?_)
        refine x_iconst xc168_70 ?_
        refine x_iret xc168_71 (Or.inr ⟨rfl, (by omega)⟩) ?_
        exact k4 h0 h1 h2 h3 h4 a1 p1 h5 h6 h7 h8 h9 a4 f4 q4 h20 h21 h22 h23
    · refine x_ifne xc168_48 (xRk (by decide)) (fun h => absurd h (by omega)) (fun _ => ?_)
      refine x_iconst xc168_51 ?_
      refine x_iret xc168_52 (Or.inr ⟨rfl, (by omega)⟩) ?_
      exact k5 h0 h1 h2 h3 h4 a2 f2 q2 h10 h11 h12 h13
  · refine x_aloadn xc168_11 rfl ?_
    refine x_iconst xc168_12 ?_
    refine x_aloadn xc168_13 rfl ?_
    refine x_gfi' (k := 10) (v := p) xc168_14 rfl (Or.inl rfl) rfl xz87 hC.2.2 ?_
    refine x_cV (as := [xV 1, xV p]) (rest := []) xc168_17 rfl xi158 xz87 ⟨rfl, rfl⟩ rfl rfl ?_
    refine xk158 (xRk (by decide)) (xRk (by omega)) (by omega) ?_
    refine x_iret xc168_20 (Or.inr ⟨rfl, (by omega)⟩) ?_
    exact k6 h0 h1 h2

theorem xm168 {ro : Nat → Nat × (Nat → Int32)} {d : Nat} {Q : Option Value → pmS → Prop} {a : xA} {b : xB} {t : Int → Int} {n p : Int} (hC : tR a t n p) (hp : 0 ≤ p ∧ p ≤ n) (hn : n ≤ 60) (hb : tB t) (hA : xAr a) {x : Int} (hx : 0 ≤ x ∧ x < 48) (hd : 4 ≤ d)
    (hT : ∀ (a1 : xA) (p1 : Int), tR a1 t n p1 → vLr a a1 → rEv t n p = (0, p1) → p < p1 ∧ p1 ≤ n → Q (some (xV 1)) (xS a1 b))
    (hF : ∀ (a1 : xA) (f q : Int), vLr a a1 → a1 87 12 = f → f < 0 ∧ -10000 < f → rEv t n p = (f, q) → Q (some (xV 0)) (xS a1 b)) : pmCs ro d 168 [.ref 87, xV x] (xS a b) Q := by
  refine pmCs_deep (d := 4) (xg168 (wm168 hC hp hn hb hA ⟨by omega, by omega⟩ hx (by decide) ?_ ?_ ?_ ?_ ?_ ?_)) hd
  · intro h0 h1 h2 h3 h4 a1 p1 h5 h6 h7 h8 h9 a3 p3 h15 h16 h17 h18 h19 a5 p5 h25 h26 h27 h28 h29 h35 h36
    first | (exfalso; omega) | exact hT _ (p5) (tR.ot (by decide) (by decide) (tR.ot (by decide) (by decide) h25)) (vLr.u (xRk (by decide)) (by omega) (by omega) (by omega) (vLr.u (xRk (by have g0 := h27; omega)) (by omega) (by omega) (by omega) (vLr.tr (vLr.u (xRk (by have g0 := h17; omega)) (by omega) (by omega) (by omega) (vLr.tr (vLr.u (xRk (by have g0 := h7; omega)) (by omega) (by omega) (by omega) (vLr.tr (vLr.u (xRk (by omega)) (by omega) (by omega) (by omega) (vLr.u (xRk (by have g0 := rKdB (sG t n p); omega)) (by omega) (by omega) (by omega) (vLr.r hA))) h6)) h16)) h26))) (by unfold rEv; (repeat (first | rw [rSeq_00] | rw [rSeq_as] | rw [rSeq_0 (by assumption)] | rw [rSeq_n (by assumption) (by omega)] | rw [if_neg (by omega)] | rw [if_pos (by omega)])); all_goals (repeat' split); all_goals (first | (exfalso; omega) | assumption | rfl)) (by omega)
  · intro h0 h1 h2 h3 h4 a1 p1 h5 h6 h7 h8 h9 a3 p3 h15 h16 h17 h18 h19 a5 p5 h25 h26 h27 h28 h29 h35 h36
    first | (exfalso; omega) | exact hT _ (p5 + 1) (tR.at (tR.ot (by decide) (by decide) (tR.ot (by decide) (by decide) h25))) (vLr.u (xRk (by omega)) (by omega) (by omega) (by omega) (vLr.u (xRk (by decide)) (by omega) (by omega) (by omega) (vLr.u (xRk (by have g0 := h27; omega)) (by omega) (by omega) (by omega) (vLr.tr (vLr.u (xRk (by have g0 := h17; omega)) (by omega) (by omega) (by omega) (vLr.tr (vLr.u (xRk (by have g0 := h7; omega)) (by omega) (by omega) (by omega) (vLr.tr (vLr.u (xRk (by omega)) (by omega) (by omega) (by omega) (vLr.u (xRk (by have g0 := rKdB (sG t n p); omega)) (by omega) (by omega) (by omega) (vLr.r hA))) h6)) h16)) h26)))) (by unfold rEv; (repeat (first | rw [rSeq_00] | rw [rSeq_as] | rw [rSeq_0 (by assumption)] | rw [rSeq_n (by assumption) (by omega)] | rw [if_neg (by omega)] | rw [if_pos (by omega)])); all_goals (repeat' split); all_goals (first | (exfalso; omega) | assumption | rfl)) (by omega)
  · intro h0 h1 h2 h3 h4 a1 p1 h5 h6 h7 h8 h9 a3 p3 h15 h16 h17 h18 h19 a6 f6 q6 h30 h31 h32 h33
    first | (exfalso; omega) | exact hF _ (f6) _ (vLr.tr (vLr.u (xRk (by have g0 := h17; omega)) (by omega) (by omega) (by omega) (vLr.tr (vLr.u (xRk (by have g0 := h7; omega)) (by omega) (by omega) (by omega) (vLr.tr (vLr.u (xRk (by omega)) (by omega) (by omega) (by omega) (vLr.u (xRk (by have g0 := rKdB (sG t n p); omega)) (by omega) (by omega) (by omega) (vLr.r hA))) h6)) h16)) h30) h31 (by omega) (Prod.ext (by unfold rEv; (repeat (first | rw [rSeq_00] | rw [rSeq_as] | rw [rSeq_0 (by assumption)] | rw [rSeq_n (by assumption) (by omega)] | rw [if_neg (by omega)] | rw [if_pos (by omega)])); all_goals (repeat' split); all_goals (first | (exfalso; omega) | (dsimp only; exact rFst (by assumption)) | (dsimp only; omega) | omega)) rfl)
  · intro h0 h1 h2 h3 h4 a1 p1 h5 h6 h7 h8 h9 a4 f4 q4 h20 h21 h22 h23
    first | (exfalso; omega) | exact hF _ (f4) _ (vLr.tr (vLr.u (xRk (by have g0 := h7; omega)) (by omega) (by omega) (by omega) (vLr.tr (vLr.u (xRk (by omega)) (by omega) (by omega) (by omega) (vLr.u (xRk (by have g0 := rKdB (sG t n p); omega)) (by omega) (by omega) (by omega) (vLr.r hA))) h6)) h20) h21 (by omega) (Prod.ext (by unfold rEv; (repeat (first | rw [rSeq_00] | rw [rSeq_as] | rw [rSeq_0 (by assumption)] | rw [rSeq_n (by assumption) (by omega)] | rw [if_neg (by omega)] | rw [if_pos (by omega)])); all_goals (repeat' split); all_goals (first | (exfalso; omega) | (dsimp only; exact rFst (by assumption)) | (dsimp only; omega) | omega)) rfl)
  · intro h0 h1 h2 h3 h4 a2 f2 q2 h10 h11 h12 h13
    first | (exfalso; omega) | exact hF _ (f2) _ (vLr.tr (vLr.u (xRk (by omega)) (by omega) (by omega) (by omega) (vLr.u (xRk (by have g0 := rKdB (sG t n p); omega)) (by omega) (by omega) (by omega) (vLr.r hA))) h10) h11 (by omega) (Prod.ext (by unfold rEv; (repeat (first | rw [rSeq_00] | rw [rSeq_as] | rw [rSeq_0 (by assumption)] | rw [rSeq_n (by assumption) (by omega)] | rw [if_neg (by omega)] | rw [if_pos (by omega)])); all_goals (repeat' split); all_goals (first | (exfalso; omega) | (dsimp only; exact rFst (by assumption)) | (dsimp only; omega) | omega)) rfl)
  · intro h0 h1 h2
    first | (exfalso; omega) | exact hF _ (-1000 * 1 - p) _ (vLr.u (xRk (by omega)) (by omega) (by omega) (by omega) (vLr.r hA)) (by rw [xUa]) (by omega) (Prod.ext (by unfold rEv; (repeat (first | rw [rSeq_00] | rw [rSeq_as] | rw [rSeq_0 (by assumption)] | rw [rSeq_n (by assumption) (by omega)] | rw [if_neg (by omega)] | rw [if_pos (by omega)])); all_goals (repeat' split); all_goals (first | (exfalso; omega) | (dsimp only; exact rFst (by assumption)) | (dsimp only; omega) | omega)) rfl)

theorem wm172 {ro : Nat → Nat × (Nat → Int32)} {d : Nat} {Q : Option Value → pmS → Prop} {a : xA} {b : xB} {t : Int → Int} {n p : Int} (hC : tR a t n p) (hp : 0 ≤ p ∧ p ≤ n) (hn : n ≤ 60) (hb : tB t) (hA : xAr a) {x : Int} (h_x : xR x) (hx : 0 ≤ x ∧ x < 24) (hd : 3 ≤ d)
    (k1 : ∀ a1 : xA, ∀ p1 : Int, (tR a1 t n p1) → (vLr a a1) → (rCom t n 44 p = (0, p1)) → (p < p1 ∧ p1 ≤ n) → (sG t n p1 = -1 ∨ p1 < n) → (sG t n p1 < 48) → Q (some (xV 0)) (xS (xU a1 87 12 (-1000 * 1 - p1)) b))
    (k2 : ∀ a1 : xA, ∀ p1 : Int, (tR a1 t n p1) → (vLr a a1) → (rCom t n 44 p = (0, p1)) → (p < p1 ∧ p1 ≤ n) → (sG t n p1 = -1 ∨ p1 < n) → (¬ sG t n p1 < 48) → (sG t n p1 = -1 ∨ p1 < n) → (sG t n p1 ≤ 57) → (sG t n p1 = -1 ∨ p1 < n) → (sG t n p1 = -1 ∨ p1 < n) → (57 < sG t n p1) → Q (some (xV 1)) (xS (xU a1 106 x 0) b))
    (k3 : ∀ a1 : xA, ∀ p1 : Int, (tR a1 t n p1) → (vLr a a1) → (rCom t n 44 p = (0, p1)) → (p < p1 ∧ p1 ≤ n) → (sG t n p1 = -1 ∨ p1 < n) → (¬ sG t n p1 < 48) → (sG t n p1 = -1 ∨ p1 < n) → (sG t n p1 ≤ 57) → (sG t n p1 = -1 ∨ p1 < n) → (sG t n p1 = -1 ∨ p1 < n) → (¬ 57 < sG t n p1) → (sG t n p1 = -1 ∨ p1 < n) → (sG t n (p1 + 1) = -1 ∨ p1 + 1 < n) → (sG t n (p1 + 1) < 48) → Q (some (xV 1)) (xS (xU (xU (xU a1 106 x 0) 106 x (10 * 0 + (sG t n p1) - 48)) 87 10 (p1 + 1)) b))
    (k4 : ∀ a1 : xA, ∀ p1 : Int, (tR a1 t n p1) → (vLr a a1) → (rCom t n 44 p = (0, p1)) → (p < p1 ∧ p1 ≤ n) → (sG t n p1 = -1 ∨ p1 < n) → (¬ sG t n p1 < 48) → (sG t n p1 = -1 ∨ p1 < n) → (sG t n p1 ≤ 57) → (sG t n p1 = -1 ∨ p1 < n) → (sG t n p1 = -1 ∨ p1 < n) → (¬ 57 < sG t n p1) → (sG t n p1 = -1 ∨ p1 < n) → (sG t n (p1 + 1) = -1 ∨ p1 + 1 < n) → (¬ sG t n (p1 + 1) < 48) → (sG t n (p1 + 1) = -1 ∨ p1 + 1 < n) → (57 < sG t n (p1 + 1)) → Q (some (xV 1)) (xS (xU (xU (xU a1 106 x 0) 106 x (10 * 0 + (sG t n p1) - 48)) 87 10 (p1 + 1)) b))
    (k5 : ∀ a1 : xA, ∀ p1 : Int, (tR a1 t n p1) → (vLr a a1) → (rCom t n 44 p = (0, p1)) → (p < p1 ∧ p1 ≤ n) → (sG t n p1 = -1 ∨ p1 < n) → (¬ sG t n p1 < 48) → (sG t n p1 = -1 ∨ p1 < n) → (sG t n p1 ≤ 57) → (sG t n p1 = -1 ∨ p1 < n) → (sG t n p1 = -1 ∨ p1 < n) → (¬ 57 < sG t n p1) → (sG t n p1 = -1 ∨ p1 < n) → (sG t n (p1 + 1) = -1 ∨ p1 + 1 < n) → (¬ sG t n (p1 + 1) < 48) → (sG t n (p1 + 1) = -1 ∨ p1 + 1 < n) → (¬ 57 < sG t n (p1 + 1)) → (sG t n (p1 + 1) = -1 ∨ p1 + 1 < n) → (sG t n (p1 + 1 + 1) = -1 ∨ p1 + 1 + 1 < n) → (sG t n (p1 + 1 + 1) < 48) → Q (some (xV 1)) (xS (xU (xU (xU (xU (xU a1 106 x 0) 106 x (10 * 0 + (sG t n p1) - 48)) 87 10 (p1 + 1)) 106 x (10 * (10 * 0 + (sG t n p1) - 48) + (sG t n (p1 + 1)) - 48)) 87 10 (p1 + 1 + 1)) b))
    (k6 : ∀ a1 : xA, ∀ p1 : Int, (tR a1 t n p1) → (vLr a a1) → (rCom t n 44 p = (0, p1)) → (p < p1 ∧ p1 ≤ n) → (sG t n p1 = -1 ∨ p1 < n) → (¬ sG t n p1 < 48) → (sG t n p1 = -1 ∨ p1 < n) → (sG t n p1 ≤ 57) → (sG t n p1 = -1 ∨ p1 < n) → (sG t n p1 = -1 ∨ p1 < n) → (¬ 57 < sG t n p1) → (sG t n p1 = -1 ∨ p1 < n) → (sG t n (p1 + 1) = -1 ∨ p1 + 1 < n) → (¬ sG t n (p1 + 1) < 48) → (sG t n (p1 + 1) = -1 ∨ p1 + 1 < n) → (¬ 57 < sG t n (p1 + 1)) → (sG t n (p1 + 1) = -1 ∨ p1 + 1 < n) → (sG t n (p1 + 1 + 1) = -1 ∨ p1 + 1 + 1 < n) → (¬ sG t n (p1 + 1 + 1) < 48) → (sG t n (p1 + 1 + 1) = -1 ∨ p1 + 1 + 1 < n) → (57 < sG t n (p1 + 1 + 1)) → Q (some (xV 1)) (xS (xU (xU (xU (xU (xU a1 106 x 0) 106 x (10 * 0 + (sG t n p1) - 48)) 87 10 (p1 + 1)) 106 x (10 * (10 * 0 + (sG t n p1) - 48) + (sG t n (p1 + 1)) - 48)) 87 10 (p1 + 1 + 1)) b))
    (k7 : ∀ a1 : xA, ∀ p1 : Int, (tR a1 t n p1) → (vLr a a1) → (rCom t n 44 p = (0, p1)) → (p < p1 ∧ p1 ≤ n) → (sG t n p1 = -1 ∨ p1 < n) → (¬ sG t n p1 < 48) → (sG t n p1 = -1 ∨ p1 < n) → (sG t n p1 ≤ 57) → (sG t n p1 = -1 ∨ p1 < n) → (sG t n p1 = -1 ∨ p1 < n) → (¬ 57 < sG t n p1) → (sG t n p1 = -1 ∨ p1 < n) → (sG t n (p1 + 1) = -1 ∨ p1 + 1 < n) → (¬ sG t n (p1 + 1) < 48) → (sG t n (p1 + 1) = -1 ∨ p1 + 1 < n) → (¬ 57 < sG t n (p1 + 1)) → (sG t n (p1 + 1) = -1 ∨ p1 + 1 < n) → (sG t n (p1 + 1 + 1) = -1 ∨ p1 + 1 + 1 < n) → (¬ sG t n (p1 + 1 + 1) < 48) → (sG t n (p1 + 1 + 1) = -1 ∨ p1 + 1 + 1 < n) → (¬ 57 < sG t n (p1 + 1 + 1)) → Q (some (xV 0)) (xS (xU (xU (xU (xU (xU (xU a1 106 x 0) 106 x (10 * 0 + (sG t n p1) - 48)) 87 10 (p1 + 1)) 106 x (10 * (10 * 0 + (sG t n p1) - 48) + (sG t n (p1 + 1)) - 48)) 87 10 (p1 + 1 + 1)) 87 12 (-1000 * 2 - (p1 + 1 + 1))) b))
    (k8 : ∀ a1 : xA, ∀ p1 : Int, (tR a1 t n p1) → (vLr a a1) → (rCom t n 44 p = (0, p1)) → (p < p1 ∧ p1 ≤ n) → (sG t n p1 = -1 ∨ p1 < n) → (¬ sG t n p1 < 48) → (sG t n p1 = -1 ∨ p1 < n) → (¬ sG t n p1 ≤ 57) → Q (some (xV 0)) (xS (xU a1 87 12 (-1000 * 1 - p1)) b))
    (k9 : ∀ a2 : xA, ∀ f2 : Int, ∀ q2 : Int, (vLr a a2) → (a2 87 12 = f2) → (f2 < 0 ∧ -10000 < f2) → (rCom t n 44 p = (f2, q2)) → Q (some (xV 0)) (xS a2 b)) :
    pmWp ro d 12 172 2 0 [some (.ref 87), some (xV x), none] [] (xS a b) Q := by
  refine x_aloadn xc172_0 rfl ?_
  refine x_bipush xc172_1 (by decide) ?_
  refine x_cV (as := [xV 44]) (rest := []) xc172_3 rfl xi171 xz87 ⟨rfl, rfl⟩ rfl rfl ?_
  refine xm171 hC (by omega) (by omega) hb hA (by omega) (by omega) (fun a1 p1 h0 h1 h3 h4 => ?_) (fun a2 f2 q2 h5 h6 h7 h8 => ?_)
  · refine x_ifne xc172_6 (xRk (by decide)) (fun _ => ?_) (fun h => absurd h (by omega))
    refine x_aloadn xc172_11 rfl ?_
    refine x_gfi' (k := 10) (v := p1) xc172_12 rfl (Or.inl rfl) rfl xz87 h0.2.2 ?_
    refine x_istoren (pl' := [some (.ref 87), some (xV x), some (xV p1)]) xc172_15 rfl rfl ?_
    refine x_aloadn xc172_16 rfl ?_
    refine x_cV (as := []) (rest := []) xc172_17 rfl xi156 xz87 ⟨rfl, rfl⟩ rfl rfl ?_
    refine xk156 h0 (by omega) (by omega) hb h1.1 (by omega) (fun h10 => ?_)
    refine x_bipush xc172_20 (by decide) ?_
    refine x_iclt xc172_22 (xRk (by have g0 := sGB (n := n) (p := p1) hb (by omega); omega)) (xRk (by decide)) (fun h11 => ?_) (fun h11 => ?_)
    · refine x_aloadn xc172_34 rfl ?_
      refine x_iconst xc172_35 ?_
      refine x_aloadn xc172_36 rfl ?_
      refine x_gfi' (k := 10) (v := p1) xc172_37 rfl (Or.inl rfl) rfl xz87 h0.2.2 ?_
      refine x_cV (as := [xV 1, xV p1]) (rest := []) xc172_40 rfl xi158 xz87 ⟨rfl, rfl⟩ rfl rfl ?_
      refine xk158 (xRk (by decide)) (xRk (by omega)) (by omega) ?_
      refine x_iret xc172_43 (Or.inr ⟨rfl, (by omega)⟩) ?_
      exact k1 a1 p1 h0 h1 h3 h4 h10 h11
    · refine x_aloadn xc172_25 rfl ?_
      refine x_cV (as := []) (rest := []) xc172_26 rfl xi156 xz87 ⟨rfl, rfl⟩ rfl rfl ?_
      refine xk156 h0 (by omega) (by omega) hb h1.1 (by omega) (fun h12 => ?_)
      refine x_bipush xc172_29 (by decide) ?_
      refine x_icle xc172_31 (xRk (by have g0 := sGB (n := n) (p := p1) hb (by omega); omega)) (xRk (by decide)) (fun h13 => ?_) (fun h13 => ?_)
      · refine x_aloadn xc172_44 rfl ?_
        refine x_gfr xc172_45 rfl rfl xz87 rfl ?_
        refine x_iloadn xc172_48 rfl ?_
        refine x_iconst xc172_49 ?_
        refine x_ias xc172_50 xz106 (by have g0 := xRb h_x; omega) (by have g0 := xRb h_x; omega) (by have g0 := xRb h_x; omega) ?_
        refine x_aloadn xc172_51 rfl ?_
        refine x_cV (as := []) (rest := []) xc172_52 rfl xi156 xz87 ⟨rfl, rfl⟩ rfl rfl ?_
        refine xk156 (tR.ot (by decide) (by decide) h0) (by omega) (by omega) hb (xAr_u h1.1 (xRk (by decide))) (by omega) (fun h14 => ?_)
        refine x_bipush xc172_55 (by decide) ?_
        refine x_iclt xc172_57 (xRk (by have g0 := sGB (n := n) (p := p1) hb (by omega); omega)) (xRk (by decide)) (fun h => absurd h (by omega)) (fun _ => ?_)
        refine x_aloadn xc172_60 rfl ?_
        refine x_cV (as := []) (rest := []) xc172_61 rfl xi156 xz87 ⟨rfl, rfl⟩ rfl rfl ?_
        refine xk156 (tR.ot (by decide) (by decide) h0) (by omega) (by omega) hb (xAr_u h1.1 (xRk (by decide))) (by omega) (fun h16 => ?_)
        refine x_bipush xc172_64 (by decide) ?_
        refine x_icgt xc172_66 (xRk (by have g0 := sGB (n := n) (p := p1) hb (by omega); omega)) (xRk (by decide)) (fun h17 => ?_) (fun h17 => ?_)
        · refine x_iconst xc172_125 ?_
          refine x_iret xc172_126 (Or.inr ⟨rfl, (by omega)⟩) ?_
          exact k2 a1 p1 h0 h1 h3 h4 h10 h11 h12 h13 h14 h16 h17
        · refine x_aloadn xc172_69 rfl ?_
          refine x_gfi' (k := 10) (v := p1) xc172_70 rfl (Or.inl rfl) rfl xz87 (by rw [xUn (by decide), h0.2.2]) ?_
          refine x_iloadn xc172_73 rfl ?_
          refine x_iconst xc172_74 ?_
          refine x_iadd xc172_75 ?_
          refine x_icne xc172_76 (xRk (by omega)) (xRk (by omega)) (fun _ => ?_) (fun h => absurd h (by omega))
          refine x_aloadn xc172_89 rfl ?_
          refine x_gfr xc172_90 rfl rfl xz87 rfl ?_
          refine x_iloadn xc172_93 rfl ?_
          refine x_bipush xc172_94 (by decide) ?_
          refine x_aloadn xc172_96 rfl ?_
          refine x_gfr xc172_97 rfl rfl xz87 rfl ?_
          refine x_iloadn xc172_100 rfl ?_
          refine x_ial' (v := 0) xc172_101 xz106 rfl (by have g0 := xRb h_x; omega) (by have g0 := xRb h_x; omega) (by have g0 := xRb h_x; omega) (by rw [xUa]) ?_
          refine x_imul xc172_102 ?_
          refine x_aloadn xc172_103 rfl ?_
          refine x_cV (as := []) (rest := [xV (10 * 0), xV x, .ref 106]) xc172_104 rfl xi156 xz87 ⟨rfl, rfl⟩ rfl rfl ?_
          refine xk156 (tR.ot (by decide) (by decide) h0) (by omega) (by omega) hb (xAr_u h1.1 (xRk (by decide))) (by omega) (fun h19 => ?_)
          refine x_iadd xc172_107 ?_
          refine x_bipush xc172_108 (by decide) ?_
          refine x_isub xc172_110 ?_
          refine x_ias xc172_111 xz106 (by have g0 := xRb h_x; omega) (by have g0 := xRb h_x; omega) (by have g0 := xRb h_x; omega) ?_
          refine x_aloadn xc172_112 rfl ?_
          refine x_aloadn xc172_113 rfl ?_
          refine x_gfi' (k := 10) (v := p1) xc172_114 rfl (Or.inl rfl) rfl xz87 (by rw [xUn (by decide), xUn (by decide), h0.2.2]) ?_
          refine x_iconst xc172_117 ?_
          refine x_iadd xc172_118 ?_
          refine x_pfi (k := 10) xc172_119 rfl ⟨rfl, rfl⟩ rfl xz87 ?_
          refine x_goto xc172_122 ?_
          refine x_aloadn xc172_51 rfl ?_
          refine x_cV (as := []) (rest := []) xc172_52 rfl xi156 xz87 ⟨rfl, rfl⟩ rfl rfl ?_
          refine xk156 (tR.at (tR.ot (by decide) (by decide) (tR.ot (by decide) (by decide) h0))) (by omega) (by omega) hb (xAr_u (xAr_u (xAr_u h1.1 (xRk (by decide))) (xRk (by have g0 := sGB (n := n) (p := p1) hb (by omega); omega))) (xRk (by omega))) (by omega) (fun h20 => ?_)
          refine x_bipush xc172_55 (by decide) ?_
          refine x_iclt xc172_57 (xRk (by have g0 := sGB (n := n) (p := p1 + 1) hb (by omega); omega)) (xRk (by decide)) (fun h21 => ?_) (fun h21 => ?_)
          · refine x_iconst xc172_125 ?_
            refine x_iret xc172_126 (Or.inr ⟨rfl, (by omega)⟩) ?_
            exact k3 a1 p1 h0 h1 h3 h4 h10 h11 h12 h13 h14 h16 h17 h19 h20 h21
          · refine x_aloadn xc172_60 rfl ?_
            refine x_cV (as := []) (rest := []) xc172_61 rfl xi156 xz87 ⟨rfl, rfl⟩ rfl rfl ?_
            refine xk156 (tR.at (tR.ot (by decide) (by decide) (tR.ot (by decide) (by decide) h0))) (by omega) (by omega) hb (xAr_u (xAr_u (xAr_u h1.1 (xRk (by decide))) (xRk (by have g0 := sGB (n := n) (p := p1) hb (by omega); omega))) (xRk (by omega))) (by omega) (fun h22 => ?_)
            refine x_bipush xc172_64 (by decide) ?_
            refine x_icgt xc172_66 (xRk (by have g0 := sGB (n := n) (p := p1 + 1) hb (by omega); omega)) (xRk (by decide)) (fun h23 => ?_) (fun h23 => ?_)
            · refine x_iconst xc172_125 ?_
              refine x_iret xc172_126 (Or.inr ⟨rfl, (by omega)⟩) ?_
              exact k4 a1 p1 h0 h1 h3 h4 h10 h11 h12 h13 h14 h16 h17 h19 h20 h21 h22 h23
            · refine x_aloadn xc172_69 rfl ?_
              refine x_gfi' (k := 10) (v := p1 + 1) xc172_70 rfl (Or.inl rfl) rfl xz87 (by rw [xUa]) ?_
              refine x_iloadn xc172_73 rfl ?_
              refine x_iconst xc172_74 ?_
              refine x_iadd xc172_75 ?_
              refine x_icne xc172_76 (xRk (by omega)) (xRk (by omega)) (fun _ => ?_) (fun h => absurd h (by omega))
              refine x_aloadn xc172_89 rfl ?_
              refine x_gfr xc172_90 rfl rfl xz87 rfl ?_
              refine x_iloadn xc172_93 rfl ?_
              refine x_bipush xc172_94 (by decide) ?_
              refine x_aloadn xc172_96 rfl ?_
              refine x_gfr xc172_97 rfl rfl xz87 rfl ?_
              refine x_iloadn xc172_100 rfl ?_
              refine x_ial' (v := 10 * 0 + (sG t n p1) - 48) xc172_101 xz106 rfl (by have g0 := xRb h_x; omega) (by have g0 := xRb h_x; omega) (by have g0 := xRb h_x; omega) (by rw [xUn (by decide), xUa]) ?_
              refine x_imul xc172_102 ?_
              refine x_aloadn xc172_103 rfl ?_
              refine x_cV (as := []) (rest := [xV (10 * (10 * 0 + (sG t n p1) - 48)), xV x, .ref 106]) xc172_104 rfl xi156 xz87 ⟨rfl, rfl⟩ rfl rfl ?_
              refine xk156 (tR.at (tR.ot (by decide) (by decide) (tR.ot (by decide) (by decide) h0))) (by omega) (by omega) hb (xAr_u (xAr_u (xAr_u h1.1 (xRk (by decide))) (xRk (by have g0 := sGB (n := n) (p := p1) hb (by omega); omega))) (xRk (by omega))) (by omega) (fun h25 => ?_)
              refine x_iadd xc172_107 ?_
              refine x_bipush xc172_108 (by decide) ?_
              refine x_isub xc172_110 ?_
              refine x_ias xc172_111 xz106 (by have g0 := xRb h_x; omega) (by have g0 := xRb h_x; omega) (by have g0 := xRb h_x; omega) ?_
              refine x_aloadn xc172_112 rfl ?_
              refine x_aloadn xc172_113 rfl ?_
              refine x_gfi' (k := 10) (v := p1 + 1) xc172_114 rfl (Or.inl rfl) rfl xz87 (by rw [xUn (by decide), xUa]) ?_
              refine x_iconst xc172_117 ?_
              refine x_iadd xc172_118 ?_
              refine x_pfi (k := 10) xc172_119 rfl ⟨rfl, rfl⟩ rfl xz87 ?_
              refine x_goto xc172_122 ?_
              refine x_aloadn xc172_51 rfl ?_
              refine x_cV (as := []) (rest := []) xc172_52 rfl xi156 xz87 ⟨rfl, rfl⟩ rfl rfl ?_
              refine xk156 (tR.at (tR.ot (by decide) (by decide) (tR.at (tR.ot (by decide) (by decide) (tR.ot (by decide) (by decide) h0))))) (by omega) (by omega) hb (xAr_u (xAr_u (xAr_u (xAr_u (xAr_u h1.1 (xRk (by decide))) (xRk (by have g0 := sGB (n := n) (p := p1) hb (by omega); omega))) (xRk (by omega))) (xRk (by have g0 := sGB (n := n) (p := p1) hb (by omega); have g1 := sGB (n := n) (p := p1 + 1) hb (by omega); omega))) (xRk (by omega))) (by omega) (fun h26 => ?_)
              refine x_bipush xc172_55 (by decide) ?_
              refine x_iclt xc172_57 (xRk (by have g0 := sGB (n := n) (p := p1 + 1 + 1) hb (by omega); omega)) (xRk (by decide)) (fun h27 => ?_) (fun h27 => ?_)
              · refine x_iconst xc172_125 ?_
                refine x_iret xc172_126 (Or.inr ⟨rfl, (by omega)⟩) ?_
                exact k5 a1 p1 h0 h1 h3 h4 h10 h11 h12 h13 h14 h16 h17 h19 h20 h21 h22 h23 h25 h26 h27
              · refine x_aloadn xc172_60 rfl ?_
                refine x_cV (as := []) (rest := []) xc172_61 rfl xi156 xz87 ⟨rfl, rfl⟩ rfl rfl ?_
                refine xk156 (tR.at (tR.ot (by decide) (by decide) (tR.at (tR.ot (by decide) (by decide) (tR.ot (by decide) (by decide) h0))))) (by omega) (by omega) hb (xAr_u (xAr_u (xAr_u (xAr_u (xAr_u h1.1 (xRk (by decide))) (xRk (by have g0 := sGB (n := n) (p := p1) hb (by omega); omega))) (xRk (by omega))) (xRk (by have g0 := sGB (n := n) (p := p1) hb (by omega); have g1 := sGB (n := n) (p := p1 + 1) hb (by omega); omega))) (xRk (by omega))) (by omega) (fun h28 => ?_)
                refine x_bipush xc172_64 (by decide) ?_
                refine x_icgt xc172_66 (xRk (by have g0 := sGB (n := n) (p := p1 + 1 + 1) hb (by omega); omega)) (xRk (by decide)) (fun h29 => ?_) (fun h29 => ?_)
                · refine x_iconst xc172_125 ?_
                  refine x_iret xc172_126 (Or.inr ⟨rfl, (by omega)⟩) ?_
                  exact k6 a1 p1 h0 h1 h3 h4 h10 h11 h12 h13 h14 h16 h17 h19 h20 h21 h22 h23 h25 h26 h27 h28 h29
                · refine x_aloadn xc172_69 rfl ?_
                  refine x_gfi' (k := 10) (v := p1 + 1 + 1) xc172_70 rfl (Or.inl rfl) rfl xz87 (by rw [xUa]) ?_
                  refine x_iloadn xc172_73 rfl ?_
                  refine x_iconst xc172_74 ?_
                  refine x_iadd xc172_75 ?_
                  refine x_icne xc172_76 (xRk (by omega)) (xRk (by omega)) (fun h => absurd h (by omega)) (fun _ => ?_)
                  refine x_aloadn xc172_79 rfl ?_
                  refine x_iconst xc172_80 ?_
                  refine x_aloadn xc172_81 rfl ?_
                  refine x_gfi' (k := 10) (v := p1 + 1 + 1) xc172_82 rfl (Or.inl rfl) rfl xz87 (by rw [xUa]) ?_
                  refine x_cV (as := [xV 2, xV (p1 + 1 + 1)]) (rest := []) xc172_85 rfl xi158 xz87 ⟨rfl, rfl⟩ rfl rfl ?_
                  refine xk158 (xRk (by decide)) (xRk (by omega)) (by omega) ?_
                  refine x_iret xc172_88 (Or.inr ⟨rfl, (by omega)⟩) ?_
                  exact k7 a1 p1 h0 h1 h3 h4 h10 h11 h12 h13 h14 h16 h17 h19 h20 h21 h22 h23 h25 h26 h27 h28 h29
      · refine x_aloadn xc172_34 rfl ?_
        refine x_iconst xc172_35 ?_
        refine x_aloadn xc172_36 rfl ?_
        refine x_gfi' (k := 10) (v := p1) xc172_37 rfl (Or.inl rfl) rfl xz87 h0.2.2 ?_
        refine x_cV (as := [xV 1, xV p1]) (rest := []) xc172_40 rfl xi158 xz87 ⟨rfl, rfl⟩ rfl rfl ?_
        refine xk158 (xRk (by decide)) (xRk (by omega)) (by omega) ?_
        refine x_iret xc172_43 (Or.inr ⟨rfl, (by omega)⟩) ?_
        exact k8 a1 p1 h0 h1 h3 h4 h10 h11 h12 h13
  · refine x_ifne xc172_6 (xRk (by decide)) (fun h => absurd h (by omega)) (fun _ => ?_)
    refine x_iconst xc172_9 ?_
    refine x_iret xc172_10 (Or.inr ⟨rfl, (by omega)⟩) ?_
    exact k9 a2 f2 q2 h5 h6 h7 h8

theorem xm172 {ro : Nat → Nat × (Nat → Int32)} {d : Nat} {Q : Option Value → pmS → Prop} {a : xA} {b : xB} {t : Int → Int} {n p : Int} (hC : tR a t n p) (hp : 0 ≤ p ∧ p ≤ n) (hn : n ≤ 60) (hb : tB t) (hA : xAr a) {x : Int} (hx : 0 ≤ x ∧ x < 24) (hd : 4 ≤ d)
    (hT : ∀ (a1 : xA) (p1 : Int), tR a1 t n p1 → vLr a a1 → rSeq (rCom t n 44 p) (rNum t n) = (0, p1) → p < p1 ∧ p1 ≤ n → Q (some (xV 1)) (xS a1 b))
    (hF : ∀ (a1 : xA) (f q : Int), vLr a a1 → a1 87 12 = f → f < 0 ∧ -10000 < f → rSeq (rCom t n 44 p) (rNum t n) = (f, q) → Q (some (xV 0)) (xS a1 b)) : pmCs ro d 172 [.ref 87, xV x] (xS a b) Q := by
  refine pmCs_deep (d := 4) (xg172 (wm172 hC hp hn hb hA ⟨by omega, by omega⟩ hx (by decide) ?_ ?_ ?_ ?_ ?_ ?_ ?_ ?_ ?_)) hd
  · intro a1 p1 h0 h1 h3 h4 h10 h11
    first | (exfalso; omega) | exact hF _ (-1000 * 1 - p1) _ (vLr.u (xRk (by omega)) (by omega) (by omega) (by omega) (vLr.tr (vLr.r hA) h1)) (by rw [xUa]) (by omega) (Prod.ext (by (first | rw [rSeq_0 (by assumption)] | rw [rSeq_n (by assumption) (by omega)]); (try unfold rNum); (repeat (first | rw [rSeq_00] | rw [rSeq_as] | rw [rSeq_0 (by assumption)] | rw [rSeq_n (by assumption) (by omega)] | rw [if_neg (by omega)] | rw [if_pos (by omega)])); all_goals (repeat' split); all_goals (first | (exfalso; omega) | (dsimp only; exact rFst (by assumption)) | (dsimp only; omega) | omega)) rfl)
  · intro a1 p1 h0 h1 h3 h4 h10 h11 h12 h13 h14 h16 h17
    first | (exfalso; omega) | exact hT _ (p1) (tR.ot (by decide) (by decide) h0) (vLr.u (xRk (by decide)) (by omega) (by omega) (by omega) (vLr.tr (vLr.r hA) h1)) (by (first | rw [rSeq_0 (by assumption)] | rw [rSeq_n (by assumption) (by omega)]); (try unfold rNum); (repeat (first | rw [rSeq_00] | rw [rSeq_as] | rw [rSeq_0 (by assumption)] | rw [rSeq_n (by assumption) (by omega)] | rw [if_neg (by omega)] | rw [if_pos (by omega)])); all_goals (repeat' split); all_goals (first | (exfalso; omega) | assumption | rfl)) (by omega)
  · intro a1 p1 h0 h1 h3 h4 h10 h11 h12 h13 h14 h16 h17 h19 h20 h21
    first | (exfalso; omega) | exact hT _ (p1 + 1) (tR.at (tR.ot (by decide) (by decide) (tR.ot (by decide) (by decide) h0))) (vLr.u (xRk (by omega)) (by omega) (by omega) (by omega) (vLr.u (xRk (by have g0 := sGB (n := n) (p := p1) hb (by omega); omega)) (by omega) (by omega) (by omega) (vLr.u (xRk (by decide)) (by omega) (by omega) (by omega) (vLr.tr (vLr.r hA) h1)))) (by (first | rw [rSeq_0 (by assumption)] | rw [rSeq_n (by assumption) (by omega)]); (try unfold rNum); (repeat (first | rw [rSeq_00] | rw [rSeq_as] | rw [rSeq_0 (by assumption)] | rw [rSeq_n (by assumption) (by omega)] | rw [if_neg (by omega)] | rw [if_pos (by omega)])); all_goals (repeat' split); all_goals (first | (exfalso; omega) | assumption | rfl)) (by omega)
  · intro a1 p1 h0 h1 h3 h4 h10 h11 h12 h13 h14 h16 h17 h19 h20 h21 h22 h23
    first | (exfalso; omega) | exact hT _ (p1 + 1) (tR.at (tR.ot (by decide) (by decide) (tR.ot (by decide) (by decide) h0))) (vLr.u (xRk (by omega)) (by omega) (by omega) (by omega) (vLr.u (xRk (by have g0 := sGB (n := n) (p := p1) hb (by omega); omega)) (by omega) (by omega) (by omega) (vLr.u (xRk (by decide)) (by omega) (by omega) (by omega) (vLr.tr (vLr.r hA) h1)))) (by (first | rw [rSeq_0 (by assumption)] | rw [rSeq_n (by assumption) (by omega)]); (try unfold rNum); (repeat (first | rw [rSeq_00] | rw [rSeq_as] | rw [rSeq_0 (by assumption)] | rw [rSeq_n (by assumption) (by omega)] | rw [if_neg (by omega)] | rw [if_pos (by omega)])); all_goals (repeat' split); all_goals (first | (exfalso; omega) | assumption | rfl)) (by omega)
  · intro a1 p1 h0 h1 h3 h4 h10 h11 h12 h13 h14 h16 h17 h19 h20 h21 h22 h23 h25 h26 h27
    first | (exfalso; omega) | exact hT _ (p1 + 1 + 1) (tR.at (tR.ot (by decide) (by decide) (tR.at (tR.ot (by decide) (by decide) (tR.ot (by decide) (by decide) h0))))) (vLr.u (xRk (by omega)) (by omega) (by omega) (by omega) (vLr.u (xRk (by have g0 := sGB (n := n) (p := p1) hb (by omega); have g1 := sGB (n := n) (p := p1 + 1) hb (by omega); omega)) (by omega) (by omega) (by omega) (vLr.u (xRk (by omega)) (by omega) (by omega) (by omega) (vLr.u (xRk (by have g0 := sGB (n := n) (p := p1) hb (by omega); omega)) (by omega) (by omega) (by omega) (vLr.u (xRk (by decide)) (by omega) (by omega) (by omega) (vLr.tr (vLr.r hA) h1)))))) (by (first | rw [rSeq_0 (by assumption)] | rw [rSeq_n (by assumption) (by omega)]); (try unfold rNum); (repeat (first | rw [rSeq_00] | rw [rSeq_as] | rw [rSeq_0 (by assumption)] | rw [rSeq_n (by assumption) (by omega)] | rw [if_neg (by omega)] | rw [if_pos (by omega)])); all_goals (repeat' split); all_goals (first | (exfalso; omega) | assumption | rfl)) (by omega)
  · intro a1 p1 h0 h1 h3 h4 h10 h11 h12 h13 h14 h16 h17 h19 h20 h21 h22 h23 h25 h26 h27 h28 h29
    first | (exfalso; omega) | exact hT _ (p1 + 1 + 1) (tR.at (tR.ot (by decide) (by decide) (tR.at (tR.ot (by decide) (by decide) (tR.ot (by decide) (by decide) h0))))) (vLr.u (xRk (by omega)) (by omega) (by omega) (by omega) (vLr.u (xRk (by have g0 := sGB (n := n) (p := p1) hb (by omega); have g1 := sGB (n := n) (p := p1 + 1) hb (by omega); omega)) (by omega) (by omega) (by omega) (vLr.u (xRk (by omega)) (by omega) (by omega) (by omega) (vLr.u (xRk (by have g0 := sGB (n := n) (p := p1) hb (by omega); omega)) (by omega) (by omega) (by omega) (vLr.u (xRk (by decide)) (by omega) (by omega) (by omega) (vLr.tr (vLr.r hA) h1)))))) (by (first | rw [rSeq_0 (by assumption)] | rw [rSeq_n (by assumption) (by omega)]); (try unfold rNum); (repeat (first | rw [rSeq_00] | rw [rSeq_as] | rw [rSeq_0 (by assumption)] | rw [rSeq_n (by assumption) (by omega)] | rw [if_neg (by omega)] | rw [if_pos (by omega)])); all_goals (repeat' split); all_goals (first | (exfalso; omega) | assumption | rfl)) (by omega)
  · intro a1 p1 h0 h1 h3 h4 h10 h11 h12 h13 h14 h16 h17 h19 h20 h21 h22 h23 h25 h26 h27 h28 h29
    first | (exfalso; omega) | exact hF _ (-1000 * 2 - (p1 + 1 + 1)) _ (vLr.u (xRk (by omega)) (by omega) (by omega) (by omega) (vLr.u (xRk (by omega)) (by omega) (by omega) (by omega) (vLr.u (xRk (by have g0 := sGB (n := n) (p := p1) hb (by omega); have g1 := sGB (n := n) (p := p1 + 1) hb (by omega); omega)) (by omega) (by omega) (by omega) (vLr.u (xRk (by omega)) (by omega) (by omega) (by omega) (vLr.u (xRk (by have g0 := sGB (n := n) (p := p1) hb (by omega); omega)) (by omega) (by omega) (by omega) (vLr.u (xRk (by decide)) (by omega) (by omega) (by omega) (vLr.tr (vLr.r hA) h1))))))) (by rw [xUa]) (by omega) (Prod.ext (by (first | rw [rSeq_0 (by assumption)] | rw [rSeq_n (by assumption) (by omega)]); (try unfold rNum); (repeat (first | rw [rSeq_00] | rw [rSeq_as] | rw [rSeq_0 (by assumption)] | rw [rSeq_n (by assumption) (by omega)] | rw [if_neg (by omega)] | rw [if_pos (by omega)])); all_goals (repeat' split); all_goals (first | (exfalso; omega) | (dsimp only; exact rFst (by assumption)) | (dsimp only; omega) | omega)) rfl)
  · intro a1 p1 h0 h1 h3 h4 h10 h11 h12 h13
    first | (exfalso; omega) | exact hF _ (-1000 * 1 - p1) _ (vLr.u (xRk (by omega)) (by omega) (by omega) (by omega) (vLr.tr (vLr.r hA) h1)) (by rw [xUa]) (by omega) (Prod.ext (by (first | rw [rSeq_0 (by assumption)] | rw [rSeq_n (by assumption) (by omega)]); (try unfold rNum); (repeat (first | rw [rSeq_00] | rw [rSeq_as] | rw [rSeq_0 (by assumption)] | rw [rSeq_n (by assumption) (by omega)] | rw [if_neg (by omega)] | rw [if_pos (by omega)])); all_goals (repeat' split); all_goals (first | (exfalso; omega) | (dsimp only; exact rFst (by assumption)) | (dsimp only; omega) | omega)) rfl)
  · intro a2 f2 q2 h5 h6 h7 h8
    first | (exfalso; omega) | exact hF _ (f2) _ (vLr.tr (vLr.r hA) h5) h6 (by omega) (Prod.ext (by (first | rw [rSeq_0 (by assumption)] | rw [rSeq_n (by assumption) (by omega)]); (try unfold rNum); (repeat (first | rw [rSeq_00] | rw [rSeq_as] | rw [rSeq_0 (by assumption)] | rw [rSeq_n (by assumption) (by omega)] | rw [if_neg (by omega)] | rw [if_pos (by omega)])); all_goals (repeat' split); all_goals (first | (exfalso; omega) | (dsimp only; exact rFst (by assumption)) | (dsimp only; omega) | omega)) rfl)

theorem wm167 {ro : Nat → Nat × (Nat → Int32)} {d : Nat} {Q : Option Value → pmS → Prop} {a : xA} {b : xB} {t : Int → Int} {n p : Int} (hC : tR a t n p) (hp : 0 ≤ p ∧ p ≤ n) (hn : n ≤ 60) (hb : tB t) (hA : xAr a) {x y : Int} (h_x : xR x) (h_y : xR y) (hx : 0 ≤ x ∧ x < 24) (hy : 0 ≤ y ∧ y ≤ 4) (hd : 4 ≤ d)
    (k1 : (sG t n p = -1 ∨ p < n) → (sG t n p = 110) → (¬ y = 4) → ∀ a1 : xA, ∀ p1 : Int, (tR a1 t n p1) → (vLr (xU (xU a 87 10 (p + 1)) 101 x (sG t n p)) a1) → (rEv t n (p + 1) = (0, p1)) → (p + 1 < p1 ∧ p1 ≤ n) → Q (some (xV 1)) (xS a1 b))
    (k2 : (sG t n p = -1 ∨ p < n) → (sG t n p = 110) → (¬ y = 4) → ∀ a2 : xA, ∀ f2 : Int, ∀ q2 : Int, (vLr (xU (xU a 87 10 (p + 1)) 101 x (sG t n p)) a2) → (a2 87 12 = f2) → (f2 < 0 ∧ -10000 < f2) → (rEv t n (p + 1) = (f2, q2)) → Q (some (xV 0)) (xS a2 b))
    (k3 : (sG t n p = -1 ∨ p < n) → (sG t n p = 110) → (¬ ¬ y = 4) → Q (some (xV 0)) (xS (xU a 87 12 (-1000 * 4 - p)) b))
    (k4 : (sG t n p = -1 ∨ p < n) → (¬ sG t n p = 110) → (sG t n p = 97) → (¬ y = 4) → ∀ a3 : xA, ∀ p3 : Int, (tR a3 t n p3) → (vLr (xU (xU a 87 10 (p + 1)) 101 x (sG t n p)) a3) → (rEv t n (p + 1) = (0, p3)) → (p + 1 < p3 ∧ p3 ≤ n) → ∀ a5 : xA, ∀ p5 : Int, (tR a5 t n p5) → (vLr a3 a5) → (rCom t n 44 p3 = (0, p5)) → (p3 < p5 ∧ p5 ≤ n) → ∀ a7 : xA, ∀ p7 : Int, (tR a7 t n p7) → (vLr a5 a7) → (rEv t n p5 = (0, p7)) → (p5 < p7 ∧ p7 ≤ n) → Q (some (xV 1)) (xS a7 b))
    (k5 : (sG t n p = -1 ∨ p < n) → (¬ sG t n p = 110) → (sG t n p = 97) → (¬ y = 4) → ∀ a3 : xA, ∀ p3 : Int, (tR a3 t n p3) → (vLr (xU (xU a 87 10 (p + 1)) 101 x (sG t n p)) a3) → (rEv t n (p + 1) = (0, p3)) → (p + 1 < p3 ∧ p3 ≤ n) → ∀ a5 : xA, ∀ p5 : Int, (tR a5 t n p5) → (vLr a3 a5) → (rCom t n 44 p3 = (0, p5)) → (p3 < p5 ∧ p5 ≤ n) → ∀ a8 : xA, ∀ f8 : Int, ∀ q8 : Int, (vLr a5 a8) → (a8 87 12 = f8) → (f8 < 0 ∧ -10000 < f8) → (rEv t n p5 = (f8, q8)) → Q (some (xV 0)) (xS a8 b))
    (k6 : (sG t n p = -1 ∨ p < n) → (¬ sG t n p = 110) → (sG t n p = 97) → (¬ y = 4) → ∀ a3 : xA, ∀ p3 : Int, (tR a3 t n p3) → (vLr (xU (xU a 87 10 (p + 1)) 101 x (sG t n p)) a3) → (rEv t n (p + 1) = (0, p3)) → (p + 1 < p3 ∧ p3 ≤ n) → ∀ a6 : xA, ∀ f6 : Int, ∀ q6 : Int, (vLr a3 a6) → (a6 87 12 = f6) → (f6 < 0 ∧ -10000 < f6) → (rCom t n 44 p3 = (f6, q6)) → Q (some (xV 0)) (xS a6 b))
    (k7 : (sG t n p = -1 ∨ p < n) → (¬ sG t n p = 110) → (sG t n p = 97) → (¬ y = 4) → ∀ a4 : xA, ∀ f4 : Int, ∀ q4 : Int, (vLr (xU (xU a 87 10 (p + 1)) 101 x (sG t n p)) a4) → (a4 87 12 = f4) → (f4 < 0 ∧ -10000 < f4) → (rEv t n (p + 1) = (f4, q4)) → Q (some (xV 0)) (xS a4 b))
    (k8 : (sG t n p = -1 ∨ p < n) → (¬ sG t n p = 110) → (sG t n p = 97) → (¬ ¬ y = 4) → Q (some (xV 0)) (xS (xU a 87 12 (-1000 * 4 - p)) b))
    (k9 : (sG t n p = -1 ∨ p < n) → (¬ sG t n p = 110) → (¬ sG t n p = 97) → (sG t n p = 114) → (¬ y = 4) → ∀ a9 : xA, ∀ p9 : Int, (tR a9 t n p9) → (vLr (xU (xU a 87 10 (p + 1)) 101 x (sG t n p)) a9) → (rEv t n (p + 1) = (0, p9)) → (p + 1 < p9 ∧ p9 ≤ n) → ∀ a11 : xA, ∀ p11 : Int, (tR a11 t n p11) → (vLr a9 a11) → (rCom t n 44 p9 = (0, p11)) → (p9 < p11 ∧ p11 ≤ n) → ∀ a13 : xA, ∀ p13 : Int, (tR a13 t n p13) → (vLr a11 a13) → (rEv t n p11 = (0, p13)) → (p11 < p13 ∧ p13 ≤ n) → ∀ a15 : xA, ∀ p15 : Int, (tR a15 t n p15) → (vLr a13 a15) → (rSeq (rCom t n 44 p13) (rNum t n) = (0, p15)) → (p13 < p15 ∧ p15 ≤ n) → Q (some (xV 1)) (xS a15 b))
    (k10 : (sG t n p = -1 ∨ p < n) → (¬ sG t n p = 110) → (¬ sG t n p = 97) → (sG t n p = 114) → (¬ y = 4) → ∀ a9 : xA, ∀ p9 : Int, (tR a9 t n p9) → (vLr (xU (xU a 87 10 (p + 1)) 101 x (sG t n p)) a9) → (rEv t n (p + 1) = (0, p9)) → (p + 1 < p9 ∧ p9 ≤ n) → ∀ a11 : xA, ∀ p11 : Int, (tR a11 t n p11) → (vLr a9 a11) → (rCom t n 44 p9 = (0, p11)) → (p9 < p11 ∧ p11 ≤ n) → ∀ a13 : xA, ∀ p13 : Int, (tR a13 t n p13) → (vLr a11 a13) → (rEv t n p11 = (0, p13)) → (p11 < p13 ∧ p13 ≤ n) → ∀ a16 : xA, ∀ f16 : Int, ∀ q16 : Int, (vLr a13 a16) → (a16 87 12 = f16) → (f16 < 0 ∧ -10000 < f16) → (rSeq (rCom t n 44 p13) (rNum t n) = (f16, q16)) → Q (some (xV 0)) (xS a16 b))
    (k11 : (sG t n p = -1 ∨ p < n) → (¬ sG t n p = 110) → (¬ sG t n p = 97) → (sG t n p = 114) → (¬ y = 4) → ∀ a9 : xA, ∀ p9 : Int, (tR a9 t n p9) → (vLr (xU (xU a 87 10 (p + 1)) 101 x (sG t n p)) a9) → (rEv t n (p + 1) = (0, p9)) → (p + 1 < p9 ∧ p9 ≤ n) → ∀ a11 : xA, ∀ p11 : Int, (tR a11 t n p11) → (vLr a9 a11) → (rCom t n 44 p9 = (0, p11)) → (p9 < p11 ∧ p11 ≤ n) → ∀ a14 : xA, ∀ f14 : Int, ∀ q14 : Int, (vLr a11 a14) → (a14 87 12 = f14) → (f14 < 0 ∧ -10000 < f14) → (rEv t n p11 = (f14, q14)) → Q (some (xV 0)) (xS a14 b))
    (k12 : (sG t n p = -1 ∨ p < n) → (¬ sG t n p = 110) → (¬ sG t n p = 97) → (sG t n p = 114) → (¬ y = 4) → ∀ a9 : xA, ∀ p9 : Int, (tR a9 t n p9) → (vLr (xU (xU a 87 10 (p + 1)) 101 x (sG t n p)) a9) → (rEv t n (p + 1) = (0, p9)) → (p + 1 < p9 ∧ p9 ≤ n) → ∀ a12 : xA, ∀ f12 : Int, ∀ q12 : Int, (vLr a9 a12) → (a12 87 12 = f12) → (f12 < 0 ∧ -10000 < f12) → (rCom t n 44 p9 = (f12, q12)) → Q (some (xV 0)) (xS a12 b))
    (k13 : (sG t n p = -1 ∨ p < n) → (¬ sG t n p = 110) → (¬ sG t n p = 97) → (sG t n p = 114) → (¬ y = 4) → ∀ a10 : xA, ∀ f10 : Int, ∀ q10 : Int, (vLr (xU (xU a 87 10 (p + 1)) 101 x (sG t n p)) a10) → (a10 87 12 = f10) → (f10 < 0 ∧ -10000 < f10) → (rEv t n (p + 1) = (f10, q10)) → Q (some (xV 0)) (xS a10 b))
    (k14 : (sG t n p = -1 ∨ p < n) → (¬ sG t n p = 110) → (¬ sG t n p = 97) → (sG t n p = 114) → (¬ ¬ y = 4) → Q (some (xV 0)) (xS (xU a 87 12 (-1000 * 4 - p)) b))
    (k15 : (sG t n p = -1 ∨ p < n) → (¬ sG t n p = 110) → (¬ sG t n p = 97) → (¬ sG t n p = 114) → (sG t n p = 101) → (¬ y = 4) → ∀ a17 : xA, ∀ p17 : Int, (tR a17 t n p17) → (vLr (xU (xU a 87 10 (p + 1)) 101 x (sG t n p)) a17) → (rEv t n (p + 1) = (0, p17)) → (p + 1 < p17 ∧ p17 ≤ n) → ∀ a19 : xA, ∀ p19 : Int, (tR a19 t n p19) → (vLr a17 a19) → (rSeq (rCom t n 44 p17) (rNum t n) = (0, p19)) → (p17 < p19 ∧ p19 ≤ n) → Q (some (xV 1)) (xS a19 b))
    (k16 : (sG t n p = -1 ∨ p < n) → (¬ sG t n p = 110) → (¬ sG t n p = 97) → (¬ sG t n p = 114) → (sG t n p = 101) → (¬ y = 4) → ∀ a17 : xA, ∀ p17 : Int, (tR a17 t n p17) → (vLr (xU (xU a 87 10 (p + 1)) 101 x (sG t n p)) a17) → (rEv t n (p + 1) = (0, p17)) → (p + 1 < p17 ∧ p17 ≤ n) → ∀ a20 : xA, ∀ f20 : Int, ∀ q20 : Int, (vLr a17 a20) → (a20 87 12 = f20) → (f20 < 0 ∧ -10000 < f20) → (rSeq (rCom t n 44 p17) (rNum t n) = (f20, q20)) → Q (some (xV 0)) (xS a20 b))
    (k17 : (sG t n p = -1 ∨ p < n) → (¬ sG t n p = 110) → (¬ sG t n p = 97) → (¬ sG t n p = 114) → (sG t n p = 101) → (¬ y = 4) → ∀ a18 : xA, ∀ f18 : Int, ∀ q18 : Int, (vLr (xU (xU a 87 10 (p + 1)) 101 x (sG t n p)) a18) → (a18 87 12 = f18) → (f18 < 0 ∧ -10000 < f18) → (rEv t n (p + 1) = (f18, q18)) → Q (some (xV 0)) (xS a18 b))
    (k18 : (sG t n p = -1 ∨ p < n) → (¬ sG t n p = 110) → (¬ sG t n p = 97) → (¬ sG t n p = 114) → (sG t n p = 101) → (¬ ¬ y = 4) → Q (some (xV 0)) (xS (xU a 87 12 (-1000 * 4 - p)) b))
    (k19 : (sG t n p = -1 ∨ p < n) → (¬ sG t n p = 110) → (¬ sG t n p = 97) → (¬ sG t n p = 114) → (¬ sG t n p = 101) → Q (some (xV 0)) (xS (xU a 87 12 (-1000 * 1 - p)) b)) :
    pmWp ro d 12 167 2 0 [some (.ref 87), some (xV x), some (xV y), none] [] (xS a b) Q := by
  refine x_aloadn xc167_0 rfl ?_
  refine x_cV (as := []) (rest := []) xc167_1 rfl xi156 xz87 ⟨rfl, rfl⟩ rfl rfl ?_
  refine xk156 hC (by omega) (by omega) hb hA (by omega) (fun h0 => ?_)
  refine x_istoren (pl' := [some (.ref 87), some (xV x), some (xV y), some (xV (sG t n p))]) xc167_4 rfl rfl ?_
  refine x_iloadn xc167_5 rfl ?_
  refine x_bipush xc167_6 (by decide) ?_
  refine x_iceq xc167_8 (xRk (by have g0 := sGB (n := n) (p := p) hb (by omega); omega)) (xRk (by decide)) (fun h1 => ?_) (fun h1 => ?_)
  · refine x_iloadn xc167_39 rfl ?_
    refine x_iconst xc167_40 ?_
    refine x_icne xc167_41 (xRk (by have g0 := xRb h_y; omega)) (xRk (by decide)) (fun h2 => ?_) (fun h2 => ?_)
    · refine x_aloadn xc167_54 rfl ?_
      refine x_aloadn xc167_55 rfl ?_
      refine x_gfi' (k := 10) (v := p) xc167_56 rfl (Or.inl rfl) rfl xz87 hC.2.2 ?_
      refine x_iconst xc167_59 ?_
      refine x_iadd xc167_60 ?_
      refine x_pfi (k := 10) xc167_61 rfl ⟨rfl, rfl⟩ rfl xz87 ?_
      refine x_aloadn xc167_64 rfl ?_
      refine x_gfr xc167_65 rfl rfl xz87 rfl ?_
      refine x_iloadn xc167_68 rfl ?_
      refine x_iloadn xc167_69 rfl ?_
      refine x_ias xc167_70 xz101 (by have g0 := xRb h_x; omega) (by have g0 := xRb h_x; omega) (by have g0 := xRb h_x; omega) ?_
      refine x_aloadn xc167_71 rfl ?_
      refine x_iconst xc167_72 ?_
      refine x_iloadn xc167_73 rfl ?_
      refine x_imul xc167_74 ?_
      refine x_cV (as := [xV (2 * x)]) (rest := []) xc167_75 rfl xi168 xz87 ⟨rfl, rfl⟩ rfl rfl ?_
      refine xm168 (tR.ot (by decide) (by decide) (tR.at hC)) (by omega) (by omega) hb (xAr_u (xAr_u hA (xRk (by omega))) (xRk (by have g0 := sGB (n := n) (p := p) hb (by omega); omega))) (by omega) (by omega) (fun a1 p1 h3 h4 h6 h7 => ?_) (fun a2 f2 q2 h8 h9 h10 h11 => ?_)
      · refine x_ifne xc167_78 (xRk (by decide)) (fun _ => ?_) (fun h => absurd h (by omega))
        refine x_iloadn xc167_83 rfl ?_
        refine x_bipush xc167_84 (by decide) ?_
        refine x_iceq xc167_86 (xRk (by have g0 := sGB (n := n) (p := p) hb (by omega); omega)) (xRk (by decide)) (fun h => absurd h (by omega)) (fun _ => ?_)
        refine x_iloadn xc167_89 rfl ?_
        refine x_bipush xc167_90 (by decide) ?_
        refine x_icne xc167_92 (xRk (by have g0 := sGB (n := n) (p := p) hb (by omega); omega)) (xRk (by decide)) (fun _ => ?_) (fun h => absurd h (by omega))
        refine x_iloadn xc167_118 rfl ?_
        refine x_bipush xc167_119 (by decide) ?_
        refine x_iceq xc167_121 (xRk (by have g0 := sGB (n := n) (p := p) hb (by omega); omega)) (xRk (by decide)) (fun h => absurd h (by omega)) (fun _ => ?_)
        refine x_iloadn xc167_124 rfl ?_
        refine x_bipush xc167_125 (by decide) ?_
        refine x_icne xc167_127 (xRk (by have g0 := sGB (n := n) (p := p) hb (by omega); omega)) (xRk (by decide)) (fun _ => ?_) (fun h => absurd h (by omega))
        refine x_iconst xc167_138 ?_
        refine x_goto xc167_139 ?_
        refine x_iret xc167_143 (Or.inr ⟨rfl, (by omega)⟩) ?_
        exact k1 h0 h1 h2 a1 p1 h3 h4 h6 h7
      · refine x_ifne xc167_78 (xRk (by decide)) (fun h => absurd h (by omega)) (fun _ => ?_)
        refine x_iconst xc167_81 ?_
        refine x_iret xc167_82 (Or.inr ⟨rfl, (by omega)⟩) ?_
        exact k2 h0 h1 h2 a2 f2 q2 h8 h9 h10 h11
    · refine x_aloadn xc167_44 rfl ?_
      refine x_iconst xc167_45 ?_
      refine x_aloadn xc167_46 rfl ?_
      refine x_gfi' (k := 10) (v := p) xc167_47 rfl (Or.inl rfl) rfl xz87 hC.2.2 ?_
      refine x_cV (as := [xV 4, xV p]) (rest := []) xc167_50 rfl xi158 xz87 ⟨rfl, rfl⟩ rfl rfl ?_
      refine xk158 (xRk (by decide)) (xRk (by omega)) (by omega) ?_
      refine x_iret xc167_53 (Or.inr ⟨rfl, (by omega)⟩) ?_
      exact k3 h0 h1 h2
  · refine x_iloadn xc167_11 rfl ?_
    refine x_bipush xc167_12 (by decide) ?_
    refine x_iceq xc167_14 (xRk (by have g0 := sGB (n := n) (p := p) hb (by omega); omega)) (xRk (by decide)) (fun h18 => ?_) (fun h18 => ?_)
    · refine x_iloadn xc167_39 rfl ?_
      refine x_iconst xc167_40 ?_
      refine x_icne xc167_41 (xRk (by have g0 := xRb h_y; omega)) (xRk (by decide)) (fun h19 => ?_) (fun h19 => ?_)
      · refine x_aloadn xc167_54 rfl ?_
        refine x_aloadn xc167_55 rfl ?_
        refine x_gfi' (k := 10) (v := p) xc167_56 rfl (Or.inl rfl) rfl xz87 hC.2.2 ?_
        refine x_iconst xc167_59 ?_
        refine x_iadd xc167_60 ?_
        refine x_pfi (k := 10) xc167_61 rfl ⟨rfl, rfl⟩ rfl xz87 ?_
        refine x_aloadn xc167_64 rfl ?_
        refine x_gfr xc167_65 rfl rfl xz87 rfl ?_
        refine x_iloadn xc167_68 rfl ?_
        refine x_iloadn xc167_69 rfl ?_
        refine x_ias xc167_70 xz101 (by have g0 := xRb h_x; omega) (by have g0 := xRb h_x; omega) (by have g0 := xRb h_x; omega) ?_
        refine x_aloadn xc167_71 rfl ?_
        refine x_iconst xc167_72 ?_
        refine x_iloadn xc167_73 rfl ?_
        refine x_imul xc167_74 ?_
        refine x_cV (as := [xV (2 * x)]) (rest := []) xc167_75 rfl xi168 xz87 ⟨rfl, rfl⟩ rfl rfl ?_
        refine xm168 (tR.ot (by decide) (by decide) (tR.at hC)) (by omega) (by omega) hb (xAr_u (xAr_u hA (xRk (by omega))) (xRk (by have g0 := sGB (n := n) (p := p) hb (by omega); omega))) (by omega) (by omega) (fun a3 p3 h20 h21 h23 h24 => ?_) (fun a4 f4 q4 h25 h26 h27 h28 => ?_)
        · refine x_ifne xc167_78 (xRk (by decide)) (fun _ => ?_) (fun h => absurd h (by omega))
          refine x_iloadn xc167_83 rfl ?_
          refine x_bipush xc167_84 (by decide) ?_
          refine x_iceq xc167_86 (xRk (by have g0 := sGB (n := n) (p := p) hb (by omega); omega)) (xRk (by decide)) (fun _ => ?_) (fun h => absurd h (by omega))
          refine x_aloadn xc167_95 rfl ?_
          refine x_bipush xc167_96 (by decide) ?_
          refine x_cV (as := [xV 44]) (rest := []) xc167_98 rfl xi171 xz87 ⟨rfl, rfl⟩ rfl rfl ?_
          refine xm171 h20 (by omega) (by omega) hb h21.1 (by omega) (by omega) (fun a5 p5 h31 h32 h34 h35 => ?_) (fun a6 f6 q6 h36 h37 h38 h39 => ?_)
          · refine x_ifeq xc167_101 (xRk (by decide)) (fun h => absurd h (by omega)) (fun _ => ?_)
            refine x_aloadn xc167_104 rfl ?_
            refine x_iconst xc167_105 ?_
            refine x_iloadn xc167_106 rfl ?_
            refine x_imul xc167_107 ?_
            refine x_iconst xc167_108 ?_
            refine x_iadd xc167_109 ?_
            refine x_cV (as := [xV (2 * x + 1)]) (rest := []) xc167_110 rfl xi168 xz87 ⟨rfl, rfl⟩ rfl rfl ?_
            refine xm168 h31 (by omega) (by omega) hb h32.1 (by omega) (by omega) (fun a7 p7 h41 h42 h44 h45 => ?_) (fun a8 f8 q8 h46 h47 h48 h49 => ?_)
            · refine x_ifne xc167_113 (xRk (by decide)) (fun _ => ?_) (fun h => absurd h (by omega))
              refine x_iloadn xc167_118 rfl ?_
              refine x_bipush xc167_119 (by decide) ?_
              refine x_iceq xc167_121 (xRk (by have g0 := sGB (n := n) (p := p) hb (by omega); omega)) (xRk (by decide)) (fun h => absurd h (by omega)) (fun _ => ?_)
              refine x_iloadn xc167_124 rfl ?_
              refine x_bipush xc167_125 (by decide) ?_
              refine x_icne xc167_127 (xRk (by have g0 := sGB (n := n) (p := p) hb (by omega); omega)) (xRk (by decide)) (fun _ => ?_) (fun h => absurd h (by omega))
              refine x_iconst xc167_138 ?_
              refine x_goto xc167_139 ?_
              refine x_iret xc167_143 (Or.inr ⟨rfl, (by omega)⟩) ?_
              exact k4 h0 h1 h18 h19 a3 p3 h20 h21 h23 h24 a5 p5 h31 h32 h34 h35 a7 p7 h41 h42 h44 h45
            · refine x_ifne xc167_113 (xRk (by decide)) (fun h => absurd h (by omega)) (fun _ => ?_)
              refine x_iconst xc167_116 ?_
              refine x_iret xc167_117 (Or.inr ⟨rfl, (by omega)⟩) ?_
              exact k5 h0 h1 h18 h19 a3 p3 h20 h21 h23 h24 a5 p5 h31 h32 h34 h35 a8 f8 q8 h46 h47 h48 h49
          · refine x_ifeq xc167_101 (xRk (by decide)) (fun _ => ?_) (fun h => absurd h (by omega))
            refine x_iconst xc167_116 ?_
            refine x_iret xc167_117 (Or.inr ⟨rfl, (by omega)⟩) ?_
            exact k6 h0 h1 h18 h19 a3 p3 h20 h21 h23 h24 a6 f6 q6 h36 h37 h38 h39
        · refine x_ifne xc167_78 (xRk (by decide)) (fun h => absurd h (by omega)) (fun _ => ?_)
          refine x_iconst xc167_81 ?_
          refine x_iret xc167_82 (Or.inr ⟨rfl, (by omega)⟩) ?_
          exact k7 h0 h1 h18 h19 a4 f4 q4 h25 h26 h27 h28
      · refine x_aloadn xc167_44 rfl ?_
        refine x_iconst xc167_45 ?_
        refine x_aloadn xc167_46 rfl ?_
        refine x_gfi' (k := 10) (v := p) xc167_47 rfl (Or.inl rfl) rfl xz87 hC.2.2 ?_
        refine x_cV (as := [xV 4, xV p]) (rest := []) xc167_50 rfl xi158 xz87 ⟨rfl, rfl⟩ rfl rfl ?_
        refine xk158 (xRk (by decide)) (xRk (by omega)) (by omega) ?_
        refine x_iret xc167_53 (Or.inr ⟨rfl, (by omega)⟩) ?_
        exact k8 h0 h1 h18 h19
    · refine x_iloadn xc167_17 rfl ?_
      refine x_bipush xc167_18 (by decide) ?_
      refine x_iceq xc167_20 (xRk (by have g0 := sGB (n := n) (p := p) hb (by omega); omega)) (xRk (by decide)) (fun h56 => ?_) (fun h56 => ?_)
      · refine x_iloadn xc167_39 rfl ?_
        refine x_iconst xc167_40 ?_
        refine x_icne xc167_41 (xRk (by have g0 := xRb h_y; omega)) (xRk (by decide)) (fun h57 => ?_) (fun h57 => ?_)
        · refine x_aloadn xc167_54 rfl ?_
          refine x_aloadn xc167_55 rfl ?_
          refine x_gfi' (k := 10) (v := p) xc167_56 rfl (Or.inl rfl) rfl xz87 hC.2.2 ?_
          refine x_iconst xc167_59 ?_
          refine x_iadd xc167_60 ?_
          refine x_pfi (k := 10) xc167_61 rfl ⟨rfl, rfl⟩ rfl xz87 ?_
          refine x_aloadn xc167_64 rfl ?_
          refine x_gfr xc167_65 rfl rfl xz87 rfl ?_
          refine x_iloadn xc167_68 rfl ?_
          refine x_iloadn xc167_69 rfl ?_
          refine x_ias xc167_70 xz101 (by have g0 := xRb h_x; omega) (by have g0 := xRb h_x; omega) (by have g0 := xRb h_x; omega) ?_
          refine x_aloadn xc167_71 rfl ?_
          refine x_iconst xc167_72 ?_
          refine x_iloadn xc167_73 rfl ?_
          refine x_imul xc167_74 ?_
          refine x_cV (as := [xV (2 * x)]) (rest := []) xc167_75 rfl xi168 xz87 ⟨rfl, rfl⟩ rfl rfl ?_
          refine xm168 (tR.ot (by decide) (by decide) (tR.at hC)) (by omega) (by omega) hb (xAr_u (xAr_u hA (xRk (by omega))) (xRk (by have g0 := sGB (n := n) (p := p) hb (by omega); omega))) (by omega) (by omega) (fun a9 p9 h58 h59 h61 h62 => ?_) (fun a10 f10 q10 h63 h64 h65 h66 => ?_)
          · refine x_ifne xc167_78 (xRk (by decide)) (fun _ => ?_) (fun h => absurd h (by omega))
            refine x_iloadn xc167_83 rfl ?_
            refine x_bipush xc167_84 (by decide) ?_
            refine x_iceq xc167_86 (xRk (by have g0 := sGB (n := n) (p := p) hb (by omega); omega)) (xRk (by decide)) (fun h => absurd h (by omega)) (fun _ => ?_)
            refine x_iloadn xc167_89 rfl ?_
            refine x_bipush xc167_90 (by decide) ?_
            refine x_icne xc167_92 (xRk (by have g0 := sGB (n := n) (p := p) hb (by omega); omega)) (xRk (by decide)) (fun h => absurd h (by omega)) (fun _ => ?_)
            refine x_aloadn xc167_95 rfl ?_
            refine x_bipush xc167_96 (by decide) ?_
            refine x_cV (as := [xV 44]) (rest := []) xc167_98 rfl xi171 xz87 ⟨rfl, rfl⟩ rfl rfl ?_
            refine xm171 h58 (by omega) (by omega) hb h59.1 (by omega) (by omega) (fun a11 p11 h70 h71 h73 h74 => ?_) (fun a12 f12 q12 h75 h76 h77 h78 => ?_)
            · refine x_ifeq xc167_101 (xRk (by decide)) (fun h => absurd h (by omega)) (fun _ => ?_)
              refine x_aloadn xc167_104 rfl ?_
              refine x_iconst xc167_105 ?_
              refine x_iloadn xc167_106 rfl ?_
              refine x_imul xc167_107 ?_
              refine x_iconst xc167_108 ?_
              refine x_iadd xc167_109 ?_
              refine x_cV (as := [xV (2 * x + 1)]) (rest := []) xc167_110 rfl xi168 xz87 ⟨rfl, rfl⟩ rfl rfl ?_
              refine xm168 h70 (by omega) (by omega) hb h71.1 (by omega) (by omega) (fun a13 p13 h80 h81 h83 h84 => ?_) (fun a14 f14 q14 h85 h86 h87 h88 => ?_)
              · refine x_ifne xc167_113 (xRk (by decide)) (fun _ => ?_) (fun h => absurd h (by omega))
                refine x_iloadn xc167_118 rfl ?_
                refine x_bipush xc167_119 (by decide) ?_
                refine x_iceq xc167_121 (xRk (by have g0 := sGB (n := n) (p := p) hb (by omega); omega)) (xRk (by decide)) (fun _ => ?_) (fun h => absurd h (by omega))
                refine x_aloadn xc167_130 rfl ?_
                refine x_iloadn xc167_131 rfl ?_
                refine x_cV (as := [xV x]) (rest := []) xc167_132 rfl xi172 xz87 ⟨rfl, rfl⟩ rfl rfl ?_
                refine xm172 h80 (by omega) (by omega) hb h81.1 (by omega) (by omega) (fun a15 p15 h91 h92 h94 h95 => ?_) (fun a16 f16 q16 h96 h97 h98 h99 => ?_)
                · refine x_ifeq xc167_135 (xRk (by decide)) (fun h => absurd h (by omega)) (fun _ => ?_)
                  refine x_iconst xc167_138 ?_
                  refine x_goto xc167_139 ?_
                  refine x_iret xc167_143 (Or.inr ⟨rfl, (by omega)⟩) ?_
                  exact k9 h0 h1 h18 h56 h57 a9 p9 h58 h59 h61 h62 a11 p11 h70 h71 h73 h74 a13 p13 h80 h81 h83 h84 a15 p15 h91 h92 h94 h95
                · refine x_ifeq xc167_135 (xRk (by decide)) (fun _ => ?_) (fun h => absurd h (by omega))
                  refine x_iconst xc167_142 ?_
                  refine x_iret xc167_143 (Or.inr ⟨rfl, (by omega)⟩) ?_
                  exact k10 h0 h1 h18 h56 h57 a9 p9 h58 h59 h61 h62 a11 p11 h70 h71 h73 h74 a13 p13 h80 h81 h83 h84 a16 f16 q16 h96 h97 h98 h99
              · refine x_ifne xc167_113 (xRk (by decide)) (fun h => absurd h (by omega)) (fun _ => ?_)
                refine x_iconst xc167_116 ?_
                refine x_iret xc167_117 (Or.inr ⟨rfl, (by omega)⟩) ?_
                exact k11 h0 h1 h18 h56 h57 a9 p9 h58 h59 h61 h62 a11 p11 h70 h71 h73 h74 a14 f14 q14 h85 h86 h87 h88
            · refine x_ifeq xc167_101 (xRk (by decide)) (fun _ => ?_) (fun h => absurd h (by omega))
              refine x_iconst xc167_116 ?_
              refine x_iret xc167_117 (Or.inr ⟨rfl, (by omega)⟩) ?_
              exact k12 h0 h1 h18 h56 h57 a9 p9 h58 h59 h61 h62 a12 f12 q12 h75 h76 h77 h78
          · refine x_ifne xc167_78 (xRk (by decide)) (fun h => absurd h (by omega)) (fun _ => ?_)
            refine x_iconst xc167_81 ?_
            refine x_iret xc167_82 (Or.inr ⟨rfl, (by omega)⟩) ?_
            exact k13 h0 h1 h18 h56 h57 a10 f10 q10 h63 h64 h65 h66
        · refine x_aloadn xc167_44 rfl ?_
          refine x_iconst xc167_45 ?_
          refine x_aloadn xc167_46 rfl ?_
          refine x_gfi' (k := 10) (v := p) xc167_47 rfl (Or.inl rfl) rfl xz87 hC.2.2 ?_
          refine x_cV (as := [xV 4, xV p]) (rest := []) xc167_50 rfl xi158 xz87 ⟨rfl, rfl⟩ rfl rfl ?_
          refine xk158 (xRk (by decide)) (xRk (by omega)) (by omega) ?_
          refine x_iret xc167_53 (Or.inr ⟨rfl, (by omega)⟩) ?_
          exact k14 h0 h1 h18 h56 h57
      · refine x_iloadn xc167_23 rfl ?_
        refine x_bipush xc167_24 (by decide) ?_
        refine x_iceq xc167_26 (xRk (by have g0 := sGB (n := n) (p := p) hb (by omega); omega)) (xRk (by decide)) (fun h105 => ?_) (fun h105 => ?_)
        · refine x_iloadn xc167_39 rfl ?_
          refine x_iconst xc167_40 ?_
          refine x_icne xc167_41 (xRk (by have g0 := xRb h_y; omega)) (xRk (by decide)) (fun h106 => ?_) (fun h106 => ?_)
          · refine x_aloadn xc167_54 rfl ?_
            refine x_aloadn xc167_55 rfl ?_
            refine x_gfi' (k := 10) (v := p) xc167_56 rfl (Or.inl rfl) rfl xz87 hC.2.2 ?_
            refine x_iconst xc167_59 ?_
            refine x_iadd xc167_60 ?_
            refine x_pfi (k := 10) xc167_61 rfl ⟨rfl, rfl⟩ rfl xz87 ?_
            refine x_aloadn xc167_64 rfl ?_
            refine x_gfr xc167_65 rfl rfl xz87 rfl ?_
            refine x_iloadn xc167_68 rfl ?_
            refine x_iloadn xc167_69 rfl ?_
            refine x_ias xc167_70 xz101 (by have g0 := xRb h_x; omega) (by have g0 := xRb h_x; omega) (by have g0 := xRb h_x; omega) ?_
            refine x_aloadn xc167_71 rfl ?_
            refine x_iconst xc167_72 ?_
            refine x_iloadn xc167_73 rfl ?_
            refine x_imul xc167_74 ?_
            refine x_cV (as := [xV (2 * x)]) (rest := []) xc167_75 rfl xi168 xz87 ⟨rfl, rfl⟩ rfl rfl ?_
            refine xm168 (tR.ot (by decide) (by decide) (tR.at hC)) (by omega) (by omega) hb (xAr_u (xAr_u hA (xRk (by omega))) (xRk (by have g0 := sGB (n := n) (p := p) hb (by omega); omega))) (by omega) (by omega) (fun a17 p17 h107 h108 h110 h111 => ?_) (fun a18 f18 q18 h112 h113 h114 h115 => ?_)
            · refine x_ifne xc167_78 (xRk (by decide)) (fun _ => ?_) (fun h => absurd h (by omega))
              refine x_iloadn xc167_83 rfl ?_
              refine x_bipush xc167_84 (by decide) ?_
              refine x_iceq xc167_86 (xRk (by have g0 := sGB (n := n) (p := p) hb (by omega); omega)) (xRk (by decide)) (fun h => absurd h (by omega)) (fun _ => ?_)
              refine x_iloadn xc167_89 rfl ?_
              refine x_bipush xc167_90 (by decide) ?_
              refine x_icne xc167_92 (xRk (by have g0 := sGB (n := n) (p := p) hb (by omega); omega)) (xRk (by decide)) (fun _ => ?_) (fun h => absurd h (by omega))
              refine x_iloadn xc167_118 rfl ?_
              refine x_bipush xc167_119 (by decide) ?_
              refine x_iceq xc167_121 (xRk (by have g0 := sGB (n := n) (p := p) hb (by omega); omega)) (xRk (by decide)) (fun h => absurd h (by omega)) (fun _ => ?_)
              refine x_iloadn xc167_124 rfl ?_
              refine x_bipush xc167_125 (by decide) ?_
              refine x_icne xc167_127 (xRk (by have g0 := sGB (n := n) (p := p) hb (by omega); omega)) (xRk (by decide)) (fun h => absurd h (by omega)) (fun _ => ?_)
              refine x_aloadn xc167_130 rfl ?_
              refine x_iloadn xc167_131 rfl ?_
              refine x_cV (as := [xV x]) (rest := []) xc167_132 rfl xi172 xz87 ⟨rfl, rfl⟩ rfl rfl ?_
              refine xm172 h107 (by omega) (by omega) hb h108.1 (by omega) (by omega) (fun a19 p19 h121 h122 h124 h125 => ?_) (fun a20 f20 q20 h126 h127 h128 h129 => ?_)
              · refine x_ifeq xc167_135 (xRk (by decide)) (fun h => absurd h (by omega)) (fun _ => ?_)
                refine x_iconst xc167_138 ?_
                refine x_goto xc167_139 ?_
                refine x_iret xc167_143 (Or.inr ⟨rfl, (by omega)⟩) ?_
                exact k15 h0 h1 h18 h56 h105 h106 a17 p17 h107 h108 h110 h111 a19 p19 h121 h122 h124 h125
              · refine x_ifeq xc167_135 (xRk (by decide)) (fun _ => ?_) (fun h => absurd h (by omega))
                refine x_iconst xc167_142 ?_
                refine x_iret xc167_143 (Or.inr ⟨rfl, (by omega)⟩) ?_
                exact k16 h0 h1 h18 h56 h105 h106 a17 p17 h107 h108 h110 h111 a20 f20 q20 h126 h127 h128 h129
            · refine x_ifne xc167_78 (xRk (by decide)) (fun h => absurd h (by omega)) (fun _ => ?_)
              refine x_iconst xc167_81 ?_
              refine x_iret xc167_82 (Or.inr ⟨rfl, (by omega)⟩) ?_
              exact k17 h0 h1 h18 h56 h105 h106 a18 f18 q18 h112 h113 h114 h115
          · refine x_aloadn xc167_44 rfl ?_
            refine x_iconst xc167_45 ?_
            refine x_aloadn xc167_46 rfl ?_
            refine x_gfi' (k := 10) (v := p) xc167_47 rfl (Or.inl rfl) rfl xz87 hC.2.2 ?_
            refine x_cV (as := [xV 4, xV p]) (rest := []) xc167_50 rfl xi158 xz87 ⟨rfl, rfl⟩ rfl rfl ?_
            refine xk158 (xRk (by decide)) (xRk (by omega)) (by omega) ?_
            refine x_iret xc167_53 (Or.inr ⟨rfl, (by omega)⟩) ?_
            exact k18 h0 h1 h18 h56 h105 h106
        · refine x_aloadn xc167_29 rfl ?_
          refine x_iconst xc167_30 ?_
          refine x_aloadn xc167_31 rfl ?_
          refine x_gfi' (k := 10) (v := p) xc167_32 rfl (Or.inl rfl) rfl xz87 hC.2.2 ?_
          refine x_cV (as := [xV 1, xV p]) (rest := []) xc167_35 rfl xi158 xz87 ⟨rfl, rfl⟩ rfl rfl ?_
          refine xk158 (xRk (by decide)) (xRk (by omega)) (by omega) ?_
          refine x_iret xc167_38 (Or.inr ⟨rfl, (by omega)⟩) ?_
          exact k19 h0 h1 h18 h56 h105

theorem xm167 {ro : Nat → Nat × (Nat → Int32)} {d : Nat} {Q : Option Value → pmS → Prop} {a : xA} {b : xB} {t : Int → Int} {n p : Int} (hC : tR a t n p) (hp : 0 ≤ p ∧ p ≤ n) (hn : n ≤ 60) (hb : tB t) (hA : xAr a) {x y : Int} (hx : 0 ≤ x ∧ x < 24) (hy : 0 ≤ y ∧ y ≤ 4) (hd : 5 ≤ d)
    (hT : ∀ (a1 : xA) (p1 : Int), tR a1 t n p1 → vLr a a1 → rCl t n p y = (0, p1) → p < p1 ∧ p1 ≤ n → Q (some (xV 1)) (xS a1 b))
    (hF : ∀ (a1 : xA) (f q : Int), vLr a a1 → a1 87 12 = f → f < 0 ∧ -10000 < f → rCl t n p y = (f, q) → Q (some (xV 0)) (xS a1 b)) : pmCs ro d 167 [.ref 87, xV x, xV y] (xS a b) Q := by
  refine pmCs_deep (d := 5) (xg167 (wm167 hC hp hn hb hA ⟨by omega, by omega⟩ ⟨by omega, by omega⟩ hx hy (by decide) ?_ ?_ ?_ ?_ ?_ ?_ ?_ ?_ ?_ ?_ ?_ ?_ ?_ ?_ ?_ ?_ ?_ ?_ ?_)) hd
  · intro h0 h1 h2 a1 p1 h3 h4 h6 h7
    first | (exfalso; omega) | exact hT _ (p1) h3 (vLr.tr (vLr.u (xRk (by have g0 := sGB (n := n) (p := p) hb (by omega); omega)) (by omega) (by omega) (by omega) (vLr.u (xRk (by omega)) (by omega) (by omega) (by omega) (vLr.r hA))) h4) (by unfold rCl; (repeat (first | rw [rSeq_00] | rw [rSeq_as] | rw [rSeq_0 (by assumption)] | rw [rSeq_n (by assumption) (by omega)] | rw [if_neg (by omega)] | rw [if_pos (by omega)])); all_goals (repeat' split); all_goals (first | (exfalso; omega) | assumption | rfl)) (by omega)
  · intro h0 h1 h2 a2 f2 q2 h8 h9 h10 h11
    first | (exfalso; omega) | exact hF _ (f2) _ (vLr.tr (vLr.u (xRk (by have g0 := sGB (n := n) (p := p) hb (by omega); omega)) (by omega) (by omega) (by omega) (vLr.u (xRk (by omega)) (by omega) (by omega) (by omega) (vLr.r hA))) h8) h9 (by omega) (Prod.ext (by unfold rCl; (repeat (first | rw [rSeq_00] | rw [rSeq_as] | rw [rSeq_0 (by assumption)] | rw [rSeq_n (by assumption) (by omega)] | rw [if_neg (by omega)] | rw [if_pos (by omega)])); all_goals (repeat' split); all_goals (first | (exfalso; omega) | (dsimp only; exact rFst (by assumption)) | (dsimp only; omega) | omega)) rfl)
  · intro h0 h1 h2
    first | (exfalso; omega) | exact hF _ (-1000 * 4 - p) _ (vLr.u (xRk (by omega)) (by omega) (by omega) (by omega) (vLr.r hA)) (by rw [xUa]) (by omega) (Prod.ext (by unfold rCl; (repeat (first | rw [rSeq_00] | rw [rSeq_as] | rw [rSeq_0 (by assumption)] | rw [rSeq_n (by assumption) (by omega)] | rw [if_neg (by omega)] | rw [if_pos (by omega)])); all_goals (repeat' split); all_goals (first | (exfalso; omega) | (dsimp only; exact rFst (by assumption)) | (dsimp only; omega) | omega)) rfl)
  · intro h0 h1 h18 h19 a3 p3 h20 h21 h23 h24 a5 p5 h31 h32 h34 h35 a7 p7 h41 h42 h44 h45
    first | (exfalso; omega) | exact hT _ (p7) h41 (vLr.tr (vLr.tr (vLr.tr (vLr.u (xRk (by have g0 := sGB (n := n) (p := p) hb (by omega); omega)) (by omega) (by omega) (by omega) (vLr.u (xRk (by omega)) (by omega) (by omega) (by omega) (vLr.r hA))) h21) h32) h42) (by unfold rCl; (repeat (first | rw [rSeq_00] | rw [rSeq_as] | rw [rSeq_0 (by assumption)] | rw [rSeq_n (by assumption) (by omega)] | rw [if_neg (by omega)] | rw [if_pos (by omega)])); all_goals (repeat' split); all_goals (first | (exfalso; omega) | assumption | rfl)) (by omega)
  · intro h0 h1 h18 h19 a3 p3 h20 h21 h23 h24 a5 p5 h31 h32 h34 h35 a8 f8 q8 h46 h47 h48 h49
    first | (exfalso; omega) | exact hF _ (f8) _ (vLr.tr (vLr.tr (vLr.tr (vLr.u (xRk (by have g0 := sGB (n := n) (p := p) hb (by omega); omega)) (by omega) (by omega) (by omega) (vLr.u (xRk (by omega)) (by omega) (by omega) (by omega) (vLr.r hA))) h21) h32) h46) h47 (by omega) (Prod.ext (by unfold rCl; (repeat (first | rw [rSeq_00] | rw [rSeq_as] | rw [rSeq_0 (by assumption)] | rw [rSeq_n (by assumption) (by omega)] | rw [if_neg (by omega)] | rw [if_pos (by omega)])); all_goals (repeat' split); all_goals (first | (exfalso; omega) | (dsimp only; exact rFst (by assumption)) | (dsimp only; omega) | omega)) rfl)
  · intro h0 h1 h18 h19 a3 p3 h20 h21 h23 h24 a6 f6 q6 h36 h37 h38 h39
    first | (exfalso; omega) | exact hF _ (f6) _ (vLr.tr (vLr.tr (vLr.u (xRk (by have g0 := sGB (n := n) (p := p) hb (by omega); omega)) (by omega) (by omega) (by omega) (vLr.u (xRk (by omega)) (by omega) (by omega) (by omega) (vLr.r hA))) h21) h36) h37 (by omega) (Prod.ext (by unfold rCl; (repeat (first | rw [rSeq_00] | rw [rSeq_as] | rw [rSeq_0 (by assumption)] | rw [rSeq_n (by assumption) (by omega)] | rw [if_neg (by omega)] | rw [if_pos (by omega)])); all_goals (repeat' split); all_goals (first | (exfalso; omega) | (dsimp only; exact rFst (by assumption)) | (dsimp only; omega) | omega)) rfl)
  · intro h0 h1 h18 h19 a4 f4 q4 h25 h26 h27 h28
    first | (exfalso; omega) | exact hF _ (f4) _ (vLr.tr (vLr.u (xRk (by have g0 := sGB (n := n) (p := p) hb (by omega); omega)) (by omega) (by omega) (by omega) (vLr.u (xRk (by omega)) (by omega) (by omega) (by omega) (vLr.r hA))) h25) h26 (by omega) (Prod.ext (by unfold rCl; (repeat (first | rw [rSeq_00] | rw [rSeq_as] | rw [rSeq_0 (by assumption)] | rw [rSeq_n (by assumption) (by omega)] | rw [if_neg (by omega)] | rw [if_pos (by omega)])); all_goals (repeat' split); all_goals (first | (exfalso; omega) | (dsimp only; exact rFst (by assumption)) | (dsimp only; omega) | omega)) rfl)
  · intro h0 h1 h18 h19
    first | (exfalso; omega) | exact hF _ (-1000 * 4 - p) _ (vLr.u (xRk (by omega)) (by omega) (by omega) (by omega) (vLr.r hA)) (by rw [xUa]) (by omega) (Prod.ext (by unfold rCl; (repeat (first | rw [rSeq_00] | rw [rSeq_as] | rw [rSeq_0 (by assumption)] | rw [rSeq_n (by assumption) (by omega)] | rw [if_neg (by omega)] | rw [if_pos (by omega)])); all_goals (repeat' split); all_goals (first | (exfalso; omega) | (dsimp only; exact rFst (by assumption)) | (dsimp only; omega) | omega)) rfl)
  · intro h0 h1 h18 h56 h57 a9 p9 h58 h59 h61 h62 a11 p11 h70 h71 h73 h74 a13 p13 h80 h81 h83 h84 a15 p15 h91 h92 h94 h95
    first | (exfalso; omega) | exact hT _ (p15) h91 (vLr.tr (vLr.tr (vLr.tr (vLr.tr (vLr.u (xRk (by have g0 := sGB (n := n) (p := p) hb (by omega); omega)) (by omega) (by omega) (by omega) (vLr.u (xRk (by omega)) (by omega) (by omega) (by omega) (vLr.r hA))) h59) h71) h81) h92) (by unfold rCl; (repeat (first | rw [rSeq_00] | rw [rSeq_as] | rw [rSeq_0 (by assumption)] | rw [rSeq_n (by assumption) (by omega)] | rw [if_neg (by omega)] | rw [if_pos (by omega)])); all_goals (repeat' split); all_goals (first | (exfalso; omega) | assumption | rfl)) (by omega)
  · intro h0 h1 h18 h56 h57 a9 p9 h58 h59 h61 h62 a11 p11 h70 h71 h73 h74 a13 p13 h80 h81 h83 h84 a16 f16 q16 h96 h97 h98 h99
    first | (exfalso; omega) | exact hF _ (f16) _ (vLr.tr (vLr.tr (vLr.tr (vLr.tr (vLr.u (xRk (by have g0 := sGB (n := n) (p := p) hb (by omega); omega)) (by omega) (by omega) (by omega) (vLr.u (xRk (by omega)) (by omega) (by omega) (by omega) (vLr.r hA))) h59) h71) h81) h96) h97 (by omega) (Prod.ext (by unfold rCl; (repeat (first | rw [rSeq_00] | rw [rSeq_as] | rw [rSeq_0 (by assumption)] | rw [rSeq_n (by assumption) (by omega)] | rw [if_neg (by omega)] | rw [if_pos (by omega)])); all_goals (repeat' split); all_goals (first | (exfalso; omega) | (dsimp only; exact rFst (by assumption)) | (dsimp only; omega) | omega)) rfl)
  · intro h0 h1 h18 h56 h57 a9 p9 h58 h59 h61 h62 a11 p11 h70 h71 h73 h74 a14 f14 q14 h85 h86 h87 h88
    first | (exfalso; omega) | exact hF _ (f14) _ (vLr.tr (vLr.tr (vLr.tr (vLr.u (xRk (by have g0 := sGB (n := n) (p := p) hb (by omega); omega)) (by omega) (by omega) (by omega) (vLr.u (xRk (by omega)) (by omega) (by omega) (by omega) (vLr.r hA))) h59) h71) h85) h86 (by omega) (Prod.ext (by unfold rCl; (repeat (first | rw [rSeq_00] | rw [rSeq_as] | rw [rSeq_0 (by assumption)] | rw [rSeq_n (by assumption) (by omega)] | rw [if_neg (by omega)] | rw [if_pos (by omega)])); all_goals (repeat' split); all_goals (first | (exfalso; omega) | (dsimp only; exact rFst (by assumption)) | (dsimp only; omega) | omega)) rfl)
  · intro h0 h1 h18 h56 h57 a9 p9 h58 h59 h61 h62 a12 f12 q12 h75 h76 h77 h78
    first | (exfalso; omega) | exact hF _ (f12) _ (vLr.tr (vLr.tr (vLr.u (xRk (by have g0 := sGB (n := n) (p := p) hb (by omega); omega)) (by omega) (by omega) (by omega) (vLr.u (xRk (by omega)) (by omega) (by omega) (by omega) (vLr.r hA))) h59) h75) h76 (by omega) (Prod.ext (by unfold rCl; (repeat (first | rw [rSeq_00] | rw [rSeq_as] | rw [rSeq_0 (by assumption)] | rw [rSeq_n (by assumption) (by omega)] | rw [if_neg (by omega)] | rw [if_pos (by omega)])); all_goals (repeat' split); all_goals (first | (exfalso; omega) | (dsimp only; exact rFst (by assumption)) | (dsimp only; omega) | omega)) rfl)
  · intro h0 h1 h18 h56 h57 a10 f10 q10 h63 h64 h65 h66
    first | (exfalso; omega) | exact hF _ (f10) _ (vLr.tr (vLr.u (xRk (by have g0 := sGB (n := n) (p := p) hb (by omega); omega)) (by omega) (by omega) (by omega) (vLr.u (xRk (by omega)) (by omega) (by omega) (by omega) (vLr.r hA))) h63) h64 (by omega) (Prod.ext (by unfold rCl; (repeat (first | rw [rSeq_00] | rw [rSeq_as] | rw [rSeq_0 (by assumption)] | rw [rSeq_n (by assumption) (by omega)] | rw [if_neg (by omega)] | rw [if_pos (by omega)])); all_goals (repeat' split); all_goals (first | (exfalso; omega) | (dsimp only; exact rFst (by assumption)) | (dsimp only; omega) | omega)) rfl)
  · intro h0 h1 h18 h56 h57
    first | (exfalso; omega) | exact hF _ (-1000 * 4 - p) _ (vLr.u (xRk (by omega)) (by omega) (by omega) (by omega) (vLr.r hA)) (by rw [xUa]) (by omega) (Prod.ext (by unfold rCl; (repeat (first | rw [rSeq_00] | rw [rSeq_as] | rw [rSeq_0 (by assumption)] | rw [rSeq_n (by assumption) (by omega)] | rw [if_neg (by omega)] | rw [if_pos (by omega)])); all_goals (repeat' split); all_goals (first | (exfalso; omega) | (dsimp only; exact rFst (by assumption)) | (dsimp only; omega) | omega)) rfl)
  · intro h0 h1 h18 h56 h105 h106 a17 p17 h107 h108 h110 h111 a19 p19 h121 h122 h124 h125
    first | (exfalso; omega) | exact hT _ (p19) h121 (vLr.tr (vLr.tr (vLr.u (xRk (by have g0 := sGB (n := n) (p := p) hb (by omega); omega)) (by omega) (by omega) (by omega) (vLr.u (xRk (by omega)) (by omega) (by omega) (by omega) (vLr.r hA))) h108) h122) (by unfold rCl; (repeat (first | rw [rSeq_00] | rw [rSeq_as] | rw [rSeq_0 (by assumption)] | rw [rSeq_n (by assumption) (by omega)] | rw [if_neg (by omega)] | rw [if_pos (by omega)])); all_goals (repeat' split); all_goals (first | (exfalso; omega) | assumption | rfl)) (by omega)
  · intro h0 h1 h18 h56 h105 h106 a17 p17 h107 h108 h110 h111 a20 f20 q20 h126 h127 h128 h129
    first | (exfalso; omega) | exact hF _ (f20) _ (vLr.tr (vLr.tr (vLr.u (xRk (by have g0 := sGB (n := n) (p := p) hb (by omega); omega)) (by omega) (by omega) (by omega) (vLr.u (xRk (by omega)) (by omega) (by omega) (by omega) (vLr.r hA))) h108) h126) h127 (by omega) (Prod.ext (by unfold rCl; (repeat (first | rw [rSeq_00] | rw [rSeq_as] | rw [rSeq_0 (by assumption)] | rw [rSeq_n (by assumption) (by omega)] | rw [if_neg (by omega)] | rw [if_pos (by omega)])); all_goals (repeat' split); all_goals (first | (exfalso; omega) | (dsimp only; exact rFst (by assumption)) | (dsimp only; omega) | omega)) rfl)
  · intro h0 h1 h18 h56 h105 h106 a18 f18 q18 h112 h113 h114 h115
    first | (exfalso; omega) | exact hF _ (f18) _ (vLr.tr (vLr.u (xRk (by have g0 := sGB (n := n) (p := p) hb (by omega); omega)) (by omega) (by omega) (by omega) (vLr.u (xRk (by omega)) (by omega) (by omega) (by omega) (vLr.r hA))) h112) h113 (by omega) (Prod.ext (by unfold rCl; (repeat (first | rw [rSeq_00] | rw [rSeq_as] | rw [rSeq_0 (by assumption)] | rw [rSeq_n (by assumption) (by omega)] | rw [if_neg (by omega)] | rw [if_pos (by omega)])); all_goals (repeat' split); all_goals (first | (exfalso; omega) | (dsimp only; exact rFst (by assumption)) | (dsimp only; omega) | omega)) rfl)
  · intro h0 h1 h18 h56 h105 h106
    first | (exfalso; omega) | exact hF _ (-1000 * 4 - p) _ (vLr.u (xRk (by omega)) (by omega) (by omega) (by omega) (vLr.r hA)) (by rw [xUa]) (by omega) (Prod.ext (by unfold rCl; (repeat (first | rw [rSeq_00] | rw [rSeq_as] | rw [rSeq_0 (by assumption)] | rw [rSeq_n (by assumption) (by omega)] | rw [if_neg (by omega)] | rw [if_pos (by omega)])); all_goals (repeat' split); all_goals (first | (exfalso; omega) | (dsimp only; exact rFst (by assumption)) | (dsimp only; omega) | omega)) rfl)
  · intro h0 h1 h18 h56 h105
    first | (exfalso; omega) | exact hF _ (-1000 * 1 - p) _ (vLr.u (xRk (by omega)) (by omega) (by omega) (by omega) (vLr.r hA)) (by rw [xUa]) (by omega) (Prod.ext (by unfold rCl; (repeat (first | rw [rSeq_00] | rw [rSeq_as] | rw [rSeq_0 (by assumption)] | rw [rSeq_n (by assumption) (by omega)] | rw [if_neg (by omega)] | rw [if_pos (by omega)])); all_goals (repeat' split); all_goals (first | (exfalso; omega) | (dsimp only; exact rFst (by assumption)) | (dsimp only; omega) | omega)) rfl)

theorem wm166b {ro : Nat → Nat × (Nat → Int32)} {d : Nat} {Q : Option Value → pmS → Prop} {a : xA} {b : xB} {t : Int → Int} {n p : Int} (hC : tR a t n p) (hp : 0 ≤ p ∧ p ≤ n) (hn : n ≤ 60) (hb : tB t) (hA : xAr a) {c m : Int} (hm : a 87 3 = m) (hc0 : 0 ≤ c ∧ c < 4) (hm0 : 0 ≤ m ∧ m < 6) (hd : 5 ≤ d)
    (k1 : (¬ p = n) → ∀ a1 : xA, ∀ p1 : Int, (tR a1 t n p1) → (vLr a a1) → (rCom t n 59 p = (0, p1)) → (p < p1 ∧ p1 ≤ n) → (4 ≤ c + 1) → ∀ a3 : xA, ∀ p3 : Int, (tR a3 t n p3) → (vLr a1 a3) → (rCl t n p1 (c + 1) = (0, p3)) → (p1 < p3 ∧ p3 ≤ n) → pmWp ro d 12 166 1 55 [some (.ref 87), some (xV n), some (xV (c + 1)), some (xV 1)] [] (xS a3 b) Q)
    (k2 : (¬ p = n) → ∀ a1 : xA, ∀ p1 : Int, (tR a1 t n p1) → (vLr a a1) → (rCom t n 59 p = (0, p1)) → (p < p1 ∧ p1 ≤ n) → (4 ≤ c + 1) → ∀ a4 : xA, ∀ f4 : Int, ∀ q4 : Int, (vLr a1 a4) → (a4 87 12 = f4) → (f4 < 0 ∧ -10000 < f4) → (rCl t n p1 (c + 1) = (f4, q4)) → pmWp ro d 12 166 1 55 [some (.ref 87), some (xV n), some (xV (c + 1)), some (xV 0)] [] (xS a4 b) Q)
    (k3 : (¬ p = n) → ∀ a1 : xA, ∀ p1 : Int, (tR a1 t n p1) → (vLr a a1) → (rCom t n 59 p = (0, p1)) → (p < p1 ∧ p1 ≤ n) → (¬ 4 ≤ c + 1) → ∀ a5 : xA, ∀ p5 : Int, (tR a5 t n p5) → (vLr a1 a5) → (rCl t n p1 (c + 1) = (0, p5)) → (p1 < p5 ∧ p5 ≤ n) → pmWp ro d 12 166 1 55 [some (.ref 87), some (xV n), some (xV (c + 1)), some (xV 1)] [] (xS a5 b) Q)
    (k4 : (¬ p = n) → ∀ a1 : xA, ∀ p1 : Int, (tR a1 t n p1) → (vLr a a1) → (rCom t n 59 p = (0, p1)) → (p < p1 ∧ p1 ≤ n) → (¬ 4 ≤ c + 1) → ∀ a6 : xA, ∀ f6 : Int, ∀ q6 : Int, (vLr a1 a6) → (a6 87 12 = f6) → (f6 < 0 ∧ -10000 < f6) → (rCl t n p1 (c + 1) = (f6, q6)) → pmWp ro d 12 166 1 55 [some (.ref 87), some (xV n), some (xV (c + 1)), some (xV 0)] [] (xS a6 b) Q)
    (k5 : (¬ p = n) → ∀ a2 : xA, ∀ f2 : Int, ∀ q2 : Int, (vLr a a2) → (a2 87 12 = f2) → (f2 < 0 ∧ -10000 < f2) → (rCom t n 59 p = (f2, q2)) → pmWp ro d 12 166 1 55 [some (.ref 87), some (xV n), some (xV (c + 1)), some (xV 0)] [] (xS a2 b) Q)
    (k6 : (¬ ¬ p = n) → pmWp ro d 12 166 1 120 [some (.ref 87), some (xV n), some (xV (c + 1)), some (xV 1)] [] (xS a b) Q) :
    pmWp ro d 12 166 1 55 [some (.ref 87), some (xV n), some (xV c), some (xV 1)] [] (xS a b) Q := by
  refine x_iloadn xc166_55 rfl ?_
  refine x_ifeq xc166_56 (xRk (by decide)) (fun h => absurd h (by omega)) (fun _ => ?_)
  refine x_iloadn xc166_59 rfl ?_
  refine x_iconst xc166_60 ?_
  refine x_iadd xc166_61 ?_
  refine x_istoren (pl' := [some (.ref 87), some (xV n), some (xV (c + 1)), some (xV 1)]) xc166_62 rfl rfl ?_
  refine x_aloadn xc166_63 rfl ?_
  refine x_gfi' (k := 10) (v := p) xc166_64 rfl (Or.inl rfl) rfl xz87 hC.2.2 ?_
  refine x_aloadn xc166_67 rfl ?_
  refine x_gfi' (k := 11) (v := n) xc166_68 rfl (Or.inl rfl) rfl xz87 hC.2.1 ?_
  refine x_icne xc166_71 (xRk (by omega)) (xRk (by omega)) (fun h1 => ?_) (fun h1 => ?_)
  · refine x_aloadn xc166_77 rfl ?_
    refine x_bipush xc166_78 (by decide) ?_
    refine x_cV (as := [xV 59]) (rest := []) xc166_80 rfl xi171 xz87 ⟨rfl, rfl⟩ rfl rfl ?_
    refine xm171 hC (by omega) (by omega) hb hA (by omega) (by omega) (fun a1 p1 h2 h3 h5 h6 => ?_) (fun a2 f2 q2 h7 h8 h9 h10 => ?_)
    · refine x_ifeq xc166_83 (xRk (by decide)) (fun h => absurd h (by omega)) (fun _ => ?_)
      refine x_aloadn xc166_86 rfl ?_
      refine x_iconst xc166_87 ?_
      refine x_aloadn xc166_88 rfl ?_
      refine x_gfi' (k := 3) (v := m) xc166_89 rfl (Or.inl rfl) rfl xz87 (h3.2.1.trans hm) ?_
      refine x_imul xc166_92 ?_
      refine x_iloadn xc166_93 rfl ?_
      refine x_iconst xc166_94 ?_
      refine x_icge xc166_95 (xRk (by omega)) (xRk (by decide)) (fun h12 => ?_) (fun h12 => ?_)
      · refine x_iconst xc166_102 ?_
        refine x_iadd xc166_103 ?_
        refine x_iloadn xc166_104 rfl ?_
        refine x_cV (as := [xV (4 * m + 0), xV (c + 1)]) (rest := []) xc166_105 rfl xi167 xz87 ⟨rfl, rfl⟩ rfl rfl ?_
        refine xm167 h2 (by omega) (by omega) hb h3.1 (by omega) (by omega) (by omega) (fun a3 p3 h13 h14 h16 h17 => ?_) (fun a4 f4 q4 h18 h19 h20 h21 => ?_)
        · refine x_ifeq xc166_108 (xRk (by decide)) (fun h => absurd h (by omega)) (fun _ => ?_)
          refine x_iconst xc166_111 ?_
          refine x_goto xc166_112 ?_
          refine x_istoren (pl' := [some (.ref 87), some (xV n), some (xV (c + 1)), some (xV 1)]) xc166_116 rfl rfl ?_
          refine x_goto xc166_117 ?_
          exact k1 h1 a1 p1 h2 h3 h5 h6 h12 a3 p3 h13 h14 h16 h17
        · refine x_ifeq xc166_108 (xRk (by decide)) (fun _ => ?_) (fun h => absurd h (by omega))
          refine x_iconst xc166_115 ?_
          refine x_istoren (pl' := [some (.ref 87), some (xV n), some (xV (c + 1)), some (xV 0)]) xc166_116 rfl rfl ?_
          refine x_goto xc166_117 ?_
          exact k2 h1 a1 p1 h2 h3 h5 h6 h12 a4 f4 q4 h18 h19 h20 h21
      · refine x_iloadn xc166_98 rfl ?_
        refine x_goto xc166_99 ?_
        refine x_iadd xc166_103 ?_
        refine x_iloadn xc166_104 rfl ?_
        refine x_cV (as := [xV (4 * m + (c + 1)), xV (c + 1)]) (rest := []) xc166_105 rfl xi167 xz87 ⟨rfl, rfl⟩ rfl rfl ?_
        refine xm167 h2 (by omega) (by omega) hb h3.1 (by omega) (by omega) (by omega) (fun a5 p5 h24 h25 h27 h28 => ?_) (fun a6 f6 q6 h29 h30 h31 h32 => ?_)
        · refine x_ifeq xc166_108 (xRk (by decide)) (fun h => absurd h (by omega)) (fun _ => ?_)
          refine x_iconst xc166_111 ?_
          refine x_goto xc166_112 ?_
          refine x_istoren (pl' := [some (.ref 87), some (xV n), some (xV (c + 1)), some (xV 1)]) xc166_116 rfl rfl ?_
          refine x_goto xc166_117 ?_
          exact k3 h1 a1 p1 h2 h3 h5 h6 h12 a5 p5 h24 h25 h27 h28
        · refine x_ifeq xc166_108 (xRk (by decide)) (fun _ => ?_) (fun h => absurd h (by omega))
          refine x_iconst xc166_115 ?_
          refine x_istoren (pl' := [some (.ref 87), some (xV n), some (xV (c + 1)), some (xV 0)]) xc166_116 rfl rfl ?_
          refine x_goto xc166_117 ?_
          exact k4 h1 a1 p1 h2 h3 h5 h6 h12 a6 f6 q6 h29 h30 h31 h32
    · refine x_ifeq xc166_83 (xRk (by decide)) (fun _ => ?_) (fun h => absurd h (by omega))
      refine x_iconst xc166_115 ?_
      refine x_istoren (pl' := [some (.ref 87), some (xV n), some (xV (c + 1)), some (xV 0)]) xc166_116 rfl rfl ?_
      refine x_goto xc166_117 ?_
      exact k5 h1 a2 f2 q2 h7 h8 h9 h10
  · refine x_goto xc166_74 ?_
    exact k6 h1

section
variable {ro : Nat → Nat × (Nat → Int32)} {d : Nat} {Q : Option Value → pmS → Prop} {a : xA} {b : xB} {n m l : Int} {t : Int → Int}
/-- the reference, once a clause is read -/
theorem xm166l {a0 : xA} (hn : n ≤ 60) (hb : tB t) (hm0 : 0 ≤ m ∧ m < 6) (hd : 5 ≤ d) : ∀ (k : Nat) (a : xA) (c p : Int), vGr a0 a → 4 - c ≤ (k : Int) → tR a t n p → 0 ≤ p ∧ p ≤ n → xAr a → a 87 3 = m → 0 ≤ c ∧ c < 4 →
    (∀ f, f = (if n ≤ p then (0, c + 1) else if sG t n p = 59 then rLw t n k (c + 1) (p + 1) else (-1000 - p, c + 1)) →
      (¬ f.1 = 0 → ∀ a1, xAr a1 → vGr a0 a1 → a1 87 3 = m → a1 87 9 = 0 → Q (some (xV f.1)) (xS a1 b)) ∧ (f.1 = 0 → ∀ a1, xAr a1 → (∀ j, 0 ≤ j → j < 24 → (0 ≤ a0 106 j ∧ a0 106 j ≤ 99) → 0 ≤ a1 106 j ∧ a1 106 j ≤ 99) → (∀ q j, ¬ (q = 87 ∧ (9 ≤ j ∨ j = 3)) → ¬ (101 ≤ q ∧ q ≤ 107) → ¬ (q = 100 ∧ j = m) → a1 q j = a0 q j) → a1 87 3 = m + 1 → a1 87 9 = 0 → a1 100 m = f.2 → Q (some (xV m)) (xS a1 b))) →
    pmWp ro d 12 166 1 55 [some (.ref 87), some (xV n), some (xV c), some (xV 1)] [] (xS a b) Q := by
  intro k
  induction k with
  | zero =>
    intro a c p hV hk hC hp hA hm hc0 hQ
    exfalso
    omega
  | succ k ih =>
    intro a c p hV hk hC hp hA hm hc0 hQ
    -- a fault
    have bad : ∀ (a1 : xA) (f : Int) (v2 : Int), xAr a1 → vGr a0 a1 → a1 87 3 = m → a1 87 12 = f → f < 0 ∧ -10000 < f → (if n ≤ p then ((0 : Int), c + 1) else if sG t n p = 59 then rLw t n (k + 1) (c + 1) (p + 1) else (-1000 - p, c + 1)).1 = f → pmWp ro d 12 166 1 55 [some (.ref 87), some (xV n), some (xV v2), some (xV 0)] [] (xS a1 b) Q := by
      intro a1 f v2 g1 gv g2 g3 g4 g5
      refine w166f g2 g3 ⟨by omega, by omega⟩ ?_
      have h := (hQ _ rfl).1 (by omega) (xU a1 87 9 0) (xAr_u g1 xR0) (vGr.u (by decide) (fun e => absurd e (by decide)) gv) (by rw [xUk (by decide)]; exact g2) xUa
      rw [g5] at h
      exact h
    -- one more clause
    have more : ∀ (a1 : xA) (p1 : Int), ¬ p = n → sG t n p = 59 → tR a1 t n p1 → xAr a1 → vGr a0 a1 → a1 87 3 = m → rCl t n (p + 1) (c + 1) = (0, p1) → p + 1 < p1 ∧ p1 ≤ n → c + 1 < 4 → pmWp ro d 12 166 1 55 [some (.ref 87), some (xV n), some (xV (c + 1)), some (xV 1)] [] (xS a1 b) Q := by
      intro a1 p1 g0 g00 g1 g2 gv g3 g4 g5 g6
      refine ih a1 (c + 1) p1 gv (by omega) g1 (by omega) g2 g3 (by omega) (fun f hf => hQ f ?_)
      have e1 : (if n ≤ p then ((0 : Int), c + 1) else if sG t n p = 59 then rLw t n (k + 1) (c + 1) (p + 1) else (-1000 - p, c + 1)) = rLw t n (k + 1) (c + 1) (p + 1) := by rw [if_neg (by omega), if_pos g00]
      rw [e1, hf, rLw_s, g4, if_pos rfl]
    have worse : ∀ (f q : Int), ¬ p = n → sG t n p = 59 → f < 0 → rCl t n (p + 1) (c + 1) = (f, q) → (if n ≤ p then ((0 : Int), c + 1) else if sG t n p = 59 then rLw t n (k + 1) (c + 1) (p + 1) else (-1000 - p, c + 1)).1 = f := by
      intro f q g0 g1 g2 g3
      rw [if_neg (by omega), if_pos g1, rLw_s, g3, if_neg (by show ¬ f = 0; omega)]
    have com : ∀ p1, rCom t n 59 p = (0, p1) → sG t n p = 59 ∧ p1 = p + 1 := by
      intro p1 h
      unfold rCom at h
      split at h
      · rename_i e
        exact ⟨e, (congrArg Prod.snd h).symm⟩
      · have := congrArg Prod.fst h
        simp only at this
        omega
    refine wm166b hC hp hn hb hA hm hc0 hm0 hd ?_ ?_ ?_ ?_ ?_ ?_
    · intro e a1 p1 h1 h2 h3 h4 h5 a3 p3 h6 h7 h8 h9
      obtain ⟨g1, rfl⟩ := com p1 h3
      exfalso
      -- a fifth clause is none
      have : c + 1 = 4 := by omega
      rw [this] at h8
      have h10 : (rCl t n (p + 1) 4).1 = 0 := by rw [h8]
      unfold rCl at h10
      split at h10
      · have h11 : -1000 - (p + 1) = 0 := h10
        omega
      · rw [if_pos (by decide)] at h10
        have h11 : -4000 - (p + 1) = 0 := h10
        omega
    · intro e a1 p1 h1 h2 h3 h4 h5 a4 f4 q4 h6 h7 h8 h9
      obtain ⟨g1, rfl⟩ := com p1 h3
      exact bad a4 f4 (c + 1) h6.1 (vGr.tr hV (vGr.tr h2.2.2 h6.2.2)) (h6.2.1.trans (h2.2.1.trans hm)) h7 h8 (worse f4 q4 e g1 h8.1 h9)
    · intro e a1 p1 h1 h2 h3 h4 h5 a3 p3 h6 h7 h8 h9
      obtain ⟨g1, rfl⟩ := com p1 h3
      exact more a3 p3 e g1 h6 h7.1 (vGr.tr hV (vGr.tr h2.2.2 h7.2.2)) (h7.2.1.trans (h2.2.1.trans hm)) h8 h9 (by omega)
    · intro e a1 p1 h1 h2 h3 h4 h5 a4 f4 q4 h6 h7 h8 h9
      obtain ⟨g1, rfl⟩ := com p1 h3
      exact bad a4 f4 (c + 1) h6.1 (vGr.tr hV (vGr.tr h2.2.2 h6.2.2)) (h6.2.1.trans (h2.2.1.trans hm)) h7 h8 (worse f4 q4 e g1 h8.1 h9)
    · intro e a2 f2 q2 h1 h2 h3 h4
      refine bad a2 f2 (c + 1) h1.1 (vGr.tr hV h1.2.2) (h1.2.1.trans hm) h2 h3 ?_
      unfold rCom at h4
      split at h4
      · have := congrArg Prod.fst h4
        have : (0 : Int) = f2 := this
        omega
      · rename_i g
        rw [if_neg (by omega), if_neg g]
        exact congrArg Prod.fst h4
    · intro e
      refine w166g hm hm0 ?_
      have h := (hQ _ rfl).2 (by rw [if_pos (by omega)]) (xU (xU (xU a 87 9 0) 100 m (c + 1)) 87 3 (m + 1)) (xAr_u (xAr_u (xAr_u hA xR0) ⟨by omega, by omega⟩) ⟨by omega, by omega⟩) (fun j j0 j1 g => by rw [xUn (by decide), xUn (by decide), xUn (by decide)]; exact hV.2 j j0 j1 g) (fun q j e1 e2 e3 => by unfold xU; rw [if_neg (by omega), if_neg (by omega), if_neg (by omega)]; exact hV.1 q j (by omega) e2) xUa (by rw [xUk (by decide), xUn (by decide), xUa]) (by rw [xUn (by decide), xUa, if_pos (by omega)])
      rw [show (m + 1 - 1 : Int) = m by omega]
      exact h
theorem ym166 (h_n : xR n) (hg : a 87 4 = 0) (hm : a 87 3 = m) (hl : a 87 9 = l) (hm0 : 0 ≤ m ∧ m ≤ 6) (hl0 : 0 ≤ l ∧ l ≤ 400) (ht : ∀ j, 0 ≤ j → j < n → a 93 j % 256 = t j) (hb : tB t) (hA : xAr a) (hd : 8 ≤ d)
    (hR : ¬ (1 ≤ n ∧ n ≤ 60 ∧ m < 6 ∧ n ≤ l) → Q (some (xV (-1))) (xS a b))
    (hB : (1 ≤ n ∧ n ≤ 60 ∧ m < 6 ∧ n ≤ l) → ¬ (rLw t n 6 0 0).1 = 0 → ∀ a1, xAr a1 → vGr a a1 → a1 87 3 = m → a1 87 9 = 0 → Q (some (xV (rLw t n 6 0 0).1)) (xS a1 b))
    (hG : (1 ≤ n ∧ n ≤ 60 ∧ m < 6 ∧ n ≤ l) → (rLw t n 6 0 0).1 = 0 → ∀ a1, xAr a1 → (∀ j, 0 ≤ j → j < 24 → (0 ≤ a 106 j ∧ a 106 j ≤ 99) → 0 ≤ a1 106 j ∧ a1 106 j ≤ 99) → (∀ q j, ¬ (q = 87 ∧ (9 ≤ j ∨ j = 3)) → ¬ (101 ≤ q ∧ q ≤ 107) → ¬ (q = 100 ∧ j = m) → a1 q j = a q j) → a1 87 3 = m + 1 → a1 87 9 = 0 → a1 100 m = (rLw t n 6 0 0).2 → Q (some (xV m)) (xS a1 b)) : pmCs ro d 166 [.ref 87, xV n] (xS a b) Q := by
  refine pmCs_deep (d := 8) (xg166 (w166 h_n hm hl hg hm0 hl0 (by decide) (by decide) (fun e => absurd rfl e) (fun _ _ _ => hR (by omega)) (fun _ e1 e2 e3 => ?_) (fun _ _ _ _ => hR (by omega)) (fun _ _ => hR (by omega)))) hd
  generalize ha0 : xU (xU (xU (xU (xU a 87 10 0) 87 11 n) 87 13 0) 87 14 0) 87 15 0 = a0
  have hC : tR a0 t n 0 := by
    rw [← ha0]
    refine tR.fd (by decide) (by decide) (tR.fd (by decide) (by decide) (tR.fd (by decide) (by decide) ⟨fun j j0 j1 => ?_, xUa, ?_⟩))
    · rw [xUn (by decide), xUn (by decide)]
      exact ht j j0 j1
    · rw [xUk (by decide), xUa]
  have hA0 : xAr a0 := by
    rw [← ha0]
    exact xAr_u (xAr_u (xAr_u (xAr_u (xAr_u hA xR0) h_n) xR0) xR0) xR0
  have hm1 : a0 87 3 = m := by
    rw [← ha0, xUk (by decide), xUk (by decide), xUk (by decide), xUk (by decide), xUk (by decide)]
    exact hm
  have hV0 : vGr a a0 := by
    rw [← ha0]
    exact vGr.u (by decide) (fun e => absurd e (by decide)) (vGr.u (by decide) (fun e => absurd e (by decide)) (vGr.u (by decide) (fun e => absurd e (by decide)) (vGr.u (by decide) (fun e => absurd e (by decide)) (vGr.u (by decide) (fun e => absurd e (by decide)) vGr.r))))
  refine xm167 hC (by omega) (by omega) hb hA0 (by omega) (by omega) (by decide) (fun a1 p1 h1 h2 h3 h4 => ?_) (fun a1 f q h1 h2 h3 h4 => ?_)
  · refine w166c ?_
    refine xm166l (a0 := a) (by omega) hb (by omega) (by decide) 5 a1 0 p1 (vGr.tr hV0 h2.2.2) (by decide) h1 (by omega) h2.1 (h2.2.1.trans hm1) (by decide) (fun f hf => ?_)
    have er : rLw t n 6 0 0 = f := by
      rw [hf]
      show (if (rCl t n 0 0).1 = 0 then _ else _) = _
      rw [h3, if_pos rfl]
    rw [← er]
    exact ⟨hB (by omega), hG (by omega)⟩
  · refine w166c ?_
    refine w166f (h1.2.1.trans hm1) h2 ⟨by omega, by omega⟩ ?_
    have er : rLw t n 6 0 0 = (f, 0) := by
      show (if (rCl t n 0 0).1 = 0 then _ else _) = _
      rw [h4, if_neg (by show ¬ f = 0; omega)]
    rw [er] at hB
    exact hB (by omega) (by show ¬ f = 0; omega) _ (xAr_u h1.1 xR0) (vGr.u (by decide) (fun e => absurd e (by decide)) (vGr.tr hV0 h1.2.2)) (by rw [xUk (by decide)]; exact h1.2.1.trans hm1) xUa
end
end
