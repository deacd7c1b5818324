/-! laws read once more: the numbers that are limits, the sizes that stay (the class) -/
section
set_option maxRecDepth 100000


section
variable {a a1 a2 : xA} {v k : Int} {q : Nat}
/-- what reading a law leaves of sizes and limits -/
def vGc (a a1 : xA) : Prop := (∀ q j, ¬ q = 1 → ¬ q = 33 → ¬ (14 ≤ q ∧ q ≤ 19) → a1 q j = a q j) ∧ ∀ j, 0 ≤ j → j < 24 → (0 ≤ a 19 j ∧ a 19 j ≤ 99) → 0 ≤ a1 19 j ∧ a1 19 j ≤ 99
theorem vGc.r : vGc a a := ⟨fun _ _ _ _ _ => rfl, fun _ _ _ h => h⟩
theorem vGc.u (h1 : q = 1 ∨ q = 33 ∨ (14 ≤ q ∧ q ≤ 19)) (h2 : q = 19 → 0 ≤ v ∧ v ≤ 99) (h : vGc a a1) : vGc a (xU a1 q k v) := ⟨fun r j e1 e2 e3 => by rw [xUn (by omega)]; exact h.1 r j e1 e2 e3, fun j j0 j1 g => by
  by_cases c : (19 : Nat) = q ∧ j = k
  · unfold xU
    rw [if_pos c]
    exact h2 c.1.symm
  · unfold xU
    rw [if_neg c]
    exact h.2 j j0 j1 g⟩
theorem vGc.tr (h1 : vGc a a1) (h2 : vGc a1 a2) : vGc a a2 := ⟨fun q j e1 e2 e3 => (h2.1 q j e1 e2 e3).trans (h1.1 q j e1 e2 e3), fun j j0 j1 g => h2.2 j j0 j1 (h1.2 j j0 j1 g)⟩
def vLc (a a1 : xA) : Prop := xAr a1 ∧ a1 33 2 = a 33 2 ∧ a1 13 7 = a 13 7 ∧ vGc a a1
theorem vLc.r (h : xAr a) : vLc a a := ⟨h, rfl, rfl, vGc.r⟩
theorem vLc.u (hv : xR v) (h1 : ¬ (33 = q ∧ 2 = k)) (h2 : ¬ (13 = q ∧ 7 = k)) (h3 : q = 1 ∨ q = 33 ∨ (14 ≤ q ∧ q ≤ 19)) (h4 : q = 19 → 0 ≤ v ∧ v ≤ 99) (h : vLc a a1) : vLc a (xU a1 q k v) := ⟨xAr_u h.1 hv, by
  rw [← h.2.1]
  exact if_neg h1, by
  rw [← h.2.2.1]
  exact if_neg h2, vGc.u h3 h4 h.2.2.2⟩
theorem vLc.tr (h1 : vLc a a1) (h2 : vLc a1 a2) : vLc a a2 := ⟨h2.1, h2.2.1.trans h1.2.1, h2.2.2.1.trans h1.2.2.1, vGc.tr h1.2.2.2 h2.2.2.2⟩
end
theorem wm52 {ro : Nat → Nat × (Nat → Int32)} {d : Nat} {Q : Option Value → pmS → Prop} {a : xA} {b : xB} {t : Int → Int} {n p : Int} (hC : tC a t n p) (hp : 0 ≤ p ∧ p ≤ n) (hn : n ≤ 60) (hb : tB t) (hA : xAr a) (hf : a 1 4 = 0) {x y : Int} (h_x : xR x) (h_y : xR y) (hx : 0 ≤ x ∧ x ≤ 20) (hy : 0 ≤ y ∧ y ≤ 1) (hd : 2 ≤ d)
    (k1 : (sG t n p = 46) → (p < n) → Q (some (xV 1)) (xS (xU a 1 3 (p + 1)) b))
    (k2 : (¬ sG t n p = 46) → (sG t n p < 48 ∨ 57 < sG t n p) → Q (some (xV 0)) (xS (xU a 1 4 (-1000 * 1 - p)) b))
    (k3 : (¬ sG t n p = 46) → (¬ (sG t n p < 48 ∨ 57 < sG t n p)) → (6 < sG t n p - 48) → Q (some (xV 0)) (xS (xU a 1 4 (-1000 * 3 - p)) b))
    (k4 : (¬ sG t n p = 46) → (¬ (sG t n p < 48 ∨ 57 < sG t n p)) → (¬ 6 < sG t n p - 48) → (p < n) → (¬ sG t n p - 48 = -1) → Q (some (xV 1)) (xS (xU (xU (xU a 1 3 (p + 1)) 33 3 (xOr (a 33 3) (7 * ((2 ^ x.toNat : Nat) : Int)))) 33 4 (xOr (a 33 4) ((sG t n p - 48 + y) * ((2 ^ x.toNat : Nat) : Int)))) b))
    (k5 : (¬ sG t n p = 46) → (¬ (sG t n p < 48 ∨ 57 < sG t n p)) → (¬ 6 < sG t n p - 48) → (p < n) → (¬ ¬ sG t n p - 48 = -1) → Q (some (xV 0)) (xS (xU a 1 3 (p + 1)) b)) :
    pmWp ro d 1 52 2 0 [some (.ref 33), some (xV x), some (xV y), none] [] (xS a b) Q := by
  refine x_aloadn xc52_0 rfl ?_
  refine x_gfr xc52_1 rfl rfl xz33 rfl ?_
  refine x_bipush xc52_4 (by decide) ?_
  refine x_cV (as := [xV 46]) (rest := []) xc52_6 rfl xi44 xz1 ⟨rfl, rfl⟩ rfl rfl ?_
  refine xk44 hC (by omega) (by omega) hb hA (by omega) (by omega) (fun h0 h1 => ?_) (fun h2 => ?_)
  · refine x_ifeq xc52_9 (xRk (by decide)) (fun h => absurd h (by omega)) (fun _ => ?_)
    refine x_iconst xc52_12 ?_
    refine x_iret xc52_13 (Or.inr ⟨rfl, (by omega)⟩) ?_
    exact k1 h0 h1
  · refine x_ifeq xc52_9 (xRk (by decide)) (fun _ => ?_) (fun h => absurd h (by omega))
    refine x_aloadn xc52_14 rfl ?_
    refine x_gfr xc52_15 rfl rfl xz33 rfl ?_
    refine x_bipush xc52_18 (by decide) ?_
    refine x_cV (as := [xV 6]) (rest := []) xc52_20 rfl xi40 xz1 ⟨rfl, rfl⟩ rfl rfl ?_
    refine xk40 hC (by omega) (by omega) hb hA (xRk (by decide)) (by omega) (fun h5 => ?_) (fun h6 h7 => ?_) (fun h8 h9 h10 => ?_)
    · refine x_istoren (pl' := [some (.ref 33), some (xV x), some (xV y), some (xV (-1))]) xc52_23 rfl rfl ?_
      refine x_iloadn xc52_24 rfl ?_
      refine x_iconst xc52_25 ?_
      refine x_icne xc52_26 (xRk (by decide)) (xRk (by decide)) (fun h => absurd h (by omega)) (fun _ => ?_)
      refine x_iconst xc52_29 ?_
      refine x_iret xc52_30 (Or.inr ⟨rfl, (by omega)⟩) ?_
      exact k2 h2 h5
    · refine x_istoren (pl' := [some (.ref 33), some (xV x), some (xV y), some (xV (-1))]) xc52_23 rfl rfl ?_
      refine x_iloadn xc52_24 rfl ?_
      refine x_iconst xc52_25 ?_
      refine x_icne xc52_26 (xRk (by decide)) (xRk (by decide)) (fun h => absurd h (by omega)) (fun _ => ?_)
      refine x_iconst xc52_29 ?_
      refine x_iret xc52_30 (Or.inr ⟨rfl, (by omega)⟩) ?_
      exact k3 h2 h6 h7
    · refine x_istoren (pl' := [some (.ref 33), some (xV x), some (xV y), some (xV (sG t n p - 48))]) xc52_23 rfl rfl ?_
      refine x_iloadn xc52_24 rfl ?_
      refine x_iconst xc52_25 ?_
      refine x_icne xc52_26 (xRk (by have g0 := sGB (n := n) (p := p) hb (by omega); omega)) (xRk (by decide)) (fun h13 => ?_) (fun h13 => ?_)
      · refine x_aloadn xc52_31 rfl ?_
        refine x_dup xc52_32 rfl ?_
        refine x_gfi' (k := 3) (v := a 33 3) xc52_33 rfl (Or.inl rfl) rfl xz33 (by rw [xUn (by decide)]) ?_
        refine x_bipush xc52_36 (by decide) ?_
        refine x_iloadn xc52_38 rfl ?_
        refine x_ishl (M := ((2 ^ x.toNat : Nat) : Int)) (by have g0 := xRb h_x; omega) (by have g0 := xRb h_x; omega) rfl xc52_39 ?_
        refine x_ior xc52_40 ?_
        refine x_pfi (k := 3) xc52_41 rfl ⟨rfl, rfl⟩ rfl xz33 ?_
        refine x_aloadn xc52_44 rfl ?_
        refine x_dup xc52_45 rfl ?_
        refine x_gfi' (k := 4) (v := a 33 4) xc52_46 rfl (Or.inl rfl) rfl xz33 (by rw [xUk (by decide), xUn (by decide)]) ?_
        refine x_iloadn xc52_49 rfl ?_
        refine x_iloadn xc52_50 rfl ?_
        refine x_iadd xc52_51 ?_
        refine x_iloadn xc52_52 rfl ?_
        refine x_ishl (M := ((2 ^ x.toNat : Nat) : Int)) (by have g0 := xRb h_x; omega) (by have g0 := xRb h_x; omega) rfl xc52_53 ?_
        refine x_ior xc52_54 ?_
        refine x_pfi (k := 4) xc52_55 rfl ⟨rfl, rfl⟩ rfl xz33 ?_
        refine x_iconst xc52_58 ?_
        refine x_iret xc52_59 (Or.inr ⟨rfl, (by omega)⟩) ?_
        exact k4 h2 h8 h9 h10 h13
      · refine x_iconst xc52_29 ?_
        refine x_iret xc52_30 (Or.inr ⟨rfl, (by omega)⟩) ?_
        exact k5 h2 h8 h9 h10 h13

theorem xm52 {ro : Nat → Nat × (Nat → Int32)} {d : Nat} {Q : Option Value → pmS → Prop} {a : xA} {b : xB} {t : Int → Int} {n p : Int} (hC : tC a t n p) (hp : 0 ≤ p ∧ p ≤ n) (hn : n ≤ 60) (hb : tB t) (hA : xAr a) {x y : Int} (hx : 0 ≤ x ∧ x ≤ 20) (hy : 0 ≤ y ∧ y ≤ 1) (hf : a 1 4 = 0) (hd : 3 ≤ d)
    (hT : ∀ (a1 : xA) (p1 : Int), tC a1 t n p1 → vLc a a1 → a1 1 4 = 0 → rSig t n p = (0, p1) → p < p1 ∧ p1 ≤ n → Q (some (xV 1)) (xS a1 b))
    (hF : ∀ (a1 : xA) (f q : Int), vLc a a1 → a1 1 4 = f → f < 0 ∧ -10000 < f → rSig t n p = (f, q) → Q (some (xV 0)) (xS a1 b)) : pmCs ro d 52 [.ref 33, xV x, xV y] (xS a b) Q := by
  refine pmCs_deep (d := 3) (xg52 (wm52 hC hp hn hb hA hf ⟨by omega, by omega⟩ ⟨by omega, by omega⟩ hx hy (by decide) ?_ ?_ ?_ ?_ ?_)) hd
  · intro h0 h1
    first | (exfalso; omega) | exact hT _ (p + 1) (tC.at hC) (vLc.u (xRk (by omega)) (by omega) (by omega) (by omega) (by omega) (vLc.r hA)) (by rw [xUk (by decide), hf]) (by unfold rSig rDig; (repeat (first | rw [rSeq_00] | rw [rSeq_as] | rw [rSeq_0 (by assumption)] | rw [rSeq_n (by assumption) (by omega)] | rw [if_neg (by omega)] | rw [if_pos (by omega)])); all_goals (repeat' split); all_goals (first | (exfalso; omega) | assumption | rfl)) (by omega)
  · intro h2 h5
    first | (exfalso; omega) | exact hF _ (-1000 * 1 - p) _ (vLc.u (xRk (by omega)) (by omega) (by omega) (by omega) (by omega) (vLc.r hA)) (by rw [xUa]) (by omega) (Prod.ext (by unfold rSig rDig; (repeat (first | rw [rSeq_00] | rw [rSeq_as] | rw [rSeq_0 (by assumption)] | rw [rSeq_n (by assumption) (by omega)] | rw [if_neg (by omega)] | rw [if_pos (by omega)])); all_goals (repeat' split); all_goals (first | (exfalso; omega) | (dsimp only; exact rFst (by assumption)) | (dsimp only; omega) | omega)) rfl)
  · intro h2 h6 h7
    first | (exfalso; omega) | exact hF _ (-1000 * 3 - p) _ (vLc.u (xRk (by omega)) (by omega) (by omega) (by omega) (by omega) (vLc.r hA)) (by rw [xUa]) (by omega) (Prod.ext (by unfold rSig rDig; (repeat (first | rw [rSeq_00] | rw [rSeq_as] | rw [rSeq_0 (by assumption)] | rw [rSeq_n (by assumption) (by omega)] | rw [if_neg (by omega)] | rw [if_pos (by omega)])); all_goals (repeat' split); all_goals (first | (exfalso; omega) | (dsimp only; exact rFst (by assumption)) | (dsimp only; omega) | omega)) rfl)
  · intro h2 h8 h9 h10 h13
    first | (exfalso; omega) | exact hT _ (p + 1) (tC.ot (by decide) (by decide) (tC.ot (by decide) (by decide) (tC.at hC))) (vLc.u (xRk (by have g0 := xOrB (a 33 4) ((sG t n p - 48 + y) * ((2 ^ x.toNat : Nat) : Int)); omega)) (by omega) (by omega) (by omega) (by omega) (vLc.u (xRk (by have g0 := xOrB (a 33 3) (7 * ((2 ^ x.toNat : Nat) : Int)); omega)) (by omega) (by omega) (by omega) (by omega) (vLc.u (xRk (by omega)) (by omega) (by omega) (by omega) (by omega) (vLc.r hA)))) (by rw [xUn (by decide), xUn (by decide), xUk (by decide), hf]) (by unfold rSig rDig; (repeat (first | rw [rSeq_00] | rw [rSeq_as] | rw [rSeq_0 (by assumption)] | rw [rSeq_n (by assumption) (by omega)] | rw [if_neg (by omega)] | rw [if_pos (by omega)])); all_goals (repeat' split); all_goals (first | (exfalso; omega) | assumption | rfl)) (by omega)
  · intro h2 h8 h9 h10 h13
    first | (exfalso; omega) | exact hF _ (0) _ (vLc.u (xRk (by omega)) (by omega) (by omega) (by omega) (by omega) (vLc.r hA)) (by rw [xUk (by decide), hf]) (by omega) (Prod.ext (by unfold rSig rDig; (repeat (first | rw [rSeq_00] | rw [rSeq_as] | rw [rSeq_0 (by assumption)] | rw [rSeq_n (by assumption) (by omega)] | rw [if_neg (by omega)] | rw [if_pos (by omega)])); all_goals (repeat' split); all_goals (first | (exfalso; omega) | (dsimp only; exact rFst (by assumption)) | (dsimp only; omega) | omega)) rfl)

theorem wm50 {ro : Nat → Nat × (Nat → Int32)} {d : Nat} {Q : Option Value → pmS → Prop} {a : xA} {b : xB} {t : Int → Int} {n p : Int} (hC : tC a t n p) (hp : 0 ≤ p ∧ p ≤ n) (hn : n ≤ 60) (hb : tB t) (hA : xAr a) (hf : a 1 4 = 0) (hd : 3 ≤ d)
    (k1 : (sG t n p = -1 ∨ p < n) → (rKd (sG t n p) = -1 ∨ 97 ≤ sG t n p) → (¬ rKd (sG t n p) = -1) → ∀ a1 : xA, ∀ p1 : Int, (tC a1 t n p1) → (vLc (xU (xU (xU a 1 3 (p + 1)) 33 3 7) 33 4 (rKd (sG t n p))) a1) → (a1 1 4 = 0) → (rSig t n (p + 1) = (0, p1)) → (p + 1 < p1 ∧ p1 ≤ n) → ∀ a3 : xA, ∀ p3 : Int, (tC a3 t n p3) → (vLc a1 a3) → (a3 1 4 = 0) → (rSig t n p1 = (0, p3)) → (p1 < p3 ∧ p3 ≤ n) → ∀ a5 : xA, ∀ p5 : Int, (tC a5 t n p5) → (vLc a3 a5) → (a5 1 4 = 0) → (rSig t n p3 = (0, p5)) → (p3 < p5 ∧ p5 ≤ n) → (sG t n p5 = 117) → (p5 < n) → Q (some (xV 1)) (xS (xU (xU (xU a5 1 3 (p5 + 1)) 33 3 (xOr (a5 33 3) 4096)) 33 4 (xOr (a5 33 4) 4096)) b))
    (k2 : (sG t n p = -1 ∨ p < n) → (rKd (sG t n p) = -1 ∨ 97 ≤ sG t n p) → (¬ rKd (sG t n p) = -1) → ∀ a1 : xA, ∀ p1 : Int, (tC a1 t n p1) → (vLc (xU (xU (xU a 1 3 (p + 1)) 33 3 7) 33 4 (rKd (sG t n p))) a1) → (a1 1 4 = 0) → (rSig t n (p + 1) = (0, p1)) → (p + 1 < p1 ∧ p1 ≤ n) → ∀ a3 : xA, ∀ p3 : Int, (tC a3 t n p3) → (vLc a1 a3) → (a3 1 4 = 0) → (rSig t n p1 = (0, p3)) → (p1 < p3 ∧ p3 ≤ n) → ∀ a5 : xA, ∀ p5 : Int, (tC a5 t n p5) → (vLc a3 a5) → (a5 1 4 = 0) → (rSig t n p3 = (0, p5)) → (p3 < p5 ∧ p5 ≤ n) → (¬ sG t n p5 = 117) → Q (some (xV 1)) (xS a5 b))
    (k3 : (sG t n p = -1 ∨ p < n) → (rKd (sG t n p) = -1 ∨ 97 ≤ sG t n p) → (¬ rKd (sG t n p) = -1) → ∀ a1 : xA, ∀ p1 : Int, (tC a1 t n p1) → (vLc (xU (xU (xU a 1 3 (p + 1)) 33 3 7) 33 4 (rKd (sG t n p))) a1) → (a1 1 4 = 0) → (rSig t n (p + 1) = (0, p1)) → (p + 1 < p1 ∧ p1 ≤ n) → ∀ a3 : xA, ∀ p3 : Int, (tC a3 t n p3) → (vLc a1 a3) → (a3 1 4 = 0) → (rSig t n p1 = (0, p3)) → (p1 < p3 ∧ p3 ≤ n) → ∀ a6 : xA, ∀ f6 : Int, ∀ q6 : Int, (vLc a3 a6) → (a6 1 4 = f6) → (f6 < 0 ∧ -10000 < f6) → (rSig t n p3 = (f6, q6)) → Q (some (xV 0)) (xS a6 b))
    (k4 : (sG t n p = -1 ∨ p < n) → (rKd (sG t n p) = -1 ∨ 97 ≤ sG t n p) → (¬ rKd (sG t n p) = -1) → ∀ a1 : xA, ∀ p1 : Int, (tC a1 t n p1) → (vLc (xU (xU (xU a 1 3 (p + 1)) 33 3 7) 33 4 (rKd (sG t n p))) a1) → (a1 1 4 = 0) → (rSig t n (p + 1) = (0, p1)) → (p + 1 < p1 ∧ p1 ≤ n) → ∀ a4 : xA, ∀ f4 : Int, ∀ q4 : Int, (vLc a1 a4) → (a4 1 4 = f4) → (f4 < 0 ∧ -10000 < f4) → (rSig t n p1 = (f4, q4)) → Q (some (xV 0)) (xS a4 b))
    (k5 : (sG t n p = -1 ∨ p < n) → (rKd (sG t n p) = -1 ∨ 97 ≤ sG t n p) → (¬ rKd (sG t n p) = -1) → ∀ a2 : xA, ∀ f2 : Int, ∀ q2 : Int, (vLc (xU (xU (xU a 1 3 (p + 1)) 33 3 7) 33 4 (rKd (sG t n p))) a2) → (a2 1 4 = f2) → (f2 < 0 ∧ -10000 < f2) → (rSig t n (p + 1) = (f2, q2)) → Q (some (xV 0)) (xS a2 b))
    (k6 : (sG t n p = -1 ∨ p < n) → (rKd (sG t n p) = -1 ∨ 97 ≤ sG t n p) → (¬ ¬ rKd (sG t n p) = -1) → Q (some (xV 0)) (xS (xU a 1 4 (-1000 * 1 - p)) b)) :
    pmWp ro d 1 50 2 0 [some (.ref 33), none] [] (xS a b) Q := by
  refine x_aloadn xc50_0 rfl ?_
  refine x_gfr xc50_1 rfl rfl xz33 rfl ?_
  refine x_cV (as := []) (rest := []) xc50_4 rfl xi37 xz1 ⟨rfl, rfl⟩ rfl rfl ?_
  refine xk37 (by omega) hC (by omega) (by omega) hb hA (fun h0 => ?_)
  refine x_cS (as := [xV (sG t n p)]) (rest := []) xc50_7 rfl rfl xi51 ⟨rfl, rfl⟩ rfl rfl ?_
  refine xk51 (xRk (by have g0 := sGB (n := n) (p := p) hb (by omega); omega)) (by omega) (fun h1 => ?_)
  refine x_istoren (pl' := [some (.ref 33), some (xV (rKd (sG t n p)))]) xc50_10 rfl rfl ?_
  refine x_iloadn xc50_11 rfl ?_
  refine x_iconst xc50_12 ?_
  refine x_icne xc50_13 (xRk (by have g0 := rKdB (sG t n p); omega)) (xRk (by decide)) (fun h2 => ?_) (fun h2 => ?_)
  · refine x_aloadn xc50_25 rfl ?_
    refine x_gfr xc50_26 rfl rfl xz33 rfl ?_
    refine x_dup xc50_29 rfl ?_
    refine x_gfi' (k := 3) (v := p) xc50_30 rfl (Or.inl rfl) rfl xz1 hC.2.2 ?_
    refine x_iconst xc50_33 ?_
    refine x_iadd xc50_34 ?_
    refine x_pfi (k := 3) xc50_35 rfl ⟨rfl, rfl⟩ rfl xz1 ?_
    refine x_aloadn xc50_38 rfl ?_
    refine x_bipush xc50_39 (by decide) ?_
    refine x_pfi (k := 3) xc50_41 rfl ⟨rfl, rfl⟩ rfl xz33 ?_
    refine x_aloadn xc50_44 rfl ?_
    refine x_iloadn xc50_45 rfl ?_
    refine x_pfi (k := 4) xc50_46 rfl ⟨rfl, rfl⟩ rfl xz33 ?_
    refine x_aloadn xc50_49 rfl ?_
    refine x_iconst xc50_50 ?_
    refine x_iconst xc50_51 ?_
    refine x_cV (as := [xV 3, xV 0]) (rest := []) xc50_52 rfl xi52 xz33 ⟨rfl, rfl⟩ rfl rfl ?_
    refine xm52 (tC.ot (by decide) (by decide) (tC.ot (by decide) (by decide) (tC.at hC))) (by omega) (by omega) hb (xAr_u (xAr_u (xAr_u hA (xRk (by omega))) (xRk (by decide))) (xRk (by have g0 := rKdB (sG t n p); omega))) (by omega) (by omega) (by rw [xUn (by decide), xUn (by decide), xUk (by decide), hf]) (by omega) (fun a1 p1 h3 h4 h5 h6 h7 => ?_) (fun a2 f2 q2 h8 h9 h10 h11 => ?_)
    · refine x_ifeq xc50_55 (xRk (by decide)) (fun h => absurd h (by omega)) (fun _ => ?_)
      refine x_aloadn xc50_58 rfl ?_
      refine x_bipush xc50_59 (by decide) ?_
      refine x_iconst xc50_61 ?_
      refine x_cV (as := [xV 6, xV 1]) (rest := []) xc50_62 rfl xi52 xz33 ⟨rfl, rfl⟩ rfl rfl ?_
      refine xm52 h3 (by omega) (by omega) hb h4.1 (by omega) (by omega) h5 (by omega) (fun a3 p3 h13 h14 h15 h16 h17 => ?_) (fun a4 f4 q4 h18 h19 h20 h21 => ?_)
      · refine x_ifeq xc50_65 (xRk (by decide)) (fun h => absurd h (by omega)) (fun _ => ?_)
        refine x_aloadn xc50_68 rfl ?_
        refine x_bipush xc50_69 (by decide) ?_
        refine x_iconst xc50_71 ?_
        refine x_cV (as := [xV 9, xV 1]) (rest := []) xc50_72 rfl xi52 xz33 ⟨rfl, rfl⟩ rfl rfl ?_
        refine xm52 h13 (by omega) (by omega) hb h14.1 (by omega) (by omega) h15 (by omega) (fun a5 p5 h23 h24 h25 h26 h27 => ?_) (fun a6 f6 q6 h28 h29 h30 h31 => ?_)
        · refine x_ifne xc50_75 (xRk (by decide)) (fun _ => ?_) (fun h => absurd h (by omega))
          refine x_aloadn xc50_80 rfl ?_
          refine x_gfr xc50_81 rfl rfl xz33 rfl ?_
          refine x_bipush xc50_84 (by decide) ?_
          refine x_cV (as := [xV 117]) (rest := []) xc50_86 rfl xi44 xz1 ⟨rfl, rfl⟩ rfl rfl ?_
          refine xk44 h23 (by omega) (by omega) hb h24.1 (by omega) (by omega) (fun h33 h34 => ?_) (fun h35 => ?_)
          · refine x_ifeq xc50_89 (xRk (by decide)) (fun h => absurd h (by omega)) (fun _ => ?_)
            refine x_aloadn xc50_92 rfl ?_
            refine x_dup xc50_93 rfl ?_
            refine x_gfi' (k := 3) (v := a5 33 3) xc50_94 rfl (Or.inl rfl) rfl xz33 (by rw [xUn (by decide)]) ?_
            refine x_sipush xc50_97 (by decide) ?_
            refine x_ior xc50_100 ?_
            refine x_pfi (k := 3) xc50_101 rfl ⟨rfl, rfl⟩ rfl xz33 ?_
            refine x_aloadn xc50_104 rfl ?_
            refine x_dup xc50_105 rfl ?_
            refine x_gfi' (k := 4) (v := a5 33 4) xc50_106 rfl (Or.inl rfl) rfl xz33 (by rw [xUk (by decide), xUn (by decide)]) ?_
            refine x_sipush xc50_109 (by decide) ?_
            refine x_ior xc50_112 ?_
            refine x_pfi (k := 4) xc50_113 rfl ⟨rfl, rfl⟩ rfl xz33 ?_
            refine x_iconst xc50_116 ?_
            refine x_iret xc50_117 (Or.inr ⟨rfl, (by omega)⟩) ?_
            exact k1 h0 h1 h2 a1 p1 h3 h4 h5 h6 h7 a3 p3 h13 h14 h15 h16 h17 a5 p5 h23 h24 h25 h26 h27 h33 h34
          · refine x_ifeq xc50_89 (xRk (by decide)) (fun _ => ?_) (fun h => absurd h (by omega))
            refine x_iconst xc50_116 ?_
            refine x_iret xc50_117 (Or.inr ⟨rfl, (by omega)⟩) ?_
            exact k2 h0 h1 h2 a1 p1 h3 h4 h5 h6 h7 a3 p3 h13 h14 h15 h16 h17 a5 p5 h23 h24 h25 h26 h27 h35
        · refine x_ifne xc50_75 (xRk (by decide)) (fun h => absurd h (by omega)) (fun _ => ?_)
          refine x_iconst xc50_78 ?_
          refine x_iret xc50_79 (Or.inr ⟨rfl, (by omega)⟩) ?_
          exact k3 h0 h1 h2 a1 p1 h3 h4 h5 h6 h7 a3 p3 h13 h14 h15 h16 h17 a6 f6 q6 h28 h29 h30 h31
      · refine x_ifeq xc50_65 (xRk (by decide)) (fun _ => ?_) (fun h => absurd h (by omega))
        refine x_iconst xc50_78 ?_
        refine x_iret xc50_79 (Or.inr ⟨rfl, (by omega)⟩) ?_
        exact k4 h0 h1 h2 a1 p1 h3 h4 h5 h6 h7 a4 f4 q4 h18 h19 h20 h21
    · refine x_ifeq xc50_55 (xRk (by decide)) (fun _ => ?_) (fun h => absurd h (by omega))
      refine x_iconst xc50_78 ?_
      refine x_iret xc50_79 (Or.inr ⟨rfl, (by omega)⟩) ?_
      exact k5 h0 h1 h2 a2 f2 q2 h8 h9 h10 h11
  · refine x_aloadn xc50_16 rfl ?_
    refine x_gfr xc50_17 rfl rfl xz33 rfl ?_
    refine x_iconst xc50_20 ?_
    refine x_cV (as := [xV 1]) (rest := []) xc50_21 rfl xi39 xz1 ⟨rfl, rfl⟩ rfl rfl ?_
    refine xk39 hC (by omega) (by omega) hb hA (xRk (by decide)) (by omega) ?_
    refine x_iret xc50_24 (Or.inr ⟨rfl, (by omega)⟩) ?_
    exact k6 h0 h1 h2

theorem xm50 {ro : Nat → Nat × (Nat → Int32)} {d : Nat} {Q : Option Value → pmS → Prop} {a : xA} {b : xB} {t : Int → Int} {n p : Int} (hC : tC a t n p) (hp : 0 ≤ p ∧ p ≤ n) (hn : n ≤ 60) (hb : tB t) (hA : xAr a) (hf : a 1 4 = 0) (hd : 4 ≤ d)
    (hT : ∀ (a1 : xA) (p1 : Int), tC a1 t n p1 → vLc a a1 → a1 1 4 = 0 → rEv t n p = (0, p1) → p < p1 ∧ p1 ≤ n → Q (some (xV 1)) (xS a1 b))
    (hF : ∀ (a1 : xA) (f q : Int), vLc a a1 → a1 1 4 = f → f < 0 ∧ -10000 < f → rEv t n p = (f, q) → Q (some (xV 0)) (xS a1 b)) : pmCs ro d 50 [.ref 33] (xS a b) Q := by
  refine pmCs_deep (d := 4) (xg50 (wm50 hC hp hn hb hA hf (by decide) ?_ ?_ ?_ ?_ ?_ ?_)) hd
  · intro h0 h1 h2 a1 p1 h3 h4 h5 h6 h7 a3 p3 h13 h14 h15 h16 h17 a5 p5 h23 h24 h25 h26 h27 h33 h34
    first | (exfalso; omega) | exact hT _ (p5 + 1) (tC.ot (by decide) (by decide) (tC.ot (by decide) (by decide) (tC.at h23))) (vLc.u (xRk (by have g0 := xOrB (a5 33 4) 4096; omega)) (by omega) (by omega) (by omega) (by omega) (vLc.u (xRk (by have g0 := xOrB (a5 33 3) 4096; omega)) (by omega) (by omega) (by omega) (by omega) (vLc.u (xRk (by omega)) (by omega) (by omega) (by omega) (by omega) (vLc.tr (vLc.tr (vLc.tr (vLc.u (xRk (by have g0 := rKdB (sG t n p); omega)) (by omega) (by omega) (by omega) (by omega) (vLc.u (xRk (by decide)) (by omega) (by omega) (by omega) (by omega) (vLc.u (xRk (by omega)) (by omega) (by omega) (by omega) (by omega) (vLc.r hA)))) h4) h14) h24)))) (by rw [xUn (by decide), xUn (by decide), xUk (by decide), h25]) (by unfold rEv; (repeat (first | rw [rSeq_00] | rw [rSeq_as] | rw [rSeq_0 (by assumption)] | rw [rSeq_n (by assumption) (by omega)] | rw [if_neg (by omega)] | rw [if_pos (by omega)])); all_goals (repeat' split); all_goals (first | (exfalso; omega) | assumption | rfl)) (by omega)
  · intro h0 h1 h2 a1 p1 h3 h4 h5 h6 h7 a3 p3 h13 h14 h15 h16 h17 a5 p5 h23 h24 h25 h26 h27 h35
    first | (exfalso; omega) | exact hT _ (p5) h23 (vLc.tr (vLc.tr (vLc.tr (vLc.u (xRk (by have g0 := rKdB (sG t n p); omega)) (by omega) (by omega) (by omega) (by omega) (vLc.u (xRk (by decide)) (by omega) (by omega) (by omega) (by omega) (vLc.u (xRk (by omega)) (by omega) (by omega) (by omega) (by omega) (vLc.r hA)))) h4) h14) h24) h25 (by unfold rEv; (repeat (first | rw [rSeq_00] | rw [rSeq_as] | rw [rSeq_0 (by assumption)] | rw [rSeq_n (by assumption) (by omega)] | rw [if_neg (by omega)] | rw [if_pos (by omega)])); all_goals (repeat' split); all_goals (first | (exfalso; omega) | assumption | rfl)) (by omega)
  · intro h0 h1 h2 a1 p1 h3 h4 h5 h6 h7 a3 p3 h13 h14 h15 h16 h17 a6 f6 q6 h28 h29 h30 h31
    first | (exfalso; omega) | exact hF _ (f6) _ (vLc.tr (vLc.tr (vLc.tr (vLc.u (xRk (by have g0 := rKdB (sG t n p); omega)) (by omega) (by omega) (by omega) (by omega) (vLc.u (xRk (by decide)) (by omega) (by omega) (by omega) (by omega) (vLc.u (xRk (by omega)) (by omega) (by omega) (by omega) (by omega) (vLc.r hA)))) h4) h14) h28) h29 (by omega) (Prod.ext (by unfold rEv; (repeat (first | rw [rSeq_00] | rw [rSeq_as] | rw [rSeq_0 (by assumption)] | rw [rSeq_n (by assumption) (by omega)] | rw [if_neg (by omega)] | rw [if_pos (by omega)])); all_goals (repeat' split); all_goals (first | (exfalso; omega) | (dsimp only; exact rFst (by assumption)) | (dsimp only; omega) | omega)) rfl)
  · intro h0 h1 h2 a1 p1 h3 h4 h5 h6 h7 a4 f4 q4 h18 h19 h20 h21
    first | (exfalso; omega) | exact hF _ (f4) _ (vLc.tr (vLc.tr (vLc.u (xRk (by have g0 := rKdB (sG t n p); omega)) (by omega) (by omega) (by omega) (by omega) (vLc.u (xRk (by decide)) (by omega) (by omega) (by omega) (by omega) (vLc.u (xRk (by omega)) (by omega) (by omega) (by omega) (by omega) (vLc.r hA)))) h4) h18) h19 (by omega) (Prod.ext (by unfold rEv; (repeat (first | rw [rSeq_00] | rw [rSeq_as] | rw [rSeq_0 (by assumption)] | rw [rSeq_n (by assumption) (by omega)] | rw [if_neg (by omega)] | rw [if_pos (by omega)])); all_goals (repeat' split); all_goals (first | (exfalso; omega) | (dsimp only; exact rFst (by assumption)) | (dsimp only; omega) | omega)) rfl)
  · intro h0 h1 h2 a2 f2 q2 h8 h9 h10 h11
    first | (exfalso; omega) | exact hF _ (f2) _ (vLc.tr (vLc.u (xRk (by have g0 := rKdB (sG t n p); omega)) (by omega) (by omega) (by omega) (by omega) (vLc.u (xRk (by decide)) (by omega) (by omega) (by omega) (by omega) (vLc.u (xRk (by omega)) (by omega) (by omega) (by omega) (by omega) (vLc.r hA)))) h8) h9 (by omega) (Prod.ext (by unfold rEv; (repeat (first | rw [rSeq_00] | rw [rSeq_as] | rw [rSeq_0 (by assumption)] | rw [rSeq_n (by assumption) (by omega)] | rw [if_neg (by omega)] | rw [if_pos (by omega)])); all_goals (repeat' split); all_goals (first | (exfalso; omega) | (dsimp only; exact rFst (by assumption)) | (dsimp only; omega) | omega)) rfl)
  · intro h0 h1 h2
    first | (exfalso; omega) | exact hF _ (-1000 * 1 - p) _ (vLc.u (xRk (by omega)) (by omega) (by omega) (by omega) (by omega) (vLc.r hA)) (by rw [xUa]) (by omega) (Prod.ext (by unfold rEv; (repeat (first | rw [rSeq_00] | rw [rSeq_as] | rw [rSeq_0 (by assumption)] | rw [rSeq_n (by assumption) (by omega)] | rw [if_neg (by omega)] | rw [if_pos (by omega)])); all_goals (repeat' split); all_goals (first | (exfalso; omega) | (dsimp only; exact rFst (by assumption)) | (dsimp only; omega) | omega)) rfl)

theorem wm53 {ro : Nat → Nat × (Nat → Int32)} {d : Nat} {Q : Option Value → pmS → Prop} {a : xA} {b : xB} {t : Int → Int} {n p : Int} (hC : tC a t n p) (hp : 0 ≤ p ∧ p ≤ n) (hn : n ≤ 60) (hb : tB t) (hA : xAr a) (hf : a 1 4 = 0) (hd : 2 ≤ d)
    (k1 : (sG t n p = 44) → (p < n) → Q (some (xV 1)) (xS (xU a 1 3 (p + 1)) b))
    (k2 : (¬ sG t n p = 44) → Q (some (xV 0)) (xS (xU a 1 4 (-1000 * 1 - p)) b)) :
    pmWp ro d 1 53 2 0 [some (.ref 33)] [] (xS a b) Q := by
  refine x_aloadn xc53_0 rfl ?_
  refine x_gfr xc53_1 rfl rfl xz33 rfl ?_
  refine x_bipush xc53_4 (by decide) ?_
  refine x_cV (as := [xV 44]) (rest := []) xc53_6 rfl xi44 xz1 ⟨rfl, rfl⟩ rfl rfl ?_
  refine xk44 hC (by omega) (by omega) hb hA (by omega) (by omega) (fun h0 h1 => ?_) (fun h2 => ?_)
  · refine x_ifne xc53_9 (xRk (by decide)) (fun _ => ?_) (fun h => absurd h (by omega))
    refine x_iconst xc53_23 ?_
    refine x_goto xc53_24 ?_
    refine x_iret xc53_28 (Or.inr ⟨rfl, (by omega)⟩) ?_
    exact k1 h0 h1
  · refine x_ifne xc53_9 (xRk (by decide)) (fun h => absurd h (by omega)) (fun _ => ?_)
    refine x_aloadn xc53_12 rfl ?_
    refine x_gfr xc53_13 rfl rfl xz33 rfl ?_
    refine x_iconst xc53_16 ?_
    refine x_cV (as := [xV 1]) (rest := []) xc53_17 rfl xi39 xz1 ⟨rfl, rfl⟩ rfl rfl ?_
    refine xk39 hC (by omega) (by omega) hb hA (xRk (by decide)) (by omega) ?_
    refine x_ifeq xc53_20 (xRk (by decide)) (fun _ => ?_) (fun h => absurd h (by omega))
    refine x_iconst xc53_27 ?_
    refine x_iret xc53_28 (Or.inr ⟨rfl, (by omega)⟩) ?_
    exact k2 h2

theorem xm53 {ro : Nat → Nat × (Nat → Int32)} {d : Nat} {Q : Option Value → pmS → Prop} {a : xA} {b : xB} {t : Int → Int} {n p : Int} (hC : tC a t n p) (hp : 0 ≤ p ∧ p ≤ n) (hn : n ≤ 60) (hb : tB t) (hA : xAr a) (hf : a 1 4 = 0) (hd : 3 ≤ d)
    (hT : ∀ (a1 : xA) (p1 : Int), tC a1 t n p1 → vLc a a1 → a1 1 4 = 0 → rCom t n 44 p = (0, p1) → p < p1 ∧ p1 ≤ n → Q (some (xV 1)) (xS a1 b))
    (hF : ∀ (a1 : xA) (f q : Int), vLc a a1 → a1 1 4 = f → f < 0 ∧ -10000 < f → rCom t n 44 p = (f, q) → Q (some (xV 0)) (xS a1 b)) : pmCs ro d 53 [.ref 33] (xS a b) Q := by
  refine pmCs_deep (d := 3) (xg53 (wm53 hC hp hn hb hA hf (by decide) ?_ ?_)) hd
  · intro h0 h1
    first | (exfalso; omega) | exact hT _ (p + 1) (tC.at hC) (vLc.u (xRk (by omega)) (by omega) (by omega) (by omega) (by omega) (vLc.r hA)) (by rw [xUk (by decide), hf]) (by unfold rCom; (repeat (first | rw [rSeq_00] | rw [rSeq_as] | rw [rSeq_0 (by assumption)] | rw [rSeq_n (by assumption) (by omega)] | rw [if_neg (by omega)] | rw [if_pos (by omega)])); all_goals (repeat' split); all_goals (first | (exfalso; omega) | assumption | rfl)) (by omega)
  · intro h2
    first | (exfalso; omega) | exact hF _ (-1000 * 1 - p) _ (vLc.u (xRk (by omega)) (by omega) (by omega) (by omega) (by omega) (vLc.r hA)) (by rw [xUa]) (by omega) (Prod.ext (by unfold rCom; (repeat (first | rw [rSeq_00] | rw [rSeq_as] | rw [rSeq_0 (by assumption)] | rw [rSeq_n (by assumption) (by omega)] | rw [if_neg (by omega)] | rw [if_pos (by omega)])); all_goals (repeat' split); all_goals (first | (exfalso; omega) | (dsimp only; exact rFst (by assumption)) | (dsimp only; omega) | omega)) rfl)

theorem wm54 {ro : Nat → Nat × (Nat → Int32)} {d : Nat} {Q : Option Value → pmS → Prop} {a : xA} {b : xB} {t : Int → Int} {n p : Int} (hC : tC a t n p) (hp : 0 ≤ p ∧ p ≤ n) (hn : n ≤ 60) (hb : tB t) (hA : xAr a) (hf : a 1 4 = 0) {x : Int} (h_x : xR x) (hx : 0 ≤ x ∧ x < 24) (hd : 2 ≤ d)
    (k1 : (sG t n p < 48 ∨ 57 < sG t n p) → Q (some (xV 0)) (xS (xU a 1 4 (-1000 * 1 - p)) b))
    (k2 : (¬ (sG t n p < 48 ∨ 57 < sG t n p)) → (9 < sG t n p - 48) → Q (some (xV 0)) (xS (xU a 1 4 (-1000 * 3 - p)) b))
    (k3 : (¬ (sG t n p < 48 ∨ 57 < sG t n p)) → (¬ 9 < sG t n p - 48) → (p < n) → (¬ sG t n p - 48 = -1) → (¬ (sG t n (p + 1) < 48 ∨ 57 < sG t n (p + 1))) → (sG t n (p + 1) < 48 ∨ 57 < sG t n (p + 1)) → (¬ (sG t n (p + 1) < 48 ∨ 57 < sG t n (p + 1))) → Q (some (xV 0)) (xS (xU (xU (xU a 1 3 (p + 1)) 1 4 (-1000 * 1 - (p + 1))) 1 4 (-1000 * 2 - (p + 1))) b))
    (k4 : (¬ (sG t n p < 48 ∨ 57 < sG t n p)) → (¬ 9 < sG t n p - 48) → (p < n) → (¬ sG t n p - 48 = -1) → (¬ (sG t n (p + 1) < 48 ∨ 57 < sG t n (p + 1))) → (sG t n (p + 1) < 48 ∨ 57 < sG t n (p + 1)) → (sG t n (p + 1) < 48 ∨ 57 < sG t n (p + 1)) → Q (some (xV 1)) (xS (xU (xU (xU a 1 3 (p + 1)) 1 4 (-1000 * 1 - (p + 1))) 19 x (10 * (sG t n p - 48) + (-1))) b))
    (k5 : (¬ (sG t n p < 48 ∨ 57 < sG t n p)) → (¬ 9 < sG t n p - 48) → (p < n) → (¬ sG t n p - 48 = -1) → (¬ (sG t n (p + 1) < 48 ∨ 57 < sG t n (p + 1))) → (¬ (sG t n (p + 1) < 48 ∨ 57 < sG t n (p + 1))) → (9 < sG t n (p + 1) - 48) → (¬ (sG t n (p + 1) < 48 ∨ 57 < sG t n (p + 1))) → Q (some (xV 0)) (xS (xU (xU (xU a 1 3 (p + 1)) 1 4 (-1000 * 3 - (p + 1))) 1 4 (-1000 * 2 - (p + 1))) b))
    (k6 : (¬ (sG t n p < 48 ∨ 57 < sG t n p)) → (¬ 9 < sG t n p - 48) → (p < n) → (¬ sG t n p - 48 = -1) → (¬ (sG t n (p + 1) < 48 ∨ 57 < sG t n (p + 1))) → (¬ (sG t n (p + 1) < 48 ∨ 57 < sG t n (p + 1))) → (9 < sG t n (p + 1) - 48) → (sG t n (p + 1) < 48 ∨ 57 < sG t n (p + 1)) → Q (some (xV 1)) (xS (xU (xU (xU a 1 3 (p + 1)) 1 4 (-1000 * 3 - (p + 1))) 19 x (10 * (sG t n p - 48) + (-1))) b))
    (k7 : (¬ (sG t n p < 48 ∨ 57 < sG t n p)) → (¬ 9 < sG t n p - 48) → (p < n) → (¬ sG t n p - 48 = -1) → (¬ (sG t n (p + 1) < 48 ∨ 57 < sG t n (p + 1))) → (¬ (sG t n (p + 1) < 48 ∨ 57 < sG t n (p + 1))) → (¬ 9 < sG t n (p + 1) - 48) → (p + 1 < n) → (¬ (sG t n (p + 1 + 1) < 48 ∨ 57 < sG t n (p + 1 + 1))) → Q (some (xV 0)) (xS (xU (xU (xU a 1 3 (p + 1)) 1 3 (p + 1 + 1)) 1 4 (-1000 * 2 - (p + 1 + 1))) b))
    (k8 : (¬ (sG t n p < 48 ∨ 57 < sG t n p)) → (¬ 9 < sG t n p - 48) → (p < n) → (¬ sG t n p - 48 = -1) → (¬ (sG t n (p + 1) < 48 ∨ 57 < sG t n (p + 1))) → (¬ (sG t n (p + 1) < 48 ∨ 57 < sG t n (p + 1))) → (¬ 9 < sG t n (p + 1) - 48) → (p + 1 < n) → (sG t n (p + 1 + 1) < 48 ∨ 57 < sG t n (p + 1 + 1)) → Q (some (xV 1)) (xS (xU (xU (xU a 1 3 (p + 1)) 1 3 (p + 1 + 1)) 19 x (10 * (sG t n p - 48) + (sG t n (p + 1) - 48))) b))
    (k9 : (¬ (sG t n p < 48 ∨ 57 < sG t n p)) → (¬ 9 < sG t n p - 48) → (p < n) → (¬ sG t n p - 48 = -1) → (sG t n (p + 1) < 48 ∨ 57 < sG t n (p + 1)) → (¬ (sG t n (p + 1) < 48 ∨ 57 < sG t n (p + 1))) → Q (some (xV 0)) (xS (xU (xU a 1 3 (p + 1)) 1 4 (-1000 * 2 - (p + 1))) b))
    (k10 : (¬ (sG t n p < 48 ∨ 57 < sG t n p)) → (¬ 9 < sG t n p - 48) → (p < n) → (¬ sG t n p - 48 = -1) → (sG t n (p + 1) < 48 ∨ 57 < sG t n (p + 1)) → (sG t n (p + 1) < 48 ∨ 57 < sG t n (p + 1)) → Q (some (xV 1)) (xS (xU (xU a 1 3 (p + 1)) 19 x (sG t n p - 48)) b))
    (k11 : (¬ (sG t n p < 48 ∨ 57 < sG t n p)) → (¬ 9 < sG t n p - 48) → (p < n) → (¬ ¬ sG t n p - 48 = -1) → Q (some (xV 0)) (xS (xU a 1 3 (p + 1)) b)) :
    pmWp ro d 1 54 2 0 [some (.ref 33), some (xV x), none] [] (xS a b) Q := by
  refine x_aloadn xc54_0 rfl ?_
  refine x_gfr xc54_1 rfl rfl xz33 rfl ?_
  refine x_bipush xc54_4 (by decide) ?_
  refine x_cV (as := [xV 9]) (rest := []) xc54_6 rfl xi40 xz1 ⟨rfl, rfl⟩ rfl rfl ?_
  refine xk40 hC (by omega) (by omega) hb hA (xRk (by decide)) (by omega) (fun h0 => ?_) (fun h1 h2 => ?_) (fun h3 h4 h5 => ?_)
  · refine x_istoren (pl' := [some (.ref 33), some (xV x), some (xV (-1))]) xc54_9 rfl rfl ?_
    refine x_iloadn xc54_10 rfl ?_
    refine x_iconst xc54_11 ?_
    refine x_icne xc54_12 (xRk (by decide)) (xRk (by decide)) (fun h => absurd h (by omega)) (fun _ => ?_)
    refine x_iconst xc54_15 ?_
    refine x_iret xc54_16 (Or.inr ⟨rfl, (by omega)⟩) ?_
    exact k1 h0
  · refine x_istoren (pl' := [some (.ref 33), some (xV x), some (xV (-1))]) xc54_9 rfl rfl ?_
    refine x_iloadn xc54_10 rfl ?_
    refine x_iconst xc54_11 ?_
    refine x_icne xc54_12 (xRk (by decide)) (xRk (by decide)) (fun h => absurd h (by omega)) (fun _ => ?_)
    refine x_iconst xc54_15 ?_
    refine x_iret xc54_16 (Or.inr ⟨rfl, (by omega)⟩) ?_
    exact k2 h1 h2
  · refine x_istoren (pl' := [some (.ref 33), some (xV x), some (xV (sG t n p - 48))]) xc54_9 rfl rfl ?_
    refine x_iloadn xc54_10 rfl ?_
    refine x_iconst xc54_11 ?_
    refine x_icne xc54_12 (xRk (by have g0 := sGB (n := n) (p := p) hb (by omega); omega)) (xRk (by decide)) (fun h8 => ?_) (fun h8 => ?_)
    · refine x_aloadn xc54_17 rfl ?_
      refine x_gfr xc54_18 rfl rfl xz33 rfl ?_
      refine x_cV (as := []) (rest := []) xc54_21 rfl xi55 xz1 ⟨rfl, rfl⟩ rfl rfl ?_
      refine xk55 (tC.at hC) (by omega) (by omega) hb (xAr_u hA (xRk (by omega))) (by omega) (fun h9 => ?_) (fun h10 => ?_)
      · refine x_ifeq xc54_24 (xRk (by decide)) (fun h => absurd h (by omega)) (fun _ => ?_)
        refine x_bipush xc54_27 (by decide) ?_
        refine x_iloadn xc54_29 rfl ?_
        refine x_imul xc54_30 ?_
        refine x_aloadn xc54_31 rfl ?_
        refine x_gfr xc54_32 rfl rfl xz33 rfl ?_
        refine x_bipush xc54_35 (by decide) ?_
        refine x_cV (as := [xV 9]) (rest := [xV (10 * (sG t n p - 48))]) xc54_37 rfl xi40 xz1 ⟨rfl, rfl⟩ rfl rfl ?_
        refine xk40 (tC.at hC) (by omega) (by omega) hb (xAr_u hA (xRk (by omega))) (xRk (by decide)) (by omega) (fun h12 => ?_) (fun h13 h14 => ?_) (fun h15 h16 h17 => ?_)
        · refine x_iadd xc54_40 ?_
          refine x_istoren (pl' := [some (.ref 33), some (xV x), some (xV (10 * (sG t n p - 48) + (-1)))]) xc54_41 rfl rfl ?_
          refine x_aloadn xc54_42 rfl ?_
          refine x_gfr xc54_43 rfl rfl xz33 rfl ?_
          refine x_cV (as := []) (rest := []) xc54_46 rfl xi55 xz1 ⟨rfl, rfl⟩ rfl rfl ?_
          refine xk55 (tC.fl (tC.at hC)) (by omega) (by omega) hb (xAr_u (xAr_u hA (xRk (by omega))) (xRk (by omega))) (by omega) (fun h18 => ?_) (fun h19 => ?_)
          · refine x_ifeq xc54_49 (xRk (by decide)) (fun h => absurd h (by omega)) (fun _ => ?_)
            refine x_aloadn xc54_52 rfl ?_
            refine x_gfr xc54_53 rfl rfl xz33 rfl ?_
            refine x_iconst xc54_56 ?_
            refine x_cV (as := [xV 2]) (rest := []) xc54_57 rfl xi39 xz1 ⟨rfl, rfl⟩ rfl rfl ?_
            refine xk39 (tC.fl (tC.at hC)) (by omega) (by omega) hb (xAr_u (xAr_u hA (xRk (by omega))) (xRk (by omega))) (xRk (by decide)) (by omega) ?_
            refine x_iret xc54_60 (Or.inr ⟨rfl, (by omega)⟩) ?_
            exact k3 h3 h4 h5 h8 h9 h12 h18
          · refine x_ifeq xc54_49 (xRk (by decide)) (fun _ => ?_) (fun h => absurd h (by omega))
            refine x_aloadn xc54_61 rfl ?_
            refine x_gfr xc54_62 rfl rfl xz33 rfl ?_
            refine x_gfr xc54_65 rfl rfl xz13 rfl ?_
            refine x_iloadn xc54_68 rfl ?_
            refine x_iloadn xc54_69 rfl ?_
            refine x_ias xc54_70 xz19 (by have g0 := xRb h_x; omega) (by have g0 := xRb h_x; omega) (by have g0 := xRb h_x; omega) ?_
            refine x_iconst xc54_71 ?_
            refine x_iret xc54_72 (Or.inr ⟨rfl, (by omega)⟩) ?_
            exact k4 h3 h4 h5 h8 h9 h12 h19
        · refine x_iadd xc54_40 ?_
          refine x_istoren (pl' := [some (.ref 33), some (xV x), some (xV (10 * (sG t n p - 48) + (-1)))]) xc54_41 rfl rfl ?_
          refine x_aloadn xc54_42 rfl ?_
          refine x_gfr xc54_43 rfl rfl xz33 rfl ?_
          refine x_cV (as := []) (rest := []) xc54_46 rfl xi55 xz1 ⟨rfl, rfl⟩ rfl rfl ?_
          refine xk55 (tC.fl (tC.at hC)) (by omega) (by omega) hb (xAr_u (xAr_u hA (xRk (by omega))) (xRk (by omega))) (by omega) (fun h22 => ?_) (fun h23 => ?_)
          · refine x_ifeq xc54_49 (xRk (by decide)) (fun h => absurd h (by omega)) (fun _ => ?_)
            refine x_aloadn xc54_52 rfl ?_
            refine x_gfr xc54_53 rfl rfl xz33 rfl ?_
            refine x_iconst xc54_56 ?_
            refine x_cV (as := [xV 2]) (rest := []) xc54_57 rfl xi39 xz1 ⟨rfl, rfl⟩ rfl rfl ?_
            refine xk39 (tC.fl (tC.at hC)) (by omega) (by omega) hb (xAr_u (xAr_u hA (xRk (by omega))) (xRk (by omega))) (xRk (by decide)) (by omega) ?_
            refine x_iret xc54_60 (Or.inr ⟨rfl, (by omega)⟩) ?_
            exact k5 h3 h4 h5 h8 h9 h13 h14 h22
          · refine x_ifeq xc54_49 (xRk (by decide)) (fun _ => ?_) (fun h => absurd h (by omega))
            refine x_aloadn xc54_61 rfl ?_
            refine x_gfr xc54_62 rfl rfl xz33 rfl ?_
            refine x_gfr xc54_65 rfl rfl xz13 rfl ?_
            refine x_iloadn xc54_68 rfl ?_
            refine x_iloadn xc54_69 rfl ?_
            refine x_ias xc54_70 xz19 (by have g0 := xRb h_x; omega) (by have g0 := xRb h_x; omega) (by have g0 := xRb h_x; omega) ?_
            refine x_iconst xc54_71 ?_
            refine x_iret xc54_72 (Or.inr ⟨rfl, (by omega)⟩) ?_
            exact k6 h3 h4 h5 h8 h9 h13 h14 h23
        · refine x_iadd xc54_40 ?_
          refine x_istoren (pl' := [some (.ref 33), some (xV x), some (xV (10 * (sG t n p - 48) + (sG t n (p + 1) - 48)))]) xc54_41 rfl rfl ?_
          refine x_aloadn xc54_42 rfl ?_
          refine x_gfr xc54_43 rfl rfl xz33 rfl ?_
          refine x_cV (as := []) (rest := []) xc54_46 rfl xi55 xz1 ⟨rfl, rfl⟩ rfl rfl ?_
          refine xk55 (tC.at (tC.at hC)) (by omega) (by omega) hb (xAr_u (xAr_u hA (xRk (by omega))) (xRk (by omega))) (by omega) (fun h26 => ?_) (fun h27 => ?_)
          · refine x_ifeq xc54_49 (xRk (by decide)) (fun h => absurd h (by omega)) (fun _ => ?_)
            refine x_aloadn xc54_52 rfl ?_
            refine x_gfr xc54_53 rfl rfl xz33 rfl ?_
            refine x_iconst xc54_56 ?_
            refine x_cV (as := [xV 2]) (rest := []) xc54_57 rfl xi39 xz1 ⟨rfl, rfl⟩ rfl rfl ?_
            refine xk39 (tC.at (tC.at hC)) (by omega) (by omega) hb (xAr_u (xAr_u hA (xRk (by omega))) (xRk (by omega))) (xRk (by decide)) (by omega) ?_
            refine x_iret xc54_60 (Or.inr ⟨rfl, (by omega)⟩) ?_
            exact k7 h3 h4 h5 h8 h9 h15 h16 h17 h26
          · refine x_ifeq xc54_49 (xRk (by decide)) (fun _ => ?_) (fun h => absurd h (by omega))
            refine x_aloadn xc54_61 rfl ?_
            refine x_gfr xc54_62 rfl rfl xz33 rfl ?_
            refine x_gfr xc54_65 rfl rfl xz13 rfl ?_
            refine x_iloadn xc54_68 rfl ?_
            refine x_iloadn xc54_69 rfl ?_
            refine x_ias xc54_70 xz19 (by have g0 := xRb h_x; omega) (by have g0 := xRb h_x; omega) (by have g0 := xRb h_x; omega) ?_
            refine x_iconst xc54_71 ?_
            refine x_iret xc54_72 (Or.inr ⟨rfl, (by omega)⟩) ?_
            exact k8 h3 h4 h5 h8 h9 h15 h16 h17 h27
      · refine x_ifeq xc54_24 (xRk (by decide)) (fun _ => ?_) (fun h => absurd h (by omega))
        refine x_aloadn xc54_42 rfl ?_
        refine x_gfr xc54_43 rfl rfl xz33 rfl ?_
        refine x_cV (as := []) (rest := []) xc54_46 rfl xi55 xz1 ⟨rfl, rfl⟩ rfl rfl ?_
        refine xk55 (tC.at hC) (by omega) (by omega) hb (xAr_u hA (xRk (by omega))) (by omega) (fun h31 => ?_) (fun h32 => ?_)
        · refine x_ifeq xc54_49 (xRk (by decide)) (fun h => absurd h (by omega)) (fun _ => ?_)
          refine x_aloadn xc54_52 rfl ?_
          refine x_gfr xc54_53 rfl rfl xz33 rfl ?_
          refine x_iconst xc54_56 ?_
          refine x_cV (as := [xV 2]) (rest := []) xc54_57 rfl xi39 xz1 ⟨rfl, rfl⟩ rfl rfl ?_
          refine xk39 (tC.at hC) (by omega) (by omega) hb (xAr_u hA (xRk (by omega))) (xRk (by decide)) (by omega) ?_
          refine x_iret xc54_60 (Or.inr ⟨rfl, (by omega)⟩) ?_
          exact k9 h3 h4 h5 h8 h10 h31
        · refine x_ifeq xc54_49 (xRk (by decide)) (fun _ => ?_) (fun h => absurd h (by omega))
          refine x_aloadn xc54_61 rfl ?_
          refine x_gfr xc54_62 rfl rfl xz33 rfl ?_
          refine x_gfr xc54_65 rfl rfl xz13 rfl ?_
          refine x_iloadn xc54_68 rfl ?_
          refine x_iloadn xc54_69 rfl ?_
          refine x_ias xc54_70 xz19 (by have g0 := xRb h_x; omega) (by have g0 := xRb h_x; omega) (by have g0 := xRb h_x; omega) ?_
          refine x_iconst xc54_71 ?_
          refine x_iret xc54_72 (Or.inr ⟨rfl, (by omega)⟩) ?_
          exact k10 h3 h4 h5 h8 h10 h32
    · refine x_iconst xc54_15 ?_
      refine x_iret xc54_16 (Or.inr ⟨rfl, (by omega)⟩) ?_
      exact k11 h3 h4 h5 h8

theorem xm54 {ro : Nat → Nat × (Nat → Int32)} {d : Nat} {Q : Option Value → pmS → Prop} {a : xA} {b : xB} {t : Int → Int} {n p : Int} (hC : tC a t n p) (hp : 0 ≤ p ∧ p ≤ n) (hn : n ≤ 60) (hb : tB t) (hA : xAr a) {x : Int} (hx : 0 ≤ x ∧ x < 24) (hf : a 1 4 = 0) (hd : 3 ≤ d)
    (hT : ∀ (a1 : xA) (p1 : Int), tC a1 t n p1 → vLc a a1 → a1 1 4 = 0 → rNum t n p = (0, p1) → p < p1 ∧ p1 ≤ n → Q (some (xV 1)) (xS a1 b))
    (hF : ∀ (a1 : xA) (f q : Int), vLc a a1 → a1 1 4 = f → f < 0 ∧ -10000 < f → rNum t n p = (f, q) → Q (some (xV 0)) (xS a1 b)) : pmCs ro d 54 [.ref 33, xV x] (xS a b) Q := by
  refine pmCs_deep (d := 3) (xg54 (wm54 hC hp hn hb hA hf ⟨by omega, by omega⟩ hx (by decide) ?_ ?_ ?_ ?_ ?_ ?_ ?_ ?_ ?_ ?_ ?_)) hd
  · intro h0
    first | (exfalso; omega) | exact hF _ (-1000 * 1 - p) _ (vLc.u (xRk (by omega)) (by omega) (by omega) (by omega) (by omega) (vLc.r hA)) (by rw [xUa]) (by omega) (Prod.ext (by unfold rNum; (repeat (first | rw [rSeq_00] | rw [rSeq_as] | rw [rSeq_0 (by assumption)] | rw [rSeq_n (by assumption) (by omega)] | rw [if_neg (by omega)] | rw [if_pos (by omega)])); all_goals (repeat' split); all_goals (first | (exfalso; omega) | (dsimp only; exact rFst (by assumption)) | (dsimp only; omega) | omega)) rfl)
  · intro h1 h2
    first | (exfalso; omega) | exact hF _ (-1000 * 3 - p) _ (vLc.u (xRk (by omega)) (by omega) (by omega) (by omega) (by omega) (vLc.r hA)) (by rw [xUa]) (by omega) (Prod.ext (by unfold rNum; (repeat (first | rw [rSeq_00] | rw [rSeq_as] | rw [rSeq_0 (by assumption)] | rw [rSeq_n (by assumption) (by omega)] | rw [if_neg (by omega)] | rw [if_pos (by omega)])); all_goals (repeat' split); all_goals (first | (exfalso; omega) | (dsimp only; exact rFst (by assumption)) | (dsimp only; omega) | omega)) rfl)
  · intro h3 h4 h5 h8 h9 h12 h18
    first | (exfalso; omega) | exact hF _ (-1000 * 2 - (p + 1)) _ (vLc.u (xRk (by omega)) (by omega) (by omega) (by omega) (by omega) (vLc.u (xRk (by omega)) (by omega) (by omega) (by omega) (by omega) (vLc.u (xRk (by omega)) (by omega) (by omega) (by omega) (by omega) (vLc.r hA)))) (by rw [xUa]) (by omega) (Prod.ext (by unfold rNum; (repeat (first | rw [rSeq_00] | rw [rSeq_as] | rw [rSeq_0 (by assumption)] | rw [rSeq_n (by assumption) (by omega)] | rw [if_neg (by omega)] | rw [if_pos (by omega)])); all_goals (repeat' split); all_goals (first | (exfalso; omega) | (dsimp only; exact rFst (by assumption)) | (dsimp only; omega) | omega)) rfl)
  · intro h3 h4 h5 h8 h9 h12 h19
    first | (exfalso; omega) | exact hT _ (p + 1) (tC.ot (by decide) (by decide) (tC.fl (tC.at hC))) (vLc.u (xRk (by have g0 := sGB (n := n) (p := p) hb (by omega); omega)) (by omega) (by omega) (by omega) (by omega) (vLc.u (xRk (by omega)) (by omega) (by omega) (by omega) (by omega) (vLc.u (xRk (by omega)) (by omega) (by omega) (by omega) (by omega) (vLc.r hA)))) (by rw [xUn (by decide), xUa]) (by unfold rNum; (repeat (first | rw [rSeq_00] | rw [rSeq_as] | rw [rSeq_0 (by assumption)] | rw [rSeq_n (by assumption) (by omega)] | rw [if_neg (by omega)] | rw [if_pos (by omega)])); all_goals (repeat' split); all_goals (first | (exfalso; omega) | assumption | rfl)) (by omega)
  · intro h3 h4 h5 h8 h9 h13 h14 h22
    first | (exfalso; omega) | exact hF _ (-1000 * 2 - (p + 1)) _ (vLc.u (xRk (by omega)) (by omega) (by omega) (by omega) (by omega) (vLc.u (xRk (by omega)) (by omega) (by omega) (by omega) (by omega) (vLc.u (xRk (by omega)) (by omega) (by omega) (by omega) (by omega) (vLc.r hA)))) (by rw [xUa]) (by omega) (Prod.ext (by unfold rNum; (repeat (first | rw [rSeq_00] | rw [rSeq_as] | rw [rSeq_0 (by assumption)] | rw [rSeq_n (by assumption) (by omega)] | rw [if_neg (by omega)] | rw [if_pos (by omega)])); all_goals (repeat' split); all_goals (first | (exfalso; omega) | (dsimp only; exact rFst (by assumption)) | (dsimp only; omega) | omega)) rfl)
  · intro h3 h4 h5 h8 h9 h13 h14 h23
    first | (exfalso; omega) | exact hT _ (p + 1) (tC.ot (by decide) (by decide) (tC.fl (tC.at hC))) (vLc.u (xRk (by have g0 := sGB (n := n) (p := p) hb (by omega); omega)) (by omega) (by omega) (by omega) (by omega) (vLc.u (xRk (by omega)) (by omega) (by omega) (by omega) (by omega) (vLc.u (xRk (by omega)) (by omega) (by omega) (by omega) (by omega) (vLc.r hA)))) (by rw [xUn (by decide), xUa]) (by unfold rNum; (repeat (first | rw [rSeq_00] | rw [rSeq_as] | rw [rSeq_0 (by assumption)] | rw [rSeq_n (by assumption) (by omega)] | rw [if_neg (by omega)] | rw [if_pos (by omega)])); all_goals (repeat' split); all_goals (first | (exfalso; omega) | assumption | rfl)) (by omega)
  · intro h3 h4 h5 h8 h9 h15 h16 h17 h26
    first | (exfalso; omega) | exact hF _ (-1000 * 2 - (p + 1 + 1)) _ (vLc.u (xRk (by omega)) (by omega) (by omega) (by omega) (by omega) (vLc.u (xRk (by omega)) (by omega) (by omega) (by omega) (by omega) (vLc.u (xRk (by omega)) (by omega) (by omega) (by omega) (by omega) (vLc.r hA)))) (by rw [xUa]) (by omega) (Prod.ext (by unfold rNum; (repeat (first | rw [rSeq_00] | rw [rSeq_as] | rw [rSeq_0 (by assumption)] | rw [rSeq_n (by assumption) (by omega)] | rw [if_neg (by omega)] | rw [if_pos (by omega)])); all_goals (repeat' split); all_goals (first | (exfalso; omega) | (dsimp only; exact rFst (by assumption)) | (dsimp only; omega) | omega)) rfl)
  · intro h3 h4 h5 h8 h9 h15 h16 h17 h27
    first | (exfalso; omega) | exact hT _ (p + 1 + 1) (tC.ot (by decide) (by decide) (tC.at (tC.at hC))) (vLc.u (xRk (by have g0 := sGB (n := n) (p := p) hb (by omega); have g1 := sGB (n := n) (p := p + 1) hb (by omega); omega)) (by omega) (by omega) (by omega) (by omega) (vLc.u (xRk (by omega)) (by omega) (by omega) (by omega) (by omega) (vLc.u (xRk (by omega)) (by omega) (by omega) (by omega) (by omega) (vLc.r hA)))) (by rw [xUn (by decide), xUk (by decide), xUk (by decide), hf]) (by unfold rNum; (repeat (first | rw [rSeq_00] | rw [rSeq_as] | rw [rSeq_0 (by assumption)] | rw [rSeq_n (by assumption) (by omega)] | rw [if_neg (by omega)] | rw [if_pos (by omega)])); all_goals (repeat' split); all_goals (first | (exfalso; omega) | assumption | rfl)) (by omega)
  · intro h3 h4 h5 h8 h10 h31
    first | (exfalso; omega) | exact hF _ (-1000 * 2 - (p + 1)) _ (vLc.u (xRk (by omega)) (by omega) (by omega) (by omega) (by omega) (vLc.u (xRk (by omega)) (by omega) (by omega) (by omega) (by omega) (vLc.r hA))) (by rw [xUa]) (by omega) (Prod.ext (by unfold rNum; (repeat (first | rw [rSeq_00] | rw [rSeq_as] | rw [rSeq_0 (by assumption)] | rw [rSeq_n (by assumption) (by omega)] | rw [if_neg (by omega)] | rw [if_pos (by omega)])); all_goals (repeat' split); all_goals (first | (exfalso; omega) | (dsimp only; exact rFst (by assumption)) | (dsimp only; omega) | omega)) rfl)
  · intro h3 h4 h5 h8 h10 h32
    first | (exfalso; omega) | exact hT _ (p + 1) (tC.ot (by decide) (by decide) (tC.at hC)) (vLc.u (xRk (by have g0 := sGB (n := n) (p := p) hb (by omega); omega)) (by omega) (by omega) (by omega) (by omega) (vLc.u (xRk (by omega)) (by omega) (by omega) (by omega) (by omega) (vLc.r hA))) (by rw [xUn (by decide), xUk (by decide), hf]) (by unfold rNum; (repeat (first | rw [rSeq_00] | rw [rSeq_as] | rw [rSeq_0 (by assumption)] | rw [rSeq_n (by assumption) (by omega)] | rw [if_neg (by omega)] | rw [if_pos (by omega)])); all_goals (repeat' split); all_goals (first | (exfalso; omega) | assumption | rfl)) (by omega)
  · intro h3 h4 h5 h8
    first | (exfalso; omega) | exact hF _ (0) _ (vLc.u (xRk (by omega)) (by omega) (by omega) (by omega) (by omega) (vLc.r hA)) (by rw [xUk (by decide), hf]) (by omega) (Prod.ext (by unfold rNum; (repeat (first | rw [rSeq_00] | rw [rSeq_as] | rw [rSeq_0 (by assumption)] | rw [rSeq_n (by assumption) (by omega)] | rw [if_neg (by omega)] | rw [if_pos (by omega)])); all_goals (repeat' split); all_goals (first | (exfalso; omega) | (dsimp only; exact rFst (by assumption)) | (dsimp only; omega) | omega)) rfl)

theorem wm49 {ro : Nat → Nat × (Nat → Int32)} {d : Nat} {Q : Option Value → pmS → Prop} {a : xA} {b : xB} {t : Int → Int} {n p : Int} (hC : tC a t n p) (hp : 0 ≤ p ∧ p ≤ n) (hn : n ≤ 60) (hb : tB t) (hA : xAr a) (hf : a 1 4 = 0) {c m : Int} (hc : a 33 2 = c) (hm : a 13 7 = m) (hc0 : 0 ≤ c ∧ c ≤ 4) (hm0 : 0 ≤ m ∧ m < 6) (hd : 4 ≤ d)
    (k1 : (sG t n p = -1 ∨ p < n) → (sG t n p = 110) → (4 ≤ c) → Q (some (xV 0)) (xS (xU a 1 4 (-1000 * 4 - p)) b))
    (k2 : (sG t n p = -1 ∨ p < n) → (sG t n p = 110) → (¬ 4 ≤ c) → (m * 4 + c < 24) → ∀ a1 : xA, ∀ p1 : Int, (tC a1 t n p1) → (vLc (xU (xU (xU a 1 3 (p + 1)) 33 2 (c + 1)) 14 (m * 4 + c) (sG t n p)) a1) → (a1 1 4 = 0) → (rEv t n (p + 1) = (0, p1)) → (p + 1 < p1 ∧ p1 ≤ n) → Q (some (xV 1)) (xS (xU (xU a1 15 (m * 4 + c) (a1 33 3)) 16 (m * 4 + c) (a1 33 4)) b))
    (k3 : (sG t n p = -1 ∨ p < n) → (sG t n p = 110) → (¬ 4 ≤ c) → (m * 4 + c < 24) → ∀ a2 : xA, ∀ f2 : Int, ∀ q2 : Int, (vLc (xU (xU (xU a 1 3 (p + 1)) 33 2 (c + 1)) 14 (m * 4 + c) (sG t n p)) a2) → (a2 1 4 = f2) → (f2 < 0 ∧ -10000 < f2) → (rEv t n (p + 1) = (f2, q2)) → Q (some (xV 0)) (xS a2 b))
    (k4 : (sG t n p = -1 ∨ p < n) → (sG t n p = 110) → (¬ 4 ≤ c) → (¬ m * 4 + c < 24) → Q (some (xV 0)) (xS (xU a 1 4 (-1000 * 4 - p)) b))
    (k5 : (sG t n p = -1 ∨ p < n) → (¬ sG t n p = 110) → (sG t n p = 97) → (4 ≤ c) → Q (some (xV 0)) (xS (xU a 1 4 (-1000 * 4 - p)) b))
    (k6 : (sG t n p = -1 ∨ p < n) → (¬ sG t n p = 110) → (sG t n p = 97) → (¬ 4 ≤ c) → (m * 4 + c < 24) → ∀ a3 : xA, ∀ p3 : Int, (tC a3 t n p3) → (vLc (xU (xU (xU a 1 3 (p + 1)) 33 2 (c + 1)) 14 (m * 4 + c) (sG t n p)) a3) → (a3 1 4 = 0) → (rEv t n (p + 1) = (0, p3)) → (p + 1 < p3 ∧ p3 ≤ n) → ∀ a5 : xA, ∀ p5 : Int, (tC a5 t n p5) → (vLc (xU (xU a3 15 (m * 4 + c) (a3 33 3)) 16 (m * 4 + c) (a3 33 4)) a5) → (a5 1 4 = 0) → (rCom t n 44 p3 = (0, p5)) → (p3 < p5 ∧ p5 ≤ n) → ∀ a7 : xA, ∀ p7 : Int, (tC a7 t n p7) → (vLc a5 a7) → (a7 1 4 = 0) → (rEv t n p5 = (0, p7)) → (p5 < p7 ∧ p7 ≤ n) → Q (some (xV 1)) (xS (xU (xU a7 17 (m * 4 + c) (a7 33 3)) 18 (m * 4 + c) (a7 33 4)) b))
    (k7 : (sG t n p = -1 ∨ p < n) → (¬ sG t n p = 110) → (sG t n p = 97) → (¬ 4 ≤ c) → (m * 4 + c < 24) → ∀ a3 : xA, ∀ p3 : Int, (tC a3 t n p3) → (vLc (xU (xU (xU a 1 3 (p + 1)) 33 2 (c + 1)) 14 (m * 4 + c) (sG t n p)) a3) → (a3 1 4 = 0) → (rEv t n (p + 1) = (0, p3)) → (p + 1 < p3 ∧ p3 ≤ n) → ∀ a5 : xA, ∀ p5 : Int, (tC a5 t n p5) → (vLc (xU (xU a3 15 (m * 4 + c) (a3 33 3)) 16 (m * 4 + c) (a3 33 4)) a5) → (a5 1 4 = 0) → (rCom t n 44 p3 = (0, p5)) → (p3 < p5 ∧ p5 ≤ n) → ∀ a8 : xA, ∀ f8 : Int, ∀ q8 : Int, (vLc a5 a8) → (a8 1 4 = f8) → (f8 < 0 ∧ -10000 < f8) → (rEv t n p5 = (f8, q8)) → Q (some (xV 0)) (xS a8 b))
    (k8 : (sG t n p = -1 ∨ p < n) → (¬ sG t n p = 110) → (sG t n p = 97) → (¬ 4 ≤ c) → (m * 4 + c < 24) → ∀ a3 : xA, ∀ p3 : Int, (tC a3 t n p3) → (vLc (xU (xU (xU a 1 3 (p + 1)) 33 2 (c + 1)) 14 (m * 4 + c) (sG t n p)) a3) → (a3 1 4 = 0) → (rEv t n (p + 1) = (0, p3)) → (p + 1 < p3 ∧ p3 ≤ n) → ∀ a6 : xA, ∀ f6 : Int, ∀ q6 : Int, (vLc (xU (xU a3 15 (m * 4 + c) (a3 33 3)) 16 (m * 4 + c) (a3 33 4)) a6) → (a6 1 4 = f6) → (f6 < 0 ∧ -10000 < f6) → (rCom t n 44 p3 = (f6, q6)) → Q (some (xV 0)) (xS a6 b))
    (k9 : (sG t n p = -1 ∨ p < n) → (¬ sG t n p = 110) → (sG t n p = 97) → (¬ 4 ≤ c) → (m * 4 + c < 24) → ∀ a4 : xA, ∀ f4 : Int, ∀ q4 : Int, (vLc (xU (xU (xU a 1 3 (p + 1)) 33 2 (c + 1)) 14 (m * 4 + c) (sG t n p)) a4) → (a4 1 4 = f4) → (f4 < 0 ∧ -10000 < f4) → (rEv t n (p + 1) = (f4, q4)) → Q (some (xV 0)) (xS a4 b))
    (k10 : (sG t n p = -1 ∨ p < n) → (¬ sG t n p = 110) → (sG t n p = 97) → (¬ 4 ≤ c) → (¬ m * 4 + c < 24) → Q (some (xV 0)) (xS (xU a 1 4 (-1000 * 4 - p)) b))
    (k11 : (sG t n p = -1 ∨ p < n) → (¬ sG t n p = 110) → (¬ sG t n p = 97) → (sG t n p = 114) → (4 ≤ c) → Q (some (xV 0)) (xS (xU a 1 4 (-1000 * 4 - p)) b))
    (k12 : (sG t n p = -1 ∨ p < n) → (¬ sG t n p = 110) → (¬ sG t n p = 97) → (sG t n p = 114) → (¬ 4 ≤ c) → (m * 4 + c < 24) → ∀ a9 : xA, ∀ p9 : Int, (tC a9 t n p9) → (vLc (xU (xU (xU a 1 3 (p + 1)) 33 2 (c + 1)) 14 (m * 4 + c) (sG t n p)) a9) → (a9 1 4 = 0) → (rEv t n (p + 1) = (0, p9)) → (p + 1 < p9 ∧ p9 ≤ n) → ∀ a11 : xA, ∀ p11 : Int, (tC a11 t n p11) → (vLc (xU (xU a9 15 (m * 4 + c) (a9 33 3)) 16 (m * 4 + c) (a9 33 4)) a11) → (a11 1 4 = 0) → (rCom t n 44 p9 = (0, p11)) → (p9 < p11 ∧ p11 ≤ n) → ∀ a13 : xA, ∀ p13 : Int, (tC a13 t n p13) → (vLc a11 a13) → (a13 1 4 = 0) → (rEv t n p11 = (0, p13)) → (p11 < p13 ∧ p13 ≤ n) → ∀ a15 : xA, ∀ p15 : Int, (tC a15 t n p15) → (vLc (xU (xU a13 17 (m * 4 + c) (a13 33 3)) 18 (m * 4 + c) (a13 33 4)) a15) → (a15 1 4 = 0) → (rCom t n 44 p13 = (0, p15)) → (p13 < p15 ∧ p15 ≤ n) → ∀ a17 : xA, ∀ p17 : Int, (tC a17 t n p17) → (vLc a15 a17) → (a17 1 4 = 0) → (rNum t n p15 = (0, p17)) → (p15 < p17 ∧ p17 ≤ n) → Q (some (xV 1)) (xS a17 b))
    (k13 : (sG t n p = -1 ∨ p < n) → (¬ sG t n p = 110) → (¬ sG t n p = 97) → (sG t n p = 114) → (¬ 4 ≤ c) → (m * 4 + c < 24) → ∀ a9 : xA, ∀ p9 : Int, (tC a9 t n p9) → (vLc (xU (xU (xU a 1 3 (p + 1)) 33 2 (c + 1)) 14 (m * 4 + c) (sG t n p)) a9) → (a9 1 4 = 0) → (rEv t n (p + 1) = (0, p9)) → (p + 1 < p9 ∧ p9 ≤ n) → ∀ a11 : xA, ∀ p11 : Int, (tC a11 t n p11) → (vLc (xU (xU a9 15 (m * 4 + c) (a9 33 3)) 16 (m * 4 + c) (a9 33 4)) a11) → (a11 1 4 = 0) → (rCom t n 44 p9 = (0, p11)) → (p9 < p11 ∧ p11 ≤ n) → ∀ a13 : xA, ∀ p13 : Int, (tC a13 t n p13) → (vLc a11 a13) → (a13 1 4 = 0) → (rEv t n p11 = (0, p13)) → (p11 < p13 ∧ p13 ≤ n) → ∀ a15 : xA, ∀ p15 : Int, (tC a15 t n p15) → (vLc (xU (xU a13 17 (m * 4 + c) (a13 33 3)) 18 (m * 4 + c) (a13 33 4)) a15) → (a15 1 4 = 0) → (rCom t n 44 p13 = (0, p15)) → (p13 < p15 ∧ p15 ≤ n) → ∀ a18 : xA, ∀ f18 : Int, ∀ q18 : Int, (vLc a15 a18) → (a18 1 4 = f18) → (f18 < 0 ∧ -10000 < f18) → (rNum t n p15 = (f18, q18)) → Q (some (xV 0)) (xS a18 b))
    (k14 : (sG t n p = -1 ∨ p < n) → (¬ sG t n p = 110) → (¬ sG t n p = 97) → (sG t n p = 114) → (¬ 4 ≤ c) → (m * 4 + c < 24) → ∀ a9 : xA, ∀ p9 : Int, (tC a9 t n p9) → (vLc (xU (xU (xU a 1 3 (p + 1)) 33 2 (c + 1)) 14 (m * 4 + c) (sG t n p)) a9) → (a9 1 4 = 0) → (rEv t n (p + 1) = (0, p9)) → (p + 1 < p9 ∧ p9 ≤ n) → ∀ a11 : xA, ∀ p11 : Int, (tC a11 t n p11) → (vLc (xU (xU a9 15 (m * 4 + c) (a9 33 3)) 16 (m * 4 + c) (a9 33 4)) a11) → (a11 1 4 = 0) → (rCom t n 44 p9 = (0, p11)) → (p9 < p11 ∧ p11 ≤ n) → ∀ a13 : xA, ∀ p13 : Int, (tC a13 t n p13) → (vLc a11 a13) → (a13 1 4 = 0) → (rEv t n p11 = (0, p13)) → (p11 < p13 ∧ p13 ≤ n) → ∀ a16 : xA, ∀ f16 : Int, ∀ q16 : Int, (vLc (xU (xU a13 17 (m * 4 + c) (a13 33 3)) 18 (m * 4 + c) (a13 33 4)) a16) → (a16 1 4 = f16) → (f16 < 0 ∧ -10000 < f16) → (rCom t n 44 p13 = (f16, q16)) → Q (some (xV 0)) (xS a16 b))
    (k15 : (sG t n p = -1 ∨ p < n) → (¬ sG t n p = 110) → (¬ sG t n p = 97) → (sG t n p = 114) → (¬ 4 ≤ c) → (m * 4 + c < 24) → ∀ a9 : xA, ∀ p9 : Int, (tC a9 t n p9) → (vLc (xU (xU (xU a 1 3 (p + 1)) 33 2 (c + 1)) 14 (m * 4 + c) (sG t n p)) a9) → (a9 1 4 = 0) → (rEv t n (p + 1) = (0, p9)) → (p + 1 < p9 ∧ p9 ≤ n) → ∀ a11 : xA, ∀ p11 : Int, (tC a11 t n p11) → (vLc (xU (xU a9 15 (m * 4 + c) (a9 33 3)) 16 (m * 4 + c) (a9 33 4)) a11) → (a11 1 4 = 0) → (rCom t n 44 p9 = (0, p11)) → (p9 < p11 ∧ p11 ≤ n) → ∀ a14 : xA, ∀ f14 : Int, ∀ q14 : Int, (vLc a11 a14) → (a14 1 4 = f14) → (f14 < 0 ∧ -10000 < f14) → (rEv t n p11 = (f14, q14)) → Q (some (xV 0)) (xS a14 b))
    (k16 : (sG t n p = -1 ∨ p < n) → (¬ sG t n p = 110) → (¬ sG t n p = 97) → (sG t n p = 114) → (¬ 4 ≤ c) → (m * 4 + c < 24) → ∀ a9 : xA, ∀ p9 : Int, (tC a9 t n p9) → (vLc (xU (xU (xU a 1 3 (p + 1)) 33 2 (c + 1)) 14 (m * 4 + c) (sG t n p)) a9) → (a9 1 4 = 0) → (rEv t n (p + 1) = (0, p9)) → (p + 1 < p9 ∧ p9 ≤ n) → ∀ a12 : xA, ∀ f12 : Int, ∀ q12 : Int, (vLc (xU (xU a9 15 (m * 4 + c) (a9 33 3)) 16 (m * 4 + c) (a9 33 4)) a12) → (a12 1 4 = f12) → (f12 < 0 ∧ -10000 < f12) → (rCom t n 44 p9 = (f12, q12)) → Q (some (xV 0)) (xS a12 b))
    (k17 : (sG t n p = -1 ∨ p < n) → (¬ sG t n p = 110) → (¬ sG t n p = 97) → (sG t n p = 114) → (¬ 4 ≤ c) → (m * 4 + c < 24) → ∀ a10 : xA, ∀ f10 : Int, ∀ q10 : Int, (vLc (xU (xU (xU a 1 3 (p + 1)) 33 2 (c + 1)) 14 (m * 4 + c) (sG t n p)) a10) → (a10 1 4 = f10) → (f10 < 0 ∧ -10000 < f10) → (rEv t n (p + 1) = (f10, q10)) → Q (some (xV 0)) (xS a10 b))
    (k18 : (sG t n p = -1 ∨ p < n) → (¬ sG t n p = 110) → (¬ sG t n p = 97) → (sG t n p = 114) → (¬ 4 ≤ c) → (¬ m * 4 + c < 24) → Q (some (xV 0)) (xS (xU a 1 4 (-1000 * 4 - p)) b))
    (k19 : (sG t n p = -1 ∨ p < n) → (¬ sG t n p = 110) → (¬ sG t n p = 97) → (¬ sG t n p = 114) → (sG t n p = 101) → (4 ≤ c) → Q (some (xV 0)) (xS (xU a 1 4 (-1000 * 4 - p)) b))
    (k20 : (sG t n p = -1 ∨ p < n) → (¬ sG t n p = 110) → (¬ sG t n p = 97) → (¬ sG t n p = 114) → (sG t n p = 101) → (¬ 4 ≤ c) → (m * 4 + c < 24) → ∀ a19 : xA, ∀ p19 : Int, (tC a19 t n p19) → (vLc (xU (xU (xU a 1 3 (p + 1)) 33 2 (c + 1)) 14 (m * 4 + c) (sG t n p)) a19) → (a19 1 4 = 0) → (rEv t n (p + 1) = (0, p19)) → (p + 1 < p19 ∧ p19 ≤ n) → ∀ a21 : xA, ∀ p21 : Int, (tC a21 t n p21) → (vLc (xU (xU a19 15 (m * 4 + c) (a19 33 3)) 16 (m * 4 + c) (a19 33 4)) a21) → (a21 1 4 = 0) → (rCom t n 44 p19 = (0, p21)) → (p19 < p21 ∧ p21 ≤ n) → ∀ a23 : xA, ∀ p23 : Int, (tC a23 t n p23) → (vLc a21 a23) → (a23 1 4 = 0) → (rNum t n p21 = (0, p23)) → (p21 < p23 ∧ p23 ≤ n) → Q (some (xV 1)) (xS a23 b))
    (k21 : (sG t n p = -1 ∨ p < n) → (¬ sG t n p = 110) → (¬ sG t n p = 97) → (¬ sG t n p = 114) → (sG t n p = 101) → (¬ 4 ≤ c) → (m * 4 + c < 24) → ∀ a19 : xA, ∀ p19 : Int, (tC a19 t n p19) → (vLc (xU (xU (xU a 1 3 (p + 1)) 33 2 (c + 1)) 14 (m * 4 + c) (sG t n p)) a19) → (a19 1 4 = 0) → (rEv t n (p + 1) = (0, p19)) → (p + 1 < p19 ∧ p19 ≤ n) → ∀ a21 : xA, ∀ p21 : Int, (tC a21 t n p21) → (vLc (xU (xU a19 15 (m * 4 + c) (a19 33 3)) 16 (m * 4 + c) (a19 33 4)) a21) → (a21 1 4 = 0) → (rCom t n 44 p19 = (0, p21)) → (p19 < p21 ∧ p21 ≤ n) → ∀ a24 : xA, ∀ f24 : Int, ∀ q24 : Int, (vLc a21 a24) → (a24 1 4 = f24) → (f24 < 0 ∧ -10000 < f24) → (rNum t n p21 = (f24, q24)) → Q (some (xV 0)) (xS a24 b))
    (k22 : (sG t n p = -1 ∨ p < n) → (¬ sG t n p = 110) → (¬ sG t n p = 97) → (¬ sG t n p = 114) → (sG t n p = 101) → (¬ 4 ≤ c) → (m * 4 + c < 24) → ∀ a19 : xA, ∀ p19 : Int, (tC a19 t n p19) → (vLc (xU (xU (xU a 1 3 (p + 1)) 33 2 (c + 1)) 14 (m * 4 + c) (sG t n p)) a19) → (a19 1 4 = 0) → (rEv t n (p + 1) = (0, p19)) → (p + 1 < p19 ∧ p19 ≤ n) → ∀ a22 : xA, ∀ f22 : Int, ∀ q22 : Int, (vLc (xU (xU a19 15 (m * 4 + c) (a19 33 3)) 16 (m * 4 + c) (a19 33 4)) a22) → (a22 1 4 = f22) → (f22 < 0 ∧ -10000 < f22) → (rCom t n 44 p19 = (f22, q22)) → Q (some (xV 0)) (xS a22 b))
    (k23 : (sG t n p = -1 ∨ p < n) → (¬ sG t n p = 110) → (¬ sG t n p = 97) → (¬ sG t n p = 114) → (sG t n p = 101) → (¬ 4 ≤ c) → (m * 4 + c < 24) → ∀ a20 : xA, ∀ f20 : Int, ∀ q20 : Int, (vLc (xU (xU (xU a 1 3 (p + 1)) 33 2 (c + 1)) 14 (m * 4 + c) (sG t n p)) a20) → (a20 1 4 = f20) → (f20 < 0 ∧ -10000 < f20) → (rEv t n (p + 1) = (f20, q20)) → Q (some (xV 0)) (xS a20 b))
    (k24 : (sG t n p = -1 ∨ p < n) → (¬ sG t n p = 110) → (¬ sG t n p = 97) → (¬ sG t n p = 114) → (sG t n p = 101) → (¬ 4 ≤ c) → (¬ m * 4 + c < 24) → Q (some (xV 0)) (xS (xU a 1 4 (-1000 * 4 - p)) b))
    (k25 : (sG t n p = -1 ∨ p < n) → (¬ sG t n p = 110) → (¬ sG t n p = 97) → (¬ sG t n p = 114) → (¬ sG t n p = 101) → Q (some (xV 0)) (xS (xU a 1 4 (-1000 * 1 - p)) b)) :
    pmWp ro d 1 49 2 0 [some (.ref 33), none, none] [] (xS a b) Q := by
  refine x_aloadn xc49_0 rfl ?_
  refine x_gfr xc49_1 rfl rfl xz33 rfl ?_
  refine x_cV (as := []) (rest := []) xc49_4 rfl xi37 xz1 ⟨rfl, rfl⟩ rfl rfl ?_
  refine xk37 (by omega) hC (by omega) (by omega) hb hA (fun h0 => ?_)
  refine x_istoren (pl' := [some (.ref 33), some (xV (sG t n p)), none]) xc49_7 rfl rfl ?_
  refine x_iloadn xc49_8 rfl ?_
  refine x_bipush xc49_9 (by decide) ?_
  refine x_iceq xc49_11 (xRk (by have g0 := sGB (n := n) (p := p) hb (by omega); omega)) (xRk (by decide)) (fun h1 => ?_) (fun h1 => ?_)
  · refine x_aloadn xc49_41 rfl ?_
    refine x_gfr xc49_42 rfl rfl xz33 rfl ?_
    refine x_gfi' (k := 7) (v := m) xc49_45 rfl (Or.inl rfl) rfl xz13 hm ?_
    refine x_iconst xc49_48 ?_
    refine x_imul xc49_49 ?_
    refine x_aloadn xc49_50 rfl ?_
    refine x_gfi' (k := 2) (v := c) xc49_51 rfl (Or.inl rfl) rfl xz33 hc ?_
    refine x_iadd xc49_54 ?_
    refine x_istoren (pl' := [some (.ref 33), some (xV (sG t n p)), some (xV (m * 4 + c))]) xc49_55 rfl rfl ?_
    refine x_aloadn xc49_56 rfl ?_
    refine x_gfi' (k := 2) (v := c) xc49_57 rfl (Or.inl rfl) rfl xz33 hc ?_
    refine x_iconst xc49_60 ?_
    refine x_icge xc49_61 (xRk (by omega)) (xRk (by decide)) (fun h2 => ?_) (fun h2 => ?_)
    · refine x_aloadn xc49_70 rfl ?_
      refine x_gfr xc49_71 rfl rfl xz33 rfl ?_
      refine x_iconst xc49_74 ?_
      refine x_cV (as := [xV 4]) (rest := []) xc49_75 rfl xi39 xz1 ⟨rfl, rfl⟩ rfl rfl ?_
      refine xk39 hC (by omega) (by omega) hb hA (xRk (by decide)) (by omega) ?_
      refine x_iret xc49_78 (Or.inr ⟨rfl, (by omega)⟩) ?_
      exact k1 h0 h1 h2
    · refine x_iloadn xc49_64 rfl ?_
      refine x_bipush xc49_65 (by decide) ?_
      refine x_iclt xc49_67 (xRk (by omega)) (xRk (by decide)) (fun h3 => ?_) (fun h3 => ?_)
      · refine x_aloadn xc49_79 rfl ?_
        refine x_gfr xc49_80 rfl rfl xz33 rfl ?_
        refine x_dup xc49_83 rfl ?_
        refine x_gfi' (k := 3) (v := p) xc49_84 rfl (Or.inl rfl) rfl xz1 hC.2.2 ?_
        refine x_iconst xc49_87 ?_
        refine x_iadd xc49_88 ?_
        refine x_pfi (k := 3) xc49_89 rfl ⟨rfl, rfl⟩ rfl xz1 ?_
        refine x_aloadn xc49_92 rfl ?_
        refine x_dup xc49_93 rfl ?_
        refine x_gfi' (k := 2) (v := c) xc49_94 rfl (Or.inl rfl) rfl xz33 (by rw [xUn (by decide), hc]) ?_
        refine x_iconst xc49_97 ?_
        refine x_iadd xc49_98 ?_
        refine x_pfi (k := 2) xc49_99 rfl ⟨rfl, rfl⟩ rfl xz33 ?_
        refine x_aloadn xc49_102 rfl ?_
        refine x_gfr xc49_103 rfl rfl xz33 rfl ?_
        refine x_gfr xc49_106 rfl rfl xz13 rfl ?_
        refine x_iloadn xc49_109 rfl ?_
        refine x_iloadn xc49_110 rfl ?_
        refine x_ias xc49_111 xz14 (by omega) (by omega) (by omega) ?_
        refine x_aloadn xc49_112 rfl ?_
        refine x_cV (as := []) (rest := []) xc49_113 rfl xi50 xz33 ⟨rfl, rfl⟩ rfl rfl ?_
        refine xm50 (tC.ot (by decide) (by decide) (tC.ot (by decide) (by decide) (tC.at hC))) (by omega) (by omega) hb (xAr_u (xAr_u (xAr_u hA (xRk (by omega))) (xRk (by omega))) (xRk (by have g0 := sGB (n := n) (p := p) hb (by omega); omega))) (by rw [xUn (by decide), xUn (by decide), xUk (by decide), hf]) (by omega) (fun a1 p1 h4 h5 h6 h7 h8 => ?_) (fun a2 f2 q2 h9 h10 h11 h12 => ?_)
        · refine x_ifne xc49_116 (xRk (by decide)) (fun _ => ?_) (fun h => absurd h (by omega))
          refine x_aloadn xc49_121 rfl ?_
          refine x_gfr xc49_122 rfl rfl xz33 rfl ?_
          refine x_gfr xc49_125 rfl rfl xz13 rfl ?_
          refine x_iloadn xc49_128 rfl ?_
          refine x_aloadn xc49_129 rfl ?_
          refine x_gfi (k := 3) xc49_130 rfl (Or.inl rfl) rfl xz33 ?_
          refine x_ias xc49_133 xz15 (by omega) (by omega) (by omega) ?_
          refine x_aloadn xc49_134 rfl ?_
          refine x_gfr xc49_135 rfl rfl xz33 rfl ?_
          refine x_gfr xc49_138 rfl rfl xz13 rfl ?_
          refine x_iloadn xc49_141 rfl ?_
          refine x_aloadn xc49_142 rfl ?_
          refine x_gfi' (k := 4) (v := a1 33 4) xc49_143 rfl (Or.inl rfl) rfl xz33 (by rw [xUn (by decide)]) ?_
          refine x_ias xc49_146 xz16 (by omega) (by omega) (by omega) ?_
          refine x_iloadn xc49_147 rfl ?_
          refine x_bipush xc49_148 (by decide) ?_
          refine x_iceq xc49_150 (xRk (by have g0 := sGB (n := n) (p := p) hb (by omega); omega)) (xRk (by decide)) (fun h => absurd h (by omega)) (fun _ => ?_)
          refine x_iloadn xc49_153 rfl ?_
          refine x_bipush xc49_154 (by decide) ?_
          refine x_icne xc49_156 (xRk (by have g0 := sGB (n := n) (p := p) hb (by omega); omega)) (xRk (by decide)) (fun _ => ?_) (fun h => absurd h (by omega))
          refine x_iloadn xc49_201 rfl ?_
          refine x_bipush xc49_202 (by decide) ?_
          refine x_iceq xc49_204 (xRk (by have g0 := sGB (n := n) (p := p) hb (by omega); omega)) (xRk (by decide)) (fun _ => ?_) (fun h => absurd h (by omega))
          refine x_iconst xc49_228 ?_
          refine x_goto xc49_229 ?_
          refine x_iret xc49_233 (Or.inr ⟨rfl, (by omega)⟩) ?_
          exact k2 h0 h1 h2 h3 a1 p1 h4 h5 h6 h7 h8
        · refine x_ifne xc49_116 (xRk (by decide)) (fun h => absurd h (by omega)) (fun _ => ?_)
          refine x_iconst xc49_119 ?_
          refine x_iret xc49_120 (Or.inr ⟨rfl, (by omega)⟩) ?_
          exact k3 h0 h1 h2 h3 a2 f2 q2 h9 h10 h11 h12
      · refine x_aloadn xc49_70 rfl ?_
        refine x_gfr xc49_71 rfl rfl xz33 rfl ?_
        refine x_iconst xc49_74 ?_
        refine x_cV (as := [xV 4]) (rest := []) xc49_75 rfl xi39 xz1 ⟨rfl, rfl⟩ rfl rfl ?_
        refine xk39 hC (by omega) (by omega) hb hA (xRk (by decide)) (by omega) ?_
        refine x_iret xc49_78 (Or.inr ⟨rfl, (by omega)⟩) ?_
        exact k4 h0 h1 h2 h3
  · refine x_iloadn xc49_14 rfl ?_
    refine x_bipush xc49_15 (by decide) ?_
    refine x_iceq xc49_17 (xRk (by have g0 := sGB (n := n) (p := p) hb (by omega); omega)) (xRk (by decide)) (fun h18 => ?_) (fun h18 => ?_)
    · refine x_aloadn xc49_41 rfl ?_
      refine x_gfr xc49_42 rfl rfl xz33 rfl ?_
      refine x_gfi' (k := 7) (v := m) xc49_45 rfl (Or.inl rfl) rfl xz13 hm ?_
      refine x_iconst xc49_48 ?_
      refine x_imul xc49_49 ?_
      refine x_aloadn xc49_50 rfl ?_
      refine x_gfi' (k := 2) (v := c) xc49_51 rfl (Or.inl rfl) rfl xz33 hc ?_
      refine x_iadd xc49_54 ?_
      refine x_istoren (pl' := [some (.ref 33), some (xV (sG t n p)), some (xV (m * 4 + c))]) xc49_55 rfl rfl ?_
      refine x_aloadn xc49_56 rfl ?_
      refine x_gfi' (k := 2) (v := c) xc49_57 rfl (Or.inl rfl) rfl xz33 hc ?_
      refine x_iconst xc49_60 ?_
      refine x_icge xc49_61 (xRk (by omega)) (xRk (by decide)) (fun h19 => ?_) (fun h19 => ?_)
      · refine x_aloadn xc49_70 rfl ?_
        refine x_gfr xc49_71 rfl rfl xz33 rfl ?_
        refine x_iconst xc49_74 ?_
        refine x_cV (as := [xV 4]) (rest := []) xc49_75 rfl xi39 xz1 ⟨rfl, rfl⟩ rfl rfl ?_
        refine xk39 hC (by omega) (by omega) hb hA (xRk (by decide)) (by omega) ?_
        refine x_iret xc49_78 (Or.inr ⟨rfl, (by omega)⟩) ?_
        exact k5 h0 h1 h18 h19
      · refine x_iloadn xc49_64 rfl ?_
        refine x_bipush xc49_65 (by decide) ?_
        refine x_iclt xc49_67 (xRk (by omega)) (xRk (by decide)) (fun h20 => ?_) (fun h20 => ?_)
        · refine x_aloadn xc49_79 rfl ?_
          refine x_gfr xc49_80 rfl rfl xz33 rfl ?_
          refine x_dup xc49_83 rfl ?_
          refine x_gfi' (k := 3) (v := p) xc49_84 rfl (Or.inl rfl) rfl xz1 hC.2.2 ?_
          refine x_iconst xc49_87 ?_
          refine x_iadd xc49_88 ?_
          refine x_pfi (k := 3) xc49_89 rfl ⟨rfl, rfl⟩ rfl xz1 ?_
          refine x_aloadn xc49_92 rfl ?_
          refine x_dup xc49_93 rfl ?_
          refine x_gfi' (k := 2) (v := c) xc49_94 rfl (Or.inl rfl) rfl xz33 (by rw [xUn (by decide), hc]) ?_
          refine x_iconst xc49_97 ?_
          refine x_iadd xc49_98 ?_
          refine x_pfi (k := 2) xc49_99 rfl ⟨rfl, rfl⟩ rfl xz33 ?_
          refine x_aloadn xc49_102 rfl ?_
          refine x_gfr xc49_103 rfl rfl xz33 rfl ?_
          refine x_gfr xc49_106 rfl rfl xz13 rfl ?_
          refine x_iloadn xc49_109 rfl ?_
          refine x_iloadn xc49_110 rfl ?_
          refine x_ias xc49_111 xz14 (by omega) (by omega) (by omega) ?_
          refine x_aloadn xc49_112 rfl ?_
          refine x_cV (as := []) (rest := []) xc49_113 rfl xi50 xz33 ⟨rfl, rfl⟩ rfl rfl ?_
          refine xm50 (tC.ot (by decide) (by decide) (tC.ot (by decide) (by decide) (tC.at hC))) (by omega) (by omega) hb (xAr_u (xAr_u (xAr_u hA (xRk (by omega))) (xRk (by omega))) (xRk (by have g0 := sGB (n := n) (p := p) hb (by omega); omega))) (by rw [xUn (by decide), xUn (by decide), xUk (by decide), hf]) (by omega) (fun a3 p3 h21 h22 h23 h24 h25 => ?_) (fun a4 f4 q4 h26 h27 h28 h29 => ?_)
          · refine x_ifne xc49_116 (xRk (by decide)) (fun _ => ?_) (fun h => absurd h (by omega))
            refine x_aloadn xc49_121 rfl ?_
            refine x_gfr xc49_122 rfl rfl xz33 rfl ?_
            refine x_gfr xc49_125 rfl rfl xz13 rfl ?_
            refine x_iloadn xc49_128 rfl ?_
            refine x_aloadn xc49_129 rfl ?_
            refine x_gfi (k := 3) xc49_130 rfl (Or.inl rfl) rfl xz33 ?_
            refine x_ias xc49_133 xz15 (by omega) (by omega) (by omega) ?_
            refine x_aloadn xc49_134 rfl ?_
            refine x_gfr xc49_135 rfl rfl xz33 rfl ?_
            refine x_gfr xc49_138 rfl rfl xz13 rfl ?_
            refine x_iloadn xc49_141 rfl ?_
            refine x_aloadn xc49_142 rfl ?_
            refine x_gfi' (k := 4) (v := a3 33 4) xc49_143 rfl (Or.inl rfl) rfl xz33 (by rw [xUn (by decide)]) ?_
            refine x_ias xc49_146 xz16 (by omega) (by omega) (by omega) ?_
            refine x_iloadn xc49_147 rfl ?_
            refine x_bipush xc49_148 (by decide) ?_
            refine x_iceq xc49_150 (xRk (by have g0 := sGB (n := n) (p := p) hb (by omega); omega)) (xRk (by decide)) (fun _ => ?_) (fun h => absurd h (by omega))
            refine x_aloadn xc49_159 rfl ?_
            refine x_cV (as := []) (rest := []) xc49_160 rfl xi53 xz33 ⟨rfl, rfl⟩ rfl rfl ?_
            refine xm53 (tC.ot (by decide) (by decide) (tC.ot (by decide) (by decide) h21)) (by omega) (by omega) hb (xAr_u (xAr_u h22.1 (xRk (by have g0 := xRb (h22.1 33 3); omega))) (xRk (by have g0 := xRb (h22.1 33 4); omega))) (by rw [xUn (by decide), xUn (by decide), h23]) (by omega) (fun a5 p5 h32 h33 h34 h35 h36 => ?_) (fun a6 f6 q6 h37 h38 h39 h40 => ?_)
            · refine x_ifeq xc49_163 (xRk (by decide)) (fun h => absurd h (by omega)) (fun _ => ?_)
              refine x_aloadn xc49_166 rfl ?_
              refine x_cV (as := []) (rest := []) xc49_167 rfl xi50 xz33 ⟨rfl, rfl⟩ rfl rfl ?_
              refine xm50 h32 (by omega) (by omega) hb h33.1 h34 (by omega) (fun a7 p7 h42 h43 h44 h45 h46 => ?_) (fun a8 f8 q8 h47 h48 h49 h50 => ?_)
              · refine x_ifne xc49_170 (xRk (by decide)) (fun _ => ?_) (fun h => absurd h (by omega))
                refine x_aloadn xc49_175 rfl ?_
                refine x_gfr xc49_176 rfl rfl xz33 rfl ?_
                refine x_gfr xc49_179 rfl rfl xz13 rfl ?_
                refine x_iloadn xc49_182 rfl ?_
                refine x_aloadn xc49_183 rfl ?_
                refine x_gfi (k := 3) xc49_184 rfl (Or.inl rfl) rfl xz33 ?_
                refine x_ias xc49_187 xz17 (by omega) (by omega) (by omega) ?_
                refine x_aloadn xc49_188 rfl ?_
                refine x_gfr xc49_189 rfl rfl xz33 rfl ?_
                refine x_gfr xc49_192 rfl rfl xz13 rfl ?_
                refine x_iloadn xc49_195 rfl ?_
                refine x_aloadn xc49_196 rfl ?_
                refine x_gfi' (k := 4) (v := a7 33 4) xc49_197 rfl (Or.inl rfl) rfl xz33 (by rw [xUn (by decide)]) ?_
                refine x_ias xc49_200 xz18 (by omega) (by omega) (by omega) ?_
                refine x_iloadn xc49_201 rfl ?_
                refine x_bipush xc49_202 (by decide) ?_
                refine x_iceq xc49_204 (xRk (by have g0 := sGB (n := n) (p := p) hb (by omega); omega)) (xRk (by decide)) (fun h => absurd h (by omega)) (fun _ => ?_)
                refine x_iloadn xc49_207 rfl ?_
                refine x_bipush xc49_208 (by decide) ?_
                refine x_iceq xc49_210 (xRk (by have g0 := sGB (n := n) (p := p) hb (by omega); omega)) (xRk (by decide)) (fun _ => ?_) (fun h => absurd h (by omega))
                refine x_iconst xc49_228 ?_
                refine x_goto xc49_229 ?_
                refine x_iret xc49_233 (Or.inr ⟨rfl, (by omega)⟩) ?_
                exact k6 h0 h1 h18 h19 h20 a3 p3 h21 h22 h23 h24 h25 a5 p5 h32 h33 h34 h35 h36 a7 p7 h42 h43 h44 h45 h46
              · refine x_ifne xc49_170 (xRk (by decide)) (fun h => absurd h (by omega)) (fun _ => ?_)
                refine x_iconst xc49_173 ?_
                refine x_iret xc49_174 (Or.inr ⟨rfl, (by omega)⟩) ?_
                exact k7 h0 h1 h18 h19 h20 a3 p3 h21 h22 h23 h24 h25 a5 p5 h32 h33 h34 h35 h36 a8 f8 q8 h47 h48 h49 h50
            · refine x_ifeq xc49_163 (xRk (by decide)) (fun _ => ?_) (fun h => absurd h (by omega))
              refine x_iconst xc49_173 ?_
              refine x_iret xc49_174 (Or.inr ⟨rfl, (by omega)⟩) ?_
              exact k8 h0 h1 h18 h19 h20 a3 p3 h21 h22 h23 h24 h25 a6 f6 q6 h37 h38 h39 h40
          · refine x_ifne xc49_116 (xRk (by decide)) (fun h => absurd h (by omega)) (fun _ => ?_)
            refine x_iconst xc49_119 ?_
            refine x_iret xc49_120 (Or.inr ⟨rfl, (by omega)⟩) ?_
            exact k9 h0 h1 h18 h19 h20 a4 f4 q4 h26 h27 h28 h29
        · refine x_aloadn xc49_70 rfl ?_
          refine x_gfr xc49_71 rfl rfl xz33 rfl ?_
          refine x_iconst xc49_74 ?_
          refine x_cV (as := [xV 4]) (rest := []) xc49_75 rfl xi39 xz1 ⟨rfl, rfl⟩ rfl rfl ?_
          refine xk39 hC (by omega) (by omega) hb hA (xRk (by decide)) (by omega) ?_
          refine x_iret xc49_78 (Or.inr ⟨rfl, (by omega)⟩) ?_
          exact k10 h0 h1 h18 h19 h20
    · refine x_iloadn xc49_20 rfl ?_
      refine x_bipush xc49_21 (by decide) ?_
      refine x_iceq xc49_23 (xRk (by have g0 := sGB (n := n) (p := p) hb (by omega); omega)) (xRk (by decide)) (fun h57 => ?_) (fun h57 => ?_)
      · refine x_aloadn xc49_41 rfl ?_
        refine x_gfr xc49_42 rfl rfl xz33 rfl ?_
        refine x_gfi' (k := 7) (v := m) xc49_45 rfl (Or.inl rfl) rfl xz13 hm ?_
        refine x_iconst xc49_48 ?_
        refine x_imul xc49_49 ?_
        refine x_aloadn xc49_50 rfl ?_
        refine x_gfi' (k := 2) (v := c) xc49_51 rfl (Or.inl rfl) rfl xz33 hc ?_
        refine x_iadd xc49_54 ?_
        refine x_istoren (pl' := [some (.ref 33), some (xV (sG t n p)), some (xV (m * 4 + c))]) xc49_55 rfl rfl ?_
        refine x_aloadn xc49_56 rfl ?_
        refine x_gfi' (k := 2) (v := c) xc49_57 rfl (Or.inl rfl) rfl xz33 hc ?_
        refine x_iconst xc49_60 ?_
        refine x_icge xc49_61 (xRk (by omega)) (xRk (by decide)) (fun h58 => ?_) (fun h58 => ?_)
        · refine x_aloadn xc49_70 rfl ?_
          refine x_gfr xc49_71 rfl rfl xz33 rfl ?_
          refine x_iconst xc49_74 ?_
          refine x_cV (as := [xV 4]) (rest := []) xc49_75 rfl xi39 xz1 ⟨rfl, rfl⟩ rfl rfl ?_
          refine xk39 hC (by omega) (by omega) hb hA (xRk (by decide)) (by omega) ?_
          refine x_iret xc49_78 (Or.inr ⟨rfl, (by omega)⟩) ?_
          exact k11 h0 h1 h18 h57 h58
        · refine x_iloadn xc49_64 rfl ?_
          refine x_bipush xc49_65 (by decide) ?_
          refine x_iclt xc49_67 (xRk (by omega)) (xRk (by decide)) (fun h59 => ?_) (fun h59 => ?_)
          · refine x_aloadn xc49_79 rfl ?_
            refine x_gfr xc49_80 rfl rfl xz33 rfl ?_
            refine x_dup xc49_83 rfl ?_
            refine x_gfi' (k := 3) (v := p) xc49_84 rfl (Or.inl rfl) rfl xz1 hC.2.2 ?_
            refine x_iconst xc49_87 ?_
            refine x_iadd xc49_88 ?_
            refine x_pfi (k := 3) xc49_89 rfl ⟨rfl, rfl⟩ rfl xz1 ?_
            refine x_aloadn xc49_92 rfl ?_
            refine x_dup xc49_93 rfl ?_
            refine x_gfi' (k := 2) (v := c) xc49_94 rfl (Or.inl rfl) rfl xz33 (by rw [xUn (by decide), hc]) ?_
            refine x_iconst xc49_97 ?_
            refine x_iadd xc49_98 ?_
            refine x_pfi (k := 2) xc49_99 rfl ⟨rfl, rfl⟩ rfl xz33 ?_
            refine x_aloadn xc49_102 rfl ?_
            refine x_gfr xc49_103 rfl rfl xz33 rfl ?_
            refine x_gfr xc49_106 rfl rfl xz13 rfl ?_
            refine x_iloadn xc49_109 rfl ?_
            refine x_iloadn xc49_110 rfl ?_
            refine x_ias xc49_111 xz14 (by omega) (by omega) (by omega) ?_
            refine x_aloadn xc49_112 rfl ?_
            refine x_cV (as := []) (rest := []) xc49_113 rfl xi50 xz33 ⟨rfl, rfl⟩ rfl rfl ?_
            refine xm50 (tC.ot (by decide) (by decide) (tC.ot (by decide) (by decide) (tC.at hC))) (by omega) (by omega) hb (xAr_u (xAr_u (xAr_u hA (xRk (by omega))) (xRk (by omega))) (xRk (by have g0 := sGB (n := n) (p := p) hb (by omega); omega))) (by rw [xUn (by decide), xUn (by decide), xUk (by decide), hf]) (by omega) (fun a9 p9 h60 h61 h62 h63 h64 => ?_) (fun a10 f10 q10 h65 h66 h67 h68 => ?_)
            · refine x_ifne xc49_116 (xRk (by decide)) (fun _ => ?_) (fun h => absurd h (by omega))
              refine x_aloadn xc49_121 rfl ?_
              refine x_gfr xc49_122 rfl rfl xz33 rfl ?_
              refine x_gfr xc49_125 rfl rfl xz13 rfl ?_
              refine x_iloadn xc49_128 rfl ?_
              refine x_aloadn xc49_129 rfl ?_
              refine x_gfi (k := 3) xc49_130 rfl (Or.inl rfl) rfl xz33 ?_
              refine x_ias xc49_133 xz15 (by omega) (by omega) (by omega) ?_
              refine x_aloadn xc49_134 rfl ?_
              refine x_gfr xc49_135 rfl rfl xz33 rfl ?_
              refine x_gfr xc49_138 rfl rfl xz13 rfl ?_
              refine x_iloadn xc49_141 rfl ?_
              refine x_aloadn xc49_142 rfl ?_
              refine x_gfi' (k := 4) (v := a9 33 4) xc49_143 rfl (Or.inl rfl) rfl xz33 (by rw [xUn (by decide)]) ?_
              refine x_ias xc49_146 xz16 (by omega) (by omega) (by omega) ?_
              refine x_iloadn xc49_147 rfl ?_
              refine x_bipush xc49_148 (by decide) ?_
              refine x_iceq xc49_150 (xRk (by have g0 := sGB (n := n) (p := p) hb (by omega); omega)) (xRk (by decide)) (fun h => absurd h (by omega)) (fun _ => ?_)
              refine x_iloadn xc49_153 rfl ?_
              refine x_bipush xc49_154 (by decide) ?_
              refine x_icne xc49_156 (xRk (by have g0 := sGB (n := n) (p := p) hb (by omega); omega)) (xRk (by decide)) (fun h => absurd h (by omega)) (fun _ => ?_)
              refine x_aloadn xc49_159 rfl ?_
              refine x_cV (as := []) (rest := []) xc49_160 rfl xi53 xz33 ⟨rfl, rfl⟩ rfl rfl ?_
              refine xm53 (tC.ot (by decide) (by decide) (tC.ot (by decide) (by decide) h60)) (by omega) (by omega) hb (xAr_u (xAr_u h61.1 (xRk (by have g0 := xRb (h61.1 33 3); omega))) (xRk (by have g0 := xRb (h61.1 33 4); omega))) (by rw [xUn (by decide), xUn (by decide), h62]) (by omega) (fun a11 p11 h72 h73 h74 h75 h76 => ?_) (fun a12 f12 q12 h77 h78 h79 h80 => ?_)
              · refine x_ifeq xc49_163 (xRk (by decide)) (fun h => absurd h (by omega)) (fun _ => ?_)
                refine x_aloadn xc49_166 rfl ?_
                refine x_cV (as := []) (rest := []) xc49_167 rfl xi50 xz33 ⟨rfl, rfl⟩ rfl rfl ?_
                refine xm50 h72 (by omega) (by omega) hb h73.1 h74 (by omega) (fun a13 p13 h82 h83 h84 h85 h86 => ?_) (fun a14 f14 q14 h87 h88 h89 h90 => ?_)
                · refine x_ifne xc49_170 (xRk (by decide)) (fun _ => ?_) (fun h => absurd h (by omega))
                  refine x_aloadn xc49_175 rfl ?_
                  refine x_gfr xc49_176 rfl rfl xz33 rfl ?_
                  refine x_gfr xc49_179 rfl rfl xz13 rfl ?_
                  refine x_iloadn xc49_182 rfl ?_
                  refine x_aloadn xc49_183 rfl ?_
                  refine x_gfi (k := 3) xc49_184 rfl (Or.inl rfl) rfl xz33 ?_
                  refine x_ias xc49_187 xz17 (by omega) (by omega) (by omega) ?_
                  refine x_aloadn xc49_188 rfl ?_
                  refine x_gfr xc49_189 rfl rfl xz33 rfl ?_
                  refine x_gfr xc49_192 rfl rfl xz13 rfl ?_
                  refine x_iloadn xc49_195 rfl ?_
                  refine x_aloadn xc49_196 rfl ?_
                  refine x_gfi' (k := 4) (v := a13 33 4) xc49_197 rfl (Or.inl rfl) rfl xz33 (by rw [xUn (by decide)]) ?_
                  refine x_ias xc49_200 xz18 (by omega) (by omega) (by omega) ?_
                  refine x_iloadn xc49_201 rfl ?_
                  refine x_bipush xc49_202 (by decide) ?_
                  refine x_iceq xc49_204 (xRk (by have g0 := sGB (n := n) (p := p) hb (by omega); omega)) (xRk (by decide)) (fun h => absurd h (by omega)) (fun _ => ?_)
                  refine x_iloadn xc49_207 rfl ?_
                  refine x_bipush xc49_208 (by decide) ?_
                  refine x_iceq xc49_210 (xRk (by have g0 := sGB (n := n) (p := p) hb (by omega); omega)) (xRk (by decide)) (fun h => absurd h (by omega)) (fun _ => ?_)
                  refine x_aloadn xc49_213 rfl ?_
                  refine x_cV (as := []) (rest := []) xc49_214 rfl xi53 xz33 ⟨rfl, rfl⟩ rfl rfl ?_
                  refine xm53 (tC.ot (by decide) (by decide) (tC.ot (by decide) (by decide) h82)) (by omega) (by omega) hb (xAr_u (xAr_u h83.1 (xRk (by have g0 := xRb (h83.1 33 3); omega))) (xRk (by have g0 := xRb (h83.1 33 4); omega))) (by rw [xUn (by decide), xUn (by decide), h84]) (by omega) (fun a15 p15 h94 h95 h96 h97 h98 => ?_) (fun a16 f16 q16 h99 h100 h101 h102 => ?_)
                  · refine x_ifeq xc49_217 (xRk (by decide)) (fun h => absurd h (by omega)) (fun _ => ?_)
                    refine x_aloadn xc49_220 rfl ?_
                    refine x_iloadn xc49_221 rfl ?_
                    refine x_cV (as := [xV (m * 4 + c)]) (rest := []) xc49_222 rfl xi54 xz33 ⟨rfl, rfl⟩ rfl rfl ?_
                    refine xm54 h94 (by omega) (by omega) hb h95.1 (by omega) h96 (by omega) (fun a17 p17 h104 h105 h106 h107 h108 => ?_) (fun a18 f18 q18 h109 h110 h111 h112 => ?_)
                    · refine x_ifeq xc49_225 (xRk (by decide)) (fun h => absurd h (by omega)) (fun _ => ?_)
                      refine x_iconst xc49_228 ?_
                      refine x_goto xc49_229 ?_
                      refine x_iret xc49_233 (Or.inr ⟨rfl, (by omega)⟩) ?_
                      exact k12 h0 h1 h18 h57 h58 h59 a9 p9 h60 h61 h62 h63 h64 a11 p11 h72 h73 h74 h75 h76 a13 p13 h82 h83 h84 h85 h86 a15 p15 h94 h95 h96 h97 h98 a17 p17 h104 h105 h106 h107 h108
                    · refine x_ifeq xc49_225 (xRk (by decide)) (fun _ => ?_) (fun h => absurd h (by omega))
                      refine x_iconst xc49_232 ?_
                      refine x_iret xc49_233 (Or.inr ⟨rfl, (by omega)⟩) ?_
                      exact k13 h0 h1 h18 h57 h58 h59 a9 p9 h60 h61 h62 h63 h64 a11 p11 h72 h73 h74 h75 h76 a13 p13 h82 h83 h84 h85 h86 a15 p15 h94 h95 h96 h97 h98 a18 f18 q18 h109 h110 h111 h112
                  · refine x_ifeq xc49_217 (xRk (by decide)) (fun _ => ?_) (fun h => absurd h (by omega))
                    refine x_iconst xc49_232 ?_
                    refine x_iret xc49_233 (Or.inr ⟨rfl, (by omega)⟩) ?_
                    exact k14 h0 h1 h18 h57 h58 h59 a9 p9 h60 h61 h62 h63 h64 a11 p11 h72 h73 h74 h75 h76 a13 p13 h82 h83 h84 h85 h86 a16 f16 q16 h99 h100 h101 h102
                · refine x_ifne xc49_170 (xRk (by decide)) (fun h => absurd h (by omega)) (fun _ => ?_)
                  refine x_iconst xc49_173 ?_
                  refine x_iret xc49_174 (Or.inr ⟨rfl, (by omega)⟩) ?_
                  exact k15 h0 h1 h18 h57 h58 h59 a9 p9 h60 h61 h62 h63 h64 a11 p11 h72 h73 h74 h75 h76 a14 f14 q14 h87 h88 h89 h90
              · refine x_ifeq xc49_163 (xRk (by decide)) (fun _ => ?_) (fun h => absurd h (by omega))
                refine x_iconst xc49_173 ?_
                refine x_iret xc49_174 (Or.inr ⟨rfl, (by omega)⟩) ?_
                exact k16 h0 h1 h18 h57 h58 h59 a9 p9 h60 h61 h62 h63 h64 a12 f12 q12 h77 h78 h79 h80
            · refine x_ifne xc49_116 (xRk (by decide)) (fun h => absurd h (by omega)) (fun _ => ?_)
              refine x_iconst xc49_119 ?_
              refine x_iret xc49_120 (Or.inr ⟨rfl, (by omega)⟩) ?_
              exact k17 h0 h1 h18 h57 h58 h59 a10 f10 q10 h65 h66 h67 h68
          · refine x_aloadn xc49_70 rfl ?_
            refine x_gfr xc49_71 rfl rfl xz33 rfl ?_
            refine x_iconst xc49_74 ?_
            refine x_cV (as := [xV 4]) (rest := []) xc49_75 rfl xi39 xz1 ⟨rfl, rfl⟩ rfl rfl ?_
            refine xk39 hC (by omega) (by omega) hb hA (xRk (by decide)) (by omega) ?_
            refine x_iret xc49_78 (Or.inr ⟨rfl, (by omega)⟩) ?_
            exact k18 h0 h1 h18 h57 h58 h59
      · refine x_iloadn xc49_26 rfl ?_
        refine x_bipush xc49_27 (by decide) ?_
        refine x_iceq xc49_29 (xRk (by have g0 := sGB (n := n) (p := p) hb (by omega); omega)) (xRk (by decide)) (fun h119 => ?_) (fun h119 => ?_)
        · refine x_aloadn xc49_41 rfl ?_
          refine x_gfr xc49_42 rfl rfl xz33 rfl ?_
          refine x_gfi' (k := 7) (v := m) xc49_45 rfl (Or.inl rfl) rfl xz13 hm ?_
          refine x_iconst xc49_48 ?_
          refine x_imul xc49_49 ?_
          refine x_aloadn xc49_50 rfl ?_
          refine x_gfi' (k := 2) (v := c) xc49_51 rfl (Or.inl rfl) rfl xz33 hc ?_
          refine x_iadd xc49_54 ?_
          refine x_istoren (pl' := [some (.ref 33), some (xV (sG t n p)), some (xV (m * 4 + c))]) xc49_55 rfl rfl ?_
          refine x_aloadn xc49_56 rfl ?_
          refine x_gfi' (k := 2) (v := c) xc49_57 rfl (Or.inl rfl) rfl xz33 hc ?_
          refine x_iconst xc49_60 ?_
          refine x_icge xc49_61 (xRk (by omega)) (xRk (by decide)) (fun h120 => ?_) (fun h120 => ?_)
          · refine x_aloadn xc49_70 rfl ?_
            refine x_gfr xc49_71 rfl rfl xz33 rfl ?_
            refine x_iconst xc49_74 ?_
            refine x_cV (as := [xV 4]) (rest := []) xc49_75 rfl xi39 xz1 ⟨rfl, rfl⟩ rfl rfl ?_
            refine xk39 hC (by omega) (by omega) hb hA (xRk (by decide)) (by omega) ?_
            refine x_iret xc49_78 (Or.inr ⟨rfl, (by omega)⟩) ?_
            exact k19 h0 h1 h18 h57 h119 h120
          · refine x_iloadn xc49_64 rfl ?_
            refine x_bipush xc49_65 (by decide) ?_
            refine x_iclt xc49_67 (xRk (by omega)) (xRk (by decide)) (fun h121 => ?_) (fun h121 => ?_)
            · refine x_aloadn xc49_79 rfl ?_
              refine x_gfr xc49_80 rfl rfl xz33 rfl ?_
              refine x_dup xc49_83 rfl ?_
              refine x_gfi' (k := 3) (v := p) xc49_84 rfl (Or.inl rfl) rfl xz1 hC.2.2 ?_
              refine x_iconst xc49_87 ?_
              refine x_iadd xc49_88 ?_
              refine x_pfi (k := 3) xc49_89 rfl ⟨rfl, rfl⟩ rfl xz1 ?_
              refine x_aloadn xc49_92 rfl ?_
              refine x_dup xc49_93 rfl ?_
              refine x_gfi' (k := 2) (v := c) xc49_94 rfl (Or.inl rfl) rfl xz33 (by rw [xUn (by decide), hc]) ?_
              refine x_iconst xc49_97 ?_
              refine x_iadd xc49_98 ?_
              refine x_pfi (k := 2) xc49_99 rfl ⟨rfl, rfl⟩ rfl xz33 ?_
              refine x_aloadn xc49_102 rfl ?_
              refine x_gfr xc49_103 rfl rfl xz33 rfl ?_
              refine x_gfr xc49_106 rfl rfl xz13 rfl ?_
              refine x_iloadn xc49_109 rfl ?_
              refine x_iloadn xc49_110 rfl ?_
              refine x_ias xc49_111 xz14 (by omega) (by omega) (by omega) ?_
              refine x_aloadn xc49_112 rfl ?_
              refine x_cV (as := []) (rest := []) xc49_113 rfl xi50 xz33 ⟨rfl, rfl⟩ rfl rfl ?_
              refine xm50 (tC.ot (by decide) (by decide) (tC.ot (by decide) (by decide) (tC.at hC))) (by omega) (by omega) hb (xAr_u (xAr_u (xAr_u hA (xRk (by omega))) (xRk (by omega))) (xRk (by have g0 := sGB (n := n) (p := p) hb (by omega); omega))) (by rw [xUn (by decide), xUn (by decide), xUk (by decide), hf]) (by omega) (fun a19 p19 h122 h123 h124 h125 h126 => ?_) (fun a20 f20 q20 h127 h128 h129 h130 => ?_)
              · refine x_ifne xc49_116 (xRk (by decide)) (fun _ => ?_) (fun h => absurd h (by omega))
                refine x_aloadn xc49_121 rfl ?_
                refine x_gfr xc49_122 rfl rfl xz33 rfl ?_
                refine x_gfr xc49_125 rfl rfl xz13 rfl ?_
                refine x_iloadn xc49_128 rfl ?_
                refine x_aloadn xc49_129 rfl ?_
                refine x_gfi (k := 3) xc49_130 rfl (Or.inl rfl) rfl xz33 ?_
                refine x_ias xc49_133 xz15 (by omega) (by omega) (by omega) ?_
                refine x_aloadn xc49_134 rfl ?_
                refine x_gfr xc49_135 rfl rfl xz33 rfl ?_
                refine x_gfr xc49_138 rfl rfl xz13 rfl ?_
                refine x_iloadn xc49_141 rfl ?_
                refine x_aloadn xc49_142 rfl ?_
                refine x_gfi' (k := 4) (v := a19 33 4) xc49_143 rfl (Or.inl rfl) rfl xz33 (by rw [xUn (by decide)]) ?_
                refine x_ias xc49_146 xz16 (by omega) (by omega) (by omega) ?_
                refine x_iloadn xc49_147 rfl ?_
                refine x_bipush xc49_148 (by decide) ?_
                refine x_iceq xc49_150 (xRk (by have g0 := sGB (n := n) (p := p) hb (by omega); omega)) (xRk (by decide)) (fun h => absurd h (by omega)) (fun _ => ?_)
                refine x_iloadn xc49_153 rfl ?_
                refine x_bipush xc49_154 (by decide) ?_
                refine x_icne xc49_156 (xRk (by have g0 := sGB (n := n) (p := p) hb (by omega); omega)) (xRk (by decide)) (fun _ => ?_) (fun h => absurd h (by omega))
                refine x_iloadn xc49_201 rfl ?_
                refine x_bipush xc49_202 (by decide) ?_
                refine x_iceq xc49_204 (xRk (by have g0 := sGB (n := n) (p := p) hb (by omega); omega)) (xRk (by decide)) (fun h => absurd h (by omega)) (fun _ => ?_)
                refine x_iloadn xc49_207 rfl ?_
                refine x_bipush xc49_208 (by decide) ?_
                refine x_iceq xc49_210 (xRk (by have g0 := sGB (n := n) (p := p) hb (by omega); omega)) (xRk (by decide)) (fun h => absurd h (by omega)) (fun _ => ?_)
                refine x_aloadn xc49_213 rfl ?_
                refine x_cV (as := []) (rest := []) xc49_214 rfl xi53 xz33 ⟨rfl, rfl⟩ rfl rfl ?_
                refine xm53 (tC.ot (by decide) (by decide) (tC.ot (by decide) (by decide) h122)) (by omega) (by omega) hb (xAr_u (xAr_u h123.1 (xRk (by have g0 := xRb (h123.1 33 3); omega))) (xRk (by have g0 := xRb (h123.1 33 4); omega))) (by rw [xUn (by decide), xUn (by decide), h124]) (by omega) (fun a21 p21 h136 h137 h138 h139 h140 => ?_) (fun a22 f22 q22 h141 h142 h143 h144 => ?_)
                · refine x_ifeq xc49_217 (xRk (by decide)) (fun h => absurd h (by omega)) (fun _ => ?_)
                  refine x_aloadn xc49_220 rfl ?_
                  refine x_iloadn xc49_221 rfl ?_
                  refine x_cV (as := [xV (m * 4 + c)]) (rest := []) xc49_222 rfl xi54 xz33 ⟨rfl, rfl⟩ rfl rfl ?_
                  refine xm54 h136 (by omega) (by omega) hb h137.1 (by omega) h138 (by omega) (fun a23 p23 h146 h147 h148 h149 h150 => ?_) (fun a24 f24 q24 h151 h152 h153 h154 => ?_)
                  · refine x_ifeq xc49_225 (xRk (by decide)) (fun h => absurd h (by omega)) (fun _ => ?_)
                    refine x_iconst xc49_228 ?_
                    refine x_goto xc49_229 ?_
                    refine x_iret xc49_233 (Or.inr ⟨rfl, (by omega)⟩) ?_
                    exact k20 h0 h1 h18 h57 h119 h120 h121 a19 p19 h122 h123 h124 h125 h126 a21 p21 h136 h137 h138 h139 h140 a23 p23 h146 h147 h148 h149 h150
                  · refine x_ifeq xc49_225 (xRk (by decide)) (fun _ => ?_) (fun h => absurd h (by omega))
                    refine x_iconst xc49_232 ?_
                    refine x_iret xc49_233 (Or.inr ⟨rfl, (by omega)⟩) ?_
                    exact k21 h0 h1 h18 h57 h119 h120 h121 a19 p19 h122 h123 h124 h125 h126 a21 p21 h136 h137 h138 h139 h140 a24 f24 q24 h151 h152 h153 h154
                · refine x_ifeq xc49_217 (xRk (by decide)) (fun _ => ?_) (fun h => absurd h (by omega))
                  refine x_iconst xc49_232 ?_
                  refine x_iret xc49_233 (Or.inr ⟨rfl, (by omega)⟩) ?_
                  exact k22 h0 h1 h18 h57 h119 h120 h121 a19 p19 h122 h123 h124 h125 h126 a22 f22 q22 h141 h142 h143 h144
              · refine x_ifne xc49_116 (xRk (by decide)) (fun h => absurd h (by omega)) (fun _ => ?_)
                refine x_iconst xc49_119 ?_
                refine x_iret xc49_120 (Or.inr ⟨rfl, (by omega)⟩) ?_
                exact k23 h0 h1 h18 h57 h119 h120 h121 a20 f20 q20 h127 h128 h129 h130
            · refine x_aloadn xc49_70 rfl ?_
              refine x_gfr xc49_71 rfl rfl xz33 rfl ?_
              refine x_iconst xc49_74 ?_
              refine x_cV (as := [xV 4]) (rest := []) xc49_75 rfl xi39 xz1 ⟨rfl, rfl⟩ rfl rfl ?_
              refine xk39 hC (by omega) (by omega) hb hA (xRk (by decide)) (by omega) ?_
              refine x_iret xc49_78 (Or.inr ⟨rfl, (by omega)⟩) ?_
              exact k24 h0 h1 h18 h57 h119 h120 h121
        · refine x_aloadn xc49_32 rfl ?_
          refine x_gfr xc49_33 rfl rfl xz33 rfl ?_
          refine x_iconst xc49_36 ?_
          refine x_cV (as := [xV 1]) (rest := []) xc49_37 rfl xi39 xz1 ⟨rfl, rfl⟩ rfl rfl ?_
          refine xk39 hC (by omega) (by omega) hb hA (xRk (by decide)) (by omega) ?_
          refine x_iret xc49_40 (Or.inr ⟨rfl, (by omega)⟩) ?_
          exact k25 h0 h1 h18 h57 h119

theorem xm49 {ro : Nat → Nat × (Nat → Int32)} {d : Nat} {Q : Option Value → pmS → Prop} {a : xA} {b : xB} {t : Int → Int} {n p : Int} (hC : tC a t n p) (hp : 0 ≤ p ∧ p ≤ n) (hn : n ≤ 60) (hb : tB t) (hA : xAr a) {c m : Int} (hc : a 33 2 = c) (hm : a 13 7 = m) (hc0 : 0 ≤ c ∧ c ≤ 4) (hm0 : 0 ≤ m ∧ m < 6) (hf : a 1 4 = 0) (hd : 5 ≤ d)
    (hT : ∀ (a1 : xA) (p1 : Int), tC a1 t n p1 → xAr a1 → vGc a a1 → a1 33 2 = c + 1 → a1 13 7 = m → a1 1 4 = 0 → rCl t n p c = (0, p1) → p < p1 ∧ p1 ≤ n ∧ c < 4 → Q (some (xV 1)) (xS a1 b))
    (hF : ∀ (a1 : xA) (f q : Int), xAr a1 → vGc a a1 → a1 13 7 = m → a1 1 4 = f → f < 0 ∧ -10000 < f → rCl t n p c = (f, q) → Q (some (xV 0)) (xS a1 b)) : pmCs ro d 49 [.ref 33] (xS a b) Q := by
  refine pmCs_deep (d := 5) (xg49 (wm49 hC hp hn hb hA hf hc hm hc0 hm0 (by decide) ?_ ?_ ?_ ?_ ?_ ?_ ?_ ?_ ?_ ?_ ?_ ?_ ?_ ?_ ?_ ?_ ?_ ?_ ?_ ?_ ?_ ?_ ?_ ?_ ?_)) hd
  · intro h0 h1 h2
    first | (exfalso; omega) | exact hF _ (-1000 * 4 - p) _ (xAr_u hA (xRk (by omega))) (vGc.u (by omega) (by omega) vGc.r) (by rw [xUn (by decide), hm]) (by rw [xUa]) (by omega) (Prod.ext (by unfold rCl; (repeat (first | rw [rSeq_00] | rw [rSeq_as] | rw [rSeq_0 (by assumption)] | rw [rSeq_n (by assumption) (by omega)] | rw [if_neg (by omega)] | rw [if_pos (by omega)])); all_goals (repeat' split); all_goals (first | (exfalso; omega) | (dsimp only; exact rFst (by assumption)) | (dsimp only; omega) | omega)) rfl)
  · intro h0 h1 h2 h3 a1 p1 h4 h5 h6 h7 h8
    first | (exfalso; omega) | exact hT _ (p1) (tC.ot (by decide) (by decide) (tC.ot (by decide) (by decide) h4)) (xAr_u (xAr_u h5.1 (xRk (by have g0 := xRb (h5.1 33 3); omega))) (xRk (by have g0 := xRb (h5.1 33 4); omega))) (vGc.u (by omega) (by omega) (vGc.u (by omega) (by omega) (vGc.tr (vGc.u (by omega) (by omega) (vGc.u (by omega) (by omega) (vGc.u (by omega) (by omega) vGc.r))) h5.2.2.2))) (by rw [xUn (by decide), xUn (by decide), (h5.2.1.trans (by rw [xUn (by decide), xUa]))]) (by rw [xUn (by decide), xUn (by decide), (h5.2.2.1.trans (by rw [xUn (by decide), xUn (by decide), xUn (by decide), hm]))]) (by rw [xUn (by decide), xUn (by decide), h6]) (by unfold rCl; (repeat (first | rw [rSeq_00] | rw [rSeq_as] | rw [rSeq_0 (by assumption)] | rw [rSeq_n (by assumption) (by omega)] | rw [if_neg (by omega)] | rw [if_pos (by omega)])); all_goals (repeat' split); all_goals (first | (exfalso; omega) | assumption | rfl)) (by omega)
  · intro h0 h1 h2 h3 a2 f2 q2 h9 h10 h11 h12
    first | (exfalso; omega) | exact hF _ (f2) _ h9.1 (vGc.tr (vGc.u (by omega) (by omega) (vGc.u (by omega) (by omega) (vGc.u (by omega) (by omega) vGc.r))) h9.2.2.2) (h9.2.2.1.trans (by rw [xUn (by decide), xUn (by decide), xUn (by decide), hm])) h10 (by omega) (Prod.ext (by unfold rCl; (repeat (first | rw [rSeq_00] | rw [rSeq_as] | rw [rSeq_0 (by assumption)] | rw [rSeq_n (by assumption) (by omega)] | rw [if_neg (by omega)] | rw [if_pos (by omega)])); all_goals (repeat' split); all_goals (first | (exfalso; omega) | (dsimp only; exact rFst (by assumption)) | (dsimp only; omega) | omega)) rfl)
  · intro h0 h1 h2 h3
    first | (exfalso; omega) | exact hF _ (-1000 * 4 - p) _ (xAr_u hA (xRk (by omega))) (vGc.u (by omega) (by omega) vGc.r) (by rw [xUn (by decide), hm]) (by rw [xUa]) (by omega) (Prod.ext (by unfold rCl; (repeat (first | rw [rSeq_00] | rw [rSeq_as] | rw [rSeq_0 (by assumption)] | rw [rSeq_n (by assumption) (by omega)] | rw [if_neg (by omega)] | rw [if_pos (by omega)])); all_goals (repeat' split); all_goals (first | (exfalso; omega) | (dsimp only; exact rFst (by assumption)) | (dsimp only; omega) | omega)) rfl)
  · intro h0 h1 h18 h19
    first | (exfalso; omega) | exact hF _ (-1000 * 4 - p) _ (xAr_u hA (xRk (by omega))) (vGc.u (by omega) (by omega) vGc.r) (by rw [xUn (by decide), hm]) (by rw [xUa]) (by omega) (Prod.ext (by unfold rCl; (repeat (first | rw [rSeq_00] | rw [rSeq_as] | rw [rSeq_0 (by assumption)] | rw [rSeq_n (by assumption) (by omega)] | rw [if_neg (by omega)] | rw [if_pos (by omega)])); all_goals (repeat' split); all_goals (first | (exfalso; omega) | (dsimp only; exact rFst (by assumption)) | (dsimp only; omega) | omega)) rfl)
  · intro h0 h1 h18 h19 h20 a3 p3 h21 h22 h23 h24 h25 a5 p5 h32 h33 h34 h35 h36 a7 p7 h42 h43 h44 h45 h46
    first | (exfalso; omega) | exact hT _ (p7) (tC.ot (by decide) (by decide) (tC.ot (by decide) (by decide) h42)) (xAr_u (xAr_u h43.1 (xRk (by have g0 := xRb (h43.1 33 3); omega))) (xRk (by have g0 := xRb (h43.1 33 4); omega))) (vGc.u (by omega) (by omega) (vGc.u (by omega) (by omega) (vGc.tr (vGc.tr (vGc.u (by omega) (by omega) (vGc.u (by omega) (by omega) (vGc.tr (vGc.u (by omega) (by omega) (vGc.u (by omega) (by omega) (vGc.u (by omega) (by omega) vGc.r))) h22.2.2.2))) h33.2.2.2) h43.2.2.2))) (by rw [xUn (by decide), xUn (by decide), (h43.2.1.trans (h33.2.1.trans (by rw [xUn (by decide), xUn (by decide), (h22.2.1.trans (by rw [xUn (by decide), xUa]))])))]) (by rw [xUn (by decide), xUn (by decide), (h43.2.2.1.trans (h33.2.2.1.trans (by rw [xUn (by decide), xUn (by decide), (h22.2.2.1.trans (by rw [xUn (by decide), xUn (by decide), xUn (by decide), hm]))])))]) (by rw [xUn (by decide), xUn (by decide), h44]) (by unfold rCl; (repeat (first | rw [rSeq_00] | rw [rSeq_as] | rw [rSeq_0 (by assumption)] | rw [rSeq_n (by assumption) (by omega)] | rw [if_neg (by omega)] | rw [if_pos (by omega)])); all_goals (repeat' split); all_goals (first | (exfalso; omega) | assumption | rfl)) (by omega)
  · intro h0 h1 h18 h19 h20 a3 p3 h21 h22 h23 h24 h25 a5 p5 h32 h33 h34 h35 h36 a8 f8 q8 h47 h48 h49 h50
    first | (exfalso; omega) | exact hF _ (f8) _ h47.1 (vGc.tr (vGc.tr (vGc.u (by omega) (by omega) (vGc.u (by omega) (by omega) (vGc.tr (vGc.u (by omega) (by omega) (vGc.u (by omega) (by omega) (vGc.u (by omega) (by omega) vGc.r))) h22.2.2.2))) h33.2.2.2) h47.2.2.2) (h47.2.2.1.trans (h33.2.2.1.trans (by rw [xUn (by decide), xUn (by decide), (h22.2.2.1.trans (by rw [xUn (by decide), xUn (by decide), xUn (by decide), hm]))]))) h48 (by omega) (Prod.ext (by unfold rCl; (repeat (first | rw [rSeq_00] | rw [rSeq_as] | rw [rSeq_0 (by assumption)] | rw [rSeq_n (by assumption) (by omega)] | rw [if_neg (by omega)] | rw [if_pos (by omega)])); all_goals (repeat' split); all_goals (first | (exfalso; omega) | (dsimp only; exact rFst (by assumption)) | (dsimp only; omega) | omega)) rfl)
  · intro h0 h1 h18 h19 h20 a3 p3 h21 h22 h23 h24 h25 a6 f6 q6 h37 h38 h39 h40
    first | (exfalso; omega) | exact hF _ (f6) _ h37.1 (vGc.tr (vGc.u (by omega) (by omega) (vGc.u (by omega) (by omega) (vGc.tr (vGc.u (by omega) (by omega) (vGc.u (by omega) (by omega) (vGc.u (by omega) (by omega) vGc.r))) h22.2.2.2))) h37.2.2.2) (h37.2.2.1.trans (by rw [xUn (by decide), xUn (by decide), (h22.2.2.1.trans (by rw [xUn (by decide), xUn (by decide), xUn (by decide), hm]))])) h38 (by omega) (Prod.ext (by unfold rCl; (repeat (first | rw [rSeq_00] | rw [rSeq_as] | rw [rSeq_0 (by assumption)] | rw [rSeq_n (by assumption) (by omega)] | rw [if_neg (by omega)] | rw [if_pos (by omega)])); all_goals (repeat' split); all_goals (first | (exfalso; omega) | (dsimp only; exact rFst (by assumption)) | (dsimp only; omega) | omega)) rfl)
  · intro h0 h1 h18 h19 h20 a4 f4 q4 h26 h27 h28 h29
    first | (exfalso; omega) | exact hF _ (f4) _ h26.1 (vGc.tr (vGc.u (by omega) (by omega) (vGc.u (by omega) (by omega) (vGc.u (by omega) (by omega) vGc.r))) h26.2.2.2) (h26.2.2.1.trans (by rw [xUn (by decide), xUn (by decide), xUn (by decide), hm])) h27 (by omega) (Prod.ext (by unfold rCl; (repeat (first | rw [rSeq_00] | rw [rSeq_as] | rw [rSeq_0 (by assumption)] | rw [rSeq_n (by assumption) (by omega)] | rw [if_neg (by omega)] | rw [if_pos (by omega)])); all_goals (repeat' split); all_goals (first | (exfalso; omega) | (dsimp only; exact rFst (by assumption)) | (dsimp only; omega) | omega)) rfl)
  · intro h0 h1 h18 h19 h20
    first | (exfalso; omega) | exact hF _ (-1000 * 4 - p) _ (xAr_u hA (xRk (by omega))) (vGc.u (by omega) (by omega) vGc.r) (by rw [xUn (by decide), hm]) (by rw [xUa]) (by omega) (Prod.ext (by unfold rCl; (repeat (first | rw [rSeq_00] | rw [rSeq_as] | rw [rSeq_0 (by assumption)] | rw [rSeq_n (by assumption) (by omega)] | rw [if_neg (by omega)] | rw [if_pos (by omega)])); all_goals (repeat' split); all_goals (first | (exfalso; omega) | (dsimp only; exact rFst (by assumption)) | (dsimp only; omega) | omega)) rfl)
  · intro h0 h1 h18 h57 h58
    first | (exfalso; omega) | exact hF _ (-1000 * 4 - p) _ (xAr_u hA (xRk (by omega))) (vGc.u (by omega) (by omega) vGc.r) (by rw [xUn (by decide), hm]) (by rw [xUa]) (by omega) (Prod.ext (by unfold rCl; (repeat (first | rw [rSeq_00] | rw [rSeq_as] | rw [rSeq_0 (by assumption)] | rw [rSeq_n (by assumption) (by omega)] | rw [if_neg (by omega)] | rw [if_pos (by omega)])); all_goals (repeat' split); all_goals (first | (exfalso; omega) | (dsimp only; exact rFst (by assumption)) | (dsimp only; omega) | omega)) rfl)
  · intro h0 h1 h18 h57 h58 h59 a9 p9 h60 h61 h62 h63 h64 a11 p11 h72 h73 h74 h75 h76 a13 p13 h82 h83 h84 h85 h86 a15 p15 h94 h95 h96 h97 h98 a17 p17 h104 h105 h106 h107 h108
    first | (exfalso; omega) | exact hT _ (p17) h104 h105.1 (vGc.tr (vGc.tr (vGc.u (by omega) (by omega) (vGc.u (by omega) (by omega) (vGc.tr (vGc.tr (vGc.u (by omega) (by omega) (vGc.u (by omega) (by omega) (vGc.tr (vGc.u (by omega) (by omega) (vGc.u (by omega) (by omega) (vGc.u (by omega) (by omega) vGc.r))) h61.2.2.2))) h73.2.2.2) h83.2.2.2))) h95.2.2.2) h105.2.2.2) (h105.2.1.trans (h95.2.1.trans (by rw [xUn (by decide), xUn (by decide), (h83.2.1.trans (h73.2.1.trans (by rw [xUn (by decide), xUn (by decide), (h61.2.1.trans (by rw [xUn (by decide), xUa]))])))]))) (h105.2.2.1.trans (h95.2.2.1.trans (by rw [xUn (by decide), xUn (by decide), (h83.2.2.1.trans (h73.2.2.1.trans (by rw [xUn (by decide), xUn (by decide), (h61.2.2.1.trans (by rw [xUn (by decide), xUn (by decide), xUn (by decide), hm]))])))]))) h106 (by unfold rCl; (repeat (first | rw [rSeq_00] | rw [rSeq_as] | rw [rSeq_0 (by assumption)] | rw [rSeq_n (by assumption) (by omega)] | rw [if_neg (by omega)] | rw [if_pos (by omega)])); all_goals (repeat' split); all_goals (first | (exfalso; omega) | assumption | rfl)) (by omega)
  · intro h0 h1 h18 h57 h58 h59 a9 p9 h60 h61 h62 h63 h64 a11 p11 h72 h73 h74 h75 h76 a13 p13 h82 h83 h84 h85 h86 a15 p15 h94 h95 h96 h97 h98 a18 f18 q18 h109 h110 h111 h112
    first | (exfalso; omega) | exact hF _ (f18) _ h109.1 (vGc.tr (vGc.tr (vGc.u (by omega) (by omega) (vGc.u (by omega) (by omega) (vGc.tr (vGc.tr (vGc.u (by omega) (by omega) (vGc.u (by omega) (by omega) (vGc.tr (vGc.u (by omega) (by omega) (vGc.u (by omega) (by omega) (vGc.u (by omega) (by omega) vGc.r))) h61.2.2.2))) h73.2.2.2) h83.2.2.2))) h95.2.2.2) h109.2.2.2) (h109.2.2.1.trans (h95.2.2.1.trans (by rw [xUn (by decide), xUn (by decide), (h83.2.2.1.trans (h73.2.2.1.trans (by rw [xUn (by decide), xUn (by decide), (h61.2.2.1.trans (by rw [xUn (by decide), xUn (by decide), xUn (by decide), hm]))])))]))) h110 (by omega) (Prod.ext (by unfold rCl; (repeat (first | rw [rSeq_00] | rw [rSeq_as] | rw [rSeq_0 (by assumption)] | rw [rSeq_n (by assumption) (by omega)] | rw [if_neg (by omega)] | rw [if_pos (by omega)])); all_goals (repeat' split); all_goals (first | (exfalso; omega) | (dsimp only; exact rFst (by assumption)) | (dsimp only; omega) | omega)) rfl)
  · intro h0 h1 h18 h57 h58 h59 a9 p9 h60 h61 h62 h63 h64 a11 p11 h72 h73 h74 h75 h76 a13 p13 h82 h83 h84 h85 h86 a16 f16 q16 h99 h100 h101 h102
    first | (exfalso; omega) | exact hF _ (f16) _ h99.1 (vGc.tr (vGc.u (by omega) (by omega) (vGc.u (by omega) (by omega) (vGc.tr (vGc.tr (vGc.u (by omega) (by omega) (vGc.u (by omega) (by omega) (vGc.tr (vGc.u (by omega) (by omega) (vGc.u (by omega) (by omega) (vGc.u (by omega) (by omega) vGc.r))) h61.2.2.2))) h73.2.2.2) h83.2.2.2))) h99.2.2.2) (h99.2.2.1.trans (by rw [xUn (by decide), xUn (by decide), (h83.2.2.1.trans (h73.2.2.1.trans (by rw [xUn (by decide), xUn (by decide), (h61.2.2.1.trans (by rw [xUn (by decide), xUn (by decide), xUn (by decide), hm]))])))])) h100 (by omega) (Prod.ext (by unfold rCl; (repeat (first | rw [rSeq_00] | rw [rSeq_as] | rw [rSeq_0 (by assumption)] | rw [rSeq_n (by assumption) (by omega)] | rw [if_neg (by omega)] | rw [if_pos (by omega)])); all_goals (repeat' split); all_goals (first | (exfalso; omega) | (dsimp only; exact rFst (by assumption)) | (dsimp only; omega) | omega)) rfl)
  · intro h0 h1 h18 h57 h58 h59 a9 p9 h60 h61 h62 h63 h64 a11 p11 h72 h73 h74 h75 h76 a14 f14 q14 h87 h88 h89 h90
    first | (exfalso; omega) | exact hF _ (f14) _ h87.1 (vGc.tr (vGc.tr (vGc.u (by omega) (by omega) (vGc.u (by omega) (by omega) (vGc.tr (vGc.u (by omega) (by omega) (vGc.u (by omega) (by omega) (vGc.u (by omega) (by omega) vGc.r))) h61.2.2.2))) h73.2.2.2) h87.2.2.2) (h87.2.2.1.trans (h73.2.2.1.trans (by rw [xUn (by decide), xUn (by decide), (h61.2.2.1.trans (by rw [xUn (by decide), xUn (by decide), xUn (by decide), hm]))]))) h88 (by omega) (Prod.ext (by unfold rCl; (repeat (first | rw [rSeq_00] | rw [rSeq_as] | rw [rSeq_0 (by assumption)] | rw [rSeq_n (by assumption) (by omega)] | rw [if_neg (by omega)] | rw [if_pos (by omega)])); all_goals (repeat' split); all_goals (first | (exfalso; omega) | (dsimp only; exact rFst (by assumption)) | (dsimp only; omega) | omega)) rfl)
  · intro h0 h1 h18 h57 h58 h59 a9 p9 h60 h61 h62 h63 h64 a12 f12 q12 h77 h78 h79 h80
    first | (exfalso; omega) | exact hF _ (f12) _ h77.1 (vGc.tr (vGc.u (by omega) (by omega) (vGc.u (by omega) (by omega) (vGc.tr (vGc.u (by omega) (by omega) (vGc.u (by omega) (by omega) (vGc.u (by omega) (by omega) vGc.r))) h61.2.2.2))) h77.2.2.2) (h77.2.2.1.trans (by rw [xUn (by decide), xUn (by decide), (h61.2.2.1.trans (by rw [xUn (by decide), xUn (by decide), xUn (by decide), hm]))])) h78 (by omega) (Prod.ext (by unfold rCl; (repeat (first | rw [rSeq_00] | rw [rSeq_as] | rw [rSeq_0 (by assumption)] | rw [rSeq_n (by assumption) (by omega)] | rw [if_neg (by omega)] | rw [if_pos (by omega)])); all_goals (repeat' split); all_goals (first | (exfalso; omega) | (dsimp only; exact rFst (by assumption)) | (dsimp only; omega) | omega)) rfl)
  · intro h0 h1 h18 h57 h58 h59 a10 f10 q10 h65 h66 h67 h68
    first | (exfalso; omega) | exact hF _ (f10) _ h65.1 (vGc.tr (vGc.u (by omega) (by omega) (vGc.u (by omega) (by omega) (vGc.u (by omega) (by omega) vGc.r))) h65.2.2.2) (h65.2.2.1.trans (by rw [xUn (by decide), xUn (by decide), xUn (by decide), hm])) h66 (by omega) (Prod.ext (by unfold rCl; (repeat (first | rw [rSeq_00] | rw [rSeq_as] | rw [rSeq_0 (by assumption)] | rw [rSeq_n (by assumption) (by omega)] | rw [if_neg (by omega)] | rw [if_pos (by omega)])); all_goals (repeat' split); all_goals (first | (exfalso; omega) | (dsimp only; exact rFst (by assumption)) | (dsimp only; omega) | omega)) rfl)
  · intro h0 h1 h18 h57 h58 h59
    first | (exfalso; omega) | exact hF _ (-1000 * 4 - p) _ (xAr_u hA (xRk (by omega))) (vGc.u (by omega) (by omega) vGc.r) (by rw [xUn (by decide), hm]) (by rw [xUa]) (by omega) (Prod.ext (by unfold rCl; (repeat (first | rw [rSeq_00] | rw [rSeq_as] | rw [rSeq_0 (by assumption)] | rw [rSeq_n (by assumption) (by omega)] | rw [if_neg (by omega)] | rw [if_pos (by omega)])); all_goals (repeat' split); all_goals (first | (exfalso; omega) | (dsimp only; exact rFst (by assumption)) | (dsimp only; omega) | omega)) rfl)
  · intro h0 h1 h18 h57 h119 h120
    first | (exfalso; omega) | exact hF _ (-1000 * 4 - p) _ (xAr_u hA (xRk (by omega))) (vGc.u (by omega) (by omega) vGc.r) (by rw [xUn (by decide), hm]) (by rw [xUa]) (by omega) (Prod.ext (by unfold rCl; (repeat (first | rw [rSeq_00] | rw [rSeq_as] | rw [rSeq_0 (by assumption)] | rw [rSeq_n (by assumption) (by omega)] | rw [if_neg (by omega)] | rw [if_pos (by omega)])); all_goals (repeat' split); all_goals (first | (exfalso; omega) | (dsimp only; exact rFst (by assumption)) | (dsimp only; omega) | omega)) rfl)
  · intro h0 h1 h18 h57 h119 h120 h121 a19 p19 h122 h123 h124 h125 h126 a21 p21 h136 h137 h138 h139 h140 a23 p23 h146 h147 h148 h149 h150
    first | (exfalso; omega) | exact hT _ (p23) h146 h147.1 (vGc.tr (vGc.tr (vGc.u (by omega) (by omega) (vGc.u (by omega) (by omega) (vGc.tr (vGc.u (by omega) (by omega) (vGc.u (by omega) (by omega) (vGc.u (by omega) (by omega) vGc.r))) h123.2.2.2))) h137.2.2.2) h147.2.2.2) (h147.2.1.trans (h137.2.1.trans (by rw [xUn (by decide), xUn (by decide), (h123.2.1.trans (by rw [xUn (by decide), xUa]))]))) (h147.2.2.1.trans (h137.2.2.1.trans (by rw [xUn (by decide), xUn (by decide), (h123.2.2.1.trans (by rw [xUn (by decide), xUn (by decide), xUn (by decide), hm]))]))) h148 (by unfold rCl; (repeat (first | rw [rSeq_00] | rw [rSeq_as] | rw [rSeq_0 (by assumption)] | rw [rSeq_n (by assumption) (by omega)] | rw [if_neg (by omega)] | rw [if_pos (by omega)])); all_goals (repeat' split); all_goals (first | (exfalso; omega) | assumption | rfl)) (by omega)
  · intro h0 h1 h18 h57 h119 h120 h121 a19 p19 h122 h123 h124 h125 h126 a21 p21 h136 h137 h138 h139 h140 a24 f24 q24 h151 h152 h153 h154
    first | (exfalso; omega) | exact hF _ (f24) _ h151.1 (vGc.tr (vGc.tr (vGc.u (by omega) (by omega) (vGc.u (by omega) (by omega) (vGc.tr (vGc.u (by omega) (by omega) (vGc.u (by omega) (by omega) (vGc.u (by omega) (by omega) vGc.r))) h123.2.2.2))) h137.2.2.2) h151.2.2.2) (h151.2.2.1.trans (h137.2.2.1.trans (by rw [xUn (by decide), xUn (by decide), (h123.2.2.1.trans (by rw [xUn (by decide), xUn (by decide), xUn (by decide), hm]))]))) h152 (by omega) (Prod.ext (by unfold rCl; (repeat (first | rw [rSeq_00] | rw [rSeq_as] | rw [rSeq_0 (by assumption)] | rw [rSeq_n (by assumption) (by omega)] | rw [if_neg (by omega)] | rw [if_pos (by omega)])); all_goals (repeat' split); all_goals (first | (exfalso; omega) | (dsimp only; exact rFst (by assumption)) | (dsimp only; omega) | omega)) rfl)
  · intro h0 h1 h18 h57 h119 h120 h121 a19 p19 h122 h123 h124 h125 h126 a22 f22 q22 h141 h142 h143 h144
    first | (exfalso; omega) | exact hF _ (f22) _ h141.1 (vGc.tr (vGc.u (by omega) (by omega) (vGc.u (by omega) (by omega) (vGc.tr (vGc.u (by omega) (by omega) (vGc.u (by omega) (by omega) (vGc.u (by omega) (by omega) vGc.r))) h123.2.2.2))) h141.2.2.2) (h141.2.2.1.trans (by rw [xUn (by decide), xUn (by decide), (h123.2.2.1.trans (by rw [xUn (by decide), xUn (by decide), xUn (by decide), hm]))])) h142 (by omega) (Prod.ext (by unfold rCl; (repeat (first | rw [rSeq_00] | rw [rSeq_as] | rw [rSeq_0 (by assumption)] | rw [rSeq_n (by assumption) (by omega)] | rw [if_neg (by omega)] | rw [if_pos (by omega)])); all_goals (repeat' split); all_goals (first | (exfalso; omega) | (dsimp only; exact rFst (by assumption)) | (dsimp only; omega) | omega)) rfl)
  · intro h0 h1 h18 h57 h119 h120 h121 a20 f20 q20 h127 h128 h129 h130
    first | (exfalso; omega) | exact hF _ (f20) _ h127.1 (vGc.tr (vGc.u (by omega) (by omega) (vGc.u (by omega) (by omega) (vGc.u (by omega) (by omega) vGc.r))) h127.2.2.2) (h127.2.2.1.trans (by rw [xUn (by decide), xUn (by decide), xUn (by decide), hm])) h128 (by omega) (Prod.ext (by unfold rCl; (repeat (first | rw [rSeq_00] | rw [rSeq_as] | rw [rSeq_0 (by assumption)] | rw [rSeq_n (by assumption) (by omega)] | rw [if_neg (by omega)] | rw [if_pos (by omega)])); all_goals (repeat' split); all_goals (first | (exfalso; omega) | (dsimp only; exact rFst (by assumption)) | (dsimp only; omega) | omega)) rfl)
  · intro h0 h1 h18 h57 h119 h120 h121
    first | (exfalso; omega) | exact hF _ (-1000 * 4 - p) _ (xAr_u hA (xRk (by omega))) (vGc.u (by omega) (by omega) vGc.r) (by rw [xUn (by decide), hm]) (by rw [xUa]) (by omega) (Prod.ext (by unfold rCl; (repeat (first | rw [rSeq_00] | rw [rSeq_as] | rw [rSeq_0 (by assumption)] | rw [rSeq_n (by assumption) (by omega)] | rw [if_neg (by omega)] | rw [if_pos (by omega)])); all_goals (repeat' split); all_goals (first | (exfalso; omega) | (dsimp only; exact rFst (by assumption)) | (dsimp only; omega) | omega)) rfl)
  · intro h0 h1 h18 h57 h119
    first | (exfalso; omega) | exact hF _ (-1000 * 1 - p) _ (xAr_u hA (xRk (by omega))) (vGc.u (by omega) (by omega) vGc.r) (by rw [xUn (by decide), hm]) (by rw [xUa]) (by omega) (Prod.ext (by unfold rCl; (repeat (first | rw [rSeq_00] | rw [rSeq_as] | rw [rSeq_0 (by assumption)] | rw [rSeq_n (by assumption) (by omega)] | rw [if_neg (by omega)] | rw [if_pos (by omega)])); all_goals (repeat' split); all_goals (first | (exfalso; omega) | (dsimp only; exact rFst (by assumption)) | (dsimp only; omega) | omega)) rfl)

theorem wm48 {ro : Nat → Nat × (Nat → Int32)} {d : Nat} {Q : Option Value → pmS → Prop} {a : xA} {b : xB} {t : Int → Int} {n p : Int} (hC : tC a t n p) (hp : 0 ≤ p ∧ p ≤ n) (hn : n ≤ 60) (hb : tB t) (hA : xAr a) {c m : Int} (hc : a 33 2 = c) (hm : a 13 7 = m) (hc0 : 0 ≤ c ∧ c ≤ 4) (hm0 : 0 ≤ m ∧ m < 6) (hf : a 1 4 = 0) (hd : 5 ≤ d)
    (k1 : (60 ≤ c) → Q (some (xV 0)) (xS a b))
    (k2 : (¬ 60 ≤ c) → ∀ a1 : xA, ∀ p1 : Int, (tC a1 t n p1) → (xAr a1) → (vGc a a1) → (a1 33 2 = c + 1) → (a1 13 7 = m) → (a1 1 4 = 0) → (rCl t n p c = (0, p1)) → (p < p1 ∧ p1 ≤ n ∧ c < 4) → (p1 < n) → (sG t n p1 = 59) → (p1 < n) → pmWp ro d 1 48 1 15 [some (.ref 33), some (xV n), some (xV (c + 1))] [] (xS (xU a1 1 3 (p1 + 1)) b) Q)
    (k3 : (¬ 60 ≤ c) → ∀ a1 : xA, ∀ p1 : Int, (tC a1 t n p1) → (xAr a1) → (vGc a a1) → (a1 33 2 = c + 1) → (a1 13 7 = m) → (a1 1 4 = 0) → (rCl t n p c = (0, p1)) → (p < p1 ∧ p1 ≤ n ∧ c < 4) → (p1 < n) → (¬ sG t n p1 = 59) → Q (some (xV (-1000 * 1 - p1))) (xS (xU a1 1 4 (-1000 * 1 - p1)) b))
    (k4 : (¬ 60 ≤ c) → ∀ a1 : xA, ∀ p1 : Int, (tC a1 t n p1) → (xAr a1) → (vGc a a1) → (a1 33 2 = c + 1) → (a1 13 7 = m) → (a1 1 4 = 0) → (rCl t n p c = (0, p1)) → (p < p1 ∧ p1 ≤ n ∧ c < 4) → (¬ p1 < n) → Q (some (xV 0)) (xS a1 b))
    (k5 : (¬ 60 ≤ c) → ∀ a2 : xA, ∀ f2 : Int, ∀ q2 : Int, (xAr a2) → (vGc a a2) → (a2 13 7 = m) → (a2 1 4 = f2) → (f2 < 0 ∧ -10000 < f2) → (rCl t n p c = (f2, q2)) → Q (some (xV f2)) (xS a2 b)) :
    pmWp ro d 1 48 1 15 [some (.ref 33), some (xV n), some (xV c)] [] (xS a b) Q := by
  refine x_iloadn xc48_15 rfl ?_
  refine x_bipush xc48_16 (by decide) ?_
  refine x_icge xc48_18 (xRk (by omega)) (xRk (by decide)) (fun h0 => ?_) (fun h0 => ?_)
  · refine x_aloadn xc48_76 rfl ?_
    refine x_gfr xc48_77 rfl rfl xz33 rfl ?_
    refine x_gfi' (k := 4) (v := 0) xc48_80 rfl (Or.inl rfl) rfl xz1 hf ?_
    refine x_iret xc48_83 (Or.inl rfl) ?_
    exact k1 h0
  · refine x_aloadn xc48_21 rfl ?_
    refine x_cV (as := []) (rest := []) xc48_22 rfl xi49 xz33 ⟨rfl, rfl⟩ rfl rfl ?_
    refine xm49 hC (by omega) (by omega) hb hA hc hm (by omega) (by omega) hf (by omega) (fun a1 p1 h1 h2 h13 h3 h4 h5 h6 h7 => ?_) (fun a2 f2 q2 h8 h14 h9 h10 h11 h12 => ?_)
    · refine x_ifeq xc48_25 (xRk (by decide)) (fun h => absurd h (by omega)) (fun _ => ?_)
      refine x_aloadn xc48_28 rfl ?_
      refine x_gfr xc48_29 rfl rfl xz33 rfl ?_
      refine x_gfi' (k := 3) (v := p1) xc48_32 rfl (Or.inl rfl) rfl xz1 h1.2.2 ?_
      refine x_iloadn xc48_35 rfl ?_
      refine x_iclt xc48_36 (xRk (by omega)) (xRk (by omega)) (fun h16 => ?_) (fun h16 => ?_)
      · refine x_aloadn xc48_41 rfl ?_
        refine x_gfr xc48_42 rfl rfl xz33 rfl ?_
        refine x_bipush xc48_45 (by decide) ?_
        refine x_cV (as := [xV 59]) (rest := []) xc48_47 rfl xi44 xz1 ⟨rfl, rfl⟩ rfl rfl ?_
        refine xk44 h1 (by omega) (by omega) hb h2 (by omega) (by omega) (fun h17 h18 => ?_) (fun h19 => ?_)
        · refine x_ifne xc48_50 (xRk (by decide)) (fun _ => ?_) (fun h => absurd h (by omega))
          refine x_iinc (pl' := [some (.ref 33), some (xV n), some (xV (c + 1))]) xc48_70 rfl rfl ?_
          refine x_goto xc48_73 ?_
          exact k2 h0 a1 p1 h1 h2 h13 h3 h4 h5 h6 h7 h16 h17 h18
        · refine x_ifne xc48_50 (xRk (by decide)) (fun h => absurd h (by omega)) (fun _ => ?_)
          refine x_aloadn xc48_53 rfl ?_
          refine x_gfr xc48_54 rfl rfl xz33 rfl ?_
          refine x_iconst xc48_57 ?_
          refine x_cV (as := [xV 1]) (rest := []) xc48_58 rfl xi39 xz1 ⟨rfl, rfl⟩ rfl rfl ?_
          refine xk39 h1 (by omega) (by omega) hb h2 (xRk (by decide)) (by omega) ?_
          refine x_pop xc48_61 rfl ?_
          refine x_aloadn xc48_62 rfl ?_
          refine x_gfr xc48_63 rfl rfl xz33 rfl ?_
          refine x_gfi' (k := 4) (v := -1000 * 1 - p1) xc48_66 rfl (Or.inl rfl) rfl xz1 (by rw [xUa]) ?_
          refine x_iret xc48_69 (Or.inl rfl) ?_
          exact k3 h0 a1 p1 h1 h2 h13 h3 h4 h5 h6 h7 h16 h19
      · refine x_iconst xc48_39 ?_
        refine x_iret xc48_40 (Or.inl rfl) ?_
        exact k4 h0 a1 p1 h1 h2 h13 h3 h4 h5 h6 h7 h16
    · refine x_ifeq xc48_25 (xRk (by decide)) (fun _ => ?_) (fun h => absurd h (by omega))
      refine x_aloadn xc48_76 rfl ?_
      refine x_gfr xc48_77 rfl rfl xz33 rfl ?_
      refine x_gfi' (k := 4) (v := f2) xc48_80 rfl (Or.inl rfl) rfl xz1 h10 ?_
      refine x_iret xc48_83 (Or.inl rfl) ?_
      exact k5 h0 a2 f2 q2 h8 h14 h9 h10 h11 h12

theorem xm48l {ro : Nat → Nat × (Nat → Int32)} {d : Nat} {Q : Option Value → pmS → Prop} {a0 : xA} {b : xB} {t : Int → Int} {n m : Int} (hn : n ≤ 60) (hb : tB t) (hm0 : 0 ≤ m ∧ m < 6) (hd : 5 ≤ d) : ∀ (k : Nat) (a : xA) (c p : Int), vGc a0 a → 5 - c ≤ (k : Int) → tC a t n p → 0 ≤ p ∧ p ≤ n → xAr a → a 33 2 = c → a 13 7 = m → 0 ≤ c ∧ c ≤ 4 → a 1 4 = 0 →
    (∀ a1, xAr a1 → vGc a0 a1 → a1 13 7 = m → ((rLw t n k c p).1 = 0 → a1 33 2 = (rLw t n k c p).2 ∧ 1 ≤ (rLw t n k c p).2 ∧ (rLw t n k c p).2 ≤ 4) → (-10000 < (rLw t n k c p).1 ∧ (rLw t n k c p).1 ≤ 0) → Q (some (xV (rLw t n k c p).1)) (xS a1 b)) → pmWp ro d 1 48 1 15 [some (.ref 33), some (xV n), some (xV c)] [] (xS a b) Q := by
  intro k
  induction k with
  | zero =>
    intro a c p hV hk hC hp hA hc hm hc0 hf hQ
    exfalso
    omega
  | succ k ih =>
    intro a c p hV hk hC hp hA hc hm hc0 hf hQ
    refine wm48 hC hp hn hb hA hc hm hc0 hm0 hf hd (fun e => absurd e (by omega)) ?_ ?_ ?_ ?_
    · intro e a1 p1 h1 h2 hv h3 h4 h5 h6 h7 h8 h9 h10
      have er : rLw t n (k + 1) c p = rLw t n k (c + 1) (p1 + 1) := by
        show (if (rCl t n p c).1 = 0 then _ else _) = _
        rw [h6, if_pos rfl, if_neg (by omega), if_pos h9]
      rw [er] at hQ
      exact ih (xU a1 1 3 (p1 + 1)) (c + 1) (p1 + 1) (vGc.u (by decide) (fun e => absurd e (by decide)) (vGc.tr hV hv)) (by omega) h1.at (by omega) (xAr_u h2 ⟨by omega, by omega⟩) (by rw [xUn (by decide)]; exact h3) (by rw [xUn (by decide)]; exact h4) (by omega) (by rw [xUk (by decide)]; exact h5) hQ
    · intro e a1 p1 h1 h2 hv h3 h4 h5 h6 h7 h8 h9
      have er : rLw t n (k + 1) c p = (-1000 - p1, c + 1) := by
        show (if (rCl t n p c).1 = 0 then _ else _) = _
        rw [h6, if_pos rfl, if_neg (by omega), if_neg h9]
      rw [er] at hQ
      have := hQ (xU a1 1 4 (-1000 * 1 - p1)) (xAr_u h2 ⟨by omega, by omega⟩) (vGc.u (by decide) (fun e => absurd e (by decide)) (vGc.tr hV hv)) (by rw [xUn (by decide)]; exact h4) (fun e => by have e : -1000 - p1 = 0 := e; omega) (by show -10000 < -1000 - p1 ∧ -1000 - p1 ≤ 0; omega)
      rw [show (-1000 * 1 - p1 : Int) = -1000 - p1 by omega] at this ⊢
      exact this
    · intro e a1 p1 h1 h2 hv h3 h4 h5 h6 h7 h8
      have er : rLw t n (k + 1) c p = (0, c + 1) := by
        show (if (rCl t n p c).1 = 0 then _ else _) = _
        rw [h6, if_pos rfl, if_pos (by omega)]
      rw [er] at hQ
      exact hQ a1 h2 (vGc.tr hV hv) h4 (fun _ => ⟨h3, by show 1 ≤ c + 1 ∧ c + 1 ≤ 4; omega⟩) (by show (-10000 : Int) < 0 ∧ (0 : Int) ≤ 0; omega)
    · intro e a2 f2 q2 h1 hv h2 h3 h4 h5
      have er : rLw t n (k + 1) c p = (f2, c) := by
        show (if (rCl t n p c).1 = 0 then _ else _) = _
        rw [h5, if_neg (by show ¬ f2 = 0; omega)]
      rw [er] at hQ
      exact hQ a2 h1 (vGc.tr hV hv) h2 (fun e => by have e : f2 = 0 := e; omega) (by show -10000 < f2 ∧ f2 ≤ 0; omega)
theorem xm48 {ro : Nat → Nat × (Nat → Int32)} {d : Nat} {Q : Option Value → pmS → Prop} {a : xA} {b : xB} {n l m : Int} (hl : a 1 1 = l) (h0 : 1 ≤ n ∧ n ≤ l) (h1 : l ≤ 400) (hn : n ≤ 60) {t : Int → Int} (ht : ∀ j, 0 ≤ j → j < n → a 2 j = t j) (hb : tB t) (hm : a 13 7 = m) (hm0 : 0 ≤ m ∧ m < 6) (hA : xAr a) (hd : 6 ≤ d) (hQ : ∀ a1, xAr a1 → vGc a a1 → a1 13 7 = m → ((rLw t n 6 0 0).1 = 0 → a1 33 2 = (rLw t n 6 0 0).2 ∧ 1 ≤ (rLw t n 6 0 0).2 ∧ (rLw t n 6 0 0).2 ≤ 4) → (-10000 < (rLw t n 6 0 0).1 ∧ (rLw t n 6 0 0).1 ≤ 0) → Q (some (xV (rLw t n 6 0 0).1)) (xS a1 b)) : pmCs ro d 48 [.ref 33, xV n] (xS a b) Q := by
  refine pmCs_deep (d := 6) (xg48 (w48a hl (by omega) h1 hm (by decide) ?_)) hd
  refine xm48l (a0 := a) hn hb hm0 (by decide) 6 _ 0 0 ?_ (by decide) ⟨?_, ?_, ?_⟩ (by omega) ?_ ?_ ?_ (by decide) ?_ hQ
  · exact vGc.u (by decide) (fun e => absurd e (by decide)) (vGc.u (by decide) (fun e => absurd e (by decide)) (vGc.u (by decide) (fun e => absurd e (by decide)) (vGc.u (by decide) (fun e => absurd e (by decide)) vGc.r)))
  · intro j j0 j1
    rw [xUn (by decide), xUn (by decide), xUn (by decide), xUn (by decide)]
    exact ht j j0 j1
  · rw [xUn (by decide), xUk (by decide), xUk (by decide), xUa]
  · rw [xUn (by decide), xUk (by decide), xUa]
  · exact xAr_u (xAr_u (xAr_u (xAr_u hA ⟨by omega, by omega⟩) xR0) xR0) xR0
  · rw [xUa]
  · rw [xUn (by decide), xUn (by decide), xUn (by decide), xUn (by decide)]
    exact hm
  · rw [xUn (by decide), xUa]
section
variable {ro : Nat → Nat × (Nat → Int32)} {d : Nat} {Q : Option Value → pmS → Prop} {a : xA} {b : xB} {n m l : Int} {t : Int → Int}
/-- law of the class, with sizes and limits -/
theorem ym47 (h_n : xR n) (hg : a 0 12 = 0) (hm : a 13 7 = m) (hl : a 1 1 = l) (hm0 : 0 ≤ m ∧ m ≤ 6) (hl0 : 0 ≤ l ∧ l ≤ 400) (ht : ∀ j, 0 ≤ j → j < n → a 2 j = t j) (hb : tB t) (hA : xAr a) (hd : 8 ≤ d)
    (hR : ¬ (1 ≤ n ∧ n ≤ 60 ∧ m < 6 ∧ n ≤ l) → Q (some (xV (-1))) (xS a b))
    (hB : (1 ≤ n ∧ n ≤ 60 ∧ m < 6 ∧ n ≤ l) → ¬ (rLw t n 6 0 0).1 = 0 → ∀ a1, xAr a1 → vGc a a1 → a1 13 7 = m → a1 1 1 = 0 → Q (some (xV (rLw t n 6 0 0).1)) (xS a1 b))
    (hG : (1 ≤ n ∧ n ≤ 60 ∧ m < 6 ∧ n ≤ l) → (rLw t n 6 0 0).1 = 0 → ∀ a1, xAr a1 → (∀ j, 0 ≤ j → j < 24 → (0 ≤ a 19 j ∧ a 19 j ≤ 99) → 0 ≤ a1 19 j ∧ a1 19 j ≤ 99) → (∀ q j, ¬ q = 1 → ¬ q = 33 → ¬ (14 ≤ q ∧ q ≤ 19) → ¬ (q = 20 ∧ j = m) → ¬ (q = 13 ∧ j = 7) → a1 q j = a q j) → a1 13 7 = m + 1 → a1 1 1 = 0 → a1 20 m = (rLw t n 6 0 0).2 → Q (some (xV m)) (xS a1 b)) : pmCs ro d 47 [.ref 0, xV n] (xS a b) Q := by
  refine pmCs_deep (d := 8) (xg47 (w47 h_n hg hm hl (by decide) hm0 hl0 (fun e => absurd rfl e) (fun _ _ => hR (by omega)) (fun _ _ _ => hR (by omega)) (fun _ _ _ _ => hR (by omega)) (fun _ e1 e2 e3 e4 => ?_) (fun _ _ _ _ _ => hR (by omega)))) hd
  refine xm48 hl (by omega) hl0.2 (by omega) ht hb hm (by omega) hA (by decide) (fun a1 h1 hv h2 h3 h4 => ?_)
  by_cases hf : (rLw t n 6 0 0).1 = 0
  · obtain ⟨h5, h6, h7⟩ := h3 hf
    have hG' := hG (by omega) hf
    rw [hf]
    refine w47g h2 (by omega) h5 (by omega) (by decide) ?_
    refine hG' _ (xAr_u (xAr_u (xAr_u h1 xR0) ⟨by omega, by omega⟩) ⟨by omega, by omega⟩) (fun j j0 j1 g => ?_) (fun q j e1 e2 e3 e4 e5 => ?_) xUa ?_ ?_
    · rw [xUn (by decide), xUn (by decide), xUn (by decide)]
      exact hv.2 j j0 j1 g
    · unfold xU
      rw [if_neg (by omega), if_neg (by omega), if_neg (by omega)]
      exact hv.1 q j e1 e2 e3
    · rw [xUn (by decide), xUn (by decide), xUa]
    · rw [xUn (by decide), xUa]
  · refine w47f (m := m) ⟨h4.1, by omega⟩ (by decide) (fun e => absurd e hf) (fun _ => ?_)
    exact hB (by omega) hf _ (xAr_u h1 xR0) (vGc.u (by decide) (fun e => absurd e (by decide)) hv) (by rw [xUn (by decide)]; exact h2) xUa
end
end
