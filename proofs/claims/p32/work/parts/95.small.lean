/-! exact: small methods; door -/
section
set_option maxRecDepth 100000
theorem xi14 : pmInf[14]? = some pmI_14 := rfl
theorem xi18 : pmInf[18]? = some pmI_18 := rfl
theorem xi26 : pmInf[26]? = some pmI_26 := rfl
theorem xi138 : pmInf[138]? = some pmI_138 := rfl
theorem xi140 : pmInf[140]? = some pmI_140 := rfl
theorem xi146 : pmInf[146]? = some pmI_146 := rfl
theorem xc14_0 : pmCode 14 0 = some (.iload_n 0) ∧ 0 + 1 = 1 := ⟨rfl, rfl⟩
theorem xc14_1 : pmCode 14 1 = some (.ifCond .lt 13) ∧ ((1 : Nat) : Int) + 13 = ((14 : Nat) : Int) ∧ 1 + 3 = 4 := ⟨rfl, rfl, rfl⟩
theorem xc14_4 : pmCode 14 4 = some (.iload_n 0) ∧ 4 + 1 = 5 := ⟨rfl, rfl⟩
theorem xc14_5 : pmCode 14 5 = some (.bipush 7) ∧ 5 + 2 = 7 := ⟨rfl, rfl⟩
theorem xc14_7 : pmCode 14 7 = some (.if_icmp .ge 7) ∧ ((7 : Nat) : Int) + 7 = ((14 : Nat) : Int) ∧ 7 + 3 = 10 := ⟨rfl, rfl, rfl⟩
theorem xc14_10 : pmCode 14 10 = some (.iconst 1) ∧ 10 + 1 = 11 := ⟨rfl, rfl⟩
theorem xc14_11 : pmCode 14 11 = some (.goto 4) ∧ ((11 : Nat) : Int) + 4 = ((15 : Nat) : Int) := ⟨rfl, rfl⟩
theorem xc14_14 : pmCode 14 14 = some (.iconst 0) ∧ 14 + 1 = 15 := ⟨rfl, rfl⟩
theorem xc14_15 : pmCode 14 15 = some .ireturn := rfl
theorem xc18_0 : pmCode 18 0 = some (.iload_n 0) ∧ 0 + 1 = 1 := ⟨rfl, rfl⟩
theorem xc18_1 : pmCode 18 1 = some (.ifCond .lt 12) ∧ ((1 : Nat) : Int) + 12 = ((13 : Nat) : Int) ∧ 1 + 3 = 4 := ⟨rfl, rfl, rfl⟩
theorem xc18_4 : pmCode 18 4 = some (.iload_n 0) ∧ 4 + 1 = 5 := ⟨rfl, rfl⟩
theorem xc18_5 : pmCode 18 5 = some (.iconst 4) ∧ 5 + 1 = 6 := ⟨rfl, rfl⟩
theorem xc18_6 : pmCode 18 6 = some (.if_icmp .ge 7) ∧ ((6 : Nat) : Int) + 7 = ((13 : Nat) : Int) ∧ 6 + 3 = 9 := ⟨rfl, rfl, rfl⟩
theorem xc18_9 : pmCode 18 9 = some (.iconst 1) ∧ 9 + 1 = 10 := ⟨rfl, rfl⟩
theorem xc18_10 : pmCode 18 10 = some (.goto 4) ∧ ((10 : Nat) : Int) + 4 = ((14 : Nat) : Int) := ⟨rfl, rfl⟩
theorem xc18_13 : pmCode 18 13 = some (.iconst 0) ∧ 13 + 1 = 14 := ⟨rfl, rfl⟩
theorem xc18_14 : pmCode 18 14 = some .ireturn := rfl
theorem xc26_0 : pmCode 26 0 = some (.iload_n 0) ∧ 0 + 1 = 1 := ⟨rfl, rfl⟩
theorem xc26_1 : pmCode 26 1 = some (.iconst 1) ∧ 1 + 1 = 2 := ⟨rfl, rfl⟩
theorem xc26_2 : pmCode 26 2 = some (.if_icmp .lt 12) ∧ ((2 : Nat) : Int) + 12 = ((14 : Nat) : Int) ∧ 2 + 3 = 5 := ⟨rfl, rfl, rfl⟩
theorem xc26_5 : pmCode 26 5 = some (.iload_n 0) ∧ 5 + 1 = 6 := ⟨rfl, rfl⟩
theorem xc26_6 : pmCode 26 6 = some (.iconst 4) ∧ 6 + 1 = 7 := ⟨rfl, rfl⟩
theorem xc26_7 : pmCode 26 7 = some (.if_icmp .ge 7) ∧ ((7 : Nat) : Int) + 7 = ((14 : Nat) : Int) ∧ 7 + 3 = 10 := ⟨rfl, rfl, rfl⟩
theorem xc26_10 : pmCode 26 10 = some (.iconst 1) ∧ 10 + 1 = 11 := ⟨rfl, rfl⟩
theorem xc26_11 : pmCode 26 11 = some (.goto 4) ∧ ((11 : Nat) : Int) + 4 = ((15 : Nat) : Int) := ⟨rfl, rfl⟩
theorem xc26_14 : pmCode 26 14 = some (.iconst 0) ∧ 14 + 1 = 15 := ⟨rfl, rfl⟩
theorem xc26_15 : pmCode 26 15 = some .ireturn := rfl
theorem xc138_0 : pmCode 138 0 = some (.iload_n 0) ∧ 0 + 1 = 1 := ⟨rfl, rfl⟩
theorem xc138_1 : pmCode 138 1 = some (.ifCond .lt 13) ∧ ((1 : Nat) : Int) + 13 = ((14 : Nat) : Int) ∧ 1 + 3 = 4 := ⟨rfl, rfl, rfl⟩
theorem xc138_4 : pmCode 138 4 = some (.iload_n 0) ∧ 4 + 1 = 5 := ⟨rfl, rfl⟩
theorem xc138_5 : pmCode 138 5 = some (.bipush 7) ∧ 5 + 2 = 7 := ⟨rfl, rfl⟩
theorem xc138_7 : pmCode 138 7 = some (.if_icmp .ge 7) ∧ ((7 : Nat) : Int) + 7 = ((14 : Nat) : Int) ∧ 7 + 3 = 10 := ⟨rfl, rfl, rfl⟩
theorem xc138_10 : pmCode 138 10 = some (.iconst 1) ∧ 10 + 1 = 11 := ⟨rfl, rfl⟩
theorem xc138_11 : pmCode 138 11 = some (.goto 4) ∧ ((11 : Nat) : Int) + 4 = ((15 : Nat) : Int) := ⟨rfl, rfl⟩
theorem xc138_14 : pmCode 138 14 = some (.iconst 0) ∧ 14 + 1 = 15 := ⟨rfl, rfl⟩
theorem xc138_15 : pmCode 138 15 = some .ireturn := rfl
theorem xc140_0 : pmCode 140 0 = some (.iload_n 0) ∧ 0 + 1 = 1 := ⟨rfl, rfl⟩
theorem xc140_1 : pmCode 140 1 = some (.ifCond .lt 12) ∧ ((1 : Nat) : Int) + 12 = ((13 : Nat) : Int) ∧ 1 + 3 = 4 := ⟨rfl, rfl, rfl⟩
theorem xc140_4 : pmCode 140 4 = some (.iload_n 0) ∧ 4 + 1 = 5 := ⟨rfl, rfl⟩
theorem xc140_5 : pmCode 140 5 = some (.iconst 3) ∧ 5 + 1 = 6 := ⟨rfl, rfl⟩
theorem xc140_6 : pmCode 140 6 = some (.if_icmp .gt 7) ∧ ((6 : Nat) : Int) + 7 = ((13 : Nat) : Int) ∧ 6 + 3 = 9 := ⟨rfl, rfl, rfl⟩
theorem xc140_9 : pmCode 140 9 = some (.iconst 1) ∧ 9 + 1 = 10 := ⟨rfl, rfl⟩
theorem xc140_10 : pmCode 140 10 = some (.goto 4) ∧ ((10 : Nat) : Int) + 4 = ((14 : Nat) : Int) := ⟨rfl, rfl⟩
theorem xc140_13 : pmCode 140 13 = some (.iconst 0) ∧ 13 + 1 = 14 := ⟨rfl, rfl⟩
theorem xc140_14 : pmCode 140 14 = some .ireturn := rfl
theorem xc146_0 : pmCode 146 0 = some (.iload_n 0) ∧ 0 + 1 = 1 := ⟨rfl, rfl⟩
theorem xc146_1 : pmCode 146 1 = some (.iconst 1) ∧ 1 + 1 = 2 := ⟨rfl, rfl⟩
theorem xc146_2 : pmCode 146 2 = some (.if_icmp .lt 12) ∧ ((2 : Nat) : Int) + 12 = ((14 : Nat) : Int) ∧ 2 + 3 = 5 := ⟨rfl, rfl, rfl⟩
theorem xc146_5 : pmCode 146 5 = some (.iload_n 0) ∧ 5 + 1 = 6 := ⟨rfl, rfl⟩
theorem xc146_6 : pmCode 146 6 = some (.iconst 3) ∧ 6 + 1 = 7 := ⟨rfl, rfl⟩
theorem xc146_7 : pmCode 146 7 = some (.if_icmp .gt 7) ∧ ((7 : Nat) : Int) + 7 = ((14 : Nat) : Int) ∧ 7 + 3 = 10 := ⟨rfl, rfl, rfl⟩
theorem xc146_10 : pmCode 146 10 = some (.iconst 1) ∧ 10 + 1 = 11 := ⟨rfl, rfl⟩
theorem xc146_11 : pmCode 146 11 = some (.goto 4) ∧ ((11 : Nat) : Int) + 4 = ((15 : Nat) : Int) := ⟨rfl, rfl⟩
theorem xc146_14 : pmCode 146 14 = some (.iconst 0) ∧ 14 + 1 = 15 := ⟨rfl, rfl⟩
theorem xc146_15 : pmCode 146 15 = some .ireturn := rfl
theorem xg14 {ro : Nat → Nat × (Nat → Int32)} {d : Nat} {Q : Option Value → pmS → Prop} {a : xA} {b : xB} {r : Int} (h : pmWp ro d 11 14 2 0 [some (xV r)] [] (xS a b) Q) : pmCs ro (d + 1) 14 [xV r] (xS a b) Q := x_go xi14 rfl rfl rfl rfl rfl h
theorem w14 {ro : Nat → Nat × (Nat → Int32)} {d : Nat} {Q : Option Value → pmS → Prop} {r : Int} {a : xA} {b : xB} (h_r : xR r)
    (k1 : (r < 0) → Q (some (xV 0)) (xS a b))
    (k2 : (¬ r < 0) → (7 ≤ r) → Q (some (xV 0)) (xS a b))
    (k3 : (¬ r < 0) → (¬ 7 ≤ r) → Q (some (xV 1)) (xS a b)) :
    pmWp ro d 11 14 2 0 [some (xV r)] [] (xS a b) Q := by
  refine x_iloadn xc14_0 rfl ?_
  refine x_iflt xc14_1 (xRk (by have g0 := xRb h_r; omega)) (fun h0 => ?_) (fun h0 => ?_)
  · refine x_iconst xc14_14 ?_
    refine x_iret xc14_15 (Or.inr ⟨rfl, (by omega)⟩) ?_
    exact k1 h0
  · refine x_iloadn xc14_4 rfl ?_
    refine x_bipush xc14_5 (by decide) ?_
    refine x_icge xc14_7 (xRk (by have g0 := xRb h_r; omega)) (xRk (by decide)) (fun h1 => ?_) (fun h1 => ?_)
    · refine x_iconst xc14_14 ?_
      refine x_iret xc14_15 (Or.inr ⟨rfl, (by omega)⟩) ?_
      exact k2 h0 h1
    · refine x_iconst xc14_10 ?_
      refine x_goto xc14_11 ?_
      refine x_iret xc14_15 (Or.inr ⟨rfl, (by omega)⟩) ?_
      exact k3 h0 h1

theorem xk14 {ro : Nat → Nat × (Nat → Int32)} {d : Nat} {Q : Option Value → pmS → Prop} {r : Int} {a : xA} {b : xB} (hd : 1 ≤ d) (h_r : xR r) (hT : 0 ≤ r ∧ r < 7 → Q (some (xV 1)) (xS a b)) (hF : ¬ (0 ≤ r ∧ r < 7) → Q (some (xV 0)) (xS a b)) : pmCs ro d 14 [xV r] (xS a b) Q := pmCs_deep (d := 1) (xg14 (w14 h_r (fun g0 => hF (by omega)) (fun g0 g1 => hF (by omega)) (fun g0 g1 => hT (by omega)))) hd
theorem xg138 {ro : Nat → Nat × (Nat → Int32)} {d : Nat} {Q : Option Value → pmS → Prop} {a : xA} {b : xB} {r : Int} (h : pmWp ro d 12 138 2 0 [some (xV r)] [] (xS a b) Q) : pmCs ro (d + 1) 138 [xV r] (xS a b) Q := x_go xi138 rfl rfl rfl rfl rfl h
theorem w138 {ro : Nat → Nat × (Nat → Int32)} {d : Nat} {Q : Option Value → pmS → Prop} {r : Int} {a : xA} {b : xB} (h_r : xR r)
    (k1 : (r < 0) → Q (some (xV 0)) (xS a b))
    (k2 : (¬ r < 0) → (7 ≤ r) → Q (some (xV 0)) (xS a b))
    (k3 : (¬ r < 0) → (¬ 7 ≤ r) → Q (some (xV 1)) (xS a b)) :
    pmWp ro d 12 138 2 0 [some (xV r)] [] (xS a b) Q := by
  refine x_iloadn xc138_0 rfl ?_
  refine x_iflt xc138_1 (xRk (by have g0 := xRb h_r; omega)) (fun h0 => ?_) (fun h0 => ?_)
  · refine x_iconst xc138_14 ?_
    refine x_iret xc138_15 (Or.inr ⟨rfl, (by omega)⟩) ?_
    exact k1 h0
  · refine x_iloadn xc138_4 rfl ?_
    refine x_bipush xc138_5 (by decide) ?_
    refine x_icge xc138_7 (xRk (by have g0 := xRb h_r; omega)) (xRk (by decide)) (fun h1 => ?_) (fun h1 => ?_)
    · refine x_iconst xc138_14 ?_
      refine x_iret xc138_15 (Or.inr ⟨rfl, (by omega)⟩) ?_
      exact k2 h0 h1
    · refine x_iconst xc138_10 ?_
      refine x_goto xc138_11 ?_
      refine x_iret xc138_15 (Or.inr ⟨rfl, (by omega)⟩) ?_
      exact k3 h0 h1

theorem xk138 {ro : Nat → Nat × (Nat → Int32)} {d : Nat} {Q : Option Value → pmS → Prop} {r : Int} {a : xA} {b : xB} (hd : 1 ≤ d) (h_r : xR r) (hT : 0 ≤ r ∧ r < 7 → Q (some (xV 1)) (xS a b)) (hF : ¬ (0 ≤ r ∧ r < 7) → Q (some (xV 0)) (xS a b)) : pmCs ro d 138 [xV r] (xS a b) Q := pmCs_deep (d := 1) (xg138 (w138 h_r (fun g0 => hF (by omega)) (fun g0 g1 => hF (by omega)) (fun g0 g1 => hT (by omega)))) hd
theorem xg18 {ro : Nat → Nat × (Nat → Int32)} {d : Nat} {Q : Option Value → pmS → Prop} {a : xA} {b : xB} {r : Int} (h : pmWp ro d 11 18 2 0 [some (xV r)] [] (xS a b) Q) : pmCs ro (d + 1) 18 [xV r] (xS a b) Q := x_go xi18 rfl rfl rfl rfl rfl h
theorem w18 {ro : Nat → Nat × (Nat → Int32)} {d : Nat} {Q : Option Value → pmS → Prop} {r : Int} {a : xA} {b : xB} (h_r : xR r)
    (k1 : (r < 0) → Q (some (xV 0)) (xS a b))
    (k2 : (¬ r < 0) → (4 ≤ r) → Q (some (xV 0)) (xS a b))
    (k3 : (¬ r < 0) → (¬ 4 ≤ r) → Q (some (xV 1)) (xS a b)) :
    pmWp ro d 11 18 2 0 [some (xV r)] [] (xS a b) Q := by
  refine x_iloadn xc18_0 rfl ?_
  refine x_iflt xc18_1 (xRk (by have g0 := xRb h_r; omega)) (fun h0 => ?_) (fun h0 => ?_)
  · refine x_iconst xc18_13 ?_
    refine x_iret xc18_14 (Or.inr ⟨rfl, (by omega)⟩) ?_
    exact k1 h0
  · refine x_iloadn xc18_4 rfl ?_
    refine x_iconst xc18_5 ?_
    refine x_icge xc18_6 (xRk (by have g0 := xRb h_r; omega)) (xRk (by decide)) (fun h1 => ?_) (fun h1 => ?_)
    · refine x_iconst xc18_13 ?_
      refine x_iret xc18_14 (Or.inr ⟨rfl, (by omega)⟩) ?_
      exact k2 h0 h1
    · refine x_iconst xc18_9 ?_
      refine x_goto xc18_10 ?_
      refine x_iret xc18_14 (Or.inr ⟨rfl, (by omega)⟩) ?_
      exact k3 h0 h1

theorem xk18 {ro : Nat → Nat × (Nat → Int32)} {d : Nat} {Q : Option Value → pmS → Prop} {r : Int} {a : xA} {b : xB} (hd : 1 ≤ d) (h_r : xR r) (hT : 0 ≤ r ∧ r < 4 → Q (some (xV 1)) (xS a b)) (hF : ¬ (0 ≤ r ∧ r < 4) → Q (some (xV 0)) (xS a b)) : pmCs ro d 18 [xV r] (xS a b) Q := pmCs_deep (d := 1) (xg18 (w18 h_r (fun g0 => hF (by omega)) (fun g0 g1 => hF (by omega)) (fun g0 g1 => hT (by omega)))) hd
theorem xg140 {ro : Nat → Nat × (Nat → Int32)} {d : Nat} {Q : Option Value → pmS → Prop} {a : xA} {b : xB} {r : Int} (h : pmWp ro d 12 140 2 0 [some (xV r)] [] (xS a b) Q) : pmCs ro (d + 1) 140 [xV r] (xS a b) Q := x_go xi140 rfl rfl rfl rfl rfl h
theorem w140 {ro : Nat → Nat × (Nat → Int32)} {d : Nat} {Q : Option Value → pmS → Prop} {r : Int} {a : xA} {b : xB} (h_r : xR r)
    (k1 : (r < 0) → Q (some (xV 0)) (xS a b))
    (k2 : (¬ r < 0) → (3 < r) → Q (some (xV 0)) (xS a b))
    (k3 : (¬ r < 0) → (¬ 3 < r) → Q (some (xV 1)) (xS a b)) :
    pmWp ro d 12 140 2 0 [some (xV r)] [] (xS a b) Q := by
  refine x_iloadn xc140_0 rfl ?_
  refine x_iflt xc140_1 (xRk (by have g0 := xRb h_r; omega)) (fun h0 => ?_) (fun h0 => ?_)
  · refine x_iconst xc140_13 ?_
    refine x_iret xc140_14 (Or.inr ⟨rfl, (by omega)⟩) ?_
    exact k1 h0
  · refine x_iloadn xc140_4 rfl ?_
    refine x_iconst xc140_5 ?_
    refine x_icgt xc140_6 (xRk (by have g0 := xRb h_r; omega)) (xRk (by decide)) (fun h1 => ?_) (fun h1 => ?_)
    · refine x_iconst xc140_13 ?_
      refine x_iret xc140_14 (Or.inr ⟨rfl, (by omega)⟩) ?_
      exact k2 h0 h1
    · refine x_iconst xc140_9 ?_
      refine x_goto xc140_10 ?_
      refine x_iret xc140_14 (Or.inr ⟨rfl, (by omega)⟩) ?_
      exact k3 h0 h1

theorem xk140 {ro : Nat → Nat × (Nat → Int32)} {d : Nat} {Q : Option Value → pmS → Prop} {r : Int} {a : xA} {b : xB} (hd : 1 ≤ d) (h_r : xR r) (hT : 0 ≤ r ∧ r < 4 → Q (some (xV 1)) (xS a b)) (hF : ¬ (0 ≤ r ∧ r < 4) → Q (some (xV 0)) (xS a b)) : pmCs ro d 140 [xV r] (xS a b) Q := pmCs_deep (d := 1) (xg140 (w140 h_r (fun g0 => hF (by omega)) (fun g0 g1 => hF (by omega)) (fun g0 g1 => hT (by omega)))) hd
theorem xg26 {ro : Nat → Nat × (Nat → Int32)} {d : Nat} {Q : Option Value → pmS → Prop} {a : xA} {b : xB} {r : Int} (h : pmWp ro d 11 26 2 0 [some (xV r)] [] (xS a b) Q) : pmCs ro (d + 1) 26 [xV r] (xS a b) Q := x_go xi26 rfl rfl rfl rfl rfl h
theorem w26 {ro : Nat → Nat × (Nat → Int32)} {d : Nat} {Q : Option Value → pmS → Prop} {r : Int} {a : xA} {b : xB} (h_r : xR r)
    (k1 : (r < 1) → Q (some (xV 0)) (xS a b))
    (k2 : (¬ r < 1) → (4 ≤ r) → Q (some (xV 0)) (xS a b))
    (k3 : (¬ r < 1) → (¬ 4 ≤ r) → Q (some (xV 1)) (xS a b)) :
    pmWp ro d 11 26 2 0 [some (xV r)] [] (xS a b) Q := by
  refine x_iloadn xc26_0 rfl ?_
  refine x_iconst xc26_1 ?_
  refine x_iclt xc26_2 (xRk (by have g0 := xRb h_r; omega)) (xRk (by decide)) (fun h0 => ?_) (fun h0 => ?_)
  · refine x_iconst xc26_14 ?_
    refine x_iret xc26_15 (Or.inr ⟨rfl, (by omega)⟩) ?_
    exact k1 h0
  · refine x_iloadn xc26_5 rfl ?_
    refine x_iconst xc26_6 ?_
    refine x_icge xc26_7 (xRk (by have g0 := xRb h_r; omega)) (xRk (by decide)) (fun h1 => ?_) (fun h1 => ?_)
    · refine x_iconst xc26_14 ?_
      refine x_iret xc26_15 (Or.inr ⟨rfl, (by omega)⟩) ?_
      exact k2 h0 h1
    · refine x_iconst xc26_10 ?_
      refine x_goto xc26_11 ?_
      refine x_iret xc26_15 (Or.inr ⟨rfl, (by omega)⟩) ?_
      exact k3 h0 h1

theorem xk26 {ro : Nat → Nat × (Nat → Int32)} {d : Nat} {Q : Option Value → pmS → Prop} {r : Int} {a : xA} {b : xB} (hd : 1 ≤ d) (h_r : xR r) (hT : 1 ≤ r ∧ r < 4 → Q (some (xV 1)) (xS a b)) (hF : ¬ (1 ≤ r ∧ r < 4) → Q (some (xV 0)) (xS a b)) : pmCs ro d 26 [xV r] (xS a b) Q := pmCs_deep (d := 1) (xg26 (w26 h_r (fun g0 => hF (by omega)) (fun g0 g1 => hF (by omega)) (fun g0 g1 => hT (by omega)))) hd
theorem xg146 {ro : Nat → Nat × (Nat → Int32)} {d : Nat} {Q : Option Value → pmS → Prop} {a : xA} {b : xB} {r : Int} (h : pmWp ro d 12 146 2 0 [some (xV r)] [] (xS a b) Q) : pmCs ro (d + 1) 146 [xV r] (xS a b) Q := x_go xi146 rfl rfl rfl rfl rfl h
theorem w146 {ro : Nat → Nat × (Nat → Int32)} {d : Nat} {Q : Option Value → pmS → Prop} {r : Int} {a : xA} {b : xB} (h_r : xR r)
    (k1 : (r < 1) → Q (some (xV 0)) (xS a b))
    (k2 : (¬ r < 1) → (3 < r) → Q (some (xV 0)) (xS a b))
    (k3 : (¬ r < 1) → (¬ 3 < r) → Q (some (xV 1)) (xS a b)) :
    pmWp ro d 12 146 2 0 [some (xV r)] [] (xS a b) Q := by
  refine x_iloadn xc146_0 rfl ?_
  refine x_iconst xc146_1 ?_
  refine x_iclt xc146_2 (xRk (by have g0 := xRb h_r; omega)) (xRk (by decide)) (fun h0 => ?_) (fun h0 => ?_)
  · refine x_iconst xc146_14 ?_
    refine x_iret xc146_15 (Or.inr ⟨rfl, (by omega)⟩) ?_
    exact k1 h0
  · refine x_iloadn xc146_5 rfl ?_
    refine x_iconst xc146_6 ?_
    refine x_icgt xc146_7 (xRk (by have g0 := xRb h_r; omega)) (xRk (by decide)) (fun h1 => ?_) (fun h1 => ?_)
    · refine x_iconst xc146_14 ?_
      refine x_iret xc146_15 (Or.inr ⟨rfl, (by omega)⟩) ?_
      exact k2 h0 h1
    · refine x_iconst xc146_10 ?_
      refine x_goto xc146_11 ?_
      refine x_iret xc146_15 (Or.inr ⟨rfl, (by omega)⟩) ?_
      exact k3 h0 h1

theorem xk146 {ro : Nat → Nat × (Nat → Int32)} {d : Nat} {Q : Option Value → pmS → Prop} {r : Int} {a : xA} {b : xB} (hd : 1 ≤ d) (h_r : xR r) (hT : 1 ≤ r ∧ r < 4 → Q (some (xV 1)) (xS a b)) (hF : ¬ (1 ≤ r ∧ r < 4) → Q (some (xV 0)) (xS a b)) : pmCs ro d 146 [xV r] (xS a b) Q := pmCs_deep (d := 1) (xg146 (w146 h_r (fun g0 => hF (by omega)) (fun g0 g1 => hF (by omega)) (fun g0 g1 => hT (by omega)))) hd
end
