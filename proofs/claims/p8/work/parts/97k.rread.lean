/-! the reference reads a wish: what the machine answers -/
section
theorem wOp_N : ∀ S o : List Int, wOp (wPopN S o).1 ≤ wOp S
  | [], o => Int.le_refl _
  | x :: S, o => by
    unfold wPopN
    split
    · have h := wOp_N S (o ++ [1792])
      have e : wOp (x :: S) = wOp S + (if x = 7 ∨ x = 8 then 1 else 0) := rfl
      rw [e]
      split <;> omega
    · exact Int.le_refl _
theorem wOp_J (al : Bool) : ∀ S o : List Int, wOp (wPopJ al S o).1 = wOp S
  | [], o => rfl
  | x :: S, o => by
    unfold wPopJ
    split
    · rename_i h
      rw [wOp_J al S _, h, wOp5]
    · split
      · rename_i h
        rw [wOp_J al S _, h.2, wOp6]
      · rfl
theorem wMem_J (al : Bool) : ∀ S o : List Int, (8 : Int) ∈ S → (8 : Int) ∈ (wPopJ al S o).1
  | [], o, h => by cases h
  | x :: S, o, h => by
    unfold wPopJ
    split
    · rename_i e
      refine wMem_J al S _ ?_
      rcases List.mem_cons.mp h with g | g
      · omega
      · exact g
    · split
      · rename_i e
        refine wMem_J al S _ ?_
        rcases List.mem_cons.mp h with g | g
        · omega
        · exact g
      · exact h
theorem wHd_J : ∀ (S o : List Int) (x : Int) (T : List Int), (wPopJ true S o).1 = x :: T → ¬ x = 5 ∧ ¬ x = 6
  | [], o, x, T, h => by cases h
  | y :: S, o, x, T, h => by
    unfold wPopJ at h
    split at h
    · exact wHd_J S _ x T h
    · split at h
      · exact wHd_J S _ x T h
      · rename_i h1 h2
        have e : y = x := (List.cons.inj h).1
        rw [← e]
        exact ⟨h1, fun e => h2 ⟨rfl, e⟩⟩
variable {ro : Nat → Nat × (Nat → Int32)} {d : Nat} {Q : Option Value → pmS → Prop} {a0 : xA} {b : xB} {t : Int → Int} {n : Int}
theorem yl155 (hn : n ≤ 40) (hb : tB t) (hd : 4 ≤ d) : ∀ (m : Nat) (md : Bool) (p : Int) (S out : List Int) (a : xA) (v1 : Option Value) (r : Int ⊕ List Int), wRun t n m md p S out = some r → rW a0 a t n p S out → 0 ≤ p ∧ p ≤ n → (S.length : Int) + (out.length : Int) ≤ p → wOp S ≤ 6 →
    (∀ (a1 : xA) (f p1 : Int) (S1 out1 : List Int), r = .inl f → f < 0 ∧ -10000 < f → a1 87 12 = f → rW a0 a1 t n p1 S1 out1 → Q (some (xV 0)) (xS a1 b)) →
    (∀ (a1 : xA) (ts : List Int) (p1 : Int) (S1 : List Int), r = .inr ts → (ts.length : Int) ≤ n → rW a0 a1 t n p1 S1 ts → Q (some (xV 1)) (xS a1 b)) →
    pmWp ro d 12 155 2 (if md = true then 0 else 52) [some (.ref 87), v1] [] (xS a b) Q := by
  intro m
  induction m with
  | zero =>
    intro md p S out a v1 r hr
    cases hr
  | succ m ih =>
    intro md p S out a v1 r hr hW hp hl h6 hF hT
    have hB := wOpB S
    cases md with
    | true =>
      show pmWp ro d 12 155 2 0 [some (.ref 87), v1] [] (xS a b) Q
      have push : ∀ x : Int, (sG t n p = 33 ∧ x = 7 ∨ sG t n p = 40 ∧ x = 8) → ¬ wOp S = 6 → pmWp ro d 12 155 2 0 [some (.ref 87), v1] [] (xS (xU (xU (xU (xU a 87 13 (wOp S + 1)) 94 (S.length : Int) x) 87 14 ((S.length : Int) + 1)) 87 10 (p + 1)) b) Q := by
        intro x hx h6'
        have hpn : p < n := sGn (t := t) (by omega)
        refine ih true (p + 1) (x :: S) out _ v1 r ?_ (hW.opn rfl rfl (by omega) ⟨by omega, by omega⟩ ⟨by omega, by omega⟩ ⟨by omega, by omega⟩) (by omega) ?_ ?_ hF hT
        · rw [wR_o (by omega) h6'] at hr
          rcases hx with ⟨e1, e2⟩ | ⟨e1, e2⟩
          · rw [if_pos e1] at hr
            rw [e2]
            exact hr
          · rw [if_neg (by omega)] at hr
            rw [e2]
            exact hr
        · show ((S.length + 1 : Nat) : Int) + (out.length : Int) ≤ p + 1
          omega
        · show wOp S + (if x = 7 ∨ x = 8 then 1 else 0) ≤ 6
          rw [if_pos (by omega)]
          omega
      have many : (sG t n p = 33 ∨ sG t n p = 40) → wOp S = 6 → Q (some (xV 0)) (xS (xU a 87 12 (-1000 * 5 - p)) b) := by
        intro e e6
        rw [wR_f e e6] at hr
        refine hF _ (-1000 * 5 - p) p S out ?_ ⟨by omega, by omega⟩ xUa (hW.fd (Or.inl rfl) ⟨by omega, by omega⟩)
        rw [← Option.some.inj hr, show (-1000 * 5 - p : Int) = -5000 - p by omega]
      refine w155 hW.1 hp hn hb hW.2.1 (hW.2.1 94 ((S.length : Int) - 1)) hW.2.2.1 hW.2.2.2.2.1 hW.2.2.2.2.2.2.1 ⟨by omega, by omega⟩ ⟨by omega, by omega⟩ ⟨by omega, by omega⟩ rfl (by omega) ?_ ?_ ?_ ?_ ?_
      · intro _ e _ e6
        exact many (Or.inl e) e6
      · intro _ e _ e6
        exact push 7 (Or.inl ⟨e, rfl⟩) e6
      · intro _ e1 _ e2
        refine yk159 hp hn hb hW hl hd (fun a1 p1 c g1 g2 g3 => ?_) (fun a1 f p1 g1 g2 g3 g4 => ?_)
        · refine w155t ?_
          have e3 := wPopN_len S (out ++ [c])
          have e4 : (out ++ [c]).length = out.length + 1 := by
            rw [List.length_append]
            rfl
          have e5 := wOp_N S (out ++ [c])
          refine ih false p1 _ _ a1 v1 r ?_ g3 (by omega) (by omega) (by omega) hF hT
          rw [wR_a (by omega) g1] at hr
          exact hr
        · refine w155f ?_
          rw [wR_n (by omega) g1 g2.1] at hr
          exact hF a1 f p1 S out (Option.some.inj hr).symm g2 g3 g4
      · intro _ _ _ e _ e6
        exact many (Or.inr (by omega)) e6
      · intro _ _ _ e _ e6
        exact push 8 (Or.inr ⟨by omega, rfl⟩) e6
    | false =>
      show pmWp ro d 12 155 2 52 [some (.ref 87), v1] [] (xS a b) Q
      have and38 : sG t n p = 38 → pmCs ro d 165 [.ref 87, xV 0] (xS a b) fun r σ' => pmWp ro d 12 155 2 171 [some (.ref 87), some (xV (sG t n p))] (r.toList ++ []) σ' Q := by
        intro e
        have hpn : p < n := sGn (t := t) (by omega)
        rw [e]
        refine yk165 (fl := false) (Or.inl ⟨rfl, rfl⟩) hp hn hb hW hl (by omega) (fun a1 g => ?_)
        have e3 := wPopJ_len false S out
        have e4 := wOp_J false S out
        have e5 := wOpB (wPopJ false S out).1
        refine w155d38 g.1 hp hn hb g.2.1 (g.2.1 94 (((wPopJ false S out).1.length : Int) - 1)) g.2.2.1 g.2.2.2.2.1 g.2.2.2.2.2.2.1 ⟨by omega, by omega⟩ ⟨by omega, by omega⟩ ⟨by omega, by omega⟩ rfl ?_
        refine ih true (p + 1) (5 :: (wPopJ false S out).1) (wPopJ false S out).2 _ _ r ?_ (g.wait rfl (Or.inl rfl) ⟨by omega, by omega⟩ ⟨by omega, by omega⟩) (by omega) ?_ ?_ hF hT
        · rw [wR_38 e] at hr
          exact hr
        · show (((wPopJ false S out).1.length + 1 : Nat) : Int) + ((wPopJ false S out).2.length : Int) ≤ p + 1
          omega
        · rw [wOp5]
          omega
      have or124 : sG t n p = 124 → pmCs ro d 165 [.ref 87, xV 1] (xS a b) fun r σ' => pmWp ro d 12 155 2 171 [some (.ref 87), some (xV (sG t n p))] (r.toList ++ []) σ' Q := by
        intro e
        have hpn : p < n := sGn (t := t) (by omega)
        rw [e]
        refine yk165 (fl := true) (Or.inr ⟨rfl, rfl⟩) hp hn hb hW hl (by omega) (fun a1 g => ?_)
        have e3 := wPopJ_len true S out
        have e4 := wOp_J true S out
        have e5 := wOpB (wPopJ true S out).1
        refine w155d124 g.1 hp hn hb g.2.1 (g.2.1 94 (((wPopJ true S out).1.length : Int) - 1)) g.2.2.1 g.2.2.2.2.1 g.2.2.2.2.2.2.1 ⟨by omega, by omega⟩ ⟨by omega, by omega⟩ ⟨by omega, by omega⟩ rfl ?_
        refine ih true (p + 1) (6 :: (wPopJ true S out).1) (wPopJ true S out).2 _ _ r ?_ (g.wait rfl (Or.inr rfl) ⟨by omega, by omega⟩ ⟨by omega, by omega⟩) (by omega) ?_ ?_ hF hT
        · rw [wR_124 e] at hr
          exact hr
        · show (((wPopJ true S out).1.length + 1 : Nat) : Int) + ((wPopJ true S out).2.length : Int) ≤ p + 1
          omega
        · rw [wOp6]
          omega
      have bad : ¬ (sG t n p = 41 ∧ (8 : Int) ∈ S) → ¬ sG t n p = 38 → ¬ sG t n p = 124 → ¬ (sG t n p = -1 ∧ ¬ (8 : Int) ∈ S) → Q (some (xV 0)) (xS (xU a 87 12 (-1000 * 1 - p)) b) := by
        intro e1 e2 e3 e4
        rw [wR_b e1 e2 e3 e4] at hr
        refine hF _ (-1000 * 1 - p) p S out ?_ ⟨by omega, by omega⟩ xUa (hW.fd (Or.inl rfl) ⟨by omega, by omega⟩)
        rw [← Option.some.inj hr, show (-1000 * 1 - p : Int) = -1000 - p by omega]
      have fin : sG t n p = -1 → ¬ (8 : Int) ∈ S → pmCs ro d 165 [.ref 87, xV 1] (xS a b) fun r σ' => pmWp ro d 12 155 2 154 [some (.ref 87), some (xV (sG t n p))] (r.toList ++ []) σ' Q := by
        intro e e8
        refine yk165 (fl := true) (Or.inr ⟨rfl, rfl⟩) hp hn hb hW hl (by omega) (fun a1 g => ?_)
        refine w155e ?_
        have e3 := wPopJ_len true S out
        rw [wR_e e e8] at hr
        exact hT a1 _ p _ (Option.some.inj hr).symm (by omega) g
      have clo : sG t n p = 41 → (8 : Int) ∈ S → pmCs ro d 165 [.ref 87, xV 1] (xS a b) fun r σ' => pmWp ro d 12 155 2 73 [some (.ref 87), v1] (r.toList ++ []) σ' Q := by
        intro e e8
        have hpn : p < n := sGn (t := t) (by omega)
        refine yk165 (fl := true) (Or.inr ⟨rfl, rfl⟩) hp hn hb hW hl (by omega) (fun a1 g => ?_)
        have e3 := wPopJ_len true S out
        have e4 := wOp_J true S out
        have e6 := wMem_J true S out e8
        have e7 := wHd_J S out
        rw [wR_c e e8] at hr
        obtain ⟨q, hq⟩ : ∃ q, wPopJ true S out = q := ⟨_, rfl⟩
        obtain ⟨S1, o1⟩ := q
        rw [hq] at g e3 e4 e6 e7 hr
        cases S1 with
        | nil => cases e6
        | cons x T =>
          have e8' := e7 x T rfl
          have e9 := g.2.2.2.2.2.2.2.1 x List.mem_cons_self
          have eL : ((x :: T).length : Int) = (T.length : Int) + 1 := rfl
          have eO : wOp (x :: T) = wOp T + 1 := by
            show wOp T + (if x = 7 ∨ x = 8 then 1 else 0) = _
            rw [if_pos (by omega)]
          have eB := wOpB (x :: T)
          have e3' : (x :: T).length + o1.length = S.length + out.length := e3
          have e4' : wOp (x :: T) = wOp S := e4
          refine w155b g.1 hp hn hb g.2.1 (g.2.1 94 (((x :: T).length : Int) - 1)) g.2.2.1 g.2.2.2.2.1 g.2.2.2.2.2.2.1 ⟨by omega, by omega⟩ ⟨by omega, by omega⟩ ⟨by omega, by omega⟩ rfl ?_
          have hr' : wRun t n m false (p + 1) (wPopN T o1).1 (wPopN T o1).2 = some r := hr
          have g : rW a0 a1 t n p (x :: T) o1 := g
          have eL2 : ((x :: T).length : Int) + (o1.length : Int) ≤ p := by omega
          have g2 := rW.close g (by omega) rfl rfl ⟨by omega, by omega⟩ ⟨by omega, by omega⟩ ⟨by omega, by omega⟩
          refine yk162 (by omega) hn hb g2 (by omega) (by omega) (fun a2 g3 => ?_)
          refine w155c ?_
          have e10 := wPopN_len T o1
          have e11 := wOp_N T o1
          exact ih false (p + 1) (wPopN T o1).1 (wPopN T o1).2 a2 v1 r hr' g3 (by omega) (by omega) (by omega) hF hT
      refine w155a hW.1 hp hn hb hW.2.1 (hW.2.1 94 ((S.length : Int) - 1)) hW.2.2.1 hW.2.2.2.2.1 hW.2.2.2.2.2.2.1 ⟨by omega, by omega⟩ ⟨by omega, by omega⟩ ⟨by omega, by omega⟩ rfl (S := S) (fun Q g1 g0 => yk164 hp hn hb hW hl (by omega) g1 g0) (by omega) ?_ ?_ ?_ ?_ ?_ ?_ ?_ ?_ ?_ ?_ ?_
      · intro _ _ _ e
        exact and38 e
      · intro _ _ _ _ e
        exact or124 e
      · intro _ e1 _ e2 e3 e4
        exact bad (fun h => e1 h.1) e2 e3 (fun h => e4 h.1)
      · intro _ e1 _ e2 e3 e4 e5
        exact bad (fun h => e1 h.1) e2 e3 (fun h => h.2 e5)
      · intro _ e1 _ e2 e3 e4 e5
        exact fin (by omega) e5
      · intro _ e1 e2
        exact clo (by omega) e2
      · intro _ e1 e2 _ e3
        exact and38 e3
      · intro _ e1 e2 _ e3 e4
        exact or124 e4
      · intro _ e1 e2 _ e3 e4 e5
        exact bad (fun h => e2 h.2) e3 e4 (fun h => e5 h.1)
      · intro _ e1 e2 _ e3 e4 e5 e6
        exact absurd e6 e2
      · intro _ e1 e2 _ e3 e4 e5 e6
        exact fin (by omega) e2
/-- a wish's text read by the reference -/
theorem yk155 {a : xA} {m : Nat} {r : Int ⊕ List Int} (hn : n ≤ 40) (hn0 : 0 ≤ n) (hb : tB t) (hd : 5 ≤ d) (hr : wRun t n m true 0 [] [] = some r) (hW : rW a0 a t n 0 [] [])
    (hF : ∀ (a1 : xA) (f p1 : Int) (S1 out1 : List Int), r = .inl f → f < 0 ∧ -10000 < f → a1 87 12 = f → rW a0 a1 t n p1 S1 out1 → Q (some (xV 0)) (xS a1 b))
    (hT : ∀ (a1 : xA) (ts : List Int) (p1 : Int) (S1 : List Int), r = .inr ts → (ts.length : Int) ≤ n → rW a0 a1 t n p1 S1 ts → Q (some (xV 1)) (xS a1 b)) : pmCs ro d 155 [.ref 87] (xS a b) Q :=
  pmCs_deep (d := 5) (xg155 (yl155 hn hb (by decide) m true 0 [] [] a none r hr hW ⟨by decide, hn0⟩ (by decide) (by decide) hF hT)) hd
end
