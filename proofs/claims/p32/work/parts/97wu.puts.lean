/-! thing, hidden, believe, price: told in two ways -/
section
set_option maxRecDepth 100000


section
variable {ro : Nat → Nat × (Nat → Int32)} {d : Nat} {Q : Option Value → pmS → Prop} {x v g n bg p i k m : Int} {a : xA} {b : xB}
theorem vk20 (q1 : xR x) (hg : 0 ≤ g ∧ g ≤ 1) (hn : a 3 5 = n) (hn0 : 0 ≤ n ∧ n ≤ 5) (hb : a 0 12 = bg) (hbg : bg = 0 ∨ bg = 1) (hw : vWo n (a 3 4)) (hd : 4 ≤ d) (hY : bg = 0 ∧ n < 5 ∧ ((0 ≤ x ∧ x < 7) ∨ (10 ≤ x ∧ x < 14)) → Q (some (xV n)) (xS (xU (xU a 3 4 (vWn g n (a 3 4))) 3 5 (n + 1)) (xU b 21 4 (xWith (b 21 4) (4 + n) (vIw x))))) (hN : ¬ (bg = 0 ∧ n < 5 ∧ ((0 ≤ x ∧ x < 7) ∨ (10 ≤ x ∧ x < 14))) → Q (some (xV (-1))) (xS a b)) : pmCs ro d 20 [.ref 0, xV x, xV g] (xS a b) Q := by
  refine pmCs_deep (d := 4) (xg20 (wb20 q1 hg hn hn0 hb hbg hw (by decide) ?_ ?_ ?_ ?_ ?_ ?_ ?_ ?_ ?_ ?_ ?_ ?_)) hd
  · intro e0 e1
    first | (exfalso; omega) | exact hN (by omega)
  · intro e0 e1 e2
    first | (exfalso; omega) | exact hN (by omega)
  · intro e0 e1 e2 e3
    first | (exfalso; omega) | (exact hY (by omega))
  · intro e0 e1 e2 e3
    first | (exfalso; omega) | exact hN (by omega)
  · intro e0 e1 e2
    first | (exfalso; omega) | exact hN (by omega)
  · intro e0 e1 e2 e3
    first | (exfalso; omega) | exact hN (by omega)
  · intro e0 e1 e2 e3 e4
    first | (exfalso; omega) | (exact hY (by omega))
  · intro e0 e1 e2 e3 e4
    first | (exfalso; omega) | (exact hY (by omega))
  · intro e0 e1 e2
    first | (exfalso; omega) | exact hN (by omega)
  · intro e0 e1 e2 e3
    first | (exfalso; omega) | exact hN (by omega)
  · intro e0 e1 e2 e3 e4
    first | (exfalso; omega) | (exact hY (by omega))
  · intro e0 e1 e2 e3 e4
    first | (exfalso; omega) | exact hN (by omega)
theorem vk23 (q1 : xR v) (hg : 0 ≤ g ∧ g ≤ 1) (hn : a 3 5 = n) (hn0 : 0 ≤ n ∧ n ≤ 5) (hb : a 0 12 = bg) (hbg : bg = 0 ∨ bg = 1) (hw : vWo n (a 3 4)) (hd : 4 ≤ d) (hY : bg = 0 ∧ n < 5 ∧ (0 ≤ v ∧ v ≤ 127) ∧ 2 ≤ uBs v → Q (some (xV n)) (xS (xU (xU a 3 4 (vWn g n (a 3 4))) 3 5 (n + 1)) (xU (xU b 21 4 (xWith (b 21 4) (4 + n) 13)) 21 5 ((b 21 5) ||| (xShL (Int64.ofInt v) (7 * n)))))) (hN : ¬ (bg = 0 ∧ n < 5 ∧ (0 ≤ v ∧ v ≤ 127) ∧ 2 ≤ uBs v) → Q (some (xV (-1))) (xS a b)) : pmCs ro d 23 [.ref 0, xV v, xV g] (xS a b) Q := by
  refine pmCs_deep (d := 4) (xg23 (wb23 q1 hg hn hn0 hb hbg hw (by decide) ?_ ?_ ?_ ?_ ?_ ?_ ?_ ?_ ?_ ?_ ?_ ?_)) hd
  · intro e0 e1
    first | (exfalso; omega) | exact hN (by omega)
  · intro e0 e1 e2
    first | (exfalso; omega) | exact hN (by omega)
  · intro e0 e1 e2
    first | (exfalso; omega) | exact hN (by omega)
  · intro e0 e1 e2
    first | (exfalso; omega) | exact hN (by omega)
  · intro e0 e1 e2 e3
    first | (exfalso; omega) | exact hN (by omega)
  · intro e0 e1 e2 e3
    first | (exfalso; omega) | exact hN (by omega)
  · intro e0 e1 e2 e3
    first | (exfalso; omega) | exact hN (by omega)
  · intro e0 e1 e2 e3 e4
    first | (exfalso; omega) | exact hN (by omega)
  · intro e0 e1 e2 e3 e4
    first | (exfalso; omega) | exact hN (by omega)
  · intro e0 e1 e2 e3
    first | (exfalso; omega) | exact hN (by omega)
  · intro e0 e1 e2 e3 e4
    first | (exfalso; omega) | exact hN (by omega)
  · intro e0 e1 e2 e3 e4
    first | (exfalso; omega) | (exact hY (by omega))
theorem vk25 (q1 : xR p) (hg : g = 0 ∨ g = 1) (q2 : xR i) (q3 : xR x) (hn : a 3 5 = n) (hn0 : 0 ≤ n ∧ n ≤ 5) (hb : a 0 12 = bg) (hbg : bg = 0 ∨ bg = 1) (hd : 5 ≤ d)
    (hY1 : g = 1 → bg = 0 ∧ (1 ≤ p ∧ p < 4) ∧ (0 ≤ i ∧ i < 4) ∧ ¬ i = p ∧ (x = -1 ∨ (0 ≤ x ∧ x < 7)) → Q (some (xV 1)) (xS a (xU b 22 p (xWith (b 22 p) i (vIw x)))))
    (hY0 : g = 0 → bg = 0 ∧ (1 ≤ p ∧ p < 4) ∧ (0 ≤ i ∧ i < n) ∧ (x = -1 ∨ (0 ≤ x ∧ x < 7) ∨ ((10 ≤ x ∧ x < 14) ∧ ¬ x = 10 + p)) → Q (some (xV 1)) (xS a (xU b 22 p (xWith (b 22 p) (4 + i) (vIw x)))))
    (hN : ¬ (bg = 0 ∧ (1 ≤ p ∧ p < 4) ∧ ((g = 1 ∧ (0 ≤ i ∧ i < 4) ∧ ¬ i = p ∧ (x = -1 ∨ (0 ≤ x ∧ x < 7))) ∨ (g = 0 ∧ (0 ≤ i ∧ i < n) ∧ (x = -1 ∨ (0 ≤ x ∧ x < 7) ∨ ((10 ≤ x ∧ x < 14) ∧ ¬ x = 10 + p))))) → Q (some (xV 0)) (xS a b)) : pmCs ro d 25 [.ref 0, xV p, xV g, xV i, xV x] (xS a b) Q := by
  refine pmCs_deep (d := 5) (xg25 (wb25 q1 hg q2 q3 hb hbg (by decide) (fun e => hN (by omega)) (fun e0 hp => ?_) (fun e0 e1 => hN (by omega)))) hd
  have no : Q (some (xV 0)) (xS a b) → pmWp ro 4 11 25 2 20 [some (.ref 0), some (xV p), some (xV g), some (xV i), some (xV x), none] [xV 0] (xS a b) Q := fun h => wb25n hp q2 q3 (by decide) h
  have y1 : g = 1 → (0 ≤ i ∧ i < 4) → pmWp ro 4 11 25 2 20 [some (.ref 0), some (xV p), some (xV g), some (xV i), some (xV x), none] [xV 1] (xS a b) Q := by
    intro eg hi
    subst eg
    refine wb25y hp q2 q3 hi (by decide) ?_ ?_ ?_ ?_
    · intro e0 e1
      first | (exfalso; omega) | (exact hY1 rfl (by omega))
    · intro e0 e1 e2
      first | (exfalso; omega) | (exact hY1 rfl (by omega))
    · intro e0 e1 e2
      first | (exfalso; omega) | exact hN (by omega)
    · intro e0
      first | (exfalso; omega) | exact hN (by omega)
  have y0 : g = 0 → (0 ≤ i ∧ i < n) → pmWp ro 4 11 25 2 20 [some (.ref 0), some (xV p), some (xV g), some (xV i), some (xV x), none] [xV 1] (xS a b) Q := by
    intro eg hi
    subst eg
    refine wb25x hp q2 q3 ⟨hi.1, by omega⟩ (by decide) ?_ ?_ ?_ ?_ ?_ ?_ ?_ ?_ ?_ ?_ ?_ ?_
    · intro e0 e1
      first | (exfalso; omega) | (exact hY0 rfl (by omega))
    · intro e0 e1 e2
      first | (exfalso; omega) | (exact hY0 rfl (by omega))
    · intro e0 e1 e2
      first | (exfalso; omega) | exact hN (by omega)
    · intro e0 e1 e2 e3
      first | (exfalso; omega) | (exact hY0 rfl (by omega))
    · intro e0 e1 e2 e3 e4
      first | (exfalso; omega) | (exact hY0 rfl (by omega))
    · intro e0 e1 e2 e3 e4
      first | (exfalso; omega) | exact hN (by omega)
    · intro e0 e1 e2 e3
      first | (exfalso; omega) | (exact hY0 rfl (by omega))
    · intro e0 e1 e2 e3 e4
      first | (exfalso; omega) | (exact hY0 rfl (by omega))
    · intro e0 e1 e2 e3 e4
      first | (exfalso; omega) | (exact hY0 rfl (by omega))
    · intro e0 e1 e2
      first | (exfalso; omega) | (exact hY0 rfl (by omega))
    · intro e0 e1 e2 e3
      first | (exfalso; omega) | (exact hY0 rfl (by omega))
    · intro e0 e1 e2 e3
      first | (exfalso; omega) | exact hN (by omega)
  exact pmCs_deep (d := 3 + 1) (xg27 (w27 hg q2 hn hn0 (by decide) (fun _ _ => no (hN (by omega))) (fun _ _ _ => no (hN (by omega))) (fun e1 e2 e3 => y0 e1 (by omega)) (fun e1 e2 => y1 (by omega) e2) (fun _ _ => no (hN (by omega))))) (by decide)
theorem vk28 (q1 : xR k) (q2 : xR m) (hb : a 0 12 = bg) (hbg : bg = 0 ∨ bg = 1) (hd : 3 ≤ d) (hY : bg = 0 ∧ (1 ≤ k ∧ k ≤ 5) ∧ (1 ≤ m ∧ m ≤ 9) → Q (some (xV 1)) (xS (xU a 5 k (8 * m + 1)) b)) (hN : ¬ (bg = 0 ∧ (1 ≤ k ∧ k ≤ 5) ∧ (1 ≤ m ∧ m ≤ 9)) → Q (some (xV 0)) (xS a b)) : pmCs ro d 28 [.ref 0, xV k, xV m] (xS a b) Q :=
  pmCs_deep (d := 3) (xg28 (wb28 q1 q2 hb hbg (by decide) (fun _ => hN (by omega)) (fun _ _ => hN (by omega)) (fun _ _ _ => hN (by omega)) (fun _ _ _ _ => hN (by omega)) (fun _ _ _ _ _ => pmCs_deep (d := 1) (xg3 (wb3 (by omega) (by omega) (fun e => absurd e (by omega)) (fun _ e => absurd e (by omega)) (fun _ _ => wb28a (hY (by omega))))) (by decide)) (fun _ _ _ _ _ => hN (by omega)))) hd
theorem vk141 (q1 : xR x) (hg : 0 ≤ g ∧ g ≤ 1) (hA : xAr a) (hn : a 87 2 = n) (hn0 : 0 ≤ n ∧ n ≤ 5) (hb : a 87 4 = bg) (hbg : bg = 0 ∨ bg = 1) (hd : 4 ≤ d) (hY : bg = 0 ∧ n < 5 ∧ ((0 ≤ x ∧ x < 7) ∨ (10 ≤ x ∧ x < 14)) → Q (some (xV n)) (xS (xU (xU (xU a 88 (4 + n) x) 91 n g) 87 2 (n + 1)) b)) (hN : ¬ (bg = 0 ∧ n < 5 ∧ ((0 ≤ x ∧ x < 7) ∨ (10 ≤ x ∧ x < 14))) → Q (some (xV (-1))) (xS a b)) : pmCs ro d 141 [.ref 87, xV x, xV g] (xS a b) Q := by
  refine pmCs_deep (d := 4) (xg141 (wb141 q1 hg hA hn hn0 hb hbg (by decide) ?_ ?_ ?_ ?_ ?_)) hd
  · intro e0
    first | (exfalso; omega) | exact hN (by omega)
  · intro e0 e1
    first | (exfalso; omega) | exact hN (by omega)
  · intro e0 e1 e2
    first | (exfalso; omega) | (rw [show n + 1 - 1 = n by omega]; exact hY (by omega))
  · intro e0 e1 e2 e3
    first | (exfalso; omega) | (rw [show n + 1 - 1 = n by omega]; exact hY (by omega))
  · intro e0 e1 e2 e3
    first | (exfalso; omega) | exact hN (by omega)
theorem vk142 (q1 : xR v) (hg : 0 ≤ g ∧ g ≤ 1) (hA : xAr a) (hn : a 87 2 = n) (hn0 : 0 ≤ n ∧ n ≤ 5) (hb : a 87 4 = bg) (hbg : bg = 0 ∨ bg = 1) (hd : 4 ≤ d) (hY : bg = 0 ∧ n < 5 ∧ (0 ≤ v ∧ v ≤ 127) ∧ 2 ≤ uBs v → Q (some (xV n)) (xS (xU (xU (xU (xU a 88 (4 + n) 20) 88 (9 + n) v) 91 n g) 87 2 (n + 1)) b)) (hN : ¬ (bg = 0 ∧ n < 5 ∧ (0 ≤ v ∧ v ≤ 127) ∧ 2 ≤ uBs v) → Q (some (xV (-1))) (xS a b)) : pmCs ro d 142 [.ref 87, xV v, xV g] (xS a b) Q := by
  refine pmCs_deep (d := 4) (xg142 (wb142 q1 hg hA hn hn0 hb hbg (by decide) ?_ ?_ ?_ ?_ ?_)) hd
  · intro e0
    first | (exfalso; omega) | exact hN (by omega)
  · intro e0 e1
    first | (exfalso; omega) | exact hN (by omega)
  · intro e0 e1 e2 e3
    first | (exfalso; omega) | (rw [show n + 1 - 1 = n by omega]; exact hY (by omega))
  · intro e0 e1 e2 e3
    first | (exfalso; omega) | exact hN (by omega)
  · intro e0 e1 e2
    first | (exfalso; omega) | exact hN (by omega)
theorem vk145 (q1 : xR p) (hg : g = 0 ∨ g = 1) (q2 : xR i) (q3 : xR x) (hA : xAr a) (hn : a 87 2 = n) (hn0 : 0 ≤ n ∧ n ≤ 5) (hb : a 87 4 = bg) (hbg : bg = 0 ∨ bg = 1) (hd : 4 ≤ d)
    (hY1 : g = 1 → bg = 0 ∧ (1 ≤ p ∧ p < 4) ∧ (0 ≤ i ∧ i < 4) ∧ ¬ i = p ∧ (x = -1 ∨ (0 ≤ x ∧ x < 7)) → Q (some (xV 1)) (xS (xU a 88 (14 + (9 * (p - 1)) + 5 + i) x) b))
    (hY0 : g = 0 → bg = 0 ∧ (1 ≤ p ∧ p < 4) ∧ (0 ≤ i ∧ i < n) ∧ (x = -1 ∨ (0 ≤ x ∧ x < 7) ∨ ((10 ≤ x ∧ x < 14) ∧ ¬ x = 10 + p)) → Q (some (xV 1)) (xS (xU a 88 (14 + (9 * (p - 1)) + i) x) b))
    (hN : ¬ (bg = 0 ∧ (1 ≤ p ∧ p < 4) ∧ ((g = 1 ∧ (0 ≤ i ∧ i < 4) ∧ ¬ i = p ∧ (x = -1 ∨ (0 ≤ x ∧ x < 7))) ∨ (g = 0 ∧ (0 ≤ i ∧ i < n) ∧ (x = -1 ∨ (0 ≤ x ∧ x < 7) ∨ ((10 ≤ x ∧ x < 14) ∧ ¬ x = 10 + p))))) → Q (some (xV 0)) (xS a b)) : pmCs ro d 145 [.ref 87, xV p, xV g, xV i, xV x] (xS a b) Q := by
  refine pmCs_deep (d := 4) (xg145 (wb145 q1 hg q2 q3 hA hn hn0 hb hbg (by decide) ?_ ?_ ?_ ?_ ?_ ?_ ?_ ?_ ?_ ?_ ?_ ?_ ?_ ?_ ?_)) hd
  · intro e0
    first | (exfalso; omega) | exact hN (by omega)
  · intro e0 e1 e2 e3 e4 e5
    first | (exfalso; omega) | (exact hY0 (by omega) (by omega))
  · intro e0 e1 e2 e3 e4 e5
    first | (exfalso; omega) | exact hN (by omega)
  · intro e0 e1 e2 e3 e4 e5 e6
    first | (exfalso; omega) | (exact hY0 (by omega) (by omega))
  · intro e0 e1 e2 e3 e4 e5 e6
    first | (exfalso; omega) | exact hN (by omega)
  · intro e0 e1 e2 e3 e4 e5 e6 e7
    first | (exfalso; omega) | (exact hY0 (by omega) (by omega))
  · intro e0 e1 e2 e3 e4 e5 e6 e7
    first | (exfalso; omega) | exact hN (by omega)
  · intro e0 e1 e2 e3 e4 e5 e6
    first | (exfalso; omega) | exact hN (by omega)
  · intro e0 e1 e2 e3
    first | (exfalso; omega) | exact hN (by omega)
  · intro e0 e1 e2 e3 e4
    first | (exfalso; omega) | exact hN (by omega)
  · intro e0 e1 e2 e3 e4 e5
    first | (exfalso; omega) | (exact hY1 (by omega) (by omega))
  · intro e0 e1 e2 e3 e4 e5 e6
    first | (exfalso; omega) | (exact hY1 (by omega) (by omega))
  · intro e0 e1 e2 e3 e4 e5 e6
    first | (exfalso; omega) | exact hN (by omega)
  · intro e0 e1 e2 e3
    first | (exfalso; omega) | exact hN (by omega)
  · intro e0 e1
    first | (exfalso; omega) | exact hN (by omega)
theorem vk150 (q1 : xR k) (q2 : xR m) (hA : xAr a) (hn : a 87 2 = n) (hn0 : 0 ≤ n ∧ n ≤ 5) (hb : a 87 4 = bg) (hbg : bg = 0 ∨ bg = 1) (hd : 4 ≤ d) (hY : bg = 0 ∧ (1 ≤ k ∧ k ≤ 5) ∧ (1 ≤ m ∧ m ≤ 9) → Q (some (xV 1)) (xS (xU a 92 k m) b)) (hN : ¬ (bg = 0 ∧ (1 ≤ k ∧ k ≤ 5) ∧ (1 ≤ m ∧ m ≤ 9)) → Q (some (xV 0)) (xS a b)) : pmCs ro d 150 [.ref 87, xV k, xV m] (xS a b) Q := by
  refine pmCs_deep (d := 4) (xg150 (wb150 q1 q2 hA hn hn0 hb hbg (by decide) ?_ ?_ ?_ ?_)) hd
  · intro e0
    first | (exfalso; omega) | exact hN (by omega)
  · intro e0 e1 e2
    first | (exfalso; omega) | (exact hY (by omega))
  · intro e0 e1 e2
    first | (exfalso; omega) | exact hN (by omega)
  · intro e0 e1
    first | (exfalso; omega) | exact hN (by omega)
end
end
