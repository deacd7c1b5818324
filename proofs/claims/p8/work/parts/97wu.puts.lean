section
/-! thing, hidden, believe, price: told in two ways -/
section
set_option maxRecDepth 100000


section
variable {ro : Nat → Nat × (Nat → Int32)} {d : Nat} {Q : Option Value → pmS → Prop} {x v g n bg p i k m : Int} {a : xA} {b : xB}
theorem vk20 (q1 : xR x) (hg : 0 ≤ g ∧ g ≤ 1) (hn : a 3 5 = n) (hn0 : 0 ≤ n ∧ n ≤ 5) (hb : a 0 12 = bg) (hbg : bg = 0 ∨ bg = 1) (hw : vWo n (a 3 4)) (hd : 4 ≤ d) (hY : bg = 0 ∧ n < 5 ∧ ((0 ≤ x ∧ x < 7) ∨ (10 ≤ x ∧ x < 14)) → Q (some (xV n)) (xS (xU (xU a 3 4 (vWn g n (a 3 4))) 3 5 (n + 1)) (xU b 21 4 (xWith (b 21 4) (4 + n) (vIw x))))) (hN : ¬ (bg = 0 ∧ n < 5 ∧ ((0 ≤ x ∧ x < 7) ∨ (10 ≤ x ∧ x < 14))) → Q (some (xV (-1))) (xS a b)) : pmCs ro d 20 [.ref 0, xV x, xV g] (xS a b) Q := by
  refine pmCs_deep (d := 4) (xg20 (wb20 q1 hg hn hn0 hb hbg hw (by decide) ?_ ?_ ?_ ?_ ?_ ?_ ?_ ?_ ?_ ?_ ?_ ?_)) hd
  · intro e0 e1
    first | (exfalso; omega) | exact hN (by omega)
  · intro e0 e1 e2
    first | (exfalso; omega) | exact hN (by omega)
  · intro e0 e1 e2 e3
    first | (exfalso; omega) | (exact hY (by omega))
  · intro e0 e1 e2 e3
    first | (exfalso; omega) | exact hN (by omega)
  · intro e0 e1 e2
    first | (exfalso; omega) | exact hN (by omega)
  · intro e0 e1 e2 e3
    first | (exfalso; omega) | exact hN (by omega)
  · intro e0 e1 e2 e3 e4
    first | (exfalso; omega) | (exact hY (by omega))
  · intro e0 e1 e2 e3 e4
    first | (exfalso; omega) | (exact hY (by omega))
  · intro e0 e1 e2
    first | (exfalso; omega) | exact hN (by omega)
  · intro e0 e1 e2 e3
    first | (exfalso; omega) | exact hN (by omega)
  · intro e0 e1 e2 e3 e4
    first | (exfalso; omega) | (exact hY (by omega))
  · intro e0 e1 e2 e3 e4
    first | (exfalso; omega) | exact hN (by omega)
theorem vk23 (q1 : xR v) (hg : 0 ≤ g ∧ g ≤ 1) (hn : a 3 5 = n) (hn0 : 0 ≤ n ∧ n ≤ 5) (hb : a 0 12 = bg) (hbg : bg = 0 ∨ bg = 1) (hw : vWo n (a 3 4)) (hd : 4 ≤ d) (hY : bg = 0 ∧ n < 5 ∧ (0 ≤ v ∧ v ≤ 127) ∧ 2 ≤ uBs v → Q (some (xV n)) (xS (xU (xU a 3 4 (vWn g n (a 3 4))) 3 5 (n + 1)) (xU (xU b 21 4 (xWith (b 21 4) (4 + n) 13)) 21 5 ((b 21 5) ||| (xShL (Int64.ofInt v) (7 * n)))))) (hN : ¬ (bg = 0 ∧ n < 5 ∧ (0 ≤ v ∧ v ≤ 127) ∧ 2 ≤ uBs v) → Q (some (xV (-1))) (xS a b)) : pmCs ro d 23 [.ref 0, xV v, xV g] (xS a b) Q := by
  refine pmCs_deep (d := 4) (xg23 (wb23 q1 hg hn hn0 hb hbg hw (by decide) ?_ ?_ ?_ ?_ ?_ ?_ ?_ ?_ ?_ ?_ ?_ ?_)) hd
  · intro e0 e1
    first | (exfalso; omega) | exact hN (by omega)
  · intro e0 e1 e2
    first | (exfalso; omega) | exact hN (by omega)
  · intro e0 e1 e2
    first | (exfalso; omega) | exact hN (by omega)
  · intro e0 e1 e2
    first | (exfalso; omega) | exact hN (by omega)
  · intro e0 e1 e2 e3
    first | (exfalso; omega) | exact hN (by omega)
  · intro e0 e1 e2 e3
    first | (exfalso; omega) | exact hN (by omega)
  · intro e0 e1 e2 e3
    first | (exfalso; omega) | exact hN (by omega)
  · intro e0 e1 e2 e3 e4
    first | (exfalso; omega) | exact hN (by omega)
  · intro e0 e1 e2 e3 e4
    first | (exfalso; omega) | exact hN (by omega)
  · intro e0 e1 e2 e3
    first | (exfalso; omega) | exact hN (by omega)
  · intro e0 e1 e2 e3 e4
    first | (exfalso; omega) | exact hN (by omega)
  · intro e0 e1 e2 e3 e4
    first | (exfalso; omega) | (exact hY (by omega))
theorem vk25 (q1 : xR p) (hg : g = 0 ∨ g = 1) (q2 : xR i) (q3 : xR x) (hn : a 3 5 = n) (hn0 : 0 ≤ n ∧ n ≤ 5) (hb : a 0 12 = bg) (hbg : bg = 0 ∨ bg = 1) (hd : 5 ≤ d)
    (hY1 : g = 1 → bg = 0 ∧ (1 ≤ p ∧ p < 4) ∧ (0 ≤ i ∧ i < 4) ∧ ¬ i = p ∧ (x = -1 ∨ (0 ≤ x ∧ x < 7)) → Q (some (xV 1)) (xS a (xU b 22 p (xWith (b 22 p) i (vIw x)))))
    (hY0 : g = 0 → bg = 0 ∧ (1 ≤ p ∧ p < 4) ∧ (0 ≤ i ∧ i < n) ∧ (x = -1 ∨ (0 ≤ x ∧ x < 7) ∨ ((10 ≤ x ∧ x < 14) ∧ ¬ x = 10 + p)) → Q (some (xV 1)) (xS a (xU b 22 p (xWith (b 22 p) (4 + i) (vIw x)))))
    (hN : ¬ (bg = 0 ∧ (1 ≤ p ∧ p < 4) ∧ ((g = 1 ∧ (0 ≤ i ∧ i < 4) ∧ ¬ i = p ∧ (x = -1 ∨ (0 ≤ x ∧ x < 7))) ∨ (g = 0 ∧ (0 ≤ i ∧ i < n) ∧ (x = -1 ∨ (0 ≤ x ∧ x < 7) ∨ ((10 ≤ x ∧ x < 14) ∧ ¬ x = 10 + p))))) → Q (some (xV 0)) (xS a b)) : pmCs ro d 25 [.ref 0, xV p, xV g, xV i, xV x] (xS a b) Q := by
  refine pmCs_deep (d := 5) (xg25 (wb25 q1 hg q2 q3 hb hbg (by decide) (fun e => hN (by omega)) (fun e0 hp => ?_) (fun e0 e1 => hN (by omega)))) hd
  have no : Q (some (xV 0)) (xS a b) → pmWp ro 4 11 25 2 20 [some (.ref 0), some (xV p), some (xV g), some (xV i), some (xV x), none] [xV 0] (xS a b) Q := fun h => wb25n hp q2 q3 (by decide) h
  have y1 : g = 1 → (0 ≤ i ∧ i < 4) → pmWp ro 4 11 25 2 20 [some (.ref 0), some (xV p), some (xV g), some (xV i), some (xV x), none] [xV 1] (xS a b) Q := by
    intro eg hi
    subst eg
    refine wb25y hp q2 q3 hi (by decide) ?_ ?_ ?_ ?_
    · intro e0 e1
      first | (exfalso; omega) | (exact hY1 rfl (by omega))
    · intro e0 e1 e2
      first | (exfalso; omega) | (exact hY1 rfl (by omega))
    · intro e0 e1 e2
      first | (exfalso; omega) | exact hN (by omega)
    · intro e0
      first | (exfalso; omega) | exact hN (by omega)
  have y0 : g = 0 → (0 ≤ i ∧ i < n) → pmWp ro 4 11 25 2 20 [some (.ref 0), some (xV p), some (xV g), some (xV i), some (xV x), none] [xV 1] (xS a b) Q := by
    intro eg hi
    subst eg
    refine wb25x hp q2 q3 ⟨hi.1, by omega⟩ (by decide) ?_ ?_ ?_ ?_ ?_ ?_ ?_ ?_ ?_ ?_ ?_ ?_
    · intro e0 e1
      first | (exfalso; omega) | (exact hY0 rfl (by omega))
    · intro e0 e1 e2
      first | (exfalso; omega) | (exact hY0 rfl (by omega))
    · intro e0 e1 e2
      first | (exfalso; omega) | exact hN (by omega)
    · intro e0 e1 e2 e3
      first | (exfalso; omega) | (exact hY0 rfl (by omega))
    · intro e0 e1 e2 e3 e4
      first | (exfalso; omega) | (exact hY0 rfl (by omega))
    · intro e0 e1 e2 e3 e4
      first | (exfalso; omega) | exact hN (by omega)
    · intro e0 e1 e2 e3
      first | (exfalso; omega) | (exact hY0 rfl (by omega))
    · intro e0 e1 e2 e3 e4
      first | (exfalso; omega) | (exact hY0 rfl (by omega))
    · intro e0 e1 e2 e3 e4
      first | (exfalso; omega) | (exact hY0 rfl (by omega))
    · intro e0 e1 e2
      first | (exfalso; omega) | (exact hY0 rfl (by omega))
    · intro e0 e1 e2 e3
      first | (exfalso; omega) | (exact hY0 rfl (by omega))
    · intro e0 e1 e2 e3
      first | (exfalso; omega) | exact hN (by omega)
  exact pmCs_deep (d := 3 + 1) (xg27 (w27 hg q2 hn hn0 (by decide) (fun _ _ => no (hN (by omega))) (fun _ _ _ => no (hN (by omega))) (fun e1 e2 e3 => y0 e1 (by omega)) (fun e1 e2 => y1 (by omega) e2) (fun _ _ => no (hN (by omega))))) (by decide)
theorem vk28 (q1 : xR k) (q2 : xR m) (hb : a 0 12 = bg) (hbg : bg = 0 ∨ bg = 1) (hd : 3 ≤ d) (hY : bg = 0 ∧ (1 ≤ k ∧ k ≤ 5) ∧ (1 ≤ m ∧ m ≤ 9) → Q (some (xV 1)) (xS (xU a 5 k (8 * m + 1)) b)) (hN : ¬ (bg = 0 ∧ (1 ≤ k ∧ k ≤ 5) ∧ (1 ≤ m ∧ m ≤ 9)) → Q (some (xV 0)) (xS a b)) : pmCs ro d 28 [.ref 0, xV k, xV m] (xS a b) Q :=
  pmCs_deep (d := 3) (xg28 (wb28 q1 q2 hb hbg (by decide) (fun _ => hN (by omega)) (fun _ _ => hN (by omega)) (fun _ _ _ => hN (by omega)) (fun _ _ _ _ => hN (by omega)) (fun _ _ _ _ _ => pmCs_deep (d := 1) (xg3 (wb3 (by omega) (by omega) (fun e => absurd e (by omega)) (fun _ e => absurd e (by omega)) (fun _ _ => wb28a (hY (by omega))))) (by decide)) (fun _ _ _ _ _ => hN (by omega)))) hd
theorem vk141 (q1 : xR x) (hg : 0 ≤ g ∧ g ≤ 1) (hA : xAr a) (hn : a 87 2 = n) (hn0 : 0 ≤ n ∧ n ≤ 5) (hb : a 87 4 = bg) (hbg : bg = 0 ∨ bg = 1) (hd : 4 ≤ d) (hY : bg = 0 ∧ n < 5 ∧ ((0 ≤ x ∧ x < 7) ∨ (10 ≤ x ∧ x < 14)) → Q (some (xV n)) (xS (xU (xU (xU a 88 (4 + n) x) 91 n g) 87 2 (n + 1)) b)) (hN : ¬ (bg = 0 ∧ n < 5 ∧ ((0 ≤ x ∧ x < 7) ∨ (10 ≤ x ∧ x < 14))) → Q (some (xV (-1))) (xS a b)) : pmCs ro d 141 [.ref 87, xV x, xV g] (xS a b) Q := by
  refine pmCs_deep (d := 4) (xg141 (wb141 q1 hg hA hn hn0 hb hbg (by decide) ?_ ?_ ?_ ?_ ?_)) hd
  · intro e0
    first | (exfalso; omega) | exact hN (by omega)
  · intro e0 e1
    first | (exfalso; omega) | exact hN (by omega)
  · intro e0 e1 e2
    first | (exfalso; omega) | (rw [show n + 1 - 1 = n by omega]; exact hY (by omega))
  · intro e0 e1 e2 e3
    first | (exfalso; omega) | (rw [show n + 1 - 1 = n by omega]; exact hY (by omega))
  · intro e0 e1 e2 e3
    first | (exfalso; omega) | exact hN (by omega)
theorem vk142 (q1 : xR v) (hg : 0 ≤ g ∧ g ≤ 1) (hA : xAr a) (hn : a 87 2 = n) (hn0 : 0 ≤ n ∧ n ≤ 5) (hb : a 87 4 = bg) (hbg : bg = 0 ∨ bg = 1) (hd : 4 ≤ d) (hY : bg = 0 ∧ n < 5 ∧ (0 ≤ v ∧ v ≤ 127) ∧ 2 ≤ uBs v → Q (some (xV n)) (xS (xU (xU (xU (xU a 88 (4 + n) 20) 88 (9 + n) v) 91 n g) 87 2 (n + 1)) b)) (hN : ¬ (bg = 0 ∧ n < 5 ∧ (0 ≤ v ∧ v ≤ 127) ∧ 2 ≤ uBs v) → Q (some (xV (-1))) (xS a b)) : pmCs ro d 142 [.ref 87, xV v, xV g] (xS a b) Q := by
  refine pmCs_deep (d := 4) (xg142 (wb142 q1 hg hA hn hn0 hb hbg (by decide) ?_ ?_ ?_ ?_ ?_)) hd
  · intro e0
    first | (exfalso; omega) | exact hN (by omega)
  · intro e0 e1
    first | (exfalso; omega) | exact hN (by omega)
  · intro e0 e1 e2 e3
    first | (exfalso; omega) | (rw [show n + 1 - 1 = n by omega]; exact hY (by omega))
  · intro e0 e1 e2 e3
    first | (exfalso; omega) | exact hN (by omega)
  · intro e0 e1 e2
    first | (exfalso; omega) | exact hN (by omega)
theorem vk145 (q1 : xR p) (hg : g = 0 ∨ g = 1) (q2 : xR i) (q3 : xR x) (hA : xAr a) (hn : a 87 2 = n) (hn0 : 0 ≤ n ∧ n ≤ 5) (hb : a 87 4 = bg) (hbg : bg = 0 ∨ bg = 1) (hd : 4 ≤ d)
    (hY1 : g = 1 → bg = 0 ∧ (1 ≤ p ∧ p < 4) ∧ (0 ≤ i ∧ i < 4) ∧ ¬ i = p ∧ (x = -1 ∨ (0 ≤ x ∧ x < 7)) → Q (some (xV 1)) (xS (xU a 88 (14 + (9 * (p - 1)) + 5 + i) x) b))
    (hY0 : g = 0 → bg = 0 ∧ (1 ≤ p ∧ p < 4) ∧ (0 ≤ i ∧ i < n) ∧ (x = -1 ∨ (0 ≤ x ∧ x < 7) ∨ ((10 ≤ x ∧ x < 14) ∧ ¬ x = 10 + p)) → Q (some (xV 1)) (xS (xU a 88 (14 + (9 * (p - 1)) + i) x) b))
    (hN : ¬ (bg = 0 ∧ (1 ≤ p ∧ p < 4) ∧ ((g = 1 ∧ (0 ≤ i ∧ i < 4) ∧ ¬ i = p ∧ (x = -1 ∨ (0 ≤ x ∧ x < 7))) ∨ (g = 0 ∧ (0 ≤ i ∧ i < n) ∧ (x = -1 ∨ (0 ≤ x ∧ x < 7) ∨ ((10 ≤ x ∧ x < 14) ∧ ¬ x = 10 + p))))) → Q (some (xV 0)) (xS a b)) : pmCs ro d 145 [.ref 87, xV p, xV g, xV i, xV x] (xS a b) Q := by
  refine pmCs_deep (d := 4) (xg145 (wb145 q1 hg q2 q3 hA hn hn0 hb hbg (by decide) ?_ ?_ ?_ ?_ ?_ ?_ ?_ ?_ ?_ ?_ ?_ ?_ ?_ ?_ ?_)) hd
  · intro e0
    first | (exfalso; omega) | exact hN (by omega)
  · intro e0 e1 e2 e3 e4 e5
    first | (exfalso; omega) | (exact hY0 (by omega) (by omega))
  · intro e0 e1 e2 e3 e4 e5
    first | (exfalso; omega) | exact hN (by omega)
  · intro e0 e1 e2 e3 e4 e5 e6
    first | (exfalso; omega) | (exact hY0 (by omega) (by omega))
  · intro e0 e1 e2 e3 e4 e5 e6
    first | (exfalso; omega) | exact hN (by omega)
  · intro e0 e1 e2 e3 e4 e5 e6 e7
    first | (exfalso; omega) | (exact hY0 (by omega) (by omega))
  · intro e0 e1 e2 e3 e4 e5 e6 e7
    first | (exfalso; omega) | exact hN (by omega)
  · intro e0 e1 e2 e3 e4 e5 e6
    first | (exfalso; omega) | exact hN (by omega)
  · intro e0 e1 e2 e3
    first | (exfalso; omega) | exact hN (by omega)
  · intro e0 e1 e2 e3 e4
    first | (exfalso; omega) | exact hN (by omega)
  · intro e0 e1 e2 e3 e4 e5
    first | (exfalso; omega) | (exact hY1 (by omega) (by omega))
  · intro e0 e1 e2 e3 e4 e5 e6
    first | (exfalso; omega) | (exact hY1 (by omega) (by omega))
  · intro e0 e1 e2 e3 e4 e5 e6
    first | (exfalso; omega) | exact hN (by omega)
  · intro e0 e1 e2 e3
    first | (exfalso; omega) | exact hN (by omega)
  · intro e0 e1
    first | (exfalso; omega) | exact hN (by omega)
theorem vk150 (q1 : xR k) (q2 : xR m) (hA : xAr a) (hn : a 87 2 = n) (hn0 : 0 ≤ n ∧ n ≤ 5) (hb : a 87 4 = bg) (hbg : bg = 0 ∨ bg = 1) (hd : 4 ≤ d) (hY : bg = 0 ∧ (1 ≤ k ∧ k ≤ 5) ∧ (1 ≤ m ∧ m ≤ 9) → Q (some (xV 1)) (xS (xU a 92 k m) b)) (hN : ¬ (bg = 0 ∧ (1 ≤ k ∧ k ≤ 5) ∧ (1 ≤ m ∧ m ≤ 9)) → Q (some (xV 0)) (xS a b)) : pmCs ro d 150 [.ref 87, xV k, xV m] (xS a b) Q := by
  refine pmCs_deep (d := 4) (xg150 (wb150 q1 q2 hA hn hn0 hb hbg (by decide) ?_ ?_ ?_ ?_)) hd
  · intro e0
    first | (exfalso; omega) | exact hN (by omega)
  · intro e0 e1 e2
    first | (exfalso; omega) | (exact hY (by omega))
  · intro e0 e1 e2
    first | (exfalso; omega) | exact hN (by omega)
  · intro e0 e1
    first | (exfalso; omega) | exact hN (by omega)
end
end
end
section
/-! ahead of the beginning: the world -/
section
set_option maxRecDepth 100000


section
variable {n p q x y v f i j k : Int} {r r' : Int → Int} {b b' : xB} {l : Int64}
theorem vIw_c (h : x = -1 ∨ (0 ≤ x ∧ x < 7) ∨ (10 ≤ x ∧ x < 14)) : vIw x = uTc x := by
  unfold vIw uTc
  by_cases c : x = -1
  · rw [if_pos c, if_pos (by omega)]
    omega
  rw [if_neg c]
  by_cases c2 : 10 ≤ x
  · rw [if_pos c2, if_neg (by omega)]
    omega
  · rw [if_neg c2, if_pos (by omega)]
theorem vWith (i0 : 0 ≤ i) (i1 : i < 16) (c0 : 0 ≤ x) (c1 : x < 16) (j0 : 0 ≤ j) (j1 : j < 16) : uSl (xWith l i x) j = if j = i then x else uSl l j := uWith i0 i1 c0 c1 j0 j1 rfl
theorem vWith_y (i0 : 0 ≤ i) (i1 : i < 16) (c0 : 0 ≤ x) (c1 : x < 16) : uSl (xWith l i x) i = x := by
  rw [vWith i0 i1 c0 c1 i0 i1, if_pos rfl]
theorem vWith_n (i0 : 0 ≤ i) (i1 : i < 16) (c0 : 0 ≤ x) (c1 : x < 16) (j0 : 0 ≤ j) (j1 : j < 16) (h : ¬ j = i) : uSl (xWith l i x) j = uSl l j := by
  rw [vWith i0 i1 c0 c1 j0 j1, if_neg h]
theorem vHi (i0 : 0 ≤ i) (i1 : i < 9) (c0 : 0 ≤ x) (c1 : x < 16) (h : uHi l) : uHi (xWith l i x) := fun j j0 j1 => by
  rw [vWith_n i0 (by omega) c0 c1 (by omega) j1 (by omega)]
  exact h j j0 j1
/-- the world ahead of the beginning: the row and the class's -/
def vPw (n : Int) (r : Int → Int) (b : xB) : Prop := uRv n r ∧ uRt n 21 r b ∧ uRm n 21 r b ∧ ∀ x, n ≤ x → x < 5 → uSt (b 21 5) x = 0
theorem vPw_o (h : vPw n r b) (e4 : b' 21 4 = b 21 4) (e5 : b' 21 5 = b 21 5) (e22 : ∀ f, b' 22 f = b 22 f) : vPw n r b' := by
  obtain ⟨h1, ⟨t1, t2, t3⟩, h3, h4⟩ := h
  refine ⟨h1, ⟨fun j j0 j1 => ?_, ?_, fun x x0 x1 hx => ?_⟩, fun f f0 f1 => ?_, fun x x0 x1 => ?_⟩
  · rw [e4]
    exact t1 j j0 j1
  · rw [e4]
    exact t2
  · rw [e5]
    exact t3 x x0 x1 hx
  · obtain ⟨g1, g2, g3⟩ := h3 f f0 f1
    have e : b' (21 + 1) f = b (21 + 1) f := e22 f
    unfold uRf
    rw [e]
    exact ⟨g1, g2, g3⟩
  · rw [e5]
    exact h4 x x0 x1
/-- person -/
theorem vPw_p (h : vPw n r b) (hn0 : 0 ≤ n ∧ n ≤ 5) (hp : 0 ≤ p ∧ p < 4) (hy : 0 ≤ y ∧ y < 7) (e1 : r' p = y) (e2 : ∀ j, ¬ j = p → r' j = r j) (e4 : b' 21 4 = xWith (b 21 4) p (y + 1)) (e5 : b' 21 5 = b 21 5) (e22 : ∀ f, b' 22 f = b 22 f) : vPw n r' b' := by
  obtain ⟨⟨v1, v2, v3, v4, v5, v6⟩, ⟨t1, t2, t3⟩, h3, h4⟩ := h
  refine ⟨⟨fun q q0 q1 => ?_, fun x x0 x1 => ?_, fun x x0 x1 => ?_, fun f x f0 f1 x0 x1 => ?_, fun f q f0 f1 q0 q1 => ?_, fun f x f0 f1 nx x0 x1 => ?_⟩, ⟨fun j j0 j1 => ?_, ?_, fun x x0 x1 hx => ?_⟩, fun f f0 f1 => ?_, fun x x0 x1 => ?_⟩
  · by_cases c : q = p
    · rw [c, e1]
      omega
    · rw [e2 q c]
      exact v1 q q0 q1
  · rw [e2 _ (by omega)]
    exact v2 x x0 x1
  · rw [e2 _ (by omega)]
    exact v3 x x0 x1
  · rw [e2 _ (by omega)]
    exact v4 f x f0 f1 x0 x1
  · rw [e2 _ (by omega)]
    exact v5 f q f0 f1 q0 q1
  · rw [e2 _ (by omega)]
    exact v6 f x f0 f1 nx x0 x1
  · rw [e4]
    by_cases c : j = p
    · rw [c, vWith_y hp.1 (by omega) (by omega) (by omega)]
      unfold uWs
      rw [if_pos hp.2, e1]
    · rw [vWith_n hp.1 (by omega) (by omega) (by omega) j0 (by omega) c, t1 j j0 j1]
      unfold uWs
      rw [e2 j c]
  · rw [e4]
    exact vHi hp.1 (by omega) (by omega) (by omega) t2
  · rw [e2 _ (by omega)] at hx ⊢
    rw [e5]
    exact t3 x x0 x1 hx
  · obtain ⟨g1, g2, g3⟩ := h3 f f0 f1
    have e : b' (21 + 1) f = b (21 + 1) f := e22 f
    unfold uRf
    rw [e]
    refine ⟨g1, fun q q0 q1 hq => ?_, fun x x0 x1 => ?_⟩
    · rw [e2 _ (by omega)]
      exact g2 q q0 q1 hq
    · rw [e2 _ (by omega)]
      exact g3 x x0 x1
  · rw [e5]
    exact h4 x x0 x1
/-- a thing more: what comes of the slots -/
theorem vPw_n (t1 : ∀ j, 0 ≤ j → j < 9 → uSl l j = uWs n r j) (hn0 : 0 ≤ n ∧ n < 5) (hy : 0 ≤ y ∧ y < 16) (ey : (if r' (4 + n) = 20 then 13 else uTc (r' (4 + n))) = y) (e2 : ∀ j, 0 ≤ j → j < 9 → ¬ j = 4 + n → r' j = r j) : ∀ j, 0 ≤ j → j < 9 → uSl (xWith l (4 + n) y) j = uWs (n + 1) r' j := by
  intro j j0 j1
  by_cases c : j = 4 + n
  · rw [c, vWith_y (by omega) (by omega) hy.1 hy.2]
    unfold uWs
    rw [if_neg (by omega), if_pos (by omega), ey]
  · rw [vWith_n (by omega) (by omega) hy.1 hy.2 j0 (by omega) c, t1 j j0 j1]
    unfold uWs
    rw [e2 j j0 j1 c]
    by_cases c4 : j < 4
    · rw [if_pos c4, if_pos c4]
    · rw [if_neg c4, if_neg c4]
      by_cases cn : j - 4 < n
      · have cn' : j - 4 < n + 1 := by omega
        rw [if_pos cn, if_pos cn']
      · have cn' : ¬ j - 4 < n + 1 := by omega
        rw [if_neg cn, if_neg cn']
/-- thing, hidden -/
theorem vPw_t (h : vPw n r b) (hn0 : 0 ≤ n ∧ n < 5) (hx : ((0 ≤ x ∧ x < 7) ∨ (10 ≤ x ∧ x < 14)) ∧ y = vIw x ∧ b' 21 5 = b 21 5 ∧ r' (9 + n) = r (9 + n) ∨ x = 20 ∧ y = 13 ∧ (0 ≤ v ∧ v ≤ 127) ∧ b' 21 5 = b 21 5 ||| xShL (Int64.ofInt v) (7 * n) ∧ r' (9 + n) = v) (e1 : r' (4 + n) = x) (e2 : ∀ j, ¬ j = 4 + n → ¬ j = 9 + n → r' j = r j) (e4 : b' 21 4 = xWith (b 21 4) (4 + n) y) (e22 : ∀ f, b' 22 f = b 22 f) : vPw (n + 1) r' b' := by
  obtain ⟨⟨v1, v2, v3, v4, v5, v6⟩, ⟨t1, t2, t3⟩, h3, h4⟩ := h
  have hx2 : ((0 ≤ x ∧ x ≤ 6) ∨ (10 ≤ x ∧ x ≤ 13)) ∨ x = 20 := by
    rcases hx with ⟨g, _⟩ | ⟨g, _⟩ <;> omega
  have hy : (0 ≤ y ∧ y < 16) ∧ (if x = 20 then 13 else uTc x) = y := by
    rcases hx with ⟨g, g2, _⟩ | ⟨g, g2, _⟩
    · have := vIw_b (v := x) (by omega)
      rw [if_neg (by omega), g2, vIw_c (by omega)]
      rw [vIw_c (by omega)] at this
      exact ⟨by omega, rfl⟩
    · rw [if_pos g, g2]
      decide
  have h9 : 0 ≤ r' (9 + n) ∧ r' (9 + n) ≤ 127 := by
    rcases hx with ⟨_, _, _, g⟩ | ⟨_, _, g2, _, g⟩
    · rw [g]
      exact v3 n hn0.1 hn0.2
    · rw [g]
      exact g2
  have hst : ∀ z, 0 ≤ z → z < 5 → ¬ z = n → uSt (b' 21 5) z = uSt (b 21 5) z := by
    intro z z0 z1 c
    rcases hx with ⟨_, _, g, _⟩ | ⟨_, _, g2, g, _⟩
    · rw [g]
    · rw [g, uSt_put hn0.1 (by omega) z0 (by omega) g2.1 (by omega) (h4 n (by omega) hn0.2) rfl, if_neg c]
  refine ⟨⟨fun q q0 q1 => ?_, fun z z0 z1 => ?_, fun z z0 z1 => ?_, fun f z f0 f1 z0 z1 => ?_, fun f q f0 f1 q0 q1 => ?_, fun f z f0 f1 nz z0 z1 => ?_⟩, ⟨?_, ?_, fun z z0 z1 hz => ?_⟩, fun f f0 f1 => ?_, fun z z0 z1 => ?_⟩
  · rw [e2 q (by omega) (by omega)]
    exact v1 q q0 q1
  · by_cases c : z = n
    · rw [c, e1]
      omega
    · rw [e2 _ (by omega) (by omega)]
      exact v2 z z0 (by omega)
  · by_cases c : z = n
    · rw [c]
      exact h9
    · rw [e2 _ (by omega) (by omega)]
      exact v3 z z0 z1
  · rw [e2 _ (by omega) (by omega)]
    exact v4 f z f0 f1 z0 z1
  · rw [e2 _ (by omega) (by omega)]
    exact v5 f q f0 f1 q0 q1
  · rw [e2 _ (by omega) (by omega)]
    exact v6 f z f0 f1 (by omega) z0 z1
  · rw [e4]
    exact vPw_n t1 hn0 hy.1 (by rw [e1]; exact hy.2) (fun j j0 j1 c => e2 j c (by omega))
  · rw [e4]
    exact vHi (by omega) (by omega) hy.1.1 hy.1.2 t2
  · by_cases c : z = n
    · rw [c] at hz ⊢
      rw [e1] at hz
      rcases hx with ⟨g, _⟩ | ⟨_, _, g2, g, g3⟩
      · omega
      · rw [g, uSt_put hn0.1 (by omega) hn0.1 (by omega) g2.1 (by omega) (h4 n (by omega) hn0.2) rfl, if_pos rfl, g3]
    · rw [e2 _ (by omega) (by omega)] at hz ⊢
      rw [hst z z0 (by omega) c]
      exact t3 z z0 (by omega) hz
  · obtain ⟨g1, g2, g3⟩ := h3 f f0 f1
    have e : b' (21 + 1) f = b (21 + 1) f := e22 f
    unfold uRf
    rw [e]
    refine ⟨g1, fun q q0 q1 hq => ?_, fun z z0 z1 => ?_⟩
    · rw [e2 _ (by omega) (by omega)]
      exact g2 q q0 q1 hq
    · rw [e2 _ (by omega) (by omega)]
      exact g3 z z0 z1
  · rw [hst z (by omega) z1 (by omega)]
    exact h4 z (by omega) z1
/-- believe -/
theorem vPw_b (h : vPw n r b) (hn0 : 0 ≤ n ∧ n ≤ 5) (hp : 1 ≤ p ∧ p < 4) (hs : (∃ q, (0 ≤ q ∧ q < 4) ∧ ¬ q = p ∧ j = q ∧ k = 14 + 9 * (p - 1) + 5 + q ∧ (x = -1 ∨ (0 ≤ x ∧ x < 7))) ∨ ∃ q, (0 ≤ q ∧ q < n) ∧ j = 4 + q ∧ k = 14 + 9 * (p - 1) + q ∧ (x = -1 ∨ (0 ≤ x ∧ x < 7) ∨ (10 ≤ x ∧ x < 14))) (e1 : r' k = x) (e2 : ∀ j, ¬ j = k → r' j = r j) (e4 : b' 21 4 = b 21 4) (e5 : b' 21 5 = b 21 5) (e22 : b' 22 p = xWith (b 22 p) j (vIw x)) (e22n : ∀ f, ¬ f = p → b' 22 f = b 22 f) : vPw n r' b' := by
  obtain ⟨⟨v1, v2, v3, v4, v5, v6⟩, ⟨t1, t2, t3⟩, h3, h4⟩ := h
  have hk : 14 ≤ k ∧ k ≤ 40 := by
    rcases hs with ⟨q, q0, q1, q2, q3, q4⟩ | ⟨q, q0, q2, q3, q4⟩ <;> omega
  have hj : 0 ≤ j ∧ j < 9 := by
    rcases hs with ⟨q, q0, q1, q2, q3, q4⟩ | ⟨q, q0, q2, q3, q4⟩ <;> omega
  have hx : x = -1 ∨ (0 ≤ x ∧ x < 7) ∨ (10 ≤ x ∧ x < 14) := by
    rcases hs with ⟨q, q0, q1, q2, q3, q4⟩ | ⟨q, q0, q2, q3, q4⟩ <;> omega
  have hI := vIw_b (v := x) (by omega)
  have hC := vIw_c hx
  refine ⟨⟨fun q q0 q1 => ?_, fun z z0 z1 => ?_, fun z z0 z1 => ?_, fun f z f0 f1 z0 z1 => ?_, fun f q f0 f1 q0 q1 => ?_, fun f z f0 f1 nz z0 z1 => ?_⟩, ⟨fun j j0 j1 => ?_, ?_, fun z z0 z1 hz => ?_⟩, fun f f0 f1 => ?_, fun z z0 z1 => ?_⟩
  · rw [e2 q (by omega)]
    exact v1 q q0 q1
  · rw [e2 _ (by omega)]
    exact v2 z z0 z1
  · rw [e2 _ (by omega)]
    exact v3 z z0 z1
  · by_cases c : 14 + 9 * (f - 1) + z = k
    · rw [c, e1]
      omega
    · rw [e2 _ c]
      exact v4 f z f0 f1 z0 z1
  · by_cases c : 14 + 9 * (f - 1) + 5 + q = k
    · rw [c, e1]
      rcases hs with ⟨q', g0, g1, g2, g3, g4⟩ | ⟨q', g0, g2, g3, g4⟩
      · omega
      · exfalso
        omega
    · rw [e2 _ c]
      exact v5 f q f0 f1 q0 q1
  · by_cases c : 14 + 9 * (f - 1) + z = k
    · exfalso
      rcases hs with ⟨q', g0, g1, g2, g3, g4⟩ | ⟨q', g0, g2, g3, g4⟩
      · omega
      · omega
    · rw [e2 _ c]
      exact v6 f z f0 f1 nz z0 z1
  · rw [e4, t1 j j0 j1]
    unfold uWs
    rw [e2 j (by omega)]
  · rw [e4]
    exact t2
  · rw [e2 _ (by omega)] at hz ⊢
    rw [e5]
    exact t3 z z0 z1 hz
  · obtain ⟨g1, g2, g3⟩ := h3 f f0 f1
    by_cases cf : f = p
    · have e : b' (21 + 1) f = xWith (b (21 + 1) f) j (vIw x) := by
        rw [cf]
        exact e22
      unfold uRf
      rw [e]
      refine ⟨vHi hj.1 hj.2 hI.1 (by omega) g1, fun q q0 q1 hq => ?_, fun z z0 z1 => ?_⟩
      · by_cases c : q = j
        · rw [c, vWith_y hj.1 (by omega) hI.1 (by omega), hC]
          rcases hs with ⟨q', g0, g1', g2', g3', g4⟩ | ⟨q', g0, g2', g3', g4⟩
          · rw [show 14 + 9 * (f - 1) + 5 + j = k by omega, e1]
            unfold uTc
            rw [if_pos (by omega)]
          · exfalso
            omega
        · rw [vWith_n hj.1 (by omega) hI.1 (by omega) q0 (by omega) c, e2 _ ?_]
          · exact g2 q q0 q1 hq
          · rcases hs with ⟨q', g0, g1', g2', g3', g4⟩ | ⟨q', g0, g2', g3', g4⟩ <;> omega
      · by_cases c : 4 + z = j
        · rw [c, vWith_y hj.1 (by omega) hI.1 (by omega), hC]
          rcases hs with ⟨q', g0, g1', g2', g3', g4⟩ | ⟨q', g0, g2', g3', g4⟩
          · exfalso
            omega
          · rw [show 14 + 9 * (f - 1) + z = k by omega, e1]
        · rw [vWith_n hj.1 (by omega) hI.1 (by omega) (by omega) (by omega) c, e2 _ ?_]
          · exact g3 z z0 z1
          · rcases hs with ⟨q', g0, g1', g2', g3', g4⟩ | ⟨q', g0, g2', g3', g4⟩ <;> omega
    · have e : b' (21 + 1) f = b (21 + 1) f := e22n f cf
      unfold uRf
      rw [e]
      refine ⟨g1, fun q q0 q1 hq => ?_, fun z z0 z1 => ?_⟩
      · rw [e2 _ ?_]
        · exact g2 q q0 q1 hq
        · rcases hs with ⟨q', g0, g1', g2', g3', g4⟩ | ⟨q', g0, g2', g3', g4⟩ <;> omega
      · rw [e2 _ ?_]
        · exact g3 z z0 z1
        · rcases hs with ⟨q', g0, g1', g2', g3', g4⟩ | ⟨q', g0, g2', g3', g4⟩ <;> omega
  · rw [e5]
    exact h4 z z0 z1
end
end
end
section
/-! ahead of the beginning: all, and what is put in -/
section
set_option maxRecDepth 100000


section
variable {Ln : Nat} {xs : Nat → Int32} {d : Nat} {n p q x y v f i j k m g : Int} {r r' : Int → Int} {a a' : xA} {b b' : xB} {l : Int64} {T : Int → List Int}
theorem vWn_d : ∀ n : Fin 5, ∀ w : Fin 32, ∀ i : Fin 5, (w.val : Int) < ((2 ^ n.val : Nat) : Int) → ((w.val : Int) + ((2 ^ n.val : Nat) : Int) < ((2 ^ (n.val + 1) : Nat) : Int) ∧ (w.val : Int) < ((2 ^ (n.val + 1) : Nat) : Int)) ∧ uBi ((w.val : Int) + ((2 ^ n.val : Nat) : Int)) (i.val : Int) = (if i.val = n.val then 1 else uBi (w.val : Int) (i.val : Int)) ∧ (i.val = n.val → uBi (w.val : Int) (i.val : Int) = 0) := by decide +kernel
theorem vWn_b (hn : 0 ≤ n ∧ n < 5) (hw : vWo n y) (hg : 0 ≤ g ∧ g ≤ 1) : vWo (n + 1) (vWn g n y) ∧ ∀ i, 0 ≤ i → i < 5 → uBi (vWn g n y) i = if i = n then g else uBi y i := by
  have h32 : ((2 ^ n.toNat : Nat) : Int) ≤ 32 := by
    have : n = 0 ∨ n = 1 ∨ n = 2 ∨ n = 3 ∨ n = 4 := by omega
    rcases this with rfl | rfl | rfl | rfl | rfl <;> decide
  have hw1 := hw.1
  have hw2 := hw.2
  have e1 : ((n.toNat : Nat) : Int) = n := Int.toNat_of_nonneg hn.1
  have e2 : ((y.toNat : Nat) : Int) = y := Int.toNat_of_nonneg hw.1
  have e3 : (n + 1).toNat = n.toNat + 1 := by omega
  have key : ∀ i, 0 ≤ i → i < 5 → (y + ((2 ^ n.toNat : Nat) : Int) < ((2 ^ (n.toNat + 1) : Nat) : Int) ∧ y < ((2 ^ (n.toNat + 1) : Nat) : Int)) ∧ uBi (y + ((2 ^ n.toNat : Nat) : Int)) i = (if i = n then 1 else uBi y i) ∧ (i = n → uBi y i = 0) := by
    intro i i0 i1
    have e4 : ((i.toNat : Nat) : Int) = i := Int.toNat_of_nonneg i0
    obtain ⟨k1, k2, k3⟩ := vWn_d ⟨n.toNat, by omega⟩ ⟨y.toNat, by omega⟩ ⟨i.toNat, by omega⟩ (by
      show ((y.toNat : Nat) : Int) < ((2 ^ n.toNat : Nat) : Int)
      omega)
    dsimp only at k1 k2 k3
    rw [e2] at k1 k2 k3
    rw [e4] at k2 k3
    refine ⟨k1, ?_, fun e => k3 (by omega)⟩
    rw [k2]
    by_cases c : i = n
    · rw [if_pos (by omega), if_pos c]
    · rw [if_neg (by omega), if_neg c]
  unfold vWo vWn
  rw [e3]
  by_cases c : g = 0
  · rw [if_pos c]
    refine ⟨⟨hw1, (key 0 (by decide) (by decide)).1.2⟩, fun i i0 i1 => ?_⟩
    by_cases ci : i = n
    · rw [if_pos ci, (key i i0 i1).2.2 ci, c]
    · rw [if_neg ci]
  · rw [if_neg c]
    refine ⟨⟨by omega, (key 0 (by decide) (by decide)).1.1⟩, fun i i0 i1 => ?_⟩
    rw [(key i i0 i1).2.1]
    by_cases ci : i = n
    · rw [if_pos ci, if_pos ci]
      omega
    · rw [if_neg ci, if_neg ci]
/-- the stage, the prices, what no one touches, the laws' numbers, the wishes -/
def vPs (a : xA) (b : xB) : Prop := uKs (a 90) (a 91) (a 87 2) a b ∧ (∀ i, a 87 2 ≤ i → 0 ≤ i → i < 5 → a 91 i = 0) ∧ vWo (a 87 2) (a 3 4)
def vPp (a : xA) : Prop := ∀ i, 1 ≤ i → i ≤ 5 → a 5 i = 8 * a 92 i + 1
def vPv (a : xA) (b : xB) : Prop := (∀ j, 113 ≤ j → j < 120 → a 88 j = 0) ∧ (∀ j, 6 ≤ j → j ≤ 12 → a 21 j = 0) ∧ (∀ j, 0 ≤ j → j < 3 → a 25 j = 0) ∧ (∀ j, 0 ≤ j → j < 24 → a 23 j = 0) ∧ (∀ j, 0 ≤ j → j < 3 → a 78 j = 0) ∧ (∀ j, 0 ≤ j → j < 512 → b 35 j = 0) ∧ (∀ j, 0 ≤ j → j < 4096 → b 114 j = 0) ∧ a 79 6 = 0 ∧ ∀ j, 0 ≤ j → j ≤ 60 → a 86 j = 0
def vPl (a : xA) : Prop := (∀ c, 0 ≤ c → c < 24 → 0 ≤ a 19 c ∧ a 19 c ≤ 99) ∧ (∀ c, 0 ≤ c → c < 24 → 0 ≤ a 106 c ∧ a 106 c ≤ 99) ∧ a 13 7 = a 87 3 ∧ ∀ i, 0 ≤ i → i < a 13 7 → a 20 i = a 100 i
def vRe (f : Int) (ts : List Int) : Prop := ts.length ≤ 40 ∧ (∀ t, t ∈ ts → uTv t) ∧ uDl ts 0 ≠ none ∧ ∀ S, ¬ uRun (uAt f S) (fun x => !x) (fun x y => x && y) (fun x y => x || y) ts [] = []
def vPg (T : Int → List Int) (a : xA) : Prop := (∀ p, 1 ≤ p → p ≤ 3 → a 12 p = a 96 p ∧ 0 ≤ a 96 p ∧ a 96 p ≤ 3) ∧ (∀ p k, 1 ≤ p → p ≤ 3 → 0 ≤ k → k < a 96 p → vRe p (T (p * 3 + k)) ∧ (1 ≤ a 97 (p * 3 + k) ∧ a 97 (p * 3 + k) ≤ 9) ∧ a 10 (p * 3 + k) = a 97 (p * 3 + k) ∧ a 9 (p * 3 + k) = ((T (p * 3 + k)).length : Int) ∧ a 98 (p * 3 + k) = ((T (p * 3 + k)).length : Int) ∧ ∀ (j : Nat) t, (T (p * 3 + k))[j]? = some t → a 8 ((p * 3 + k) * 40 + (j : Int)) = cT t ∧ a 99 (60 * (p * 3 + k) + (j : Int)) = t) ∧ uOr (a 96) (a 97) a ∧ ∀ p i, 1 ≤ p → p ≤ 3 → 0 ≤ i → i < a 96 p → 0 ≤ a 11 (p * 3 + i) ∧ a 11 (p * 3 + i) < a 96 p
def vPre (a : xA) (b : xB) : Prop := (a 0 12 = 0 ∧ a 87 4 = 0) ∧ xAr a ∧ vPs a b ∧ vPp a ∧ vPw (a 87 2) (a 88) b ∧ vPv a b ∧ vPl a ∧ ∃ T, vPg T a
/-- the tape, alike; with what the table tells -/
def vT (a : xA) : Prop := a 1 1 = a 87 9 ∧ (0 ≤ a 1 1 ∧ a 1 1 ≤ 400) ∧ ∀ j, 0 ≤ j → j < a 1 1 → a 2 j = a 93 j % 256
def vPz (a : xA) (b : xB) : Prop := vPre a b ∧ vT a
def vPk (a : xA) (b : xB) : Prop := vPz a b ∧ kOk (xS a b) ∧ kP (xS a b)
theorem vT_o (h : vT a) (e : ∀ q j, q = 1 ∨ q = 2 ∨ q = 93 ∨ (q = 87 ∧ j = 9) → a' q j = a q j) : vT a' := by
  unfold vT
  rw [e 1 1 (by omega), e 87 9 (by omega)]
  exact ⟨h.1, h.2.1, fun j j0 j1 => by
    rw [e 2 j (by omega), e 93 j (by omega)]
    exact h.2.2 j j0 j1⟩
theorem vPs_o (h : vPs a b) (e : ∀ q j, q = 90 ∨ q = 91 ∨ q = 4 ∨ (q = 87 ∧ j = 2) ∨ (q = 3 ∧ (j = 4 ∨ j = 5)) → a' q j = a q j) (eb : b' 3 3 = b 3 3) : vPs a' b' := by
  have e90 : a' 90 = a 90 := funext fun j => e 90 j (by omega)
  have e91 : a' 91 = a 91 := funext fun j => e 91 j (by omega)
  have e4 : a' 4 = a 4 := funext fun j => e 4 j (by omega)
  unfold vPs uKs
  rw [e90, e91, e4, e 87 2 (by omega), e 3 4 (by omega), e 3 5 (by omega), eb]
  exact h
theorem vPp_o (h : vPp a) (e : ∀ q j, q = 5 ∨ q = 92 → a' q j = a q j) : vPp a' := fun i i0 i1 => by
  rw [e 5 i (by omega), e 92 i (by omega)]
  exact h i i0 i1
theorem vPv_o (h : vPv a b) (e : ∀ q j, (q = 88 ∧ 113 ≤ j) ∨ (q = 21 ∧ 6 ≤ j) ∨ q = 25 ∨ q = 23 ∨ q = 78 ∨ q = 86 ∨ (q = 79 ∧ j = 6) → a' q j = a q j) (eb : ∀ j, b' 35 j = b 35 j ∧ b' 114 j = b 114 j) : vPv a' b' := by
  obtain ⟨h1, h2, h3, h4, h5, h6, h7, h8, h9⟩ := h
  exact ⟨fun j j0 j1 => (e 88 j (by omega)).trans (h1 j j0 j1), fun j j0 j1 => (e 21 j (by omega)).trans (h2 j j0 j1), fun j j0 j1 => (e 25 j (by omega)).trans (h3 j j0 j1), fun j j0 j1 => (e 23 j (by omega)).trans (h4 j j0 j1), fun j j0 j1 => (e 78 j (by omega)).trans (h5 j j0 j1), fun j j0 j1 => (eb j).1.trans (h6 j j0 j1), fun j j0 j1 => (eb j).2.trans (h7 j j0 j1), (e 79 6 (by omega)).trans h8, fun j j0 j1 => (e 86 j (by omega)).trans (h9 j j0 j1)⟩
theorem vPl_o (h : vPl a) (e : ∀ q j, q = 19 ∨ q = 106 ∨ q = 20 ∨ q = 100 ∨ (q = 13 ∧ j = 7) ∨ (q = 87 ∧ j = 3) → a' q j = a q j) : vPl a' := by
  obtain ⟨h1, h2, h3, h4⟩ := h
  refine ⟨fun c c0 c1 => ?_, fun c c0 c1 => ?_, ?_, fun i i0 i1 => ?_⟩
  · rw [e 19 c (by omega)]
    exact h1 c c0 c1
  · rw [e 106 c (by omega)]
    exact h2 c c0 c1
  · rw [e 13 7 (by omega), e 87 3 (by omega)]
    exact h3
  · rw [e 13 7 (by omega)] at i1
    rw [e 20 i (by omega), e 100 i (by omega)]
    exact h4 i i0 i1
theorem vPg_o (h : vPg T a) (e : ∀ q j, (8 ≤ q ∧ q ≤ 12) ∨ (96 ≤ q ∧ q ≤ 99) → a' q j = a q j) : vPg T a' := by
  have e8 : a' 8 = a 8 := funext fun j => e 8 j (by omega)
  have e9 : a' 9 = a 9 := funext fun j => e 9 j (by omega)
  have e10 : a' 10 = a 10 := funext fun j => e 10 j (by omega)
  have e11 : a' 11 = a 11 := funext fun j => e 11 j (by omega)
  have e12 : a' 12 = a 12 := funext fun j => e 12 j (by omega)
  have e96 : a' 96 = a 96 := funext fun j => e 96 j (by omega)
  have e97 : a' 97 = a 97 := funext fun j => e 97 j (by omega)
  have e98 : a' 98 = a 98 := funext fun j => e 98 j (by omega)
  have e99 : a' 99 = a 99 := funext fun j => e 99 j (by omega)
  unfold vPg uOr
  rw [e8, e9, e10, e11, e12, e96, e97, e98, e99]
  exact h
/-- door -/
theorem vB13 (h : vPk a b) (q1 : xR x) (q2 : xR y) (hd : 5 ≤ d) : uBo Ln xs vPk d 13 137 [xV x, xV y] a b := by
  intro Q hQ
  have h0 := h
  obtain ⟨⟨⟨⟨g1, g2⟩, hA, hs, hp, hw, hv, hl, T, hT⟩, hz⟩, hK, hP⟩ := h
  obtain ⟨⟨k1, k2, k3, k4, k5⟩, k6, k7⟩ := id hs
  have no : ¬ ((0 ≤ x ∧ x < 7) ∧ (0 ≤ y ∧ y < 7) ∧ ¬ x = y ∧ a 90 (7 * x + y) = 0) → ∀ Q2 : Option Value → pmS → Prop, (∀ a'' b'', vPk a'' b'' → Q2 (some (xV 0)) (xS a'' b'')) → pmCs (pmRo Ln xs) d 137 [.ref 87, xV x, xV y] (xS a b) Q2 := fun hno Q2 h2 => by
    refine pmCs_deep (d := 4) (xg137 (wb137 q1 q2 hA rfl k4 g2 (Or.inl rfl) (by decide) ?_ ?_ ?_ ?_ ?_ ?_)) (by omega) <;> intros
    all_goals first | exact h2 a b h0 | (exfalso; omega)
  refine pmCs_deep (d := 4) (xg13 (wb13 q1 q2 g1 (Or.inl rfl) (by decide) (fun e => absurd rfl e) (fun _ _ _ e => hQ _ _ _ (no (fun g => g.2.2.1 e))) (fun _ e1 e2 e3 e4 => hQ _ _ _ (no (fun g => (k1 (7 * x + y) (by omega) (by omega)).mp e4 g.2.2.2))) (fun _ e1 e2 e3 e4 => ?_) (fun _ _ e => hQ _ _ _ (no (fun g => e g.2.1))) (fun _ e => hQ _ _ _ (no (fun g => e g.1))))) (by omega)
  have h90 : a 90 (7 * x + y) = 0 := Classical.byContradiction fun c => by
    rw [(k1 (7 * x + y) (by omega) (by omega)).mpr c] at e4
    cases e4
  refine hQ _ _ _ (fun Q2 h2 => pmCs_deep (d := 4) (xg137 (wb137 q1 q2 hA rfl k4 g2 (Or.inl rfl) (by decide) (fun e => absurd rfl e) (fun _ _ _ e => absurd e e3) (fun _ _ _ _ _ => h2 _ _ ?_) (fun _ _ _ _ e => absurd h90 e) (fun _ _ e => absurd e2 e) (fun _ e => absurd e1 e))) (by omega))
  have hA2 : xAr (xU (xU a 90 (7 * x + y) 1) 90 (7 * y + x) 1) := xAr_u (xAr_u hA ⟨by decide, by decide⟩) ⟨by decide, by decide⟩
  have o : ∀ q j, ¬ q = 90 → (xU (xU a 90 (7 * x + y) 1) 90 (7 * y + x) 1) q j = a q j := fun q j h => by rw [xUn h, xUn h]
  have ob : ∀ q j, ¬ q = 3 → (xU b 3 3 ((b 3 3) ||| ((xShL (1 : Int64) (7 * x + y)) ||| (xShL (1 : Int64) (7 * y + x))))) q j = b q j := fun q j h => xUn h
  have o87 := o 87
  have e88 : (xU (xU a 90 (7 * x + y) 1) 90 (7 * y + x) 1) 88 = a 88 := funext fun j => o 88 j (by decide)
  have e91 : (xU (xU a 90 (7 * x + y) 1) 90 (7 * y + x) 1) 91 = a 91 := funext fun j => o 91 j (by decide)
  have K1 : kOk (xS a (xU b 3 3 ((b 3 3) ||| ((xShL (1 : Int64) (7 * x + y)) ||| (xShL (1 : Int64) (7 * y + x)))))) := xOk_l hK (by decide) (by decide +kernel) (bInL (by decide +kernel) _)
  have P1 : kP (xS a (xU b 3 3 ((b 3 3) ||| ((xShL (1 : Int64) (7 * x + y)) ||| (xShL (1 : Int64) (7 * y + x)))))) := xP_l kP_fr hP (by decide +kernel) (by decide)
  have K2 := xOk_i (xOk_i K1 (show 0 ≤ 7 * x + y by omega) ⟨by decide, by decide⟩ rfl (xIn1 (lo := 0) (hi := 1) (z := 1) (bGu_ok (p := 90) (by decide +kernel) _) (by decide))) (show 0 ≤ 7 * y + x by omega) ⟨by decide, by decide⟩ rfl (xIn1 (lo := 0) (hi := 1) (z := 1) (bGu_ok (p := 90) (by decide +kernel) _) (by decide))
  have P2 : kP (xS (xU (xU a 90 (7 * x + y) 1) 90 (7 * y + x) 1) (xU b 3 3 ((b 3 3) ||| ((xShL (1 : Int64) (7 * x + y)) ||| (xShL (1 : Int64) (7 * y + x)))))) := by
    refine xP_i kP_fr (xP_i kP_fr P1 ?_ (by omega)) ?_ (by omega)
    · rw [bRg_sing (by decide +kernel) _ 0]
      decide +kernel
    · rw [bRg_sing (by decide +kernel) _ 0]
      decide +kernel
  refine ⟨⟨?_, vT_o hz (fun q j hq => o q j (by omega))⟩, K2, P2⟩
  refine ⟨⟨(o 0 12 (by decide)).trans g1, (o 87 4 (by decide)).trans g2⟩, hA2, ?_, vPp_o hp (fun q j hq => o q j (by omega)), ?_, vPv_o hv (fun q j hq => o q j (by omega)) (fun j => ⟨ob 35 j (by decide), ob 114 j (by decide)⟩), vPl_o hl (fun q j hq => o q j (by omega)), T, vPg_o hT (fun q j hq => o q j (by omega))⟩
  · unfold vPs uKs
    rw [e91, o 87 2 (by decide), o 3 4 (by decide), o 3 5 (by decide)]
    refine ⟨⟨fun k c0 c1 => ?_, k2, k3, k4, fun k c0 c1 => (o 4 _ (by decide)).trans (k5 k c0 c1)⟩, k6, k7⟩
    have h1 := k1 k c0 c1
    rw [xUa, xBit_or, xBit_or, xBit_one (by omega) (by omega) c0 (by omega), xBit_one (by omega) (by omega) c0 (by omega)]
    by_cases c : k = 7 * y + x
    · rw [c, xUa, decide_eq_true rfl, Bool.or_true, Bool.or_true]
      exact ⟨fun _ => by decide, fun _ => rfl⟩
    · rw [xUk c, decide_eq_false c, Bool.or_false]
      by_cases c2 : k = 7 * x + y
      · rw [c2, xUa, decide_eq_true rfl, Bool.or_true]
        exact ⟨fun _ => by decide, fun _ => rfl⟩
      · rw [xUk c2, decide_eq_false c2, Bool.or_false]
        exact h1
  · rw [e88, o 87 2 (by decide)]
    exact vPw_o hw (ob 21 4 (by decide)) (ob 21 5 (by decide)) (fun f => ob 22 f (by decide))
/-- person -/
theorem vB17 (h : vPk a b) (q1 : xR p) (q2 : xR y) (hd : 5 ≤ d) : uBo Ln xs vPk d 17 139 [xV p, xV y] a b := by
  intro Q hQ
  have h0 := h
  obtain ⟨⟨⟨⟨g1, g2⟩, hA, hs, hp, hw, hv, hl, T, hT⟩, hz⟩, hK, hP⟩ := h
  obtain ⟨⟨k1, k2, k3, k4, k5⟩, k6, k7⟩ := id hs
  have no : ¬ ((0 ≤ p ∧ p < 4) ∧ (0 ≤ y ∧ y < 7)) → ∀ Q2 : Option Value → pmS → Prop, (∀ a'' b'', vPk a'' b'' → Q2 (some (xV 0)) (xS a'' b'')) → pmCs (pmRo Ln xs) d 139 [.ref 87, xV p, xV y] (xS a b) Q2 := fun hno Q2 h2 => by
    refine pmCs_deep (d := 4) (xg139 (wb139 q1 q2 hA rfl k4 g2 (Or.inl rfl) (by decide) ?_ ?_ ?_ ?_)) (by omega) <;> intros
    all_goals first | exact h2 a b h0 | (exfalso; omega)
  refine pmCs_deep (d := 4) (xg17 (wb17 q1 q2 g1 (Or.inl rfl) (by decide) (fun e => absurd rfl e) (fun _ e1 e2 => ?_) (fun _ _ e => hQ _ _ _ (no (fun g => e g.2))) (fun _ e => hQ _ _ _ (no (fun g => e g.1))))) (by omega)
  refine hQ _ _ _ (fun Q2 h2 => pmCs_deep (d := 4) (xg139 (wb139 q1 q2 hA rfl k4 g2 (Or.inl rfl) (by decide) (fun e => absurd rfl e) (fun _ _ _ => h2 _ _ ?_) (fun _ _ e => absurd e2 e) (fun _ e => absurd e1 e))) (by omega))
  have o : ∀ q j, ¬ (q = 88 ∧ j = 0 + p) → (xU a 88 (0 + p) y) q j = a q j := fun q j h => by
    unfold xU
    rw [if_neg h]
  have ob : ∀ q j, ¬ (q = 21 ∧ j = 4) → (xU b 21 4 (xWith (b 21 4) p (y + 1))) q j = b q j := fun q j h => by
    unfold xU
    rw [if_neg h]
  have hp4 : p = 0 ∨ p = 1 ∨ p = 2 ∨ p = 3 := by omega
  have K1 : kOk (xS a (xU b 21 4 (xWith (b 21 4) p (y + 1)))) := xOk_l hK (by decide) (by decide +kernel) (bInL (by decide +kernel) _)
  have P1 : kP (xS a (xU b 21 4 (xWith (b 21 4) p (y + 1)))) := xP_l kP_fr hP (by decide +kernel) (by decide)
  have K2 : kOk (xS (xU a 88 (0 + p) y) (xU b 21 4 (xWith (b 21 4) p (y + 1)))) := by
    refine xOk_i K1 (by omega) q2 rfl ?_
    rcases hp4 with e | e | e | e <;> rw [e] <;> exact xIn1 (lo := 0) (hi := 7) (by decide +kernel) (by omega)
  have P2 : kP (xS (xU a 88 (0 + p) y) (xU b 21 4 (xWith (b 21 4) p (y + 1)))) := by
    refine xP_i kP_fr P1 ?_ (by omega)
    rcases hp4 with e | e | e | e <;> rw [e] <;> decide +kernel
  refine ⟨⟨?_, vT_o hz (fun q j hq => o q j (by omega))⟩, K2, P2⟩
  refine ⟨⟨(o 0 12 (by omega)).trans g1, (o 87 4 (by omega)).trans g2⟩, xAr_u hA q2, vPs_o hs (fun q j hq => o q j (by omega)) (ob 3 3 (by omega)), vPp_o hp (fun q j hq => o q j (by omega)), ?_, vPv_o hv (fun q j hq => o q j (by omega)) (fun j => ⟨ob 35 j (by omega), ob 114 j (by omega)⟩), vPl_o hl (fun q j hq => o q j (by omega)), T, vPg_o hT (fun q j hq => o q j (by omega))⟩
  rw [o 87 2 (by omega)]
  refine vPw_p hw k4 e1 e2 ?_ (fun j hj => o 88 j (by omega)) xUa (ob 21 5 (by omega)) (fun f => ob 22 f (by omega))
  exact if_pos ⟨rfl, by omega⟩
/-- thing, hidden: what they leave -/
theorem vB20n {s w' : Int} {w5 : Int64} {a2 : xA} {b2 : xB} (h : vPre a b) (hn0 : 0 ≤ a 87 2 ∧ a 87 2 < 5) (hg : 0 ≤ g ∧ g ≤ 1) (hA : xAr a2) (o : ∀ q j, ¬ (q = 88 ∧ (j = 4 + a 87 2 ∨ j = 9 + a 87 2)) → ¬ (q = 91 ∧ j = a 87 2) → ¬ (q = 87 ∧ j = 2) → ¬ (q = 3 ∧ (j = 4 ∨ j = 5)) → a2 q j = a q j) (ob : ∀ q j, ¬ (q = 21 ∧ (j = 4 ∨ j = 5)) → b2 q j = b q j) (e91 : a2 91 (a 87 2) = g) (e87 : a2 87 2 = a 87 2 + 1) (e34 : a2 3 4 = vWn g (a 87 2) (a 3 4)) (e35 : a2 3 5 = a 87 2 + 1) (hw' : vPw (a 87 2 + 1) (a2 88) b2) : vPre a2 b2 := by
  obtain ⟨⟨g1, g2⟩, hA0, hs, hp, hw, hv, hl, T, hT⟩ := h
  obtain ⟨⟨k1, k2, k3, k4, k5⟩, k6, k7⟩ := id hs
  have e90 : a2 90 = a 90 := funext fun j => o 90 j (by omega) (by omega) (by omega) (by omega)
  obtain ⟨m1, m2⟩ := vWn_b hn0 k7 hg
  refine ⟨⟨(o 0 12 (by omega) (by omega) (by omega) (by omega)).trans g1, (o 87 4 (by omega) (by omega) (by omega) (by omega)).trans g2⟩, hA, ?_, vPp_o hp (fun q j hq => o q j (by omega) (by omega) (by omega) (by omega)), by rw [e87]; exact hw', vPv_o hv (fun q j hq => o q j (by omega) (by omega) (by omega) (by omega)) (fun j => ⟨ob 35 j (by omega), ob 114 j (by omega)⟩), vPl_o hl (fun q j hq => o q j (by omega) (by omega) (by omega) (by omega)), T, vPg_o hT (fun q j hq => o q j (by omega) (by omega) (by omega) (by omega))⟩
  unfold vPs uKs
  rw [e90, e87, e34, e35, ob 3 3 (by omega)]
  refine ⟨⟨k1, fun i i0 i1 => ?_, rfl, by omega, fun k c0 c1 => (o 4 _ (by omega) (by omega) (by omega) (by omega)).trans (k5 k c0 c1)⟩, fun i n0 i0 i1 => ?_, m1⟩
  · rw [m2 i i0 i1]
    by_cases c : i = a 87 2
    · rw [if_pos c, c, e91]
    · rw [if_neg c, o 91 i (by omega) (by omega) (by omega) (by omega)]
      exact k2 i i0 i1
  · rw [o 91 i (by omega) (by omega) (by omega) (by omega)]
    exact k6 i (by omega) i0 i1
end
end
end
section
/-! ahead of the beginning: thing, hidden, believe, price -/
section
set_option maxRecDepth 100000


section
variable {Ln : Nat} {xs : Nat → Int32} {d : Nat} {n p q x y v f i j k m g : Int} {a a' : xA} {b b' : xB}
theorem vWo_x (hn : 0 ≤ n ∧ n ≤ 5) (h : vWo (n + 1) y) : xR y := by
  have h1 := h.1
  have h2 := h.2
  have : n = 0 ∨ n = 1 ∨ n = 2 ∨ n = 3 ∨ n = 4 ∨ n = 5 := by omega
  rcases this with rfl | rfl | rfl | rfl | rfl | rfl <;> exact ⟨by omega, Int.le_of_lt (Int.lt_of_lt_of_le h2 (by decide))⟩
/-- thing -/
theorem vB20 (h : vPz a b) (q1 : xR x) (hg : 0 ≤ g ∧ g ≤ 1) (hd : 4 ≤ d) : uBo Ln xs vPz d 20 141 [xV x, xV g] a b := by
  intro Q hQ
  have h0 := h
  obtain ⟨⟨⟨g1, g2⟩, hA, hs, hp, hw, hv, hl, T, hT⟩, hz⟩ := h
  obtain ⟨⟨k1, k2, k3, k4, k5⟩, k6, k7⟩ := id hs
  obtain ⟨n, en⟩ : ∃ n, a 87 2 = n := ⟨_, rfl⟩
  rw [en] at k3 k4 k7
  refine vk20 q1 hg k3 k4 g1 (Or.inl rfl) k7 hd (fun hy => hQ _ _ _ (fun Q2 h2 => ?_)) (fun hno => hQ _ _ _ (fun Q2 h2 => ?_))
  · have hn : 0 ≤ n ∧ n < 5 := ⟨k4.1, hy.2.1⟩
    have hW := (vWn_b hn k7 hg).1
    have A1 : xAr (xU (xU a 3 4 (vWn g n (a 3 4))) 3 5 (n + 1)) := xAr_u (xAr_u hA (vWo_x (by omega) hW)) ⟨by omega, by omega⟩
    have e34 : (xU (xU a 3 4 (vWn g n (a 3 4))) 3 5 (n + 1)) 3 4 = vWn g n (a 3 4) := by rw [xUk (by decide), xUa]
    have e35 : (xU (xU a 3 4 (vWn g n (a 3 4))) 3 5 (n + 1)) 3 5 = n + 1 := xUa
    have o1 : ∀ q j, ¬ (q = 3 ∧ (j = 4 ∨ j = 5)) → (xU (xU a 3 4 (vWn g n (a 3 4))) 3 5 (n + 1)) q j = a q j := fun q j h => by
      unfold xU
      rw [if_neg (by omega), if_neg (by omega)]
    have ob : ∀ q j, ¬ (q = 21 ∧ (j = 4 ∨ j = 5)) → (xU b 21 4 (xWith (b 21 4) (4 + n) (vIw x))) q j = b q j := fun q j h => by
      unfold xU
      rw [if_neg (by omega)]
    have e4 : (xU b 21 4 (xWith (b 21 4) (4 + n) (vIw x))) 21 4 = xWith (b 21 4) (4 + n) (vIw x) := xUa
    have e5 : (xU b 21 4 (xWith (b 21 4) (4 + n) (vIw x))) 21 5 = b 21 5 := xUk (by decide)
    generalize xU (xU a 3 4 (vWn g n (a 3 4))) 3 5 (n + 1) = a1 at *
    generalize (xU b 21 4 (xWith (b 21 4) (4 + n) (vIw x))) = b1 at *
    refine vk141 q1 hg A1 ((o1 87 2 (by omega)).trans en) k4 ((o1 87 4 (by omega)).trans g2) (Or.inl rfl) hd (fun _ => h2 _ _ ?_) (fun hno => absurd hy hno)
    have A2 : xAr (xU (xU (xU a1 88 (4 + n) x) 91 n g) 87 2 (n + 1)) := xAr_u (xAr_u (xAr_u A1 q1) ⟨by omega, by omega⟩) ⟨by omega, by omega⟩
    have o2 : ∀ q j, ¬ (q = 88 ∧ (j = 4 + n ∨ j = 9 + n)) → ¬ (q = 91 ∧ j = n) → ¬ (q = 87 ∧ j = 2) → ¬ (q = 3 ∧ (j = 4 ∨ j = 5)) → (xU (xU (xU a1 88 (4 + n) x) 91 n g) 87 2 (n + 1)) q j = a q j := fun q j h1 h2 h3 h4 => by
      rw [← o1 q j h4]
      unfold xU
      rw [if_neg (by omega), if_neg (by omega), if_neg (by omega)]
    have r1 : (xU (xU (xU a1 88 (4 + n) x) 91 n g) 87 2 (n + 1)) 88 (4 + n) = x := by
      unfold xU
      rw [if_neg (by omega), if_neg (by omega), if_pos ⟨rfl, rfl⟩]
    have r9 : (xU (xU (xU a1 88 (4 + n) x) 91 n g) 87 2 (n + 1)) 88 (9 + n) = a 88 (9 + n) := by
      rw [← o1 88 (9 + n) (by omega)]
      unfold xU
      rw [if_neg (by omega), if_neg (by omega), if_neg (by omega)]
    refine ⟨?_, vT_o hz (fun q j hq => o2 q j (by omega) (by omega) (by omega) (by omega))⟩
    refine vB20n (s := 0) (w' := 0) (w5 := 0) h0.1 (by rw [en]; exact hn) hg A2 (by rw [en]; exact o2) ob (by
      rw [en]
      unfold xU
      rw [if_neg (by omega), if_pos ⟨rfl, rfl⟩]) (by
      rw [en]
      exact xUa) (by
      rw [en, ← e34]
      unfold xU
      rw [if_neg (by omega), if_neg (by omega), if_neg (by omega)]) (by
      rw [en, ← e35]
      unfold xU
      rw [if_neg (by omega), if_neg (by omega), if_neg (by omega)]) ?_
    rw [en]
    rw [en] at hw
    exact vPw_t (x := x) (y := (vIw x)) (v := 0) hw hn (Or.inl ⟨hy.2.2, rfl, e5, r9⟩) r1 (fun j j1 j2 => o2 88 j (by omega) (by omega) (by omega) (by omega)) e4 (fun f => ob 22 f (by omega))
  · exact vk141 q1 hg hA en k4 g2 (Or.inl rfl) hd (fun hy => absurd hy hno) (fun _ => h2 a b h0)
/-- hidden -/
theorem vB23 (h : vPz a b) (q1 : xR v) (hg : 0 ≤ g ∧ g ≤ 1) (hd : 4 ≤ d) : uBo Ln xs vPz d 23 142 [xV v, xV g] a b := by
  intro Q hQ
  have h0 := h
  obtain ⟨⟨⟨g1, g2⟩, hA, hs, hp, hw, hv, hl, T, hT⟩, hz⟩ := h
  obtain ⟨⟨k1, k2, k3, k4, k5⟩, k6, k7⟩ := id hs
  obtain ⟨n, en⟩ : ∃ n, a 87 2 = n := ⟨_, rfl⟩
  rw [en] at k3 k4 k7
  refine vk23 q1 hg k3 k4 g1 (Or.inl rfl) k7 hd (fun hy => hQ _ _ _ (fun Q2 h2 => ?_)) (fun hno => hQ _ _ _ (fun Q2 h2 => ?_))
  · have hn : 0 ≤ n ∧ n < 5 := ⟨k4.1, hy.2.1⟩
    have hW := (vWn_b hn k7 hg).1
    have A1 : xAr (xU (xU a 3 4 (vWn g n (a 3 4))) 3 5 (n + 1)) := xAr_u (xAr_u hA (vWo_x (by omega) hW)) ⟨by omega, by omega⟩
    have e34 : (xU (xU a 3 4 (vWn g n (a 3 4))) 3 5 (n + 1)) 3 4 = vWn g n (a 3 4) := by rw [xUk (by decide), xUa]
    have e35 : (xU (xU a 3 4 (vWn g n (a 3 4))) 3 5 (n + 1)) 3 5 = n + 1 := xUa
    have o1 : ∀ q j, ¬ (q = 3 ∧ (j = 4 ∨ j = 5)) → (xU (xU a 3 4 (vWn g n (a 3 4))) 3 5 (n + 1)) q j = a q j := fun q j h => by
      unfold xU
      rw [if_neg (by omega), if_neg (by omega)]
    have ob : ∀ q j, ¬ (q = 21 ∧ (j = 4 ∨ j = 5)) → (xU (xU b 21 4 (xWith (b 21 4) (4 + n) 13)) 21 5 ((b 21 5) ||| (xShL (Int64.ofInt v) (7 * n)))) q j = b q j := fun q j h => by
      unfold xU
      rw [if_neg (by omega), if_neg (by omega)]
    have e4 : (xU (xU b 21 4 (xWith (b 21 4) (4 + n) 13)) 21 5 ((b 21 5) ||| (xShL (Int64.ofInt v) (7 * n)))) 21 4 = xWith (b 21 4) (4 + n) 13 := (xUk (by decide)).trans xUa
    have e5 : (xU (xU b 21 4 (xWith (b 21 4) (4 + n) 13)) 21 5 ((b 21 5) ||| (xShL (Int64.ofInt v) (7 * n)))) 21 5 = (b 21 5) ||| (xShL (Int64.ofInt v) (7 * n)) := xUa
    generalize xU (xU a 3 4 (vWn g n (a 3 4))) 3 5 (n + 1) = a1 at *
    generalize (xU (xU b 21 4 (xWith (b 21 4) (4 + n) 13)) 21 5 ((b 21 5) ||| (xShL (Int64.ofInt v) (7 * n)))) = b1 at *
    refine vk142 q1 hg A1 ((o1 87 2 (by omega)).trans en) k4 ((o1 87 4 (by omega)).trans g2) (Or.inl rfl) hd (fun _ => h2 _ _ ?_) (fun hno => absurd hy hno)
    have A2 : xAr (xU (xU (xU (xU a1 88 (4 + n) 20) 88 (9 + n) v) 91 n g) 87 2 (n + 1)) := xAr_u (xAr_u (xAr_u (xAr_u A1 ⟨by decide, by decide⟩) q1) ⟨by omega, by omega⟩) ⟨by omega, by omega⟩
    have o2 : ∀ q j, ¬ (q = 88 ∧ (j = 4 + n ∨ j = 9 + n)) → ¬ (q = 91 ∧ j = n) → ¬ (q = 87 ∧ j = 2) → ¬ (q = 3 ∧ (j = 4 ∨ j = 5)) → (xU (xU (xU (xU a1 88 (4 + n) 20) 88 (9 + n) v) 91 n g) 87 2 (n + 1)) q j = a q j := fun q j h1 h2 h3 h4 => by
      rw [← o1 q j h4]
      unfold xU
      rw [if_neg (by omega), if_neg (by omega), if_neg (by omega), if_neg (by omega)]
    have r1 : (xU (xU (xU (xU a1 88 (4 + n) 20) 88 (9 + n) v) 91 n g) 87 2 (n + 1)) 88 (4 + n) = 20 := by
      unfold xU
      rw [if_neg (by omega), if_neg (by omega), if_neg (by omega), if_pos ⟨rfl, rfl⟩]
    have r9 : (xU (xU (xU (xU a1 88 (4 + n) 20) 88 (9 + n) v) 91 n g) 87 2 (n + 1)) 88 (9 + n) = v := by
      rw [show v = v from rfl]
      unfold xU
      rw [if_neg (by omega), if_neg (by omega), if_pos ⟨rfl, rfl⟩]
    refine ⟨?_, vT_o hz (fun q j hq => o2 q j (by omega) (by omega) (by omega) (by omega))⟩
    refine vB20n (s := 0) (w' := 0) (w5 := 0) h0.1 (by rw [en]; exact hn) hg A2 (by rw [en]; exact o2) ob (by
      rw [en]
      unfold xU
      rw [if_neg (by omega), if_pos ⟨rfl, rfl⟩]) (by
      rw [en]
      exact xUa) (by
      rw [en, ← e34]
      unfold xU
      rw [if_neg (by omega), if_neg (by omega), if_neg (by omega), if_neg (by omega)]) (by
      rw [en, ← e35]
      unfold xU
      rw [if_neg (by omega), if_neg (by omega), if_neg (by omega), if_neg (by omega)]) ?_
    rw [en]
    rw [en] at hw
    exact vPw_t (x := 20) (y := 13) (v := v) hw hn (Or.inr ⟨rfl, rfl, hy.2.2.1, e5, r9⟩) r1 (fun j j1 j2 => o2 88 j (by omega) (by omega) (by omega) (by omega)) e4 (fun f => ob 22 f (by omega))
  · exact vk142 q1 hg hA en k4 g2 (Or.inl rfl) hd (fun hy => absurd hy hno) (fun _ => h2 a b h0)
/-- believe -/
theorem vB25 (h : vPz a b) (q1 : xR p) (hg : g = 0 ∨ g = 1) (q2 : xR i) (q3 : xR x) (hd : 5 ≤ d) : uBo Ln xs vPz d 25 145 [xV p, xV g, xV i, xV x] a b := by
  intro Q hQ
  have h0 := h
  obtain ⟨⟨⟨g1, g2⟩, hA, hs, hp, hw, hv, hl, T, hT⟩, hz⟩ := h
  obtain ⟨⟨k1, k2, k3, k4, k5⟩, k6, k7⟩ := id hs
  have new : ∀ j k, (1 ≤ p ∧ p < 4) → ((∃ q, (0 ≤ q ∧ q < 4) ∧ ¬ q = p ∧ j = q ∧ k = 14 + 9 * (p - 1) + 5 + q ∧ (x = -1 ∨ (0 ≤ x ∧ x < 7))) ∨ ∃ q, (0 ≤ q ∧ q < a 87 2) ∧ j = 4 + q ∧ k = 14 + 9 * (p - 1) + q ∧ (x = -1 ∨ (0 ≤ x ∧ x < 7) ∨ (10 ≤ x ∧ x < 14))) → vPz (xU a 88 k x) (xU b 22 p (xWith (b 22 p) j (vIw x))) := by
    intro j k hp' hs'
    have hk : 14 ≤ k ∧ k ≤ 40 := by
      rcases hs' with ⟨q, q0, q1, q2, q3, q4⟩ | ⟨q, q0, q2, q3, q4⟩ <;> omega
    have o : ∀ q j, ¬ (q = 88 ∧ j = k) → (xU a 88 k x) q j = a q j := fun q j h => by
      unfold xU
      rw [if_neg h]
    have ob : ∀ q i, ¬ (q = 22 ∧ i = p) → (xU b 22 p (xWith (b 22 p) j (vIw x))) q i = b q i := fun q j h => by
      unfold xU
      rw [if_neg h]
    refine ⟨?_, vT_o hz (fun q j hq => o q j (by omega))⟩
    refine ⟨⟨(o 0 12 (by omega)).trans g1, (o 87 4 (by omega)).trans g2⟩, xAr_u hA q3, vPs_o hs (fun q j hq => o q j (by omega)) (ob 3 3 (by omega)), vPp_o hp (fun q j hq => o q j (by omega)), ?_, vPv_o hv (fun q j hq => o q j (by omega)) (fun j => ⟨ob 35 j (by omega), ob 114 j (by omega)⟩), vPl_o hl (fun q j hq => o q j (by omega)), T, vPg_o hT (fun q j hq => o q j (by omega))⟩
    rw [o 87 2 (by omega)]
    exact vPw_b (k := k) (x := x) hw k4 hp' hs' xUa (fun j hj => o 88 j (by omega)) (ob 21 4 (by omega)) (ob 21 5 (by omega)) xUa (fun f hf => ob 22 f (by omega))
  refine vk25 q1 hg q2 q3 k3 k4 g1 (Or.inl rfl) hd (fun e hy => hQ _ _ _ (fun Q2 h2 => ?_)) (fun e hy => hQ _ _ _ (fun Q2 h2 => ?_)) (fun hno => hQ _ _ _ (fun Q2 h2 => ?_))
  · refine vk145 q1 hg q2 q3 hA rfl k4 g2 (Or.inl rfl) (by omega) (fun _ _ => h2 _ _ (new i _ hy.2.1 (Or.inl ⟨i, hy.2.2.1, hy.2.2.2.1, rfl, rfl, hy.2.2.2.2⟩))) (fun e0 => absurd e0 (by omega)) (fun hno => absurd (by omega) hno)
  · refine vk145 q1 hg q2 q3 hA rfl k4 g2 (Or.inl rfl) (by omega) (fun e1 => absurd e1 (by omega)) (fun _ _ => h2 _ _ (new (4 + i) _ hy.2.1 (Or.inr ⟨i, hy.2.2.1, rfl, rfl, by omega⟩))) (fun hno => absurd (by omega) hno)
  · exact vk145 q1 hg q2 q3 hA rfl k4 g2 (Or.inl rfl) (by omega) (fun e1 hy => absurd (by omega) hno) (fun e1 hy => absurd (by omega) hno) (fun _ => h2 a b h0)
/-- price -/
theorem vB28 (h : vPz a b) (q1 : xR k) (q2 : xR m) (hd : 4 ≤ d) : uBo Ln xs vPz d 28 150 [xV k, xV m] a b := by
  intro Q hQ
  have h0 := h
  obtain ⟨⟨⟨g1, g2⟩, hA, hs, hp, hw, hv, hl, T, hT⟩, hz⟩ := h
  obtain ⟨⟨k1, k2, k3, k4, k5⟩, k6, k7⟩ := id hs
  refine vk28 q1 q2 g1 (Or.inl rfl) (by omega) (fun hy => hQ _ _ _ (fun Q2 h2 => ?_)) (fun hno => hQ _ _ _ (fun Q2 h2 => ?_))
  · have A1 : xAr (xU a 5 k (8 * m + 1)) := xAr_u hA ⟨by omega, by omega⟩
    have o1 : ∀ q j, ¬ q = 5 → (xU a 5 k (8 * m + 1)) q j = a q j := fun q j h => xUn h
    refine vk150 q1 q2 A1 (o1 87 2 (by decide)) k4 ((o1 87 4 (by decide)).trans g2) (Or.inl rfl) hd (fun _ => h2 _ _ ?_) (fun hno => absurd hy hno)
    have o2 : ∀ q j, ¬ q = 5 → ¬ q = 92 → (xU (xU a 5 k (8 * m + 1)) 92 k m) q j = a q j := fun q j h h' => by rw [xUn h', xUn h]
    have e88 : (xU (xU a 5 k (8 * m + 1)) 92 k m) 88 = a 88 := funext fun j => o2 88 j (by decide) (by decide)
    refine ⟨?_, vT_o hz (fun q j hq => o2 q j (by omega) (by omega))⟩
    refine ⟨⟨(o2 0 12 (by decide) (by decide)).trans g1, (o2 87 4 (by decide) (by decide)).trans g2⟩, xAr_u A1 q2, vPs_o hs (fun q j hq => o2 q j (by omega) (by omega)) rfl, fun i i0 i1 => ?_, ?_, vPv_o hv (fun q j hq => o2 q j (by omega) (by omega)) (fun _ => ⟨rfl, rfl⟩), vPl_o hl (fun q j hq => o2 q j (by omega) (by omega)), T, vPg_o hT (fun q j hq => o2 q j (by omega) (by omega))⟩
    · by_cases c : i = k
      · rw [c, xUa, xUn (by decide), xUa]
      · have e5 : (xU (xU a 5 k (8 * m + 1)) 92 k m) 5 i = a 5 i := (xUn (by decide)).trans (xUk c)
        have e92 : (xU (xU a 5 k (8 * m + 1)) 92 k m) 92 i = a 92 i := (xUk c).trans (xUn (by decide))
        rw [e5, e92]
        exact hp i i0 i1
    · rw [e88, o2 87 2 (by decide) (by decide)]
      exact hw
  · exact vk150 q1 q2 hA rfl k4 g2 (Or.inl rfl) hd (fun hy => absurd hy hno) (fun _ => h2 a b h0)
end
end
end
