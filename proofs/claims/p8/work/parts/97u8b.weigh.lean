/-! exact: weigh, folded -/
section
set_option maxRecDepth 100000


/-- tokens that are there, and those that join -/
def uTv (t : Int) : Prop := uTk t ∧ (t / 256 < 5 ∨ t = 1280 ∨ t = 1536 ∨ t = 1792)
theorem cT_p {t : Int} (h : uTv t) : (0 ≤ cT t ∧ cT t ≤ 511) ∧ (t / 256 < 5 → cT t / 64 = t / 256 ∧ cT t / 8 % 8 = t / 16 % 16 ∧ (3 ≤ t / 256 → cT t % 8 = t % 16)) ∧ (t = 1280 → cT t = 384) ∧ (t = 1536 → cT t = 448) ∧ (t = 1792 → cT t = 320) := by
  obtain ⟨⟨t0, t1, t2, t3, t4, t5⟩, h⟩ := h
  unfold cT
  split
  · omega
  split
  · omega
  split
  · omega
  split <;> omega
theorem cT_k {t : Int} (h : uTv t) : (cT t / 64 = 0 → cT t / 8 % 8 < 5) ∧ (cT t / 64 = 1 → cT t / 8 % 8 < 7) ∧ (cT t / 64 = 2 → cT t / 8 % 8 < 4) ∧ (cT t / 64 = 3 → cT t / 8 % 8 < 5 ∧ cT t % 8 < 7) ∧ (cT t / 64 = 4 → cT t / 8 % 8 < 4 ∧ cT t % 8 < 5) ∧ (t / 256 < 5 ↔ cT t / 64 < 5) := by
  obtain ⟨t0, t1, t2, t3, t4⟩ := cT_p h
  obtain ⟨⟨y0, y1, y2, y3, y4, y5⟩, y6⟩ := h
  by_cases h5 : t / 256 < 5
  · obtain ⟨e1, e2, e3⟩ := t1 h5
    rw [e1, e2]
    refine ⟨y1, y2, y3, fun g => ?_, fun g => ?_, by omega⟩
    · rw [e3 (by omega)]
      exact y4 g
    · rw [e3 (by omega)]
      exact y5 g
  · have : cT t / 64 = 5 ∨ cT t / 64 = 6 ∨ cT t / 64 = 7 := by omega
    refine ⟨fun g => by omega, fun g => by omega, fun g => by omega, fun g => by omega, fun g => by omega, by omega⟩
theorem uRun_cons {α : Type} {A : Int → α} {nt : α → α} {an ro : α → α → α} {c : Int} {cs : List Int} {st : List α} : uRun A nt an ro (c :: cs) st = if c / 256 < 5 then uRun A nt an ro cs (A c :: st) else if c / 256 = 7 then (match st with
      | [] => uRun A nt an ro cs []
      | x :: r => uRun A nt an ro cs (nt x :: r)) else (match st with
      | y :: x :: r => uRun A nt an ro cs ((if c / 256 = 5 then an x y else ro x y) :: r)
      | r => uRun A nt an ro cs r) := rfl
theorem uSnoc {α : Type} {L : List α} {c x : α} {j : Nat} (h : (L ++ [c])[j]? = some x) : L[j]? = some x ∧ j < L.length ∨ j = L.length ∧ x = c := by
  by_cases hj : j < L.length
  · rw [List.getElem?_append_left hj] at h
    exact Or.inl ⟨h, hj⟩
  · rw [List.getElem?_append_right (by omega)] at h
    obtain ⟨i, hi⟩ : ∃ i, j - L.length = i := ⟨_, rfl⟩
    rw [hi] at h
    cases i with
    | zero =>
      have e : c = x := Option.some.inj h
      exact Or.inr ⟨by omega, e.symm⟩
    | succ i => cases h
def uYq (V : Int → Int → Int) (c wp : Int → Int) (f : Int) (S : Int → Int) (w A B : Int) : Int × Int :=
  if w = 0 then (uHd V c f S A, if uHd V c f S A = 0 then uLos c else 0)
  else if w = 4 ∧ A = f then (uHd V c f S B, if uHd V c f S B = 0 then uLos c else 0)
  else if w = 1 then (if S f - 1 = A then 0 else V (S f - 1) A, if S f - 1 = A then c 1 else 0)
  else if w = 2 then (if S A = 8 then 0 else uHt V c wp f S A, if S A = 8 then 100000 else 0)
  else if w = 3 then (if S (4 + A) = B + 1 then 0 else uLi V c f S A B, if S (4 + A) = B + 1 then uHd V c f S A else 0)
  else (if S (4 + B) = 9 + A then 0 else uOw V c f S A B, if S (4 + B) = 9 + A then uHt V c wp f S A else 0)
theorem uYq_e {V : Int → Int → Int} {c wp : Int → Int} {f : Int} {S : Int → Int} {t : Int} (h : uTv t) (h5 : t / 256 < 5) : uYN V c wp f S t = uYq V c wp f S (cT t / 64) (cT t / 8 % 8) (cT t % 8) := by
  have t0 : 0 ≤ t := h.1.1
  obtain ⟨e1, e2, e3⟩ := (cT_p h).2.1 h5
  rw [e1, e2]
  by_cases c3 : 3 ≤ t / 256
  · rw [e3 c3]
    rfl
  · show uYq V c wp f S (t / 256) (t / 16 % 16) (t % 16) = _
    unfold uYq
    by_cases w0 : t / 256 = 0
    · rw [if_pos w0, if_pos w0]
    have w4 : ¬ (t / 256 = 4 ∧ t / 16 % 16 = f) := by omega
    rw [if_neg w0, if_neg w0, if_neg w4, if_neg w4]
    by_cases w1 : t / 256 = 1
    · rw [if_pos w1, if_pos w1]
    have w2 : t / 256 = 2 := by omega
    rw [if_neg w1, if_neg w1, if_pos w2, if_pos w2]
section
variable {Ln : Nat} {xs : Nat → Int32} {d : Nat} {Q : Option Value → pmS → Prop} {dr wp : Int → Int} {p k : Int} {l : Int64} {a : xA} {b : xB}
set_option maxHeartbeats 20000000 in
theorem u74 {c : Int → Int} {cp : Nat} {f wr : Int} {ts : List Int} {a0 : xA} (hA : xAr a) (hf : a 34 10 = f) (hf0 : 1 ≤ f ∧ f ≤ 3) (hw : a 34 11 = wr) (hw0 : 0 ≤ wr ∧ wr ≤ 11) (hn : a 9 wr = (ts.length : Int)) (hn0 : ts.length ≤ 40) (hS : 1 ≤ uSl l f ∧ uSl l f ≤ 7) (hW : ∀ k, 0 ≤ k → 0 ≤ a 6 k ∧ a 6 k ≤ 99) (hco : uCo a c cp) (hcb : ∀ k, 1 ≤ k → k < 6 → 1 ≤ c k ∧ c k ≤ 73)
    (htk : ∀ (j : Nat) t, ts[j]? = some t → a 8 (wr * 40 + (j : Int)) = cT t) (htv : ∀ t, t ∈ ts → uTv t) (h6 : ∀ k, a 6 k = a0 6 k)
    (h41 : ∀ x, 0 ≤ x → x < 5 → a 41 x = uHd (uV a0 c) c f (uSl l) x ∧ a 42 x = uSr (uV a0 c) f (uSl l) x) (h40 : ∀ q, 0 ≤ q → q < 4 → a 40 q = uHt (uV a0 c) c wp f (uSl l) q)
    (b41 : ∀ x, 0 ≤ x → x < 5 → (0 ≤ uHd (uV a0 c) c f (uSl l) x ∧ uHd (uV a0 c) c f (uSl l) x ≤ 100000) ∧ 0 ≤ uSr (uV a0 c) f (uSl l) x ∧ uSr (uV a0 c) f (uSl l) x ≤ 6) (b40 : ∀ q, 0 ≤ q → q < 4 → 0 ≤ uHt (uV a0 c) c wp f (uSl l) q ∧ uHt (uV a0 c) c wp f (uSl l) q ≤ 200000) (hd : 1 ≤ d)
    (hQ : ∀ a', (∀ q j, q ≠ 37 → q ≠ 38 → a' q j = a q j) → xAr a' → (∀ (j : Nat) t, ts[j]? = some t → t / 256 < 5 → a' 37 (j : Int) = (uYN (uV a0 c) c wp f (uSl l) t).1 ∧ a' 38 (j : Int) = (uYN (uV a0 c) c wp f (uSl l) t).2) → Q none (xS a' b)) : pmCs (pmRo Ln xs) d 74 [.ref 34, .long l, .ref cp] (xS a b) Q := by
  have e1 : xL2 (xShr l (4 * f)) % 16 = uSl l f := rfl
  have hh : (if 0 < (if uSl l f < 7 then uSl l f else 7) - 1 then (if uSl l f < 7 then uSl l f else 7) - 1 else 0) = uSl l f - 1 := by
    split <;> split <;> omega
  have hc1 := hcb 1 (by decide) (by decide)
  have hc2 := hcb 2 (by decide) (by decide)
  have hc3 := hcb 3 (by decide) (by decide)
  have hc4 := hcb 4 (by decide) (by decide)
  have hc5 := hcb 5 (by decide) (by decide)
  have hlo : (if c 4 < c 3 then c 4 else c 3) = uLos c := rfl
  have hla : (if c 4 + c 5 < c 3 then c 4 + c 5 else c 3) = uLay c := rfl
  have hlo0 : 0 ≤ uLos c ∧ uLos c ≤ 73 := by
    unfold uLos uMin
    split <;> omega
  have hla0 : 0 ≤ uLay c ∧ uLay c ≤ 146 := by
    unfold uLay uMin
    split <;> omega
  have es : ∀ x, xL2 (xShr l (16 + (4 * x))) % 16 = uSl l (4 + x) := fun x => uSl_at (by omega)
  have ep : ∀ x, xL2 (xShr l (4 * x)) % 16 = uSl l x := fun x => rfl
  have fco : ∀ a1 : xA, (∀ q j, q ≠ 37 → q ≠ 38 → a1 q j = a q j) → uCo a1 c cp := fun a1 h => by
    rcases hco with h' | ⟨g1, g2⟩
    · exact Or.inl h'
    · exact Or.inr ⟨g1, fun k k0 k1 => by rw [h 5 k (by decide) (by decide)]; exact g2 k k0 k1⟩
  -- the loop
  have loop : ∀ (m i : Nat) (a1 : xA) (v8 v9 v10 v11 v12 v13 v14 v15 v16 v17 : Option Value), ts.length - i ≤ m → i ≤ ts.length → (∀ q j, q ≠ 37 → q ≠ 38 → a1 q j = a q j) → xAr a1 → (∀ (j : Nat) t, j < i → ts[j]? = some t → t / 256 < 5 → a1 37 (j : Int) = (uYN (uV a0 c) c wp f (uSl l) t).1 ∧ a1 38 (j : Int) = (uYN (uV a0 c) c wp f (uSl l) t).2) →
      pmWp (pmRo Ln xs) 0 3 74 0 54 [some (.ref 34), some (.long l), none, some (.ref cp), some (xV (uSl l f - 1)), some (xV (uLos c)), some (xV (uLay c)), some (xV (i : Int)), v8, v9, v10, v11, v12, v13, v14, v15, v16, v17] [] (xS a1 b) Q := by
    intro m
    induction m with
    | zero =>
      intro i a1 v8 v9 v10 v11 v12 v13 v14 v15 v16 v17 hm hi h1 h2 h3
      have ei : i = ts.length := by omega
      subst ei
      refine w74x (h1 34 10 (by decide) (by decide) |>.trans hf) hf0 (h1 34 11 (by decide) (by decide) |>.trans hw) hw0 (h1 9 wr (by decide) (by decide) |>.trans hn) ⟨by omega, by omega⟩ (fun k k0 => by rw [h1 6 k (by decide) (by decide)]; exact hW k k0) (fco a1 h1) hcb ⟨by omega, by omega⟩ ⟨by omega, by omega⟩ ⟨by omega, by omega⟩ ?_
      exact hQ a1 h1 h2 (fun j t ht h5 => h3 j t (List.getElem?_eq_some_iff.mp ht).1 ht h5)
    | succ m ih =>
      intro i a1 v8 v9 v10 v11 v12 v13 v14 v15 v16 v17 hm hi h1 h2 h3
      by_cases ei : i = ts.length
      · subst ei
        refine w74x (h1 34 10 (by decide) (by decide) |>.trans hf) hf0 (h1 34 11 (by decide) (by decide) |>.trans hw) hw0 (h1 9 wr (by decide) (by decide) |>.trans hn) ⟨by omega, by omega⟩ (fun k k0 => by rw [h1 6 k (by decide) (by decide)]; exact hW k k0) (fco a1 h1) hcb ⟨by omega, by omega⟩ ⟨by omega, by omega⟩ ⟨by omega, by omega⟩ ?_
        exact hQ a1 h1 h2 (fun j t ht h5 => h3 j t (List.getElem?_eq_some_iff.mp ht).1 ht h5)
      · have hlt : i < ts.length := by omega
        obtain ⟨t, ht⟩ : ∃ t, ts[i]? = some t := ⟨_, List.getElem?_eq_some_iff.mpr ⟨hlt, rfl⟩⟩
        have htv' := htv t (List.mem_of_getElem? ht)
        have t0 := (cT_p htv').1
        obtain ⟨k0, k1, k2, k3, k4, k5⟩ := cT_k htv'
        have g6 : ∀ k, a1 6 k = a0 6 k := fun k => (h1 6 k (by decide) (by decide)).trans (h6 k)
        have g41 : ∀ x, 0 ≤ x → x < 5 → a1 41 x = uHd (uV a0 c) c f (uSl l) x := fun x x0 x1 => (h1 41 x (by decide) (by decide)).trans (h41 x x0 x1).1
        have g42 : ∀ x, 0 ≤ x → x < 5 → a1 42 x = uSr (uV a0 c) f (uSl l) x := fun x x0 x1 => (h1 42 x (by decide) (by decide)).trans (h41 x x0 x1).2
        have g40 : ∀ q, 0 ≤ q → q < 4 → a1 40 q = uHt (uV a0 c) c wp f (uSl l) q := fun q q0 q1 => (h1 40 q (by decide) (by decide)).trans (h40 q q0 q1)
        have nx0 : ∀ (v8 v9 v10 v11 v12 v13 v14 v15 v16 v17 : Option Value), ¬ t / 256 < 5 → pmWp (pmRo Ln xs) 0 3 74 0 54 [some (.ref 34), some (.long l), none, some (.ref cp), some (xV (uSl l f - 1)), some (xV (uLos c)), some (xV (uLay c)), some (xV ((i : Int) + 1)), v8, v9, v10, v11, v12, v13, v14, v15, v16, v17] [] (xS a1 b) Q := by
          intro v8 v9 v10 v11 v12 v13 v14 v15 v16 v17 h5
          refine ih (i + 1) a1 v8 v9 v10 v11 v12 v13 v14 v15 v16 v17 (by omega) (by omega) h1 h2 (fun j s hj hs h5' => ?_)
          by_cases ej : j = i
          · subst ej
            rw [ht] at hs
            cases hs
            exact absurd h5' h5
          · exact h3 j s (by omega) hs h5'
        have nx : ∀ (v1 v2 : Int) (v8 v9 v10 v11 v12 v13 v14 v15 v16 v17 : Option Value), xR v1 → xR v2 → (t / 256 < 5 → (v1, v2) = uYq (uV a0 c) c wp f (uSl l) (cT t / 64) (cT t / 8 % 8) (cT t % 8)) → pmWp (pmRo Ln xs) 0 3 74 0 54 [some (.ref 34), some (.long l), none, some (.ref cp), some (xV (uSl l f - 1)), some (xV (uLos c)), some (xV (uLay c)), some (xV ((i : Int) + 1)), v8, v9, v10, v11, v12, v13, v14, v15, v16, v17] [] (xS (xU (xU a1 37 i v1) 38 i v2) b) Q := by
          intro v1 v2 v8 v9 v10 v11 v12 v13 v14 v15 v16 v17 r1 r2 hv
          refine ih (i + 1) _ v8 v9 v10 v11 v12 v13 v14 v15 v16 v17 (by omega) (by omega) (fun q j q1 q2 => ?_) (xAr_u (xAr_u h2 r1) r2) (fun j s hj hs h5 => ?_)
          · rw [xUn q2, xUn q1]
            exact h1 q j q1 q2
          · by_cases ej : j = i
            · subst ej
              rw [ht] at hs
              cases hs
              rw [uYq_e htv' h5, ← hv h5, xUn (by decide), xUa, xUa]
              exact ⟨rfl, rfl⟩
            · rw [xUn (by decide), xUk (by omega), xUk (by omega), xUn (by decide)]
              exact h3 j s (by omega) hs h5
        refine w74l (tk := cT t) (h1 34 10 (by decide) (by decide) |>.trans hf) hf0 (h1 34 11 (by decide) (by decide) |>.trans hw) hw0 (h1 9 wr (by decide) (by decide) |>.trans hn) ⟨by omega, by omega⟩ (fun k k0 => by rw [h1 6 k (by decide) (by decide)]; exact hW k k0) (fco a1 h1) hcb ((h1 8 _ (by decide) (by decide)).trans (htk i t ht)) ?_ ⟨by omega, by omega⟩ ⟨by omega, by omega⟩ ⟨by omega, by omega⟩ ⟨by omega, by omega⟩ (fun k k0 k1 => by rw [g40 k k0 k1]; exact b40 k k0 k1) (fun k k0 k1 => by rw [g41 k k0 k1]; exact (b41 k k0 k1).1) (fun k k0 k1 => by rw [g42 k k0 k1]; exact (b41 k k0 k1).2) ?_ ?_ ?_ ?_ ?_ ?_ ?_ ?_ ?_ ?_ ?_ ?_ ?_ ?_ ?_ ?_ ?_ ?_ ?_ ?_ ?_ ?_ ?_ ?_
        · exact ⟨t0.1, t0.2, fun g => by have := k0 g; omega, fun g => by have := k1 g; omega, fun g => by have := k2 g; omega, fun g => by have := k3 g; omega, fun g => by have := k4 g; omega⟩
        · intro e1
          exfalso
          omega
        · intro e1 e2 e3
          try simp only [es, ep] at e1 e2 e3 ⊢
          have hb := k0 e2
          clear k0 k1 k2 k3 k4
          simp only [g41 (cT t / 8 % 8) (by omega) (by omega)] at e1 e2 e3 ⊢
          have z0 := b41 (cT t / 8 % 8) (by omega) (by omega)
          refine nx _ _ _ _ _ _ _ _ _ _ _ _ ⟨by omega, by omega⟩ ⟨by omega, by omega⟩ (fun h5 => ?_)
          unfold uYq
          rw [if_pos (by omega)]
          refine Prod.ext ?_ ?_ <;> dsimp only
          all_goals ((repeat' split) <;> omega)
        · intro e1 e2 e3
          try simp only [es, ep] at e1 e2 e3 ⊢
          have hb := k0 e2
          clear k0 k1 k2 k3 k4
          simp only [g41 (cT t / 8 % 8) (by omega) (by omega)] at e1 e2 e3 ⊢
          have z0 := b41 (cT t / 8 % 8) (by omega) (by omega)
          refine nx _ _ _ _ _ _ _ _ _ _ _ _ ⟨by omega, by omega⟩ ⟨by omega, by omega⟩ (fun h5 => ?_)
          unfold uYq
          rw [if_pos (by omega)]
          refine Prod.ext ?_ ?_ <;> dsimp only
          all_goals ((repeat' split) <;> omega)
        · intro e1 e2 e3 e4 e5 e6
          try simp only [es, ep] at e1 e2 e3 e4 e5 e6 ⊢
          exact nx0 _ _ _ _ _ _ _ _ _ _ (by omega)
        · intro e1 e2 e3 e4 e5 e6 e7 e8
          try simp only [es, ep] at e1 e2 e3 e4 e5 e6 e7 e8 ⊢
          have hb := k3 e6
          clear k0 k1 k2 k3 k4
          simp only [g41 (cT t / 8 % 8) (by omega) (by omega)] at e1 e2 e3 e4 e5 e6 e7 e8 ⊢
          simp only [g42 (cT t / 8 % 8) (by omega) (by omega)] at e1 e2 e3 e4 e5 e6 e7 e8 ⊢
          simp only [g6]
          have z0 := b41 (cT t / 8 % 8) (by omega) (by omega)
          have zw := uWc (hW (7 * uSr (uV a0 c) f (uSl l) (cT t / 8 % 8) + cT t % 8) (by omega)) hc1
          rw [h6] at zw
          refine nx _ _ _ _ _ _ _ _ _ _ _ _ ⟨by omega, by omega⟩ ⟨by omega, by omega⟩ (fun h5 => ?_)
          unfold uYq
          rw [if_neg (by omega), if_neg (by omega), if_neg (by omega), if_neg (by omega), if_pos (by omega)]
          all_goals (try unfold uLi)
          have ev : uV a0 c (uSr (uV a0 c) f (uSl l) (cT t / 8 % 8)) (cT t % 8) = a0 6 (7 * uSr (uV a0 c) f (uSl l) (cT t / 8 % 8) + cT t % 8) * c 1 := rfl
          all_goals (try rw [ev])
          refine Prod.ext ?_ ?_ <;> dsimp only
          all_goals ((repeat' split) <;> omega)
        · intro e1 e2 e3 e4 e5 e6 e7 e8 e9
          try simp only [es, ep] at e1 e2 e3 e4 e5 e6 e7 e8 e9 ⊢
          have hb := k3 e6
          clear k0 k1 k2 k3 k4
          simp only [g41 (cT t / 8 % 8) (by omega) (by omega)] at e1 e2 e3 e4 e5 e6 e7 e8 e9 ⊢
          simp only [g42 (cT t / 8 % 8) (by omega) (by omega)] at e1 e2 e3 e4 e5 e6 e7 e8 e9 ⊢
          simp only [g6]
          have z0 := b41 (cT t / 8 % 8) (by omega) (by omega)
          have zw := uWc (hW (7 * uSr (uV a0 c) f (uSl l) (cT t / 8 % 8) + cT t % 8) (by omega)) hc1
          rw [h6] at zw
          refine nx _ _ _ _ _ _ _ _ _ _ _ _ ⟨by omega, by omega⟩ ⟨by omega, by omega⟩ (fun h5 => ?_)
          unfold uYq
          rw [if_neg (by omega), if_neg (by omega), if_neg (by omega), if_neg (by omega), if_pos (by omega)]
          all_goals (try unfold uLi)
          have ev : uV a0 c (uSr (uV a0 c) f (uSl l) (cT t / 8 % 8)) (cT t % 8) = a0 6 (7 * uSr (uV a0 c) f (uSl l) (cT t / 8 % 8) + cT t % 8) * c 1 := rfl
          all_goals (try rw [ev])
          refine Prod.ext ?_ ?_ <;> dsimp only
          all_goals ((repeat' split) <;> omega)
        · intro e1 e2 e3 e4 e5 e6 e7 e8 e9 e10
          try simp only [es, ep] at e1 e2 e3 e4 e5 e6 e7 e8 e9 e10 ⊢
          have hb := k3 e6
          clear k0 k1 k2 k3 k4
          simp only [g41 (cT t / 8 % 8) (by omega) (by omega)] at e1 e2 e3 e4 e5 e6 e7 e8 e9 e10 ⊢
          simp only [g42 (cT t / 8 % 8) (by omega) (by omega)] at e1 e2 e3 e4 e5 e6 e7 e8 e9 e10 ⊢
          simp only [g6]
          have z0 := b41 (cT t / 8 % 8) (by omega) (by omega)
          have zw := uWc (hW (7 * uSr (uV a0 c) f (uSl l) (cT t / 8 % 8) + cT t % 8) (by omega)) hc1
          rw [h6] at zw
          refine nx _ _ _ _ _ _ _ _ _ _ _ _ ⟨by omega, by omega⟩ ⟨by omega, by omega⟩ (fun h5 => ?_)
          unfold uYq
          rw [if_neg (by omega), if_neg (by omega), if_neg (by omega), if_neg (by omega), if_pos (by omega)]
          all_goals (try unfold uLi)
          have ev : uV a0 c (uSr (uV a0 c) f (uSl l) (cT t / 8 % 8)) (cT t % 8) = a0 6 (7 * uSr (uV a0 c) f (uSl l) (cT t / 8 % 8) + cT t % 8) * c 1 := rfl
          all_goals (try rw [ev])
          refine Prod.ext ?_ ?_ <;> dsimp only
          all_goals ((repeat' split) <;> omega)
        · intro e1 e2 e3 e4 e5 e6 e7 e8 e9 e10
          try simp only [es, ep] at e1 e2 e3 e4 e5 e6 e7 e8 e9 e10 ⊢
          have hb := k3 e6
          clear k0 k1 k2 k3 k4
          simp only [g41 (cT t / 8 % 8) (by omega) (by omega)] at e1 e2 e3 e4 e5 e6 e7 e8 e9 e10 ⊢
          simp only [g42 (cT t / 8 % 8) (by omega) (by omega)] at e1 e2 e3 e4 e5 e6 e7 e8 e9 e10 ⊢
          have z0 := b41 (cT t / 8 % 8) (by omega) (by omega)
          have zw := uWc (hW (7 * uSr (uV a0 c) f (uSl l) (cT t / 8 % 8) + cT t % 8) (by omega)) hc1
          rw [h6] at zw
          refine nx _ _ _ _ _ _ _ _ _ _ _ _ ⟨by omega, by omega⟩ ⟨by omega, by omega⟩ (fun h5 => ?_)
          unfold uYq
          rw [if_neg (by omega), if_neg (by omega), if_neg (by omega), if_neg (by omega), if_pos (by omega)]
          all_goals (try unfold uLi)
          have ev : uV a0 c (uSr (uV a0 c) f (uSl l) (cT t / 8 % 8)) (cT t % 8) = a0 6 (7 * uSr (uV a0 c) f (uSl l) (cT t / 8 % 8) + cT t % 8) * c 1 := rfl
          all_goals (try rw [ev])
          refine Prod.ext ?_ ?_ <;> dsimp only
          all_goals ((repeat' split) <;> omega)
        · intro e1 e2 e3 e4 e5 e6 e7 e8
          try simp only [es, ep] at e1 e2 e3 e4 e5 e6 e7 e8 ⊢
          have hb := k3 e6
          clear k0 k1 k2 k3 k4
          simp only [g41 (cT t / 8 % 8) (by omega) (by omega)] at e1 e2 e3 e4 e5 e6 e7 e8 ⊢
          have z0 := b41 (cT t / 8 % 8) (by omega) (by omega)
          have zw := uWc (hW (7 * uSr (uV a0 c) f (uSl l) (cT t / 8 % 8) + cT t % 8) (by omega)) hc1
          rw [h6] at zw
          refine nx _ _ _ _ _ _ _ _ _ _ _ _ ⟨by omega, by omega⟩ ⟨by omega, by omega⟩ (fun h5 => ?_)
          unfold uYq
          rw [if_neg (by omega), if_neg (by omega), if_neg (by omega), if_neg (by omega), if_pos (by omega)]
          all_goals (try unfold uLi)
          have ev : uV a0 c (uSr (uV a0 c) f (uSl l) (cT t / 8 % 8)) (cT t % 8) = a0 6 (7 * uSr (uV a0 c) f (uSl l) (cT t / 8 % 8) + cT t % 8) * c 1 := rfl
          all_goals (try rw [ev])
          refine Prod.ext ?_ ?_ <;> dsimp only
          all_goals ((repeat' split) <;> omega)
        · intro e1 e2 e3 e4 e5 e6 e7 e8 e9
          try simp only [es, ep] at e1 e2 e3 e4 e5 e6 e7 e8 e9 ⊢
          have hb := k3 e6
          clear k0 k1 k2 k3 k4
          simp only [g41 (cT t / 8 % 8) (by omega) (by omega)] at e1 e2 e3 e4 e5 e6 e7 e8 e9 ⊢
          have z0 := b41 (cT t / 8 % 8) (by omega) (by omega)
          have zw := uWc (hW (7 * uSr (uV a0 c) f (uSl l) (cT t / 8 % 8) + cT t % 8) (by omega)) hc1
          rw [h6] at zw
          refine nx _ _ _ _ _ _ _ _ _ _ _ _ ⟨by omega, by omega⟩ ⟨by omega, by omega⟩ (fun h5 => ?_)
          unfold uYq
          rw [if_neg (by omega), if_neg (by omega), if_neg (by omega), if_neg (by omega), if_pos (by omega)]
          all_goals (try unfold uLi)
          have ev : uV a0 c (uSr (uV a0 c) f (uSl l) (cT t / 8 % 8)) (cT t % 8) = a0 6 (7 * uSr (uV a0 c) f (uSl l) (cT t / 8 % 8) + cT t % 8) * c 1 := rfl
          all_goals (try rw [ev])
          refine Prod.ext ?_ ?_ <;> dsimp only
          all_goals ((repeat' split) <;> omega)
        · intro e1 e2 e3 e4 e5 e6 e7 e8 e9 e10
          try simp only [es, ep] at e1 e2 e3 e4 e5 e6 e7 e8 e9 e10 ⊢
          have hb := k3 e6
          clear k0 k1 k2 k3 k4
          simp only [g41 (cT t / 8 % 8) (by omega) (by omega)] at e1 e2 e3 e4 e5 e6 e7 e8 e9 e10 ⊢
          simp only [g42 (cT t / 8 % 8) (by omega) (by omega)] at e1 e2 e3 e4 e5 e6 e7 e8 e9 e10 ⊢
          have z0 := b41 (cT t / 8 % 8) (by omega) (by omega)
          have zw := uWc (hW (7 * uSr (uV a0 c) f (uSl l) (cT t / 8 % 8) + cT t % 8) (by omega)) hc1
          rw [h6] at zw
          refine nx _ _ _ _ _ _ _ _ _ _ _ _ ⟨by omega, by omega⟩ ⟨by omega, by omega⟩ (fun h5 => ?_)
          unfold uYq
          rw [if_neg (by omega), if_neg (by omega), if_neg (by omega), if_neg (by omega), if_pos (by omega)]
          all_goals (try unfold uLi)
          have ev : uV a0 c (uSr (uV a0 c) f (uSl l) (cT t / 8 % 8)) (cT t % 8) = a0 6 (7 * uSr (uV a0 c) f (uSl l) (cT t / 8 % 8) + cT t % 8) * c 1 := rfl
          all_goals (try rw [ev])
          refine Prod.ext ?_ ?_ <;> dsimp only
          all_goals ((repeat' split) <;> omega)
        · intro e1 e2 e3 e4 e5 e6 e7 e8 e9 e10
          try simp only [es, ep] at e1 e2 e3 e4 e5 e6 e7 e8 e9 e10 ⊢
          have hb := k3 e6
          clear k0 k1 k2 k3 k4
          simp only [g41 (cT t / 8 % 8) (by omega) (by omega)] at e1 e2 e3 e4 e5 e6 e7 e8 e9 e10 ⊢
          simp only [g42 (cT t / 8 % 8) (by omega) (by omega)] at e1 e2 e3 e4 e5 e6 e7 e8 e9 e10 ⊢
          have z0 := b41 (cT t / 8 % 8) (by omega) (by omega)
          have zw := uWc (hW (7 * uSr (uV a0 c) f (uSl l) (cT t / 8 % 8) + cT t % 8) (by omega)) hc1
          rw [h6] at zw
          refine nx _ _ _ _ _ _ _ _ _ _ _ _ ⟨by omega, by omega⟩ ⟨by omega, by omega⟩ (fun h5 => ?_)
          unfold uYq
          rw [if_neg (by omega), if_neg (by omega), if_neg (by omega), if_neg (by omega), if_pos (by omega)]
          all_goals (try unfold uLi)
          have ev : uV a0 c (uSr (uV a0 c) f (uSl l) (cT t / 8 % 8)) (cT t % 8) = a0 6 (7 * uSr (uV a0 c) f (uSl l) (cT t / 8 % 8) + cT t % 8) * c 1 := rfl
          all_goals (try rw [ev])
          refine Prod.ext ?_ ?_ <;> dsimp only
          all_goals ((repeat' split) <;> omega)
        · intro e1 e2 e3 e4 e5 e6
          try simp only [es, ep] at e1 e2 e3 e4 e5 e6 ⊢
          have hb := k2 e5
          clear k0 k1 k2 k3 k4
          simp only [g40 (cT t / 8 % 8) (by omega) (by omega)] at e1 e2 e3 e4 e5 e6 ⊢
          have zt := b40 (cT t / 8 % 8) (by omega) (by omega)
          refine nx _ _ _ _ _ _ _ _ _ _ _ _ ⟨by omega, by omega⟩ ⟨by omega, by omega⟩ (fun h5 => ?_)
          unfold uYq
          rw [if_neg (by omega), if_neg (by omega), if_neg (by omega), if_pos (by omega)]
          refine Prod.ext ?_ ?_ <;> dsimp only
          all_goals ((repeat' split) <;> omega)
        · intro e1 e2 e3 e4 e5 e6
          try simp only [es, ep] at e1 e2 e3 e4 e5 e6 ⊢
          have hb := k2 e5
          clear k0 k1 k2 k3 k4
          refine nx _ _ _ _ _ _ _ _ _ _ _ _ ⟨by omega, by omega⟩ ⟨by omega, by omega⟩ (fun h5 => ?_)
          unfold uYq
          rw [if_neg (by omega), if_neg (by omega), if_neg (by omega), if_pos (by omega)]
          refine Prod.ext ?_ ?_ <;> dsimp only
          all_goals ((repeat' split) <;> omega)
        · intro e1 e2 e3 e4 e5
          try simp only [es, ep] at e1 e2 e3 e4 e5 ⊢
          have hb := k1 e4
          clear k0 k1 k2 k3 k4
          simp only [g6]
          have zw := uWc (hW (7 * (uSl l f - 1) + cT t / 8 % 8) (by omega)) hc1
          rw [h6] at zw
          refine nx _ _ _ _ _ _ _ _ _ _ _ _ ⟨by omega, by omega⟩ ⟨by omega, by omega⟩ (fun h5 => ?_)
          unfold uYq
          rw [if_neg (by omega), if_neg (by omega), if_pos (by omega)]
          have ev : uV a0 c (uSl l f - 1) (cT t / 8 % 8) = a0 6 (7 * (uSl l f - 1) + cT t / 8 % 8) * c 1 := rfl
          all_goals (try rw [ev])
          refine Prod.ext ?_ ?_ <;> dsimp only
          all_goals ((repeat' split) <;> omega)
        · intro e1 e2 e3 e4 e5
          try simp only [es, ep] at e1 e2 e3 e4 e5 ⊢
          have hb := k1 e4
          clear k0 k1 k2 k3 k4
          have zw := uWc (hW (7 * (uSl l f - 1) + cT t / 8 % 8) (by omega)) hc1
          rw [h6] at zw
          refine nx _ _ _ _ _ _ _ _ _ _ _ _ ⟨by omega, by omega⟩ ⟨by omega, by omega⟩ (fun h5 => ?_)
          unfold uYq
          rw [if_neg (by omega), if_neg (by omega), if_pos (by omega)]
          have ev : uV a0 c (uSl l f - 1) (cT t / 8 % 8) = a0 6 (7 * (uSl l f - 1) + cT t / 8 % 8) * c 1 := rfl
          all_goals (try rw [ev])
          refine Prod.ext ?_ ?_ <;> dsimp only
          all_goals ((repeat' split) <;> omega)
        · intro e1 e2 e3 e4 e5 e6
          try simp only [es, ep] at e1 e2 e3 e4 e5 e6 ⊢
          have hb := k4 e3
          clear k0 k1 k2 k3 k4
          simp only [g41 (cT t % 8) (by omega) (by omega)] at e1 e2 e3 e4 e5 e6 ⊢
          have z1 := b41 (cT t % 8) (by omega) (by omega)
          refine nx _ _ _ _ _ _ _ _ _ _ _ _ ⟨by omega, by omega⟩ ⟨by omega, by omega⟩ (fun h5 => ?_)
          unfold uYq
          rw [if_neg (by omega), if_neg (by omega), if_neg (by omega), if_neg (by omega), if_neg (by omega)]
          all_goals (try unfold uOw)
          have ev : uV a0 c (uSr (uV a0 c) f (uSl l) (cT t % 8)) (uSl l (cT t / 8 % 8) - 1) = a0 6 (7 * uSr (uV a0 c) f (uSl l) (cT t % 8) + (uSl l (cT t / 8 % 8) - 1)) * c 1 := rfl
          all_goals (try rw [ev])
          refine Prod.ext ?_ ?_ <;> dsimp only
          all_goals ((repeat' split) <;> omega)
        · intro e1 e2 e3 e4 e5 e6
          try simp only [es, ep] at e1 e2 e3 e4 e5 e6 ⊢
          have hb := k4 e3
          clear k0 k1 k2 k3 k4
          simp only [g40 (cT t / 8 % 8) (by omega) (by omega)] at e1 e2 e3 e4 e5 e6 ⊢
          have zt := b40 (cT t / 8 % 8) (by omega) (by omega)
          refine nx _ _ _ _ _ _ _ _ _ _ _ _ ⟨by omega, by omega⟩ ⟨by omega, by omega⟩ (fun h5 => ?_)
          unfold uYq
          rw [if_neg (by omega), if_neg (by omega), if_neg (by omega), if_neg (by omega), if_neg (by omega)]
          all_goals (try unfold uOw)
          have ev : uV a0 c (uSr (uV a0 c) f (uSl l) (cT t % 8)) (uSl l (cT t / 8 % 8) - 1) = a0 6 (7 * uSr (uV a0 c) f (uSl l) (cT t % 8) + (uSl l (cT t / 8 % 8) - 1)) * c 1 := rfl
          all_goals (try rw [ev])
          refine Prod.ext ?_ ?_ <;> dsimp only
          all_goals ((repeat' split) <;> omega)
        · intro e1 e2 e3 e4 e5 e6 e7
          try simp only [es, ep] at e1 e2 e3 e4 e5 e6 e7 ⊢
          have hb := k4 e3
          clear k0 k1 k2 k3 k4
          simp only [g41 (cT t % 8) (by omega) (by omega)] at e1 e2 e3 e4 e5 e6 e7 ⊢
          have z1 := b41 (cT t % 8) (by omega) (by omega)
          refine nx _ _ _ _ _ _ _ _ _ _ _ _ ⟨by omega, by omega⟩ ⟨by omega, by omega⟩ (fun h5 => ?_)
          unfold uYq
          rw [if_neg (by omega), if_neg (by omega), if_neg (by omega), if_neg (by omega), if_neg (by omega)]
          all_goals (try unfold uOw)
          have ev : uV a0 c (uSr (uV a0 c) f (uSl l) (cT t % 8)) (uSl l (cT t / 8 % 8) - 1) = a0 6 (7 * uSr (uV a0 c) f (uSl l) (cT t % 8) + (uSl l (cT t / 8 % 8) - 1)) * c 1 := rfl
          all_goals (try rw [ev])
          refine Prod.ext ?_ ?_ <;> dsimp only
          all_goals ((repeat' split) <;> omega)
        · intro e1 e2 e3 e4 e5 e6 e7
          try simp only [es, ep] at e1 e2 e3 e4 e5 e6 e7 ⊢
          have hb := k4 e3
          clear k0 k1 k2 k3 k4
          simp only [g40 (cT t / 8 % 8) (by omega) (by omega)] at e1 e2 e3 e4 e5 e6 e7 ⊢
          have zt := b40 (cT t / 8 % 8) (by omega) (by omega)
          refine nx _ _ _ _ _ _ _ _ _ _ _ _ ⟨by omega, by omega⟩ ⟨by omega, by omega⟩ (fun h5 => ?_)
          unfold uYq
          rw [if_neg (by omega), if_neg (by omega), if_neg (by omega), if_neg (by omega), if_neg (by omega)]
          all_goals (try unfold uOw)
          have ev : uV a0 c (uSr (uV a0 c) f (uSl l) (cT t % 8)) (uSl l (cT t / 8 % 8) - 1) = a0 6 (7 * uSr (uV a0 c) f (uSl l) (cT t % 8) + (uSl l (cT t / 8 % 8) - 1)) * c 1 := rfl
          all_goals (try rw [ev])
          refine Prod.ext ?_ ?_ <;> dsimp only
          all_goals ((repeat' split) <;> omega)
        · intro e1 e2 e3 e4 e5 e6 e7
          try simp only [es, ep] at e1 e2 e3 e4 e5 e6 e7 ⊢
          have hb := k4 e3
          clear k0 k1 k2 k3 k4
          simp only [g41 (cT t % 8) (by omega) (by omega)] at e1 e2 e3 e4 e5 e6 e7 ⊢
          simp only [g42 (cT t % 8) (by omega) (by omega)] at e1 e2 e3 e4 e5 e6 e7 ⊢
          simp only [g6]
          have z1 := b41 (cT t % 8) (by omega) (by omega)
          have zw := uWc (hW (7 * uSr (uV a0 c) f (uSl l) (cT t % 8) + (uSl l (cT t / 8 % 8) - 1)) (by omega)) hc1
          rw [h6] at zw
          refine nx _ _ _ _ _ _ _ _ _ _ _ _ ⟨by omega, by omega⟩ ⟨by omega, by omega⟩ (fun h5 => ?_)
          unfold uYq
          rw [if_neg (by omega), if_neg (by omega), if_neg (by omega), if_neg (by omega), if_neg (by omega)]
          all_goals (try unfold uOw)
          have ev : uV a0 c (uSr (uV a0 c) f (uSl l) (cT t % 8)) (uSl l (cT t / 8 % 8) - 1) = a0 6 (7 * uSr (uV a0 c) f (uSl l) (cT t % 8) + (uSl l (cT t / 8 % 8) - 1)) * c 1 := rfl
          all_goals (try rw [ev])
          refine Prod.ext ?_ ?_ <;> dsimp only
          all_goals ((repeat' split) <;> omega)
        · intro e1 e2 e3 e4 e5 e6 e7
          try simp only [es, ep] at e1 e2 e3 e4 e5 e6 e7 ⊢
          have hb := k4 e3
          clear k0 k1 k2 k3 k4
          simp only [g40 (cT t / 8 % 8) (by omega) (by omega)] at e1 e2 e3 e4 e5 e6 e7 ⊢
          have zt := b40 (cT t / 8 % 8) (by omega) (by omega)
          refine nx _ _ _ _ _ _ _ _ _ _ _ _ ⟨by omega, by omega⟩ ⟨by omega, by omega⟩ (fun h5 => ?_)
          unfold uYq
          rw [if_neg (by omega), if_neg (by omega), if_neg (by omega), if_neg (by omega), if_neg (by omega)]
          all_goals (try unfold uOw)
          have ev : uV a0 c (uSr (uV a0 c) f (uSl l) (cT t % 8)) (uSl l (cT t / 8 % 8) - 1) = a0 6 (7 * uSr (uV a0 c) f (uSl l) (cT t % 8) + (uSl l (cT t / 8 % 8) - 1)) * c 1 := rfl
          all_goals (try rw [ev])
          refine Prod.ext ?_ ?_ <;> dsimp only
          all_goals ((repeat' split) <;> omega)
        · intro e1 e2 e3 e4 e5
          try simp only [es, ep] at e1 e2 e3 e4 e5 ⊢
          have hb := k4 e3
          clear k0 k1 k2 k3 k4
          simp only [g41 (cT t % 8) (by omega) (by omega)] at e1 e2 e3 e4 e5 ⊢
          have z1 := b41 (cT t % 8) (by omega) (by omega)
          refine nx _ _ _ _ _ _ _ _ _ _ _ _ ⟨by omega, by omega⟩ ⟨by omega, by omega⟩ (fun h5 => ?_)
          unfold uYq
          rw [if_neg (by omega), if_pos (by omega)]
          refine Prod.ext ?_ ?_ <;> dsimp only
          all_goals ((repeat' split) <;> omega)
        · intro e1 e2 e3 e4 e5
          try simp only [es, ep] at e1 e2 e3 e4 e5 ⊢
          have hb := k4 e3
          clear k0 k1 k2 k3 k4
          simp only [g41 (cT t % 8) (by omega) (by omega)] at e1 e2 e3 e4 e5 ⊢
          have z1 := b41 (cT t % 8) (by omega) (by omega)
          refine nx _ _ _ _ _ _ _ _ _ _ _ _ ⟨by omega, by omega⟩ ⟨by omega, by omega⟩ (fun h5 => ?_)
          unfold uYq
          rw [if_neg (by omega), if_pos (by omega)]
          refine Prod.ext ?_ ?_ <;> dsimp only
          all_goals ((repeat' split) <;> omega)
  refine pmCs_deep (d := 1) (xg74 (w74 hf hf0 hw hw0 hn ⟨by omega, by omega⟩ hW hco hcb ?_)) hd
  rw [e1, hh, hlo, hla]
  exact loop ts.length 0 a none none none none none none none none none none (by omega) (by omega) (fun _ _ _ _ => rfl) hA (fun j t hj => absurd hj (by omega))
theorem uBot_rev {α : Type} {e : α} : ∀ st : List α, ¬ st = [] → st.reverse[0]? = some (uBot e st)
  | [], h => absurd rfl h
  | [x], _ => rfl
  | x :: y :: r, _ => by
    rw [uBot_c, List.reverse_cons, List.getElem?_append_left (by rw [List.length_reverse]; exact Nat.succ_pos _)]
    exact uBot_rev (y :: r) (fun e => by cases e)
set_option maxHeartbeats 20000000 in
theorem u75 {wr : Int} {ts : List Int} {A : Int → Int × Int} (hA : xAr a) (hw : a 34 11 = wr) (hw0 : 0 ≤ wr ∧ wr ≤ 11) (hn : a 9 wr = (ts.length : Int)) (hn0 : ts.length ≤ 40)
    (htk : ∀ (j : Nat) t, ts[j]? = some t → a 8 (wr * 40 + (j : Int)) = cT t) (htv : ∀ t, t ∈ ts → uTv t) (hy : ∀ (j : Nat) t, ts[j]? = some t → t / 256 < 5 → a 37 (j : Int) = (A t).1 ∧ a 38 (j : Int) = (A t).2) (hne : ¬ uRun A uPn uPa uPo ts [] = []) (hd : 1 ≤ d)
    (hQ : ∀ a', (∀ q j, q ≠ 37 → q ≠ 38 → a' q j = a q j) → xAr a' → Q (some (xV (uBot (0, 0) (uRun A uPn uPa uPo ts [])).1)) (xS a' b)) : pmCs (pmRo Ln xs) d 75 [.ref 34] (xS a b) Q := by
  -- the loop
  have loop : ∀ (m i : Nat) (top : Int) (a1 : xA) (st : List (Int × Int)) (v3 v4 : Option Value), ts.length - i ≤ m → i ≤ ts.length → (∀ q j, q ≠ 37 → q ≠ 38 → a1 q j = a q j) → xAr a1 → top = (st.length : Int) → st.length ≤ i → (∀ (j : Nat) p, st.reverse[j]? = some p → a1 37 (j : Int) = p.1 ∧ a1 38 (j : Int) = p.2) → (∀ (j : Nat) t, i ≤ j → ts[j]? = some t → t / 256 < 5 → a1 37 (j : Int) = (A t).1 ∧ a1 38 (j : Int) = (A t).2) → uRun A uPn uPa uPo (ts.drop i) st = uRun A uPn uPa uPo ts [] →
      pmWp (pmRo Ln xs) 0 3 75 1 4 [some (.ref 34), some (xV top), some (xV (i : Int)), v3, v4] [] (xS a1 b) Q := by
    intro m
    induction m with
    | zero =>
      intro i top a1 st v3 v4 hm hi h1 h2 h3 h4 h5 h6 h7
      have ei : i = ts.length := by omega
      subst ei
      rw [List.drop_length] at h7
      have h7 : st = uRun A uPn uPa uPo ts [] := h7
      have e0 := h5 0 _ (uBot_rev (e := ((0 : Int), (0 : Int))) st (by rw [h7]; exact hne))
      refine w75x h2 ((h1 34 11 (by decide) (by decide)).trans hw) hw0 ((h1 9 wr (by decide) (by decide)).trans hn) ⟨by omega, by omega⟩ ⟨by omega, by omega⟩ ?_
      have e1 : a1 37 0 = (uBot (0, 0) st).1 := e0.1
      rw [e1, h7]
      exact hQ a1 h1 h2
    | succ m ih =>
      intro i top a1 st v3 v4 hm hi h1 h2 h3 h4 h5 h6 h7
      by_cases ei : i = ts.length
      · subst ei
        rw [List.drop_length] at h7
        have h7 : st = uRun A uPn uPa uPo ts [] := h7
        have e0 := h5 0 _ (uBot_rev (e := ((0 : Int), (0 : Int))) st (by rw [h7]; exact hne))
        refine w75x h2 ((h1 34 11 (by decide) (by decide)).trans hw) hw0 ((h1 9 wr (by decide) (by decide)).trans hn) ⟨by omega, by omega⟩ ⟨by omega, by omega⟩ ?_
        have e1 : a1 37 0 = (uBot (0, 0) st).1 := e0.1
        rw [e1, h7]
        exact hQ a1 h1 h2
      · have hlt : i < ts.length := by omega
        obtain ⟨t, ht⟩ : ∃ t, ts[i]? = some t := ⟨_, List.getElem?_eq_some_iff.mpr ⟨hlt, rfl⟩⟩
        have htv' := htv t (List.mem_of_getElem? ht)
        obtain ⟨t0, t1, t2, t3, t4⟩ := cT_p htv'
        obtain ⟨⟨y0, y1, y2, y3, y4, y5⟩, y6⟩ := id htv'
        have t1 := fun g => (t1 g).1
        clear y1 y2 y3 y4 y5
        have hdr : ts.drop i = t :: ts.drop (i + 1) := by
          rw [List.drop_eq_getElem_cons hlt]
          congr 1
          have := List.getElem?_eq_some_iff.mp ht
          exact this.2
        rw [hdr] at h7
        rw [uRun_cons] at h7
        -- behind a token that joins
        have nx : ∀ (x y : Int) (st' : List (Int × Int)) (tp : Int) (p : Int × Int) (r : List (Int × Int)) (k : Int) (v3 v4 : Option Value), st' = p :: r → k = (r.length : Int) → tp = k + 1 → p = (x, y) → r.length + 1 ≤ st.length → (∀ (j : Nat) q, j < r.length → r.reverse[j]? = some q → st.reverse[j]? = some q) → uRun A uPn uPa uPo (ts.drop (i + 1)) st' = uRun A uPn uPa uPo ts [] → xR x → xR y →
            pmWp (pmRo Ln xs) 0 3 75 1 4 [some (.ref 34), some (xV tp), some (xV ((i : Int) + 1)), v3, v4] [] (xS (xU (xU a1 37 k x) 38 k y) b) Q := by
          intro x y st' tp p r k v3 v4 e1 e2 e3 e4 e5 e6 e7 r1 r2
          subst e1
          refine ih (i + 1) tp _ (p :: r) v3 v4 (by omega) (by omega) (fun q j q1 q2 => ?_) (xAr_u (xAr_u h2 r1) r2) ?_ ?_ (fun j q hq => ?_) (fun j s hj hs h5' => ?_) e7
          · rw [xUn q2, xUn q1]
            exact h1 q j q1 q2
          · rw [List.length_cons]
            omega
          · rw [List.length_cons]
            omega
          · rw [List.reverse_cons] at hq
            rcases uSnoc hq with ⟨g1, g2⟩ | ⟨g1, g2⟩
            · rw [List.length_reverse] at g2
              rw [xUn (by decide), xUk (by omega), xUk (by omega), xUn (by decide)]
              exact h5 j q (e6 j q g2 g1)
            · rw [List.length_reverse] at g1
              rw [show (j : Int) = k by omega, xUn (by decide), xUa, xUa, g2, e4]
              exact ⟨rfl, rfl⟩
          · rw [xUn (by decide), xUk (by omega), xUk (by omega), xUn (by decide)]
            exact h6 j s (by omega) hs h5'
        have sk : ∀ (v3 v4 : Option Value), uRun A uPn uPa uPo (ts.drop (i + 1)) st = uRun A uPn uPa uPo ts [] → pmWp (pmRo Ln xs) 0 3 75 1 4 [some (.ref 34), some (xV top), some (xV ((i : Int) + 1)), v3, v4] [] (xS a1 b) Q := fun v3 v4 e7 => ih (i + 1) top a1 st v3 v4 (by omega) (by omega) h1 h2 h3 (by omega) h5 (fun j s hj hs h5' => h6 j s (by omega) hs h5') e7
        refine w75l (tk := cT t) h2 ((h1 34 11 (by decide) (by decide)).trans hw) hw0 ((h1 9 wr (by decide) (by decide)).trans hn) ⟨by omega, by omega⟩ ((h1 8 _ (by decide) (by decide)).trans (htk i t ht)) t0 ⟨by omega, by omega⟩ ⟨by omega, by omega⟩ (fun e1 => ?_) (fun e1 e2 e3 e4 e5 => ?_) (fun e1 e2 e3 e4 e5 e6 => ?_) (fun e1 e2 e3 e4 e5 e6 => ?_) (fun e1 e2 e3 e4 e5 => ?_) (fun e1 e2 e3 e4 e5 => ?_) (fun e1 e2 e3 e4 => ?_) (fun e1 e2 e3 e4 => ?_) (fun e1 e2 => ?_)
        · exfalso
          omega
        · exfalso
          omega
        · have et : t = 1536 := by omega
          rw [if_neg (by omega), if_neg (by omega)] at h7
          match st, h3, h7 with
          | [], _, h7 => exact sk _ _ h7
          | [x], _, h7 => exact sk _ _ h7
          | x :: x' :: r, h3, _ =>
            rw [List.length_cons, List.length_cons] at h3
            exfalso
            omega
        · have et : t = 1536 := by omega
          rw [if_neg (by omega), if_neg (by omega)] at h7
          match st, h3, h4, h5, h7 with
          | [], h3, _, _, _ =>
            exfalso
            have h3 : top = 0 := h3
            omega
          | [x], h3, _, _, _ =>
            exfalso
            have h3 : top = 1 := h3
            omega
          | y :: x :: r, h3, h4, h5, h7 =>
            rw [List.length_cons, List.length_cons] at h3
            have k1 := h5 (r.length + 1) y (by rw [List.reverse_cons, List.getElem?_append_right (by rw [List.length_reverse, List.length_cons]; exact Nat.le_refl _), List.length_reverse, List.length_cons, Nat.sub_self]; rfl)
            have k0 := h5 r.length x (by rw [List.reverse_cons, List.reverse_cons, List.append_assoc, List.getElem?_append_right (by rw [List.length_reverse]; exact Nat.le_refl _), List.length_reverse, Nat.sub_self]; rfl)
            rw [show (((r.length + 1 : Nat)) : Int) = top + (-1) by omega] at k1
            rw [show ((r.length : Nat) : Int) = top + (-1) - 1 by omega] at k0
            have b1 := h2 37 (top + (-1))
            have b2 := h2 37 (top + (-1) - 1)
            have b3 := h2 38 (top + (-1))
            have b4 := h2 38 (top + (-1) - 1)
            have h7 : uRun A uPn uPa uPo (List.drop (i + 1) ts) ((if t / 256 = 5 then uPa x y else uPo x y) :: r) = uRun A uPn uPa uPo ts [] := h7
            rw [if_neg (by omega)] at h7
            refine nx _ _ (uPo x y :: r) _ _ r _ _ _ rfl (by omega) (by omega) ?_ (by rw [List.length_cons, List.length_cons]; omega) (fun j q hj hq => ?_) h7 ?_ ?_
            · unfold uPo uMin uMax
              rw [k0.1, k0.2, k1.1, k1.2]
            · rw [List.reverse_cons, List.reverse_cons, List.append_assoc, List.getElem?_append_left (by rw [List.length_reverse]; exact hj)]
              exact hq
            · split <;> assumption
            · split <;> assumption
        · have et : t = 1280 := by omega
          rw [if_neg (by omega), if_neg (by omega)] at h7
          match st, h3, h7 with
          | [], _, h7 => exact sk _ _ h7
          | [x], _, h7 => exact sk _ _ h7
          | x :: x' :: r, h3, _ =>
            rw [List.length_cons, List.length_cons] at h3
            exfalso
            omega
        · have et : t = 1280 := by omega
          rw [if_neg (by omega), if_neg (by omega)] at h7
          match st, h3, h4, h5, h7 with
          | [], h3, _, _, _ =>
            exfalso
            have h3 : top = 0 := h3
            omega
          | [x], h3, _, _, _ =>
            exfalso
            have h3 : top = 1 := h3
            omega
          | y :: x :: r, h3, h4, h5, h7 =>
            rw [List.length_cons, List.length_cons] at h3
            have k1 := h5 (r.length + 1) y (by rw [List.reverse_cons, List.getElem?_append_right (by rw [List.length_reverse, List.length_cons]; exact Nat.le_refl _), List.length_reverse, List.length_cons, Nat.sub_self]; rfl)
            have k0 := h5 r.length x (by rw [List.reverse_cons, List.reverse_cons, List.append_assoc, List.getElem?_append_right (by rw [List.length_reverse]; exact Nat.le_refl _), List.length_reverse, Nat.sub_self]; rfl)
            rw [show (((r.length + 1 : Nat)) : Int) = top + (-1) by omega] at k1
            rw [show ((r.length : Nat) : Int) = top + (-1) - 1 by omega] at k0
            have b1 := h2 37 (top + (-1))
            have b2 := h2 37 (top + (-1) - 1)
            have b3 := h2 38 (top + (-1))
            have b4 := h2 38 (top + (-1) - 1)
            have h7 : uRun A uPn uPa uPo (List.drop (i + 1) ts) ((if t / 256 = 5 then uPa x y else uPo x y) :: r) = uRun A uPn uPa uPo ts [] := h7
            rw [if_pos (by omega)] at h7
            refine nx _ _ (uPa x y :: r) _ _ r _ _ _ rfl (by omega) (by omega) ?_ (by rw [List.length_cons, List.length_cons]; omega) (fun j q hj hq => ?_) h7 ?_ ?_
            · unfold uPa uMin uMax
              rw [k0.1, k0.2, k1.1, k1.2]
            · rw [List.reverse_cons, List.reverse_cons, List.append_assoc, List.getElem?_append_left (by rw [List.length_reverse]; exact hj)]
              exact hq
            · split <;> assumption
            · split <;> assumption
        · have et : t = 1792 := by omega
          rw [if_neg (by omega), if_pos (by omega)] at h7
          match st, h3, h7 with
          | [], _, h7 => exact sk _ _ h7
          | x :: r, h3, _ =>
            rw [List.length_cons] at h3
            exfalso
            omega
        · have et : t = 1792 := by omega
          rw [if_neg (by omega), if_pos (by omega)] at h7
          match st, h3, h4, h5, h7 with
          | [], h3, _, _, _ =>
            exfalso
            have h3 : top = 0 := h3
            omega
          | x :: r, h3, h4, h5, h7 =>
            rw [List.length_cons] at h3
            have k0 := h5 r.length x (by rw [List.reverse_cons, List.getElem?_append_right (by rw [List.length_reverse]; exact Nat.le_refl _), List.length_reverse, Nat.sub_self]; rfl)
            rw [show ((r.length : Nat) : Int) = top - 1 by omega] at k0
            refine nx _ _ (uPn x :: r) _ _ r _ _ _ rfl (by omega) (by omega) ?_ (by rw [List.length_cons]; omega) (fun j q hj hq => ?_) h7 (h2 _ _) (h2 _ _)
            · unfold uPn
              rw [k0.1, k0.2]
            · rw [List.reverse_cons, List.getElem?_append_left (by rw [List.length_reverse]; exact hj)]
              exact hq
        · have h5' : t / 256 < 5 := by omega
          rw [if_pos h5'] at h7
          obtain ⟨g1, g2⟩ := h6 i t (Nat.le_refl _) ht h5'
          refine ih (i + 1) (top + 1) _ (A t :: st) _ _ (by omega) (by omega) (fun q j q1 q2 => ?_) (xAr_u (xAr_u h2 (h2 37 i)) (h2 38 i)) ?_ ?_ (fun j q hq => ?_) (fun j s hj hs hs5 => ?_) h7
          · rw [xUn q2, xUn q1]
            exact h1 q j q1 q2
          · rw [List.length_cons]
            omega
          · rw [List.length_cons]
            omega
          · rw [List.reverse_cons] at hq
            rcases uSnoc hq with ⟨q1, q2⟩ | ⟨q1, q2⟩
            · rw [List.length_reverse] at q2
              rw [xUn (by decide), xUk (by omega), xUk (by omega), xUn (by decide)]
              exact h5 j q q1
            · rw [List.length_reverse] at q1
              rw [show (j : Int) = top by omega, xUn (by decide), xUa, xUa, q2, g1, g2]
              exact ⟨rfl, rfl⟩
          · rw [xUn (by decide), xUk (by omega), xUk (by omega), xUn (by decide)]
            exact h6 j s (by omega) hs hs5
  refine pmCs_deep (d := 1) (xg75 (w75 ?_)) hd
  exact loop ts.length 0 0 a [] none none (by omega) (by omega) (fun _ _ _ _ => rfl) hA rfl (Nat.le_refl _) (fun j p h => by cases h) (fun j t _ ht h5 => hy j t ht h5) rfl
end
end
