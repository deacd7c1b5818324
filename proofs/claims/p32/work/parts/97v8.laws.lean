/-! the laws of the class, as frames -/
section
set_option maxRecDepth 100000


section
variable {ro : Nat → Nat × (Nat → Int32)} {d w : Nat} {Q : Option Value → pmS → Prop} {p k c i ev : Int} {a a' : xA} {b : xB}
/-- a number that is written is taken by its 32 bits -/
theorem xS_w {q : Nat} {j z : Int} : xS (xU a q j z) b = xS (xU a q j (Int32.ofInt z).toInt) b := by
  have e : (fun p (k : Nat) => Int32.ofInt (xU a q j z p (k : Int))) = fun p (k : Nat) => Int32.ofInt (xU a q j (Int32.ofInt z).toInt p (k : Int)) := by
    funext p k
    unfold xU
    by_cases c : p = q ∧ (k : Int) = j
    · rw [if_pos c, if_pos c, Int32.ofInt_toInt]
    · rw [if_neg c, if_neg c]
  unfold xS
  rw [e]
/-- only what the laws of world w note changes -/
def uHg (w : Nat) (a a' : xA) : Prop := (∀ q j, ¬ q = w + 2 → ¬ q = w + 3 → ¬ (q = w ∧ j = 7) → a' q j = a q j) ∧ xAr a' ∧ uMk w a'
theorem uHg_r (h : xAr a) (hm : uMk w a) : uHg w a a := ⟨fun _ _ _ _ _ => rfl, h, hm⟩
theorem uHg_2 {v : Int} (h : uHg w a a') (hv : 0 ≤ v ∧ v ≤ 1023) : uHg w a (xU a' (w + 2) c v) := ⟨fun q j e1 e2 e3 => by rw [xUn e1]; exact h.1 q j e1 e2 e3, xAr_u h.2.1 ⟨by omega, by omega⟩, fun x x0 x1 => by
  by_cases e : x = c
  · rw [e, xUa]
    exact hv
  · rw [xUk e]
    exact h.2.2 x x0 x1⟩
theorem uHg_3 {v : Int} (h : uHg w a a') (hv : xR v) : uHg w a (xU a' (w + 3) i v) := ⟨fun q j e1 e2 e3 => by rw [xUn e2]; exact h.1 q j e1 e2 e3, xAr_u h.2.1 hv, fun x x0 x1 => by rw [xUn (by omega)]; exact h.2.2 x x0 x1⟩
theorem uHg_7 {v : Int} (h : uHg w a a') (hv : xR v) : uHg w a (xU a' w 7 v) := ⟨fun q j e1 e2 e3 => by rw [xUo e3]; exact h.1 q j e1 e2 e3, xAr_u h.2.1 hv, fun x x0 x1 => by rw [xUn (by omega)]; exact h.2.2 x x0 x1⟩
theorem uHg_t {a'' : xA} (h : uHg w a a') (h' : uHg w a' a'') : uHg w a a'' := ⟨fun q j e1 e2 e3 => (h'.1 q j e1 e2 e3).trans (h.1 q j e1 e2 e3), h'.2⟩
theorem uLx_o (h : uLx a) (e : ∀ q j, 13 ≤ q → q ≤ 20 → a' q j = a q j) : uLx a' := ⟨by rw [e 13 7 (by omega) (by omega)]; exact h.1, fun i i0 i1 => by rw [e 20 i (by omega) (by omega)]; exact h.2.1 i i0 i1, fun c c0 c1 => by rw [e 19 c (by omega) (by omega)]; exact h.2.2 c c0 c1⟩
theorem uOr_m {m : Int} (hm : 0 ≤ m ∧ m ≤ 1023) : (0 ≤ xOr m 0 ∧ xOr m 0 ≤ 1023) ∧ 0 ≤ xOr m 1 ∧ xOr m 1 ≤ 1023 := by
  have key : ∀ v : Fin 1024, (0 ≤ xOr (v.val : Int) 0 ∧ xOr (v.val : Int) 0 ≤ 1023) ∧ 0 ≤ xOr (v.val : Int) 1 ∧ xOr (v.val : Int) 1 ≤ 1023 := by decide +kernel
  have := key ⟨m.toNat, by omega⟩
  have e : ((m.toNat : Nat) : Int) = m := by omega
  rw [e] at this
  exact this
/-- breaks -/
theorem u95 (hz : uWz w) (hw9 : w ≤ 80) (hA : xAr a) (hL : uLx a) (hmk : uMk w a) (htn : 0 ≤ a w 6 ∧ a w 6 ≤ 1000) (hc : 0 ≤ c ∧ c < 24) (hev : xR ev) (hd : 1 ≤ d) (hQ : ∀ a' z, uHg w a a' → (z = 0 ∨ z = 1) → Q (some (xV z)) (xS a' b)) : pmCs ro d 95 [.ref 13, .ref w, xV c, xV ev] (xS a b) Q := by
  have hf := uHg_r hA hmk
  have hm := hmk c hc.1 hc.2
  have ob := uOr_m hm
  refine pmCs_deep (d := 1) (xg95 (w95 hz hw9 hA hL hmk htn hc hev ?_ ?_ ?_ ?_ ?_ ?_ ?_ ?_ ?_ ?_ ?_ ?_ ?_ ?_ ?_ ?_ ?_ ?_ ?_ ?_ ?_)) hd <;> intros
  all_goals first
    | exact hQ a _ hf (by decide)
    | exact hQ _ _ (uHg_2 hf ob.1) (by decide)
    | exact hQ _ _ (uHg_2 hf ob.2) (by decide)
    | exact hQ _ _ (uHg_2 hf hm) (by decide)
    | exact hQ _ _ (uHg_2 hf ⟨by decide, by decide⟩) (by decide)
    | exact hQ _ _ (uHg_2 hf ⟨htn.1, by omega⟩) (by decide)
/-- breakLaw -/
theorem u96 (hz : uWz w) (hw9 : w ≤ 80) (hA : xAr a) (hmk : uMk w a) (htn : 0 ≤ a w 6 ∧ a w 6 ≤ 1000) (hi : 0 ≤ i ∧ i < 6) (hd : 1 ≤ d) (hQ : ∀ a', uHg w a a' → Q none (xS a' b)) : pmCs ro d 96 [.ref w, xV i] (xS a b) Q := by
  have hf := uHg_r hA hmk
  refine pmCs_deep (d := 1) (xg96 (w96 hz hw9 hA htn hi (fun _ => hQ a hf) (fun _ => ?_))) hd
  rw [xS_w]
  exact hQ _ (uHg_7 (uHg_3 hf (hA _ _)) (aB32 _))
/-- hear -/
theorem u94 (hz : uWz w) (hw : 21 ≤ w ∧ w ≤ 80) (hA : xAr a) (hL : uLx a) (hmk : uMk w a) (htn : 0 ≤ a w 6 ∧ a w 6 ≤ 1000) (hev : xR ev) (hd : 2 ≤ d) (hQ : ∀ a', uHg w a a' → Q none (xS a' b)) : pmCs ro d 94 [.ref 13, .ref w, xV ev] (xS a b) Q := by
  refine pmCs_deep (d := 2) (xg94 (w94 ?_)) hd
  have hl0 := hL.1
  have L1 : ∀ a1, uHg w a a1 → uLx a1 := fun a1 h => uLx_o hL (fun q j e1 e2 => h.1 q j (by omega) (by omega) (by omega))
  have T1 : ∀ a1, uHg w a a1 → a1 w 6 = a w 6 := fun a1 h => h.1 w 6 (by omega) (by omega) (by omega)
  have lc : ∀ (m : Nat) (i c : Int) (a1 : xA), c + (m : Int) = 4 * i + a 20 i → 0 ≤ i ∧ i < 6 → 4 * i ≤ c → uHg w a a1 → (∀ (a2 : xA) (v4 : Option Value), uHg w a a2 → pmWp ro 1 2 94 0 52 [some (.ref 13), some (.ref w), some (xV ev), some (xV i), v4] [] (xS a2 b) Q) → pmWp ro 1 2 94 0 15 [some (.ref 13), some (.ref w), some (xV ev), some (xV i), some (xV c)] [] (xS a1 b) Q := by
    intro m
    induction m with
    | zero =>
      intro i c a1 hc hi c0 h K
      have e20 : a1 20 i = a 20 i := h.1 20 i (by omega) (by omega) (by omega)
      have h20 := hL.2.1 i hi.1 hi.2
      refine w94c hz hw.2 h.2.1 (L1 a1 h) h.2.2 (by rw [T1 a1 h]; exact htn) hev hi ⟨c0, by omega⟩ (fun _ => K a1 _ h) (fun e => ?_)
      omega
    | succ m ih =>
      intro i c a1 hc hi c0 h K
      have e20 : a1 20 i = a 20 i := h.1 20 i (by omega) (by omega) (by omega)
      have h20 := hL.2.1 i hi.1 hi.2
      have ht1 : 0 ≤ a1 w 6 ∧ a1 w 6 ≤ 1000 := by rw [T1 a1 h]; exact htn
      refine w94c hz hw.2 h.2.1 (L1 a1 h) h.2.2 ht1 hev hi ⟨c0, by omega⟩ (fun e => absurd e (by omega)) (fun _ => ?_)
      refine u95 hz hw.2 h.2.1 (L1 a1 h) h.2.2 ht1 ⟨by omega, by omega⟩ hev (by decide) (fun a2 z h2 hzz => ?_)
      have h3 := uHg_t h h2
      have ht2 : 0 ≤ a2 w 6 ∧ a2 w 6 ≤ 1000 := by rw [T1 a2 h3]; exact htn
      have nx : ∀ a4, uHg w a a4 → pmWp ro 1 2 94 0 46 [some (.ref 13), some (.ref w), some (xV ev), some (xV i), some (xV c)] [] (xS a4 b) Q := fun a4 h4 => w94e (ih i (c + 1) a4 (by omega) hi (by omega) h4 K)
      refine w94d hz hw.2 h3.2.1 (L1 a2 h3) h3.2.2 ht2 hev hi ⟨c0, by omega⟩ hzz (fun _ => nx a2 h3) (fun _ => ?_)
      exact u96 hz hw.2 h3.2.1 h3.2.2 ht2 hi (by decide) (fun a4 h4 => nx a4 (uHg_t h3 h4))
  have li : ∀ (m : Nat) (i : Int) (a1 : xA) (v4 : Option Value), i + (m : Int) = a 13 7 → 0 ≤ i → uHg w a a1 → pmWp ro 1 2 94 0 2 [some (.ref 13), some (.ref w), some (xV ev), some (xV i), v4] [] (xS a1 b) Q := by
    intro m
    induction m with
    | zero =>
      intro i a1 v4 hi i0 h
      have e13 : a1 13 7 = a 13 7 := h.1 13 7 (by omega) (by omega) (by omega)
      refine w94i hz hw.2 h.2.1 (L1 a1 h) h.2.2 (by rw [T1 a1 h]; exact htn) hev ⟨i0, by omega⟩ (fun _ => hQ a1 h) (fun e => ?_)
      omega
    | succ m ih =>
      intro i a1 v4 hi i0 h
      have e13 : a1 13 7 = a 13 7 := h.1 13 7 (by omega) (by omega) (by omega)
      refine w94i hz hw.2 h.2.1 (L1 a1 h) h.2.2 (by rw [T1 a1 h]; exact htn) hev ⟨i0, by omega⟩ (fun e => absurd e (by omega)) (fun _ => ?_)
      have h20 := hL.2.1 i i0 (by omega)
      exact lc (a 20 i).toNat i (i * 4) a1 (by omega) ⟨i0, by omega⟩ (by omega) h (fun a2 v4 h2 => w94f (ih (i + 1) a2 v4 (by omega) (by omega) h2))
  exact li (a 13 7).toNat 0 a _ (by omega) (by decide) (uHg_r hA hmk)
/-- closeTurn -/
theorem u98 (hz : uWz w) (hw : 21 ≤ w ∧ w ≤ 80) (hA : xAr a) (hL : uLx a) (hmk : uMk w a) (htn : 0 ≤ a w 6 ∧ a w 6 ≤ 1000) (hd : 2 ≤ d) (hQ : ∀ a', uHg w a a' → Q none (xS a' b)) : pmCs ro d 98 [.ref 13, .ref w] (xS a b) Q := by
  refine pmCs_deep (d := 2) (xg98 (w98 ?_)) hd
  have hl0 := hL.1
  have L1 : ∀ a1, uHg w a a1 → uLx a1 := fun a1 h => uLx_o hL (fun q j e1 e2 => h.1 q j (by omega) (by omega) (by omega))
  have T1 : ∀ a1, uHg w a a1 → a1 w 6 = a w 6 := fun a1 h => h.1 w 6 (by omega) (by omega) (by omega)
  have lc : ∀ (m : Nat) (i c : Int) (a1 : xA) (v4 v5 : Option Value), c + (m : Int) = 4 * i + a 20 i → 0 ≤ i ∧ i < 6 → 4 * i ≤ c → uHg w a a1 → (∀ (a2 : xA) (v3 v4 v5 : Option Value), uHg w a a2 → pmWp ro 1 2 98 0 136 [some (.ref 13), some (.ref w), some (xV i), v3, v4, v5] [] (xS a2 b) Q) → pmWp ro 1 2 98 0 14 [some (.ref 13), some (.ref w), some (xV i), some (xV c), v4, v5] [] (xS a1 b) Q := by
    intro m
    induction m with
    | zero =>
      intro i c a1 v4 v5 hc hi c0 h K
      have e20 : a1 20 i = a 20 i := h.1 20 i (by omega) (by omega) (by omega)
      have h20 := hL.2.1 i hi.1 hi.2
      have ht1 : 0 ≤ a1 w 6 ∧ a1 w 6 ≤ 1000 := by rw [T1 a1 h]; exact htn
      have hge : i * 4 + a1 20 i ≤ c := by omega
      exact w98c hz hw.2 h.2.1 (L1 a1 h) h.2.2 ht1 hi ⟨c0, by omega⟩ (fun _ => K a1 _ _ _ h) (fun e => absurd hge e) (fun e => absurd hge e) (fun e => absurd hge e) (fun e => absurd hge e) (fun e => absurd hge e) (fun e => absurd hge e) (fun e => absurd hge e)
    | succ m ih =>
      intro i c a1 v4 v5 hc hi c0 h K
      have e20 : a1 20 i = a 20 i := h.1 20 i (by omega) (by omega) (by omega)
      have h20 := hL.2.1 i hi.1 hi.2
      have ht1 : 0 ≤ a1 w 6 ∧ a1 w 6 ≤ 1000 := by rw [T1 a1 h]; exact htn
      have nx : ∀ a4 v4 v5, uHg w a a4 → pmWp ro 1 2 98 0 130 [some (.ref 13), some (.ref w), some (xV i), some (xV c), v4, v5] [] (xS a4 b) Q := fun a4 v4 v5 h4 => w98e (ih i (c + 1) a4 v4 v5 (by omega) hi (by omega) h4 K)
      refine w98c hz hw.2 h.2.1 (L1 a1 h) h.2.2 ht1 hi ⟨c0, by omega⟩ (fun e => absurd e (by omega)) ?_ ?_ ?_ ?_ ?_ ?_ ?_ <;> intros
      all_goals first
        | exact nx a1 _ _ h
        | exact u96 hz hw.2 h.2.1 h.2.2 ht1 hi (by decide) (fun a4 h4 => nx a4 _ _ (uHg_t h h4))
  have li : ∀ (m : Nat) (i : Int) (a1 : xA) (v3 v4 v5 : Option Value), i + (m : Int) = a 13 7 → 0 ≤ i → uHg w a a1 → pmWp ro 1 2 98 0 2 [some (.ref 13), some (.ref w), some (xV i), v3, v4, v5] [] (xS a1 b) Q := by
    intro m
    induction m with
    | zero =>
      intro i a1 v3 v4 v5 hi i0 h
      have e13 : a1 13 7 = a 13 7 := h.1 13 7 (by omega) (by omega) (by omega)
      refine w98i hz hw.2 h.2.1 (L1 a1 h) h.2.2 (by rw [T1 a1 h]; exact htn) ⟨i0, by omega⟩ (fun _ => hQ a1 h) (fun e => ?_)
      omega
    | succ m ih =>
      intro i a1 v3 v4 v5 hi i0 h
      have e13 : a1 13 7 = a 13 7 := h.1 13 7 (by omega) (by omega) (by omega)
      refine w98i hz hw.2 h.2.1 (L1 a1 h) h.2.2 (by rw [T1 a1 h]; exact htn) ⟨i0, by omega⟩ (fun e => absurd e (by omega)) (fun _ => ?_)
      have h20 := hL.2.1 i i0 (by omega)
      exact lc (a 20 i).toNat i (i * 4) a1 _ _ (by omega) ⟨i0, by omega⟩ (by omega) h (fun a2 v3 v4 v5 h2 => w98f (ih (i + 1) a2 _ _ _ (by omega) (by omega) h2))
  exact li (a 13 7).toNat 0 a _ _ _ (by omega) (by decide) (uHg_r hA hmk)
end
end
