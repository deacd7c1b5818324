section
/-! the laws of the class, as frames -/
section
set_option maxRecDepth 100000


section
variable {ro : Nat → Nat × (Nat → Int32)} {d w : Nat} {Q : Option Value → pmS → Prop} {p k c i ev : Int} {a a' : xA} {b : xB}
/-- a number that is written is taken by its 32 bits -/
theorem xS_w {q : Nat} {j z : Int} : xS (xU a q j z) b = xS (xU a q j (Int32.ofInt z).toInt) b := by
  have e : (fun p (k : Nat) => Int32.ofInt (xU a q j z p (k : Int))) = fun p (k : Nat) => Int32.ofInt (xU a q j (Int32.ofInt z).toInt p (k : Int)) := by
    funext p k
    unfold xU
    by_cases c : p = q ∧ (k : Int) = j
    · rw [if_pos c, if_pos c, Int32.ofInt_toInt]
    · rw [if_neg c, if_neg c]
  unfold xS
  rw [e]
/-- only what the laws of world w note changes -/
def uHg (w : Nat) (a a' : xA) : Prop := (∀ q j, ¬ q = w + 2 → ¬ q = w + 3 → ¬ (q = w ∧ j = 7) → a' q j = a q j) ∧ xAr a' ∧ uMk w a'
theorem uHg_r (h : xAr a) (hm : uMk w a) : uHg w a a := ⟨fun _ _ _ _ _ => rfl, h, hm⟩
theorem uHg_2 {v : Int} (h : uHg w a a') (hv : 0 ≤ v ∧ v ≤ 1023) : uHg w a (xU a' (w + 2) c v) := ⟨fun q j e1 e2 e3 => by rw [xUn e1]; exact h.1 q j e1 e2 e3, xAr_u h.2.1 ⟨by omega, by omega⟩, fun x x0 x1 => by
  by_cases e : x = c
  · rw [e, xUa]
    exact hv
  · rw [xUk e]
    exact h.2.2 x x0 x1⟩
theorem uHg_3 {v : Int} (h : uHg w a a') (hv : xR v) : uHg w a (xU a' (w + 3) i v) := ⟨fun q j e1 e2 e3 => by rw [xUn e2]; exact h.1 q j e1 e2 e3, xAr_u h.2.1 hv, fun x x0 x1 => by rw [xUn (by omega)]; exact h.2.2 x x0 x1⟩
theorem uHg_7 {v : Int} (h : uHg w a a') (hv : xR v) : uHg w a (xU a' w 7 v) := ⟨fun q j e1 e2 e3 => by rw [xUo e3]; exact h.1 q j e1 e2 e3, xAr_u h.2.1 hv, fun x x0 x1 => by rw [xUn (by omega)]; exact h.2.2 x x0 x1⟩
theorem uHg_t {a'' : xA} (h : uHg w a a') (h' : uHg w a' a'') : uHg w a a'' := ⟨fun q j e1 e2 e3 => (h'.1 q j e1 e2 e3).trans (h.1 q j e1 e2 e3), h'.2⟩
theorem uLx_o (h : uLx a) (e : ∀ q j, 13 ≤ q → q ≤ 20 → a' q j = a q j) : uLx a' := ⟨by rw [e 13 7 (by omega) (by omega)]; exact h.1, fun i i0 i1 => by rw [e 20 i (by omega) (by omega)]; exact h.2.1 i i0 i1, fun c c0 c1 => by rw [e 19 c (by omega) (by omega)]; exact h.2.2 c c0 c1⟩
theorem uOr_m {m : Int} (hm : 0 ≤ m ∧ m ≤ 1023) : (0 ≤ xOr m 0 ∧ xOr m 0 ≤ 1023) ∧ 0 ≤ xOr m 1 ∧ xOr m 1 ≤ 1023 := by
  have key : ∀ v : Fin 1024, (0 ≤ xOr (v.val : Int) 0 ∧ xOr (v.val : Int) 0 ≤ 1023) ∧ 0 ≤ xOr (v.val : Int) 1 ∧ xOr (v.val : Int) 1 ≤ 1023 := by decide +kernel
  have := key ⟨m.toNat, by omega⟩
  have e : ((m.toNat : Nat) : Int) = m := by omega
  rw [e] at this
  exact this
/-- breaks -/
theorem u95 (hz : uWz w) (hw9 : w ≤ 80) (hA : xAr a) (hL : uLx a) (hmk : uMk w a) (htn : 0 ≤ a w 6 ∧ a w 6 ≤ 1000) (hc : 0 ≤ c ∧ c < 24) (hev : xR ev) (hd : 1 ≤ d) (hQ : ∀ a' z, uHg w a a' → (z = 0 ∨ z = 1) → Q (some (xV z)) (xS a' b)) : pmCs ro d 95 [.ref 13, .ref w, xV c, xV ev] (xS a b) Q := by
  have hf := uHg_r hA hmk
  have hm := hmk c hc.1 hc.2
  have ob := uOr_m hm
  refine pmCs_deep (d := 1) (xg95 (w95 hz hw9 hA hL hmk htn hc hev ?_ ?_ ?_ ?_ ?_ ?_ ?_ ?_ ?_ ?_ ?_ ?_ ?_ ?_ ?_ ?_ ?_ ?_ ?_ ?_ ?_)) hd <;> intros
  all_goals first
    | exact hQ a _ hf (by decide)
    | exact hQ _ _ (uHg_2 hf ob.1) (by decide)
    | exact hQ _ _ (uHg_2 hf ob.2) (by decide)
    | exact hQ _ _ (uHg_2 hf hm) (by decide)
    | exact hQ _ _ (uHg_2 hf ⟨by decide, by decide⟩) (by decide)
    | exact hQ _ _ (uHg_2 hf ⟨htn.1, by omega⟩) (by decide)
/-- breakLaw -/
theorem u96 (hz : uWz w) (hw9 : w ≤ 80) (hA : xAr a) (hmk : uMk w a) (htn : 0 ≤ a w 6 ∧ a w 6 ≤ 1000) (hi : 0 ≤ i ∧ i < 6) (hd : 1 ≤ d) (hQ : ∀ a', uHg w a a' → Q none (xS a' b)) : pmCs ro d 96 [.ref w, xV i] (xS a b) Q := by
  have hf := uHg_r hA hmk
  refine pmCs_deep (d := 1) (xg96 (w96 hz hw9 hA htn hi (fun _ => hQ a hf) (fun _ => ?_))) hd
  rw [xS_w]
  exact hQ _ (uHg_7 (uHg_3 hf (hA _ _)) (aB32 _))
/-- hear -/
theorem u94 (hz : uWz w) (hw : 21 ≤ w ∧ w ≤ 80) (hA : xAr a) (hL : uLx a) (hmk : uMk w a) (htn : 0 ≤ a w 6 ∧ a w 6 ≤ 1000) (hev : xR ev) (hd : 2 ≤ d) (hQ : ∀ a', uHg w a a' → Q none (xS a' b)) : pmCs ro d 94 [.ref 13, .ref w, xV ev] (xS a b) Q := by
  refine pmCs_deep (d := 2) (xg94 (w94 ?_)) hd
  have hl0 := hL.1
  have L1 : ∀ a1, uHg w a a1 → uLx a1 := fun a1 h => uLx_o hL (fun q j e1 e2 => h.1 q j (by omega) (by omega) (by omega))
  have T1 : ∀ a1, uHg w a a1 → a1 w 6 = a w 6 := fun a1 h => h.1 w 6 (by omega) (by omega) (by omega)
  have lc : ∀ (m : Nat) (i c : Int) (a1 : xA), c + (m : Int) = 4 * i + a 20 i → 0 ≤ i ∧ i < 6 → 4 * i ≤ c → uHg w a a1 → (∀ (a2 : xA) (v4 : Option Value), uHg w a a2 → pmWp ro 1 2 94 0 52 [some (.ref 13), some (.ref w), some (xV ev), some (xV i), v4] [] (xS a2 b) Q) → pmWp ro 1 2 94 0 15 [some (.ref 13), some (.ref w), some (xV ev), some (xV i), some (xV c)] [] (xS a1 b) Q := by
    intro m
    induction m with
    | zero =>
      intro i c a1 hc hi c0 h K
      have e20 : a1 20 i = a 20 i := h.1 20 i (by omega) (by omega) (by omega)
      have h20 := hL.2.1 i hi.1 hi.2
      refine w94c hz hw.2 h.2.1 (L1 a1 h) h.2.2 (by rw [T1 a1 h]; exact htn) hev hi ⟨c0, by omega⟩ (fun _ => K a1 _ h) (fun e => ?_)
      omega
    | succ m ih =>
      intro i c a1 hc hi c0 h K
      have e20 : a1 20 i = a 20 i := h.1 20 i (by omega) (by omega) (by omega)
      have h20 := hL.2.1 i hi.1 hi.2
      have ht1 : 0 ≤ a1 w 6 ∧ a1 w 6 ≤ 1000 := by rw [T1 a1 h]; exact htn
      refine w94c hz hw.2 h.2.1 (L1 a1 h) h.2.2 ht1 hev hi ⟨c0, by omega⟩ (fun e => absurd e (by omega)) (fun _ => ?_)
      refine u95 hz hw.2 h.2.1 (L1 a1 h) h.2.2 ht1 ⟨by omega, by omega⟩ hev (by decide) (fun a2 z h2 hzz => ?_)
      have h3 := uHg_t h h2
      have ht2 : 0 ≤ a2 w 6 ∧ a2 w 6 ≤ 1000 := by rw [T1 a2 h3]; exact htn
      have nx : ∀ a4, uHg w a a4 → pmWp ro 1 2 94 0 46 [some (.ref 13), some (.ref w), some (xV ev), some (xV i), some (xV c)] [] (xS a4 b) Q := fun a4 h4 => w94e (ih i (c + 1) a4 (by omega) hi (by omega) h4 K)
      refine w94d hz hw.2 h3.2.1 (L1 a2 h3) h3.2.2 ht2 hev hi ⟨c0, by omega⟩ hzz (fun _ => nx a2 h3) (fun _ => ?_)
      exact u96 hz hw.2 h3.2.1 h3.2.2 ht2 hi (by decide) (fun a4 h4 => nx a4 (uHg_t h3 h4))
  have li : ∀ (m : Nat) (i : Int) (a1 : xA) (v4 : Option Value), i + (m : Int) = a 13 7 → 0 ≤ i → uHg w a a1 → pmWp ro 1 2 94 0 2 [some (.ref 13), some (.ref w), some (xV ev), some (xV i), v4] [] (xS a1 b) Q := by
    intro m
    induction m with
    | zero =>
      intro i a1 v4 hi i0 h
      have e13 : a1 13 7 = a 13 7 := h.1 13 7 (by omega) (by omega) (by omega)
      refine w94i hz hw.2 h.2.1 (L1 a1 h) h.2.2 (by rw [T1 a1 h]; exact htn) hev ⟨i0, by omega⟩ (fun _ => hQ a1 h) (fun e => ?_)
      omega
    | succ m ih =>
      intro i a1 v4 hi i0 h
      have e13 : a1 13 7 = a 13 7 := h.1 13 7 (by omega) (by omega) (by omega)
      refine w94i hz hw.2 h.2.1 (L1 a1 h) h.2.2 (by rw [T1 a1 h]; exact htn) hev ⟨i0, by omega⟩ (fun e => absurd e (by omega)) (fun _ => ?_)
      have h20 := hL.2.1 i i0 (by omega)
      exact lc (a 20 i).toNat i (i * 4) a1 (by omega) ⟨i0, by omega⟩ (by omega) h (fun a2 v4 h2 => w94f (ih (i + 1) a2 v4 (by omega) (by omega) h2))
  exact li (a 13 7).toNat 0 a _ (by omega) (by decide) (uHg_r hA hmk)
/-- closeTurn -/
theorem u98 (hz : uWz w) (hw : 21 ≤ w ∧ w ≤ 80) (hA : xAr a) (hL : uLx a) (hmk : uMk w a) (htn : 0 ≤ a w 6 ∧ a w 6 ≤ 1000) (hd : 2 ≤ d) (hQ : ∀ a', uHg w a a' → Q none (xS a' b)) : pmCs ro d 98 [.ref 13, .ref w] (xS a b) Q := by
  refine pmCs_deep (d := 2) (xg98 (w98 ?_)) hd
  have hl0 := hL.1
  have L1 : ∀ a1, uHg w a a1 → uLx a1 := fun a1 h => uLx_o hL (fun q j e1 e2 => h.1 q j (by omega) (by omega) (by omega))
  have T1 : ∀ a1, uHg w a a1 → a1 w 6 = a w 6 := fun a1 h => h.1 w 6 (by omega) (by omega) (by omega)
  have lc : ∀ (m : Nat) (i c : Int) (a1 : xA) (v4 v5 : Option Value), c + (m : Int) = 4 * i + a 20 i → 0 ≤ i ∧ i < 6 → 4 * i ≤ c → uHg w a a1 → (∀ (a2 : xA) (v3 v4 v5 : Option Value), uHg w a a2 → pmWp ro 1 2 98 0 136 [some (.ref 13), some (.ref w), some (xV i), v3, v4, v5] [] (xS a2 b) Q) → pmWp ro 1 2 98 0 14 [some (.ref 13), some (.ref w), some (xV i), some (xV c), v4, v5] [] (xS a1 b) Q := by
    intro m
    induction m with
    | zero =>
      intro i c a1 v4 v5 hc hi c0 h K
      have e20 : a1 20 i = a 20 i := h.1 20 i (by omega) (by omega) (by omega)
      have h20 := hL.2.1 i hi.1 hi.2
      have ht1 : 0 ≤ a1 w 6 ∧ a1 w 6 ≤ 1000 := by rw [T1 a1 h]; exact htn
      have hge : i * 4 + a1 20 i ≤ c := by omega
      exact w98c hz hw.2 h.2.1 (L1 a1 h) h.2.2 ht1 hi ⟨c0, by omega⟩ (fun _ => K a1 _ _ _ h) (fun e => absurd hge e) (fun e => absurd hge e) (fun e => absurd hge e) (fun e => absurd hge e) (fun e => absurd hge e) (fun e => absurd hge e) (fun e => absurd hge e)
    | succ m ih =>
      intro i c a1 v4 v5 hc hi c0 h K
      have e20 : a1 20 i = a 20 i := h.1 20 i (by omega) (by omega) (by omega)
      have h20 := hL.2.1 i hi.1 hi.2
      have ht1 : 0 ≤ a1 w 6 ∧ a1 w 6 ≤ 1000 := by rw [T1 a1 h]; exact htn
      have nx : ∀ a4 v4 v5, uHg w a a4 → pmWp ro 1 2 98 0 130 [some (.ref 13), some (.ref w), some (xV i), some (xV c), v4, v5] [] (xS a4 b) Q := fun a4 v4 v5 h4 => w98e (ih i (c + 1) a4 v4 v5 (by omega) hi (by omega) h4 K)
      refine w98c hz hw.2 h.2.1 (L1 a1 h) h.2.2 ht1 hi ⟨c0, by omega⟩ (fun e => absurd e (by omega)) ?_ ?_ ?_ ?_ ?_ ?_ ?_ <;> intros
      all_goals first
        | exact nx a1 _ _ h
        | exact u96 hz hw.2 h.2.1 h.2.2 ht1 hi (by decide) (fun a4 h4 => nx a4 _ _ (uHg_t h h4))
  have li : ∀ (m : Nat) (i : Int) (a1 : xA) (v3 v4 v5 : Option Value), i + (m : Int) = a 13 7 → 0 ≤ i → uHg w a a1 → pmWp ro 1 2 98 0 2 [some (.ref 13), some (.ref w), some (xV i), v3, v4, v5] [] (xS a1 b) Q := by
    intro m
    induction m with
    | zero =>
      intro i a1 v3 v4 v5 hi i0 h
      have e13 : a1 13 7 = a 13 7 := h.1 13 7 (by omega) (by omega) (by omega)
      refine w98i hz hw.2 h.2.1 (L1 a1 h) h.2.2 (by rw [T1 a1 h]; exact htn) ⟨i0, by omega⟩ (fun _ => hQ a1 h) (fun e => ?_)
      omega
    | succ m ih =>
      intro i a1 v3 v4 v5 hi i0 h
      have e13 : a1 13 7 = a 13 7 := h.1 13 7 (by omega) (by omega) (by omega)
      refine w98i hz hw.2 h.2.1 (L1 a1 h) h.2.2 (by rw [T1 a1 h]; exact htn) ⟨i0, by omega⟩ (fun e => absurd e (by omega)) (fun _ => ?_)
      have h20 := hL.2.1 i i0 (by omega)
      exact lc (a 20 i).toNat i (i * 4) a1 _ _ (by omega) ⟨i0, by omega⟩ (by omega) h (fun a2 v3 v4 v5 h2 => w98f (ih (i + 1) a2 _ _ _ (by omega) (by omega) h2))
  exact li (a 13 7).toNat 0 a _ _ _ (by omega) (by decide) (uHg_r hA hmk)
end
end
end
section
/-! exact: the class performs a deed -/
section
set_option maxRecDepth 100000
theorem xi83 : pmInf[83]? = some pmI_83 := rfl
theorem xi91 : pmInf[91]? = some pmI_91 := rfl
theorem xc83_0 : pmCode 83 0 = some (.iload_n 1) ∧ 0 + 1 = 1 := ⟨rfl, rfl⟩
theorem xc83_1 : pmCode 83 1 = some (.ifCond .ne 11) ∧ ((1 : Nat) : Int) + 11 = ((12 : Nat) : Int) ∧ 1 + 3 = 4 := ⟨rfl, rfl, rfl⟩
theorem xc83_4 : pmCode 83 4 = some (.iload_n 0) ∧ 4 + 1 = 5 := ⟨rfl, rfl⟩
theorem xc83_5 : pmCode 83 5 = some (.bipush 6) ∧ 5 + 2 = 7 := ⟨rfl, rfl⟩
theorem xc83_7 : pmCode 83 7 = some .ishr ∧ 7 + 1 = 8 := ⟨rfl, rfl⟩
theorem xc83_8 : pmCode 83 8 = some (.bipush 7) ∧ 8 + 2 = 10 := ⟨rfl, rfl⟩
theorem xc83_10 : pmCode 83 10 = some .iand ∧ 10 + 1 = 11 := ⟨rfl, rfl⟩
theorem xc83_11 : pmCode 83 11 = some .ireturn := rfl
theorem xc83_12 : pmCode 83 12 = some (.iload_n 1) ∧ 12 + 1 = 13 := ⟨rfl, rfl⟩
theorem xc83_13 : pmCode 83 13 = some (.iconst 1) ∧ 13 + 1 = 14 := ⟨rfl, rfl⟩
theorem xc83_14 : pmCode 83 14 = some (.if_icmp .ne 12) ∧ ((14 : Nat) : Int) + 12 = ((26 : Nat) : Int) ∧ 14 + 3 = 17 := ⟨rfl, rfl, rfl⟩
theorem xc83_17 : pmCode 83 17 = some (.iload_n 0) ∧ 17 + 1 = 18 := ⟨rfl, rfl⟩
theorem xc83_18 : pmCode 83 18 = some (.iconst 3) ∧ 18 + 1 = 19 := ⟨rfl, rfl⟩
theorem xc83_19 : pmCode 83 19 = some .ishr ∧ 19 + 1 = 20 := ⟨rfl, rfl⟩
theorem xc83_20 : pmCode 83 20 = some (.bipush 7) ∧ 20 + 2 = 22 := ⟨rfl, rfl⟩
theorem xc83_22 : pmCode 83 22 = some .iand ∧ 22 + 1 = 23 := ⟨rfl, rfl⟩
theorem xc83_23 : pmCode 83 23 = some (.goto 7) ∧ ((23 : Nat) : Int) + 7 = ((30 : Nat) : Int) := ⟨rfl, rfl⟩
theorem xc83_26 : pmCode 83 26 = some (.iload_n 0) ∧ 26 + 1 = 27 := ⟨rfl, rfl⟩
theorem xc83_27 : pmCode 83 27 = some (.bipush 7) ∧ 27 + 2 = 29 := ⟨rfl, rfl⟩
theorem xc83_29 : pmCode 83 29 = some .iand ∧ 29 + 1 = 30 := ⟨rfl, rfl⟩
theorem xc83_30 : pmCode 83 30 = some (.iconst 1) ∧ 30 + 1 = 31 := ⟨rfl, rfl⟩
theorem xc83_31 : pmCode 83 31 = some .isub ∧ 31 + 1 = 32 := ⟨rfl, rfl⟩
theorem xc83_32 : pmCode 83 32 = some .ireturn := rfl
theorem xc91_0 : pmCode 91 0 = some (.iload_n 3) ∧ 0 + 1 = 1 := ⟨rfl, rfl⟩
theorem xc91_1 : pmCode 91 1 = some (.bipush 6) ∧ 1 + 2 = 3 := ⟨rfl, rfl⟩
theorem xc91_3 : pmCode 91 3 = some .ishr ∧ 3 + 1 = 4 := ⟨rfl, rfl⟩
theorem xc91_4 : pmCode 91 4 = some (.istore 4) ∧ 4 + 2 = 6 := ⟨rfl, rfl⟩
theorem xc91_6 : pmCode 91 6 = some (.iload 4) ∧ 6 + 2 = 8 := ⟨rfl, rfl⟩
theorem xc91_8 : pmCode 91 8 = some (.ifCond .ne 5) ∧ ((8 : Nat) : Int) + 5 = ((13 : Nat) : Int) ∧ 8 + 3 = 11 := ⟨rfl, rfl, rfl⟩
theorem xc91_11 : pmCode 91 11 = some (.iload_n 3) ∧ 11 + 1 = 12 := ⟨rfl, rfl⟩
theorem xc91_12 : pmCode 91 12 = some .ireturn := rfl
theorem xc91_13 : pmCode 91 13 = some (.aload_n 1) ∧ 13 + 1 = 14 := ⟨rfl, rfl⟩
theorem xc91_14 : pmCode 91 14 = some (.getfield 47) ∧ 14 + 3 = 17 := ⟨rfl, rfl⟩
theorem xc91_17 : pmCode 91 17 = some (.iload_n 2) ∧ 17 + 1 = 18 := ⟨rfl, rfl⟩
theorem xc91_18 : pmCode 91 18 = some (.invokestatic 51) ∧ 18 + 3 = 21 := ⟨rfl, rfl⟩
theorem xc91_21 : pmCode 91 21 = some (.istore 5) ∧ 21 + 2 = 23 := ⟨rfl, rfl⟩
theorem xc91_23 : pmCode 91 23 = some (.aload_n 1) ∧ 23 + 1 = 24 := ⟨rfl, rfl⟩
theorem xc91_24 : pmCode 91 24 = some (.aload_n 0) ∧ 24 + 1 = 25 := ⟨rfl, rfl⟩
theorem xc91_25 : pmCode 91 25 = some (.getfield 15) ∧ 25 + 3 = 28 := ⟨rfl, rfl⟩
theorem xc91_28 : pmCode 91 28 = some (.aload_n 1) ∧ 28 + 1 = 29 := ⟨rfl, rfl⟩
theorem xc91_29 : pmCode 91 29 = some (.getfield 47) ∧ 29 + 3 = 32 := ⟨rfl, rfl⟩
theorem xc91_32 : pmCode 91 32 = some (.iload_n 2) ∧ 32 + 1 = 33 := ⟨rfl, rfl⟩
theorem xc91_33 : pmCode 91 33 = some (.iload_n 3) ∧ 33 + 1 = 34 := ⟨rfl, rfl⟩
theorem xc91_34 : pmCode 91 34 = some (.invokevirtual 74) ∧ 34 + 3 = 37 := ⟨rfl, rfl⟩
theorem xc91_37 : pmCode 91 37 = some (.putfield 47) ∧ 37 + 3 = 40 := ⟨rfl, rfl⟩
theorem xc91_40 : pmCode 91 40 = some (.aload_n 1) ∧ 40 + 1 = 41 := ⟨rfl, rfl⟩
theorem xc91_41 : pmCode 91 41 = some (.getfield 47) ∧ 41 + 3 = 44 := ⟨rfl, rfl⟩
theorem xc91_44 : pmCode 91 44 = some (.iload_n 2) ∧ 44 + 1 = 45 := ⟨rfl, rfl⟩
theorem xc91_45 : pmCode 91 45 = some (.invokestatic 51) ∧ 45 + 3 = 48 := ⟨rfl, rfl⟩
theorem xc91_48 : pmCode 91 48 = some (.istore 6) ∧ 48 + 2 = 50 := ⟨rfl, rfl⟩
theorem xc91_50 : pmCode 91 50 = some (.iconst 0) ∧ 50 + 1 = 51 := ⟨rfl, rfl⟩
theorem xc91_51 : pmCode 91 51 = some (.istore 7) ∧ 51 + 2 = 53 := ⟨rfl, rfl⟩
theorem xc91_53 : pmCode 91 53 = some (.iconst 0) ∧ 53 + 1 = 54 := ⟨rfl, rfl⟩
theorem xc91_54 : pmCode 91 54 = some (.istore 8) ∧ 54 + 2 = 56 := ⟨rfl, rfl⟩
theorem xc91_56 : pmCode 91 56 = some (.iload 8) ∧ 56 + 2 = 58 := ⟨rfl, rfl⟩
theorem xc91_58 : pmCode 91 58 = some (.iconst 4) ∧ 58 + 1 = 59 := ⟨rfl, rfl⟩
theorem xc91_59 : pmCode 91 59 = some (.if_icmp .ge 95) ∧ ((59 : Nat) : Int) + 95 = ((154 : Nat) : Int) ∧ 59 + 3 = 62 := ⟨rfl, rfl, rfl⟩
theorem xc91_62 : pmCode 91 62 = some (.aload_n 1) ∧ 62 + 1 = 63 := ⟨rfl, rfl⟩
theorem xc91_63 : pmCode 91 63 = some (.getfield 47) ∧ 63 + 3 = 66 := ⟨rfl, rfl⟩
theorem xc91_66 : pmCode 91 66 = some (.iload 8) ∧ 66 + 2 = 68 := ⟨rfl, rfl⟩
theorem xc91_68 : pmCode 91 68 = some (.invokestatic 51) ∧ 68 + 3 = 71 := ⟨rfl, rfl⟩
theorem xc91_71 : pmCode 91 71 = some (.istore 9) ∧ 71 + 2 = 73 := ⟨rfl, rfl⟩
theorem xc91_73 : pmCode 91 73 = some (.iload 7) ∧ 73 + 2 = 75 := ⟨rfl, rfl⟩
theorem xc91_75 : pmCode 91 75 = some (.iload 8) ∧ 75 + 2 = 77 := ⟨rfl, rfl⟩
theorem xc91_77 : pmCode 91 77 = some (.iload_n 2) ∧ 77 + 1 = 78 := ⟨rfl, rfl⟩
theorem xc91_78 : pmCode 91 78 = some (.if_icmp .eq 24) ∧ ((78 : Nat) : Int) + 24 = ((102 : Nat) : Int) ∧ 78 + 3 = 81 := ⟨rfl, rfl, rfl⟩
theorem xc91_81 : pmCode 91 81 = some (.iload 9) ∧ 81 + 2 = 83 := ⟨rfl, rfl⟩
theorem xc91_83 : pmCode 91 83 = some (.iload 5) ∧ 83 + 2 = 85 := ⟨rfl, rfl⟩
theorem xc91_85 : pmCode 91 85 = some (.if_icmp .eq 10) ∧ ((85 : Nat) : Int) + 10 = ((95 : Nat) : Int) ∧ 85 + 3 = 88 := ⟨rfl, rfl, rfl⟩
theorem xc91_88 : pmCode 91 88 = some (.iload 9) ∧ 88 + 2 = 90 := ⟨rfl, rfl⟩
theorem xc91_90 : pmCode 91 90 = some (.iload 6) ∧ 90 + 2 = 92 := ⟨rfl, rfl⟩
theorem xc91_92 : pmCode 91 92 = some (.if_icmp .ne 10) ∧ ((92 : Nat) : Int) + 10 = ((102 : Nat) : Int) ∧ 92 + 3 = 95 := ⟨rfl, rfl, rfl⟩
theorem xc91_95 : pmCode 91 95 = some (.iconst 1) ∧ 95 + 1 = 96 := ⟨rfl, rfl⟩
theorem xc91_96 : pmCode 91 96 = some (.iload 8) ∧ 96 + 2 = 98 := ⟨rfl, rfl⟩
theorem xc91_98 : pmCode 91 98 = some .ishl ∧ 98 + 1 = 99 := ⟨rfl, rfl⟩
theorem xc91_99 : pmCode 91 99 = some (.goto 4) ∧ ((99 : Nat) : Int) + 4 = ((103 : Nat) : Int) := ⟨rfl, rfl⟩
theorem xc91_102 : pmCode 91 102 = some (.iconst 0) ∧ 102 + 1 = 103 := ⟨rfl, rfl⟩
theorem xc91_103 : pmCode 91 103 = some .ior ∧ 103 + 1 = 104 := ⟨rfl, rfl⟩
theorem xc91_104 : pmCode 91 104 = some (.istore 7) ∧ 104 + 2 = 106 := ⟨rfl, rfl⟩
theorem xc91_106 : pmCode 91 106 = some (.iload 4) ∧ 106 + 2 = 108 := ⟨rfl, rfl⟩
theorem xc91_108 : pmCode 91 108 = some (.iconst 5) ∧ 108 + 1 = 109 := ⟨rfl, rfl⟩
theorem xc91_109 : pmCode 91 109 = some (.if_icmp .ne 39) ∧ ((109 : Nat) : Int) + 39 = ((148 : Nat) : Int) ∧ 109 + 3 = 112 := ⟨rfl, rfl, rfl⟩
theorem xc91_112 : pmCode 91 112 = some (.iload 8) ∧ 112 + 2 = 114 := ⟨rfl, rfl⟩
theorem xc91_114 : pmCode 91 114 = some (.ifCond .eq 34) ∧ ((114 : Nat) : Int) + 34 = ((148 : Nat) : Int) ∧ 114 + 3 = 117 := ⟨rfl, rfl, rfl⟩
theorem xc91_117 : pmCode 91 117 = some (.iload 9) ∧ 117 + 2 = 119 := ⟨rfl, rfl⟩
theorem xc91_119 : pmCode 91 119 = some (.iload 5) ∧ 119 + 2 = 121 := ⟨rfl, rfl⟩
theorem xc91_121 : pmCode 91 121 = some (.if_icmp .ne 27) ∧ ((121 : Nat) : Int) + 27 = ((148 : Nat) : Int) ∧ 121 + 3 = 124 := ⟨rfl, rfl, rfl⟩
theorem xc91_124 : pmCode 91 124 = some (.aload_n 1) ∧ 124 + 1 = 125 := ⟨rfl, rfl⟩
theorem xc91_125 : pmCode 91 125 = some (.getfield 59) ∧ 125 + 3 = 128 := ⟨rfl, rfl⟩
theorem xc91_128 : pmCode 91 128 = some (.iload 8) ∧ 128 + 2 = 130 := ⟨rfl, rfl⟩
theorem xc91_130 : pmCode 91 130 = some (.aload_n 1) ∧ 130 + 1 = 131 := ⟨rfl, rfl⟩
theorem xc91_131 : pmCode 91 131 = some (.getfield 59) ∧ 131 + 3 = 134 := ⟨rfl, rfl⟩
theorem xc91_134 : pmCode 91 134 = some (.iload 8) ∧ 134 + 2 = 136 := ⟨rfl, rfl⟩
theorem xc91_136 : pmCode 91 136 = some .laload ∧ 136 + 1 = 137 := ⟨rfl, rfl⟩
theorem xc91_137 : pmCode 91 137 = some (.iload_n 3) ∧ 137 + 1 = 138 := ⟨rfl, rfl⟩
theorem xc91_138 : pmCode 91 138 = some (.iconst 1) ∧ 138 + 1 = 139 := ⟨rfl, rfl⟩
theorem xc91_139 : pmCode 91 139 = some (.invokestatic 80) ∧ 139 + 3 = 142 := ⟨rfl, rfl⟩
theorem xc91_142 : pmCode 91 142 = some (.bipush 8) ∧ 142 + 2 = 144 := ⟨rfl, rfl⟩
theorem xc91_144 : pmCode 91 144 = some (.invokestatic 84) ∧ 144 + 3 = 147 := ⟨rfl, rfl⟩
theorem xc91_147 : pmCode 91 147 = some .lastore ∧ 147 + 1 = 148 := ⟨rfl, rfl⟩
theorem xc91_148 : pmCode 91 148 = some (.iinc 8 1) ∧ 148 + 3 = 151 := ⟨rfl, rfl⟩
theorem xc91_151 : pmCode 91 151 = some (.goto (-95)) ∧ ((151 : Nat) : Int) + (-95) = ((56 : Nat) : Int) := ⟨rfl, rfl⟩
theorem xc91_154 : pmCode 91 154 = some (.iload 4) ∧ 154 + 2 = 156 := ⟨rfl, rfl⟩
theorem xc91_156 : pmCode 91 156 = some (.bipush 6) ∧ 156 + 2 = 158 := ⟨rfl, rfl⟩
theorem xc91_158 : pmCode 91 158 = some (.if_icmp .ne 17) ∧ ((158 : Nat) : Int) + 17 = ((175 : Nat) : Int) ∧ 158 + 3 = 161 := ⟨rfl, rfl, rfl⟩
theorem xc91_161 : pmCode 91 161 = some (.aload_n 1) ∧ 161 + 1 = 162 := ⟨rfl, rfl⟩
theorem xc91_162 : pmCode 91 162 = some (.iload_n 3) ∧ 162 + 1 = 163 := ⟨rfl, rfl⟩
theorem xc91_163 : pmCode 91 163 = some (.iconst 1) ∧ 163 + 1 = 164 := ⟨rfl, rfl⟩
theorem xc91_164 : pmCode 91 164 = some (.invokestatic 80) ∧ 164 + 3 = 167 := ⟨rfl, rfl⟩
theorem xc91_167 : pmCode 91 167 = some (.iload_n 3) ∧ 167 + 1 = 168 := ⟨rfl, rfl⟩
theorem xc91_168 : pmCode 91 168 = some (.iconst 2) ∧ 168 + 1 = 169 := ⟨rfl, rfl⟩
theorem xc91_169 : pmCode 91 169 = some (.invokestatic 80) ∧ 169 + 3 = 172 := ⟨rfl, rfl⟩
theorem xc91_172 : pmCode 91 172 = some (.invokestatic 87) ∧ 172 + 3 = 175 := ⟨rfl, rfl⟩
theorem xc91_175 : pmCode 91 175 = some (.aload_n 1) ∧ 175 + 1 = 176 := ⟨rfl, rfl⟩
theorem xc91_176 : pmCode 91 176 = some .dup ∧ 176 + 1 = 177 := ⟨rfl, rfl⟩
theorem xc91_177 : pmCode 91 177 = some (.getfield 91) ∧ 177 + 3 = 180 := ⟨rfl, rfl⟩
theorem xc91_180 : pmCode 91 180 = some (.iconst 1) ∧ 180 + 1 = 181 := ⟨rfl, rfl⟩
theorem xc91_181 : pmCode 91 181 = some .iadd ∧ 181 + 1 = 182 := ⟨rfl, rfl⟩
theorem xc91_182 : pmCode 91 182 = some (.putfield 91) ∧ 182 + 3 = 185 := ⟨rfl, rfl⟩
theorem xc91_185 : pmCode 91 185 = some (.aload_n 0) ∧ 185 + 1 = 186 := ⟨rfl, rfl⟩
theorem xc91_186 : pmCode 91 186 = some (.getfield 19) ∧ 186 + 3 = 189 := ⟨rfl, rfl⟩
theorem xc91_189 : pmCode 91 189 = some (.aload_n 1) ∧ 189 + 1 = 190 := ⟨rfl, rfl⟩
theorem xc91_190 : pmCode 91 190 = some (.iload_n 2) ∧ 190 + 1 = 191 := ⟨rfl, rfl⟩
theorem xc91_191 : pmCode 91 191 = some (.iload_n 3) ∧ 191 + 1 = 192 := ⟨rfl, rfl⟩
theorem xc91_192 : pmCode 91 192 = some (.iload 7) ∧ 192 + 2 = 194 := ⟨rfl, rfl⟩
theorem xc91_194 : pmCode 91 194 = some (.ifCond .ne 7) ∧ ((194 : Nat) : Int) + 7 = ((201 : Nat) : Int) ∧ 194 + 3 = 197 := ⟨rfl, rfl, rfl⟩
theorem xc91_197 : pmCode 91 197 = some (.iconst 1) ∧ 197 + 1 = 198 := ⟨rfl, rfl⟩
theorem xc91_198 : pmCode 91 198 = some (.goto 4) ∧ ((198 : Nat) : Int) + 4 = ((202 : Nat) : Int) := ⟨rfl, rfl⟩
theorem xc91_201 : pmCode 91 201 = some (.iconst 0) ∧ 201 + 1 = 202 := ⟨rfl, rfl⟩
theorem xc91_202 : pmCode 91 202 = some (.invokestatic 94) ∧ 202 + 3 = 205 := ⟨rfl, rfl⟩
theorem xc91_205 : pmCode 91 205 = some (.invokevirtual 98) ∧ 205 + 3 = 208 := ⟨rfl, rfl⟩
theorem xc91_208 : pmCode 91 208 = some (.aload_n 0) ∧ 208 + 1 = 209 := ⟨rfl, rfl⟩
theorem xc91_209 : pmCode 91 209 = some (.aload_n 1) ∧ 209 + 1 = 210 := ⟨rfl, rfl⟩
theorem xc91_210 : pmCode 91 210 = some (.invokevirtual 101) ∧ 210 + 3 = 213 := ⟨rfl, rfl⟩
theorem xc91_213 : pmCode 91 213 = some (.iload_n 3) ∧ 213 + 1 = 214 := ⟨rfl, rfl⟩
theorem xc91_214 : pmCode 91 214 = some (.iload 7) ∧ 214 + 2 = 216 := ⟨rfl, rfl⟩
theorem xc91_216 : pmCode 91 216 = some (.bipush 9) ∧ 216 + 2 = 218 := ⟨rfl, rfl⟩
theorem xc91_218 : pmCode 91 218 = some .ishl ∧ 218 + 1 = 219 := ⟨rfl, rfl⟩
theorem xc91_219 : pmCode 91 219 = some .ior ∧ 219 + 1 = 220 := ⟨rfl, rfl⟩
theorem xc91_220 : pmCode 91 220 = some .ireturn := rfl
/-- an event as a number -/
def uEo (p k z : Int) : Int := xOr (xOr (xOr (xOr ((k / 64) % 8) (p * 8)) (((k / 8) % 8) * 64)) ((k % 8) * 512)) (if z = 0 then 0 else 4096)
theorem rk93 {ro : Nat → Nat × (Nat → Int32)} {d : Nat} {Q : Option Value → pmS → Prop} {p k z : Int} {a : xA} {b : xB} (hd : 1 ≤ d) (hp : 0 ≤ p ∧ p ≤ 3) (hk : 0 ≤ k ∧ k ≤ 511) (hz : z = 0 ∨ z = 1) (hQ : Q (some (xV (uEo p k z))) (xS a b)) : pmCs ro d 93 [xV p, xV k, xV z] (xS a b) Q := by
  refine pmCs_deep (d := 1) (xg93 (w93 hp hk hz (fun e => ?_) (fun e => ?_))) hd
  · unfold uEo at hQ
    rw [if_pos e] at hQ
    exact hQ
  · unfold uEo at hQ
    rw [if_neg e] at hQ
    exact hQ
theorem uEo_b {p k z : Int} : xR (uEo p k z) := xRb (xOrB _ _)
theorem w83 {ro : Nat → Nat × (Nat → Int32)} {d : Nat} {Q : Option Value → pmS → Prop} {e pt : Int} {a : xA} {b : xB} (he : 0 ≤ e ∧ e ≤ 1000000) (hpt : 0 ≤ pt ∧ pt ≤ 2)
    (k1 : (¬ pt = 0) → (¬ pt = 1) → Q (some (xV (e % 8 - 1))) (xS a b))
    (k2 : (¬ pt = 0) → (pt = 1) → Q (some (xV ((e / 8) % 8 - 1))) (xS a b))
    (k3 : (pt = 0) → Q (some (xV ((e / 64) % 8))) (xS a b)) :
    pmWp ro d 11 83 1 0 [some (xV e), some (xV pt)] [] (xS a b) Q := by
  refine x_iloadn xc83_0 rfl ?_
  refine x_ifne xc83_1 (xRk (by have g0 := hpt; omega)) (fun h0 => ?_) (fun h0 => ?_)
  · refine x_iloadn xc83_12 rfl ?_
    refine x_iconst xc83_13 ?_
    refine x_icne xc83_14 (xRk (by have g0 := hpt; omega)) (xRk (by decide)) (fun h1 => ?_) (fun h1 => ?_)
    · refine x_iloadn xc83_26 rfl ?_
      refine x_bipush xc83_27 (by decide) ?_
      refine x_iandm (M := 8) 3 (by decide) (by decide) (by decide) xc83_29 ?_
      refine x_iconst xc83_30 ?_
      refine x_isub xc83_31 ?_
      refine x_iret xc83_32 (Or.inl rfl) ?_
      exact k1 h0 h1
    · replace h1 := Classical.not_not.mp h1
      refine x_iloadn xc83_17 rfl ?_
      refine x_iconst xc83_18 ?_
      refine x_ishr (M := 8) (by omega) (by omega) (by decide) (xRk (by have g0 := he; omega)) xc83_19 ?_
      refine x_bipush xc83_20 (by decide) ?_
      refine x_iandm (M := 8) 3 (by decide) (by decide) (by decide) xc83_22 ?_
      refine x_goto xc83_23 ?_
      refine x_iconst xc83_30 ?_
      refine x_isub xc83_31 ?_
      refine x_iret xc83_32 (Or.inl rfl) ?_
      exact k2 h0 h1
  · replace h0 := Classical.not_not.mp h0
    refine x_iloadn xc83_4 rfl ?_
    refine x_bipush xc83_5 (by decide) ?_
    refine x_ishr (M := 64) (by omega) (by omega) (by decide) (xRk (by have g0 := he; omega)) xc83_7 ?_
    refine x_bipush xc83_8 (by decide) ?_
    refine x_iandm (M := 8) 3 (by decide) (by decide) (by decide) xc83_10 ?_
    refine x_iret xc83_11 (Or.inl rfl) ?_
    exact k3 h0

theorem xg83 {ro : Nat → Nat × (Nat → Int32)} {d : Nat} {Q : Option Value → pmS → Prop} {a : xA} {b : xB} {e pt : Int} (h : pmWp ro d 11 83 1 0 [some (xV e), some (xV pt)] [] (xS a b) Q) : pmCs ro (d + 1) 83 [xV e, xV pt] (xS a b) Q := x_go xi83 rfl rfl rfl rfl rfl h
/-- part of a deed -/
def uPrt (e pt : Int) : Int := if pt = 0 then e / 64 % 8 else if pt = 1 then e / 8 % 8 - 1 else e % 8 - 1
theorem rk83 {ro : Nat → Nat × (Nat → Int32)} {d : Nat} {Q : Option Value → pmS → Prop} {e pt : Int} {a : xA} {b : xB} (hd : 1 ≤ d) (he : 0 ≤ e ∧ e ≤ 1000000) (hpt : 0 ≤ pt ∧ pt ≤ 2) (hQ : Q (some (xV (uPrt e pt))) (xS a b)) : pmCs ro d 83 [xV e, xV pt] (xS a b) Q := by
  unfold uPrt at hQ
  refine pmCs_deep (d := 1) (xg83 (w83 he hpt ?_ ?_ ?_)) hd <;> intros
  all_goals (simp_all)
theorem rk83a {ro : Nat → Nat × (Nat → Int32)} {d : Nat} {Q : Option Value → pmS → Prop} {e : Int} {a : xA} {b : xB} (hd : 1 ≤ d) (he : 0 ≤ e ∧ e ≤ 1000000) (hQ : Q (some (xV (e / 8 % 8 - 1))) (xS a b)) : pmCs ro d 83 [xV e, xV 1] (xS a b) Q := rk83 hd he (by decide) hQ
theorem rk83b {ro : Nat → Nat × (Nat → Int32)} {d : Nat} {Q : Option Value → pmS → Prop} {e : Int} {a : xA} {b : xB} (hd : 1 ≤ d) (he : 0 ≤ e ∧ e ≤ 1000000) (hQ : Q (some (xV (e % 8 - 1))) (xS a b)) : pmCs ro d 83 [xV e, xV 2] (xS a b) Q := rk83 hd he (by decide) hQ
theorem w91 {ro : Nat → Nat × (Nat → Int32)} {d : Nat} {Q : Option Value → pmS → Prop} {p dd : Int} {w : Nat} {a : xA} {b : xB} (hz : uWz w) (hp : 0 ≤ p ∧ p ≤ 3) (hdd : 0 ≤ dd ∧ dd ≤ 447) (hdx : 1 ≤ dd / 8 % 8) (hd : 1 ≤ d)
    (k1 : (¬ dd / 64 = 0) → pmCs ro d 81 [.ref 3, .long (b w 4), xV p, xV dd] (xS a b) fun r σ' => pmWp ro d 4 91 1 37 [some (.ref 43), some (.ref w), some (xV p), some (xV dd), some (xV (dd / 64)), some (xV (uSl (b w 4) p)), none, none, none, none] (r.toList ++ [.ref w]) σ' Q)
    (k2 : (dd / 64 = 0) → Q (some (xV dd)) (xS a b)) :
    pmWp ro d 4 91 1 0 [some (.ref 43), some (.ref w), some (xV p), some (xV dd), none, none, none, none, none, none] [] (xS a b) Q := by
  refine x_iloadn xc91_0 rfl ?_
  refine x_bipush xc91_1 (by decide) ?_
  refine x_ishr (M := 64) (by omega) (by omega) (by decide) (xRk (by have g0 := hdd; omega)) xc91_3 ?_
  refine x_istore (pl' := [some (.ref 43), some (.ref w), some (xV p), some (xV dd), some (xV (dd / 64)), none, none, none, none, none]) xc91_4 rfl rfl ?_
  refine x_iload xc91_6 rfl ?_
  refine x_ifne xc91_8 (xRk (by have g0 := hdd; omega)) (fun h0 => ?_) (fun h0 => ?_)
  · refine x_aloadn xc91_13 rfl ?_
    refine x_gfl (k := 4) xc91_14 rfl rfl rfl hz.1 ?_
    refine x_iloadn xc91_17 rfl ?_
    refine x_cS (as := [.long (b w 4), xV p]) (rest := []) xc91_18 rfl rfl xi61 ⟨rfl, rfl⟩ rfl rfl ?_
    refine rk61 (by omega) (by have g0 := hp; omega) ?_
    refine x_istore (pl' := [some (.ref 43), some (.ref w), some (xV p), some (xV dd), some (xV (dd / 64)), some (xV (uSl (b w 4) p)), none, none, none, none]) xc91_21 rfl rfl ?_
    refine x_aloadn xc91_23 rfl ?_
    refine x_aloadn xc91_24 rfl ?_
    refine x_gfr xc91_25 rfl rfl xz43 rfl ?_
    refine x_aloadn xc91_28 rfl ?_
    refine x_gfl (k := 4) xc91_29 rfl rfl rfl hz.1 ?_
    refine x_iloadn xc91_32 rfl ?_
    refine x_iloadn xc91_33 rfl ?_
    refine x_cV (as := [.long (b w 4), xV p, xV dd]) (rest := [.ref w]) xc91_34 rfl xi81 xz3 ⟨rfl, rfl⟩ rfl rfl ?_
    exact k1 h0
  · replace h0 := Classical.not_not.mp h0
    refine x_iloadn xc91_11 rfl ?_
    refine x_iret xc91_12 (Or.inl rfl) ?_
    exact k2 h0

theorem xg91 {ro : Nat → Nat × (Nat → Int32)} {d : Nat} {Q : Option Value → pmS → Prop} {a : xA} {b : xB} {p dd : Int} {w : Nat} (h : pmWp ro d 4 91 1 0 [some (.ref 43), some (.ref w), some (xV p), some (xV dd), none, none, none, none, none, none] [] (xS a b) Q) : pmCs ro (d + 1) 91 [.ref 43, .ref w, xV p, xV dd] (xS a b) Q := x_go xi91 rfl rfl rfl rfl rfl h
theorem w91z {ro : Nat → Nat × (Nat → Int32)} {d : Nat} {Q : Option Value → pmS → Prop} {p dd : Int} {w : Nat} {a : xA} {b : xB} (hz : uWz w) (hp : 0 ≤ p ∧ p ≤ 3) (hd0 : dd = 0) (hd : 1 ≤ d)
    (k1 : (¬ dd / 64 = 0) → pmCs ro d 81 [.ref 3, .long (b w 4), xV p, xV dd] (xS a b) fun r σ' => pmWp ro d 4 91 1 37 [some (.ref 43), some (.ref w), some (xV p), some (xV dd), some (xV (dd / 64)), some (xV (uSl (b w 4) p)), none, none, none, none] (r.toList ++ [.ref w]) σ' Q)
    (k2 : (dd / 64 = 0) → Q (some (xV dd)) (xS a b)) :
    pmWp ro d 4 91 1 0 [some (.ref 43), some (.ref w), some (xV p), some (xV dd), none, none, none, none, none, none] [] (xS a b) Q := by
  refine x_iloadn xc91_0 rfl ?_
  refine x_bipush xc91_1 (by decide) ?_
  refine x_ishr (M := 64) (by omega) (by omega) (by decide) (xRk (by have g0 := hd0; omega)) xc91_3 ?_
  refine x_istore (pl' := [some (.ref 43), some (.ref w), some (xV p), some (xV dd), some (xV (dd / 64)), none, none, none, none, none]) xc91_4 rfl rfl ?_
  refine x_iload xc91_6 rfl ?_
  refine x_ifne xc91_8 (xRk (by have g0 := hd0; omega)) (fun h0 => ?_) (fun h0 => ?_)
  · refine x_aloadn xc91_13 rfl ?_
    refine x_gfl (k := 4) xc91_14 rfl rfl rfl hz.1 ?_
    refine x_iloadn xc91_17 rfl ?_
    refine x_cS (as := [.long (b w 4), xV p]) (rest := []) xc91_18 rfl rfl xi61 ⟨rfl, rfl⟩ rfl rfl ?_
    refine rk61 (by omega) (by have g0 := hp; omega) ?_
    refine x_istore (pl' := [some (.ref 43), some (.ref w), some (xV p), some (xV dd), some (xV (dd / 64)), some (xV (uSl (b w 4) p)), none, none, none, none]) xc91_21 rfl rfl ?_
    refine x_aloadn xc91_23 rfl ?_
    refine x_aloadn xc91_24 rfl ?_
    refine x_gfr xc91_25 rfl rfl xz43 rfl ?_
    refine x_aloadn xc91_28 rfl ?_
    refine x_gfl (k := 4) xc91_29 rfl rfl rfl hz.1 ?_
    refine x_iloadn xc91_32 rfl ?_
    refine x_iloadn xc91_33 rfl ?_
    refine x_cV (as := [.long (b w 4), xV p, xV dd]) (rest := [.ref w]) xc91_34 rfl xi81 xz3 ⟨rfl, rfl⟩ rfl rfl ?_
    exact k1 h0
  · replace h0 := Classical.not_not.mp h0
    refine x_iloadn xc91_11 rfl ?_
    refine x_iret xc91_12 (Or.inl rfl) ?_
    exact k2 h0

theorem w91a {ro : Nat → Nat × (Nat → Int32)} {d : Nat} {Q : Option Value → pmS → Prop} {kk le p dd : Int} {w : Nat} {l : Int64} {a : xA} {b : xB} (hz : uWz w) (hp : 0 ≤ p ∧ p ≤ 3) (hdd : 0 ≤ dd ∧ dd ≤ 447) (hdx : 1 ≤ dd / 8 % 8) (hd : 1 ≤ d)
    (k1 : pmWp ro d 4 91 1 56 [some (.ref 43), some (.ref w), some (xV p), some (xV dd), some (xV kk), some (xV le), some (xV (uSl l p)), some (xV 0), some (xV 0), none] [] (xS a (xU b w 4 l)) Q) :
    pmWp ro d 4 91 1 37 [some (.ref 43), some (.ref w), some (xV p), some (xV dd), some (xV kk), some (xV le), none, none, none, none] [.long l, .ref w] (xS a b) Q := by
  refine x_pfl (k := 4) xc91_37 rfl ⟨rfl, rfl⟩ rfl hz.1 ?_
  refine x_aloadn xc91_40 rfl ?_
  refine x_gfl' (k := 4) (v := l) xc91_41 rfl rfl rfl hz.1 (by rw [xUa]) ?_
  refine x_iloadn xc91_44 rfl ?_
  refine x_cS (as := [.long l, xV p]) (rest := []) xc91_45 rfl rfl xi61 ⟨rfl, rfl⟩ rfl rfl ?_
  refine rk61 (by omega) (by have g0 := hp; omega) ?_
  refine x_istore (pl' := [some (.ref 43), some (.ref w), some (xV p), some (xV dd), some (xV kk), some (xV le), some (xV (uSl l p)), none, none, none]) xc91_48 rfl rfl ?_
  refine x_iconst xc91_50 ?_
  refine x_istore (pl' := [some (.ref 43), some (.ref w), some (xV p), some (xV dd), some (xV kk), some (xV le), some (xV (uSl l p)), some (xV 0), none, none]) xc91_51 rfl rfl ?_
  refine x_iconst xc91_53 ?_
  refine x_istore (pl' := [some (.ref 43), some (.ref w), some (xV p), some (xV dd), some (xV kk), some (xV le), some (xV (uSl l p)), some (xV 0), some (xV 0), none]) xc91_54 rfl rfl ?_
  exact k1

theorem w91q {ro : Nat → Nat × (Nat → Int32)} {d : Nat} {Q : Option Value → pmS → Prop} {v9 : Option Value} {kk le co sn q p dd : Int} {w : Nat} {a : xA} {b : xB} (hz : uWz w) (hp : 0 ≤ p ∧ p ≤ 3) (hdd : 0 ≤ dd ∧ dd ≤ 447) (hdx : 1 ≤ dd / 8 % 8) (hkk : 0 ≤ kk ∧ kk ≤ 7) (hle : 0 ≤ le ∧ le ≤ 15) (hco : 0 ≤ co ∧ co ≤ 15) (hsn : 0 ≤ sn ∧ sn ≤ 15) (hq : 0 ≤ q ∧ q ≤ 4) (hd : 1 ≤ d)
    (k1 : (4 ≤ q) → pmWp ro d 4 91 1 154 [some (.ref 43), some (.ref w), some (xV p), some (xV dd), some (xV kk), some (xV le), some (xV co), some (xV sn), some (xV q), v9] [] (xS a b) Q)
    (k2 : (¬ 4 ≤ q) → (q = p) → (¬ kk = 5) → pmWp ro d 4 91 1 148 [some (.ref 43), some (.ref w), some (xV p), some (xV dd), some (xV kk), some (xV le), some (xV co), some (xV (xOr sn 0)), some (xV q), some (xV (uSl (b w 4) q))] [] (xS a b) Q)
    (k3 : (¬ 4 ≤ q) → (q = p) → (kk = 5) → (q = 0) → pmWp ro d 4 91 1 148 [some (.ref 43), some (.ref w), some (xV p), some (xV dd), some (xV kk), some (xV le), some (xV co), some (xV (xOr sn 0)), some (xV q), some (xV (uSl (b w 4) q))] [] (xS a b) Q)
    (k4 : (¬ 4 ≤ q) → (q = p) → (kk = 5) → (¬ q = 0) → (¬ uSl (b w 4) q = le) → pmWp ro d 4 91 1 148 [some (.ref 43), some (.ref w), some (xV p), some (xV dd), some (xV kk), some (xV le), some (xV co), some (xV (xOr sn 0)), some (xV q), some (xV (uSl (b w 4) q))] [] (xS a b) Q)
    (k5 : (¬ 4 ≤ q) → (q = p) → (kk = 5) → (¬ q = 0) → (uSl (b w 4) q = le) → pmWp ro d 4 91 1 148 [some (.ref 43), some (.ref w), some (xV p), some (xV dd), some (xV kk), some (xV le), some (xV co), some (xV (xOr sn 0)), some (xV q), some (xV (uSl (b w 4) q))] [] (xS a (xU b (w + 1) q (xWith (b (w + 1) q) (dd / 8 % 8 - 1) 8))) Q)
    (k6 : (¬ 4 ≤ q) → (¬ q = p) → (uSl (b w 4) q = le) → (¬ kk = 5) → pmWp ro d 4 91 1 148 [some (.ref 43), some (.ref w), some (xV p), some (xV dd), some (xV kk), some (xV le), some (xV co), some (xV (xOr sn (1 * ((2 ^ q.toNat : Nat) : Int)))), some (xV q), some (xV (uSl (b w 4) q))] [] (xS a b) Q)
    (k7 : (¬ 4 ≤ q) → (¬ q = p) → (uSl (b w 4) q = le) → (kk = 5) → (q = 0) → pmWp ro d 4 91 1 148 [some (.ref 43), some (.ref w), some (xV p), some (xV dd), some (xV kk), some (xV le), some (xV co), some (xV (xOr sn (1 * ((2 ^ q.toNat : Nat) : Int)))), some (xV q), some (xV (uSl (b w 4) q))] [] (xS a b) Q)
    (k8 : (¬ 4 ≤ q) → (¬ q = p) → (uSl (b w 4) q = le) → (kk = 5) → (¬ q = 0) → pmWp ro d 4 91 1 148 [some (.ref 43), some (.ref w), some (xV p), some (xV dd), some (xV kk), some (xV le), some (xV co), some (xV (xOr sn (1 * ((2 ^ q.toNat : Nat) : Int)))), some (xV q), some (xV (uSl (b w 4) q))] [] (xS a (xU b (w + 1) q (xWith (b (w + 1) q) (dd / 8 % 8 - 1) 8))) Q)
    (k9 : (¬ 4 ≤ q) → (¬ q = p) → (¬ uSl (b w 4) q = le) → (¬ uSl (b w 4) q = co) → (¬ kk = 5) → pmWp ro d 4 91 1 148 [some (.ref 43), some (.ref w), some (xV p), some (xV dd), some (xV kk), some (xV le), some (xV co), some (xV (xOr sn 0)), some (xV q), some (xV (uSl (b w 4) q))] [] (xS a b) Q)
    (k10 : (¬ 4 ≤ q) → (¬ q = p) → (¬ uSl (b w 4) q = le) → (¬ uSl (b w 4) q = co) → (kk = 5) → (q = 0) → pmWp ro d 4 91 1 148 [some (.ref 43), some (.ref w), some (xV p), some (xV dd), some (xV kk), some (xV le), some (xV co), some (xV (xOr sn 0)), some (xV q), some (xV (uSl (b w 4) q))] [] (xS a b) Q)
    (k11 : (¬ 4 ≤ q) → (¬ q = p) → (¬ uSl (b w 4) q = le) → (¬ uSl (b w 4) q = co) → (kk = 5) → (¬ q = 0) → pmWp ro d 4 91 1 148 [some (.ref 43), some (.ref w), some (xV p), some (xV dd), some (xV kk), some (xV le), some (xV co), some (xV (xOr sn 0)), some (xV q), some (xV (uSl (b w 4) q))] [] (xS a b) Q)
    (k12 : (¬ 4 ≤ q) → (¬ q = p) → (¬ uSl (b w 4) q = le) → (uSl (b w 4) q = co) → (¬ kk = 5) → pmWp ro d 4 91 1 148 [some (.ref 43), some (.ref w), some (xV p), some (xV dd), some (xV kk), some (xV le), some (xV co), some (xV (xOr sn (1 * ((2 ^ q.toNat : Nat) : Int)))), some (xV q), some (xV (uSl (b w 4) q))] [] (xS a b) Q)
    (k13 : (¬ 4 ≤ q) → (¬ q = p) → (¬ uSl (b w 4) q = le) → (uSl (b w 4) q = co) → (kk = 5) → (q = 0) → pmWp ro d 4 91 1 148 [some (.ref 43), some (.ref w), some (xV p), some (xV dd), some (xV kk), some (xV le), some (xV co), some (xV (xOr sn (1 * ((2 ^ q.toNat : Nat) : Int)))), some (xV q), some (xV (uSl (b w 4) q))] [] (xS a b) Q)
    (k14 : (¬ 4 ≤ q) → (¬ q = p) → (¬ uSl (b w 4) q = le) → (uSl (b w 4) q = co) → (kk = 5) → (¬ q = 0) → pmWp ro d 4 91 1 148 [some (.ref 43), some (.ref w), some (xV p), some (xV dd), some (xV kk), some (xV le), some (xV co), some (xV (xOr sn (1 * ((2 ^ q.toNat : Nat) : Int)))), some (xV q), some (xV (uSl (b w 4) q))] [] (xS a b) Q) :
    pmWp ro d 4 91 1 56 [some (.ref 43), some (.ref w), some (xV p), some (xV dd), some (xV kk), some (xV le), some (xV co), some (xV sn), some (xV q), v9] [] (xS a b) Q := by
  refine x_iload xc91_56 rfl ?_
  refine x_iconst xc91_58 ?_
  refine x_icge xc91_59 (xRk (by have g0 := hq; omega)) (xRk (by decide)) (fun h0 => ?_) (fun h0 => ?_)
  · exact k1 h0
  · refine x_aloadn xc91_62 rfl ?_
    refine x_gfl (k := 4) xc91_63 rfl rfl rfl hz.1 ?_
    refine x_iload xc91_66 rfl ?_
    refine x_cS (as := [.long (b w 4), xV q]) (rest := []) xc91_68 rfl rfl xi61 ⟨rfl, rfl⟩ rfl rfl ?_
    refine rk61 (by omega) (by have g0 := hq; omega) ?_
    refine x_istore (pl' := [some (.ref 43), some (.ref w), some (xV p), some (xV dd), some (xV kk), some (xV le), some (xV co), some (xV sn), some (xV q), some (xV (uSl (b w 4) q))]) xc91_71 rfl rfl ?_
    refine x_iload xc91_73 rfl ?_
    refine x_iload xc91_75 rfl ?_
    refine x_iloadn xc91_77 rfl ?_
    refine x_iceq xc91_78 (xRk (by have g0 := hq; omega)) (xRk (by have g0 := hp; omega)) (fun h1 => ?_) (fun h1 => ?_)
    · refine x_iconst xc91_102 ?_
      refine x_ior xc91_103 ?_
      refine x_istore (pl' := [some (.ref 43), some (.ref w), some (xV p), some (xV dd), some (xV kk), some (xV le), some (xV co), some (xV (xOr sn 0)), some (xV q), some (xV (uSl (b w 4) q))]) xc91_104 rfl rfl ?_
      refine x_iload xc91_106 rfl ?_
      refine x_iconst xc91_108 ?_
      refine x_icne xc91_109 (xRk (by have g0 := hkk; omega)) (xRk (by decide)) (fun h2 => ?_) (fun h2 => ?_)
      · exact k2 h0 h1 h2
      · replace h2 := Classical.not_not.mp h2
        refine x_iload xc91_112 rfl ?_
        refine x_ifeq xc91_114 (xRk (by have g0 := hq; omega)) (fun h3 => ?_) (fun h3 => ?_)
        · exact k3 h0 h1 h2 h3
        · refine x_iload xc91_117 rfl ?_
          refine x_iload xc91_119 rfl ?_
          refine x_icne xc91_121 (xRk (by have g0 := uSl_b (l := b w 4) (j := q) (by have g0 := hq; omega) (by have g0 := hq; omega); omega)) (xRk (by have g0 := hle; omega)) (fun h4 => ?_) (fun h4 => ?_)
          · exact k4 h0 h1 h2 h3 h4
          · replace h4 := Classical.not_not.mp h4
            refine x_aloadn xc91_124 rfl ?_
            refine x_gfr xc91_125 rfl rfl hz.1 rfl ?_
            refine x_iload xc91_128 rfl ?_
            refine x_aloadn xc91_130 rfl ?_
            refine x_gfr xc91_131 rfl rfl hz.1 rfl ?_
            refine x_iload xc91_134 rfl ?_
            refine x_lal xc91_136 hz.2.1 (by have g0 := hq; omega) (by have g0 := hq; omega) (by have g0 := hq; omega) ?_
            refine x_iloadn xc91_137 rfl ?_
            refine x_iconst xc91_138 ?_
            refine x_cS (as := [xV dd, xV 1]) (rest := [.long (b (w + 1) q), xV q, .ref (w + 1)]) xc91_139 rfl rfl xi83 ⟨rfl, rfl⟩ rfl rfl ?_
            refine rk83a (by omega) (by have g0 := hdd; omega) ?_
            refine x_bipush xc91_142 (by decide) ?_
            refine x_cS (as := [.long (b (w + 1) q), xV (dd / 8 % 8 - 1), xV 8]) (rest := [xV q, .ref (w + 1)]) xc91_144 rfl rfl xi19 ⟨rfl, rfl⟩ rfl rfl ?_
            refine xk19 (by omega) (xRk (by have g0 := hdd; omega)) (xRk (by decide)) ?_
            refine x_las xc91_147 hz.2.1 (by have g0 := hq; omega) (by have g0 := hq; omega) (by have g0 := hq; omega) ?_
            exact k5 h0 h1 h2 h3 h4
    · refine x_iload xc91_81 rfl ?_
      refine x_iload xc91_83 rfl ?_
      refine x_iceq xc91_85 (xRk (by have g0 := uSl_b (l := b w 4) (j := q) (by have g0 := hq; omega) (by have g0 := hq; omega); omega)) (xRk (by have g0 := hle; omega)) (fun h5 => ?_) (fun h5 => ?_)
      · refine x_iconst xc91_95 ?_
        refine x_iload xc91_96 rfl ?_
        refine x_ishl (M := ((2 ^ q.toNat : Nat) : Int)) (by have g0 := hq; omega) (by have g0 := hq; omega) rfl xc91_98 ?_
        refine x_goto xc91_99 ?_
        refine x_ior xc91_103 ?_
        refine x_istore (pl' := [some (.ref 43), some (.ref w), some (xV p), some (xV dd), some (xV kk), some (xV le), some (xV co), some (xV (xOr sn (1 * ((2 ^ q.toNat : Nat) : Int)))), some (xV q), some (xV (uSl (b w 4) q))]) xc91_104 rfl rfl ?_
        refine x_iload xc91_106 rfl ?_
        refine x_iconst xc91_108 ?_
        refine x_icne xc91_109 (xRk (by have g0 := hkk; omega)) (xRk (by decide)) (fun h6 => ?_) (fun h6 => ?_)
        · exact k6 h0 h1 h5 h6
        · replace h6 := Classical.not_not.mp h6
          refine x_iload xc91_112 rfl ?_
          refine x_ifeq xc91_114 (xRk (by have g0 := hq; omega)) (fun h7 => ?_) (fun h7 => ?_)
          · exact k7 h0 h1 h5 h6 h7
          · refine x_iload xc91_117 rfl ?_
            refine x_iload xc91_119 rfl ?_
            refine x_icne xc91_121 (xRk (by have g0 := uSl_b (l := b w 4) (j := q) (by have g0 := hq; omega) (by have g0 := hq; omega); omega)) (xRk (by have g0 := hle; omega)) (fun h => absurd h (by omega)) (fun _ => ?_)
            refine x_aloadn xc91_124 rfl ?_
            refine x_gfr xc91_125 rfl rfl hz.1 rfl ?_
            refine x_iload xc91_128 rfl ?_
            refine x_aloadn xc91_130 rfl ?_
            refine x_gfr xc91_131 rfl rfl hz.1 rfl ?_
            refine x_iload xc91_134 rfl ?_
            refine x_lal xc91_136 hz.2.1 (by have g0 := hq; omega) (by have g0 := hq; omega) (by have g0 := hq; omega) ?_
            refine x_iloadn xc91_137 rfl ?_
            refine x_iconst xc91_138 ?_
            refine x_cS (as := [xV dd, xV 1]) (rest := [.long (b (w + 1) q), xV q, .ref (w + 1)]) xc91_139 rfl rfl xi83 ⟨rfl, rfl⟩ rfl rfl ?_
            refine rk83a (by omega) (by have g0 := hdd; omega) ?_
            refine x_bipush xc91_142 (by decide) ?_
            refine x_cS (as := [.long (b (w + 1) q), xV (dd / 8 % 8 - 1), xV 8]) (rest := [xV q, .ref (w + 1)]) xc91_144 rfl rfl xi19 ⟨rfl, rfl⟩ rfl rfl ?_
            refine xk19 (by omega) (xRk (by have g0 := hdd; omega)) (xRk (by decide)) ?_
            refine x_las xc91_147 hz.2.1 (by have g0 := hq; omega) (by have g0 := hq; omega) (by have g0 := hq; omega) ?_
            exact k8 h0 h1 h5 h6 h7
      · refine x_iload xc91_88 rfl ?_
        refine x_iload xc91_90 rfl ?_
        refine x_icne xc91_92 (xRk (by have g0 := uSl_b (l := b w 4) (j := q) (by have g0 := hq; omega) (by have g0 := hq; omega); omega)) (xRk (by have g0 := hco; omega)) (fun h9 => ?_) (fun h9 => ?_)
        · refine x_iconst xc91_102 ?_
          refine x_ior xc91_103 ?_
          refine x_istore (pl' := [some (.ref 43), some (.ref w), some (xV p), some (xV dd), some (xV kk), some (xV le), some (xV co), some (xV (xOr sn 0)), some (xV q), some (xV (uSl (b w 4) q))]) xc91_104 rfl rfl ?_
          refine x_iload xc91_106 rfl ?_
          refine x_iconst xc91_108 ?_
          refine x_icne xc91_109 (xRk (by have g0 := hkk; omega)) (xRk (by decide)) (fun h10 => ?_) (fun h10 => ?_)
          · exact k9 h0 h1 h5 h9 h10
          · replace h10 := Classical.not_not.mp h10
            refine x_iload xc91_112 rfl ?_
            refine x_ifeq xc91_114 (xRk (by have g0 := hq; omega)) (fun h11 => ?_) (fun h11 => ?_)
            · exact k10 h0 h1 h5 h9 h10 h11
            · refine x_iload xc91_117 rfl ?_
              refine x_iload xc91_119 rfl ?_
              refine x_icne xc91_121 (xRk (by have g0 := uSl_b (l := b w 4) (j := q) (by have g0 := hq; omega) (by have g0 := hq; omega); omega)) (xRk (by have g0 := hle; omega)) (fun _ => ?_) (fun h => absurd h (by omega))
              exact k11 h0 h1 h5 h9 h10 h11
        · replace h9 := Classical.not_not.mp h9
          refine x_iconst xc91_95 ?_
          refine x_iload xc91_96 rfl ?_
          refine x_ishl (M := ((2 ^ q.toNat : Nat) : Int)) (by have g0 := hq; omega) (by have g0 := hq; omega) rfl xc91_98 ?_
          refine x_goto xc91_99 ?_
          refine x_ior xc91_103 ?_
          refine x_istore (pl' := [some (.ref 43), some (.ref w), some (xV p), some (xV dd), some (xV kk), some (xV le), some (xV co), some (xV (xOr sn (1 * ((2 ^ q.toNat : Nat) : Int)))), some (xV q), some (xV (uSl (b w 4) q))]) xc91_104 rfl rfl ?_
          refine x_iload xc91_106 rfl ?_
          refine x_iconst xc91_108 ?_
          refine x_icne xc91_109 (xRk (by have g0 := hkk; omega)) (xRk (by decide)) (fun h13 => ?_) (fun h13 => ?_)
          · exact k12 h0 h1 h5 h9 h13
          · replace h13 := Classical.not_not.mp h13
            refine x_iload xc91_112 rfl ?_
            refine x_ifeq xc91_114 (xRk (by have g0 := hq; omega)) (fun h14 => ?_) (fun h14 => ?_)
            · exact k13 h0 h1 h5 h9 h13 h14
            · refine x_iload xc91_117 rfl ?_
              refine x_iload xc91_119 rfl ?_
              refine x_icne xc91_121 (xRk (by have g0 := uSl_b (l := b w 4) (j := q) (by have g0 := hq; omega) (by have g0 := hq; omega); omega)) (xRk (by have g0 := hle; omega)) (fun _ => ?_) (fun h => absurd h (by omega))
              exact k14 h0 h1 h5 h9 h13 h14

theorem w91n {ro : Nat → Nat × (Nat → Int32)} {d : Nat} {Q : Option Value → pmS → Prop} {v9 : Option Value} {kk le co sn q p dd : Int} {w : Nat} {a : xA} {b : xB} (hz : uWz w) (hp : 0 ≤ p ∧ p ≤ 3) (hdd : 0 ≤ dd ∧ dd ≤ 447) (hdx : 1 ≤ dd / 8 % 8) (hkk : 0 ≤ kk ∧ kk ≤ 7) (hle : 0 ≤ le ∧ le ≤ 15) (hco : 0 ≤ co ∧ co ≤ 15) (hsn : 0 ≤ sn ∧ sn ≤ 15) (hq : 0 ≤ q ∧ q ≤ 3) (hd : 1 ≤ d)
    (k1 : pmWp ro d 4 91 1 56 [some (.ref 43), some (.ref w), some (xV p), some (xV dd), some (xV kk), some (xV le), some (xV co), some (xV sn), some (xV (q + 1)), v9] [] (xS a b) Q) :
    pmWp ro d 4 91 1 148 [some (.ref 43), some (.ref w), some (xV p), some (xV dd), some (xV kk), some (xV le), some (xV co), some (xV sn), some (xV q), v9] [] (xS a b) Q := by
  refine x_iinc (pl' := [some (.ref 43), some (.ref w), some (xV p), some (xV dd), some (xV kk), some (xV le), some (xV co), some (xV sn), some (xV (q + 1)), v9]) xc91_148 rfl rfl ?_
  refine x_goto xc91_151 ?_
  exact k1

theorem w91t {ro : Nat → Nat × (Nat → Int32)} {d : Nat} {Q : Option Value → pmS → Prop} {v9 : Option Value} {kk le co sn q p dd : Int} {w : Nat} {a : xA} {b : xB} (hz : uWz w) (hp : 0 ≤ p ∧ p ≤ 3) (hdd : 0 ≤ dd ∧ dd ≤ 447) (hdx : 1 ≤ dd / 8 % 8) (hkk : 0 ≤ kk ∧ kk ≤ 7) (hle : 0 ≤ le ∧ le ≤ 15) (hco : 0 ≤ co ∧ co ≤ 15) (hsn : 0 ≤ sn ∧ sn ≤ 15) (hq : 0 ≤ q ∧ q ≤ 4) (hd : 1 ≤ d)
    (k1 : (¬ kk = 6) → pmWp ro d 4 91 1 175 [some (.ref 43), some (.ref w), some (xV p), some (xV dd), some (xV kk), some (xV le), some (xV co), some (xV sn), some (xV q), v9] [] (xS a b) Q)
    (k2 : (kk = 6) → pmCs ro d 92 [.ref w, xV (dd / 8 % 8 - 1), xV (dd % 8 - 1)] (xS a b) fun r σ' => pmWp ro d 4 91 1 175 [some (.ref 43), some (.ref w), some (xV p), some (xV dd), some (xV kk), some (xV le), some (xV co), some (xV sn), some (xV q), v9] (r.toList ++ []) σ' Q) :
    pmWp ro d 4 91 1 154 [some (.ref 43), some (.ref w), some (xV p), some (xV dd), some (xV kk), some (xV le), some (xV co), some (xV sn), some (xV q), v9] [] (xS a b) Q := by
  refine x_iload xc91_154 rfl ?_
  refine x_bipush xc91_156 (by decide) ?_
  refine x_icne xc91_158 (xRk (by have g0 := hkk; omega)) (xRk (by decide)) (fun h0 => ?_) (fun h0 => ?_)
  · exact k1 h0
  · replace h0 := Classical.not_not.mp h0
    refine x_aloadn xc91_161 rfl ?_
    refine x_iloadn xc91_162 rfl ?_
    refine x_iconst xc91_163 ?_
    refine x_cS (as := [xV dd, xV 1]) (rest := [.ref w]) xc91_164 rfl rfl xi83 ⟨rfl, rfl⟩ rfl rfl ?_
    refine rk83a (by omega) (by have g0 := hdd; omega) ?_
    refine x_iloadn xc91_167 rfl ?_
    refine x_iconst xc91_168 ?_
    refine x_cS (as := [xV dd, xV 2]) (rest := [xV (dd / 8 % 8 - 1), .ref w]) xc91_169 rfl rfl xi83 ⟨rfl, rfl⟩ rfl rfl ?_
    refine rk83b (by omega) (by have g0 := hdd; omega) ?_
    refine x_cS (as := [.ref w, xV (dd / 8 % 8 - 1), xV (dd % 8 - 1)]) (rest := []) xc91_172 rfl rfl xi92 ⟨rfl, rfl⟩ rfl rfl ?_
    exact k2 h0

theorem w91e {ro : Nat → Nat × (Nat → Int32)} {d : Nat} {Q : Option Value → pmS → Prop} {v9 : Option Value} {kk le co sn q p dd : Int} {w : Nat} {a : xA} {b : xB} (hz : uWz w) (hp : 0 ≤ p ∧ p ≤ 3) (hdd : 0 ≤ dd ∧ dd ≤ 447) (hdx : 1 ≤ dd / 8 % 8) (hkk : 0 ≤ kk ∧ kk ≤ 7) (hle : 0 ≤ le ∧ le ≤ 15) (hco : 0 ≤ co ∧ co ≤ 15) (hsn : 0 ≤ sn ∧ sn ≤ 15) (hq : 0 ≤ q ∧ q ≤ 4) (hev : 0 ≤ a w 11 ∧ a w 11 ≤ 2000) (hd : 1 ≤ d)
    (k1 : (¬ sn = 0) → pmCs ro d 94 [.ref 13, .ref w, xV (uEo p dd 0)] (xS (xU a w 11 (a w 11 + 1)) b) fun r σ' => pmWp ro d 4 91 1 208 [some (.ref 43), some (.ref w), some (xV p), some (xV dd), some (xV kk), some (xV le), some (xV co), some (xV sn), some (xV q), v9] (r.toList ++ []) σ' Q)
    (k2 : (sn = 0) → pmCs ro d 94 [.ref 13, .ref w, xV (uEo p dd 1)] (xS (xU a w 11 (a w 11 + 1)) b) fun r σ' => pmWp ro d 4 91 1 208 [some (.ref 43), some (.ref w), some (xV p), some (xV dd), some (xV kk), some (xV le), some (xV co), some (xV sn), some (xV q), v9] (r.toList ++ []) σ' Q) :
    pmWp ro d 4 91 1 175 [some (.ref 43), some (.ref w), some (xV p), some (xV dd), some (xV kk), some (xV le), some (xV co), some (xV sn), some (xV q), v9] [] (xS a b) Q := by
  refine x_aloadn xc91_175 rfl ?_
  refine x_dup xc91_176 rfl ?_
  refine x_gfi (k := 11) xc91_177 rfl (Or.inl rfl) rfl hz.1 ?_
  refine x_iconst xc91_180 ?_
  refine x_iadd xc91_181 ?_
  refine x_pfi (k := 11) xc91_182 rfl ⟨rfl, rfl⟩ rfl hz.1 ?_
  refine x_aloadn xc91_185 rfl ?_
  refine x_gfr xc91_186 rfl rfl xz43 rfl ?_
  refine x_aloadn xc91_189 rfl ?_
  refine x_iloadn xc91_190 rfl ?_
  refine x_iloadn xc91_191 rfl ?_
  refine x_iload xc91_192 rfl ?_
  refine x_ifne xc91_194 (xRk (by have g0 := hsn; omega)) (fun h0 => ?_) (fun h0 => ?_)
  · refine x_iconst xc91_201 ?_
    refine x_cS (as := [xV p, xV dd, xV 0]) (rest := [.ref w, .ref 13]) xc91_202 rfl rfl xi93 ⟨rfl, rfl⟩ rfl rfl ?_
    refine rk93 (by omega) (by have g0 := hp; omega) (by have g0 := hdd; omega) (by decide) ?_
    refine x_cV (as := [.ref w, xV (uEo p dd 0)]) (rest := []) xc91_205 rfl xi94 xz13 ⟨rfl, rfl⟩ rfl rfl ?_
    exact k1 h0
  · replace h0 := Classical.not_not.mp h0
    refine x_iconst xc91_197 ?_
    refine x_goto xc91_198 ?_
    refine x_cS (as := [xV p, xV dd, xV 1]) (rest := [.ref w, .ref 13]) xc91_202 rfl rfl xi93 ⟨rfl, rfl⟩ rfl rfl ?_
    refine rk93 (by omega) (by have g0 := hp; omega) (by have g0 := hdd; omega) (by decide) ?_
    refine x_cV (as := [.ref w, xV (uEo p dd 1)]) (rest := []) xc91_205 rfl xi94 xz13 ⟨rfl, rfl⟩ rfl rfl ?_
    exact k2 h0

theorem w91l {ro : Nat → Nat × (Nat → Int32)} {d : Nat} {Q : Option Value → pmS → Prop} {v9 : Option Value} {kk le co sn q p dd : Int} {w : Nat} {a : xA} {b : xB} (hz : uWz w) (hp : 0 ≤ p ∧ p ≤ 3) (hdd : 0 ≤ dd ∧ dd ≤ 447) (hdx : 1 ≤ dd / 8 % 8) (hkk : 0 ≤ kk ∧ kk ≤ 7) (hle : 0 ≤ le ∧ le ≤ 15) (hco : 0 ≤ co ∧ co ≤ 15) (hsn : 0 ≤ sn ∧ sn ≤ 15) (hq : 0 ≤ q ∧ q ≤ 4) (hd : 1 ≤ d)
    (k1 : pmCs ro d 59 [.ref 43, .ref w] (xS a b) fun r σ' => pmWp ro d 4 91 1 213 [some (.ref 43), some (.ref w), some (xV p), some (xV dd), some (xV kk), some (xV le), some (xV co), some (xV sn), some (xV q), v9] (r.toList ++ []) σ' Q) :
    pmWp ro d 4 91 1 208 [some (.ref 43), some (.ref w), some (xV p), some (xV dd), some (xV kk), some (xV le), some (xV co), some (xV sn), some (xV q), v9] [] (xS a b) Q := by
  refine x_aloadn xc91_208 rfl ?_
  refine x_aloadn xc91_209 rfl ?_
  refine x_cV (as := [.ref w]) (rest := []) xc91_210 rfl xi59 xz43 ⟨rfl, rfl⟩ rfl rfl ?_
  exact k1

theorem w91r {ro : Nat → Nat × (Nat → Int32)} {d : Nat} {Q : Option Value → pmS → Prop} {v9 : Option Value} {kk le co sn q p dd : Int} {w : Nat} {a : xA} {b : xB} (hz : uWz w) (hp : 0 ≤ p ∧ p ≤ 3) (hdd : 0 ≤ dd ∧ dd ≤ 447) (hdx : 1 ≤ dd / 8 % 8) (hkk : 0 ≤ kk ∧ kk ≤ 7) (hle : 0 ≤ le ∧ le ≤ 15) (hco : 0 ≤ co ∧ co ≤ 15) (hsn : 0 ≤ sn ∧ sn ≤ 15) (hq : 0 ≤ q ∧ q ≤ 4) (hd : 1 ≤ d)
    (k1 : Q (some (xV (xOr dd (sn * 512)))) (xS a b)) :
    pmWp ro d 4 91 1 213 [some (.ref 43), some (.ref w), some (xV p), some (xV dd), some (xV kk), some (xV le), some (xV co), some (xV sn), some (xV q), v9] [] (xS a b) Q := by
  refine x_iloadn xc91_213 rfl ?_
  refine x_iload xc91_214 rfl ?_
  refine x_bipush xc91_216 (by decide) ?_
  refine x_ishl (M := 512) (by omega) (by omega) (by decide) xc91_218 ?_
  refine x_ior xc91_219 ?_
  refine x_iret xc91_220 (Or.inl rfl) ?_
  exact k1

end
end
section
/-! deeds by slots -/
section
set_option maxRecDepth 100000


section
variable {w : Nat} {n g p k x : Int} {r r' : Int → Int} {b b' : xB}
/-- a deed that can be done in the world of the row -/
def uCp (n p k : Int) (r : Int → Int) : Prop := ¬ r p = 7 ∧ (uK k = 2 ∨ uK k = 3 ∨ uK k = 4 ∨ uK k = 6 → uX k < n) ∧ (uK k = 6 → 1 ≤ uY k) ∧ (uK k = 5 → ¬ uX k = p)
theorem uCp_d (h : uCp n p k r) : uCd n p k r := ⟨h.1, fun e => ⟨h.2.1 (by omega), h.2.2.1 e⟩⟩
theorem uWs_w {j v : Int} (h : r j = v) (h4 : 4 ≤ j) (hn : j - 4 < n) (h1 : 10 ≤ v) (h2 : v < 14) : uWs n r j = v - 1 := by
  unfold uWs
  generalize r j = u at h ⊢
  subst h
  rw [if_neg (show ¬ j < 4 by omega), if_pos hn, if_neg (show ¬ u = 20 by omega)]
  exact if_neg (show ¬ u < 7 by omega)
theorem uK6 (h : 41 ≤ k) (h2 : k < 61) : uK k = 6 := by
  have := @uK_e k
  omega
theorem uIfP {α : Type} {P P' : Prop} [Decidable P] [Decidable P'] {x y z z' : α} (h : P ↔ P') (h1 : P' → x = z) (h2 : ¬ P' → y = z') : (if P then x else y) = if P' then z else z' := by
  by_cases c : P'
  · rw [if_pos c, if_pos (h.mpr c)]
    exact h1 c
  · rw [if_neg c, if_neg (fun g => c (h.mp g))]
    exact h2 c
/-- what applied does is what the deed changes -/
theorem uWs_app (hn5 : n ≤ 5) (hr : uRv n r) (hp : 0 ≤ p ∧ p ≤ 3) (hk : 0 ≤ k ∧ k < 61) (hc : uCp n p k r) {j : Int} (j0 : 0 ≤ j) (j1 : j < 9) : uApp p (uWs n r) k j = uWs n (uDo n p k r) j := by
  obtain ⟨hal, hx, hy, hv⟩ := hc
  have hrp := hr.1 p hp.1 (by omega)
  by_cases h6 : 41 ≤ k
  · have k6 := uK6 h6 hk.2
    have hb := (uX_b hk).1
    have hy6 := hy k6
    rw [uApp_no (Or.inr h6), uDo_6 k6]
    exact (uWs_c (if_neg (by omega))).symm
  rcases uKd ⟨hk.1, by omega⟩ with h | h | h | h | h
  · rw [uApp_go ⟨hk.1, h.1⟩, uDo_1 h.2.1]
    unfold uP
    by_cases c : j = p
    · rw [if_pos c, uWs_p (by omega), if_pos c]
      omega
    · rw [if_neg c]
      exact (uWs_c (if_neg c)).symm
  · have hxn := hx (by omega)
    rw [uApp_ta h.1, uDo_2 h.2.1]
    unfold uP
    by_cases c : j = 4 + uX k
    · rw [if_pos c]
      exact Eq.trans (by omega) (Eq.symm (uWs_w (v := 10 + p) (if_pos c) (by omega) (by omega) (by omega) (by omega)))
    · rw [if_neg c]
      exact (uWs_c (if_neg c)).symm
  · have hxn := hx (by omega)
    rw [uApp_dr h.1, uDo_3 h.2.1]
    unfold uP
    by_cases c : j = 4 + uX k
    · rw [if_pos c]
      exact Eq.trans (uWs_p (by omega)) (Eq.symm (uWs_v (v := r p) (if_pos c) (by omega) (by omega) (by omega)))
    · rw [if_neg c]
      exact (uWs_c (if_neg c)).symm
  · have hxn := hx (by omega)
    rw [uApp_gi h.1, uDo_4 h.2.1]
    unfold uP
    by_cases c : j = 4 + uX k
    · rw [if_pos c]
      exact Eq.trans (by omega) (Eq.symm (uWs_w (v := 10 + uY k) (if_pos c) (by omega) (by omega) (by omega) (by omega)))
    · rw [if_neg c]
      exact (uWs_c (if_neg c)).symm
  · have hvp := hv h.2.1
    rw [uApp_hi h.1, uDo_5 h.2.1]
    have hx0 : 0 ≤ uX k ∧ uX k ≤ 3 := by omega
    dsimp only
    obtain ⟨z, ez⟩ : ∃ z, uX k = z := ⟨_, rfl⟩
    rw [ez] at hx0 hvp ⊢
    have ep := uWs_p (n := n) (r := r) (p := p) (by omega)
    rw [ep]
    clear hx hy hv h ez
    by_cases c : j = z
    · have e7 : uZt n p z r j = 7 := by
        unfold uZt
        exact if_pos c
      rw [if_pos c, uWs_p (by omega), e7]
      decide
    · rw [if_neg c]
      by_cases c4 : 4 ≤ j
      · have hjx := uWs_x hr (x := j - 4) (by omega) (by omega)
        rw [show 4 + (j - 4) = j by omega] at hjx
        by_cases cn : j < 4 + n
        · have eZ : uZt n p z r j = if r j = 10 + z then r p else r j := by
            unfold uZt
            rw [if_neg c, if_pos ⟨c4, cn⟩]
          by_cases ch : r j = 10 + z
          · rw [if_pos ch] at eZ
            rw [if_pos ⟨c4, j1, by omega⟩, uWs_v eZ c4 (by omega) (by omega)]
          · rw [if_neg ch] at eZ
            rw [if_neg (show ¬ (4 ≤ j ∧ j < 9 ∧ uWs n r j = 9 + z) by omega)]
            exact (uWs_c eZ).symm
        · have eZ : uZt n p z r j = r j := by
            unfold uZt
            rw [if_neg c, if_neg (show ¬ (4 ≤ j ∧ j < 4 + n) by omega), if_neg (show ¬ ((14 ≤ j ∧ j < 41) ∧ (j - 14) % 9 = 5 + z ∧ r ((j - 14) / 9 + 1) = r p ∧ ¬ (j - 14) / 9 + 1 = z) by omega)]
          rw [if_neg (show ¬ (4 ≤ j ∧ j < 9 ∧ uWs n r j = 9 + z) by omega)]
          exact (uWs_c eZ).symm
      · have eZ : uZt n p z r j = r j := by
          unfold uZt
          rw [if_neg c, if_neg (show ¬ (4 ≤ j ∧ j < 4 + n) by omega), if_neg (show ¬ ((14 ≤ j ∧ j < 41) ∧ (j - 14) % 9 = 5 + z ∧ r ((j - 14) / 9 + 1) = r p ∧ ¬ (j - 14) / 9 + 1 = z) by omega)]
        rw [if_neg (show ¬ (4 ≤ j ∧ j < 9 ∧ uWs n r j = 9 + z) by omega)]
        exact (uWs_c eZ).symm
/-- a person's place behind a deed -/
theorem uDo_p (hp : 0 ≤ p ∧ p ≤ 3) (hk : 0 ≤ k ∧ k < 61) (hc : uCp n p k r) {q : Int} (q0 : 0 ≤ q) (q1 : q < 4) : uDo n p k r q = if uK k = 1 ∧ q = p then uX k else if uK k = 5 ∧ q = uX k then 7 else r q := by
  have hb := uX_b hk
  by_cases k1 : uK k = 1
  · rw [uDo_1 k1]
    dsimp only
    by_cases c : q = p
    · rw [if_pos c, if_pos ⟨k1, c⟩]
    · rw [if_neg c, if_neg (fun h => c h.2), if_neg (fun h => by omega)]
  rw [if_neg (fun h => k1 h.1)]
  by_cases k5 : uK k = 5
  · rw [uDo_5 k5]
    unfold uZt
    by_cases c : q = uX k
    · rw [if_pos c, if_pos ⟨k5, c⟩]
    · rw [if_neg c, if_neg (show ¬ (uK k = 5 ∧ q = uX k) from fun h => c h.2), if_neg (show ¬ (4 ≤ q ∧ q < 4 + n) by omega), if_neg (show ¬ ((14 ≤ q ∧ q < 41) ∧ (q - 14) % 9 = 5 + uX k ∧ r ((q - 14) / 9 + 1) = r p ∧ ¬ (q - 14) / 9 + 1 = uX k) by omega)]
  rw [if_neg (fun h => k5 h.1)]
  have hx0 := hb.1
  have hy0 := hc.2.2.1
  clear hb
  by_cases k2 : uK k = 2
  · rw [uDo_2 k2]
    exact if_neg (by omega)
  by_cases k3 : uK k = 3
  · rw [uDo_3 k3]
    exact if_neg (by omega)
  by_cases k4 : uK k = 4
  · rw [uDo_4 k4]
    exact if_neg (by omega)
  · have k6 : uK k = 6 := by
      have := (uX_b hk).2.2.2.2.2.2
      omega
    rw [uDo_6 k6]
    have := hy0 k6
    exact if_neg (by omega)
/-- who sees it, by where they are behind it -/
theorem uSb_e (hr : uRv n r) (hp : 0 ≤ p ∧ p ≤ 3) (hk : 0 ≤ k ∧ k < 61) (hc : uCp n p k r) {q : Int} (q0 : 0 ≤ q) (q1 : q < 4) : uSb p k r q ↔ ¬ q = p ∧ (uDo n p k r q = r p ∨ uDo n p k r q = uDo n p k r p) := by
  have hb := uX_b hk
  have h7 := hr.1 p hp.1 (by omega)
  have h5 := hc.2.2.2
  have hal := hc.1
  have eq := uDo_p hp hk hc q0 q1
  have ep := uDo_p hp hk hc hp.1 (by omega)
  unfold uSb
  by_cases cq : q = p
  · exact ⟨fun h => absurd cq h.1, fun h => absurd cq h.1⟩
  rw [if_neg (show ¬ (uK k = 1 ∧ q = p) from fun h => cq h.2)] at eq
  by_cases k1 : uK k = 1
  · have hx := hb.2.1 k1
    rw [if_neg (show ¬ (uK k = 5 ∧ q = uX k) from fun h => by omega)] at eq
    rw [if_pos (show uK k = 1 ∧ p = p from ⟨k1, rfl⟩)] at ep
    rw [eq, ep]
    clear eq ep hb hc h5
    omega
  rw [if_neg (show ¬ (uK k = 1 ∧ p = p) from fun h => k1 h.1)] at ep
  by_cases k5 : uK k = 5
  · have hx := h5 k5
    rw [if_neg (show ¬ (uK k = 5 ∧ p = uX k) from fun h => hx h.2.symm)] at ep
    by_cases c : q = uX k
    · rw [if_pos (show uK k = 5 ∧ q = uX k from ⟨k5, c⟩)] at eq
      rw [eq, ep]
      clear eq ep hb hc h5
      omega
    · rw [if_neg (show ¬ (uK k = 5 ∧ q = uX k) from fun h => c h.2)] at eq
      rw [eq, ep]
      clear eq ep hb hc h5
      omega
  · rw [if_neg (show ¬ (uK k = 5 ∧ p = uX k) from fun h => k5 h.1)] at ep
    rw [if_neg (show ¬ (uK k = 5 ∧ q = uX k) from fun h => k5 h.1)] at eq
    rw [eq, ep]
    clear eq ep hb hc h5
    omega
theorem uApp_9 {S : Int → Int} (hp : 0 ≤ p ∧ p ≤ 3) (hk : 0 ≤ k ∧ k < 61) {j : Int} (j0 : 9 ≤ j) : uApp p S k j = S j := by
  by_cases h6 : 41 ≤ k
  · rw [uApp_no (Or.inr h6)]
  rcases uKd ⟨hk.1, by omega⟩ with h | h | h | h | h
  · rw [uApp_go ⟨hk.1, h.1⟩]
    exact if_neg (by omega)
  · rw [uApp_ta h.1]
    exact if_neg (by omega)
  · rw [uApp_dr h.1]
    exact if_neg (by omega)
  · rw [uApp_gi h.1]
    exact if_neg (by omega)
  · rw [uApp_hi h.1]
    dsimp only
    rw [if_neg (by omega), if_neg (by omega)]
theorem uDo_20 (hn0 : 0 ≤ n ∧ n ≤ 5) (hr : uRv n r) (hp : 0 ≤ p ∧ p ≤ 3) (hk : 0 ≤ k ∧ k < 61) (hc : uCp n p k r) (x0 : 0 ≤ x) (xn : x < n) (h : uDo n p k r (4 + x) = 20) : r (4 + x) = 20 ∧ uDo n p k r (9 + x) = r (9 + x) := by
  have hb := uX_b hk
  have hrp := hr.1 p hp.1 (by omega)
  obtain ⟨hal, hx, hy, hv⟩ := hc
  obtain ⟨b0, b1, b2, b3, b4, b5, b6⟩ := hb
  by_cases k1 : uK k = 1
  · rw [uDo_1 k1] at h ⊢
    dsimp only at h ⊢
    rw [if_neg (by omega)] at h
    rw [if_neg (by omega)]
    exact ⟨h, rfl⟩
  by_cases k2 : uK k = 2
  · have := b2 (by omega)
    rw [uDo_2 k2] at h ⊢
    dsimp only at h ⊢
    rw [if_neg (show ¬ 9 + x = 4 + uX k by omega)]
    by_cases c : 4 + x = 4 + uX k
    · rw [if_pos c] at h
      omega
    · rw [if_neg c] at h
      exact ⟨h, rfl⟩
  by_cases k3 : uK k = 3
  · have := b2 (by omega)
    rw [uDo_3 k3] at h ⊢
    dsimp only at h ⊢
    rw [if_neg (show ¬ 9 + x = 4 + uX k by omega)]
    by_cases c : 4 + x = 4 + uX k
    · rw [if_pos c] at h
      omega
    · rw [if_neg c] at h
      exact ⟨h, rfl⟩
  by_cases k4 : uK k = 4
  · have := b2 (by omega)
    have := b4 (by omega)
    rw [uDo_4 k4] at h ⊢
    dsimp only at h ⊢
    rw [if_neg (show ¬ 9 + x = 4 + uX k by omega)]
    by_cases c : 4 + x = 4 + uX k
    · rw [if_pos c] at h
      omega
    · rw [if_neg c] at h
      exact ⟨h, rfl⟩
  by_cases k5 : uK k = 5
  · have hx3 := b3 k5
    rw [uDo_5 k5] at h ⊢
    obtain ⟨z, ez⟩ : ∃ z, uX k = z := ⟨_, rfl⟩
    rw [ez] at b0 hx3 h ⊢
    clear b1 b2 b3 b4 b5 b6 hx hy hv ez
    unfold uZt at h ⊢
    rw [if_neg (show ¬ 9 + x = z by omega), if_neg (show ¬ (4 ≤ 9 + x ∧ 9 + x < 4 + n) by omega), if_neg (show ¬ ((14 ≤ 9 + x ∧ 9 + x < 41) ∧ (9 + x - 14) % 9 = 5 + z ∧ r ((9 + x - 14) / 9 + 1) = r p ∧ ¬ (9 + x - 14) / 9 + 1 = z) by omega)]
    rw [if_neg (show ¬ 4 + x = z by omega), if_pos (show 4 ≤ 4 + x ∧ 4 + x < 4 + n by omega)] at h
    by_cases c : r (4 + x) = 10 + z
    · rw [if_pos c] at h
      omega
    · rw [if_neg c] at h
      exact ⟨h, rfl⟩
  · have k6 : uK k = 6 := by omega
    have := hy k6
    have := b2 (by omega)
    rw [uDo_6 k6] at h ⊢
    dsimp only at h ⊢
    rw [if_neg (show ¬ 4 + x = 14 + 9 * (uY k - 1) + uX k by omega)] at h
    rw [if_neg (show ¬ 9 + x = 14 + 9 * (uY k - 1) + uX k by omega)]
    exact ⟨h, rfl⟩
/-- the truth behind a deed -/
theorem uRt_d (hn0 : 0 ≤ n ∧ n ≤ 5) (hr : uRv n r) (hp : 0 ≤ p ∧ p ≤ 3) (hk : 0 ≤ k ∧ k < 61) (hc : uCp n p k r) (hT : uRt n w r b) (e4 : ∀ j, 0 ≤ j → j < 16 → uSl (b' w 4) j = uApp p (uSl (b w 4)) k j) (e5 : b' w 5 = b w 5) : uRt n w (uDo n p k r) b' := by
  have hb := uX_b hk
  have hx0 := hb.1
  have eS : ∀ j, 0 ≤ j → j < 9 → uApp p (uSl (b w 4)) k j = uApp p (uWs n r) k j := uQ_app hT.1 hp
  refine ⟨fun j j0 j1 => ?_, fun j j0 j1 => ?_, fun x x0 xn hx => ?_⟩
  · rw [e4 j j0 (by omega), eS j j0 j1]
    exact uWs_app hn0.2 hr hp hk hc j0 j1
  · rw [e4 j (by omega) j1, uApp_9 hp hk j0]
    exact hT.2.1 j j0 j1
  · rw [e5]
    obtain ⟨h1, h2⟩ := uDo_20 hn0 hr hp hk hc x0 xn hx
    rw [h2]
    exact hT.2.2 x x0 xn h1
end
end
end
section
/-! the class performs a deed -/
section
set_option maxRecDepth 100000


section
variable {ro : Nat → Nat × (Nat → Int32)} {d w : Nat} {Q : Option Value → pmS → Prop} {n g p k x : Int} {r r' : Int → Int} {a a' : xA} {b b' : xB}
theorem uDo_14 (hk : 0 ≤ k ∧ k < 61) (hp : 0 ≤ p ∧ p ≤ 3) (k5 : ¬ uK k = 5) (k6 : ¬ uK k = 6) {j : Int} (hj : 14 ≤ j) : uDo n p k r j = r j := by
  obtain ⟨b0, b1, b2, b3, b4, b5, b6⟩ := uX_b hk
  by_cases k1 : uK k = 1
  · rw [uDo_1 k1]
    exact if_neg (by omega)
  by_cases k2 : uK k = 2
  · have := b2 (by omega)
    rw [uDo_2 k2]
    exact if_neg (by omega)
  by_cases k3 : uK k = 3
  · have := b2 (by omega)
    rw [uDo_3 k3]
    exact if_neg (by omega)
  · have k4 : uK k = 4 := by omega
    have := b2 (by omega)
    rw [uDo_4 k4]
    exact if_neg (by omega)
/-- minds behind a hit -/
theorem uRf_hit (hn0 : 0 ≤ n ∧ n ≤ 5) (hk : 0 ≤ k ∧ k < 61) (k5 : uK k = 5) (hg : 1 ≤ g ∧ g ≤ 3) (hM : uRf n w r b g) (e : b' (w + 1) g = if r g = r p ∧ ¬ g = uX k then xWith (b (w + 1) g) (uX k) 8 else b (w + 1) g) : uRf n w (uDo n p k r) b' g := by
  have hb := uX_b hk
  have hx0 := hb.1
  have hx3 := hb.2.2.2.1 k5
  clear hb
  obtain ⟨m1, m2, m3⟩ := hM
  rw [uDo_5 k5]
  obtain ⟨z, ez⟩ : ∃ z, uX k = z := ⟨_, rfl⟩
  rw [ez] at hx0 hx3 e ⊢
  clear ez
  have row : ∀ y, 0 ≤ y → y < 9 → uZt n p z r (14 + 9 * (g - 1) + y) = if y = 5 + z ∧ r g = r p ∧ ¬ g = z then 7 else r (14 + 9 * (g - 1) + y) := by
    intro y y0 y1
    have e1 : (14 + 9 * (g - 1) + y - 14) / 9 + 1 = g := by omega
    have e2 : (14 + 9 * (g - 1) + y - 14) % 9 = y := by omega
    unfold uZt
    rw [e1, e2, if_neg (show ¬ 14 + 9 * (g - 1) + y = z by omega), if_neg (show ¬ (4 ≤ 14 + 9 * (g - 1) + y ∧ 14 + 9 * (g - 1) + y < 4 + n) by omega)]
    refine uIfP ⟨fun h => h.2, fun h => ⟨by omega, h⟩⟩ (fun _ => rfl) (fun _ => rfl)
  by_cases c : r g = r p ∧ ¬ g = z
  · rw [if_pos c] at e
    have wi : ∀ j, 0 ≤ j → j < 16 → uSl (b' (w + 1) g) j = if j = z then 8 else uSl (b (w + 1) g) j := fun j j0 j1 => by
      rw [e]
      exact uWi hx0 (by omega) (by decide) (by decide) j0 j1
    refine ⟨fun j j0 j1 => ?_, fun q q0 q1 hq => ?_, fun x x0 x1 => ?_⟩
    · rw [wi j (by omega) j1, if_neg (by omega)]
      exact m1 j j0 j1
    · rw [wi q q0 (by omega), show 14 + 9 * (g - 1) + 5 + q = 14 + 9 * (g - 1) + (5 + q) by omega, row (5 + q) (by omega) (by omega)]
      by_cases cz : q = z
      · rw [if_pos cz, if_pos ⟨by omega, c⟩]
        decide
      · rw [if_neg cz, if_neg (fun h => cz (by omega)), m2 q q0 q1 hq, show 14 + 9 * (g - 1) + 5 + q = 14 + 9 * (g - 1) + (5 + q) by omega]
    · rw [wi (4 + x) (by omega) (by omega), row x x0 (by omega), if_neg (by omega), if_neg (fun h => by omega)]
      exact m3 x x0 x1
  · rw [if_neg c] at e
    refine uRf_c ⟨m1, m2, m3⟩ (fun j j0 j1 => ?_) e
    rw [row j j0 j1, if_neg (fun h => c h.2)]
/-- minds behind a tell -/
theorem uRf_tell (hn0 : 0 ≤ n ∧ n ≤ 5) (hr : uRv n r) (hk : 0 ≤ k ∧ k < 61) (k6 : uK k = 6) (hc : uCp n p k r) (hg : 1 ≤ g ∧ g ≤ 3) (hM : uRf n w r b g) {s : Int} (hs : s = uWs n r (4 + uX k)) (e : b' (w + 1) g = if g = uY k then xWith (b (w + 1) g) (4 + uX k) (if s = 13 then 0 else s) else b (w + 1) g) : uRf n w (uDo n p k r) b' g := by
  have hb := uX_b hk
  have hx0 := hb.1
  have hy := hb.2.2.2.2.1 (by omega)
  have hxn := hc.2.1 (by omega)
  have hy1 := hc.2.2.1 k6
  have hwx := uWs_x hr hx0 (by omega)
  clear hb hc
  obtain ⟨m1, m2, m3⟩ := hM
  rw [uDo_6 k6]
  obtain ⟨z, ez⟩ : ∃ z, uX k = z := ⟨_, rfl⟩
  obtain ⟨y, ey⟩ : ∃ y, uY k = y := ⟨_, rfl⟩
  rw [ez] at hx0 hxn hwx hs e ⊢
  rw [ey] at hy hy1 e ⊢
  clear ez ey
  rw [← hs] at hwx
  by_cases c : g = y
  · subst c
    rw [if_pos rfl] at e
    obtain ⟨v, ev⟩ : ∃ v, (if s = 13 then 0 else s) = v := ⟨_, rfl⟩
    rw [ev] at e
    have hv : v = uTc (if r (4 + z) = 20 then -1 else r (4 + z)) := by
      rw [← ev]
      unfold uTc
      rcases hwx with ⟨_, h | h | h⟩ | h
      · rw [if_neg (show ¬ s = 13 by omega), if_neg (show ¬ r (4 + z) = 20 by omega), if_pos (show r (4 + z) < 7 by omega)]
        omega
      · rw [if_neg (show ¬ s = 13 by omega), if_neg (show ¬ r (4 + z) = 20 by omega), if_neg (show ¬ r (4 + z) < 7 by omega)]
        omega
      · rw [if_pos (show s = 13 by omega), if_pos (show r (4 + z) = 20 by omega)]
        decide
      · omega
    have hvb : 0 ≤ v ∧ v < 16 := by
      rw [← ev]
      split <;> omega
    have wi : ∀ j, 0 ≤ j → j < 16 → uSl (b' (w + 1) g) j = if j = 4 + z then v else uSl (b (w + 1) g) j := fun j j0 j1 => by
      rw [e]
      exact uWi (by omega) (by omega) hvb.1 hvb.2 j0 j1
    refine ⟨fun j j0 j1 => ?_, fun q q0 q1 hq => ?_, fun x x0 x1 => ?_⟩
    · rw [wi j (by omega) j1, if_neg (by omega)]
      exact m1 j j0 j1
    · dsimp only
      rw [wi q q0 (by omega), if_neg (by omega), m2 q q0 q1 hq, if_neg (show ¬ 14 + 9 * (g - 1) + 5 + q = 14 + 9 * (g - 1) + z by omega)]
    · dsimp only
      rw [wi (4 + x) (by omega) (by omega)]
      by_cases cz : x = z
      · rw [if_pos (show 4 + x = 4 + z by omega), if_pos (show 14 + 9 * (g - 1) + x = 14 + 9 * (g - 1) + z by omega)]
        exact hv
      · rw [if_neg (show ¬ 4 + x = 4 + z by omega), if_neg (show ¬ 14 + 9 * (g - 1) + x = 14 + 9 * (g - 1) + z by omega)]
        exact m3 x x0 x1
  · rw [if_neg c] at e
    exact uRf_c ⟨m1, m2, m3⟩ (fun j j0 j1 => if_neg (by omega)) e
theorem uOr00 {m : Int} (hm : 0 ≤ m ∧ m ≤ 15) : xOr m 0 = m := by
  have key : ∀ v : Fin 16, xOr (v.val : Int) 0 = (v.val : Int) := by decide +kernel
  have := key ⟨m.toNat, by omega⟩
  have e : ((m.toNat : Nat) : Int) = m := by omega
  rw [e] at this
  exact this
/-- perform -/
theorem u91 (hz : uWz w) (hw : 21 ≤ w ∧ w ≤ 80) (hn0 : 0 ≤ n ∧ n ≤ 5) (hr : uRv n r) (hT : uRt n w r b) (hM : uRm n w r b) (hA : xAr a) (hL : uLx a) (hmk : uMk w a) (htn : 0 ≤ a w 6 ∧ a w 6 ≤ 1000) (hev : 0 ≤ a w 11 ∧ a w 11 ≤ 2000) (hp : 0 ≤ p ∧ p ≤ 3) (hk : 0 ≤ k ∧ k < 61) (hc : uCp n p k r) (hd : 4 ≤ d)
    (hQ : ∀ a' b', (∀ q j, ¬ q = w + 2 → ¬ q = w + 3 → ¬ (q = w ∧ (j = 7 ∨ j = 11)) → a' q j = a q j) → xAr a' → uMk w a' → a' w 11 = a w 11 + 1 → (∀ q j, ¬ (q = w ∧ (j = 4 ∨ j = 5)) → ¬ (q = w + 1 ∧ 1 ≤ j ∧ j ≤ 3) → b' q j = b q j) → uRv n (uDe n p k r) → uRt n w (uDe n p k r) b' → uRm n w (uDe n p k r) b' → uOx w (uDe n p k r) b' 4 → Q (some (xV (uD k + 512 * uSg p k r 4))) (xS a' b')) : pmCs ro d 91 [.ref 43, .ref w, xV p, xV (uD k)] (xS a b) Q := by
  obtain ⟨d0, d1, d2, d3, d4⟩ := uD_p (k := k) ⟨by omega, hk.2⟩
  obtain ⟨dx, dy⟩ := d3 hk.1
  have hb := uX_b hk
  have hdd : 0 ≤ uD k ∧ uD k ≤ 447 := ⟨d0, d1⟩
  have hdx : 1 ≤ uD k / 8 % 8 := by omega
  have hkk : 0 ≤ uK k ∧ uK k ≤ 7 := by omega
  have hrp := hr.1 p hp.1 (by omega)
  refine pmCs_deep (d := 4) (xg91 (w91 hz hp hdd hdx (by decide) (fun _ => ?_) (fun e => by omega))) hd
  refine u81 hp ⟨by omega, hk.2⟩ (by decide) (fun l hl => ?_)
  refine w91a hz hp hdd hdx (by decide) ?_
  have T1 : uRt n w (uDo n p k r) (xU b w 4 l) := uRt_d hn0 hr hp hk hc hT (fun j j0 j1 => by rw [xUa]; exact hl j j0 j1) (xUk (by decide))
  have eD : ∀ q, 0 ≤ q → q < 4 → uSl l q = uDo n p k r q + 1 := fun q q0 q1 => by
    have := T1.1 q q0 (by omega)
    rw [xUa] at this
    exact this.trans (uWs_p q1)
  have hle : uSl (b w 4) p = r p + 1 := (hT.1 p hp.1 (by omega)).trans (uWs_p (by omega))
  have hDv := uRv_d hn0.2 hr hp hk (uCp_d hc)
  have hDp := hDv.1 p hp.1 (by omega)
  rw [hle, eD p hp.1 (by omega), d2]
  have h16 : ((2 ^ 4 : Nat) : Int) = 16 := rfl
  have hs4 := uSg_b (p := p) (k := k) (r := r) 4
  -- behind the minds
  have fin : ∀ (b2 : xB) (v9 : Option Value), (∀ q j, ¬ (q = w ∧ (j = 4 ∨ j = 5)) → ¬ (q = w + 1 ∧ 1 ≤ j ∧ j ≤ 3) → b2 q j = b q j) → uRt n w (uDo n p k r) b2 → uRm n w (uDo n p k r) b2 → pmWp ro 3 4 91 1 175 [some (.ref 43), some (.ref w), some (xV p), some (xV (uD k)), some (xV (uK k)), some (xV (r p + 1)), some (xV (uDo n p k r p + 1)), some (xV (uSg p k r 4)), some (xV 4), v9] [] (xS a b2) Q := by
    intro b2 v9 g1 g2 g3
    have low : ∀ j, j < 41 → uEv (uDo n p k r) j = uDo n p k r j := fun j hj => if_neg (by omega)
    have T2 : uRt n w (uEv (uDo n p k r)) b2 := uRt_c g2 hn0.2 (fun j hj => low j (by omega)) rfl rfl
    have M2 : uRm n w (uEv (uDo n p k r)) b2 := fun f f0 f1 => uRf_c (g3 f f0 f1) (fun j j0 j1 => low _ (by omega)) rfl
    have V2 := uRv_e hn0.2 hDv
    have A1 : xAr (xU a w 11 (a w 11 + 1)) := xAr_u hA ⟨by omega, by omega⟩
    have mk1 : uMk w (xU a w 11 (a w 11 + 1)) := fun c c0 c1 => by rw [xUn (by omega)]; exact hmk c c0 c1
    have L1 : uLx (xU a w 11 (a w 11 + 1)) := uLx_o hL (fun q j e1 e2 => xUn (by omega))
    have t1 : 0 ≤ (xU a w 11 (a w 11 + 1)) w 6 ∧ (xU a w 11 (a w 11 + 1)) w 6 ≤ 1000 := by rw [xUk (by decide)]; exact htn
    have look : ∀ a3 v9, uHg w (xU a w 11 (a w 11 + 1)) a3 → pmWp ro 3 4 91 1 208 [some (.ref 43), some (.ref w), some (xV p), some (xV (uD k)), some (xV (uK k)), some (xV (r p + 1)), some (xV (uDo n p k r p + 1)), some (xV (uSg p k r 4)), some (xV 4), v9] [] (xS a3 b2) Q := by
      intro a3 v9 h3
      refine w91l hz hp hdd hdx hkk (by omega) (by omega) (by omega) (by decide) (by decide) ?_
      refine u59 hz hn0 V2 T2 M2 (by decide) (fun b3 x3 T3 M3 O3 => ?_)
      refine w91r hz hp hdd hdx hkk (by omega) (by omega) (by omega) (by decide) (by decide) ?_
      have eo := uOrd (z := uD k) (q := uSg p k r 4) 9 d0 (by show uD k < 512; omega) hs4.1 (by show uSg p k r 4 * 512 + uD k < 2147483648; omega)
      have e512 : ((2 ^ 9 : Nat) : Int) = 512 := rfl
      rw [e512] at eo
      rw [eo, Int.mul_comm]
      refine hQ a3 b3 (fun q j e1 e2 e3 => ?_) h3.2.1 h3.2.2 ?_ (fun q j e1 e2 => (x3 q j e1 e2).trans (g1 q j e1 e2)) (uRv_l hn0.2 V2) T3 M3 O3
      · rw [h3.1 q j e1 e2 (fun h => e3 ⟨h.1, Or.inl h.2⟩), xUo (fun h => e3 ⟨h.1, Or.inr h.2⟩)]
      · rw [h3.1 w 11 (by omega) (by omega) (by omega), xUa]
    refine w91e hz hp hdd hdx hkk (by omega) (by omega) (by omega) (by decide) hev (by decide) (fun _ => ?_) (fun _ => ?_)
    · exact u94 hz hw A1 L1 mk1 t1 uEo_b (by decide) (fun a3 h3 => look a3 _ h3)
    · exact u94 hz hw A1 L1 mk1 t1 uEo_b (by decide) (fun a3 h3 => look a3 _ h3)
  -- behind the loop
  have done : ∀ (b1 : xB) (v9 : Option Value), (∀ i j, ¬ (i = w ∧ j = 4) → ¬ (i = w + 1 ∧ 1 ≤ j ∧ j ≤ 3) → b1 i j = b i j) → b1 w 4 = l → (∀ g, 1 ≤ g → g ≤ 3 → b1 (w + 1) g = if g < 4 ∧ uK k = 5 ∧ uDo n p k r g = r p then xWith (b (w + 1) g) (uX k) 8 else b (w + 1) g) → pmWp ro 3 4 91 1 154 [some (.ref 43), some (.ref w), some (xV p), some (xV (uD k)), some (xV (uK k)), some (xV (r p + 1)), some (xV (uDo n p k r p + 1)), some (xV (uSg p k r 4)), some (xV 4), v9] [] (xS a b1) Q := by
    intro b1 v9 g1 g2 g3
    have T2 : ∀ b2 : xB, (b2 w 4 = b1 w 4) → (b2 w 5 = b1 w 5) → uRt n w (uDo n p k r) b2 := fun b2 h4 h5 => uRt_c T1 hn0.2 (fun _ _ => rfl) (by rw [h4, g2, xUa]) (by rw [h5, g1 w 5 (by omega) (by omega), xUk (by decide)])
    refine w91t hz hp hdd hdx hkk (by omega) (by omega) (by omega) (by decide) (by decide) (fun k6 => ?_) (fun k6 => ?_)
    · refine fin b1 _ (fun q j e1 e2 => g1 q j (fun h => e1 ⟨h.1, Or.inl h.2⟩) e2) (T2 b1 rfl rfl) (fun g f0 f1 => ?_)
      by_cases k5 : uK k = 5
      · refine uRf_hit hn0 hk k5 ⟨f0, f1⟩ (hM g f0 f1) ?_
        rw [g3 g f0 f1]
        refine uIfP ⟨fun h => ?_, fun h => ?_⟩ (fun _ => rfl) (fun _ => rfl)
        · have h2 := h.2.2
          rw [uDo_p hp hk hc (by omega) (by omega), if_neg (fun h => by omega)] at h2
          by_cases cz : uK k = 5 ∧ g = uX k
          · rw [if_pos cz] at h2
            exact absurd h2.symm hc.1
          · rw [if_neg cz] at h2
            exact ⟨h2, fun h => cz ⟨k5, h⟩⟩
        · refine ⟨by omega, k5, ?_⟩
          rw [uDo_p hp hk hc (by omega) (by omega), if_neg (fun h => by omega), if_neg (fun e => h.2 e.2)]
          exact h.1
      · refine uRf_c (hM g f0 f1) (fun j j0 j1 => uDo_14 hk hp k5 k6 (by omega)) ?_
        rw [g3 g f0 f1, if_neg (fun h => k5 h.2.1)]
    · have hxy := hb.2.2.1 (by omega)
      have hyy := hb.2.2.2.2.1 (by omega)
      have hy1 := hc.2.2.1 k6
      have hs : uSl (b1 w 4) (4 + uX k) = uWs n r (4 + uX k) := by
        rw [g2]
        have := T1.1 (4 + uX k) (by omega) (by omega)
        rw [xUa] at this
        rw [this, uDo_6 k6]
        exact uWs_c (if_neg (by omega))
      have g3' : ∀ g, 1 ≤ g → g ≤ 3 → b1 (w + 1) g = b (w + 1) g := fun g f0 f1 => by rw [g3 g f0 f1, if_neg (fun h => by omega)]
      have tl : ∀ v, v = (if uSl (b1 w 4) (4 + uX k) = 13 then 0 else uSl (b1 w 4) (4 + uX k)) → pmWp ro 3 4 91 1 175 [some (.ref 43), some (.ref w), some (xV p), some (xV (uD k)), some (xV (uK k)), some (xV (r p + 1)), some (xV (uDo n p k r p + 1)), some (xV (uSg p k r 4)), some (xV 4), v9] [] (xS a (xU b1 (w + 1) (uY k) (xWith (b1 (w + 1) (uY k)) (4 + uX k) v))) Q := by
        intro v hv
        refine fin _ _ (fun q j e1 e2 => ?_) (T2 _ (xUn (by omega)) (xUn (by omega))) (fun g f0 f1 => ?_)
        · rw [xUo (fun h => e2 ⟨h.1, by omega⟩)]
          exact g1 q j (fun h => e1 ⟨h.1, Or.inl h.2⟩) e2
        · refine uRf_tell hn0 hr hk k6 hc ⟨f0, f1⟩ (hM g f0 f1) hs ?_
          by_cases c : g = uY k
          · rw [if_pos c, c, xUa, hv, g3' (uY k) hy1 (by omega)]
          · rw [if_neg c, xUk c]
            exact g3' g f0 f1
      rw [dx, dy]
      refine pmCs_deep (d := 2) (xg92 (w92 hz (by decide) ⟨hb.1, by omega⟩ ⟨hyy.1, by omega⟩ (fun _ h => tl _ ?_) (fun _ h => tl _ ?_) (fun h => absurd (by omega) h))) (by decide)
      · rw [if_neg h]
      · rw [if_pos h]
  -- who sees it
  have loop : ∀ (m q : Nat) (b1 : xB) (v9 : Option Value), q + m = 4 → (∀ i j, ¬ (i = w ∧ j = 4) → ¬ (i = w + 1 ∧ 1 ≤ j ∧ j ≤ 3) → b1 i j = b i j) → b1 w 4 = l → (∀ g, 1 ≤ g → g ≤ 3 → b1 (w + 1) g = if g < (q : Int) ∧ uK k = 5 ∧ uDo n p k r g = r p then xWith (b (w + 1) g) (uX k) 8 else b (w + 1) g) → pmWp ro 3 4 91 1 56 [some (.ref 43), some (.ref w), some (xV p), some (xV (uD k)), some (xV (uK k)), some (xV (r p + 1)), some (xV (uDo n p k r p + 1)), some (xV (uSg p k r q)), some (xV (q : Int)), v9] [] (xS a b1) Q := by
    intro m
    induction m with
    | zero =>
      intro q b1 v9 hq g1 g2 g3
      have e4 : q = 4 := by omega
      subst e4
      refine w91q hz hp hdd hdx hkk (by omega) (by omega) (by omega) (by decide) (by decide) (fun _ => done b1 v9 g1 g2 g3) ?_ ?_ ?_ ?_ ?_ ?_ ?_ ?_ ?_ ?_ ?_ ?_ ?_ <;> (intro e; exact absurd (by decide) e)
    | succ m ih =>
      intro q b1 v9 hq g1 g2 g3
      have hsb := uSg_b (p := p) (k := k) (r := r) q
      have h8 : ((2 ^ q : Nat) : Int) ≤ 8 := by
        have : 2 ^ q ≤ 2 ^ 3 := Nat.pow_le_pow_right (by decide) (by omega)
        omega
      have hq0 : (0 : Int) ≤ (q : Int) := by omega
      have hq4 : (q : Int) < 4 := by omega
      have hsn : 0 ≤ uSg p k r q ∧ uSg p k r q ≤ 15 := by omega
      have eat : uSl (b1 w 4) (q : Int) = uDo n p k r q + 1 := by rw [g2]; exact eD q hq0 hq4
      have hse := uSb_e hr hp hk hc hq0 hq4
      have nx : ∀ (b2 : xB) (v9 : Option Value), (∀ i j, ¬ (i = w ∧ j = 4) → ¬ (i = w + 1 ∧ 1 ≤ j ∧ j ≤ 3) → b2 i j = b i j) → b2 w 4 = l → (∀ g, 1 ≤ g → g ≤ 3 → b2 (w + 1) g = if g < ((q + 1 : Nat) : Int) ∧ uK k = 5 ∧ uDo n p k r g = r p then xWith (b (w + 1) g) (uX k) 8 else b (w + 1) g) → ∀ z, z = uSg p k r (q + 1) → pmWp ro 3 4 91 1 148 [some (.ref 43), some (.ref w), some (xV p), some (xV (uD k)), some (xV (uK k)), some (xV (r p + 1)), some (xV (uDo n p k r p + 1)), some (xV z), some (xV (q : Int)), v9] [] (xS a b2) Q := by
        intro b2 v9 f1 f2 f3 z hzz
        have hs1 := uSg_b (p := p) (k := k) (r := r) (q + 1)
        have h16 : ((2 ^ (q + 1) : Nat) : Int) ≤ 16 := by
          have : 2 ^ (q + 1) ≤ 2 ^ 4 := Nat.pow_le_pow_right (by decide) (by omega)
          omega
        rw [hzz]
        exact w91n hz hp hdd hdx hkk (by omega) (by omega) (by omega) ⟨hq0, by omega⟩ (by decide) (ih (q + 1) b2 v9 (by omega) f1 f2 f3)
      have sy : uSb p k r q → xOr (uSg p k r q) (1 * ((2 ^ (q : Int).toNat : Nat) : Int)) = uSg p k r (q + 1) := fun h => by
        rw [show (q : Int).toNat = q from rfl, uOr2 (by omega) hsb.1 hsb.2]
        exact (congrArg (fun z => uSg p k r q + z) (if_pos h)).symm
      have sno : ¬ uSb p k r q → xOr (uSg p k r q) 0 = uSg p k r (q + 1) := fun h => by
        rw [uOr00 hsn]
        exact ((congrArg (fun z => uSg p k r q + z) (if_neg h)).trans (Int.add_zero _)).symm
      -- minds as they were
      have ms : ¬ (uK k = 5 ∧ ¬ (q : Int) = 0 ∧ uDo n p k r q = r p) → ∀ g, 1 ≤ g → g ≤ 3 → b1 (w + 1) g = if g < ((q + 1 : Nat) : Int) ∧ uK k = 5 ∧ uDo n p k r g = r p then xWith (b (w + 1) g) (uX k) 8 else b (w + 1) g := fun h g f0 f1 => by
        rw [g3 g f0 f1]
        refine uIfP ⟨fun e => ⟨by omega, e.2⟩, fun e => ⟨?_, e.2⟩⟩ (fun _ => rfl) (fun _ => rfl)
        by_cases cg : g = q
        · rw [cg] at e
          exact absurd ⟨e.2.1, by omega, e.2.2⟩ h
        · omega
      have mu : uK k = 5 → ¬ (q : Int) = 0 → uDo n p k r q = r p → ∀ g, 1 ≤ g → g ≤ 3 → (xU b1 (w + 1) (q : Int) (xWith (b1 (w + 1) (q : Int)) (uD k / 8 % 8 - 1) 8)) (w + 1) g = if g < ((q + 1 : Nat) : Int) ∧ uK k = 5 ∧ uDo n p k r g = r p then xWith (b (w + 1) g) (uX k) 8 else b (w + 1) g := fun k5 hq1 hD g f0 f1 => by
        by_cases cg : g = q
        · rw [cg, xUa, if_pos ⟨by omega, k5, hD⟩, g3 q (by omega) (by omega), if_neg (fun h => by omega), dx]
        · rw [xUk cg, g3 g f0 f1]
          exact uIfP ⟨fun e => ⟨by omega, e.2⟩, fun e => ⟨by omega, e.2⟩⟩ (fun _ => rfl) (fun _ => rfl)
      have f1u : ¬ (q : Int) = 0 → ∀ i j, ¬ (i = w ∧ j = 4) → ¬ (i = w + 1 ∧ 1 ≤ j ∧ j ≤ 3) → (xU b1 (w + 1) (q : Int) (xWith (b1 (w + 1) (q : Int)) (uD k / 8 % 8 - 1) 8)) i j = b i j := fun hq1 i j e1 e2 => by
        rw [xUo (fun h => e2 ⟨h.1, by omega⟩)]
        exact g1 i j e1 e2
      have f2u : (xU b1 (w + 1) (q : Int) (xWith (b1 (w + 1) (q : Int)) (uD k / 8 % 8 - 1) 8)) w 4 = l := by rw [xUn (by omega)]; exact g2
      have nle : ¬ uSl (b1 w 4) (q : Int) = r p + 1 → ¬ uDo n p k r q = r p := fun h e => h (by omega)
      have yle : uSl (b1 w 4) (q : Int) = r p + 1 → uDo n p k r q = r p := fun h => by omega
      have nco : ¬ uSl (b1 w 4) (q : Int) = uDo n p k r p + 1 → ¬ uDo n p k r q = uDo n p k r p := fun h e => h (by omega)
      have yco : uSl (b1 w 4) (q : Int) = uDo n p k r p + 1 → uDo n p k r q = uDo n p k r p := fun h => by omega
      refine w91q hz hp hdd hdx hkk (by omega) (by omega) hsn ⟨hq0, by omega⟩ (by decide) (fun e => by omega)
        (fun _ h1 h2 => nx b1 _ g1 g2 (ms (fun h => h2 h.1)) _ (sno (fun h => h.1 h1)))
        (fun _ h1 h2 h3 => nx b1 _ g1 g2 (ms (fun h => h.2.1 h3)) _ (sno (fun h => h.1 h1)))
        (fun _ h1 h2 h3 h4 => nx b1 _ g1 g2 (ms (fun h => nle h4 h.2.2)) _ (sno (fun h => h.1 h1)))
        (fun _ h1 h2 h3 h4 => nx _ _ (f1u h3) f2u (mu h2 h3 (yle h4)) _ (sno (fun h => h.1 h1)))
        (fun _ h1 h2 h3 => nx b1 _ g1 g2 (ms (fun h => h3 h.1)) _ (sy (hse.mpr ⟨h1, Or.inl (yle h2)⟩)))
        (fun _ h1 h2 h3 h4 => nx b1 _ g1 g2 (ms (fun h => h.2.1 h4)) _ (sy (hse.mpr ⟨h1, Or.inl (yle h2)⟩)))
        (fun _ h1 h2 h3 h4 => nx _ _ (f1u h4) f2u (mu h3 h4 (yle h2)) _ (sy (hse.mpr ⟨h1, Or.inl (yle h2)⟩)))
        (fun _ h1 h2 h3 h4 => nx b1 _ g1 g2 (ms (fun h => h4 h.1)) _ (sno (fun h => (hse.mp h).2.elim (nle h2) (nco h3))))
        (fun _ h1 h2 h3 h4 h5 => nx b1 _ g1 g2 (ms (fun h => h.2.1 h5)) _ (sno (fun h => (hse.mp h).2.elim (nle h2) (nco h3))))
        (fun _ h1 h2 h3 h4 h5 => nx b1 _ g1 g2 (ms (fun h => nle h2 h.2.2)) _ (sno (fun h => (hse.mp h).2.elim (nle h2) (nco h3))))
        (fun _ h1 h2 h3 h4 => nx b1 _ g1 g2 (ms (fun h => h4 h.1)) _ (sy (hse.mpr ⟨h1, Or.inr (yco h3)⟩)))
        (fun _ h1 h2 h3 h4 h5 => nx b1 _ g1 g2 (ms (fun h => h.2.1 h5)) _ (sy (hse.mpr ⟨h1, Or.inr (yco h3)⟩)))
        (fun _ h1 h2 h3 h4 h5 => nx b1 _ g1 g2 (ms (fun h => nle h2 h.2.2)) _ (sy (hse.mpr ⟨h1, Or.inr (yco h3)⟩)))
  refine loop 4 0 (xU b w 4 l) _ (by decide) (fun i j e1 _ => xUo e1) xUa (fun g f0 f1 => ?_)
  rw [xUn (by omega), if_neg (fun h => by omega)]
end
end
end
