/-! turn of the class, by rows -/
section
set_option maxRecDepth 100000


section
variable {Ln : Nat} {xs : Nat → Int32} {ro : Nat → Nat × (Nat → Int32)} {d w : Nat} {Q : Option Value → pmS → Prop} {dr wp co pr cnt W : Int → Int} {T : Int → List Int} {n f kk k x y cd wt p : Int} {S S' r r' : Int → Int} {a a' a0 : xA} {b b' : xB}
theorem uWo21 : uWo 21 := ⟨⟨xz21, xz22, xz23, xz24, xz25⟩, by decide, by decide⟩
theorem uRv_lo (hn5 : n ≤ 5) (h : uRv n r) (e : ∀ j, j < 41 → r' j = r j) : uRv n r' := by
  obtain ⟨h1, h2, h3, h4, h5, h6⟩ := h
  exact ⟨fun q q0 q1 => by rw [e q (by omega)]; exact h1 q q0 q1, fun y y0 y1 => by rw [e _ (by omega)]; exact h2 y y0 y1, fun y y0 y1 => by rw [e _ (by omega)]; exact h3 y y0 y1, fun f y f0 f1 y0 y1 => by rw [e _ (by omega)]; exact h4 f y f0 f1 y0 y1, fun f q f0 f1 q0 q1 => by rw [e _ (by omega)]; exact h5 f q f0 f1 q0 q1, fun f y f0 f1 yn y0 y1 => by rw [e _ (by omega)]; exact h6 f y f0 f1 yn y0 y1⟩
theorem uCw_q (hn5 : n ≤ 5) (h : uCw n w r a b) (e : ∀ j, j < 41 ∨ j = 119 → r' j = r j) : uCw n w r' a b := by
  obtain ⟨h1, h2, h3, h4, h5, h6, h7⟩ := h
  refine ⟨uRv_lo hn5 h1 (fun j hj => e j (Or.inl hj)), uRt_c h2 hn5 (fun j hj => e j (by omega)) rfl rfl, fun f f0 f1 => uRf_c (h3 f f0 f1) (fun j j0 j1 => e _ (by omega)) rfl, fun f f0 f1 hf => ?_, fun f x f0 f1 hf x0 xn hx => ?_, h6, by rw [e 119 (by omega)]; exact h7⟩
  · rw [e f (by omega)] at hf ⊢
    exact h4 f f0 f1 hf
  · rw [e f (by omega)] at hf
    rw [e _ (by omega)] at hx
    rw [e _ (by omega)]
    exact h5 f x f0 f1 hf x0 xn hx
theorem uCx_q (hn5 : n ≤ 5) (h : uCx n w r a b) (e : uRq r r') : uCx n w r' a b := by
  obtain ⟨h1, h2, h3, h4, h5, h6⟩ := h
  exact ⟨uCw_q hn5 h1 (fun j hj => e j (by omega)), h2.trans (e 114 (by omega)).symm, h3.trans (e 115 (by omega)).symm, h4.trans (e 116 (by omega)).symm, h5.trans (e 117 (by omega)).symm, h6.trans (e 118 (by omega)).symm⟩
/-- noteTurn -/
def uNt (a a' : xA) (t : Int) : Prop := a' 79 6 = t ∧ (∀ i, 0 ≤ i → i < 4 → a' 85 (4 * t + i) = a 44 i) ∧ (∀ j, ¬ (4 * t ≤ j ∧ j < 4 * t + 4) → a' 85 j = a 85 j) ∧ ∀ q j, ¬ q = 85 → ¬ (q = 79 ∧ j = 6) → a' q j = a q j
theorem u99 {t : Int} (ht : 1 ≤ t ∧ t ≤ 60) (hA : xAr a) (hd : 1 ≤ d) (hQ : ∀ a', uNt a a' t → xAr a' → Q none (xS a' b)) : pmCs ro d 99 [.ref 79, xV t] (xS a b) Q := by
  refine pmCs_deep (d := 1) (xg99 (w99 ht (fun e => by omega) (fun _ e => by omega) (fun _ _ => hQ _ ⟨?_, fun i i0 i1 => ?_, fun j hj => ?_, fun q j e1 e2 => ?_⟩ (xAr_cp (xAr_u hA ⟨by omega, by omega⟩))))) hd
  · rw [xCpN (by decide), xUa]
  · show (if (85 : Nat) = 85 ∧ t * 4 ≤ 4 * t + i ∧ 4 * t + i < t * 4 + 4 then _ else _) = _
    rw [if_pos ⟨rfl, by omega, by omega⟩, xUn (by decide)]
    rw [show 0 + (4 * t + i - t * 4) = i by omega]
  · show (if (85 : Nat) = 85 ∧ t * 4 ≤ j ∧ j < t * 4 + 4 then _ else _) = _
    rw [if_neg (fun h => hj ⟨by omega, by omega⟩), xUn (by decide)]
  · rw [xCpN e1, xUo e2]
/-- turn of the class -/
theorem u87 (q1 : xR kk) (q2 : xR x) (q3 : xR y) (hK : uRk pr cnt W T) (hn0 : 0 ≤ n ∧ n ≤ 5) (hC : uCb dr wp co pr cnt W T n a0 a b) (hX : uCx n 21 r a b) (hB : uBd r) (hbg : a 0 12 = 1) (hd : 13 ≤ d)
    (hA : 60 ≤ r 114 → Q (some (xV (-1))) (xS a b)) (hF : r 114 < 60 → ¬ uGd dr wp n r kk x y → Q (some (xV (-2))) (xS a b))
    (hQ : r 114 < 60 → uGd dr wp n r kk x y → ∀ a1 a2 b', uTf 21 a a1 b b' → uNt a1 a2 (r 114 + 1) → uCb dr wp co pr cnt W T n a0 a2 b' → uCx n 21 (uTu dr wp pr cnt W T n (uQc kk x y) (-1) r) a2 b' → (∀ j, 0 ≤ j → j < 3 → a2 25 j = 0) → (∀ p : Nat, p < 4 → a1 44 p = uEt dr wp pr cnt W T n (uQc kk x y) (-1) p (uTr dr wp pr cnt W T n (uQc kk x y) (-1) r p)) → Q (some (xV (r 114 + 1))) (xS a2 b')) : pmCs (pmRo Ln xs) d 87 [.ref 0, xV kk, xV x, xV y] (xS a b) Q := by
  have hX0 := hX
  obtain ⟨hW, e6, e12, e8, e9, e10⟩ := hX
  obtain ⟨b1, b2, b3, b4, b5, b6⟩ := hB
  have hqs : uQ (uSl (b 21 4)) (uWs n r) := hW.2.1.1
  refine pmCs_deep (d := 13) (xg87 (w87 q1 q2 q3 (by omega) (by omega) (by decide) (fun e => by omega) (fun _ hlt => ?_) (fun _ h => hA (by omega)))) hd
  refine u88 q1 q2 q3 (by decide) (fun hf => ?_) (fun hf => w87a ⟨by decide, by decide⟩ (fun _ => hF (by omega) (fun h => hf h.1)) (fun e => absurd rfl e))
  have hq := (uQc_f hf).1
  have hDb := uD_p hq
  refine w87a ⟨by omega, by omega⟩ (fun e => by omega) (fun _ => ?_)
  refine u80 hC.1.1 hC.1.2.1 (by decide) hq (by decide) (fun hc => w87b ⟨by omega, by omega⟩ (by decide) (fun _ => ?_) (fun e => absurd e (by decide))) (fun hc => w87b ⟨by omega, by omega⟩ (by decide) (fun e => absurd rfl e) (fun _ => hF (by omega) (fun h => hc ((uCa_q hqs (by decide) hq).mpr h.2))))
  have hg : uGd dr wp n r kk x y := ⟨hf, (uCa_q hqs (by decide) hq).mp hc⟩
  have hcp := uGd_p hW.1 hg
  have hlt' : r 114 < 60 := by omega
  refine u89 (cd := uQc kk x y) (id := 0) (wt := -1) uWo21 hK hn0 hC hW (by omega) (by omega) hcp (by decide) (fun p p1 p3 => ⟨fun h => by omega, fun h => by omega⟩) (by decide) (fun a1 b1 f1 C1 W1 i6 i12 i4 i119 E1 => w87c ?_)
  have ht : a1 21 6 = r 114 + 1 := by omega
  rw [ht]
  refine u99 (by omega) C1.1.1 (by decide) (fun a2 hN A2 => w87d ?_)
  have ex := hN.2.2.2
  have x21 : ∀ q j, 21 ≤ q → q ≤ 25 → a2 q j = a1 q j := fun q j h1 h2 => ex q j (by omega) (by omega)
  have hv4 := (uTr_v (dr := dr) (wp := wp) (pr := pr) (cnt := cnt) (W := W) (T := T) (wt := -1) hn0 hW.1 hcp 4 (by decide)).2
  rw [x21 21 6 (by decide) (by decide), ht]
  refine hQ hlt' hg a1 a2 b1 f1 hN (uCb_o C1 (fun q j e1 e2 => ex q j (by omega) (by omega)) (fun _ _ _ => rfl) A2) ?_ (fun j j0 j1 => by rw [x21 25 j (by decide) (by decide)]; exact i4 j j0 j1) E1
  have W2 : uCw n 21 (uTr dr wp pr cnt W T n (uQc kk x y) (-1) r 4) a2 b1 := uCw_o W1 (fun j => x21 _ j (by decide) (by decide)) (x21 21 11 (by decide) (by decide)) rfl rfl (fun _ _ _ => rfl)
  have f8 : ∀ j, j = 8 ∨ j = 9 ∨ j = 10 → a2 21 j = a 21 j := fun j hj => (x21 21 j (by decide) (by decide)).trans (f1.1 21 j (by omega) (by omega) (by omega) (by omega) (by omega) (by omega))
  have tu : ∀ j, ¬ j = 114 → ¬ j = 115 → uTu dr wp pr cnt W T n (uQc kk x y) (-1) r j = uTr dr wp pr cnt W T n (uQc kk x y) (-1) r 4 j := fun j h1 h2 => by
    unfold uTu
    rw [if_neg h1, if_neg h2]
  refine ⟨uCw_q hn0.2 W2 (fun j hj => tu j (by omega) (by omega)), ?_, ?_, ?_, ?_, ?_⟩
  · rw [x21 21 6 (by decide) (by decide), ht]
    rfl
  · rw [x21 21 12 (by decide) (by decide), i12]
    rfl
  · rw [f8 8 (by decide), e8, tu 116 (by decide) (by decide), hv4 116 (by decide) (by decide)]
  · rw [f8 9 (by decide), e9, tu 117 (by decide) (by decide), hv4 117 (by decide) (by decide)]
  · rw [f8 10 (by decide), e10, tu 118 (by decide) (by decide), hv4 118 (by decide) (by decide)]
/-- an entry by what the reference tells -/
def uEe (dn cd sw ws : Int) : Int := if dn = 0 then -1 else if cd = -1 then 0 else uD cd + 512 * sw + (ws + 1) * 8192
theorem uEt_e (h : uEn dr wp pr cnt W T n cd wt a p r) : uEt dr wp pr cnt W T n cd wt p r = uEe (a 119 p) (a 116 p) (a 117 p) (a 118 p) := by
  obtain ⟨h1, h2, h3, h4⟩ := h
  unfold uEt uEe
  rw [h1, h2, h3, h4]
  by_cases c1 : r p = 7
  · rw [if_pos c1, if_pos c1, if_pos rfl]
  rw [if_neg c1, if_neg c1, if_neg c1, if_neg (show ¬ (1 : Int) = 0 by decide)]
  by_cases c2 : uDc dr wp pr cnt W T n cd wt p r = -1
  · rw [if_pos c2, if_pos c2]
  rw [if_neg c2, if_neg c2, if_neg (show ¬ (r p = 7 ∨ uDc dr wp pr cnt W T n cd wt p r = -1) from fun h => h.elim c1 c2)]
  by_cases c3 : p = 0
  · rw [if_pos c3, if_pos (Or.inr (Or.inl c3))]
    rfl
  · have c4 : ¬ p = wt := fun e => c2 (by
      unfold uDc
      rw [if_neg c3, if_pos e])
    rw [if_neg c3, if_neg (fun h => h.elim c1 (fun h => h.elim c3 c4))]
end
end
