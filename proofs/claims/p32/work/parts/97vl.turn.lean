/-! turn, by rows -/
section
set_option maxRecDepth 100000


section
variable {Ln : Nat} {xs : Nat → Int32} {ro : Nat → Nat × (Nat → Int32)} {d w : Nat} {Q : Option Value → pmS → Prop} {dr wp co pr cnt W : Int → Int} {T : Int → List Int} {n f kk k x y cd wt p : Int} {S S' r r' : Int → Int} {a a' a0 : xA} {b b' : xB}
/-- whether the stranger's deed goes -/
def uGd (dr wp : Int → Int) (n : Int) (r : Int → Int) (kk x y : Int) : Prop := uFt kk x y ∧ uCa dr wp n 0 (uWs n r) (uQc kk x y)
/-- the row behind a turn -/
noncomputable def uTu (dr wp pr cnt W : Int → Int) (T : Int → List Int) (n cd wt : Int) (r : Int → Int) : Int → Int := fun j => if j = 114 then r 114 + 1 else if j = 115 then 0 else uTr dr wp pr cnt W T n cd wt r 4 j
theorem uGd_p (hr : uRv n r) (h : uGd dr wp n r kk x y) : uQc kk x y = -1 ∨ ((0 ≤ uQc kk x y ∧ uQc kk x y < 61) ∧ (¬ r 0 = 7 → uCp n 0 (uQc kk x y) r)) := by
  have hq := (uQc_f h.1).1
  by_cases c : uQc kk x y = -1
  · exact Or.inl c
  · exact Or.inr ⟨⟨by omega, hq.2⟩, fun _ => uCa_p hr ⟨by omega, hq.2⟩ h.2⟩
/-- what the reference tells of a turn in its chronicle -/
def uCn (a a' : xA) (t : Int) : Prop := (∀ i, 0 ≤ i → i < 4 → a' 124 (4 * t + i) = a 119 i ∧ a' 120 (4 * t + i) = a 116 i ∧ a' 121 (4 * t + i) = a 117 i ∧ a' 122 (4 * t + i) = a 118 i) ∧ (∀ q j, q = 124 ∨ q = 120 ∨ q = 121 ∨ q = 122 → ¬ (4 * t ≤ j ∧ j < 4 * t + 4) → a' q j = a q j) ∧ a' 123 t = 0 ∧ (∀ j, ¬ j = t → a' 123 j = a 123 j) ∧ ∀ q j, ¬ (120 ≤ q ∧ q ≤ 124) → a' q j = a q j
/-- turn of the reference -/
theorem u204 (q1 : xR kk) (q2 : xR x) (q3 : xR y) (hK : uRk pr cnt W T) (hB : uRb dr wp pr cnt W T n a) (hr : uRv n (a 88)) (hV : uMV dr wp pr cnt T n a b) (hL : uLw a) (hbg : a 87 4 = 1) (htn : 0 ≤ a 88 114 ∧ a 88 114 ≤ 60) (hev : 0 ≤ a 88 119 ∧ a 88 119 ≤ 900) (hd : 8 ≤ d)
    (hA : 60 ≤ a 88 114 → Q (some (xV (-1))) (xS a b)) (hF : a 88 114 < 60 → ¬ uGd dr wp n (a 88) kk x y → Q (some (xV (-2))) (xS a b))
    (hQ : a 88 114 < 60 → uGd dr wp n (a 88) kk x y → ∀ a1 a2 b', uPm a a1 b b' → uCn a1 a2 (a 88 114 + 1) → uRb dr wp pr cnt W T n a2 → uRv n (a2 88) → uMV dr wp pr cnt T n a2 b' → uLw a2 → uRq (uTu dr wp pr cnt W T n (uQc kk x y) (-1) (a 88)) (a2 88) → a2 88 119 ≤ a 88 119 + 4 → 0 ≤ a2 88 119 → (∀ p : Nat, p < 4 → uEn dr wp pr cnt W T n (uQc kk x y) (-1) a1 p (uTr dr wp pr cnt W T n (uQc kk x y) (-1) (a 88) p)) → Q (some (xV (a 88 114 + 1))) (xS a2 b')) : pmCs ro d 204 [.ref 87, xV kk, xV x, xV y] (xS a b) Q := by
  have hA0 := hB.1
  have hn0 : 0 ≤ n ∧ n ≤ 5 := hB.2.1.2.2.1
  have goes : ∀ g, a 88 114 < 60 → uGd dr wp n (a 88) kk x y → pmCs ro 7 208 [.ref 87, xV (uQc kk x y), xV (-1)] (xS a b) (fun r' s' => pmWp ro 7 12 204 1 97 [some (.ref 87), some (xV kk), some (xV x), some (xV y), some (xV (uQc kk x y)), some (xV g), none, none] (r'.toList ++ []) s' Q) := by
    intro g hlt hg
    have hcp := uGd_p hr hg
    have hq := (uQc_f hg.1).1
    obtain ⟨R, hR⟩ : ∃ R, a 88 = R := ⟨_, rfl⟩
    have hv4 := fun j => (uTr_v (dr := dr) (wp := wp) (pr := pr) (cnt := cnt) (W := W) (T := T) (wt := -1) hn0 hr hcp 4 (by decide)).2 j
    refine u208 hK hB hr hV hL (by omega) hev (hcp.elim Or.inl (fun h => Or.inr ⟨h.1, fun e => uCp_d (h.2 e)⟩)) (by decide) (by decide) (fun a1 b1 f1 B1 V1 M1 L1 R1 e114 e115 e119 e119b E1 => ?_)
    obtain ⟨t, et⟩ : ∃ t, a 88 114 + 1 = t := ⟨_, rfl⟩
    rw [et] at e114
    refine w204c e114 (by omega) ?_
    have loop : ∀ (m : Nat) (p : Int) (a2 : xA), p + (m : Int) = 4 → 0 ≤ p → xAr a2 → ((∀ i, 0 ≤ i → i < p → a2 124 (4 * t + i) = a1 119 i ∧ a2 120 (4 * t + i) = a1 116 i ∧ a2 121 (4 * t + i) = a1 117 i ∧ a2 122 (4 * t + i) = a1 118 i) ∧ (∀ q j, q = 124 ∨ q = 120 ∨ q = 121 ∨ q = 122 → ¬ (4 * t ≤ j ∧ j < 4 * t + p) → a2 q j = a1 q j) ∧ a2 123 t = 0 ∧ (∀ j, ¬ j = t → a2 123 j = a1 123 j) ∧ ∀ q j, ¬ (120 ≤ q ∧ q ≤ 124) → a2 q j = a1 q j) → pmWp ro 7 12 204 1 117 [some (.ref 87), some (xV kk), some (xV x), some (xV y), some (xV (uQc kk x y)), some (xV g), some (xV t), some (xV p)] [] (xS a2 b1) Q := by
      intro m
      induction m with
      | zero =>
        intro p a2 hp p0 A2 hI
        have e4 : p = 4 := by omega
        subst e4
        have e119' : a2 119 4 = a1 119 4 := hI.2.2.2.2 119 4 (by omega)
        refine w204d (fun h => absurd h (by decide)) (by omega) (by decide) (fun _ => ?_) (fun e => absurd (by decide) e)
        rw [← et]
        have e8 : a2 88 = a1 88 := funext fun j => hI.2.2.2.2 88 j (by omega)
        have ex : ∀ q j, ¬ (120 ≤ q ∧ q ≤ 124) → a2 q j = a1 q j := hI.2.2.2.2
        refine hQ hlt hg a1 a2 b1 f1 (by rw [et]; exact hI) (uRb_o B1 A2 (fun q j e => ex q j (by omega)) (fun j j0 j1 => by rw [ex 109 j (by omega)]; exact B1.2.2.2.2.2.2 j j0 j1)) (by rw [e8]; exact V1) (uMV_f M1 (ex _ _ (by omega)) (fun j => ex _ _ (by omega)) (fun _ => rfl)) (uLw_o L1 (fun q j e => ex q j (by omega))) ?_ (by rw [e8]; exact e119) (by rw [e8]; exact e119b) E1
        rw [e8]
        intro j hj
        unfold uTu
        by_cases c1 : j = 114
        · rw [if_pos c1, c1, e114, et]
        · rw [if_neg c1]
          by_cases c2 : j = 115
          · rw [if_pos c2, c2, e115]
          · rw [if_neg c2]
            exact R1 j (by omega)
      | succ m ih =>
        intro p a2 hp p0 A2 hI
        obtain ⟨g1, g2, g3, g4, g5⟩ := hI
        have x119 : a2 119 p = a1 119 p := g5 119 p (by omega)
        have x116 : a2 116 p = a1 116 p := g5 116 p (by omega)
        have x117 : a2 117 p = a1 117 p := g5 117 p (by omega)
        have x118 : a2 118 p = a1 118 p := g5 118 p (by omega)
        have hb : 0 ≤ a2 119 p ∧ a2 119 p ≤ 1 := by
          obtain ⟨q, eq⟩ : ∃ q : Nat, p = (q : Int) := ⟨p.toNat, by omega⟩
          have hE := (E1 q (by omega)).1
          rw [x119, eq, hE]
          split <;> decide
        refine w204d (fun _ => hb) (by omega) ⟨p0, by omega⟩ (fun e => absurd e (by omega)) (fun _ => ih (p + 1) _ (by omega) (by omega) (xAr_u (xAr_u (xAr_u (xAr_u A2 (A2 _ _)) (A2 _ _)) (A2 _ _)) (A2 _ _)) ⟨fun i i0 i1 => ?_, fun q j e1 e2 => ?_, ?_, fun j hj => ?_, fun q j e => ?_⟩)
        · by_cases ci : i = p
          · rw [ci]
            refine ⟨?_, ?_, ?_, ?_⟩
            · rw [xUn (by decide), xUn (by decide), xUn (by decide), xUa]
              exact x119
            · rw [xUn (by decide), xUn (by decide), xUa]
              exact x116
            · rw [xUn (by decide), xUa]
              exact x117
            · rw [xUa]
              exact x118
          · obtain ⟨k1, k2, k3, k4⟩ := g1 i i0 (by omega)
            have ne : ¬ 4 * t + i = 4 * t + p := by omega
            refine ⟨?_, ?_, ?_, ?_⟩
            · rw [xUn (by decide), xUn (by decide), xUn (by decide), xUk ne]
              exact k1
            · rw [xUn (by decide), xUn (by decide), xUk ne]
              exact k2
            · rw [xUn (by decide), xUk ne]
              exact k3
            · rw [xUk ne]
              exact k4
        · have ne : ¬ j = 4 * t + p := fun h => e2 ⟨by omega, by omega⟩
          rw [xUk ne, xUk ne, xUk ne, xUk ne]
          exact g2 q j e1 (fun h => e2 ⟨h.1, by omega⟩)
        · rw [xUn (by decide), xUn (by decide), xUn (by decide), xUn (by decide)]
          exact g3
        · rw [xUn (by decide), xUn (by decide), xUn (by decide), xUn (by decide)]
          exact g4 j hj
        · rw [xUn (by omega), xUn (by omega), xUn (by omega), xUn (by omega)]
          exact g5 q j e
    refine loop 4 0 _ (by decide) (by decide) (xAr_u B1.1 xR0) ⟨fun i i0 i1 => absurd i1 (by omega), fun q j e1 e2 => xUn (by omega), xUa, fun j hj => xUk hj, fun q j e => xUn (by omega)⟩
  refine pmCs_deep (d := 8) (xg204 (w204 q1 q2 q3 (by omega) (by omega) (by decide) (fun e => by omega) (fun _ hlt hk0 => ?_) (fun _ hlt hk0 hx => hF hlt (fun h => ?_)) (fun _ hlt hk0 hx hy => hF hlt (fun h => ?_)) (fun _ hlt hk0 hx hy => ?_) (fun _ h => hA (by omega)))) hd
  · refine u205 q1 q2 q3 hk0 (by decide) (fun hf => ?_) (fun hf => ?_)
    · have hq := (uQc_f hf).1
      have hn1 : ¬ uQc kk x y = -1 := fun e => by
        have h2 := (uQc_f hf).2.1
        rw [e] at h2
        exact hk0 h2.symm
      refine w204a q1 hk0 (by omega) (fun _ e => absurd e hn1) (fun _ _ => ?_) (fun e => absurd e hk0) (fun e => absurd e hk0) (fun e => absurd e hk0)
      refine u206 hA0 hB.2.1 hB.2.2.1 hr (by decide) ⟨by omega, hq.2⟩ (by decide) (fun hc => w204b (by omega) (by decide) (fun e => absurd e (by decide)) (fun _ => goes 1 hlt ⟨hf, hc⟩)) (fun hc => w204b (by omega) (by decide) (fun _ => hF hlt (fun h => hc h.2)) (fun e => absurd (by decide) e))
    · exact w204a q1 hk0 (by decide) (fun _ _ => hF hlt (fun h => hf h.1)) (fun _ e => absurd rfl e) (fun e => absurd e hk0) (fun e => absurd e hk0) (fun e => absurd e hk0)
  · have := h.1
    omega
  · have := h.1
    omega
  · subst hk0
    subst hx
    subst hy
    exact goes 1 hlt ⟨Or.inl ⟨rfl, rfl, rfl⟩, Or.inl rfl⟩
end
end
