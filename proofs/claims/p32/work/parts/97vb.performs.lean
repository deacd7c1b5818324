/-! the class performs a deed -/
section
set_option maxRecDepth 100000


section
variable {ro : Nat → Nat × (Nat → Int32)} {d w : Nat} {Q : Option Value → pmS → Prop} {n g p k x : Int} {r r' : Int → Int} {a a' : xA} {b b' : xB}
theorem uDo_14 (hk : 0 ≤ k ∧ k < 61) (hp : 0 ≤ p ∧ p ≤ 3) (k5 : ¬ uK k = 5) (k6 : ¬ uK k = 6) {j : Int} (hj : 14 ≤ j) : uDo n p k r j = r j := by
  obtain ⟨b0, b1, b2, b3, b4, b5, b6⟩ := uX_b hk
  by_cases k1 : uK k = 1
  · rw [uDo_1 k1]
    exact if_neg (by omega)
  by_cases k2 : uK k = 2
  · have := b2 (by omega)
    rw [uDo_2 k2]
    exact if_neg (by omega)
  by_cases k3 : uK k = 3
  · have := b2 (by omega)
    rw [uDo_3 k3]
    exact if_neg (by omega)
  · have k4 : uK k = 4 := by omega
    have := b2 (by omega)
    rw [uDo_4 k4]
    exact if_neg (by omega)
/-- minds behind a hit -/
theorem uRf_hit (hn0 : 0 ≤ n ∧ n ≤ 5) (hk : 0 ≤ k ∧ k < 61) (k5 : uK k = 5) (hg : 1 ≤ g ∧ g ≤ 3) (hM : uRf n w r b g) (e : b' (w + 1) g = if r g = r p ∧ ¬ g = uX k then xWith (b (w + 1) g) (uX k) 8 else b (w + 1) g) : uRf n w (uDo n p k r) b' g := by
  have hb := uX_b hk
  have hx0 := hb.1
  have hx3 := hb.2.2.2.1 k5
  clear hb
  obtain ⟨m1, m2, m3⟩ := hM
  rw [uDo_5 k5]
  obtain ⟨z, ez⟩ : ∃ z, uX k = z := ⟨_, rfl⟩
  rw [ez] at hx0 hx3 e ⊢
  clear ez
  have row : ∀ y, 0 ≤ y → y < 9 → uZt n p z r (14 + 9 * (g - 1) + y) = if y = 5 + z ∧ r g = r p ∧ ¬ g = z then 7 else r (14 + 9 * (g - 1) + y) := by
    intro y y0 y1
    have e1 : (14 + 9 * (g - 1) + y - 14) / 9 + 1 = g := by omega
    have e2 : (14 + 9 * (g - 1) + y - 14) % 9 = y := by omega
    unfold uZt
    rw [e1, e2, if_neg (show ¬ 14 + 9 * (g - 1) + y = z by omega), if_neg (show ¬ (4 ≤ 14 + 9 * (g - 1) + y ∧ 14 + 9 * (g - 1) + y < 4 + n) by omega)]
    refine uIfP ⟨fun h => h.2, fun h => ⟨by omega, h⟩⟩ (fun _ => rfl) (fun _ => rfl)
  by_cases c : r g = r p ∧ ¬ g = z
  · rw [if_pos c] at e
    have wi : ∀ j, 0 ≤ j → j < 16 → uSl (b' (w + 1) g) j = if j = z then 8 else uSl (b (w + 1) g) j := fun j j0 j1 => by
      rw [e]
      exact uWi hx0 (by omega) (by decide) (by decide) j0 j1
    refine ⟨fun j j0 j1 => ?_, fun q q0 q1 hq => ?_, fun x x0 x1 => ?_⟩
    · rw [wi j (by omega) j1, if_neg (by omega)]
      exact m1 j j0 j1
    · rw [wi q q0 (by omega), show 14 + 9 * (g - 1) + 5 + q = 14 + 9 * (g - 1) + (5 + q) by omega, row (5 + q) (by omega) (by omega)]
      by_cases cz : q = z
      · rw [if_pos cz, if_pos ⟨by omega, c⟩]
        decide
      · rw [if_neg cz, if_neg (fun h => cz (by omega)), m2 q q0 q1 hq, show 14 + 9 * (g - 1) + 5 + q = 14 + 9 * (g - 1) + (5 + q) by omega]
    · rw [wi (4 + x) (by omega) (by omega), row x x0 (by omega), if_neg (by omega), if_neg (fun h => by omega)]
      exact m3 x x0 x1
  · rw [if_neg c] at e
    refine uRf_c ⟨m1, m2, m3⟩ (fun j j0 j1 => ?_) e
    rw [row j j0 j1, if_neg (fun h => c h.2)]
/-- minds behind a tell -/
theorem uRf_tell (hn0 : 0 ≤ n ∧ n ≤ 5) (hr : uRv n r) (hk : 0 ≤ k ∧ k < 61) (k6 : uK k = 6) (hc : uCp n p k r) (hg : 1 ≤ g ∧ g ≤ 3) (hM : uRf n w r b g) {s : Int} (hs : s = uWs n r (4 + uX k)) (e : b' (w + 1) g = if g = uY k then xWith (b (w + 1) g) (4 + uX k) (if s = 13 then 0 else s) else b (w + 1) g) : uRf n w (uDo n p k r) b' g := by
  have hb := uX_b hk
  have hx0 := hb.1
  have hy := hb.2.2.2.2.1 (by omega)
  have hxn := hc.2.1 (by omega)
  have hy1 := hc.2.2.1 k6
  have hwx := uWs_x hr hx0 (by omega)
  clear hb hc
  obtain ⟨m1, m2, m3⟩ := hM
  rw [uDo_6 k6]
  obtain ⟨z, ez⟩ : ∃ z, uX k = z := ⟨_, rfl⟩
  obtain ⟨y, ey⟩ : ∃ y, uY k = y := ⟨_, rfl⟩
  rw [ez] at hx0 hxn hwx hs e ⊢
  rw [ey] at hy hy1 e ⊢
  clear ez ey
  rw [← hs] at hwx
  by_cases c : g = y
  · subst c
    rw [if_pos rfl] at e
    obtain ⟨v, ev⟩ : ∃ v, (if s = 13 then 0 else s) = v := ⟨_, rfl⟩
    rw [ev] at e
    have hv : v = uTc (if r (4 + z) = 20 then -1 else r (4 + z)) := by
      rw [← ev]
      unfold uTc
      rcases hwx with ⟨_, h | h | h⟩ | h
      · rw [if_neg (show ¬ s = 13 by omega), if_neg (show ¬ r (4 + z) = 20 by omega), if_pos (show r (4 + z) < 7 by omega)]
        omega
      · rw [if_neg (show ¬ s = 13 by omega), if_neg (show ¬ r (4 + z) = 20 by omega), if_neg (show ¬ r (4 + z) < 7 by omega)]
        omega
      · rw [if_pos (show s = 13 by omega), if_pos (show r (4 + z) = 20 by omega)]
        decide
      · omega
    have hvb : 0 ≤ v ∧ v < 16 := by
      rw [← ev]
      split <;> omega
    have wi : ∀ j, 0 ≤ j → j < 16 → uSl (b' (w + 1) g) j = if j = 4 + z then v else uSl (b (w + 1) g) j := fun j j0 j1 => by
      rw [e]
      exact uWi (by omega) (by omega) hvb.1 hvb.2 j0 j1
    refine ⟨fun j j0 j1 => ?_, fun q q0 q1 hq => ?_, fun x x0 x1 => ?_⟩
    · rw [wi j (by omega) j1, if_neg (by omega)]
      exact m1 j j0 j1
    · dsimp only
      rw [wi q q0 (by omega), if_neg (by omega), m2 q q0 q1 hq, if_neg (show ¬ 14 + 9 * (g - 1) + 5 + q = 14 + 9 * (g - 1) + z by omega)]
    · dsimp only
      rw [wi (4 + x) (by omega) (by omega)]
      by_cases cz : x = z
      · rw [if_pos (show 4 + x = 4 + z by omega), if_pos (show 14 + 9 * (g - 1) + x = 14 + 9 * (g - 1) + z by omega)]
        exact hv
      · rw [if_neg (show ¬ 4 + x = 4 + z by omega), if_neg (show ¬ 14 + 9 * (g - 1) + x = 14 + 9 * (g - 1) + z by omega)]
        exact m3 x x0 x1
  · rw [if_neg c] at e
    exact uRf_c ⟨m1, m2, m3⟩ (fun j j0 j1 => if_neg (by omega)) e
theorem uOr00 {m : Int} (hm : 0 ≤ m ∧ m ≤ 15) : xOr m 0 = m := by
  have key : ∀ v : Fin 16, xOr (v.val : Int) 0 = (v.val : Int) := by decide +kernel
  have := key ⟨m.toNat, by omega⟩
  have e : ((m.toNat : Nat) : Int) = m := by omega
  rw [e] at this
  exact this
/-- perform -/
theorem u91 (hz : uWz w) (hw : 21 ≤ w ∧ w ≤ 80) (hn0 : 0 ≤ n ∧ n ≤ 5) (hr : uRv n r) (hT : uRt n w r b) (hM : uRm n w r b) (hA : xAr a) (hL : uLx a) (hmk : uMk w a) (htn : 0 ≤ a w 6 ∧ a w 6 ≤ 1000) (hev : 0 ≤ a w 11 ∧ a w 11 ≤ 2000) (hp : 0 ≤ p ∧ p ≤ 3) (hk : 0 ≤ k ∧ k < 61) (hc : uCp n p k r) (hd : 4 ≤ d)
    (hQ : ∀ a' b', (∀ q j, ¬ q = w + 2 → ¬ q = w + 3 → ¬ (q = w ∧ (j = 7 ∨ j = 11)) → a' q j = a q j) → xAr a' → uMk w a' → a' w 11 = a w 11 + 1 → (∀ q j, ¬ (q = w ∧ (j = 4 ∨ j = 5)) → ¬ (q = w + 1 ∧ 1 ≤ j ∧ j ≤ 3) → b' q j = b q j) → uRv n (uDe n p k r) → uRt n w (uDe n p k r) b' → uRm n w (uDe n p k r) b' → uOx w (uDe n p k r) b' 4 → Q (some (xV (uD k + 512 * uSg p k r 4))) (xS a' b')) : pmCs ro d 91 [.ref 43, .ref w, xV p, xV (uD k)] (xS a b) Q := by
  obtain ⟨d0, d1, d2, d3, d4⟩ := uD_p (k := k) ⟨by omega, hk.2⟩
  obtain ⟨dx, dy⟩ := d3 hk.1
  have hb := uX_b hk
  have hdd : 0 ≤ uD k ∧ uD k ≤ 447 := ⟨d0, d1⟩
  have hdx : 1 ≤ uD k / 8 % 8 := by omega
  have hkk : 0 ≤ uK k ∧ uK k ≤ 7 := by omega
  have hrp := hr.1 p hp.1 (by omega)
  refine pmCs_deep (d := 4) (xg91 (w91 hz hp hdd hdx (by decide) (fun _ => ?_) (fun e => by omega))) hd
  refine u81 hp ⟨by omega, hk.2⟩ (by decide) (fun l hl => ?_)
  refine w91a hz hp hdd hdx (by decide) ?_
  have T1 : uRt n w (uDo n p k r) (xU b w 4 l) := uRt_d hn0 hr hp hk hc hT (fun j j0 j1 => by rw [xUa]; exact hl j j0 j1) (xUk (by decide))
  have eD : ∀ q, 0 ≤ q → q < 4 → uSl l q = uDo n p k r q + 1 := fun q q0 q1 => by
    have := T1.1 q q0 (by omega)
    rw [xUa] at this
    exact this.trans (uWs_p q1)
  have hle : uSl (b w 4) p = r p + 1 := (hT.1 p hp.1 (by omega)).trans (uWs_p (by omega))
  have hDv := uRv_d hn0.2 hr hp hk (uCp_d hc)
  have hDp := hDv.1 p hp.1 (by omega)
  rw [hle, eD p hp.1 (by omega), d2]
  have h16 : ((2 ^ 4 : Nat) : Int) = 16 := rfl
  have hs4 := uSg_b (p := p) (k := k) (r := r) 4
  -- behind the minds
  have fin : ∀ (b2 : xB) (v9 : Option Value), (∀ q j, ¬ (q = w ∧ (j = 4 ∨ j = 5)) → ¬ (q = w + 1 ∧ 1 ≤ j ∧ j ≤ 3) → b2 q j = b q j) → uRt n w (uDo n p k r) b2 → uRm n w (uDo n p k r) b2 → pmWp ro 3 4 91 1 175 [some (.ref 43), some (.ref w), some (xV p), some (xV (uD k)), some (xV (uK k)), some (xV (r p + 1)), some (xV (uDo n p k r p + 1)), some (xV (uSg p k r 4)), some (xV 4), v9] [] (xS a b2) Q := by
    intro b2 v9 g1 g2 g3
    have low : ∀ j, j < 41 → uEv (uDo n p k r) j = uDo n p k r j := fun j hj => if_neg (by omega)
    have T2 : uRt n w (uEv (uDo n p k r)) b2 := uRt_c g2 hn0.2 (fun j hj => low j (by omega)) rfl rfl
    have M2 : uRm n w (uEv (uDo n p k r)) b2 := fun f f0 f1 => uRf_c (g3 f f0 f1) (fun j j0 j1 => low _ (by omega)) rfl
    have V2 := uRv_e hn0.2 hDv
    have A1 : xAr (xU a w 11 (a w 11 + 1)) := xAr_u hA ⟨by omega, by omega⟩
    have mk1 : uMk w (xU a w 11 (a w 11 + 1)) := fun c c0 c1 => by rw [xUn (by omega)]; exact hmk c c0 c1
    have L1 : uLx (xU a w 11 (a w 11 + 1)) := uLx_o hL (fun q j e1 e2 => xUn (by omega))
    have t1 : 0 ≤ (xU a w 11 (a w 11 + 1)) w 6 ∧ (xU a w 11 (a w 11 + 1)) w 6 ≤ 1000 := by rw [xUk (by decide)]; exact htn
    have look : ∀ a3 v9, uHg w (xU a w 11 (a w 11 + 1)) a3 → pmWp ro 3 4 91 1 208 [some (.ref 43), some (.ref w), some (xV p), some (xV (uD k)), some (xV (uK k)), some (xV (r p + 1)), some (xV (uDo n p k r p + 1)), some (xV (uSg p k r 4)), some (xV 4), v9] [] (xS a3 b2) Q := by
      intro a3 v9 h3
      refine w91l hz hp hdd hdx hkk (by omega) (by omega) (by omega) (by decide) (by decide) ?_
      refine u59 hz hn0 V2 T2 M2 (by decide) (fun b3 x3 T3 M3 O3 => ?_)
      refine w91r hz hp hdd hdx hkk (by omega) (by omega) (by omega) (by decide) (by decide) ?_
      have eo := uOrd (z := uD k) (q := uSg p k r 4) 9 d0 (by show uD k < 512; omega) hs4.1 (by show uSg p k r 4 * 512 + uD k < 2147483648; omega)
      have e512 : ((2 ^ 9 : Nat) : Int) = 512 := rfl
      rw [e512] at eo
      rw [eo, Int.mul_comm]
      refine hQ a3 b3 (fun q j e1 e2 e3 => ?_) h3.2.1 h3.2.2 ?_ (fun q j e1 e2 => (x3 q j e1 e2).trans (g1 q j e1 e2)) (uRv_l hn0.2 V2) T3 M3 O3
      · rw [h3.1 q j e1 e2 (fun h => e3 ⟨h.1, Or.inl h.2⟩), xUo (fun h => e3 ⟨h.1, Or.inr h.2⟩)]
      · rw [h3.1 w 11 (by omega) (by omega) (by omega), xUa]
    refine w91e hz hp hdd hdx hkk (by omega) (by omega) (by omega) (by decide) hev (by decide) (fun _ => ?_) (fun _ => ?_)
    · exact u94 hz hw A1 L1 mk1 t1 uEo_b (by decide) (fun a3 h3 => look a3 _ h3)
    · exact u94 hz hw A1 L1 mk1 t1 uEo_b (by decide) (fun a3 h3 => look a3 _ h3)
  -- behind the loop
  have done : ∀ (b1 : xB) (v9 : Option Value), (∀ i j, ¬ (i = w ∧ j = 4) → ¬ (i = w + 1 ∧ 1 ≤ j ∧ j ≤ 3) → b1 i j = b i j) → b1 w 4 = l → (∀ g, 1 ≤ g → g ≤ 3 → b1 (w + 1) g = if g < 4 ∧ uK k = 5 ∧ uDo n p k r g = r p then xWith (b (w + 1) g) (uX k) 8 else b (w + 1) g) → pmWp ro 3 4 91 1 154 [some (.ref 43), some (.ref w), some (xV p), some (xV (uD k)), some (xV (uK k)), some (xV (r p + 1)), some (xV (uDo n p k r p + 1)), some (xV (uSg p k r 4)), some (xV 4), v9] [] (xS a b1) Q := by
    intro b1 v9 g1 g2 g3
    have T2 : ∀ b2 : xB, (b2 w 4 = b1 w 4) → (b2 w 5 = b1 w 5) → uRt n w (uDo n p k r) b2 := fun b2 h4 h5 => uRt_c T1 hn0.2 (fun _ _ => rfl) (by rw [h4, g2, xUa]) (by rw [h5, g1 w 5 (by omega) (by omega), xUk (by decide)])
    refine w91t hz hp hdd hdx hkk (by omega) (by omega) (by omega) (by decide) (by decide) (fun k6 => ?_) (fun k6 => ?_)
    · refine fin b1 _ (fun q j e1 e2 => g1 q j (fun h => e1 ⟨h.1, Or.inl h.2⟩) e2) (T2 b1 rfl rfl) (fun g f0 f1 => ?_)
      by_cases k5 : uK k = 5
      · refine uRf_hit hn0 hk k5 ⟨f0, f1⟩ (hM g f0 f1) ?_
        rw [g3 g f0 f1]
        refine uIfP ⟨fun h => ?_, fun h => ?_⟩ (fun _ => rfl) (fun _ => rfl)
        · have h2 := h.2.2
          rw [uDo_p hp hk hc (by omega) (by omega), if_neg (fun h => by omega)] at h2
          by_cases cz : uK k = 5 ∧ g = uX k
          · rw [if_pos cz] at h2
            exact absurd h2.symm hc.1
          · rw [if_neg cz] at h2
            exact ⟨h2, fun h => cz ⟨k5, h⟩⟩
        · refine ⟨by omega, k5, ?_⟩
          rw [uDo_p hp hk hc (by omega) (by omega), if_neg (fun h => by omega), if_neg (fun e => h.2 e.2)]
          exact h.1
      · refine uRf_c (hM g f0 f1) (fun j j0 j1 => uDo_14 hk hp k5 k6 (by omega)) ?_
        rw [g3 g f0 f1, if_neg (fun h => k5 h.2.1)]
    · have hxy := hb.2.2.1 (by omega)
      have hyy := hb.2.2.2.2.1 (by omega)
      have hy1 := hc.2.2.1 k6
      have hs : uSl (b1 w 4) (4 + uX k) = uWs n r (4 + uX k) := by
        rw [g2]
        have := T1.1 (4 + uX k) (by omega) (by omega)
        rw [xUa] at this
        rw [this, uDo_6 k6]
        exact uWs_c (if_neg (by omega))
      have g3' : ∀ g, 1 ≤ g → g ≤ 3 → b1 (w + 1) g = b (w + 1) g := fun g f0 f1 => by rw [g3 g f0 f1, if_neg (fun h => by omega)]
      have tl : ∀ v, v = (if uSl (b1 w 4) (4 + uX k) = 13 then 0 else uSl (b1 w 4) (4 + uX k)) → pmWp ro 3 4 91 1 175 [some (.ref 43), some (.ref w), some (xV p), some (xV (uD k)), some (xV (uK k)), some (xV (r p + 1)), some (xV (uDo n p k r p + 1)), some (xV (uSg p k r 4)), some (xV 4), v9] [] (xS a (xU b1 (w + 1) (uY k) (xWith (b1 (w + 1) (uY k)) (4 + uX k) v))) Q := by
        intro v hv
        refine fin _ _ (fun q j e1 e2 => ?_) (T2 _ (xUn (by omega)) (xUn (by omega))) (fun g f0 f1 => ?_)
        · rw [xUo (fun h => e2 ⟨h.1, by omega⟩)]
          exact g1 q j (fun h => e1 ⟨h.1, Or.inl h.2⟩) e2
        · refine uRf_tell hn0 hr hk k6 hc ⟨f0, f1⟩ (hM g f0 f1) hs ?_
          by_cases c : g = uY k
          · rw [if_pos c, c, xUa, hv, g3' (uY k) hy1 (by omega)]
          · rw [if_neg c, xUk c]
            exact g3' g f0 f1
      rw [dx, dy]
      refine pmCs_deep (d := 2) (xg92 (w92 hz (by decide) ⟨hb.1, by omega⟩ ⟨hyy.1, by omega⟩ (fun _ h => tl _ ?_) (fun _ h => tl _ ?_) (fun h => absurd (by omega) h))) (by decide)
      · rw [if_neg h]
      · rw [if_pos h]
  -- who sees it
  have loop : ∀ (m q : Nat) (b1 : xB) (v9 : Option Value), q + m = 4 → (∀ i j, ¬ (i = w ∧ j = 4) → ¬ (i = w + 1 ∧ 1 ≤ j ∧ j ≤ 3) → b1 i j = b i j) → b1 w 4 = l → (∀ g, 1 ≤ g → g ≤ 3 → b1 (w + 1) g = if g < (q : Int) ∧ uK k = 5 ∧ uDo n p k r g = r p then xWith (b (w + 1) g) (uX k) 8 else b (w + 1) g) → pmWp ro 3 4 91 1 56 [some (.ref 43), some (.ref w), some (xV p), some (xV (uD k)), some (xV (uK k)), some (xV (r p + 1)), some (xV (uDo n p k r p + 1)), some (xV (uSg p k r q)), some (xV (q : Int)), v9] [] (xS a b1) Q := by
    intro m
    induction m with
    | zero =>
      intro q b1 v9 hq g1 g2 g3
      have e4 : q = 4 := by omega
      subst e4
      refine w91q hz hp hdd hdx hkk (by omega) (by omega) (by omega) (by decide) (by decide) (fun _ => done b1 v9 g1 g2 g3) ?_ ?_ ?_ ?_ ?_ ?_ ?_ ?_ ?_ ?_ ?_ ?_ ?_ <;> (intro e; exact absurd (by decide) e)
    | succ m ih =>
      intro q b1 v9 hq g1 g2 g3
      have hsb := uSg_b (p := p) (k := k) (r := r) q
      have h8 : ((2 ^ q : Nat) : Int) ≤ 8 := by
        have : 2 ^ q ≤ 2 ^ 3 := Nat.pow_le_pow_right (by decide) (by omega)
        omega
      have hq0 : (0 : Int) ≤ (q : Int) := by omega
      have hq4 : (q : Int) < 4 := by omega
      have hsn : 0 ≤ uSg p k r q ∧ uSg p k r q ≤ 15 := by omega
      have eat : uSl (b1 w 4) (q : Int) = uDo n p k r q + 1 := by rw [g2]; exact eD q hq0 hq4
      have hse := uSb_e hr hp hk hc hq0 hq4
      have nx : ∀ (b2 : xB) (v9 : Option Value), (∀ i j, ¬ (i = w ∧ j = 4) → ¬ (i = w + 1 ∧ 1 ≤ j ∧ j ≤ 3) → b2 i j = b i j) → b2 w 4 = l → (∀ g, 1 ≤ g → g ≤ 3 → b2 (w + 1) g = if g < ((q + 1 : Nat) : Int) ∧ uK k = 5 ∧ uDo n p k r g = r p then xWith (b (w + 1) g) (uX k) 8 else b (w + 1) g) → ∀ z, z = uSg p k r (q + 1) → pmWp ro 3 4 91 1 148 [some (.ref 43), some (.ref w), some (xV p), some (xV (uD k)), some (xV (uK k)), some (xV (r p + 1)), some (xV (uDo n p k r p + 1)), some (xV z), some (xV (q : Int)), v9] [] (xS a b2) Q := by
        intro b2 v9 f1 f2 f3 z hzz
        have hs1 := uSg_b (p := p) (k := k) (r := r) (q + 1)
        have h16 : ((2 ^ (q + 1) : Nat) : Int) ≤ 16 := by
          have : 2 ^ (q + 1) ≤ 2 ^ 4 := Nat.pow_le_pow_right (by decide) (by omega)
          omega
        rw [hzz]
        exact w91n hz hp hdd hdx hkk (by omega) (by omega) (by omega) ⟨hq0, by omega⟩ (by decide) (ih (q + 1) b2 v9 (by omega) f1 f2 f3)
      have sy : uSb p k r q → xOr (uSg p k r q) (1 * ((2 ^ (q : Int).toNat : Nat) : Int)) = uSg p k r (q + 1) := fun h => by
        rw [show (q : Int).toNat = q from rfl, uOr2 (by omega) hsb.1 hsb.2]
        exact (congrArg (fun z => uSg p k r q + z) (if_pos h)).symm
      have sno : ¬ uSb p k r q → xOr (uSg p k r q) 0 = uSg p k r (q + 1) := fun h => by
        rw [uOr00 hsn]
        exact ((congrArg (fun z => uSg p k r q + z) (if_neg h)).trans (Int.add_zero _)).symm
      -- minds as they were
      have ms : ¬ (uK k = 5 ∧ ¬ (q : Int) = 0 ∧ uDo n p k r q = r p) → ∀ g, 1 ≤ g → g ≤ 3 → b1 (w + 1) g = if g < ((q + 1 : Nat) : Int) ∧ uK k = 5 ∧ uDo n p k r g = r p then xWith (b (w + 1) g) (uX k) 8 else b (w + 1) g := fun h g f0 f1 => by
        rw [g3 g f0 f1]
        refine uIfP ⟨fun e => ⟨by omega, e.2⟩, fun e => ⟨?_, e.2⟩⟩ (fun _ => rfl) (fun _ => rfl)
        by_cases cg : g = q
        · rw [cg] at e
          exact absurd ⟨e.2.1, by omega, e.2.2⟩ h
        · omega
      have mu : uK k = 5 → ¬ (q : Int) = 0 → uDo n p k r q = r p → ∀ g, 1 ≤ g → g ≤ 3 → (xU b1 (w + 1) (q : Int) (xWith (b1 (w + 1) (q : Int)) (uD k / 8 % 8 - 1) 8)) (w + 1) g = if g < ((q + 1 : Nat) : Int) ∧ uK k = 5 ∧ uDo n p k r g = r p then xWith (b (w + 1) g) (uX k) 8 else b (w + 1) g := fun k5 hq1 hD g f0 f1 => by
        by_cases cg : g = q
        · rw [cg, xUa, if_pos ⟨by omega, k5, hD⟩, g3 q (by omega) (by omega), if_neg (fun h => by omega), dx]
        · rw [xUk cg, g3 g f0 f1]
          exact uIfP ⟨fun e => ⟨by omega, e.2⟩, fun e => ⟨by omega, e.2⟩⟩ (fun _ => rfl) (fun _ => rfl)
      have f1u : ¬ (q : Int) = 0 → ∀ i j, ¬ (i = w ∧ j = 4) → ¬ (i = w + 1 ∧ 1 ≤ j ∧ j ≤ 3) → (xU b1 (w + 1) (q : Int) (xWith (b1 (w + 1) (q : Int)) (uD k / 8 % 8 - 1) 8)) i j = b i j := fun hq1 i j e1 e2 => by
        rw [xUo (fun h => e2 ⟨h.1, by omega⟩)]
        exact g1 i j e1 e2
      have f2u : (xU b1 (w + 1) (q : Int) (xWith (b1 (w + 1) (q : Int)) (uD k / 8 % 8 - 1) 8)) w 4 = l := by rw [xUn (by omega)]; exact g2
      have nle : ¬ uSl (b1 w 4) (q : Int) = r p + 1 → ¬ uDo n p k r q = r p := fun h e => h (by omega)
      have yle : uSl (b1 w 4) (q : Int) = r p + 1 → uDo n p k r q = r p := fun h => by omega
      have nco : ¬ uSl (b1 w 4) (q : Int) = uDo n p k r p + 1 → ¬ uDo n p k r q = uDo n p k r p := fun h e => h (by omega)
      have yco : uSl (b1 w 4) (q : Int) = uDo n p k r p + 1 → uDo n p k r q = uDo n p k r p := fun h => by omega
      refine w91q hz hp hdd hdx hkk (by omega) (by omega) hsn ⟨hq0, by omega⟩ (by decide) (fun e => by omega)
        (fun _ h1 h2 => nx b1 _ g1 g2 (ms (fun h => h2 h.1)) _ (sno (fun h => h.1 h1)))
        (fun _ h1 h2 h3 => nx b1 _ g1 g2 (ms (fun h => h.2.1 h3)) _ (sno (fun h => h.1 h1)))
        (fun _ h1 h2 h3 h4 => nx b1 _ g1 g2 (ms (fun h => nle h4 h.2.2)) _ (sno (fun h => h.1 h1)))
        (fun _ h1 h2 h3 h4 => nx _ _ (f1u h3) f2u (mu h2 h3 (yle h4)) _ (sno (fun h => h.1 h1)))
        (fun _ h1 h2 h3 => nx b1 _ g1 g2 (ms (fun h => h3 h.1)) _ (sy (hse.mpr ⟨h1, Or.inl (yle h2)⟩)))
        (fun _ h1 h2 h3 h4 => nx b1 _ g1 g2 (ms (fun h => h.2.1 h4)) _ (sy (hse.mpr ⟨h1, Or.inl (yle h2)⟩)))
        (fun _ h1 h2 h3 h4 => nx _ _ (f1u h4) f2u (mu h3 h4 (yle h2)) _ (sy (hse.mpr ⟨h1, Or.inl (yle h2)⟩)))
        (fun _ h1 h2 h3 h4 => nx b1 _ g1 g2 (ms (fun h => h4 h.1)) _ (sno (fun h => (hse.mp h).2.elim (nle h2) (nco h3))))
        (fun _ h1 h2 h3 h4 h5 => nx b1 _ g1 g2 (ms (fun h => h.2.1 h5)) _ (sno (fun h => (hse.mp h).2.elim (nle h2) (nco h3))))
        (fun _ h1 h2 h3 h4 h5 => nx b1 _ g1 g2 (ms (fun h => nle h2 h.2.2)) _ (sno (fun h => (hse.mp h).2.elim (nle h2) (nco h3))))
        (fun _ h1 h2 h3 h4 => nx b1 _ g1 g2 (ms (fun h => h4 h.1)) _ (sy (hse.mpr ⟨h1, Or.inr (yco h3)⟩)))
        (fun _ h1 h2 h3 h4 h5 => nx b1 _ g1 g2 (ms (fun h => h.2.1 h5)) _ (sy (hse.mpr ⟨h1, Or.inr (yco h3)⟩)))
        (fun _ h1 h2 h3 h4 h5 => nx b1 _ g1 g2 (ms (fun h => nle h2 h.2.2)) _ (sy (hse.mpr ⟨h1, Or.inr (yco h3)⟩)))
  refine loop 4 0 (xU b w 4 l) _ (by decide) (fun i j e1 _ => xUo e1) xUa (fun g f0 f1 => ?_)
  rw [xUn (by omega), if_neg (fun h => by omega)]
end
end
