/-! acts in the chronicle; numbers of a row -/
section
set_option maxRecDepth 100000


section
variable {dr wp co pr cnt W : Int → Int} {T : Int → List Int} {n m t k x c cd wt p L : Int} {r r' R : Int → Int} {a a' a1 a2 : xA} {b b' b1 : xB}
/-- an act -/
theorem uChr_a (hn0 : 0 ≤ n ∧ n ≤ 5) (hL : 1 ≤ L ∧ L ≤ 60) (h : uChr L r a) (hr : uRv n r) (hc : 1 ≤ c ∧ c ≤ 56) (hac : uAc dr n c r) (h114 : r 114 = L) (f1 : uPu dr n c r a a1 b b1) (e88 : a1 88 = r) (f2 : uRa n c a1 a2) : uChr L (uAx n c r) a2 := by
  obtain ⟨x1, _, _, _, x5, _⟩ := f1
  obtain ⟨y1, _, _, y4⟩ := f2
  rw [e88, h114] at y1 y4
  rw [h114] at x1 x5
  obtain ⟨c1, c2, c3, c4, c5, c6⟩ := h
  have o : ∀ q, q = 79 ∨ q = 85 ∨ q = 124 ∨ q = 120 ∨ q = 121 ∨ q = 122 → a2 q = a q := fun q hq => funext fun j => by
    rw [y1 q j (by omega) (by omega), x1 q j (by omega) (by omega) (by omega)]
  have o86 : ∀ j, ¬ j = L → a2 86 j = a 86 j := fun j hj => by
    rw [y1 86 j (by decide) (by omega), x1 86 j (by decide) (by omega) (by omega)]
  have o123 : ∀ j, ¬ j = L → a2 123 j = a 123 j := fun j hj => by
    rw [y1 123 j (by decide) (by omega), x1 123 j (by decide) (by omega) (by omega)]
  have e86 : a2 86 L = uAn c := by
    rw [y1 86 L (by decide) (by omega)]
    exact x5
  unfold uChr
  rw [o 79 (by decide), o 85 (by decide), o 124 (by decide), o 120 (by decide), o 121 (by decide), o 122 (by decide)]
  refine ⟨c1, c2, fun t t1 t2 => ?_, fun t t1 t2 => ?_, c5, fun p l p0 p1 g => uAx_7 hn0 hr ⟨by omega, hc.2⟩ hac ⟨p0, by omega⟩ (c6 p l p0 p1 g)⟩
  · by_cases e : t = L
    · rw [e, y4, e86]
      exact ⟨⟨by omega, hc.2⟩, rfl⟩
    · rw [o123 t e, o86 t e]
      exact c3 t t1 t2
  · rw [o86 t (by omega)]
    exact c4 t t1 t2
/-- numbers of a row behind L turns -/
def uBqs (L : Int) (r : Int → Int) : Prop := (0 ≤ L ∧ L ≤ 60) ∧ r 114 = L ∧ (0 ≤ r 115 ∧ r 115 ≤ 1) ∧ 0 ≤ r 116 ∧ 0 ≤ r 117 ∧ 0 ≤ r 118 ∧ r 116 + r 117 ≤ L ∧ r 118 ≤ 180 * L ∧ (r 115 = 0 → 1 ≤ L → r 116 + r 117 ≤ L - 1 ∧ r 118 ≤ 180 * (L - 1)) ∧ 0 ≤ r 119 ∧ r 119 ≤ 4 * L
theorem uBqs_d (h : uBqs L r) : uBd r := by
  obtain ⟨h0, h1, h2, h3, h4, h5, h6, h7, h8, h9, h10⟩ := h
  exact ⟨by omega, h2, by omega, by omega, by omega, by omega⟩
theorem uBqs_r (h : uBqs L r) (hv : uRv n r) : uRow n 0 r := by
  obtain ⟨h0, h1, h2, h3, h4, h5, h6, h7, h8, h9, h10⟩ := h
  exact ⟨hv, by omega, h2, by omega, by omega, by omega, by omega⟩
theorem uBqs_q (e : uRq r r') (h : uBqs L r) : uBqs L r' := by
  unfold uBqs
  rw [e 114 (by decide), e 115 (by decide), e 116 (by decide), e 117 (by decide), e 118 (by decide), e 119 (by decide)]
  exact h
theorem uBqs_t (hn0 : 0 ≤ n ∧ n ≤ 5) (hr : uRv n r) (hcd : cd = -1 ∨ ((0 ≤ cd ∧ cd < 61) ∧ (¬ r 0 = 7 → uCp n 0 cd r))) (hL : L < 60) (h : uBqs L r) : uBqs (L + 1) (uTu dr wp pr cnt W T n cd wt r) := by
  obtain ⟨h0, h1, h2, h3, h4, h5, h6, h7, h8, h9, h10⟩ := h
  have hi := (uTr_v (dr := dr) (wp := wp) (pr := pr) (cnt := cnt) (W := W) (T := T) (wt := wt) hn0 hr hcd 4 (by decide)).2
  have h9' := uTr_9 (dr := dr) (wp := wp) (pr := pr) (cnt := cnt) (W := W) (T := T) (wt := wt) hn0 hr hcd 4 (by decide)
  have tu : ∀ j, ¬ j = 114 → ¬ j = 115 → uTu dr wp pr cnt W T n cd wt r j = uTr dr wp pr cnt W T n cd wt r 4 j := fun j h1 h2 => by
    unfold uTu
    rw [if_neg h1, if_neg h2]
  have e116 : uTu dr wp pr cnt W T n cd wt r 116 = r 116 := (tu 116 (by decide) (by decide)).trans (hi 116 (by decide) (by decide))
  have e117 : uTu dr wp pr cnt W T n cd wt r 117 = r 117 := (tu 117 (by decide) (by decide)).trans (hi 117 (by decide) (by decide))
  have e118 : uTu dr wp pr cnt W T n cd wt r 118 = r 118 := (tu 118 (by decide) (by decide)).trans (hi 118 (by decide) (by decide))
  have e119 : uTu dr wp pr cnt W T n cd wt r 119 = uTr dr wp pr cnt W T n cd wt r 4 119 := tu 119 (by decide) (by decide)
  have e114 : uTu dr wp pr cnt W T n cd wt r 114 = r 114 + 1 := rfl
  have e115 : uTu dr wp pr cnt W T n cd wt r 115 = 0 := rfl
  have h94 : ((4 : Nat) : Int) = 4 := rfl
  exact ⟨by omega, by omega, by omega, by omega, by omega, by omega, by omega, by omega, fun _ _ => ⟨by omega, by omega⟩, by omega, by omega⟩
theorem uBqs_a (hn0 : 0 ≤ n ∧ n ≤ 5) (hr : uRv n r) (hc : 1 ≤ c ∧ c ≤ 56) (hac : uAc dr n c r) (h : uBqs L r) : uBqs L (uAx n c r) := by
  obtain ⟨h0, h1, h2, h3, h4, h5, h6, h7, h8, h9, h10⟩ := h
  have hg : ¬ r 114 = 0 ∧ r 115 = 0 := by
    rcases hac with g | g
    · omega
    · exact ⟨g.1, g.2.1⟩
  have h8 := h8 hg.2 (by omega)
  have vx := uRv_x hn0 hr hc
  have e : uAx n c r = uAl n (uAa c r) := if_neg (by omega)
  have hx : ∀ j, 41 ≤ j → uAl n (uAa c r) j = _ := fun j hj => (uAl_hi hn0.2 vx hj).trans (uAa_hi hc hj)
  have hp : 0 ≤ uPr c r ∧ uPr c r ≤ 180 := by
    unfold uPr
    rw [if_neg (by omega)]
    split <;> omega
  rw [e]
  have e114 : uAl n (uAa c r) 114 = r 114 := by
    rw [hx 114 (by decide), if_neg (by decide), if_neg (by decide), if_neg (by omega), if_neg (by omega)]
  have e115 : uAl n (uAa c r) 115 = 1 := by
    rw [hx 115 (by decide), if_neg (by decide), if_pos rfl]
  have e118 : uAl n (uAa c r) 118 = r 118 + uPr c r := by
    rw [hx 118 (by decide), if_pos rfl]
  have e119 : uAl n (uAa c r) 119 = r 119 := by
    rw [hx 119 (by decide), if_neg (by decide), if_neg (by decide), if_neg (by omega), if_neg (by omega)]
  have e116 : uAl n (uAa c r) 116 = if c < 36 then r 116 + 1 else r 116 := by
    rw [hx 116 (by decide), if_neg (by decide), if_neg (by decide)]
    by_cases cs : c < 36
    · rw [if_pos ⟨rfl, cs⟩, if_pos cs]
    · rw [if_neg (fun g => cs g.2), if_neg (by omega), if_neg cs]
  have e117 : uAl n (uAa c r) 117 = if c < 36 then r 117 else r 117 + 1 := by
    rw [hx 117 (by decide), if_neg (by decide), if_neg (by decide), if_neg (by omega)]
    by_cases cs : c < 36
    · rw [if_neg (fun g => g.2 cs), if_pos cs]
    · rw [if_pos ⟨rfl, cs⟩, if_neg cs]
  by_cases cs : c < 36
  · rw [if_pos cs] at e116 e117
    exact ⟨h0, by omega, by omega, by omega, by omega, by omega, by omega, by omega, fun g => by omega, by omega, by omega⟩
  · rw [if_neg cs] at e116 e117
    exact ⟨h0, by omega, by omega, by omega, by omega, by omega, by omega, by omega, fun g => by omega, by omega, by omega⟩
end
end
