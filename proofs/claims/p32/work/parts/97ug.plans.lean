/-! the reference plans -/
section
set_option maxRecDepth 100000


section
variable {ro : Nat → Nat × (Nat → Int32)} {d : Nat} {Q : Option Value → pmS → Prop} {dr wp pr : Int → Int} {n f k lv w : Int} {S : Int → Int} {a a' : xA} {b : xB} {ts : List Int}
def uBn (p : Bool) : Int := bif p then 1 else 0
theorem uBn_b {p : Bool} : 0 ≤ uBn p ∧ uBn p ≤ 1 := by
  cases p <;> decide
theorem uBn_z {p : Bool} : (uBn p = 0 ↔ p = false) ∧ (uBn p = 1 ↔ p = true) := by
  cases p <;> decide
/-- how deep a row of codes lies, where it runs safely -/
def uDl : List Int → Nat → Option Nat
  | [], d => some d
  | c :: cs, d => if c / 256 < 5 then uDl cs (d + 1) else if c / 256 = 7 then (if 1 ≤ d then uDl cs d else none) else (if 2 ≤ d then uDl cs (d - 1) else none)
/-- isHeld -/
theorem u187 (hA : xAr a) (hM : uMd f (10 * lv) a S) (hlv : 0 ≤ lv ∧ lv ≤ 4) (hf : 1 ≤ f ∧ f ≤ 3) (hk : 0 ≤ k ∧ k ≤ 2) (hS : uOk f S) (hlen : a 98 (3 * f + k) = (ts.length : Int)) (hl40 : ts.length ≤ 40) (hcd : ∀ (j : Nat) t, ts[j]? = some t → a 99 (60 * (3 * f + k) + (j : Int)) = t) (htv : ∀ t, t ∈ ts → uTv t) (hdl : uDl ts 0 ≠ none) (hne : ¬ uRun (uAt f S) (fun x => !x) (fun x y => x && y) (fun x y => x || y) ts [] = []) (h109 : ∀ j, 0 ≤ j → j < 60 → 0 ≤ a 109 j ∧ a 109 j ≤ 1) (hd : 2 ≤ d)
    (hQ : ∀ a' z, (∀ q j, q ≠ 109 → a' q j = a q j) → xAr a' → (∀ j, 0 ≤ j → j < 60 → 0 ≤ a' 109 j ∧ a' 109 j ≤ 1) → (z = 0 ∨ z = 1) → (z = 1 ↔ uHold f ts S = true) → Q (some (xV z)) (xS a' b)) : pmCs ro d 187 [.ref 87, xV lv, xV f, xV k] (xS a b) Q := by
  refine pmCs_deep (d := 2) (xg187 (w187 hlv hf hk ?_)) hd
  have loop : ∀ (m i : Nat) (nn : Int) (a1 : xA) (st : List Bool) (v7 : Option Value), ts.length - i ≤ m → i ≤ ts.length → (∀ q j, q ≠ 109 → a1 q j = a q j) → xAr a1 → (∀ j, 0 ≤ j → j < 60 → 0 ≤ a1 109 j ∧ a1 109 j ≤ 1) → nn = (st.length : Int) → st.length ≤ i → (∀ (j : Nat) p, st.reverse[j]? = some p → a1 109 (j : Int) = uBn p) → uDl (ts.drop i) st.length ≠ none → uRun (uAt f S) (fun x => !x) (fun x y => x && y) (fun x y => x || y) (ts.drop i) st = uRun (uAt f S) (fun x => !x) (fun x y => x && y) (fun x y => x || y) ts [] →
      pmWp ro 1 12 187 2 17 [some (.ref 87), some (xV lv), some (xV f), some (xV k), some (xV (3 * f + k)), some (xV nn), some (xV (60 * (3 * f + k) + (i : Int))), v7] [] (xS a1 b) Q := by
    intro m
    induction m with
    | zero =>
      intro i nn a1 st v7 hm hi h1 h2 h3 h4 h5 h6 h7 h8
      have ei : i = ts.length := by omega
      subst ei
      rw [List.drop_length] at h8
      have h8 : st = uRun (uAt f S) (fun x => !x) (fun x y => x && y) (fun x y => x || y) ts [] := h8
      have e0 := h6 0 _ (uBot_rev (e := false) st (by rw [h8]; exact hne))
      have e0 : a1 109 0 = uBn (uBot false st) := e0
      refine w187x hlv hf hk ⟨by omega, by omega⟩ ((h1 98 _ (by decide)).trans hlen) ⟨by omega, by omega⟩ ⟨by omega, by omega⟩ (h3 0 (by decide) (by decide)) ?_
      refine hQ a1 _ h1 h2 h3 (by have := h3 0 (by decide) (by decide); omega) ?_
      rw [e0, uBn_z.2, h8]
      exact Iff.rfl
    | succ m ih =>
      intro i nn a1 st v7 hm hi h1 h2 h3 h4 h5 h6 h7 h8
      by_cases ei : i = ts.length
      · subst ei
        rw [List.drop_length] at h8
        have h8 : st = uRun (uAt f S) (fun x => !x) (fun x y => x && y) (fun x y => x || y) ts [] := h8
        have e0 := h6 0 _ (uBot_rev (e := false) st (by rw [h8]; exact hne))
        have e0 : a1 109 0 = uBn (uBot false st) := e0
        refine w187x hlv hf hk ⟨by omega, by omega⟩ ((h1 98 _ (by decide)).trans hlen) ⟨by omega, by omega⟩ ⟨by omega, by omega⟩ (h3 0 (by decide) (by decide)) ?_
        refine hQ a1 _ h1 h2 h3 (by have := h3 0 (by decide) (by decide); omega) ?_
        rw [e0, uBn_z.2, h8]
        exact Iff.rfl
      · have hlt : i < ts.length := by omega
        obtain ⟨t, ht⟩ : ∃ t, ts[i]? = some t := ⟨_, List.getElem?_eq_some_iff.mpr ⟨hlt, rfl⟩⟩
        have htv' := htv t (List.mem_of_getElem? ht)
        have ht0 := htv'.1.1
        have h256 : t / 256 < 5 ∨ t = 1280 ∨ t = 1536 ∨ t = 1792 := htv'.2
        have hdr : ts.drop i = t :: ts.drop (i + 1) := by
          rw [List.drop_eq_getElem_cons hlt]
          congr 1
          exact (List.getElem?_eq_some_iff.mp ht).2
        rw [hdr, uRun_cons] at h8
        rw [hdr] at h7
        unfold uDl at h7
        have hcd1 : a1 99 (60 * (3 * f + k) + (i : Int)) = t := (h1 99 _ (by decide)).trans (hcd i t ht)
        have hlen1 : a1 98 (3 * f + k) = (ts.length : Int) := (h1 98 _ (by decide)).trans hlen
        have ei1 : 60 * (3 * f + k) + (i : Int) + 1 = 60 * (3 * f + k) + ((i + 1 : Nat) : Int) := by omega
        -- behind a code: the stack's top put
        have nx : ∀ (p : Bool) (r : List Bool) (x q nn' : Int) (v7 : Option Value), x = uBn p → q = (r.length : Int) → nn' = q + 1 → r.length ≤ i → (∀ (j : Nat) y, j < r.length → r.reverse[j]? = some y → a1 109 (j : Int) = uBn y) → uDl (ts.drop (i + 1)) (r.length + 1) ≠ none → uRun (uAt f S) (fun x => !x) (fun x y => x && y) (fun x y => x || y) (ts.drop (i + 1)) (p :: r) = uRun (uAt f S) (fun x => !x) (fun x y => x && y) (fun x y => x || y) ts [] →
            pmWp ro 1 12 187 2 17 [some (.ref 87), some (xV lv), some (xV f), some (xV k), some (xV (3 * f + k)), some (xV nn'), some (xV (60 * (3 * f + k) + (i : Int) + 1)), v7] [] (xS (xU a1 109 q x) b) Q := by
          intro p r x q nn' v7 e1 e2 e3 e4 e5 e6 e7
          have hx := @uBn_b p
          rw [ei1]
          refine ih (i + 1) nn' _ (p :: r) v7 (by omega) (by omega) (fun q' j hq => by rw [xUn hq]; exact h1 q' j hq) (xAr_u h2 ⟨by omega, by omega⟩) (fun j j0 j1 => ?_) (by rw [List.length_cons]; omega) (by rw [List.length_cons]; omega) (fun j y hy => ?_) e6 e7
          · by_cases c : j = q
            · rw [c, xUa]
              omega
            · rw [xUk c]
              exact h3 j j0 j1
          · rw [List.reverse_cons] at hy
            rcases uSnoc hy with ⟨g1, g2⟩ | ⟨g1, g2⟩
            · rw [List.length_reverse] at g2
              rw [xUk (by omega)]
              exact e5 j y g2 g1
            · rw [List.length_reverse] at g1
              rw [show (j : Int) = q by omega, xUa, g2, e1]
        by_cases h5' : t / 256 < 5
        · rw [if_pos h5'] at h8 h7
          refine w187t hlv hf hk ⟨by omega, by omega⟩ hlen1 ⟨by omega, by omega⟩ ⟨by omega, by omega⟩ ⟨by omega, by omega⟩ hcd1 ⟨by omega, by omega⟩ ⟨by omega, by omega⟩ h3 (fun e => by omega) (fun _ => ?_)
          refine u188 h2 (S := S) ⟨(h1 108 _ (by decide)).trans hM.1, fun x x0 x1 => (h1 108 _ (by decide)).trans (hM.2.1 x x0 x1), fun q q0 q1 => (h1 108 _ (by decide)).trans (hM.2.2 q q0 q1)⟩ ⟨by omega, by omega⟩ hf hS htv'.1 h5' (by decide) (fun z hz hza => ?_)
          refine w187b ⟨by omega, by omega⟩ hz ?_
          refine nx (uAt f S t) st z nn (nn + 1) _ ?_ h4 rfl h5 (fun j y _ hy => h6 j y hy) h7 h8
          cases e : uAt f S t with
          | true => exact hza.mpr e
          | false =>
            rcases hz with g | g
            · exact g
            · rw [hza, e] at g
              cases g
        · rw [if_neg h5'] at h8 h7
          by_cases t7 : t = 1792
          · rw [if_pos (by omega)] at h8 h7
            match st, h4, h5, h6, h7, h8 with
            | [], _, _, _, h7, _ =>
              rw [if_neg (by decide)] at h7
              exact absurd rfl h7
            | x :: r, h4, h5, h6, h7, h8 =>
              rw [if_pos (by rw [List.length_cons]; omega)] at h7
              rw [List.length_cons] at h4 h5
              have k0 := h6 r.length x (by rw [List.reverse_cons, List.getElem?_append_right (by rw [List.length_reverse]; exact Nat.le_refl _), List.length_reverse, Nat.sub_self]; rfl)
              rw [show ((r.length : Nat) : Int) = nn - 1 by omega] at k0
              have low : ∀ (j : Nat) y, j < r.length → r.reverse[j]? = some y → a1 109 (j : Int) = uBn y := fun j y hj hy => h6 j y (by rw [List.reverse_cons, List.getElem?_append_left (by rw [List.length_reverse]; exact hj)]; exact hy)
              refine w187n hlv hf hk ⟨by omega, by omega⟩ hlen1 ⟨by omega, by omega⟩ ⟨by omega, by omega⟩ ⟨by omega, by omega⟩ hcd1 ⟨by omega, by omega⟩ (by omega) (by omega) h3 (fun e => by omega) (fun _ e2 => ?_) (fun _ e2 => ?_)
              · refine nx (!x) r _ _ _ _ ?_ (by omega) (by omega) (by omega) low h7 h8
                rw [k0] at e2
                cases x with
                | true => rfl
                | false => exact absurd rfl e2
              · refine nx (!x) r _ _ _ _ ?_ (by omega) (by omega) (by omega) low h7 h8
                rw [k0, uBn_z.1] at e2
                rw [e2]
                rfl
          · rw [if_neg (by omega)] at h8 h7
            match st, h4, h5, h6, h7, h8 with
            | [], _, _, _, h7, _ =>
              rw [if_neg (by decide)] at h7
              exact absurd rfl h7
            | [x0], _, _, _, h7, _ =>
              rw [if_neg (show ¬ 2 ≤ [x0].length from (by decide : ¬ 2 ≤ 1))] at h7
              exact absurd rfl h7
            | y :: x :: r, h4, h5, h6, h7, h8 =>
              rw [if_pos (by rw [List.length_cons, List.length_cons]; omega)] at h7
              rw [List.length_cons, List.length_cons] at h4 h5
              have h7 : uDl (ts.drop (i + 1)) (r.length + 1) ≠ none := h7
              have k1 := h6 (r.length + 1) y (by rw [List.reverse_cons, List.getElem?_append_right (by rw [List.length_reverse, List.length_cons]; exact Nat.le_refl _), List.length_reverse, List.length_cons, Nat.sub_self]; rfl)
              have k0 := h6 r.length x (by rw [List.reverse_cons, List.reverse_cons, List.append_assoc, List.getElem?_append_right (by rw [List.length_reverse]; exact Nat.le_refl _), List.length_reverse, Nat.sub_self]; rfl)
              rw [show (((r.length + 1 : Nat)) : Int) = nn - 1 by omega] at k1
              rw [show ((r.length : Nat) : Int) = nn - 1 - 1 by omega] at k0
              have low : ∀ (j : Nat) z, j < r.length → r.reverse[j]? = some z → a1 109 (j : Int) = uBn z := fun j z hj hz => h6 j z (by rw [List.reverse_cons, List.reverse_cons, List.append_assoc, List.getElem?_append_left (by rw [List.length_reverse]; exact hj)]; exact hz)
              by_cases t5 : t = 1280
              · have h8 : uRun (uAt f S) (fun x => !x) (fun x y => x && y) (fun x y => x || y) (ts.drop (i + 1)) ((if t / 256 = 5 then (x && y) else (x || y)) :: r) = uRun (uAt f S) (fun x => !x) (fun x y => x && y) (fun x y => x || y) ts [] := h8
                rw [if_pos (by omega)] at h8
                refine w187a hlv hf hk ⟨by omega, by omega⟩ hlen1 ⟨by omega, by omega⟩ ⟨by omega, by omega⟩ ⟨by omega, by omega⟩ hcd1 ⟨by omega, by omega⟩ (by omega) (by omega) h3 (fun e => by omega) (fun _ e2 => ?_) (fun _ e2 e3 => ?_) (fun _ e2 e3 => ?_)
                · refine nx (x && y) r _ _ _ _ ?_ (by omega) (by omega) (by omega) low h7 h8
                  rw [k0, uBn_z.1] at e2
                  rw [e2]
                  rfl
                · refine nx (x && y) r _ _ _ _ ?_ (by omega) (by omega) (by omega) low h7 h8
                  rw [k1, uBn_z.1] at e3
                  rw [e3, Bool.and_false]
                  rfl
                · refine nx (x && y) r _ _ _ _ ?_ (by omega) (by omega) (by omega) low h7 h8
                  rw [k0] at e2
                  rw [k1] at e3
                  cases x with
                  | false => exact absurd rfl e2
                  | true =>
                    cases y with
                    | false => exact absurd rfl e3
                    | true => rfl
              · have h8 : uRun (uAt f S) (fun x => !x) (fun x y => x && y) (fun x y => x || y) (ts.drop (i + 1)) ((if t / 256 = 5 then (x && y) else (x || y)) :: r) = uRun (uAt f S) (fun x => !x) (fun x y => x && y) (fun x y => x || y) ts [] := h8
                rw [if_neg (by omega)] at h8
                refine w187o hlv hf hk ⟨by omega, by omega⟩ hlen1 ⟨by omega, by omega⟩ ⟨by omega, by omega⟩ ⟨by omega, by omega⟩ hcd1 ⟨by omega, by omega⟩ (by omega) (by omega) h3 (fun e => by omega) (fun _ e2 => ?_) (fun _ e2 e3 => ?_) (fun _ e2 e3 => ?_)
                · refine nx (x || y) r _ _ _ _ ?_ (by omega) (by omega) (by omega) low h7 h8
                  rw [k0] at e2
                  cases x with
                  | false => exact absurd rfl e2
                  | true => rfl
                · refine nx (x || y) r _ _ _ _ ?_ (by omega) (by omega) (by omega) low h7 h8
                  rw [k0, uBn_z.1] at e2
                  rw [k1, uBn_z.1] at e3
                  rw [e2, e3]
                  rfl
                · refine nx (x || y) r _ _ _ _ ?_ (by omega) (by omega) (by omega) low h7 h8
                  rw [k1] at e3
                  cases y with
                  | false => exact absurd rfl e3
                  | true =>
                    rw [Bool.or_true]
                    rfl
  have h0 := loop ts.length 0 0 a [] none (by omega) (by omega) (fun _ _ _ => rfl) hA h109 rfl (Nat.le_refl _) (fun j p h => by cases h) hdl rfl
  rw [show 60 * (3 * f + k) + ((0 : Nat) : Int) = 60 * (3 * f + k) by omega] at h0
  exact h0
end
end
