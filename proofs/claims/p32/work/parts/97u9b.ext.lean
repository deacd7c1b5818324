/-! exact: the search for a plan -/
section
set_option maxRecDepth 100000


section
variable {Ln : Nat} {xs : Nat → Int32} {d : Nat} {Q : Option Value → pmS → Prop} {dr wp c pr : Int → Int} {n f wr : Int} {ts : List Int} {l : Int64} {a0 a a' : xA} {b b' : xB}
def u1 : Int → Int := fun _ => 1
/-- what the search stands on, in the class's heap -/
def uPs (dr wp c : Int → Int) (n wr : Int) (ts : List Int) (a0 a : xA) (b : xB) : Prop := xAr a ∧ uKs dr wp n a b ∧ (∀ k, a 6 k = a0 6 k) ∧ (∀ k, 0 ≤ k → 0 ≤ a 6 k ∧ a 6 k ≤ 99) ∧ (∀ k, 0 ≤ k → k < 7 → a 5 k = c k) ∧ a 9 wr = (ts.length : Int) ∧ ∀ (j : Nat) t, ts[j]? = some t → a 8 (wr * 40 + (j : Int)) = cT t
/-- and what never changes -/
def uPe (dr wp c pr : Int → Int) (f wr : Int) (ts : List Int) (a0 : xA) : Prop := uSe dr wp c u1 pr (uV a0 c) (uV a0 u1) f ts ∧ ts.length ≤ 40 ∧ (∀ t, t ∈ ts → uTv t) ∧ 0 ≤ wr ∧ wr ≤ 11
/-- nothing changed but the planner's notes, the best cost, the best -/
def uXc (a a' : xA) (b b' : xB) : Prop := (∀ q j, q ≠ 37 → q ≠ 38 → q ≠ 39 → q ≠ 40 → q ≠ 41 → q ≠ 42 → ¬ (q = 34 ∧ j = 13) → a' q j = a q j) ∧ ∀ q j, ¬ (q = 34 ∧ j = 14) → b' q j = b q j
theorem uXc_r : uXc a a b b := ⟨fun _ _ _ _ _ _ _ _ _ => rfl, fun _ _ _ => rfl⟩
theorem uXc_t {a'' : xA} {b'' : xB} (h : uXc a a' b b') (h' : uXc a' a'' b' b'') : uXc a a'' b b'' := ⟨fun q j e1 e2 e3 e4 e5 e6 e7 => (h'.1 q j e1 e2 e3 e4 e5 e6 e7).trans (h.1 q j e1 e2 e3 e4 e5 e6 e7), fun q j e => (h'.2 q j e).trans (h.2 q j e)⟩
theorem uXc_s (h : uSc a a') : uXc a a' b b := ⟨fun q j e1 e2 e3 e4 e5 e6 _ => h q j e1 e2 e3 e4 e5 e6, fun _ _ _ => rfl⟩
theorem uKs_f (hK : uKs dr wp n a b) (h3 : ∀ k, a' 3 k = a 3 k) (h4 : ∀ k, a' 4 k = a 4 k) (hb : b' 3 3 = b 3 3) : uKs dr wp n a' b' := by
  obtain ⟨k1, k2, k3, k4, k5⟩ := hK
  exact ⟨fun k k0 k9 => by rw [hb]; exact k1 k k0 k9, fun i i0 i5 => by rw [h3]; exact k2 i i0 i5, by rw [h3]; exact k3, k4, fun k k0 k6 => by rw [h4]; exact k5 k k0 k6⟩
theorem uPs_x (h : uPs dr wp c n wr ts a0 a b) (hA : xAr a') (hf : ∀ q j, q = 3 ∨ q = 4 ∨ q = 5 ∨ q = 6 ∨ q = 8 ∨ q = 9 → a' q j = a q j) (hb : b' 3 3 = b 3 3) : uPs dr wp c n wr ts a0 a' b' := by
  obtain ⟨k1, k2, k3, k4, k5, k6, k7⟩ := h
  refine ⟨hA, uKs_f k2 (fun k => hf 3 k (by decide)) (fun k => hf 4 k (by decide)) hb, fun k => (hf 6 k (by decide)).trans (k3 k), fun k k0 => by rw [hf 6 k (by decide)]; exact k4 k k0, fun k k0 k9 => (hf 5 k (by decide)).trans (k5 k k0 k9), (hf 9 wr (by decide)).trans k6, fun j t ht => (hf 8 _ (by decide)).trans (k7 j t ht)⟩
theorem uPs_xc (h : uPs dr wp c n wr ts a0 a b) (hx : uXc a a' b b') (hA : xAr a') : uPs dr wp c n wr ts a0 a' b' := uPs_x h hA (fun q j e => hx.1 q j (by omega) (by omega) (by omega) (by omega) (by omega) (by omega) (by omega)) (hx.2 3 3 (by decide))
theorem uRun_ne {α β : Type} {A : Int → α} {n1 : α → α} {a1 o1 : α → α → α} {B : Int → β} {n2 : β → β} {a2 o2 : β → β → β} (h : ¬ uRun A n1 a1 o1 ts [] = []) : ¬ uRun B n2 a2 o2 ts [] = [] := by
  have hr := uRun_rel (R := fun (_ : α) (_ : β) => True) (A1 := A) (n1 := n1) (a1 := a1) (o1 := o1) (A2 := B) (n2 := n2) (a2 := a2) (o2 := o2) (fun _ _ _ => trivial) (fun _ _ _ _ _ _ => trivial) (fun _ _ _ _ _ _ => trivial) ts (fun _ _ _ => trivial) [] [] trivial
  have hl := uF2_len hr
  intro e
  rw [e] at hl
  exact h (List.length_eq_zero_iff.mp hl)
/-- one measuring, weighing, folding -/
theorem uNd {cp : Nat} {cc : Int → Int} (hcc : (cp = 1000 ∧ cc = u1) ∨ (cp = 5 ∧ cc = c)) (hE : uPe dr wp c pr f wr ts a0) (hP : uPs dr wp c n wr ts a0 a b) (hf : a 34 10 = f) (hw : a 34 11 = wr) (hS : uOk f (uSl l)) (hd : 1 ≤ d) (hQ : ∀ a', uSc a a' → xAr a' → Q (some (xV (uH (uV a0 cc) cc wp f ts (uSl l)))) (xS a' b)) : pmCs (pmRo Ln xs) d 73 [.ref 34, .long l, .ref cp] (xS a b) fun r σ1 => ∃ a1, r = none ∧ σ1 = xS a1 b ∧ pmCs (pmRo Ln xs) d 74 [.ref 34, .long l, .ref cp] (xS a1 b) fun r σ2 => ∃ a2, r = none ∧ σ2 = xS a2 b ∧ pmCs (pmRo Ln xs) d 75 [.ref 34] (xS a2 b) Q := by
  obtain ⟨hA, hK, h6, hW, h5, h9, h8⟩ := hP
  obtain ⟨hSe, hl40, htv, hw0, hw1⟩ := hE
  have hf0 := hSe.2.2.1
  have hVo : uVo dr (uV a0 cc) cc := by
    rcases hcc with ⟨_, e⟩ | ⟨_, e⟩
    · rw [e]
      exact hSe.2.1
    · rw [e]
      exact hSe.1
  have hcb : ∀ k, 1 ≤ k → k < 6 → 1 ≤ cc k ∧ cc k ≤ 73 := fun k k0 k1 => hVo.2.2 k k0 (by omega)
  have hco : uCo a cc cp := by
    rcases hcc with ⟨e1, e2⟩ | ⟨e1, e2⟩
    · exact Or.inl ⟨e1, fun k _ _ => by rw [e2]; rfl⟩
    · exact Or.inr ⟨e1, fun k k0 k1 => by rw [e2]; exact h5 k k0 k1⟩
  have eV : uV a cc = uV a0 cc := by
    funext x y
    show a 6 _ * _ = a0 6 _ * _
    rw [h6]
  refine u73 (wp := wp) hA hf hf0 hS.1 hW hK.2.1 hco hcb hd (fun a1 s1 A1 g41 g40 => ⟨a1, rfl, rfl, ?_⟩)
  rw [eV] at g41 g40
  refine u74 (wp := wp) (a0 := a0) A1 ((s1 34 10 (by decide) (by decide) (by decide) (by decide) (by decide) (by decide)).trans hf) hf0 ((s1 34 11 (by decide) (by decide) (by decide) (by decide) (by decide) (by decide)).trans hw) ⟨hw0, hw1⟩ ((s1 9 wr (by decide) (by decide) (by decide) (by decide) (by decide) (by decide)).trans h9) hl40 hS.1 (fun k k0 => by rw [s1 6 k (by decide) (by decide) (by decide) (by decide) (by decide) (by decide)]; exact hW k k0) (uSc_c s1 hco) hcb (fun j t ht => (s1 8 _ (by decide) (by decide) (by decide) (by decide) (by decide) (by decide)).trans (h8 j t ht)) htv (fun k => (s1 6 k (by decide) (by decide) (by decide) (by decide) (by decide) (by decide)).trans (h6 k)) g41 g40 (fun x x0 x1 => ?_) (fun q q0 q1 => ?_) hd (fun a2 s2 A2 gy => ⟨a2, rfl, rfl, ?_⟩)
  · have := uHd_b hVo hf0 hS x0 x1
    exact ⟨⟨this.1, this.2.1⟩, this.2.2.2.1, by omega⟩
  · unfold uHt
    split
    · decide
    · have h1 := uAm_le (H := uHd (uV a0 cc) cc f (uSl l)) (wp := wp)
      have h2 := h1.2.2 (fun y y0 y1 => (uHd_b hVo hf0 hS y0 y1).1)
      have h3 := hcb 5 (by decide) (by decide)
      have hS1 := hS.1
      have h4 : 0 ≤ uMt (uV a0 cc) f (uSl l) q ∧ uMt (uV a0 cc) f (uSl l) q ≤ 100000 := by
        unfold uMt
        split
        · have := (hVo.1 (uSl l f - 1) (uSl l q - 1) (by omega) (by omega) (by omega) (by omega)).1
          omega
        · omega
      unfold uMax
      split <;> omega
  · have s2' : uSc a a2 := fun q j e1 e2 e3 e4 e5 e6 => (s2 q j e1 e2).trans (s1 q j e1 e2 e3 e4 e5 e6)
    refine u75 (A := uYN (uV a0 cc) cc wp f (uSl l)) A2 ((s2' 34 11 (by decide) (by decide) (by decide) (by decide) (by decide) (by decide)).trans hw) ⟨hw0, hw1⟩ ((s2' 9 wr (by decide) (by decide) (by decide) (by decide) (by decide) (by decide)).trans h9) hl40 (fun j t ht => (s2' 8 _ (by decide) (by decide) (by decide) (by decide) (by decide) (by decide)).trans (h8 j t ht)) htv gy (uRun_ne (hSe.2.2.2.2.1 (uSl l))) hd (fun a3 s3 A3 => hQ a3 (fun q j e1 e2 e3 e4 e5 e6 => (s3 q j e1 e2).trans (s2' q j e1 e2 e3 e4 e5 e6)) A3)
theorem uMin_l {x y : Int} : uMin x y ≤ x ∧ uMin x y ≤ y ∧ (uMin x y = x ∨ uMin x y = y) := by
  unfold uMin
  split <;> omega
theorem u78 {ro : Nat → Nat × (Nat → Int32)} (hc : ∀ i, 1 ≤ i → i ≤ 5 → 1 ≤ a 5 i ∧ a 5 i ≤ 73) (hd : 1 ≤ d) (hQ : ∀ ch, 1 ≤ ch ∧ ch ≤ 73 → (∀ i, 1 ≤ i → i ≤ 5 → ch ≤ a 5 i) → Q (some (xV ch)) (xS a b)) : pmCs ro d 78 [.ref 3] (xS a b) Q := by
  refine pmCs_deep (d := 1) (xg78 (w78 hc ?_)) hd
  have c1 := hc 1 (by decide) (by decide)
  have c2 := hc 2 (by decide) (by decide)
  have c3 := hc 3 (by decide) (by decide)
  have c4 := hc 4 (by decide) (by decide)
  have c5 := hc 5 (by decide) (by decide)
  have m1 := @uMin_l (a 5 1) (a 5 2)
  have m2 := @uMin_l (uMin (a 5 1) (a 5 2)) (a 5 3)
  have m3 := @uMin_l (uMin (uMin (a 5 1) (a 5 2)) (a 5 3)) (a 5 4)
  have m4 := @uMin_l (uMin (uMin (uMin (a 5 1) (a 5 2)) (a 5 3)) (a 5 4)) (a 5 5)
  refine hQ (uMin (uMin (uMin (uMin (a 5 1) (a 5 2)) (a 5 3)) (a 5 4)) (a 5 5)) ⟨by omega, by omega⟩ (fun i i0 i1 => ?_)
  have : i = 1 ∨ i = 2 ∨ i = 3 ∨ i = 4 ∨ i = 5 := by omega
  rcases this with e | e | e | e | e <;> (subst e; omega)
/-- extend -/
theorem u79 (hE : uPe dr wp c pr f wr ts a0) : ∀ (m : Nat) (dp sp : Int) (l row : Int64) (rl : List Int) (a : xA) (b : xB) (d : Nat) (Q : Option Value → pmS → Prop), m ≤ 4 → uPs dr wp c n wr ts a0 a b → a 34 10 = f → a 34 11 = wr → a 34 12 = dp + (m : Int) → dp = (rl.length : Int) → dp + (m : Int) ≤ 4 → (∀ k, k ∈ rl → 0 ≤ k ∧ k < 41) → uN row = uRw rl → uOk f (uSl l) → 0 ≤ sp ∧ sp ≤ 73 * dp → 0 ≤ a 34 13 ∧ a 34 13 ≤ 100000 → m + 2 ≤ d →
    (∀ a' b', uXc a a' b b' → xAr a' → (a' 34 13, b' 34 14) = uMg sp rl (a 34 13, b 34 14) (uOpt dr wp pr f ts m (uSl l)) → 0 ≤ a' 34 13 ∧ a' 34 13 ≤ 100000 → Q none (xS a' b')) → pmCs (pmRo Ln xs) d 79 [.ref 34, .long l, xV dp, xV sp, .long row] (xS a b) Q := by
  have hSe := hE.1
  have hf0 := hSe.2.2.1
  have hcc := hSe.2.2.2.2.2.1
  intro m
  induction m with
  | zero =>
    intro dp sp l row rl a b d Q hm4 hP hf hw hli hdp hd4 hrl hrow hS hsp hbc hd hQ
    refine pmCs_deep (d := 1) (xg79 (w79 hli ⟨by omega, by omega⟩ ⟨by omega, by omega⟩ (fun _ => hQ a b uXc_r hP.1 rfl hbc) (fun e => by omega) (fun _ _ => hQ a b uXc_r hP.1 rfl hbc))) (by omega)
  | succ m IH =>
    intro dp sp l row rl a b d Q hm4 hP hf hw hli hdp hd4 hrl hrow hS hsp hbc hd hQ
    obtain ⟨d, rfl⟩ : ∃ e, d = e + 1 := ⟨d - 1, by omega⟩
    refine xg79 (w79 hli ⟨by omega, by omega⟩ ⟨by omega, by omega⟩ (fun e => by omega) (fun _ _ => ?_) (fun _ e => by omega))
    -- the loop over codes
    have loop : ∀ (q k : Nat) (a1 : xA) (b1 : xB) (v9 v10 v11 v12 v13 v14 v15 : Option Value), 41 - k ≤ q → k ≤ 41 → uXc a a1 b b1 → xAr a1 → (a1 34 13, b1 34 14) = uMg sp rl (a 34 13, b 34 14) (uFo (uOne dr wp pr f ts m (uSl l)) k) → 0 ≤ a1 34 13 ∧ a1 34 13 ≤ 100000 →
        pmWp (pmRo Ln xs) d 3 79 0 23 [some (.ref 34), some (.long l), none, some (xV dp), some (xV sp), some (.long row), none, some (.ref 3), some (xV ((k : Int) + 1)), v9, v10, v11, v12, v13, v14, v15] [] (xS a1 b1) Q := by
      intro q
      induction q with
      | zero =>
        intro k a1 b1 v9 v10 v11 v12 v13 v14 v15 hq hk h1 h2 h3 h4
        have ek : k = 41 := by omega
        subst ek
        exact w79x (hQ a1 b1 h1 h2 h3 h4)
      | succ q ih =>
        intro k a1 b1 v9 v10 v11 v12 v13 v14 v15 hq hk h1 h2 h3 h4
        by_cases ek : k = 41
        · subst ek
          exact w79x (hQ a1 b1 h1 h2 h3 h4)
        have hP1 := uPs_xc hP h1 h2
        have hf1 : a1 34 10 = f := (h1.1 34 10 (by decide) (by decide) (by decide) (by decide) (by decide) (by decide) (by decide)).trans hf
        have hw1 : a1 34 11 = wr := (h1.1 34 11 (by decide) (by decide) (by decide) (by decide) (by decide) (by decide) (by decide)).trans hw
        have hl1 : a1 34 12 = dp + ((m + 1 : Nat) : Int) := (h1.1 34 12 (by decide) (by decide) (by decide) (by decide) (by decide) (by decide) (by decide)).trans hli
        have hkk : (0 : Int) ≤ (k : Int) ∧ (k : Int) < 41 := ⟨by omega, by omega⟩
        obtain ⟨d0, d1, d2, d3, d4⟩ := uD_p (k := (k : Int)) ⟨by omega, by omega⟩
        have hKe := @uK_e (k : Int)
        have hdd : 64 ≤ uD (k : Int) ∧ uD (k : Int) ≤ 383 := by
          have := d3 (by omega)
          omega
        have hde : a1 4 ((k : Int) + 1) = uD (k : Int) := hP1.2.1.2.2.2.2 k (by omega) (by omega)
        have hK5 : 1 ≤ uK (k : Int) ∧ uK (k : Int) ≤ 5 := by omega
        have hcs : a1 5 (uD (k : Int) / 64) = uCs pr (k : Int) := by
          rw [d2, hP1.2.2.2.2.1 _ (by omega) (by omega), hcc _ hK5.1 hK5.2]
          rfl
        have hcb := uCs_b hSe hkk
        -- on with the next code
        have nx : ∀ (a2 : xA) (b2 : xB) (v9 v10 v11 v12 v13 v14 v15 : Option Value), uXc a1 a2 b1 b2 → xAr a2 → (a2 34 13, b2 34 14) = uMg sp rl (a1 34 13, b1 34 14) (uOne dr wp pr f ts m (uSl l) k) → 0 ≤ a2 34 13 ∧ a2 34 13 ≤ 100000 →
            pmWp (pmRo Ln xs) d 3 79 0 23 [some (.ref 34), some (.long l), none, some (xV dp), some (xV sp), some (.long row), none, some (.ref 3), some (xV ((k : Int) + 1 + 1)), v9, v10, v11, v12, v13, v14, v15] [] (xS a2 b2) Q := by
          intro a2 b2 v9 v10 v11 v12 v13 v14 v15 g1 g2 g3 g4
          refine ih (k + 1) a2 b2 v9 v10 v11 v12 v13 v14 v15 (by omega) (by omega) (uXc_t h1 g1) g2 ?_ g4
          rw [uMg_s, ← h3]
          exact g3
        have same : ∀ a2 : xA, uSc a1 a2 → (a2 34 13, b1 34 14) = (a1 34 13, b1 34 14) := fun a2 s => by rw [s 34 13 (by decide) (by decide) (by decide) (by decide) (by decide) (by decide)]
        have same0 : ∀ a2 : xA, uSc a1 a2 → 0 ≤ a2 34 13 ∧ a2 34 13 ≤ 100000 := fun a2 s => by rw [s 34 13 (by decide) (by decide) (by decide) (by decide) (by decide) (by decide)]; exact h4
        refine w79a hl1 ⟨by omega, by omega⟩ rfl h4 ⟨by omega, by omega⟩ ⟨hsp.1, by omega⟩ ⟨by omega, by omega⟩ hde hdd hf1 hf0 hcs ⟨by omega, hcb.2⟩ (fun e => by omega) (fun e1 e2 => ?_) (fun e1 e2 => ?_)
        · exact nx a1 b1 _ _ _ _ _ _ _ uXc_r h2 (by rw [uMg_c (row := rl) hSe (by omega) e2]) h4
        · have e2 : sp + uCs pr (k : Int) < a1 34 13 := by omega
          have hco : 0 ≤ sp + uCs pr (k : Int) ∧ sp + uCs pr (k : Int) ≤ 500 := ⟨by omega, by omega⟩
          have hca : uCa dr wp n f (uSl l) k ↔ uCan dr wp f (uSl l) k := by
            unfold uCa
            rw [if_pos (by omega)]
            constructor
            · rintro (h | h)
              · omega
              · exact h.2
            · exact fun h => Or.inr ⟨hS.1, h⟩
          refine u80 hP1.1 hP1.2.1 ⟨by omega, by omega⟩ ⟨by omega, by omega⟩ (by omega) (fun hc => ?_) (fun hc => ?_)
          · rw [hca] at hc
            refine w79b ⟨by omega, by omega⟩ hdd hco hf1 (Or.inr rfl) (fun _ => ?_) (fun e => by omega)
            refine u81 ⟨by omega, by omega⟩ ⟨by omega, by omega⟩ (by omega) (fun l2 hl2 => ?_)
            have hS2 : uOk f (uApp f (uSl l) k) := uOk_app hf0 hS hkk hc
            -- the slots of the view behind the deed
            have hq : uQ (uSl l2) (uApp f (uSl l) k) := fun j j0 j1 => hl2 j j0 (by omega)
            have eH : ∀ (V : Int → Int → Int) (cc : Int → Int), uH V cc wp f ts (uSl l2) = uH V cc wp f ts (uApp f (uSl l) k) ∧ uHold f ts (uSl l2) = uHold f ts (uApp f (uSl l) k) ∧ uOpt dr wp pr f ts m (uSl l2) = uOpt dr wp pr f ts m (uApp f (uSl l) k) := fun V cc => ⟨uQ_H hq hf0 hSe.2.2.2.1, uQ_hold hq hf0 hSe.2.2.2.1, uQ_opt hf0 hSe.2.2.2.1 m _ _ hq⟩
            have hS2' : uOk f (uSl l2) := by
              obtain ⟨q1, q2, q3⟩ := hS2
              refine ⟨by rw [hl2 f (by omega) (by omega)]; exact q1, fun q q0 q4 => by rw [hl2 q q0 (by omega)]; exact q2 q q0 q4, fun x x0 x5 => by rw [hl2 (4 + x) (by omega) (by omega)]; exact q3 x x0 x5⟩
            refine w79c ⟨by omega, by omega⟩ hdd hco ⟨by omega, by omega⟩ ?_
            -- the row, one longer
            have hNr : uN (row ||| xShL (Int64.ofInt (uD (k : Int))) (9 * dp)) = uRw (rl ++ [(k : Int)]) := by
              have hb := uRw_b rl (fun x hx => by have := hrl x hx; omega)
              have e9 : (9 * dp).toNat = 9 * rl.length := by omega
              have ep : (512 : Nat) ^ rl.length = 2 ^ (9 * rl.length) := by
                rw [show (512 : Nat) = 2 ^ 9 from rfl, ← Nat.pow_mul]
              have hsm : (uD (k : Int)).toNat * 2 ^ (9 * rl.length) < 2 ^ 64 := by
                have h27 : 2 ^ (9 * rl.length) ≤ 2 ^ 27 := Nat.pow_le_pow_right (by decide) (by omega)
                have : (uD (k : Int)).toNat * 2 ^ (9 * rl.length) ≤ 448 * 2 ^ 27 := Nat.mul_le_mul (by omega) h27
                have e : 448 * 2 ^ 27 < 2 ^ 64 := by decide
                omega
              have hs := uN_shl (l := Int64.ofInt (uD (k : Int))) (k := 9 * dp) (by omega) (by omega) (by rw [uN_of d0 (by omega), e9]; exact hsm)
              rw [uN_of d0 (by omega), e9] at hs
              rw [uN_or (n := 9 * rl.length) (q := (uD (k : Int)).toNat) (by rw [hrow, ← ep]; exact hb) hs, hrow, uRw_s, ep]
            have hrl' : ∀ x, x ∈ rl ++ [(k : Int)] → 0 ≤ x ∧ x < 41 := fun x hx => by
              rcases List.mem_append.mp hx with h | h
              · exact hrl x h
              · rw [List.mem_singleton] at h
                omega
            refine pmCs_mono (uNd (Or.inl ⟨rfl, rfl⟩) hE hP1 hf1 hw1 hS2' (by omega) (Q := fun r σ => ∃ a2, r = some (xV (uH (uV a0 u1) u1 wp f ts (uSl l2))) ∧ σ = xS a2 b1 ∧ uSc a1 a2 ∧ xAr a2) (fun a2 s2 A2 => ⟨a2, rfl, rfl, s2, A2⟩)) ?_
            rintro r σ ⟨a2, rfl, rfl, h74⟩
            refine w79d ⟨by omega, by omega⟩ hdd hco ?_
            refine pmCs_mono h74 ?_
            rintro r σ ⟨a3, rfl, rfl, h75⟩
            refine w79e ⟨by omega, by omega⟩ hdd hco ?_
            refine pmCs_mono h75 ?_
            rintro r σ ⟨a4, rfl, rfl, s4, A4⟩
            have hz := uH_z (wp := wp) hSe.2.1 hf0 hS2 hSe.2.2.2.1 (hSe.2.2.2.2.1 (uApp f (uSl l) k))
            have hzb : uH (uV a0 u1) u1 wp f ts (uSl l2) ≤ 2000000 := Int.le_trans (uH_b hSe.2.1 hf0 hS2' hSe.2.2.2.1) (by decide)
            rw [(eH (uV a0 u1) u1).1] at hzb ⊢
            refine w79f ⟨by omega, by omega⟩ hdd hco ⟨hz.1, hzb⟩ ((s4 34 12 (by decide) (by decide) (by decide) (by decide) (by decide) (by decide)).trans hl1) ⟨by omega, by omega⟩ ⟨by omega, by omega⟩ (fun g1 g2 => ?_) (fun g1 g2 => ?_) (fun g1 => ?_)
            · have hh : uHold f ts (uApp f (uSl l) k) = false := by
                cases e : uHold f ts (uApp f (uSl l) k) with
                | false => rfl
                | true => exact absurd (hz.2.mpr e) g1
              exact nx a4 b1 _ _ _ _ _ _ _ (uXc_s s4) A4 ((same a4 s4).trans (uMg_u (row := rl) hSe hS hkk (by omega) hc hh (by omega)).symm) (same0 a4 s4)
            · have hh : uHold f ts (uApp f (uSl l) k) = false := by
                cases e : uHold f ts (uApp f (uSl l) k) with
                | false => rfl
                | true => exact absurd (hz.2.mpr e) g1
              have hP4 := uPs_xc hP1 (uXc_s (b := b1) s4) A4
              refine pmCs_mono (uNd (Or.inr ⟨rfl, rfl⟩) hE hP4 ((s4 34 10 (by decide) (by decide) (by decide) (by decide) (by decide) (by decide)).trans hf1) ((s4 34 11 (by decide) (by decide) (by decide) (by decide) (by decide) (by decide)).trans hw1) hS2' (by omega) (Q := fun r σ => ∃ a2, r = some (xV (uH (uV a0 c) c wp f ts (uSl l2))) ∧ σ = xS a2 b1 ∧ uSc a4 a2 ∧ xAr a2) (fun a2 s2 A2 => ⟨a2, rfl, rfl, s2, A2⟩)) ?_
              rintro r σ ⟨a5, rfl, rfl, h74'⟩
              refine w79g ⟨by omega, by omega⟩ hdd hco ?_
              refine pmCs_mono h74' ?_
              rintro r σ ⟨a6, rfl, rfl, h75'⟩
              refine w79h ⟨by omega, by omega⟩ hdd hco ?_
              refine pmCs_mono h75' ?_
              rintro r σ ⟨a7, rfl, rfl, s7', A7⟩
              have s7 : uSc a1 a7 := uSc_t s4 s7'
              have hz' := uH_z (wp := wp) hSe.1 hf0 hS2 hSe.2.2.2.1 (hSe.2.2.2.2.1 (uApp f (uSl l) k))
              have hzb' : uH (uV a0 c) c wp f ts (uSl l2) ≤ 2000000 := Int.le_trans (uH_b hSe.1 hf0 hS2' hSe.2.2.2.1) (by decide)
              rw [(eH (uV a0 c) c).1] at hzb' ⊢
              refine w79i ⟨by omega, by omega⟩ hdd hco ⟨hz'.1, hzb'⟩ (s7 34 13 (by decide) (by decide) (by decide) (by decide) (by decide) (by decide)) h4 (fun g3 => ?_) (fun g3 => ?_)
              · exact nx a7 b1 _ _ _ _ _ _ _ (uXc_s s7) A7 ((same a7 s7).trans (uMg_p (row := rl) hSe hS hkk (by omega) hc hh (by show a1 34 13 ≤ _; omega)).symm) (same0 a7 s7)
              · have hP7 := uPs_xc hP1 (uXc_s (b := b1) s7) A7
                refine IH (dp + 1) (sp + uCs pr (k : Int)) l2 _ (rl ++ [(k : Int)]) a7 b1 d _ (by omega) hP7 ((s7 34 10 (by decide) (by decide) (by decide) (by decide) (by decide) (by decide)).trans hf1) ((s7 34 11 (by decide) (by decide) (by decide) (by decide) (by decide) (by decide)).trans hw1) ((s7 34 12 (by decide) (by decide) (by decide) (by decide) (by decide) (by decide)).trans (by rw [hl1]; omega)) (by rw [List.length_append]; show dp + 1 = ((rl.length + 1 : Nat) : Int); omega) (by omega) hrl' hNr hS2' ⟨by omega, by omega⟩ (same0 a7 s7) (by omega) (fun a8 b8 x8 A8 hm8 hb8 => ?_)
                refine w79j ⟨by omega, by omega⟩ hdd hco ?_
                refine nx a8 b8 _ _ _ _ _ _ _ (uXc_t (uXc_s s7) x8) A8 ?_ hb8
                rw [hm8, same a7 s7, (eH (uV a0 c) c).2.2, uMg_r hc hh]
            · have hh : uHold f ts (uApp f (uSl l) k) = true := hz.2.mp g1
              have ep : (row ||| xShL (Int64.ofInt (uD (k : Int))) (9 * dp)) ||| xShL (Int64.ofInt (sp + uCs pr (k : Int))) 36 = uPl (rl ++ [(k : Int)]) (sp + uCs pr (k : Int)) := by
                apply uN_eq
                have hb := uRw_b (rl ++ [(k : Int)]) (fun x hx => by have := hrl' x hx; omega)
                have hl4 : (rl ++ [(k : Int)]).length ≤ 4 := by
                  rw [List.length_append]
                  show rl.length + 1 ≤ 4
                  omega
                have h4' : 512 ^ (rl ++ [(k : Int)]).length ≤ 2 ^ 36 := Nat.le_trans (Nat.pow_le_pow_right (by decide) hl4) (by decide)
                have hs := uN_shl (l := Int64.ofInt (sp + uCs pr (k : Int))) (k := 36) (by decide) (by decide) (by rw [uN_of hco.1 (by omega)]; have e : (36 : Int).toNat = 36 := rfl; rw [e]; omega)
                rw [uN_of hco.1 (by omega)] at hs
                rw [uN_or (n := 36) (q := (sp + uCs pr (k : Int)).toNat) (by rw [hNr]; omega) hs, hNr, uPl_N (fun x hx => by have := hrl' x hx; omega) hl4 hco.1 (by omega)]
              refine nx _ _ _ _ _ _ _ _ _ ⟨fun q j e1 e2 e3 e4 e5 e6 e7 => ?_, fun q j e => ?_⟩ (xAr_u A4 ⟨by omega, by omega⟩) ?_ (by rw [xUa]; omega)
              · have : xU a4 34 13 (sp + uCs pr (k : Int)) q j = a4 q j := if_neg e7
                rw [this]
                exact s4 q j e1 e2 e3 e4 e5 e6
              · exact if_neg e
              · rw [xUa, xUa, uMg_h (row := rl) hc hh e2, ep]
          · rw [hca] at hc
            refine w79b ⟨by omega, by omega⟩ hdd hco hf1 (Or.inl rfl) (fun e => absurd rfl e) (fun _ => ?_)
            exact nx a1 b1 _ _ _ _ _ _ _ uXc_r h2 (uMg_n (row := rl) hc).symm h4
    exact loop 41 0 a b none none none none none none none (by decide) (by decide) uXc_r hP.1 rfl hbc
end
end
