/-! the reference plays a turn -/
section
set_option maxRecDepth 100000


section
variable {ro : Nat → Nat × (Nat → Int32)} {d : Nat} {Q : Option Value → pmS → Prop} {dr wp pr cnt W : Int → Int} {T : Int → List Int} {n f p k c wt : Int} {r r' : Int → Int} {a a' : xA} {b b' : xB}
/-- the wish that a folk follows, the deed that it does -/
noncomputable def uWk (dr wp pr cnt W : Int → Int) (T : Int → List Int) (n : Int) (r : Int → Int) (f : Int) : Int := by
  classical
  exact if h : ∃ k, uChs (cnt f) (fun i => W (f * 3 + i)) (fun i => uFd dr wp pr (T (f * 3 + i)) f (uMn n r f)) k then Classical.choose h else -1
theorem uWk_e (h : uChs (cnt f) (fun i => W (f * 3 + i)) (fun i => uFd dr wp pr (T (f * 3 + i)) f (uMn n r f)) k) : uWk dr wp pr cnt W T n r f = k := by
  unfold uWk
  have hx : ∃ k, uChs (cnt f) (fun i => W (f * 3 + i)) (fun i => uFd dr wp pr (T (f * 3 + i)) f (uMn n r f)) k := ⟨k, h⟩
  rw [dif_pos hx]
  exact uChs_u (Classical.choose_spec hx) h
noncomputable def uWd (dr wp pr cnt W : Int → Int) (T : Int → List Int) (n : Int) (r : Int → Int) (f : Int) : Int := if uWk dr wp pr cnt W T n r f = -1 then -1 else uFd dr wp pr (T (f * 3 + uWk dr wp pr cnt W T n r f)) f (uMn n r f)
/-- the deed of a person in a turn -/
noncomputable def uDc (dr wp pr cnt W : Int → Int) (T : Int → List Int) (n c wt p : Int) (r : Int → Int) : Int := if p = 0 then c else if p = wt then -1 else uWd dr wp pr cnt W T n r p
noncomputable def uS1 (dr wp pr cnt W : Int → Int) (T : Int → List Int) (n c wt p : Int) (r : Int → Int) : Int → Int := if r p = 7 ∨ uDc dr wp pr cnt W T n c wt p r = -1 then r else uDe n p (uDc dr wp pr cnt W T n c wt p r) r
noncomputable def uTr (dr wp pr cnt W : Int → Int) (T : Int → List Int) (n c wt : Int) (r : Int → Int) : Nat → Int → Int
  | 0 => r
  | m + 1 => uS1 dr wp pr cnt W T n c wt m (uTr dr wp pr cnt W T n c wt r m)
/-- what is told of a person's deed, the row being as ahead of it -/
noncomputable def uEn (dr wp pr cnt W : Int → Int) (T : Int → List Int) (n c wt : Int) (a : xA) (p : Int) (r : Int → Int) : Prop :=
  (a 119 p = if r p = 7 then 0 else 1) ∧ (a 116 p = if r p = 7 then -1 else uDc dr wp pr cnt W T n c wt p r) ∧ (a 117 p = if r p = 7 ∨ uDc dr wp pr cnt W T n c wt p r = -1 then -1 else uSg p (uDc dr wp pr cnt W T n c wt p r) r 4) ∧ (a 118 p = if r p = 7 ∨ p = 0 ∨ p = wt then -1 else uWk dr wp pr cnt W T n r p)
theorem uMn_q (hn5 : n ≤ 5) (e : uRq r r') (hf : 1 ≤ f ∧ f ≤ 3) : uMn n r' f = uMn n r f := by
  funext j
  unfold uMn
  by_cases c : j < 4
  · rw [if_pos c, if_pos c, e f (by omega), e _ (by omega)]
  · rw [if_neg c, if_neg c]
    by_cases c2 : j - 4 < n
    · rw [if_pos c2, if_pos c2, e j (by omega), e _ (by omega)]
    · rw [if_neg c2, if_neg c2]
theorem uWk_q (hn5 : n ≤ 5) (e : uRq r r') (hf : 1 ≤ f ∧ f ≤ 3) : uWk dr wp pr cnt W T n r' f = uWk dr wp pr cnt W T n r f := by
  unfold uWk
  rw [uMn_q hn5 e hf]
theorem uDc_q (hn5 : n ≤ 5) (e : uRq r r') (hp : 0 ≤ p ∧ p ≤ 3) : uDc dr wp pr cnt W T n c wt p r' = uDc dr wp pr cnt W T n c wt p r := by
  unfold uDc uWd
  by_cases c0 : p = 0
  · rw [if_pos c0, if_pos c0]
  · rw [if_neg c0, if_neg c0, uWk_q hn5 e ⟨by omega, hp.2⟩, uMn_q hn5 e ⟨by omega, hp.2⟩]
theorem uSg_q (e : uRq r r') (hp : 0 ≤ p ∧ p ≤ 3) : ∀ m : Nat, m ≤ 4 → uSg p k r' m = uSg p k r m
  | 0, _ => rfl
  | m + 1, h => by
    show uSg p k r' m + (if uSb p k r' m then ((2 ^ m : Nat) : Int) else 0) = uSg p k r m + (if uSb p k r m then ((2 ^ m : Nat) : Int) else 0)
    rw [uSg_q e hp m (by omega)]
    unfold uSb
    rw [e (m : Int) (by omega), e p (by omega)]
theorem uDe_q (hn5 : n ≤ 5) (e : uRq r r') (hr : uRv n r) (hp : 0 ≤ p ∧ p ≤ 3) (hk : 0 ≤ k ∧ k < 61) (hc : uCd n p k r) : uRq (uDe n p k r) (uDe n p k r') := by
  have hb := uX_b hk
  have e1 : uRq (uDo n p k r) (uDo n p k r') := by
    intro j hj
    have ej := e j hj
    by_cases k1 : uK k = 1
    · rw [uDo_1 k1, uDo_1 k1]
      dsimp only
      rw [ej]
    by_cases k2 : uK k = 2
    · rw [uDo_2 k2, uDo_2 k2]
      dsimp only
      rw [ej]
    by_cases k3 : uK k = 3
    · rw [uDo_3 k3, uDo_3 k3]
      dsimp only
      rw [ej, e p (by omega)]
    by_cases k4 : uK k = 4
    · rw [uDo_4 k4, uDo_4 k4]
      dsimp only
      rw [ej]
    by_cases k5 : uK k = 5
    · rw [uDo_5 k5, uDo_5 k5]
      unfold uZt
      by_cases c1 : 14 ≤ j ∧ j < 41
      · rw [ej, e p (by omega), e ((j - 14) / 9 + 1) (by omega)]
      · have n1 : ∀ z : Int, ¬ ((14 ≤ j ∧ j < 41) ∧ (j - 14) % 9 = 5 + uX k ∧ z = r p ∧ ¬ (j - 14) / 9 + 1 = uX k) := fun z h => c1 h.1
        have n2 : ¬ ((14 ≤ j ∧ j < 41) ∧ (j - 14) % 9 = 5 + uX k ∧ r' ((j - 14) / 9 + 1) = r' p ∧ ¬ (j - 14) / 9 + 1 = uX k) := fun h => c1 h.1
        rw [if_neg n2, if_neg (n1 _), ej, e p (by omega)]
    · have k6 : uK k = 6 := by omega
      have hx := hb.2.2.1 (by omega)
      rw [uDo_6 k6, uDo_6 k6]
      dsimp only
      rw [ej, e (4 + uX k) (by omega)]
  have e2 : uRq (uEv (uDo n p k r)) (uEv (uDo n p k r')) := by
    intro j hj
    unfold uEv
    rw [e1 j hj, e1 119 (by omega)]
  exact uAl_c hn5 e2 (uRv_e hn5 (uRv_d hn5 hr hp hk hc))
theorem uDe_v (hn5 : n ≤ 5) (hr : uRv n r) (hp : 0 ≤ p ∧ p ≤ 3) (hk : 0 ≤ k ∧ k < 61) (hc : uCd n p k r) : uRv n (uDe n p k r) ∧ uDe n p k r 114 = r 114 ∧ uDe n p k r 119 = r 119 + 1 := by
  have h1 := uRv_e hn5 (uRv_d hn5 hr hp hk hc)
  have hh : ∀ j, 41 ≤ j → uDo n p k r j = r j := fun j hj => uDo_hi hn5 hp hk (fun e => (hc.2 e).2) hj
  refine ⟨uRv_l hn5 h1, ?_, ?_⟩
  · unfold uDe
    rw [uAl_p hn5 h1 (by omega)]
    show (if (114 : Int) = 119 then _ else uDo n p k r 114) = _
    rw [if_neg (by decide)]
    exact hh 114 (by decide)
  · unfold uDe
    rw [uAl_p hn5 h1 (by omega)]
    show (if (119 : Int) = 119 then uDo n p k r 119 + 1 else _) = _
    rw [if_pos rfl, hh 119 (by decide)]
theorem uFd_b (hp : uPp pr) {S : Int → Int} {ts : List Int} : -1 ≤ uFd dr wp pr ts f S ∧ uFd dr wp pr ts f S ≤ 40 := by
  cases h : uHold f ts S with
  | true => rw [uFd_h h]; exact ⟨by decide, by decide⟩
  | false => rw [uFd_1 h]; exact uF1_b hp
theorem uWd_b (hK : uRk pr cnt W T) (hf : 1 ≤ f ∧ f ≤ 3) (h : uChs (cnt f) (fun i => W (f * 3 + i)) (fun i => uFd dr wp pr (T (f * 3 + i)) f (uMn n r f)) k) : (-1 ≤ k ∧ k ≤ 2) ∧ -1 ≤ uWd dr wp pr cnt W T n r f ∧ uWd dr wp pr cnt W T n r f ≤ 40 := by
  have hk := uWk_e h
  unfold uWd
  rw [hk]
  have hc := hK.1 f hf.1 hf.2
  rcases h with ⟨h1, _⟩ | ⟨h1, _, _⟩
  · rw [if_pos h1]
    omega
  · rw [if_neg (by omega)]
    exact ⟨by omega, uFd_b (hK.2 f k hf.1 hf.2 h1.1 h1.2).1.1⟩
/-- what a turn may change -/
def uPm (a a' : xA) (b b' : xB) : Prop := (∀ q j, q ≠ 88 → q ≠ 108 → q ≠ 109 → q ≠ 110 → q ≠ 111 → q ≠ 112 → q ≠ 113 → q ≠ 115 → q ≠ 116 → q ≠ 117 → q ≠ 118 → q ≠ 119 → ¬ (q = 87 ∧ (j = 33 ∨ j = 34 ∨ j = 41 ∨ j = 42 ∨ j = 43)) → a' q j = a q j) ∧ ∀ q j, q ≠ 114 → b' q j = b q j
theorem uPm_r : uPm a a b b := ⟨fun _ _ _ _ _ _ _ _ _ _ _ _ _ _ _ => rfl, fun _ _ _ => rfl⟩
theorem uPm_t {a'' : xA} {b'' : xB} (h : uPm a a' b b') (h' : uPm a' a'' b' b'') : uPm a a'' b b'' := ⟨fun q j e0 e1 e2 e3 e4 e5 e6 e7 e8 e9 e10 e11 e12 => (h'.1 q j e0 e1 e2 e3 e4 e5 e6 e7 e8 e9 e10 e11 e12).trans (h.1 q j e0 e1 e2 e3 e4 e5 e6 e7 e8 e9 e10 e11 e12), fun q j e => (h'.2 q j e).trans (h.2 q j e)⟩
theorem uPm_w (h : uWm a a' b b') : uPm a a' b b' := ⟨fun q j _ e1 e2 e3 e4 e5 e6 e7 _ _ _ _ e12 => h.1 q j e1 e2 e3 e4 e5 e6 e7 e12, h.2⟩
theorem uPm_8 (h : ∀ q j, q ≠ 88 → a' q j = a q j) : uPm a a' b b := ⟨fun q j e _ _ _ _ _ _ _ _ _ _ _ _ => h q j e, fun _ _ _ => rfl⟩
theorem uPm_u {q : Nat} {j v : Int} (hq : q = 116 ∨ q = 117 ∨ q = 118 ∨ q = 119) : uPm a (xU a q j v) b b := ⟨fun r i _ _ _ _ _ _ _ _ e8 e9 e10 e11 _ => xUn (by omega), fun _ _ _ => rfl⟩
end
end
