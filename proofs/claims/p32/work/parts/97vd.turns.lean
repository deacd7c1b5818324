/-! the class plays a turn -/
section
set_option maxRecDepth 100000


section
variable {Ln : Nat} {xs : Nat → Int32} {d w : Nat} {Q : Option Value → pmS → Prop} {dr wp c pr cnt W F F' : Int → Int} {T : Int → List Int} {n f p k x cd wt id cn : Int} {S S' r r' : Int → Int} {ts : List Int} {a a' a0 : xA} {b b' : xB}
/-- one of the class's worlds -/
def uWo (w : Nat) : Prop := uWz w ∧ (21 ≤ w ∧ w ≤ 80) ∧ (w ≤ 26 ∨ 47 ≤ w)
/-- the slots of a mind in the class are the mind by the row -/
theorem uMn_s (hn0 : 0 ≤ n ∧ n ≤ 5) (hr : uRv n r) (hf : 1 ≤ f ∧ f ≤ 3) (hM : uRf n w r b f) (hO : uSl (b (w + 1) f) f = r f + 1) (hK : uKh n r 4) (hal : ¬ r f = 7) : uQ (uSl (b (w + 1) f)) (uMn n r f) := by
  intro j j0 j1
  obtain ⟨m1, m2, m3⟩ := hM
  unfold uMn
  by_cases c : j < 4
  · rw [if_pos c]
    by_cases cf : j = f
    · rw [if_pos cf, cf]
      exact hO
    · rw [if_neg cf]
      exact m2 j j0 c cf
  · rw [if_neg c]
    have h := m3 (j - 4) (by omega) (by omega)
    rw [show 4 + (j - 4) = j by omega] at h
    rw [h]
    by_cases cn : j - 4 < n
    · rw [if_pos cn]
      by_cases ch : r j = 10 + f
      · rw [if_pos ch]
        have := hK f (j - 4) hf.1 (by omega) hal (by omega) cn (by rw [show 4 + (j - 4) = j by omega]; exact ch)
        rw [this]
        unfold uTc
        rw [if_neg (by omega)]
        omega
      · rw [if_neg ch]
    · rw [if_neg cn, hr.2.2.2.2.2 f (j - 4) hf.1 hf.2 (by omega) (by omega) (by omega)]
      rfl
theorem uOk_q (hf : 1 ≤ f ∧ f ≤ 3) (h : uQ S S') (hk : uOk f S') : uOk f S := by
  obtain ⟨h1, h2, h3⟩ := hk
  refine ⟨by rw [h f (by omega) (by omega)]; exact h1, fun q q0 q1 => by rw [h q q0 (by omega)]; exact h2 q q0 q1, fun x x0 x1 => by rw [h (4 + x) (by omega) (by omega)]; exact h3 x x0 x1⟩
theorem uTks_k (h : uRe pr f ts) : uTks ts := fun t ht => (h.2.2.2.1 t ht).1
theorem uFd_c (hf : 1 ≤ f ∧ f ≤ 3) (ht : uTks ts) (h : uQ S S') : uFd dr wp pr ts f S = uFd dr wp pr ts f S' := by
  unfold uFd
  rw [uQ_hold h hf ht, uQ_opt hf ht 4 S S' h]
theorem uChs_c (h : uChs cn W F k) (e : ∀ i, 0 ≤ i → i < cn → F i = F' i) : uChs cn W F' k := by
  rcases h with ⟨h1, h2⟩ | ⟨h1, h2, h3⟩
  · exact Or.inl ⟨h1, fun i i0 i1 => by rw [← e i i0 i1]; exact h2 i i0 i1⟩
  · exact Or.inr ⟨h1, by rw [← e k h1.1 h1.2]; exact h2, fun i i0 i1 hi => h3 i i0 i1 (by rw [e i i0 i1]; exact hi)⟩
theorem uFd_can (h : ¬ uFd dr wp pr ts f S = -1) : (0 ≤ uFd dr wp pr ts f S ∧ uFd dr wp pr ts f S < 41) ∧ uCan dr wp f S (uFd dr wp pr ts f S) := by
  cases hh : uHold f ts S with
  | true => exact absurd (uFd_h hh) h
  | false =>
    rw [uFd_1 hh] at h ⊢
    unfold uF1 at h ⊢
    cases ho : uOpt dr wp pr f ts 4 S with
    | none =>
      rw [ho] at h
      exact absurd rfl h
    | some q =>
      obtain ⟨k, l, e1, e2, e3⟩ := uOpt_1 4 ho
      show (0 ≤ q.2.headD (-1) ∧ q.2.headD (-1) < 41) ∧ uCan dr wp f S (q.2.headD (-1))
      rw [e1]
      exact ⟨e2, e3⟩
/-- what a folk wants to do it can do -/
theorem uWd_c (hr : uRv n r) (hf : 1 ≤ f ∧ f ≤ 3) (hal : ¬ r f = 7) (h : ¬ uWd dr wp pr cnt W T n r f = -1) : (0 ≤ uWd dr wp pr cnt W T n r f ∧ uWd dr wp pr cnt W T n r f < 61) ∧ uCp n f (uWd dr wp pr cnt W T n r f) r := by
  unfold uWd at h ⊢
  by_cases c : uWk dr wp pr cnt W T n r f = -1
  · rw [if_pos c] at h
    exact absurd rfl h
  rw [if_neg c] at h ⊢
  obtain ⟨hk, hc⟩ := uFd_can h
  obtain ⟨k, ek⟩ : ∃ k, uFd dr wp pr (T (f * 3 + uWk dr wp pr cnt W T n r f)) f (uMn n r f) = k := ⟨_, rfl⟩
  rw [ek] at hk hc ⊢
  have hrf := hr.1 f (by omega) (by omega)
  have mf : uMn n r f f = r f + 1 := by
    unfold uMn
    rw [if_pos (by omega), if_pos rfl]
  have mx : ∀ x, 0 ≤ x → ¬ x < n → uMn n r f (4 + x) = 0 := fun x x0 xn => by
    unfold uMn
    rw [if_neg (by omega), if_neg (by omega)]
  refine ⟨⟨hk.1, by omega⟩, hal, fun e => Classical.byContradiction (fun hx => ?_), fun e => ?_, fun e => ?_⟩
  all_goals
    unfold uCan at hc
    rcases uKd hk with g | g | g | g | g
    all_goals first
      | (exfalso; omega)
      | skip
  · rw [if_neg (by omega), if_pos (by omega), mx (uX k) (by omega) hx, mf] at hc
    omega
  · rw [if_neg (by omega), if_neg (by omega), if_pos (by omega), mx (uX k) (by omega) hx] at hc
    omega
  · rw [if_neg (by omega), if_neg (by omega), if_neg (by omega), if_pos (by omega), mx (uX k) (by omega) hx] at hc
    omega
  · rw [if_neg (by omega), if_neg (by omega), if_neg (by omega), if_neg (by omega)] at hc
    exact hc.1
/-- what the class plays by -/
def uCb (dr wp c pr cnt W : Int → Int) (T : Int → List Int) (n : Int) (a0 a : xA) (b : xB) : Prop := uPg dr wp c cnt T n a0 a b ∧ uPf dr wp c pr cnt T a0 ∧ uOr cnt W a ∧ uMC dr wp pr cnt T b ∧ uLx a
/-- a world of the class's by the row -/
def uCw (n : Int) (w : Nat) (r : Int → Int) (a : xA) (b : xB) : Prop := uRv n r ∧ uRt n w r b ∧ uRm n w r b ∧ uOx w r b 4 ∧ uKh n r 4 ∧ uMk w a ∧ a w 11 = r 119
/-- what a turn leaves alone -/
def uTf (w : Nat) (a a' : xA) (b b' : xB) : Prop := (∀ q j, ¬ q = w + 2 → ¬ q = w + 3 → ¬ q = w + 4 → ¬ (q = w ∧ (j = 6 ∨ j = 7 ∨ j = 11 ∨ j = 12)) → ¬ q = 44 → ¬ (34 ≤ q ∧ q ≤ 42) → a' q j = a q j) ∧ ∀ q j, ¬ (q = w ∧ (j = 4 ∨ j = 5)) → ¬ (q = w + 1 ∧ 1 ≤ j ∧ j ≤ 3) → ¬ (34 ≤ q ∧ q ≤ 36) → b' q j = b q j
theorem uTf_r : uTf w a a b b := ⟨fun _ _ _ _ _ _ _ _ => rfl, fun _ _ _ _ _ => rfl⟩
theorem uTf_t {a'' : xA} {b'' : xB} (h : uTf w a a' b b') (h' : uTf w a' a'' b' b'') : uTf w a a'' b b'' := ⟨fun q j e1 e2 e3 e4 e5 e6 => (h'.1 q j e1 e2 e3 e4 e5 e6).trans (h.1 q j e1 e2 e3 e4 e5 e6), fun q j e1 e2 e3 => (h'.2 q j e1 e2 e3).trans (h.2 q j e1 e2 e3)⟩
theorem uPg_o (h : uPg dr wp c cnt T n a0 a b) (e : ∀ q j, 3 ≤ q → q ≤ 12 → a' q j = a q j) (eb : b' 3 3 = b 3 3) (hA : xAr a') : uPg dr wp c cnt T n a0 a' b' := by
  obtain ⟨h1, h2, h3, h4, h5, h6, h7, h8⟩ := h
  have f : ∀ q j, q = 3 ∨ q = 4 ∨ q = 5 ∨ q = 6 ∨ q = 8 ∨ q = 9 ∨ q = 11 ∨ q = 12 → a' q j = a q j := fun q j g => e q j (by omega) (by omega)
  refine ⟨hA, uKs_f h2 (fun k => f 3 k (by decide)) (fun k => f 4 k (by decide)) eb, fun k => (f 6 k (by decide)).trans (h3 k), fun k k0 => by rw [f 6 k (by decide)]; exact h4 k k0, fun k k0 k1 => (f 5 k (by decide)).trans (h5 k k0 k1), fun p k p0 p1 k0 k1 => ?_, fun p p0 p1 => by rw [f 12 p (by decide)]; exact h7 p p0 p1, fun p i p0 p1 i0 i1 => by rw [f 11 _ (by decide)]; exact h8 p i p0 p1 i0 i1⟩
  obtain ⟨g1, g2⟩ := h6 p k p0 p1 k0 k1
  exact ⟨(f 9 _ (by decide)).trans g1, fun j t ht => (f 8 _ (by decide)).trans (g2 j t ht)⟩
theorem uCb_o (h : uCb dr wp c pr cnt W T n a0 a b) (e : ∀ q j, 3 ≤ q → q ≤ 20 → a' q j = a q j) (eb : ∀ q j, q = 3 ∨ q = 35 ∨ q = 36 → b' q j = b q j) (hA : xAr a') : uCb dr wp c pr cnt W T n a0 a' b' := by
  obtain ⟨h1, h2, h3, h4, h5⟩ := h
  refine ⟨uPg_o h1 (fun q j e1 e2 => e q j e1 (by omega)) (eb 3 3 (by decide)) hA, h2, fun p p0 p1 => ?_, fun j j0 j1 => ?_, uLx_o h5 (fun q j e1 e2 => e q j (by omega) e2)⟩
  · have e11 : ∀ j, a' 11 j = a 11 j := fun j => e 11 j (by decide) (by decide)
    obtain ⟨g1, g2⟩ := h3 p p0 p1
    exact ⟨fun i j i0 ij jc => by rw [e11, e11]; exact g1 i j i0 ij jc, fun k k0 k1 => by
      obtain ⟨i, i0, i1, i2⟩ := g2 k k0 k1
      exact ⟨i, i0, i1, by rw [e11]; exact i2⟩⟩
  · rw [eb 35 j (by decide), eb 36 j (by decide)]
    exact h4 j j0 j1
theorem uCw_o (h : uCw n w r a b) (e2 : ∀ j, a' (w + 2) j = a (w + 2) j) (e11 : a' w 11 = a w 11) (e4 : b' w 4 = b w 4) (e5 : b' w 5 = b w 5) (em : ∀ g, 1 ≤ g → g ≤ 3 → b' (w + 1) g = b (w + 1) g) : uCw n w r a' b' := by
  obtain ⟨h1, h2, h3, h4, h5, h6, h7⟩ := h
  exact ⟨h1, ⟨fun j j0 j1 => by rw [e4]; exact h2.1 j j0 j1, by rw [e4]; exact h2.2.1, fun x x0 xn hx => by rw [e5]; exact h2.2.2 x x0 xn hx⟩, fun f f0 f1 => uRf_c (h3 f f0 f1) (fun _ _ _ => rfl) (em f f0 f1), fun f f0 f1 hf => by rw [em f f0 (by omega)]; exact h4 f f0 f1 hf, h5, fun c c0 c1 => by rw [e2]; exact h6 c c0 c1, by rw [e11]; exact h7⟩
/-- what the class notes of a person's deed -/
noncomputable def uEt (dr wp pr cnt W : Int → Int) (T : Int → List Int) (n cd wt p : Int) (r : Int → Int) : Int := if r p = 7 then -1 else if uDc dr wp pr cnt W T n cd wt p r = -1 then 0 else uD (uDc dr wp pr cnt W T n cd wt p r) + 512 * uSg p (uDc dr wp pr cnt W T n cd wt p r) r 4 + (if p = 0 then 0 else (uWk dr wp pr cnt W T n r p + 1) * 8192)
theorem uOr3 {z s t : Int} (hz : 0 ≤ z ∧ z < 512) (hs : 0 ≤ s ∧ s ≤ 15) (ht : 0 ≤ t ∧ t ≤ 4) : xOr (z + 512 * s) (z + t * 8192) = z + 512 * s + t * 8192 := by
  have e9 : ((2 ^ 9 : Nat) : Int) = 512 := rfl
  have e13 : ((2 ^ 13 : Nat) : Int) = 8192 := rfl
  have o1 := uOrd (z := z) (q := s) 9 hz.1 (by omega) hs.1 (by omega)
  have o2 := uOrd (z := z) (q := t) 13 hz.1 (by omega) ht.1 (by omega)
  have o3 := uOrd (z := z + 512 * s) (q := t) 13 (by omega) (by omega) ht.1 (by omega)
  rw [e9] at o1
  rw [e13] at o2 o3
  rw [← o3, ← o2, show z + 512 * s = xOr z (s * 512) by omega]
  unfold xOr
  rw [Int32.ofInt_toInt, Int32.ofInt_toInt]
  have hh : ∀ u v y : Int32, (u ||| v) ||| (u ||| y) = (u ||| v) ||| y := fun u v y => by
    rw [Int32.or_assoc, Int32.or_assoc, ← Int32.or_assoc v u y, Int32.or_comm v u, Int32.or_assoc, ← Int32.or_assoc u u, Int32.or_self]
  rw [hh]
end
end
