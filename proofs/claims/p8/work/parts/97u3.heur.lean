/-! what a wish costs at least: never more than it does -/
section
def uMt (V : Int → Int → Int) (f : Int) (S : Int → Int) (q : Int) : Int := if 1 ≤ S q ∧ S q ≤ 7 then V (S f - 1) (S q - 1) else 100000
def uHd (V : Int → Int → Int) (c : Int → Int) (f : Int) (S : Int → Int) (x : Int) : Int :=
  if S (4 + x) = 9 + f then 0
  else if 9 ≤ S (4 + x) ∧ S (4 + x) < 13 ∧ uMt V f S (S (4 + x) - 9) < 100000 then uMt V f S (S (4 + x) - 9) + c 5 + c 2
  else if 1 ≤ S (4 + x) ∧ S (4 + x) ≤ 7 then V (S f - 1) (S (4 + x) - 1) + c 2 else 100000
def uSr (V : Int → Int → Int) (f : Int) (S : Int → Int) (x : Int) : Int :=
  if S (4 + x) = 9 + f then S f - 1
  else if 9 ≤ S (4 + x) ∧ S (4 + x) < 13 ∧ uMt V f S (S (4 + x) - 9) < 100000 then S (S (4 + x) - 9) - 1
  else if 1 ≤ S (4 + x) ∧ S (4 + x) ≤ 7 then S (4 + x) - 1 else S f - 1
def uMin (x y : Int) : Int := if y < x then y else x
def uMax (x y : Int) : Int := if x < y then y else x
def uA1 (H wp : Int → Int) (t x : Int) : Int := if wp x = 0 then t else uMin t (H x)
def uAm (H wp : Int → Int) : Int := uA1 H wp (uA1 H wp (uA1 H wp (uA1 H wp (uA1 H wp 100000 0) 1) 2) 3) 4
def uHt (V : Int → Int → Int) (c wp : Int → Int) (f : Int) (S : Int → Int) (q : Int) : Int := if q = f then 100000 else uMax (uAm (uHd V c f S) wp) (uMt V f S q) + c 5
def uLos (c : Int → Int) : Int := uMin (c 3) (c 4)
def uLay (c : Int → Int) : Int := uMin (c 3) (c 4 + c 5)
def uLi (V : Int → Int → Int) (c : Int → Int) (f : Int) (S : Int → Int) (x b : Int) : Int := if 9 ≤ S (4 + x) ∧ ¬ S (4 + x) = 9 + f ∧ uSr V f S x = b then uHd V c f S x - c 2 else uHd V c f S x + V (uSr V f S x) b + uLay c
def uOw (V : Int → Int → Int) (c : Int → Int) (f : Int) (S : Int → Int) (a x : Int) : Int := uHd V c f S x + (if 1 ≤ S a ∧ S a ≤ 7 then V (uSr V f S x) (S a - 1) else 100000) + c 4
/-- to make an atom hold, to make it not hold -/
def uYN (V : Int → Int → Int) (c wp : Int → Int) (f : Int) (S : Int → Int) (t : Int) : Int × Int :=
  if t / 256 = 0 then (uHd V c f S (t / 16 % 16), if uHd V c f S (t / 16 % 16) = 0 then uLos c else 0)
  else if t / 256 = 4 ∧ t / 16 % 16 = f then (uHd V c f S (t % 16), if uHd V c f S (t % 16) = 0 then uLos c else 0)
  else if t / 256 = 1 then (if S f - 1 = t / 16 % 16 then 0 else V (S f - 1) (t / 16 % 16), if S f - 1 = t / 16 % 16 then c 1 else 0)
  else if t / 256 = 2 then (if S (t / 16 % 16) = 8 then 0 else uHt V c wp f S (t / 16 % 16), if S (t / 16 % 16) = 8 then 100000 else 0)
  else if t / 256 = 3 then (if S (4 + t / 16 % 16) = t % 16 + 1 then 0 else uLi V c f S (t / 16 % 16) (t % 16), if S (4 + t / 16 % 16) = t % 16 + 1 then uHd V c f S (t / 16 % 16) else 0)
  else (if S (4 + t % 16) = 9 + t / 16 % 16 then 0 else uOw V c f S (t / 16 % 16) (t % 16), if S (4 + t % 16) = 9 + t / 16 % 16 then uHt V c wp f S (t / 16 % 16) else 0)
/-- tokens that are there -/
def uTk (t : Int) : Prop := 0 ≤ t ∧ (t / 256 = 0 → t / 16 % 16 < 5) ∧ (t / 256 = 1 → t / 16 % 16 < 7) ∧ (t / 256 = 2 → t / 16 % 16 < 4) ∧ (t / 256 = 3 → t / 16 % 16 < 5 ∧ t % 16 < 7) ∧ (t / 256 = 4 → t / 16 % 16 < 4 ∧ t % 16 < 5)
def uPn (x : Int × Int) : Int × Int := (x.2, x.1)
def uPa (x y : Int × Int) : Int × Int := (uMax x.1 y.1, uMin x.2 y.2)
def uPo (x y : Int × Int) : Int × Int := (uMin x.1 y.1, uMax x.2 y.2)
/-- what the whole wish costs at least -/
def uH (V : Int → Int → Int) (c wp : Int → Int) (f : Int) (ts : List Int) (S : Int → Int) : Int := (uBot (0, 0) (uRun (uYN V c wp f S) uPn uPa uPo ts [])).1
/-- ways and prices -/
def uVo (dr : Int → Int) (V : Int → Int → Int) (c : Int → Int) : Prop := (∀ a b, 0 ≤ a → a < 7 → 0 ≤ b → b < 7 → (0 ≤ V a b ∧ V a b ≤ 7227) ∧ (V a b = 0 ↔ a = b)) ∧ (∀ a e b, 0 ≤ a → a < 7 → 0 ≤ e → e < 7 → 0 ≤ b → b < 7 → ¬ dr (7 * a + e) = 0 → V a b ≤ c 1 + V e b) ∧ ∀ i, 1 ≤ i → i ≤ 5 → 1 ≤ c i ∧ c i ≤ 73
def uCt (z : Int) : Int := uMin z 90000
section
variable {dr wp c : Int → Int} {V : Int → Int → Int} {f : Int} {S S' : Int → Int} {k ck : Int}
theorem uHd_c (hV : uVo dr V c) (hf : 1 ≤ f ∧ f ≤ 3) (hS : uOk f S) {x : Int} (x0 : 0 ≤ x) (x1 : x < 5) :
    (S (4 + x) = 9 + f ∧ uHd V c f S x = 0 ∧ uSr V f S x = S f - 1)
    ∨ (9 ≤ S (4 + x) ∧ S (4 + x) ≤ 12 ∧ ¬ S (4 + x) = 9 + f ∧ 1 ≤ S (S (4 + x) - 9) ∧ S (S (4 + x) - 9) ≤ 7 ∧ uHd V c f S x = V (S f - 1) (S (S (4 + x) - 9) - 1) + c 5 + c 2 ∧ uSr V f S x = S (S (4 + x) - 9) - 1)
    ∨ (9 ≤ S (4 + x) ∧ S (4 + x) ≤ 12 ∧ ¬ S (4 + x) = 9 + f ∧ ¬ (1 ≤ S (S (4 + x) - 9) ∧ S (S (4 + x) - 9) ≤ 7) ∧ uHd V c f S x = 100000 ∧ uSr V f S x = S f - 1)
    ∨ (1 ≤ S (4 + x) ∧ S (4 + x) ≤ 7 ∧ uHd V c f S x = V (S f - 1) (S (4 + x) - 1) + c 2 ∧ uSr V f S x = S (4 + x) - 1)
    ∨ (S (4 + x) = 0 ∧ uHd V c f S x = 100000 ∧ uSr V f S x = S f - 1) := by
  obtain ⟨h1, h2, h3⟩ := hS
  have h3 := h3 x x0 x1
  unfold uHd uSr
  by_cases e1 : S (4 + x) = 9 + f
  · rw [if_pos e1, if_pos e1]
    exact Or.inl ⟨e1, rfl, rfl⟩
  · rw [if_neg e1, if_neg e1]
    by_cases e2 : 9 ≤ S (4 + x)
    · by_cases e3 : 1 ≤ S (S (4 + x) - 9) ∧ S (S (4 + x) - 9) ≤ 7
      · have em : uMt V f S (S (4 + x) - 9) = V (S f - 1) (S (S (4 + x) - 9) - 1) := by
          unfold uMt
          rw [if_pos e3]
        have := (hV.1 (S f - 1) (S (S (4 + x) - 9) - 1) (by omega) (by omega) (by omega) (by omega)).1
        rw [if_pos ⟨e2, by omega, by omega⟩, if_pos ⟨e2, by omega, by omega⟩, em]
        exact Or.inr (Or.inl ⟨e2, by omega, e1, e3.1, e3.2, rfl, rfl⟩)
      · have em : uMt V f S (S (4 + x) - 9) = 100000 := by
          unfold uMt
          rw [if_neg e3]
        rw [if_neg (by omega), if_neg (by omega), if_neg (by omega), if_neg (by omega)]
        exact Or.inr (Or.inr (Or.inl ⟨e2, by omega, e1, e3, rfl, rfl⟩))
    · have n9 : ¬ (9 ≤ S (4 + x) ∧ S (4 + x) < 13 ∧ uMt V f S (S (4 + x) - 9) < 100000) := fun e => e2 e.1
      rw [if_neg n9, if_neg n9]
      by_cases e4 : 1 ≤ S (4 + x) ∧ S (4 + x) ≤ 7
      · rw [if_pos e4, if_pos e4]
        exact Or.inr (Or.inr (Or.inr (Or.inl ⟨e4.1, e4.2, rfl, rfl⟩)))
      · rw [if_neg e4, if_neg e4]
        exact Or.inr (Or.inr (Or.inr (Or.inr ⟨by omega, rfl, rfl⟩)))
theorem uHd_b (hV : uVo dr V c) (hf : 1 ≤ f ∧ f ≤ 3) (hS : uOk f S) {x : Int} (x0 : 0 ≤ x) (x1 : x < 5) : 0 ≤ uHd V c f S x ∧ uHd V c f S x ≤ 100000 ∧ (uHd V c f S x = 0 ↔ S (4 + x) = 9 + f) ∧ 0 ≤ uSr V f S x ∧ uSr V f S x < 7 := by
  have h1 := hS.1
  have c2 := hV.2.2 2 (by decide) (by decide)
  have c5 := hV.2.2 5 (by decide) (by decide)
  rcases uHd_c hV hf hS x0 x1 with ⟨a1, a2, a3⟩ | ⟨a1, a2, a3, a4, a5, a6, a7⟩ | ⟨a1, a2, a3, a4, a5, a6⟩ | ⟨a1, a2, a3, a4⟩ | ⟨a1, a2, a3⟩
  · omega
  · have := (hV.1 (S f - 1) (S (S (4 + x) - 9) - 1) (by omega) (by omega) (by omega) (by omega)).1
    omega
  · omega
  · have := (hV.1 (S f - 1) (S (4 + x) - 1) (by omega) (by omega) (by omega) (by omega)).1
    omega
  · omega
theorem uAm_le {H : Int → Int} : uAm H wp ≤ 100000 ∧ (∀ x, 0 ≤ x → x < 5 → ¬ wp x = 0 → uAm H wp ≤ H x) ∧ ((∀ x, 0 ≤ x → x < 5 → 0 ≤ H x) → 0 ≤ uAm H wp) := by
  have st : ∀ t x, uA1 H wp t x ≤ t ∧ (¬ wp x = 0 → uA1 H wp t x ≤ H x) ∧ (0 ≤ t → 0 ≤ H x → 0 ≤ uA1 H wp t x) := by
    intro t x
    unfold uA1 uMin
    split
    · exact ⟨Int.le_refl _, fun e => absurd ‹_› e, fun h _ => h⟩
    · split
      · exact ⟨by omega, fun _ => Int.le_refl _, fun _ h => h⟩
      · exact ⟨Int.le_refl _, fun _ => by omega, fun h _ => h⟩
  unfold uAm
  have s0 := st 100000 0
  have s1 := st (uA1 H wp 100000 0) 1
  have s2 := st (uA1 H wp (uA1 H wp 100000 0) 1) 2
  have s3 := st (uA1 H wp (uA1 H wp (uA1 H wp 100000 0) 1) 2) 3
  have s4 := st (uA1 H wp (uA1 H wp (uA1 H wp (uA1 H wp 100000 0) 1) 2) 3) 4
  refine ⟨by omega, fun x x0 x1 hw => ?_, fun h => ?_⟩
  · have : x = 0 ∨ x = 1 ∨ x = 2 ∨ x = 3 ∨ x = 4 := by omega
    rcases this with e | e | e | e | e
    · subst e
      have := s0.2.1 hw
      omega
    · subst e
      have := s1.2.1 hw
      omega
    · subst e
      have := s2.2.1 hw
      omega
    · subst e
      have := s3.2.1 hw
      omega
    · subst e
      exact s4.2.1 hw
  · exact s4.2.2 (s3.2.2 (s2.2.2 (s1.2.2 (s0.2.2 (by decide) (h 0 (by decide) (by decide))) (h 1 (by decide) (by decide))) (h 2 (by decide) (by decide))) (h 3 (by decide) (by decide))) (h 4 (by decide) (by decide))
theorem uAm_cn {H H' : Int → Int} (hk : 0 ≤ ck) (h : ∀ x, 0 ≤ x → x < 5 → H x ≤ ck + H' x) : uAm H wp ≤ ck + uAm H' wp := by
  have st : ∀ t t' x, 0 ≤ x → x < 5 → t ≤ ck + t' → uA1 H wp t x ≤ ck + uA1 H' wp t' x := by
    intro t t' x x0 x1 ht
    have := h x x0 x1
    unfold uA1 uMin
    split
    · exact ht
    · split <;> split <;> omega
  unfold uAm
  exact st _ _ 4 (by decide) (by decide) (st _ _ 3 (by decide) (by decide) (st _ _ 2 (by decide) (by decide) (st _ _ 1 (by decide) (by decide) (st _ _ 0 (by decide) (by decide) (by omega)))))
/-- what one deed makes of a thing -/
def uTs (V : Int → Int → Int) (c wp : Int → Int) (f ck : Int) (S S' : Int → Int) (x : Int) : Prop :=
  (S' (4 + x) = S (4 + x) ∧ ¬ S (4 + x) = 9 + f ∧ uHd V c f S x ≤ ck + uHd V c f S' x ∧ uSr V f S' x = uSr V f S x)
  ∨ (S' (4 + x) = S (4 + x) ∧ S (4 + x) = 9 + f)
  ∨ (S' (4 + x) = S (4 + x) ∧ ¬ S (4 + x) = 9 + f ∧ uHd V c f S x = 100000 ∧ uHd V c f S' x = 100000)
  ∨ (S (4 + x) = S f ∧ S' (4 + x) = 9 + f ∧ S' f = S f ∧ ck = c 2)
  ∨ (S (4 + x) = 9 + f ∧ S' (4 + x) = S f ∧ S' f = S f ∧ ck = c 3)
  ∨ (S (4 + x) = 9 + f ∧ 9 ≤ S' (4 + x) ∧ S' (4 + x) ≤ 12 ∧ ¬ S' (4 + x) = 9 + f ∧ S (S' (4 + x) - 9) = S f ∧ S' (S' (4 + x) - 9) = S f ∧ S' f = S f ∧ ck = c 4)
  ∨ (9 ≤ S (4 + x) ∧ S (4 + x) ≤ 12 ∧ ¬ S (4 + x) = 9 + f ∧ S (S (4 + x) - 9) = S f ∧ S' (4 + x) = S f ∧ S' f = S f ∧ ck = c 5 ∧ uHt V c wp f S (S (4 + x) - 9) ≤ ck)
/-- what one deed makes of all -/
def uStp (V : Int → Int → Int) (c wp : Int → Int) (f ck : Int) (S S' : Int → Int) : Prop :=
  0 ≤ ck ∧ uOk f S' ∧ (∀ b, 0 ≤ b → b < 7 → V (S f - 1) b ≤ ck + V (S' f - 1) b) ∧ (¬ S' f = S f → ck = c 1)
  ∧ (∀ q, 0 ≤ q → q < 4 → ¬ q = f → S' q = S q ∨ (S' q = 8 ∧ S q = S f ∧ ck = c 5 ∧ uHt V c wp f S q ≤ ck)) ∧ ∀ x, 0 ≤ x → x < 5 → uTs V c wp f ck S S' x
theorem uTs_hd (hV : uVo dr V c) (hf : 1 ≤ f ∧ f ≤ 3) (hS : uOk f S) (hP : uStp V c wp f ck S S') {x : Int} (x0 : 0 ≤ x) (x1 : x < 5) : uHd V c f S x ≤ ck + uHd V c f S' x := by
  obtain ⟨p0, p1, p2, p3, p4, p5⟩ := hP
  have h1 := hS.1
  have b1 := uHd_b hV hf hS x0 x1
  have b2 := uHd_b hV hf p1 x0 x1
  have c2 := hV.2.2 2 (by decide) (by decide)
  have c5 := hV.2.2 5 (by decide) (by decide)
  have v0 := hV.1 (S f - 1) (S f - 1) (by omega) (by omega) (by omega) (by omega)
  rcases p5 x x0 x1 with ⟨a1, a2, a3, a4⟩ | ⟨a1, a2⟩ | ⟨a1, a2, a3, a4⟩ | ⟨a1, a2, a3, a4⟩ | ⟨a1, a2, a3, a4⟩ | ⟨a1, a2, a3, a4, a5, a6, a7, a8⟩ | ⟨a1, a2, a3, a4, a5, a6, a7, a8⟩
  · exact a3
  · omega
  · omega
  · rcases uHd_c hV hf hS x0 x1 with ⟨g1, g2, g3⟩ | ⟨g1, g2, g3, g4, g5, g6, g7⟩ | ⟨g1, g2, g3, g4, g5, g6⟩ | ⟨g1, g2, g3, g4⟩ | ⟨g1, g2, g3⟩
    · omega
    · omega
    · omega
    · rw [a1] at g3
      omega
    · omega
  · omega
  · omega
  · rcases uHd_c hV hf hS x0 x1 with ⟨g1, g2, g3⟩ | ⟨g1, g2, g3, g4, g5, g6, g7⟩ | ⟨g1, g2, g3, g4, g5, g6⟩ | ⟨g1, g2, g3, g4⟩ | ⟨g1, g2, g3⟩
    · omega
    · rw [a4] at g6
      rcases uHd_c hV hf p1 x0 x1 with ⟨k1, k2, k3⟩ | ⟨k1, k2, k3, k4, k5, k6, k7⟩ | ⟨k1, k2, k3, k4, k5, k6⟩ | ⟨k1, k2, k3, k4⟩ | ⟨k1, k2, k3⟩
      · omega
      · omega
      · omega
      · rw [a5, a6] at k3
        omega
      · omega
    · omega
    · omega
    · omega
theorem uMt_cn (hV : uVo dr V c) (hf : 1 ≤ f ∧ f ≤ 3) (hS : uOk f S) (hP : uStp V c wp f ck S S') {q : Int} (q0 : 0 ≤ q) (q1 : q < 4) (hq : ¬ q = f) : uMt V f S q ≤ ck + uMt V f S' q := by
  obtain ⟨p0, p1, p2, p3, p4, p5⟩ := hP
  have h1 := hS.1
  unfold uMt
  rcases p4 q q0 q1 hq with e | ⟨e1, e2, e3, e4⟩
  · rw [e]
    split
    · exact p2 _ (by omega) (by omega)
    · omega
  · rw [if_pos (by omega), if_neg (by omega), e2]
    have v0 := hV.1 (S f - 1) (S f - 1) (by omega) (by omega) (by omega) (by omega)
    omega
theorem uHt_cn (hV : uVo dr V c) (hf : 1 ≤ f ∧ f ≤ 3) (hS : uOk f S) (hP : uStp V c wp f ck S S') {q : Int} (q0 : 0 ≤ q) (q1 : q < 4) : uHt V c wp f S q ≤ ck + uHt V c wp f S' q := by
  unfold uHt
  split
  · have := hP.1
    omega
  · have h2 := uAm_cn (H := uHd V c f S) (H' := uHd V c f S') (wp := wp) hP.1 (fun x x0 x1 => uTs_hd hV hf hS hP x0 x1)
    have h3 := uMt_cn hV hf hS hP q0 q1 ‹_›
    unfold uMax
    split <;> split <;> omega
theorem uCt_m {x y : Int} (h : x ≤ y) : uCt x ≤ uCt y := by
  unfold uCt uMin
  split <;> split <;> omega
theorem uCt_l {x y : Int} (hk : 0 ≤ ck) (h : x ≤ ck + y ∨ (90000 ≤ y ∧ x ≤ x)) : uCt x ≤ ck + uCt y := by
  unfold uCt uMin
  split <;> split <;> omega
/-- one deed costs no less than what it saves -/
theorem uYN_cn (hV : uVo dr V c) (hf : 1 ≤ f ∧ f ≤ 3) (hS : uOk f S) (hP : uStp V c wp f ck S S') {t : Int} (ht : uTk t) (h5 : t / 256 < 5) : uCt (uYN V c wp f S t).1 ≤ ck + uCt (uYN V c wp f S' t).1 ∧ uCt (uYN V c wp f S t).2 ≤ ck + uCt (uYN V c wp f S' t).2 := by
  obtain ⟨t0, t1, t2, t3, t4, t5⟩ := ht
  have hS1 := hS.1
  have hS1' := hP.2.1.1
  have hk := hP.1
  have c1 := hV.2.2 1 (by decide) (by decide)
  have c2 := hV.2.2 2 (by decide) (by decide)
  have c3 := hV.2.2 3 (by decide) (by decide)
  have c4 := hV.2.2 4 (by decide) (by decide)
  have c5 := hV.2.2 5 (by decide) (by decide)
  have hLo : uLos c ≤ c 3 ∧ uLos c ≤ c 4 ∧ 1 ≤ uLos c := by
    unfold uLos uMin
    split <;> omega
  have hLa : uLay c ≤ c 3 ∧ uLay c ≤ c 4 + c 5 ∧ 1 ≤ uLay c ∧ uLay c ≤ 146 := by
    unfold uLay uMin
    split <;> omega
  have has : ∀ x, 0 ≤ x → x < 5 → uCt (uHd V c f S x) ≤ ck + uCt (uHd V c f S' x) ∧ uCt (if uHd V c f S x = 0 then uLos c else 0) ≤ ck + uCt (if uHd V c f S' x = 0 then uLos c else 0) := by
    intro x x0 x1
    have hh := uTs_hd hV hf hS hP x0 x1
    have b1 := uHd_b hV hf hS x0 x1
    have b2 := uHd_b hV hf hP.2.1 x0 x1
    refine ⟨uCt_l hk (Or.inl hh), uCt_l hk (Or.inl ?_)⟩
    rcases hP.2.2.2.2.2 x x0 x1 with ⟨a1, a2, a3, a4⟩ | ⟨a1, a2⟩ | ⟨a1, a2, a3, a4⟩ | ⟨a1, a2, a3, a4⟩ | ⟨a1, a2, a3, a4⟩ | ⟨a1, a2, a3, a4, a5, a6, a7, a8⟩ | ⟨a1, a2, a3, a4, a5, a6, a7, a8⟩ <;> (split <;> split <;> omega)
  unfold uYN
  by_cases e0 : t / 256 = 0
  · rw [if_pos e0, if_pos e0]
    exact has _ (by omega) (by omega)
  rw [if_neg e0, if_neg e0]
  by_cases e4 : t / 256 = 4 ∧ t / 16 % 16 = f
  · rw [if_pos e4, if_pos e4]
    exact has _ (by omega) (by omega)
  rw [if_neg e4, if_neg e4]
  by_cases e1 : t / 256 = 1
  · rw [if_pos e1, if_pos e1]
    dsimp only
    have hb := t2 e1
    have ha0 : 0 ≤ t / 16 % 16 := by omega
    generalize t / 16 % 16 = a at *
    have ha : 0 ≤ a ∨ a < 0 := by omega
    have hv := hP.2.2.1
    constructor
    · refine uCt_l hk (Or.inl ?_)
      by_cases g : S f - 1 = a
      · rw [if_pos g]
        split
        · omega
        · have := (hV.1 (S' f - 1) a (by omega) (by omega) (by omega) hb).1
          omega
      · rw [if_neg g]
        rcases ha with ha | ha
        · have h1 := hv a ha hb
          split
          · rename_i g2
            have := hV.1 (S' f - 1) a (by omega) (by omega) ha hb
            omega
          · exact h1
        · exfalso
          omega
    · refine uCt_l hk (Or.inl ?_)
      have h3 := hP.2.2.2.1
      split <;> split <;> omega
  rw [if_neg e1, if_neg e1]
  by_cases e2 : t / 256 = 2
  · rw [if_pos e2, if_pos e2]
    dsimp only
    have hb := t3 e2
    have ha : 0 ≤ t / 16 % 16 := by omega
    generalize t / 16 % 16 = a at *
    have hT := uHt_cn hV hf hS hP ha hb
    by_cases g : a = f
    · have n1 : ¬ S a = 8 := by
        rw [g]
        omega
      have n2 : ¬ S' a = 8 := by
        rw [g]
        omega
      rw [if_neg n1, if_neg n2, if_neg n1, if_neg n2]
      exact ⟨uCt_l hk (Or.inl hT), uCt_l hk (Or.inl (by omega))⟩
    · rcases hP.2.2.2.2.1 a ha hb g with e | ⟨g1, g2, g3, g4⟩
      · rw [e]
        split
        · exact ⟨uCt_l hk (Or.inl (by omega)), uCt_l hk (Or.inl (by omega))⟩
        · exact ⟨uCt_l hk (Or.inl hT), uCt_l hk (Or.inl (by omega))⟩
      · rw [if_neg (show ¬ S a = 8 by omega), if_pos g1, if_neg (show ¬ S a = 8 by omega), if_pos g1]
        exact ⟨uCt_l hk (Or.inl (by omega)), uCt_l hk (Or.inl (by omega))⟩
  rw [if_neg e2, if_neg e2]
  by_cases e3 : t / 256 = 3
  · rw [if_pos e3, if_pos e3]
    dsimp only
    have hb := t4 e3
    have ha : 0 ≤ t / 16 % 16 ∧ 0 ≤ t % 16 := by omega
    generalize t / 16 % 16 = a at *
    generalize t % 16 = b at *
    have hh := uTs_hd hV hf hS hP ha.1 hb.1
    have b1 := uHd_b hV hf hS ha.1 hb.1
    have b2 := uHd_b hV hf hP.2.1 ha.1 hb.1
    have v1 := (hV.1 (uSr V f S a) b (by omega) (by omega) ha.2 hb.2)
    have v2 := (hV.1 (uSr V f S' a) b (by omega) (by omega) ha.2 hb.2)
    have v3 := hP.2.2.1 b ha.2 hb.2
    have v4 := hV.1 (S f - 1) (S f - 1) (by omega) (by omega) (by omega) (by omega)
    have w1 := uHd_c hV hf hS ha.1 hb.1
    have w2 := uHd_c hV hf hP.2.1 ha.1 hb.1
    constructor
    · unfold uLi
      rcases hP.2.2.2.2.2 a ha.1 hb.1 with ⟨a1, a2, a3, a4⟩ | ⟨a1, a2⟩ | ⟨a1, a2, a3, a4⟩ | ⟨a1, a2, a3, a4⟩ | ⟨a1, a2, a3, a4⟩ | ⟨a1, a2, a3, a4, a5, a6, a7, a8⟩ | ⟨a1, a2, a3, a4, a5, a6, a7, a8⟩
      · refine uCt_l hk (Or.inl ?_)
        rw [a1, a4]
        split
        · omega
        split <;> omega
      · have s1 : uSr V f S a = S f - 1 := by omega
        have s2 : uSr V f S' a = S' f - 1 := by omega
        refine uCt_l hk (Or.inl ?_)
        rw [a1, if_neg (by omega), if_neg (by omega), if_neg (by omega), if_neg (by omega), s1, s2]
        omega
      · by_cases g : S (4 + a) = b + 1
        · rw [if_pos g]
          refine uCt_l hk (Or.inl ?_)
          split
          · omega
          split <;> omega
        · rw [a1, if_neg g, if_neg g]
          refine uCt_l hk (Or.inr ⟨?_, Int.le_refl _⟩)
          split <;> omega
      · have s1 : uSr V f S a = S f - 1 := by omega
        have s2 : uSr V f S' a = S f - 1 := by omega
        have hd1 : uHd V c f S a = c 2 := by
          rcases w1 with w | w | w | w | w
          · omega
          · omega
          · omega
          · have := w.2.2.1
            rw [a1] at this
            omega
          · omega
        refine uCt_l hk (Or.inl ?_)
        rw [if_neg (show ¬ S' (4 + a) = b + 1 by omega), s1, s2]
        rw [s1] at v1
        split
        · split <;> omega
        · split <;> split <;> omega
      · have s1 : uSr V f S a = S f - 1 := by omega
        have s2 : uSr V f S' a = S f - 1 := by omega
        refine uCt_l hk (Or.inl ?_)
        rw [if_neg (show ¬ S (4 + a) = b + 1 by omega), if_neg (show ¬ (9 ≤ S (4 + a) ∧ ¬ S (4 + a) = 9 + f ∧ uSr V f S a = b) by omega), s1, s2]
        rw [s1] at v1
        split
        · have : S f - 1 = b := by omega
          omega
        · split <;> omega
      · have s1 : uSr V f S a = S f - 1 := by omega
        have s2 : uSr V f S' a = S f - 1 := by
          rcases w2 with w | w | w | w | w
          · omega
          · have := w.2.2.2.2.2.2
            rw [a6] at this
            exact this
          · omega
          · omega
          · omega
        have hd2 : c 5 + c 2 ≤ uHd V c f S' a := by
          rcases w2 with w | w | w | w | w
          · omega
          · have := w.2.2.2.2.2.1
            rw [a6, a7] at this
            omega
          · omega
          · omega
          · omega
        refine uCt_l hk (Or.inl ?_)
        rw [if_neg (show ¬ S (4 + a) = b + 1 by omega), if_neg (show ¬ (9 ≤ S (4 + a) ∧ ¬ S (4 + a) = 9 + f ∧ uSr V f S a = b) by omega), if_neg (show ¬ S' (4 + a) = b + 1 by omega), s1, s2]
        rw [s1] at v1
        split
        · have : S f - 1 = b := by omega
          omega
        · omega
      · have s1 : uSr V f S a = S f - 1 := by
          rcases w1 with w | w | w | w | w
          · omega
          · have := w.2.2.2.2.2.2
            rw [a4] at this
            exact this
          · omega
          · omega
          · omega
        have hd1 : uHd V c f S a = c 5 + c 2 := by
          rcases w1 with w | w | w | w | w
          · omega
          · have := w.2.2.2.2.2.1
            rw [a4] at this
            omega
          · omega
          · omega
          · omega
        have s2 : uSr V f S' a = S f - 1 := by omega
        have hd2 : uHd V c f S' a = c 2 := by
          rcases w2 with w | w | w | w | w
          · omega
          · omega
          · omega
          · have := w.2.2.1
            rw [a5, a6] at this
            omega
          · omega
        refine uCt_l hk (Or.inl ?_)
        rw [if_neg (show ¬ S (4 + a) = b + 1 by omega), s1, s2]
        rw [s1] at v1
        split
        · split
          · omega
          · split <;> omega
        · split
          · exfalso
            omega
          · split <;> omega
    · refine uCt_l hk (Or.inl ?_)
      rcases hP.2.2.2.2.2 a ha.1 hb.1 with ⟨a1, a2, a3, a4⟩ | ⟨a1, a2⟩ | ⟨a1, a2, a3, a4⟩ | ⟨a1, a2, a3, a4⟩ | ⟨a1, a2, a3, a4⟩ | ⟨a1, a2, a3, a4, a5, a6, a7, a8⟩ | ⟨a1, a2, a3, a4, a5, a6, a7, a8⟩
      · rw [a1]
        split <;> omega
      · rw [a1]
        split <;> omega
      · rw [a1]
        split <;> omega
      · have hd1 : uHd V c f S a = c 2 := by
          rcases w1 with w | w | w | w | w
          · omega
          · omega
          · omega
          · have := w.2.2.1
            rw [a1] at this
            omega
          · omega
        split <;> split <;> omega
      · split <;> split <;> omega
      · split <;> split <;> omega
      · split <;> split <;> omega
  rw [if_neg e3, if_neg e3]
  dsimp only
  have e5 : t / 256 = 4 := by omega
  have hb := t5 e5
  have ha : 0 ≤ t / 16 % 16 ∧ 0 ≤ t % 16 := by omega
  have hne : ¬ t / 16 % 16 = f := fun e => e4 ⟨e5, e⟩
  generalize t / 16 % 16 = a at *
  generalize t % 16 = x at *
  have hh := uTs_hd hV hf hS hP ha.2 hb.2
  have b1 := uHd_b hV hf hS ha.2 hb.2
  have b2 := uHd_b hV hf hP.2.1 ha.2 hb.2
  have w1 := uHd_c hV hf hS ha.2 hb.2
  have w2 := uHd_c hV hf hP.2.1 ha.2 hb.2
  have hT := uHt_cn hV hf hS hP ha.1 hb.1
  have hq := hP.2.2.2.2.1 a ha.1 hb.1 hne
  have hT0 : 0 ≤ uHt V c wp f S' a := by
    unfold uHt
    split
    · decide
    · have := uAm_le (H := uHd V c f S') (wp := wp)
      have h0 := this.2.2 (fun y y0 y1 => (uHd_b hV hf hP.2.1 y0 y1).1)
      unfold uMax
      split <;> omega
  -- the way to a, from where the thing is
  have way : ∀ r, 0 ≤ r → r < 7 → (if 1 ≤ S a ∧ S a ≤ 7 then V r (S a - 1) else 100000) ≤ (if 1 ≤ S' a ∧ S' a ≤ 7 then V r (S' a - 1) else 100000) ∧ 0 ≤ (if 1 ≤ S a ∧ S a ≤ 7 then V r (S a - 1) else 100000) ∧ (if 1 ≤ S a ∧ S a ≤ 7 then V r (S a - 1) else 100000) ≤ 100000 := by
    intro r r0 r1
    rcases hq with e | ⟨g1, g2, g3, g4⟩
    · rw [e]
      refine ⟨Int.le_refl _, ?_⟩
      split
      · have := (hV.1 r (S a - 1) r0 r1 (by omega) (by omega)).1
        omega
      · omega
    · rw [if_neg (show ¬ (1 ≤ S' a ∧ S' a ≤ 7) by omega)]
      split
      · have := (hV.1 r (S a - 1) r0 r1 (by omega) (by omega)).1
        omega
      · omega
  have way' : 0 ≤ (if 1 ≤ S' a ∧ S' a ≤ 7 then V (uSr V f S' x) (S' a - 1) else 100000) := by
    split
    · have := (hV.1 (uSr V f S' x) (S' a - 1) (by omega) (by omega) (by omega) (by omega)).1
      omega
    · omega
  constructor
  · unfold uOw
    rcases hP.2.2.2.2.2 x ha.2 hb.2 with ⟨a1, a2, a3, a4⟩ | ⟨a1, a2⟩ | ⟨a1, a2, a3, a4⟩ | ⟨a1, a2, a3, a4⟩ | ⟨a1, a2, a3, a4⟩ | ⟨a1, a2, a3, a4, a5, a6, a7, a8⟩ | ⟨a1, a2, a3, a4, a5, a6, a7, a8⟩
    · refine uCt_l hk (Or.inl ?_)
      rw [a1, a4]
      have := way (uSr V f S x) (by omega) (by omega)
      split <;> omega
    · have s1 : uSr V f S x = S f - 1 := by omega
      have s2 : uSr V f S' x = S' f - 1 := by omega
      have n1 : ¬ S (4 + x) = 9 + a := by omega
      rw [a1, if_neg n1, if_neg n1, s1, s2]
      have w := way (S f - 1) (by omega) (by omega)
      refine uCt_l hk ?_
      rcases hq with e | ⟨g1, g2, g3, g4⟩
      · left
        rw [e]
        split
        · have := hP.2.2.1 (S a - 1) (by omega) (by omega)
          omega
        · omega
      · left
        rw [if_neg (show ¬ (1 ≤ S' a ∧ S' a ≤ 7) by omega)]
        omega
    · by_cases g : S (4 + x) = 9 + a
      · rw [if_pos g]
        refine uCt_l hk (Or.inl ?_)
        split <;> omega
      · rw [a1, if_neg g, if_neg g]
        refine uCt_l hk (Or.inr ⟨?_, Int.le_refl _⟩)
        omega
    · have s1 : uSr V f S x = S f - 1 := by omega
      have s2 : uSr V f S' x = S f - 1 := by omega
      refine uCt_l hk (Or.inl ?_)
      rw [if_neg (show ¬ S (4 + x) = 9 + a by omega), if_neg (show ¬ S' (4 + x) = 9 + a by omega), s1, s2]
      have w := way (S f - 1) (by omega) (by omega)
      omega
    · have s1 : uSr V f S x = S f - 1 := by omega
      have s2 : uSr V f S' x = S f - 1 := by omega
      refine uCt_l hk (Or.inl ?_)
      rw [if_neg (show ¬ S (4 + x) = 9 + a by omega), if_neg (show ¬ S' (4 + x) = 9 + a by omega), s1, s2]
      have w := way (S f - 1) (by omega) (by omega)
      omega
    · have s1 : uSr V f S x = S f - 1 := by omega
      have s2 : uSr V f S' x = S f - 1 := by
        rcases w2 with w | w | w | w | w
        · omega
        · have := w.2.2.2.2.2.2
          rw [a6] at this
          exact this
        · omega
        · omega
        · omega
      refine uCt_l hk (Or.inl ?_)
      rw [if_neg (show ¬ S (4 + x) = 9 + a by omega), s1]
      by_cases g : S' (4 + x) = 9 + a
      · rw [if_pos g]
        rw [show S' (4 + x) - 9 = a by omega] at a5
        rw [if_pos (by omega), a5]
        have := hV.1 (S f - 1) (S f - 1) (by omega) (by omega) (by omega) (by omega)
        omega
      · rw [if_neg g, s2]
        have w := way (S f - 1) (by omega) (by omega)
        omega
    · have s1 : uSr V f S x = S f - 1 := by
        rcases w1 with w | w | w | w | w
        · omega
        · have := w.2.2.2.2.2.2
          rw [a4] at this
          exact this
        · omega
        · omega
        · omega
      have s2 : uSr V f S' x = S f - 1 := by omega
      refine uCt_l hk (Or.inl ?_)
      rw [if_neg (show ¬ S' (4 + x) = 9 + a by omega), s1, s2]
      have w := way (S f - 1) (by omega) (by omega)
      split <;> omega
  · refine uCt_l hk (Or.inl ?_)
    rcases hP.2.2.2.2.2 x ha.2 hb.2 with ⟨a1, a2, a3, a4⟩ | ⟨a1, a2⟩ | ⟨a1, a2, a3, a4⟩ | ⟨a1, a2, a3, a4⟩ | ⟨a1, a2, a3, a4⟩ | ⟨a1, a2, a3, a4, a5, a6, a7, a8⟩ | ⟨a1, a2, a3, a4, a5, a6, a7, a8⟩
    · rw [a1]
      split <;> omega
    · rw [a1]
      split <;> omega
    · rw [a1]
      split <;> omega
    · split <;> split <;> omega
    · split <;> split <;> omega
    · split <;> split <;> omega
    · by_cases g : S (4 + x) = 9 + a
      · rw [show S (4 + x) - 9 = a by omega] at a8
        rw [if_pos g, if_neg (by omega)]
        omega
      · rw [if_neg g]
        split <;> omega
end
end
