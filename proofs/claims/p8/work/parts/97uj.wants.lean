section
/-! the reference, minds and what is wanted -/
section
set_option maxRecDepth 100000


section
variable {ro : Nat → Nat × (Nat → Int32)} {d : Nat} {Q : Option Value → pmS → Prop} {dr wp pr cnt W : Int → Int} {T : Int → List Int} {n f k : Int} {S r : Int → Int} {a a' : xA} {b b' : xB} {ts : List Int}
/-- a place of the reference's, as a slot has it -/
def uTc (v : Int) : Int := if v < 7 then v + 1 else v - 1
/-- the slots of a folk's mind, by the row -/
def uMn (n : Int) (r : Int → Int) (f : Int) : Int → Int := fun j => if j < 4 then (if j = f then r f + 1 else r (14 + 9 * (f - 1) + 5 + j) + 1) else if j - 4 < n then (if r j = 10 + f then 9 + f else uTc (r (14 + 9 * (f - 1) + (j - 4)))) else 0
/-- a row that may be -/
def uRv (n : Int) (r : Int → Int) : Prop := (∀ p, 0 ≤ p → p < 4 → 0 ≤ r p ∧ r p ≤ 7) ∧ (∀ x, 0 ≤ x → x < n → (0 ≤ r (4 + x) ∧ r (4 + x) ≤ 6) ∨ (10 ≤ r (4 + x) ∧ r (4 + x) ≤ 13) ∨ r (4 + x) = 20) ∧ (∀ x, 0 ≤ x → x < 5 → 0 ≤ r (9 + x) ∧ r (9 + x) ≤ 127) ∧ (∀ f x, 1 ≤ f → f ≤ 3 → 0 ≤ x → x < 5 → (-1 ≤ r (14 + 9 * (f - 1) + x) ∧ r (14 + 9 * (f - 1) + x) ≤ 6) ∨ (10 ≤ r (14 + 9 * (f - 1) + x) ∧ r (14 + 9 * (f - 1) + x) ≤ 13)) ∧ (∀ f q, 1 ≤ f → f ≤ 3 → 0 ≤ q → q < 4 → -1 ≤ r (14 + 9 * (f - 1) + 5 + q) ∧ r (14 + 9 * (f - 1) + 5 + q) ≤ 7) ∧ ∀ f x, 1 ≤ f → f ≤ 3 → n ≤ x → 0 ≤ x → x < 5 → r (14 + 9 * (f - 1) + x) = -1
theorem uMn_ok (hn : 0 ≤ n ∧ n ≤ 5) (hr : uRv n r) (hf : 1 ≤ f ∧ f ≤ 3) (ha : ¬ r f = 7) : uOk f (uMn n r f) ∧ uOn n (uMn n r f) := by
  obtain ⟨h1, h2, h3, h4, h5, h6⟩ := hr
  have hf1 := h1 f (by omega) (by omega)
  refine ⟨⟨?_, fun q q0 q1 => ?_, fun x x0 x1 => ?_⟩, fun x xn x0 x1 => ?_⟩
  · unfold uMn
    rw [if_pos (by omega), if_pos rfl]
    omega
  · unfold uMn
    rw [if_pos (by omega)]
    have := h5 f q hf.1 hf.2 q0 q1
    split <;> omega
  · unfold uMn uTc
    rw [if_neg (by omega)]
    have := h4 f x hf.1 hf.2 x0 x1
    rw [show 4 + x - 4 = x by omega]
    split
    · split
      · omega
      · split <;> omega
    · omega
  · unfold uMn
    rw [if_neg (by omega), if_neg (by omega)]
/-- minds -/
theorem u186 (hA : xAr a) (hn : a 87 2 = n) (hn0 : 0 ≤ n ∧ n ≤ 5) (hr : uRv n (a 88)) (hf : 1 ≤ f ∧ f ≤ 3) (hd : 2 ≤ d) (hQ : ∀ a', (∀ q j, q ≠ 108 → a' q j = a q j) → xAr a' → uMd f 0 a' (uMn n (a 88) f) → Q none (xS a' b)) : pmCs ro d 186 [.ref 87, xV f] (xS a b) Q := by
  obtain ⟨h1, h2, h3, h4, h5, h6⟩ := hr
  refine pmCs_deep (d := 2) (xg186 (w186 hf ?_)) hd
  have e88 : ∀ a1 : xA, (∀ q j, q ≠ 108 → a1 q j = a q j) → ∀ j, a1 88 j = a 88 j := fun a1 h j => h 88 j (by decide)
  -- persons
  have l2 : ∀ (m : Nat) (i : Int) (a1 : xA), 4 - i ≤ (m : Int) → 0 ≤ i ∧ i ≤ 4 → (∀ q j, q ≠ 108 → a1 q j = a q j) → xAr a1 → a1 108 0 = a 88 f → (∀ x, 0 ≤ x → x < 5 → a1 108 (0 + 1 + x) = uVc (uMn n (a 88) f (4 + x))) → (∀ q, 0 ≤ q → q < i → a1 108 (0 + 6 + q) = if q = f then -1 else uMn n (a 88) f q - 1) →
      pmWp ro 1 12 186 0 81 [some (.ref 87), some (xV f), some (xV i)] [] (xS a1 b) Q := by
    intro m
    have fin : ∀ (i : Int) (a1 : xA), i = 4 → (∀ q j, q ≠ 108 → a1 q j = a q j) → xAr a1 → a1 108 0 = a 88 f → (∀ x, 0 ≤ x → x < 5 → a1 108 (0 + 1 + x) = uVc (uMn n (a 88) f (4 + x))) → (∀ q, 0 ≤ q → q < i → a1 108 (0 + 6 + q) = if q = f then -1 else uMn n (a 88) f q - 1) → Q none (xS a1 b) := by
      intro i a1 hi g1 g2 g3 g4 g5
      refine hQ a1 g1 g2 ⟨?_, g4, fun q q0 q1 => g5 q q0 (by omega)⟩
      rw [g3]
      unfold uMn
      rw [if_pos (by omega), if_pos rfl]
      omega
    induction m with
    | zero =>
      intro i a1 hm hi g1 g2 g3 g4 g5
      refine w186b g2 hf ((g1 87 2 (by decide)).trans hn) hn0 (by decide) hi (fun _ => fin i a1 (by omega) g1 g2 g3 g4 g5) (fun e => by omega) (fun e => by omega)
    | succ m ih =>
      intro i a1 hm hi g1 g2 g3 g4 g5
      have nx : ∀ v, i < 4 → v = (if i = f then -1 else uMn n (a 88) f i - 1) → xR v → pmWp ro 1 12 186 0 81 [some (.ref 87), some (xV f), some (xV (i + 1))] [] (xS (xU a1 108 (6 + i) v) b) Q := by
        intro v i4 hv hr
        refine ih (i + 1) _ (by omega) (by omega) (fun q j h => by rw [xUn h]; exact g1 q j h) (xAr_u g2 hr) (by rw [xUk (by omega)]; exact g3) (fun x x0 x1 => by rw [xUk (by omega)]; exact g4 x x0 x1) (fun q q0 q1 => ?_)
        by_cases c : q = i
        · rw [c, show 0 + 6 + i = 6 + i by omega, xUa, hv]
        · rw [xUk (by omega)]
          exact g5 q q0 (by omega)
      refine w186b g2 hf ((g1 87 2 (by decide)).trans hn) hn0 (by decide) hi (fun _ => fin i a1 (by omega) g1 g2 g3 g4 g5) (fun e1 e2 => ?_) (fun e1 e2 => ?_)
      · refine nx _ (by omega) ?_ (g2 _ _)
        rw [if_neg e2, e88 a1 g1]
        unfold uMn
        rw [if_pos (by omega), if_neg e2]
        omega
      · exact nx (-1) (by omega) (by rw [if_pos e2]) ⟨by decide, by decide⟩
  -- things
  have l1 : ∀ (m : Nat) (i : Int) (a1 : xA), 5 - i ≤ (m : Int) → 0 ≤ i ∧ i ≤ 5 → (∀ q j, q ≠ 108 → a1 q j = a q j) → xAr a1 → a1 108 0 = a 88 f → (∀ x, 0 ≤ x → x < i → a1 108 (0 + 1 + x) = uVc (uMn n (a 88) f (4 + x))) →
      pmWp ro 1 12 186 0 16 [some (.ref 87), some (xV f), some (xV i)] [] (xS a1 b) Q := by
    intro m
    induction m with
    | zero =>
      intro i a1 hm hi g1 g2 g3 g4
      refine w186a g2 hf ((g1 87 2 (by decide)).trans hn) hn0 (by decide) hi (fun _ => l2 4 0 a1 (by decide) (by decide) g1 g2 g3 (fun x x0 x1 => g4 x x0 (by omega)) (fun q q0 q1 => by omega)) (fun e => by omega) (fun e => by omega) (fun e => by omega)
    | succ m ih =>
      intro i a1 hm hi g1 g2 g3 g4
      have nx : ∀ v, i < 5 → v = uVc (uMn n (a 88) f (4 + i)) → xR v → pmWp ro 1 12 186 0 16 [some (.ref 87), some (xV f), some (xV (i + 1))] [] (xS (xU a1 108 (1 + i) v) b) Q := by
        intro v i5 hv hr
        refine ih (i + 1) _ (by omega) (by omega) (fun q j h => by rw [xUn h]; exact g1 q j h) (xAr_u g2 hr) (by rw [xUk (by omega)]; exact g3) (fun x x0 x1 => ?_)
        by_cases c : x = i
        · rw [c, show 0 + 1 + i = 1 + i by omega, xUa, hv]
        · rw [xUk (by omega)]
          exact g4 x x0 (by omega)
      refine w186a g2 hf ((g1 87 2 (by decide)).trans hn) hn0 (by decide) hi (fun _ => l2 4 0 a1 (by decide) (by decide) g1 g2 g3 (fun x x0 x1 => g4 x x0 (by omega)) (fun q q0 q1 => by omega)) (fun e1 e2 => ?_) (fun e1 e2 e3 => ?_) (fun e1 e2 e3 => ?_)
      · refine nx (-1) (by omega) ?_ ⟨by decide, by decide⟩
        have : uMn n (a 88) f (4 + i) = 0 := by
          unfold uMn
          rw [if_neg (by omega), if_neg (by omega)]
        rw [this]
        rfl
      · rw [e88 a1 g1] at e3
        have := h4 f i hf.1 hf.2 hi.1 (by omega)
        refine nx _ (by omega) ?_ (g2 _ _)
        rw [e88 a1 g1]
        unfold uMn uVc uTc
        rw [if_neg (show ¬ 4 + i < 4 by omega), if_pos (show 4 + i - 4 < n by omega), if_neg e3, show 4 + i - 4 = i by omega]
        generalize a 88 (14 + 9 * (f - 1) + i) = v at *
        by_cases c : v < 7
        · rw [if_pos c, if_pos (by omega)]
          omega
        · rw [if_neg c, if_neg (by omega)]
          omega
      · rw [e88 a1 g1] at e3
        refine nx _ (by omega) ?_ ⟨by omega, by omega⟩
        unfold uMn uVc
        rw [if_neg (show ¬ 4 + i < 4 by omega), if_pos (show 4 + i - 4 < n by omega), if_pos e3, if_neg (by omega)]
        omega
  rw [show 0 + f = f by omega]
  exact l1 5 0 _ (by decide) (by decide) (fun q j h => by rw [xUn h]) (xAr_u hA (hA _ _)) xUa (fun x x0 x1 => by omega)
/-- the key of a mind -/
def uK8 (f k : Int) (m : Int → Int) : Int := (((((((((((4 + f) * 3 + k) * 16 + m 0 + 1) * 16 + m 1 + 1) * 16 + m 2 + 1) * 16 + m 3 + 1) * 16 + m 4 + 1) * 16 + m 5 + 1) * 16 + m 6 + 1) * 16 + m 7 + 1) * 16 + m 8 + 1) * 16 + m 9 + 1
/-- the cells of a mind -/
def uMc (f : Int) (S : Int → Int) : Int → Int := fun i => if i = 0 then S f - 1 else if i < 6 then uVc (S (3 + i)) else if i - 6 = f then -1 else S (i - 6) - 1
def uKn (f k : Int) (S : Int → Int) : Int := uK8 f k (uMc f S)
theorem uMc_b (hf : 1 ≤ f ∧ f ≤ 3) (hS : uOk f S) {i : Int} (h0 : 0 ≤ i) (h1 : i < 10) : -1 ≤ uMc f S i ∧ uMc f S i ≤ 14 := by
  obtain ⟨s1, s2, s3⟩ := hS
  unfold uMc uVc
  by_cases c : i = 0
  · rw [if_pos c]
    omega
  rw [if_neg c]
  by_cases c2 : i < 6
  · rw [if_pos c2]
    have := s3 (i - 1) (by omega) (by omega)
    rw [show 4 + (i - 1) = 3 + i by omega] at this
    split <;> omega
  rw [if_neg c2]
  have := s2 (i - 6) (by omega) (by omega)
  split <;> omega
theorem uMd_c (hM : uMd f 0 a S) {i : Int} (h0 : 0 ≤ i) (h1 : i < 10) : a 108 i = uMc f S i := by
  obtain ⟨m1, m2, m3⟩ := hM
  unfold uMc
  by_cases c : i = 0
  · rw [if_pos c, c]
    exact m1
  rw [if_neg c]
  by_cases c2 : i < 6
  · rw [if_pos c2]
    have := m2 (i - 1) (by omega) (by omega)
    rw [show 0 + 1 + (i - 1) = i by omega, show 4 + (i - 1) = 3 + i by omega] at this
    exact this
  rw [if_neg c2]
  have := m3 (i - 6) (by omega) (by omega)
  rw [show 0 + 6 + (i - 6) = i by omega] at this
  exact this
theorem uD16 {x y u v : Int} (hu : -1 ≤ u ∧ u ≤ 14) (hv : -1 ≤ v ∧ v ≤ 14) (h : x * 16 + u + 1 = y * 16 + v + 1) : x = y ∧ u = v := by omega
theorem uK8_b {m : Int → Int} (hf : 1 ≤ f ∧ f ≤ 3) (hk : 0 ≤ k ∧ k ≤ 2) (hm : ∀ i, 0 ≤ i → i < 10 → -1 ≤ m i ∧ m i ≤ 14) : 0 < uK8 f k m ∧ uK8 f k m < 4611686018427387904 := by
  have b0 := hm 0 (by decide) (by decide)
  have b1 := hm 1 (by decide) (by decide)
  have b2 := hm 2 (by decide) (by decide)
  have b3 := hm 3 (by decide) (by decide)
  have b4 := hm 4 (by decide) (by decide)
  have b5 := hm 5 (by decide) (by decide)
  have b6 := hm 6 (by decide) (by decide)
  have b7 := hm 7 (by decide) (by decide)
  have b8 := hm 8 (by decide) (by decide)
  have b9 := hm 9 (by decide) (by decide)
  unfold uK8
  omega
theorem uK8_i {f' k' : Int} {m m' : Int → Int} (hk : 0 ≤ k ∧ k ≤ 2) (hk' : 0 ≤ k' ∧ k' ≤ 2) (hm : ∀ i, 0 ≤ i → i < 10 → -1 ≤ m i ∧ m i ≤ 14) (hm' : ∀ i, 0 ≤ i → i < 10 → -1 ≤ m' i ∧ m' i ≤ 14) (h : uK8 f k m = uK8 f' k' m') : f = f' ∧ k = k' ∧ ∀ i, 0 ≤ i → i < 10 → m i = m' i := by
  unfold uK8 at h
  obtain ⟨h, e9⟩ := uD16 (hm 9 (by decide) (by decide)) (hm' 9 (by decide) (by decide)) h
  obtain ⟨h, e8⟩ := uD16 (hm 8 (by decide) (by decide)) (hm' 8 (by decide) (by decide)) h
  obtain ⟨h, e7⟩ := uD16 (hm 7 (by decide) (by decide)) (hm' 7 (by decide) (by decide)) h
  obtain ⟨h, e6⟩ := uD16 (hm 6 (by decide) (by decide)) (hm' 6 (by decide) (by decide)) h
  obtain ⟨h, e5⟩ := uD16 (hm 5 (by decide) (by decide)) (hm' 5 (by decide) (by decide)) h
  obtain ⟨h, e4⟩ := uD16 (hm 4 (by decide) (by decide)) (hm' 4 (by decide) (by decide)) h
  obtain ⟨h, e3⟩ := uD16 (hm 3 (by decide) (by decide)) (hm' 3 (by decide) (by decide)) h
  obtain ⟨h, e2⟩ := uD16 (hm 2 (by decide) (by decide)) (hm' 2 (by decide) (by decide)) h
  obtain ⟨h, e1⟩ := uD16 (hm 1 (by decide) (by decide)) (hm' 1 (by decide) (by decide)) h
  obtain ⟨h, e0⟩ := uD16 (hm 0 (by decide) (by decide)) (hm' 0 (by decide) (by decide)) h
  refine ⟨by omega, by omega, fun i i0 i1 => ?_⟩
  have : i = 0 ∨ i = 1 ∨ i = 2 ∨ i = 3 ∨ i = 4 ∨ i = 5 ∨ i = 6 ∨ i = 7 ∨ i = 8 ∨ i = 9 := by omega
  rcases this with e | e | e | e | e | e | e | e | e | e <;> (subst e; assumption)
theorem uKn_i {f' k' : Int} {S' : Int → Int} (hf : 1 ≤ f ∧ f ≤ 3) (hk : 0 ≤ k ∧ k ≤ 2) (hS : uOk f S) (hf' : 1 ≤ f' ∧ f' ≤ 3) (hk' : 0 ≤ k' ∧ k' ≤ 2) (hS' : uOk f' S') (h : Int64.ofInt (uKn f k S) = Int64.ofInt (uKn f' k' S')) : f = f' ∧ k = k' ∧ uQ S S' := by
  have b1 : 0 < uK8 f k (uMc f S) ∧ uK8 f k (uMc f S) < 4611686018427387904 := uK8_b (f := f) (k := k) hf hk (fun i i0 i1 => uMc_b hf hS i0 i1)
  have b2 : 0 < uK8 f' k' (uMc f' S') ∧ uK8 f' k' (uMc f' S') < 4611686018427387904 := uK8_b (f := f') (k := k') hf' hk' (fun i i0 i1 => uMc_b hf' hS' i0 i1)
  have h2 := congrArg Int64.toInt h
  unfold uKn at h2
  rw [Int64.toInt_ofInt_of_le (by omega) (by omega), Int64.toInt_ofInt_of_le (by omega) (by omega)] at h2
  obtain ⟨e1, e2, e3⟩ := uK8_i hk hk' (fun i i0 i1 => uMc_b hf hS i0 i1) (fun i i0 i1 => uMc_b hf' hS' i0 i1) h2
  subst e1
  refine ⟨rfl, e2, fun j j0 j1 => ?_⟩
  obtain ⟨s1, s2, s3⟩ := hS
  obtain ⟨s1', s2', s3'⟩ := hS'
  by_cases c : j = f
  · have := e3 0 (by decide) (by decide)
    unfold uMc at this
    rw [if_pos rfl, if_pos rfl] at this
    rw [c]
    omega
  by_cases c2 : j < 4
  · have := e3 (6 + j) (by omega) (by omega)
    unfold uMc at this
    rw [if_neg (by omega), if_neg (by omega), if_neg (by omega), if_neg (by omega), if_neg (by omega), if_neg (by omega), show 6 + j - 6 = j by omega] at this
    omega
  · have := e3 (j - 3) (by omega) (by omega)
    have q1 := s3 (j - 4) (by omega) (by omega)
    have q2 := s3' (j - 4) (by omega) (by omega)
    rw [show 4 + (j - 4) = j by omega] at q1 q2
    unfold uMc at this
    rw [if_neg (by omega), if_pos (by omega), if_neg (by omega), if_pos (by omega), show 3 + (j - 3) = j by omega] at this
    unfold uVc at this
    split at this <;> split at this <;> omega
theorem u200 (hA : xAr a) (hM : uMd f 0 a S) (hf : 1 ≤ f ∧ f ≤ 3) (hk : 0 ≤ k ∧ k ≤ 2) (hd : 1 ≤ d) (hQ : Q (some (.long (Int64.ofInt (uKn f k S)))) (xS a b)) : pmCs ro d 200 [.ref 87, xV f, xV k] (xS a b) Q := by
  refine pmCs_deep (d := 1) (xg200 (w200 hA hf hk ?_)) hd
  have e : ∀ i : Int, 0 ≤ i → i < 10 → a 108 i = uMc f S i := fun i i0 i1 => uMd_c hM i0 i1
  rw [e 0 (by decide) (by decide), e (0 + 1) (by decide) (by decide), e (0 + 1 + 1) (by decide) (by decide), e (0 + 1 + 1 + 1) (by decide) (by decide), e (0 + 1 + 1 + 1 + 1) (by decide) (by decide), e (0 + 1 + 1 + 1 + 1 + 1) (by decide) (by decide), e (0 + 1 + 1 + 1 + 1 + 1 + 1) (by decide) (by decide), e (0 + 1 + 1 + 1 + 1 + 1 + 1 + 1) (by decide) (by decide), e (0 + 1 + 1 + 1 + 1 + 1 + 1 + 1 + 1) (by decide) (by decide), e (0 + 1 + 1 + 1 + 1 + 1 + 1 + 1 + 1 + 1) (by decide) (by decide)]
  unfold uKn uK8 at hQ
  simp only [Int64.ofInt_add, Int64.ofInt_mul] at hQ
  exact hQ
end
end
end
section
/-! the reference, the memo of first deeds -/
section
set_option maxRecDepth 100000


section
variable {ro : Nat → Nat × (Nat → Int32)} {d : Nat} {Q : Option Value → pmS → Prop} {dr wp pr cnt W : Int → Int} {T : Int → List Int} {n f k : Int} {S r : Int → Int} {a a' : xA} {b b' : xB} {ts : List Int}
/-- the first deed of the best row -/
noncomputable def uF1 (dr wp pr : Int → Int) (ts : List Int) (f : Int) (S : Int → Int) : Int := match uOpt dr wp pr f ts 4 S with
  | none => -1
  | some q => q.2.headD (-1)
theorem uFd_1 (h : uHold f ts S = false) : uFd dr wp pr ts f S = uF1 dr wp pr ts f S := by
  unfold uFd
  rw [h]
  rfl
theorem uFd_h (h : uHold f ts S = true) : uFd dr wp pr ts f S = -1 := by
  unfold uFd
  rw [h]
  rfl
theorem uF1_b (hp : uPp pr) : -1 ≤ uF1 dr wp pr ts f S ∧ uF1 dr wp pr ts f S ≤ 40 := by
  unfold uF1
  cases ho : uOpt dr wp pr f ts 4 S with
  | none => exact ⟨by decide, by decide⟩
  | some q =>
    obtain ⟨h1, h2, h3, h4⟩ := uOpt_len hp 4 S q ho
    obtain ⟨z, l⟩ := q
    match l, h1, h4 with
    | x :: l', h1, h4 =>
      have := h4 x List.mem_cons_self
      show -1 ≤ x ∧ x ≤ 40
      omega
/-- the memo of first deeds: not full, and true -/
def uMo (a : xA) (b : xB) : Prop := (0 ≤ a 87 41 ∧ a 87 41 ≤ 3000) ∧ (((List.range 4096).countP (fun j : Nat => !(b 114 (j : Int) == 0)) : Nat) : Int) ≤ a 87 41
def uMV (dr wp pr cnt : Int → Int) (T : Int → List Int) (n : Int) (a : xA) (b : xB) : Prop := uMo a b ∧ (∀ j, 0 ≤ j → j < 4096 → 0 ≤ a 115 j ∧ a 115 j ≤ 41) ∧ ∀ j, 0 ≤ j → j < 4096 → b 114 j = 0 ∨ ∀ f k S, 1 ≤ f → f ≤ 3 → 0 ≤ k → k < cnt f → uOk f S → uOn n S → Int64.ofInt (uKn f k S) = b 114 j → a 115 j = uF1 dr wp pr (T (f * 3 + k)) f S + 1
theorem uMo_z (h : uMo a b) : ∃ z : Nat, z < 4096 ∧ b 114 (z : Int) = 0 := by
  apply Classical.byContradiction
  intro hn
  have hall : ∀ j ∈ List.range 4096, (!(b 114 (j : Int) == 0)) = true := fun j hj => by
    have hj := List.mem_range.mp hj
    cases hc : b 114 (j : Int) == 0 with
    | false => rfl
    | true => exact absurd ⟨j, hj, eq_of_beq hc⟩ hn
  have := List.countP_eq_length.mpr hall
  obtain ⟨h1, h2⟩ := h
  rw [this, List.length_range] at h2
  omega
theorem uRem {K : Int} (h0 : 0 ≤ K) (h1 : K < 4611686018427387904) : 0 ≤ xL2 (Int64.ofInt K - Int64.ofInt K / (4093 : Int64) * (4093 : Int64)) ∧ xL2 (Int64.ofInt K - Int64.ofInt K / (4093 : Int64) * (4093 : Int64)) ≤ 4092 := by
  have e0 : (4093 : Int64) = Int64.ofInt 4093 := rfl
  have m1 : Int64.minValue.toInt = -9223372036854775808 := rfl
  have m2 : Int64.maxValue.toInt = 9223372036854775807 := rfl
  have e1 : Int64.ofInt K / Int64.ofInt 4093 = Int64.ofInt (K.tdiv 4093) := (Int64.ofInt_tdiv (by omega) (by omega) (by decide) (by decide)).symm
  rw [e0, e1, ← Int64.ofInt_mul, ← Int64.ofInt_sub]
  have e2 : K - K.tdiv 4093 * 4093 = K % 4093 := by
    rw [Int.tdiv_eq_ediv_of_nonneg h0]
    omega
  rw [e2]
  unfold xL2
  rw [Int64.toInt32_ofInt, Int32.toInt_ofInt_of_le (by omega) (by omega)]
  omega
theorem uKn_b (hf : 1 ≤ f ∧ f ≤ 3) (hk : 0 ≤ k ∧ k ≤ 2) (hS : uOk f S) : 0 < uKn f k S ∧ uKn f k S < 4611686018427387904 := uK8_b hf hk (fun i i0 i1 => uMc_b hf hS i0 i1)
theorem uKn_z (hf : 1 ≤ f ∧ f ≤ 3) (hk : 0 ≤ k ∧ k ≤ 2) (hS : uOk f S) : ¬ Int64.ofInt (uKn f k S) = 0 := by
  intro h
  have hb := uKn_b hf hk hS
  have h2 := congrArg Int64.toInt h
  rw [Int64.toInt_ofInt_of_le (by omega) (by omega)] at h2
  have h2 : uKn f k S = 0 := h2
  omega
/-- what finding a first deed may change -/
def uFm (a a' : xA) (b b' : xB) : Prop := (∀ q j, q ≠ 108 → q ≠ 109 → q ≠ 110 → q ≠ 111 → q ≠ 112 → q ≠ 113 → q ≠ 115 → ¬ (q = 87 ∧ (j = 33 ∨ j = 34 ∨ j = 41)) → a' q j = a q j) ∧ (∀ j, j < 10 → a' 108 j = a 108 j) ∧ ∀ q j, q ≠ 114 → b' q j = b q j
theorem uFm_r : uFm a a b b := ⟨fun _ _ _ _ _ _ _ _ _ _ => rfl, fun _ _ => rfl, fun _ _ _ => rfl⟩
theorem uFm_t {a'' : xA} {b'' : xB} (h : uFm a a' b b') (h' : uFm a' a'' b' b'') : uFm a a'' b b'' := ⟨fun q j e1 e2 e3 e4 e5 e6 e7 e8 => (h'.1 q j e1 e2 e3 e4 e5 e6 e7 e8).trans (h.1 q j e1 e2 e3 e4 e5 e6 e7 e8), fun j e => (h'.2.1 j e).trans (h.2.1 j e), fun q j e => (h'.2.2 q j e).trans (h.2.2 q j e)⟩
theorem uFm_l (h : uFl 0 a a') : uFm a a' b b := ⟨fun q j e1 e2 e3 e4 e5 e6 e7 e8 => h.1 q j e1 e2 e3 e4 e5 e6 (fun e => e8 ⟨e.1, by omega⟩), fun j e => h.2.1 j (by omega), fun _ _ _ => rfl⟩
theorem uMV_f (h : uMV dr wp pr cnt T n a b) (h1 : a' 87 41 = a 87 41) (h2 : ∀ j, a' 115 j = a 115 j) (h3 : ∀ j, b' 114 j = b 114 j) : uMV dr wp pr cnt T n a' b' := by
  obtain ⟨⟨m1, m2⟩, m3, m4⟩ := h
  refine ⟨⟨by rw [h1]; exact m1, ?_⟩, fun j j0 j1 => by rw [h2]; exact m3 j j0 j1, fun j j0 j1 => by rw [h2, h3]; exact m4 j j0 j1⟩
  have e : (fun j : Nat => !(b' 114 (j : Int) == 0)) = (fun j : Nat => !(b 114 (j : Int) == 0)) := funext fun j => by rw [h3]
  rw [h1, e]
  exact m2
theorem xUo {β : Type} {f : Nat → Int → β} {w : β} {q p : Nat} {j k : Int} (h : ¬ (q = p ∧ j = k)) : xU f p k w q j = f q j := if_neg h
theorem uRs_o {w : Int} (h : uRs dr wp pr n w ts a) (hA : xAr a') (e : ∀ q j, (q = 90 ∨ q = 91 ∨ q = 92 ∨ q = 98 ∨ q = 99 ∨ q = 109 ∨ (q = 87 ∧ j = 2)) → a' q j = a q j) : uRs dr wp pr n w ts a' := by
  obtain ⟨r1, ⟨w1, w2, w3, w4⟩, r3, r4, r5, r6, r7⟩ := h
  refine ⟨hA, ⟨fun i i0 i1 => (e 91 i (by omega)).trans (w1 i i0 i1), (e 87 2 (by omega)).trans w2, w3, w4⟩, fun k k0 k1 => ⟨(e 90 k (by omega)).trans (r3 k k0 k1).1, (r3 k k0 k1).2⟩, fun i i0 i1 => (e 92 i (by omega)).trans (r4 i i0 i1), (e 98 w (by omega)).trans r5, fun j t ht => (e 99 _ (by omega)).trans (r6 j t ht), fun j j0 j1 => by rw [e 109 j (by omega)]; exact r7 j j0 j1⟩
/-- firstDeed -/
theorem u199 (hE : uRe pr f (T (f * 3 + k))) (hc3 : ∀ p, 1 ≤ p → p ≤ 3 → cnt p ≤ 3) (hk : 0 ≤ k ∧ k < cnt f) (hR : uRs dr wp pr n (3 * f + k) (T (f * 3 + k)) a) (hM : uMd f 0 a S) (hS : uOk f S) (hN : uOn n S) (hV : uMV dr wp pr cnt T n a b) (hd : 5 ≤ d) (hQ : ∀ a' b', uFm a a' b b' → uRs dr wp pr n (3 * f + k) (T (f * 3 + k)) a' → uMV dr wp pr cnt T n a' b' → Q (some (xV (uF1 dr wp pr (T (f * 3 + k)) f S))) (xS a' b')) : pmCs ro d 199 [.ref 87, xV f, xV k] (xS a b) Q := by
  have hf : 1 ≤ f ∧ f ≤ 3 := hE.2.1
  have hpp := hE.1
  have hk2 : k ≤ 2 := by
    have := hc3 f hf.1 hf.2
    omega
  have htk : uTks (T (f * 3 + k)) := fun t ht => (hE.2.2.2.1 t ht).1
  have hF := uF1_b (dr := dr) (wp := wp) (ts := T (f * 3 + k)) (f := f) (S := S) hpp
  have hb := uKn_b hf ⟨hk.1, hk2⟩ hS
  have hz := uKn_z hf ⟨hk.1, hk2⟩ hS
  have hrem := uRem (K := uKn f k S) (by omega) hb.2
  refine pmCs_deep (d := 5) (xg199 (w199 (u200 hR.1 hM hf ⟨hk.1, hk2⟩ (by decide) (w199a ?_)))) hd
  obtain ⟨key, hkey⟩ : ∃ z, Int64.ofInt (uKn f k S) = z := ⟨_, rfl⟩
  rw [hkey] at hrem hz ⊢
  -- after the search
  have after : ∀ at0 : Int, 0 ≤ at0 ∧ at0 ≤ 4095 → (b 114 at0 = 0 ∨ b 114 at0 = key) → pmWp ro 4 12 199 1 60 [some (.ref 87), some (xV f), some (xV k), some (.long key), none, some (xV at0), none] [] (xS a b) Q := by
    intro at0 hat hat2
    have h115 := hV.2.1 at0 hat.1 (by omega)
    refine w199c hat rfl (by omega) (fun e => ?_) (fun e => ?_)
    · have hb0 : b 114 at0 = 0 := by
        rcases hat2 with h | h
        · exact h
        · exact absurd ((xCmp0 _ _).mpr h) e
      refine u190 hE ⟨hk.1, hk2⟩ hR hM hS hN (by decide) (fun a2 z x2 R2 B2 hz2 hzn => ?_)
      have e41 : a2 87 41 = a 87 41 := x2.1 87 41 (by decide) (by decide) (by decide) (by decide) (by decide) (by decide) (by decide)
      have e115 : ∀ j, a2 115 j = a 115 j := fun j => x2.1 115 j (by decide) (by decide) (by decide) (by decide) (by decide) (by decide) (by omega)
      have hV2 : uMV dr wp pr cnt T n a2 b := uMV_f hV e41 e115 (fun _ => rfl)
      have fin : ∀ v, v = uF1 dr wp pr (T (f * 3 + k)) f S → pmWp ro 4 12 199 1 101 [some (.ref 87), some (xV f), some (xV k), some (.long key), none, some (xV at0), none] [xV v] (xS a2 b) Q := by
        intro v hv
        refine w199e hat (by omega) e41 hV.1.1 (fun e1 => ?_) (fun e1 => ?_)
        · rw [hv]
          exact hQ a2 b (uFm_l x2) R2 hV2
        · rw [hv]
          refine hQ _ _ (uFm_t (uFm_l x2) ⟨fun q j e1 e2 e3 e4 e5 e6 e7 e8 => ?_, fun j e => ?_, fun q j e => xUn e⟩) ?_ ?_
          · rw [xUo (by omega), xUn e7]
          · rw [xUn (by decide), xUn (by decide)]
          · exact uRs_o R2 (xAr_u (xAr_u R2.1 ⟨by omega, by omega⟩) ⟨by have := hV.1.1; omega, by have := hV.1.1; omega⟩) (fun q j e => by rw [xUo (by omega), xUn (by omega)])
          · refine ⟨⟨?_, ?_⟩, fun j j0 j1 => ?_, fun j j0 j1 => ?_⟩
            · rw [xUa]
              have := hV.1.1
              omega
            · rw [xUa]
              have hc := kCnt (f := fun j : Nat => !(xU b 114 at0 key 114 (j : Int) == 0)) (g := fun j : Nat => !(b 114 (j : Int) == 0)) (a := at0.toNat) (fun j hj => by rw [xUk (by omega)]) 4096
              have h2 := hV.1.2
              split at hc <;> omega
            · rw [xUn (by decide)]
              by_cases c : j = at0
              · rw [c, xUa]
                omega
              · rw [xUk c, e115]
                exact hV.2.1 j j0 j1
            · by_cases c : j = at0
              · right
                intro f' k' S' p0 p1 k0 k1 hS' hN' hk'
                rw [c, xUa, ← hkey] at hk'
                rw [xUn (by decide), c, xUa]
                obtain ⟨q1, q2, q3⟩ := uKn_i ⟨p0, p1⟩ ⟨k0, by have := hc3 f' p0 p1; omega⟩ hS' hf ⟨hk.1, hk2⟩ hS hk'
                subst q1 q2
                unfold uF1
                rw [uQ_opt hf htk 4 _ _ q3]
              · rw [xUk c, xUn (by decide), xUk c, e115]
                exact hV.2.2 j j0 j1
      refine w199d hat hz2 (fun ez => fin _ ?_) (fun ez => fin _ ?_)
      · unfold uF1
        rw [hzn.mp ez]
      · unfold uF1
        cases ho : uOpt dr wp pr f (T (f * 3 + k)) 4 S with
        | none => exact absurd (hzn.mpr ho) ez
        | some q =>
          obtain ⟨h1, h2, h3, h4, h5⟩ := B2.2 q ho
          obtain ⟨zz, l⟩ := q
          match l, h1, h5 with
          | x :: l', h1, h5 => exact h5 0 x rfl
    · have e := (xCmp0 _ _).mp e
      have hv := hV.2.2 at0 hat.1 (by omega)
      rcases hv with hv | hv
      · rw [hv] at e
        exact absurd e.symm hz
      · have := hv f k S hf.1 hf.2 hk.1 hk.2 hS hN (hkey.trans e.symm)
        rw [this, show uF1 dr wp pr (T (f * 3 + k)) f S + 1 - 1 = uF1 dr wp pr (T (f * 3 + k)) f S by omega]
        exact hQ a b uFm_r hR hV
  obtain ⟨z, hz1, hz2⟩ := uMo_z hV.1
  have loop : ∀ (m : Nat) (at0 : Int), 0 ≤ at0 ∧ at0 ≤ 4095 → (if at0 ≤ (z : Int) then (z : Int) - at0 else (z : Int) + 4096 - at0) ≤ (m : Int) → pmWp ro 4 12 199 1 15 [some (.ref 87), some (xV f), some (xV k), some (.long key), none, some (xV at0), none] [] (xS a b) Q := by
    intro m
    induction m with
    | zero =>
      intro at0 hat hm
      have e : at0 = (z : Int) := by
        split at hm <;> omega
      refine w199b hat (fun e1 => after at0 hat (Or.inl ((xCmp0 _ _).mp e1))) (fun _ e1 => after at0 hat (Or.inr ((xCmp0 _ _).mp e1))) (fun e1 => ?_) (fun e1 => ?_)
      · exact absurd ((xCmp0 _ _).mpr (by rw [e]; exact hz2)) e1
      · exact absurd ((xCmp0 _ _).mpr (by rw [e]; exact hz2)) e1
    | succ m ih =>
      intro at0 hat hm
      refine w199b hat (fun e1 => after at0 hat (Or.inl ((xCmp0 _ _).mp e1))) (fun _ e1 => after at0 hat (Or.inr ((xCmp0 _ _).mp e1))) (fun e1 e2 e3 => ?_) (fun e1 e2 e3 => ?_)
      · have ne : ¬ at0 = (z : Int) := fun e => e1 ((xCmp0 _ _).mpr (by rw [e]; exact hz2))
        refine ih (at0 + 1) (by omega) ?_
        split at hm <;> split <;> omega
      · have ne : ¬ at0 = (z : Int) := fun e => e1 ((xCmp0 _ _).mpr (by rw [e]; exact hz2))
        refine ih 0 (by decide) ?_
        split at hm <;> split <;> omega
  exact loop 4096 _ ⟨by omega, by omega⟩ (by split <;> omega)
end
end
end
section
/-! the reference, what a folk wants -/
section
set_option maxRecDepth 100000


section
variable {ro : Nat → Nat × (Nat → Int32)} {d : Nat} {Q : Option Value → pmS → Prop} {dr wp pr cnt W : Int → Int} {T : Int → List Int} {n f k : Int} {S r : Int → Int} {a a' : xA} {b b' : xB} {ts : List Int}
/-- the reference's rows of wishes, and the land -/
def uRb (dr wp pr cnt W : Int → Int) (T : Int → List Int) (n : Int) (a : xA) : Prop := xAr a ∧ uWr wp n a ∧ (∀ k, 0 ≤ k → k < 49 → a 90 k = dr k ∧ (dr k = 0 ∨ dr k = 1)) ∧ (∀ i, 1 ≤ i → i ≤ 5 → a 92 i = pr i) ∧ (∀ f, 1 ≤ f → f ≤ 3 → a 96 f = cnt f) ∧ (∀ f k, 1 ≤ f → f ≤ 3 → 0 ≤ k → k < cnt f → a 97 (3 * f + k) = W (f * 3 + k) ∧ a 98 (3 * f + k) = ((T (f * 3 + k)).length : Int) ∧ ∀ (j : Nat) t, (T (f * 3 + k))[j]? = some t → a 99 (60 * (3 * f + k) + (j : Int)) = t) ∧ ∀ j, 0 ≤ j → j < 60 → 0 ≤ a 109 j ∧ a 109 j ≤ 1
/-- and what is so of them -/
def uRk (pr cnt W : Int → Int) (T : Int → List Int) : Prop := (∀ p, 1 ≤ p → p ≤ 3 → 0 ≤ cnt p ∧ cnt p ≤ 3) ∧ ∀ f k, 1 ≤ f → f ≤ 3 → 0 ≤ k → k < cnt f → uRe pr f (T (f * 3 + k)) ∧ 1 ≤ W (f * 3 + k) ∧ W (f * 3 + k) ≤ 9
theorem uRb_s (h : uRb dr wp pr cnt W T n a) (hf : 1 ≤ f ∧ f ≤ 3) (hk : 0 ≤ k ∧ k < cnt f) : uRs dr wp pr n (3 * f + k) (T (f * 3 + k)) a := by
  obtain ⟨r1, r2, r3, r4, r5, r6, r7⟩ := h
  obtain ⟨q1, q2, q3⟩ := r6 f k hf.1 hf.2 hk.1 hk.2
  exact ⟨r1, r2, r3, r4, q2, q3, r7⟩
theorem uRb_o (h : uRb dr wp pr cnt W T n a) (hA : xAr a') (e : ∀ q j, (q = 90 ∨ q = 91 ∨ q = 92 ∨ q = 96 ∨ q = 97 ∨ q = 98 ∨ q = 99 ∨ (q = 87 ∧ j = 2)) → a' q j = a q j) (h9 : ∀ j, 0 ≤ j → j < 60 → 0 ≤ a' 109 j ∧ a' 109 j ≤ 1) : uRb dr wp pr cnt W T n a' := by
  obtain ⟨r1, ⟨w1, w2, w3, w4⟩, r3, r4, r5, r6, r7⟩ := h
  refine ⟨hA, ⟨fun i i0 i1 => (e 91 i (by omega)).trans (w1 i i0 i1), (e 87 2 (by omega)).trans w2, w3, w4⟩, fun k k0 k1 => ⟨(e 90 k (by omega)).trans (r3 k k0 k1).1, (r3 k k0 k1).2⟩, fun i i0 i1 => (e 92 i (by omega)).trans (r4 i i0 i1), fun f f0 f1 => (e 96 f (by omega)).trans (r5 f f0 f1), fun f k f0 f1 k0 k1 => ?_, h9⟩
  obtain ⟨q1, q2, q3⟩ := r6 f k f0 f1 k0 k1
  exact ⟨(e 97 _ (by omega)).trans q1, (e 98 _ (by omega)).trans q2, fun j t ht => (e 99 _ (by omega)).trans (q3 j t ht)⟩
/-- what wanting may change -/
def uWm (a a' : xA) (b b' : xB) : Prop := (∀ q j, q ≠ 108 → q ≠ 109 → q ≠ 110 → q ≠ 111 → q ≠ 112 → q ≠ 113 → q ≠ 115 → ¬ (q = 87 ∧ (j = 33 ∨ j = 34 ∨ j = 41 ∨ j = 42 ∨ j = 43)) → a' q j = a q j) ∧ ∀ q j, q ≠ 114 → b' q j = b q j
theorem uWm_r : uWm a a b b := ⟨fun _ _ _ _ _ _ _ _ _ _ => rfl, fun _ _ _ => rfl⟩
theorem uWm_t {a'' : xA} {b'' : xB} (h : uWm a a' b b') (h' : uWm a' a'' b' b'') : uWm a a'' b b'' := ⟨fun q j e1 e2 e3 e4 e5 e6 e7 e8 => (h'.1 q j e1 e2 e3 e4 e5 e6 e7 e8).trans (h.1 q j e1 e2 e3 e4 e5 e6 e7 e8), fun q j e => (h'.2 q j e).trans (h.2 q j e)⟩
theorem uWm_l (h : uFm a a' b b') : uWm a a' b b' := ⟨fun q j e1 e2 e3 e4 e5 e6 e7 e8 => h.1 q j e1 e2 e3 e4 e5 e6 e7 (fun e => e8 ⟨e.1, by omega⟩), h.2.2⟩
theorem uWm_u {q : Nat} {j v : Int} (h : uWm a a' b b') (hq : q = 87 ∧ (j = 42 ∨ j = 43)) : uWm a (xU a' q j v) b b' := ⟨fun r i e1 e2 e3 e4 e5 e6 e7 e8 => by
  rw [xUo (by
    rintro ⟨rfl, rfl⟩
    exact e8 ⟨hq.1, by omega⟩)]
  exact h.1 r i e1 e2 e3 e4 e5 e6 e7 e8, h.2⟩
/-- wants -/
theorem u198 (hK : uRk pr cnt W T) (hB : uRb dr wp pr cnt W T n a) (hr : uRv n (a 88)) (hf : 1 ≤ f ∧ f ≤ 3) (hal : ¬ a 88 f = 7) (hV : uMV dr wp pr cnt T n a b) (hd : 6 ≤ d)
    (hQ : ∀ a' b' k, uWm a a' b b' → uRb dr wp pr cnt W T n a' → uMV dr wp pr cnt T n a' b' → a' 87 42 = k → uChs (cnt f) (fun i => W (f * 3 + i)) (fun i => uFd dr wp pr (T (f * 3 + i)) f (uMn n (a 88) f)) k → a' 87 43 = (if k = -1 then -1 else uFd dr wp pr (T (f * 3 + k)) f (uMn n (a 88) f)) → Q none (xS a' b')) : pmCs ro d 198 [.ref 87, xV f] (xS a b) Q := by
  have hn : a 87 2 = n := hB.2.1.2.1
  have hn0 : 0 ≤ n ∧ n ≤ 5 := hB.2.1.2.2.1
  refine pmCs_deep (d := 6) (xg198 (w198 (u186 hB.1 hn hn0 hr hf (by decide) fun a1 x1 A1 M1 => w198a ?_))) hd
  have hok := uMn_ok hn0 hr hf hal
  obtain ⟨S, hS⟩ : ∃ S, uMn n (a 88) f = S := ⟨_, rfl⟩
  rw [hS] at hQ M1 hok
  have hcn := hK.1 f hf.1 hf.2
  -- the state between
  have st : ∀ (a1 : xA) (b1 : xB), Prop := fun _ _ => True
  clear st
  have hup : ∀ (a2 : xA) (b2 : xB) (j v : Int), (j = 42 ∨ j = 43) → xR v → uWm a a2 b b2 ∧ uRb dr wp pr cnt W T n a2 ∧ uMV dr wp pr cnt T n a2 b2 ∧ uMd f 0 a2 S → uWm a (xU a2 87 j v) b b2 ∧ uRb dr wp pr cnt W T n (xU a2 87 j v) ∧ uMV dr wp pr cnt T n (xU a2 87 j v) b2 ∧ uMd f 0 (xU a2 87 j v) S := by
    intro a2 b2 j v hj hv ⟨g1, g2, g3, g4⟩
    refine ⟨uWm_u g1 ⟨rfl, hj⟩, uRb_o g2 (xAr_u g2.1 hv) (fun q i e => xUo (by omega)) (fun i i0 i1 => by rw [xUn (by decide)]; exact g2.2.2.2.2.2.2 i i0 i1), uMV_f g3 (xUo (by omega)) (fun i => xUn (by decide)) (fun _ => rfl), ⟨?_, fun x x0 x1 => ?_, fun q q0 q1 => ?_⟩⟩
    · rw [xUn (by decide)]
      exact g4.1
    · rw [xUn (by decide)]
      exact g4.2.1 x x0 x1
    · rw [xUn (by decide)]
      exact g4.2.2 q q0 q1
  -- a wish is chosen
  have done : ∀ (a2 : xA) (b2 : xB) (we i k : Int) , 1 ≤ we ∧ we ≤ 9 → 0 ≤ i ∧ i ≤ cnt f → uWm a a2 b b2 ∧ uRb dr wp pr cnt W T n a2 ∧ uMV dr wp pr cnt T n a2 b2 ∧ uMd f 0 a2 S → a2 87 42 = k → 0 ≤ k ∧ k < cnt f → uChs (cnt f) (fun i => W (f * 3 + i)) (fun i => uFd dr wp pr (T (f * 3 + i)) f S) k → a2 87 43 = uFd dr wp pr (T (f * 3 + k)) f S →
      pmWp ro 5 12 198 0 32 [some (.ref 87), some (xV f), some (xV we), some (xV i)] [] (xS a2 b2) Q := by
    intro a2 b2 we i k hwe hi ⟨g1, g2, g3, g4⟩ h42 hk hch h43
    have e := hQ a2 b2 k g1 g2 g3 h42 hch (by rw [if_neg (by omega)]; exact h43)
    have q : pmWp ro 5 12 198 0 18 [some (.ref 87), some (xV f), some (xV (we + (-1))), some (xV i)] [] (xS a2 b2) Q := w198b (by omega) h42 (by omega) (fun _ => e) (fun _ _ => e) (fun _ e => by omega)
    exact w198c hwe hf h42 (by omega) (g2.2.2.2.2.1 f hf.1 hf.2) (by omega) hi g2.1 (fun _ => q) (fun _ _ => q) (fun _ e => by omega) (fun _ e => by omega)
  have outer : ∀ (w : Nat) (a2 : xA) (b2 : xB) (v3 : Option Value), w ≤ 9 → uWm a a2 b b2 ∧ uRb dr wp pr cnt W T n a2 ∧ uMV dr wp pr cnt T n a2 b2 ∧ uMd f 0 a2 S → a2 87 42 = -1 → a2 87 43 = -1 → (∀ j, 0 ≤ j → j < cnt f → (w : Int) < W (f * 3 + j) → uFd dr wp pr (T (f * 3 + j)) f S = -1) →
      pmWp ro 5 12 198 0 18 [some (.ref 87), some (xV f), some (xV (w : Int)), v3] [] (xS a2 b2) Q := by
    intro w
    induction w with
    | zero =>
      intro a2 b2 v3 hw ⟨g1, g2, g3, g4⟩ h42 h43 hF
      have e : Q none (xS a2 b2) := hQ a2 b2 (-1) g1 g2 g3 h42 (Or.inl ⟨rfl, fun i i0 i1 => hF i i0 i1 (by have := (hK.2 f i hf.1 hf.2 i0 i1).2; omega)⟩) h43
      exact w198b (by omega) h42 (by omega) (fun _ => e) (fun _ _ => e) (fun e _ => by omega)
    | succ w ihw =>
      intro a2 b2 v3 hw hI h42 h43 hF
      have inner : ∀ (m : Nat) (i : Int) (a2 : xA) (b2 : xB), cnt f - i ≤ (m : Int) → 0 ≤ i ∧ i ≤ cnt f → uWm a a2 b b2 ∧ uRb dr wp pr cnt W T n a2 ∧ uMV dr wp pr cnt T n a2 b2 ∧ uMd f 0 a2 S → a2 87 42 = -1 → a2 87 43 = -1 → (∀ j, 0 ≤ j → j < i → W (f * 3 + j) = ((w + 1 : Nat) : Int) → uFd dr wp pr (T (f * 3 + j)) f S = -1) →
          pmWp ro 5 12 198 0 32 [some (.ref 87), some (xV f), some (xV ((w + 1 : Nat) : Int)), some (xV i)] [] (xS a2 b2) Q := by
        intro m
        have nxt : ∀ (i : Int) (a2 : xA) (b2 : xB), i = cnt f → uWm a a2 b b2 ∧ uRb dr wp pr cnt W T n a2 ∧ uMV dr wp pr cnt T n a2 b2 ∧ uMd f 0 a2 S → a2 87 42 = -1 → a2 87 43 = -1 → (∀ j, 0 ≤ j → j < i → W (f * 3 + j) = ((w + 1 : Nat) : Int) → uFd dr wp pr (T (f * 3 + j)) f S = -1) →
            pmWp ro 5 12 198 0 18 [some (.ref 87), some (xV f), some (xV (((w + 1 : Nat) : Int) + (-1))), some (xV i)] [] (xS a2 b2) Q := by
          intro i a2 b2 hi hI h42 h43 hj
          rw [show ((w + 1 : Nat) : Int) + (-1) = (w : Int) by omega]
          refine ihw a2 b2 _ (by omega) hI h42 h43 (fun j j0 j1 hjw => ?_)
          by_cases c : W (f * 3 + j) = ((w + 1 : Nat) : Int)
          · exact hj j j0 (by omega) c
          · exact hF j j0 j1 (by omega)
        induction m with
        | zero =>
          intro i a2 b2 hm hi hI h42 h43 hj
          refine w198c (by omega) hf h42 (by omega) (hI.2.1.2.2.2.2.1 f hf.1 hf.2) (by omega) hi hI.2.1.1 (fun _ => nxt i a2 b2 (by omega) hI h42 h43 hj) (fun _ e => by omega) (fun e => by omega) (fun e => by omega)
        | succ m ih =>
          intro i a2 b2 hm hi hI h42 h43 hj
          refine w198c (by omega) hf h42 (by omega) (hI.2.1.2.2.2.2.1 f hf.1 hf.2) (by omega) hi hI.2.1.1 (fun _ => nxt i a2 b2 (by omega) hI h42 h43 hj) (fun _ e => by omega) (fun e1 _ e2 => ?_) (fun e1 _ e2 => ?_)
          · refine ih (i + 1) a2 b2 (by omega) (by omega) hI h42 h43 (fun j j0 j1 hw2 => ?_)
            by_cases c : j = i
            · rw [(hI.2.1.2.2.2.2.2.1 f i hf.1 hf.2 hi.1 (by omega)).1] at e2
              rw [c] at hw2
              omega
            · exact hj j j0 (by omega) hw2
          · obtain ⟨g1, g2, g3, g4⟩ := hI
            have hik : 0 ≤ i ∧ i < cnt f := ⟨hi.1, by omega⟩
            obtain ⟨hE, hW⟩ := hK.2 f i hf.1 hf.2 hik.1 hik.2
            obtain ⟨q1, q2, q3⟩ := g2.2.2.2.2.2.1 f i hf.1 hf.2 hik.1 hik.2
            have cont : ∀ (a3 : xA) (b3 : xB), uWm a a3 b b3 ∧ uRb dr wp pr cnt W T n a3 ∧ uMV dr wp pr cnt T n a3 b3 ∧ uMd f 0 a3 S → a3 87 42 = -1 → a3 87 43 = -1 → uFd dr wp pr (T (f * 3 + i)) f S = -1 → pmWp ro 5 12 198 0 32 [some (.ref 87), some (xV f), some (xV ((w + 1 : Nat) : Int)), some (xV (i + 1))] [] (xS a3 b3) Q := by
              intro a3 b3 hI3 k42 k43 hFi
              refine ih (i + 1) a3 b3 (by omega) (by omega) hI3 k42 k43 (fun j j0 j1 hw2 => ?_)
              by_cases c : j = i
              · rw [c]
                exact hFi
              · exact hj j j0 (by omega) hw2
            refine u187 (S := S) (ts := T (f * 3 + i)) g2.1 g4 (by decide) hf ⟨by omega, by omega⟩ hok.1 q2 hE.2.2.1 q3 hE.2.2.2.1 hE.2.2.2.2.1 (hE.2.2.2.2.2 S) g2.2.2.2.2.2.2 (by decide) (fun a3 z x3 A3 h9 hz hzh => ?_)
            have hI3 : uWm a a3 b b2 ∧ uRb dr wp pr cnt W T n a3 ∧ uMV dr wp pr cnt T n a3 b2 ∧ uMd f 0 a3 S := ⟨⟨fun q j e1 e2 e3 e4 e5 e6 e7 e8 => (x3 q j e2).trans (g1.1 q j e1 e2 e3 e4 e5 e6 e7 e8), g1.2⟩, uRb_o g2 A3 (fun q j e => x3 q j (by omega)) h9, uMV_f g3 (x3 _ _ (by decide)) (fun j => x3 _ _ (by decide)) (fun _ => rfl), ⟨(x3 _ _ (by decide)).trans g4.1, fun x x0 x1 => (x3 _ _ (by decide)).trans (g4.2.1 x x0 x1), fun q q0 q1 => (x3 _ _ (by decide)).trans (g4.2.2 q q0 q1)⟩⟩
            have k42 := (x3 87 42 (by decide)).trans h42
            have k43 := (x3 87 43 (by decide)).trans h43
            refine w198d (by omega) hf k42 (by omega) (hI3.2.1.2.2.2.2.1 f hf.1 hf.2) (by omega) hi hz (fun ez => ?_) (fun ez => ?_)
            · have hh : uHold f (T (f * 3 + i)) S = false := by
                cases g : uHold f (T (f * 3 + i)) S with
                | false => rfl
                | true =>
                  have := hzh.mpr g
                  omega
              obtain ⟨y1, y2, y3, y4⟩ := hI3
              refine u199 (cnt := cnt) hE (fun p p0 p1 => (hK.1 p p0 p1).2) hik (uRb_s y2 hf hik) y4 hok.1 hok.2 y3 (by decide) (fun a4 b4 x4 R4 V4 => ?_)
              have hv := uF1_b (dr := dr) (wp := wp) (ts := T (f * 3 + i)) (f := f) (S := S) hE.1
              have e44 : ∀ q j, q ≠ 108 → q ≠ 109 → q ≠ 110 → q ≠ 111 → q ≠ 112 → q ≠ 113 → q ≠ 115 → ¬ (q = 87 ∧ (j = 33 ∨ j = 34 ∨ j = 41)) → a4 q j = a3 q j := x4.1
              have hI4 : uWm a a4 b b4 ∧ uRb dr wp pr cnt W T n a4 ∧ uMV dr wp pr cnt T n a4 b4 ∧ uMd f 0 a4 S := ⟨uWm_t y1 (uWm_l x4), uRb_o y2 R4.1 (fun q j e => x4.1 q j (by omega) (by omega) (by omega) (by omega) (by omega) (by omega) (by omega) (by omega)) R4.2.2.2.2.2.2, V4, ⟨(x4.2.1 _ (by decide)).trans y4.1, fun x x0 x1 => (x4.2.1 _ (by omega)).trans (y4.2.1 x x0 x1), fun q q0 q1 => (x4.2.1 _ (by omega)).trans (y4.2.2 q q0 q1)⟩⟩
              have hfd := uFd_1 (dr := dr) (wp := wp) (pr := pr) hh
              refine w198e (by omega) (by omega) (fun ev => ?_) (fun ev => ?_)
              · refine done _ b4 _ _ i (by omega) (by omega) (hup _ b4 42 i (Or.inl rfl) ⟨by omega, by omega⟩ (hup _ b4 43 _ (Or.inr rfl) ⟨by omega, by omega⟩ hI4)) xUa hik (Or.inr ⟨hik, ?_, fun j j0 j1 hj2 => ?_⟩) ?_
                · show ¬ uFd dr wp pr (T (f * 3 + i)) f S = -1
                  rw [hfd]
                  exact ev
                · show W (f * 3 + j) < W (f * 3 + i) ∨ (W (f * 3 + j) = W (f * 3 + i) ∧ i ≤ j)
                  have hj2 : ¬ uFd dr wp pr (T (f * 3 + j)) f S = -1 := hj2
                  rw [q1] at e2
                  by_cases c : ((w + 1 : Nat) : Int) < W (f * 3 + j)
                  · exact absurd (hF j j0 j1 c) hj2
                  · by_cases c2 : W (f * 3 + j) = ((w + 1 : Nat) : Int)
                    · right
                      refine ⟨by omega, ?_⟩
                      by_cases c3 : j < i
                      · exact absurd (hj j j0 c3 c2) hj2
                      · omega
                    · left
                      omega
                · rw [xUk (by decide), xUa, hfd]
              · exact cont _ b4 (hup _ b4 42 (-1) (Or.inl rfl) ⟨by decide, by decide⟩ (hup _ b4 43 _ (Or.inr rfl) ⟨by omega, by omega⟩ hI4)) xUa (by rw [xUk (by decide), xUa]; exact ev) (by rw [hfd]; exact ev)
            · exact cont a3 b2 hI3 k42 k43 (uFd_h (hzh.mp (by omega)))
      refine w198b (by omega) h42 (by omega) (fun e => by omega) (fun _ e => by omega) (fun _ _ => ?_)
      exact inner (cnt f).toNat 0 a2 b2 (by omega) (by omega) hI h42 h43 (fun j j0 j1 => by omega)
  have hI1 : uWm a a1 b b ∧ uRb dr wp pr cnt W T n a1 ∧ uMV dr wp pr cnt T n a1 b ∧ uMd f 0 a1 S := ⟨⟨fun q j e1 e2 e3 e4 e5 e6 e7 e8 => x1 q j e1, fun _ _ _ => rfl⟩, uRb_o hB A1 (fun q j e => x1 q j (by omega)) (fun j j0 j1 => by rw [x1 109 j (by decide)]; exact hB.2.2.2.2.2.2 j j0 j1), uMV_f hV (x1 _ _ (by decide)) (fun j => x1 _ _ (by decide)) (fun _ => rfl), M1⟩
  refine outer 9 _ b none (by decide) (hup _ b 43 (-1) (Or.inr rfl) ⟨by decide, by decide⟩ (hup _ b 42 (-1) (Or.inl rfl) ⟨by decide, by decide⟩ hI1)) ?_ xUa (fun j j0 j1 hj => by have := (hK.2 f j hf.1 hf.2 j0 j1).2; omega)
  rw [xUk (by decide), xUa]
end
end
end
