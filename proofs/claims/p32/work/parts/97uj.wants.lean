/-! the reference, minds and what is wanted -/
section
set_option maxRecDepth 100000


section
variable {ro : Nat → Nat × (Nat → Int32)} {d : Nat} {Q : Option Value → pmS → Prop} {dr wp pr cnt W : Int → Int} {T : Int → List Int} {n f k : Int} {S r : Int → Int} {a a' : xA} {b b' : xB} {ts : List Int}
/-- a place of the reference's, as a slot has it -/
def uTc (v : Int) : Int := if v < 7 then v + 1 else v - 1
/-- the slots of a folk's mind, by the row -/
def uMn (n : Int) (r : Int → Int) (f : Int) : Int → Int := fun j => if j < 4 then (if j = f then r f + 1 else r (14 + 9 * (f - 1) + 5 + j) + 1) else if j - 4 < n then (if r j = 10 + f then 9 + f else uTc (r (14 + 9 * (f - 1) + (j - 4)))) else 0
/-- a row that may be -/
def uRv (n : Int) (r : Int → Int) : Prop := (∀ p, 0 ≤ p → p < 4 → 0 ≤ r p ∧ r p ≤ 7) ∧ (∀ x, 0 ≤ x → x < n → (0 ≤ r (4 + x) ∧ r (4 + x) ≤ 6) ∨ (10 ≤ r (4 + x) ∧ r (4 + x) ≤ 13) ∨ r (4 + x) = 20) ∧ (∀ x, 0 ≤ x → x < 5 → 0 ≤ r (9 + x) ∧ r (9 + x) ≤ 127) ∧ (∀ f x, 1 ≤ f → f ≤ 3 → 0 ≤ x → x < 5 → (-1 ≤ r (14 + 9 * (f - 1) + x) ∧ r (14 + 9 * (f - 1) + x) ≤ 6) ∨ (10 ≤ r (14 + 9 * (f - 1) + x) ∧ r (14 + 9 * (f - 1) + x) ≤ 13)) ∧ (∀ f q, 1 ≤ f → f ≤ 3 → 0 ≤ q → q < 4 → -1 ≤ r (14 + 9 * (f - 1) + 5 + q) ∧ r (14 + 9 * (f - 1) + 5 + q) ≤ 7) ∧ ∀ f x, 1 ≤ f → f ≤ 3 → n ≤ x → 0 ≤ x → x < 5 → r (14 + 9 * (f - 1) + x) = -1
theorem uMn_ok (hn : 0 ≤ n ∧ n ≤ 5) (hr : uRv n r) (hf : 1 ≤ f ∧ f ≤ 3) (ha : ¬ r f = 7) : uOk f (uMn n r f) ∧ uOn n (uMn n r f) := by
  obtain ⟨h1, h2, h3, h4, h5, h6⟩ := hr
  have hf1 := h1 f (by omega) (by omega)
  refine ⟨⟨?_, fun q q0 q1 => ?_, fun x x0 x1 => ?_⟩, fun x xn x0 x1 => ?_⟩
  · unfold uMn
    rw [if_pos (by omega), if_pos rfl]
    omega
  · unfold uMn
    rw [if_pos (by omega)]
    have := h5 f q hf.1 hf.2 q0 q1
    split <;> omega
  · unfold uMn uTc
    rw [if_neg (by omega)]
    have := h4 f x hf.1 hf.2 x0 x1
    rw [show 4 + x - 4 = x by omega]
    split
    · split
      · omega
      · split <;> omega
    · omega
  · unfold uMn
    rw [if_neg (by omega), if_neg (by omega)]
/-- minds -/
theorem u186 (hA : xAr a) (hn : a 87 2 = n) (hn0 : 0 ≤ n ∧ n ≤ 5) (hr : uRv n (a 88)) (hf : 1 ≤ f ∧ f ≤ 3) (hd : 2 ≤ d) (hQ : ∀ a', (∀ q j, q ≠ 108 → a' q j = a q j) → xAr a' → uMd f 0 a' (uMn n (a 88) f) → Q none (xS a' b)) : pmCs ro d 186 [.ref 87, xV f] (xS a b) Q := by
  obtain ⟨h1, h2, h3, h4, h5, h6⟩ := hr
  refine pmCs_deep (d := 2) (xg186 (w186 hf ?_)) hd
  have e88 : ∀ a1 : xA, (∀ q j, q ≠ 108 → a1 q j = a q j) → ∀ j, a1 88 j = a 88 j := fun a1 h j => h 88 j (by decide)
  -- persons
  have l2 : ∀ (m : Nat) (i : Int) (a1 : xA), 4 - i ≤ (m : Int) → 0 ≤ i ∧ i ≤ 4 → (∀ q j, q ≠ 108 → a1 q j = a q j) → xAr a1 → a1 108 0 = a 88 f → (∀ x, 0 ≤ x → x < 5 → a1 108 (0 + 1 + x) = uVc (uMn n (a 88) f (4 + x))) → (∀ q, 0 ≤ q → q < i → a1 108 (0 + 6 + q) = if q = f then -1 else uMn n (a 88) f q - 1) →
      pmWp ro 1 12 186 0 81 [some (.ref 87), some (xV f), some (xV i)] [] (xS a1 b) Q := by
    intro m
    have fin : ∀ (i : Int) (a1 : xA), i = 4 → (∀ q j, q ≠ 108 → a1 q j = a q j) → xAr a1 → a1 108 0 = a 88 f → (∀ x, 0 ≤ x → x < 5 → a1 108 (0 + 1 + x) = uVc (uMn n (a 88) f (4 + x))) → (∀ q, 0 ≤ q → q < i → a1 108 (0 + 6 + q) = if q = f then -1 else uMn n (a 88) f q - 1) → Q none (xS a1 b) := by
      intro i a1 hi g1 g2 g3 g4 g5
      refine hQ a1 g1 g2 ⟨?_, g4, fun q q0 q1 => g5 q q0 (by omega)⟩
      rw [g3]
      unfold uMn
      rw [if_pos (by omega), if_pos rfl]
      omega
    induction m with
    | zero =>
      intro i a1 hm hi g1 g2 g3 g4 g5
      refine w186b g2 hf ((g1 87 2 (by decide)).trans hn) hn0 (by decide) hi (fun _ => fin i a1 (by omega) g1 g2 g3 g4 g5) (fun e => by omega) (fun e => by omega)
    | succ m ih =>
      intro i a1 hm hi g1 g2 g3 g4 g5
      have nx : ∀ v, i < 4 → v = (if i = f then -1 else uMn n (a 88) f i - 1) → xR v → pmWp ro 1 12 186 0 81 [some (.ref 87), some (xV f), some (xV (i + 1))] [] (xS (xU a1 108 (6 + i) v) b) Q := by
        intro v i4 hv hr
        refine ih (i + 1) _ (by omega) (by omega) (fun q j h => by rw [xUn h]; exact g1 q j h) (xAr_u g2 hr) (by rw [xUk (by omega)]; exact g3) (fun x x0 x1 => by rw [xUk (by omega)]; exact g4 x x0 x1) (fun q q0 q1 => ?_)
        by_cases c : q = i
        · rw [c, show 0 + 6 + i = 6 + i by omega, xUa, hv]
        · rw [xUk (by omega)]
          exact g5 q q0 (by omega)
      refine w186b g2 hf ((g1 87 2 (by decide)).trans hn) hn0 (by decide) hi (fun _ => fin i a1 (by omega) g1 g2 g3 g4 g5) (fun e1 e2 => ?_) (fun e1 e2 => ?_)
      · refine nx _ (by omega) ?_ (g2 _ _)
        rw [if_neg e2, e88 a1 g1]
        unfold uMn
        rw [if_pos (by omega), if_neg e2]
        omega
      · exact nx (-1) (by omega) (by rw [if_pos e2]) ⟨by decide, by decide⟩
  -- things
  have l1 : ∀ (m : Nat) (i : Int) (a1 : xA), 5 - i ≤ (m : Int) → 0 ≤ i ∧ i ≤ 5 → (∀ q j, q ≠ 108 → a1 q j = a q j) → xAr a1 → a1 108 0 = a 88 f → (∀ x, 0 ≤ x → x < i → a1 108 (0 + 1 + x) = uVc (uMn n (a 88) f (4 + x))) →
      pmWp ro 1 12 186 0 16 [some (.ref 87), some (xV f), some (xV i)] [] (xS a1 b) Q := by
    intro m
    induction m with
    | zero =>
      intro i a1 hm hi g1 g2 g3 g4
      refine w186a g2 hf ((g1 87 2 (by decide)).trans hn) hn0 (by decide) hi (fun _ => l2 4 0 a1 (by decide) (by decide) g1 g2 g3 (fun x x0 x1 => g4 x x0 (by omega)) (fun q q0 q1 => by omega)) (fun e => by omega) (fun e => by omega) (fun e => by omega)
    | succ m ih =>
      intro i a1 hm hi g1 g2 g3 g4
      have nx : ∀ v, i < 5 → v = uVc (uMn n (a 88) f (4 + i)) → xR v → pmWp ro 1 12 186 0 16 [some (.ref 87), some (xV f), some (xV (i + 1))] [] (xS (xU a1 108 (1 + i) v) b) Q := by
        intro v i5 hv hr
        refine ih (i + 1) _ (by omega) (by omega) (fun q j h => by rw [xUn h]; exact g1 q j h) (xAr_u g2 hr) (by rw [xUk (by omega)]; exact g3) (fun x x0 x1 => ?_)
        by_cases c : x = i
        · rw [c, show 0 + 1 + i = 1 + i by omega, xUa, hv]
        · rw [xUk (by omega)]
          exact g4 x x0 (by omega)
      refine w186a g2 hf ((g1 87 2 (by decide)).trans hn) hn0 (by decide) hi (fun _ => l2 4 0 a1 (by decide) (by decide) g1 g2 g3 (fun x x0 x1 => g4 x x0 (by omega)) (fun q q0 q1 => by omega)) (fun e1 e2 => ?_) (fun e1 e2 e3 => ?_) (fun e1 e2 e3 => ?_)
      · refine nx (-1) (by omega) ?_ ⟨by decide, by decide⟩
        have : uMn n (a 88) f (4 + i) = 0 := by
          unfold uMn
          rw [if_neg (by omega), if_neg (by omega)]
        rw [this]
        rfl
      · rw [e88 a1 g1] at e3
        have := h4 f i hf.1 hf.2 hi.1 (by omega)
        refine nx _ (by omega) ?_ (g2 _ _)
        rw [e88 a1 g1]
        unfold uMn uVc uTc
        rw [if_neg (show ¬ 4 + i < 4 by omega), if_pos (show 4 + i - 4 < n by omega), if_neg e3, show 4 + i - 4 = i by omega]
        generalize a 88 (14 + 9 * (f - 1) + i) = v at *
        by_cases c : v < 7
        · rw [if_pos c, if_pos (by omega)]
          omega
        · rw [if_neg c, if_neg (by omega)]
          omega
      · rw [e88 a1 g1] at e3
        refine nx _ (by omega) ?_ ⟨by omega, by omega⟩
        unfold uMn uVc
        rw [if_neg (show ¬ 4 + i < 4 by omega), if_pos (show 4 + i - 4 < n by omega), if_pos e3, if_neg (by omega)]
        omega
  rw [show 0 + f = f by omega]
  exact l1 5 0 _ (by decide) (by decide) (fun q j h => by rw [xUn h]) (xAr_u hA (hA _ _)) xUa (fun x x0 x1 => by omega)
/-- the key of a mind -/
def uK8 (f k : Int) (m : Int → Int) : Int := (((((((((((4 + f) * 3 + k) * 16 + m 0 + 1) * 16 + m 1 + 1) * 16 + m 2 + 1) * 16 + m 3 + 1) * 16 + m 4 + 1) * 16 + m 5 + 1) * 16 + m 6 + 1) * 16 + m 7 + 1) * 16 + m 8 + 1) * 16 + m 9 + 1
/-- the cells of a mind -/
def uMc (f : Int) (S : Int → Int) : Int → Int := fun i => if i = 0 then S f - 1 else if i < 6 then uVc (S (3 + i)) else if i - 6 = f then -1 else S (i - 6) - 1
def uKn (f k : Int) (S : Int → Int) : Int := uK8 f k (uMc f S)
theorem uMc_b (hf : 1 ≤ f ∧ f ≤ 3) (hS : uOk f S) {i : Int} (h0 : 0 ≤ i) (h1 : i < 10) : -1 ≤ uMc f S i ∧ uMc f S i ≤ 14 := by
  obtain ⟨s1, s2, s3⟩ := hS
  unfold uMc uVc
  by_cases c : i = 0
  · rw [if_pos c]
    omega
  rw [if_neg c]
  by_cases c2 : i < 6
  · rw [if_pos c2]
    have := s3 (i - 1) (by omega) (by omega)
    rw [show 4 + (i - 1) = 3 + i by omega] at this
    split <;> omega
  rw [if_neg c2]
  have := s2 (i - 6) (by omega) (by omega)
  split <;> omega
theorem uMd_c (hM : uMd f 0 a S) {i : Int} (h0 : 0 ≤ i) (h1 : i < 10) : a 108 i = uMc f S i := by
  obtain ⟨m1, m2, m3⟩ := hM
  unfold uMc
  by_cases c : i = 0
  · rw [if_pos c, c]
    exact m1
  rw [if_neg c]
  by_cases c2 : i < 6
  · rw [if_pos c2]
    have := m2 (i - 1) (by omega) (by omega)
    rw [show 0 + 1 + (i - 1) = i by omega, show 4 + (i - 1) = 3 + i by omega] at this
    exact this
  rw [if_neg c2]
  have := m3 (i - 6) (by omega) (by omega)
  rw [show 0 + 6 + (i - 6) = i by omega] at this
  exact this
theorem uD16 {x y u v : Int} (hu : -1 ≤ u ∧ u ≤ 14) (hv : -1 ≤ v ∧ v ≤ 14) (h : x * 16 + u + 1 = y * 16 + v + 1) : x = y ∧ u = v := by omega
theorem uK8_b {m : Int → Int} (hf : 1 ≤ f ∧ f ≤ 3) (hk : 0 ≤ k ∧ k ≤ 2) (hm : ∀ i, 0 ≤ i → i < 10 → -1 ≤ m i ∧ m i ≤ 14) : 0 < uK8 f k m ∧ uK8 f k m < 4611686018427387904 := by
  have b0 := hm 0 (by decide) (by decide)
  have b1 := hm 1 (by decide) (by decide)
  have b2 := hm 2 (by decide) (by decide)
  have b3 := hm 3 (by decide) (by decide)
  have b4 := hm 4 (by decide) (by decide)
  have b5 := hm 5 (by decide) (by decide)
  have b6 := hm 6 (by decide) (by decide)
  have b7 := hm 7 (by decide) (by decide)
  have b8 := hm 8 (by decide) (by decide)
  have b9 := hm 9 (by decide) (by decide)
  unfold uK8
  omega
theorem uK8_i {f' k' : Int} {m m' : Int → Int} (hk : 0 ≤ k ∧ k ≤ 2) (hk' : 0 ≤ k' ∧ k' ≤ 2) (hm : ∀ i, 0 ≤ i → i < 10 → -1 ≤ m i ∧ m i ≤ 14) (hm' : ∀ i, 0 ≤ i → i < 10 → -1 ≤ m' i ∧ m' i ≤ 14) (h : uK8 f k m = uK8 f' k' m') : f = f' ∧ k = k' ∧ ∀ i, 0 ≤ i → i < 10 → m i = m' i := by
  unfold uK8 at h
  obtain ⟨h, e9⟩ := uD16 (hm 9 (by decide) (by decide)) (hm' 9 (by decide) (by decide)) h
  obtain ⟨h, e8⟩ := uD16 (hm 8 (by decide) (by decide)) (hm' 8 (by decide) (by decide)) h
  obtain ⟨h, e7⟩ := uD16 (hm 7 (by decide) (by decide)) (hm' 7 (by decide) (by decide)) h
  obtain ⟨h, e6⟩ := uD16 (hm 6 (by decide) (by decide)) (hm' 6 (by decide) (by decide)) h
  obtain ⟨h, e5⟩ := uD16 (hm 5 (by decide) (by decide)) (hm' 5 (by decide) (by decide)) h
  obtain ⟨h, e4⟩ := uD16 (hm 4 (by decide) (by decide)) (hm' 4 (by decide) (by decide)) h
  obtain ⟨h, e3⟩ := uD16 (hm 3 (by decide) (by decide)) (hm' 3 (by decide) (by decide)) h
  obtain ⟨h, e2⟩ := uD16 (hm 2 (by decide) (by decide)) (hm' 2 (by decide) (by decide)) h
  obtain ⟨h, e1⟩ := uD16 (hm 1 (by decide) (by decide)) (hm' 1 (by decide) (by decide)) h
  obtain ⟨h, e0⟩ := uD16 (hm 0 (by decide) (by decide)) (hm' 0 (by decide) (by decide)) h
  refine ⟨by omega, by omega, fun i i0 i1 => ?_⟩
  have : i = 0 ∨ i = 1 ∨ i = 2 ∨ i = 3 ∨ i = 4 ∨ i = 5 ∨ i = 6 ∨ i = 7 ∨ i = 8 ∨ i = 9 := by omega
  rcases this with e | e | e | e | e | e | e | e | e | e <;> (subst e; assumption)
theorem uKn_i {f' k' : Int} {S' : Int → Int} (hf : 1 ≤ f ∧ f ≤ 3) (hk : 0 ≤ k ∧ k ≤ 2) (hS : uOk f S) (hf' : 1 ≤ f' ∧ f' ≤ 3) (hk' : 0 ≤ k' ∧ k' ≤ 2) (hS' : uOk f' S') (h : Int64.ofInt (uKn f k S) = Int64.ofInt (uKn f' k' S')) : f = f' ∧ k = k' ∧ uQ S S' := by
  have b1 : 0 < uK8 f k (uMc f S) ∧ uK8 f k (uMc f S) < 4611686018427387904 := uK8_b (f := f) (k := k) hf hk (fun i i0 i1 => uMc_b hf hS i0 i1)
  have b2 : 0 < uK8 f' k' (uMc f' S') ∧ uK8 f' k' (uMc f' S') < 4611686018427387904 := uK8_b (f := f') (k := k') hf' hk' (fun i i0 i1 => uMc_b hf' hS' i0 i1)
  have h2 := congrArg Int64.toInt h
  unfold uKn at h2
  rw [Int64.toInt_ofInt_of_le (by omega) (by omega), Int64.toInt_ofInt_of_le (by omega) (by omega)] at h2
  obtain ⟨e1, e2, e3⟩ := uK8_i hk hk' (fun i i0 i1 => uMc_b hf hS i0 i1) (fun i i0 i1 => uMc_b hf' hS' i0 i1) h2
  subst e1
  refine ⟨rfl, e2, fun j j0 j1 => ?_⟩
  obtain ⟨s1, s2, s3⟩ := hS
  obtain ⟨s1', s2', s3'⟩ := hS'
  by_cases c : j = f
  · have := e3 0 (by decide) (by decide)
    unfold uMc at this
    rw [if_pos rfl, if_pos rfl] at this
    rw [c]
    omega
  by_cases c2 : j < 4
  · have := e3 (6 + j) (by omega) (by omega)
    unfold uMc at this
    rw [if_neg (by omega), if_neg (by omega), if_neg (by omega), if_neg (by omega), if_neg (by omega), if_neg (by omega), show 6 + j - 6 = j by omega] at this
    omega
  · have := e3 (j - 3) (by omega) (by omega)
    have q1 := s3 (j - 4) (by omega) (by omega)
    have q2 := s3' (j - 4) (by omega) (by omega)
    rw [show 4 + (j - 4) = j by omega] at q1 q2
    unfold uMc at this
    rw [if_neg (by omega), if_pos (by omega), if_neg (by omega), if_pos (by omega), show 3 + (j - 3) = j by omega] at this
    unfold uVc at this
    split at this <;> split at this <;> omega
theorem u200 (hA : xAr a) (hM : uMd f 0 a S) (hf : 1 ≤ f ∧ f ≤ 3) (hk : 0 ≤ k ∧ k ≤ 2) (hd : 1 ≤ d) (hQ : Q (some (.long (Int64.ofInt (uKn f k S)))) (xS a b)) : pmCs ro d 200 [.ref 87, xV f, xV k] (xS a b) Q := by
  refine pmCs_deep (d := 1) (xg200 (w200 hA hf hk ?_)) hd
  have e : ∀ i : Int, 0 ≤ i → i < 10 → a 108 i = uMc f S i := fun i i0 i1 => uMd_c hM i0 i1
  rw [e 0 (by decide) (by decide), e (0 + 1) (by decide) (by decide), e (0 + 1 + 1) (by decide) (by decide), e (0 + 1 + 1 + 1) (by decide) (by decide), e (0 + 1 + 1 + 1 + 1) (by decide) (by decide), e (0 + 1 + 1 + 1 + 1 + 1) (by decide) (by decide), e (0 + 1 + 1 + 1 + 1 + 1 + 1) (by decide) (by decide), e (0 + 1 + 1 + 1 + 1 + 1 + 1 + 1) (by decide) (by decide), e (0 + 1 + 1 + 1 + 1 + 1 + 1 + 1 + 1) (by decide) (by decide), e (0 + 1 + 1 + 1 + 1 + 1 + 1 + 1 + 1 + 1) (by decide) (by decide)]
  unfold uKn uK8 at hQ
  simp only [Int64.ofInt_add, Int64.ofInt_mul] at hQ
  exact hQ
end
end
