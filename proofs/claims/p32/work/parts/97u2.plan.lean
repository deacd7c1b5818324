/-! planning, in the abstract: deeds, what they change, wishes, the best row of deeds -/
section
/-- if, of any proposition -/
noncomputable def uIf {α : Type} (p : Prop) (x y : α) : α := @ite α p (Classical.propDecidable p) x y
theorem uIf_t {α : Type} {p : Prop} {x y : α} (h : p) : uIf p x y = x := by
  unfold uIf
  exact if_pos h
theorem uIf_f {α : Type} {p : Prop} {x y : α} (h : ¬ p) : uIf p x y = y := by
  unfold uIf
  exact if_neg h
def uK (k : Int) : Int := if k < 0 then 0 else if k < 7 then 1 else if k < 12 then 2 else if k < 17 then 3 else if k < 37 then 4 else if k < 41 then 5 else 6
def uX (k : Int) : Int := if k < 0 then -1 else if k < 7 then k else if k < 12 then k - 7 else if k < 17 then k - 12 else if k < 37 then (k - 17) / 4 else if k < 41 then k - 37 else (k - 41) / 4
def uY (k : Int) : Int := if k < 17 then -1 else if k < 37 then (k - 17) % 4 else if k < 41 then -1 else (k - 41) % 4
/-- a deed's number in the class -/
def uD (k : Int) : Int := if k < 0 then 0 else 64 * uK k + 8 * (uX k + 1) + (uY k + 1)
/-- a function put to another value at a place -/
def uP (S : Int → Int) (i v : Int) : Int → Int := fun j => if j = i then v else S j
def uArm (wp : Int → Int) (S : Int → Int) (f : Int) : Prop := (¬ wp 0 = 0 ∧ S 4 = 9 + f) ∨ (¬ wp 1 = 0 ∧ S 5 = 9 + f) ∨ (¬ wp 2 = 0 ∧ S 6 = 9 + f) ∨ (¬ wp 3 = 0 ∧ S 7 = 9 + f) ∨ (¬ wp 4 = 0 ∧ S 8 = 9 + f)
/-- a deed can be done, as slots tell (codes 0 to 40) -/
def uCan (dr wp : Int → Int) (f : Int) (S : Int → Int) (k : Int) : Prop :=
  if k < 7 then ¬ dr (7 * (S f - 1) + k) = 0
  else if k < 12 then S (4 + uX k) = S f
  else if k < 17 then S (4 + uX k) = 9 + f
  else if k < 37 then S (4 + uX k) = 9 + f ∧ ¬ uY k = f ∧ S (uY k) = S f
  else ¬ uX k = f ∧ S (uX k) = S f ∧ uArm wp S f
/-- what a deed changes -/
def uApp (f : Int) (S : Int → Int) (k : Int) : Int → Int :=
  if k < 0 then S
  else if k < 7 then uP S f (k + 1)
  else if k < 12 then uP S (4 + uX k) (9 + f)
  else if k < 17 then uP S (4 + uX k) (S f)
  else if k < 37 then uP S (4 + uX k) (9 + uY k)
  else if k < 41 then fun j => if j = uX k then 8 else if 4 ≤ j ∧ j < 9 ∧ S j = 9 + uX k then S f else S j
  else S
/-- slots of a mind: what may stand there -/
def uOk (f : Int) (S : Int → Int) : Prop := (1 ≤ S f ∧ S f ≤ 7) ∧ (∀ q, 0 ≤ q → q < 4 → 0 ≤ S q ∧ S q ≤ 8) ∧ ∀ x, 0 ≤ x → x < 5 → (0 ≤ S (4 + x) ∧ S (4 + x) ≤ 7) ∨ (9 ≤ S (4 + x) ∧ S (4 + x) ≤ 12)
theorem uOk_app {dr wp : Int → Int} {f : Int} {S : Int → Int} {k : Int} (hf : 1 ≤ f ∧ f ≤ 3) (h : uOk f S) (hk : 0 ≤ k ∧ k < 41) (hc : uCan dr wp f S k) : uOk f (uApp f S k) := by
  obtain ⟨h1, h2, h3⟩ := h
  have hx : uX k = if k < 0 then -1 else if k < 7 then k else if k < 12 then k - 7 else if k < 17 then k - 12 else if k < 37 then (k - 17) / 4 else if k < 41 then k - 37 else (k - 41) / 4 := rfl
  have hy : uY k = if k < 17 then -1 else if k < 37 then (k - 17) % 4 else if k < 41 then -1 else (k - 41) % 4 := rfl
  unfold uApp
  rw [if_neg (by omega)]
  split
  · refine ⟨?_, fun q q0 q1 => ?_, fun x x0 x1 => ?_⟩
    · unfold uP
      rw [if_pos rfl]
      omega
    · unfold uP
      have := h2 q q0 q1
      split <;> omega
    · unfold uP
      rw [if_neg (by omega)]
      exact h3 x x0 x1
  split
  · have e : 0 ≤ uX k ∧ uX k < 5 := by
      rw [hx]
      omega
    refine ⟨?_, fun q q0 q1 => ?_, fun x x0 x1 => ?_⟩
    · unfold uP
      rw [if_neg (by omega)]
      exact h1
    · unfold uP
      rw [if_neg (by omega)]
      exact h2 q q0 q1
    · unfold uP
      have := h3 x x0 x1
      split <;> omega
  split
  · have e : 0 ≤ uX k ∧ uX k < 5 := by
      rw [hx]
      omega
    refine ⟨?_, fun q q0 q1 => ?_, fun x x0 x1 => ?_⟩
    · unfold uP
      rw [if_neg (by omega)]
      exact h1
    · unfold uP
      rw [if_neg (by omega)]
      exact h2 q q0 q1
    · unfold uP
      have := h3 x x0 x1
      split <;> omega
  split
  · have e : 0 ≤ uX k ∧ uX k < 5 := by
      rw [hx]
      omega
    have e2 : 0 ≤ uY k ∧ uY k < 4 := by
      rw [hy]
      omega
    refine ⟨?_, fun q q0 q1 => ?_, fun x x0 x1 => ?_⟩
    · unfold uP
      rw [if_neg (by omega)]
      exact h1
    · unfold uP
      rw [if_neg (by omega)]
      exact h2 q q0 q1
    · unfold uP
      have := h3 x x0 x1
      split <;> omega
  rw [if_pos hk.2]
  have e : 0 ≤ uX k ∧ uX k < 4 := by
    rw [hx]
    omega
  unfold uCan at hc
  rw [if_neg (by omega), if_neg (by omega), if_neg (by omega), if_neg (by omega)] at hc
  refine ⟨?_, fun q q0 q1 => ?_, fun x x0 x1 => ?_⟩
  · show 1 ≤ (if f = uX k then _ else _) ∧ (if f = uX k then _ else _) ≤ 7
    rw [if_neg (by omega), if_neg (by omega)]
    exact h1
  · show 0 ≤ (if q = uX k then _ else _) ∧ (if q = uX k then _ else _) ≤ 8
    have := h2 q q0 q1
    split
    · omega
    · rw [if_neg (by omega)]
      exact this
  · have := h3 x x0 x1
    dsimp only
    have e5 : (if 4 + x = uX k then (8 : Int) else if 4 ≤ 4 + x ∧ 4 + x < 9 ∧ S (4 + x) = 9 + uX k then S f else S (4 + x)) = if S (4 + x) = 9 + uX k then S f else S (4 + x) := by
      rw [if_neg (by omega)]
      by_cases c : S (4 + x) = 9 + uX k
      · rw [if_pos ⟨by omega, by omega, c⟩, if_pos c]
      · rw [if_neg (fun e => c e.2.2), if_neg c]
    rw [e5]
    split <;> omega
/-! rows of tokens, evaluated: a stack of whatever -/
def uRun {α : Type} (A : Int → α) (nt : α → α) (an ro : α → α → α) : List Int → List α → List α
  | [], st => st
  | c :: cs, st => if c / 256 < 5 then uRun A nt an ro cs (A c :: st)
    else if c / 256 = 7 then (match st with
      | [] => uRun A nt an ro cs []
      | x :: r => uRun A nt an ro cs (nt x :: r))
    else (match st with
      | y :: x :: r => uRun A nt an ro cs ((if c / 256 = 5 then an x y else ro x y) :: r)
      | r => uRun A nt an ro cs r)
/-- two stacks alike -/
def uF2 {α β : Type} (R : α → β → Prop) : List α → List β → Prop
  | [], [] => True
  | x :: r, y :: s => R x y ∧ uF2 R r s
  | _, _ => False
theorem uF2_len {α β : Type} {R : α → β → Prop} : ∀ {r : List α} {s : List β}, uF2 R r s → r.length = s.length
  | [], [], _ => rfl
  | _ :: _, _ :: _, h => by
    show _ + 1 = _ + 1
    rw [uF2_len h.2]
  | [], _ :: _, h => h.elim
  | _ :: _, [], h => h.elim
def uBot {α : Type} (d : α) (st : List α) : α := st.getLastD d
theorem uBot_c {α : Type} {d x y : α} {r : List α} : uBot d (x :: y :: r) = uBot d (y :: r) := by
  unfold uBot
  simp [List.getLastD]
theorem uF2_bot {α β : Type} {R : α → β → Prop} {d : α} {e : β} (hd : R d e) : ∀ {r : List α} {s : List β}, uF2 R r s → R (uBot d r) (uBot e s)
  | [], [], _ => hd
  | [x], [y], h => h.1
  | x :: x' :: r, y :: y' :: s, h => by
    rw [uBot_c, uBot_c]
    exact uF2_bot hd h.2
  | [_], _ :: _ :: _, h => h.2.elim
  | _ :: _ :: _, [_], h => h.2.elim
  | [], _ :: _, h => h.elim
  | _ :: _, [], h => h.elim
theorem uRun_rel {α β : Type} {R : α → β → Prop} {A1 : Int → α} {n1 : α → α} {a1 o1 : α → α → α} {A2 : Int → β} {n2 : β → β} {a2 o2 : β → β → β} (hn : ∀ x y, R x y → R (n1 x) (n2 y)) (ha : ∀ x y x' y', R x y → R x' y' → R (a1 x x') (a2 y y')) (ho : ∀ x y x' y', R x y → R x' y' → R (o1 x x') (o2 y y')) : ∀ (cs : List Int), (∀ c, c ∈ cs → c / 256 < 5 → R (A1 c) (A2 c)) → ∀ (s1 : List α) (s2 : List β), uF2 R s1 s2 → uF2 R (uRun A1 n1 a1 o1 cs s1) (uRun A2 n2 a2 o2 cs s2) := by
  intro cs
  induction cs with
  | nil =>
    intro _ s1 s2 h
    exact h
  | cons c cs ih =>
    intro hA s1 s2 h
    have ih := ih fun c hc => hA c (List.mem_cons_of_mem _ hc)
    unfold uRun
    split
    · rename_i h5
      exact ih _ _ ⟨hA c List.mem_cons_self h5, h⟩
    split
    · match s1, s2, h with
      | [], [], _ => exact ih _ _ trivial
      | x :: r, y :: s, h => exact ih _ _ ⟨hn x y h.1, h.2⟩
    · match s1, s2, h with
      | [], [], _ => exact ih _ _ trivial
      | [x], [y], h => exact ih _ _ h
      | x :: x' :: r, y :: y' :: s, h =>
        refine ih _ _ ⟨?_, h.2.2⟩
        split
        · exact ha _ _ _ _ h.2.1 h.1
        · exact ho _ _ _ _ h.2.1 h.1
/-- an atom, as slots tell -/
def uAt (f : Int) (S : Int → Int) (c : Int) : Bool :=
  if c / 256 = 0 then decide (S (4 + c / 16 % 16) = 9 + f)
  else if c / 256 = 1 then decide (S f = c / 16 % 16 + 1)
  else if c / 256 = 2 then decide (S (c / 16 % 16) = 8)
  else if c / 256 = 3 then decide (S (4 + c / 16 % 16) = c % 16 + 1)
  else decide (S (4 + c % 16) = 9 + c / 16 % 16)
/-- the wish holds -/
def uHold (f : Int) (ts : List Int) (S : Int → Int) : Bool := uBot false (uRun (uAt f S) (fun x => !x) (fun x y => x && y) (fun x y => x || y) ts [])
/-! the best row of deeds -/
/-- a row's cost: eight times the prices, and one for each deed -/
def uCs (pr : Int → Int) (k : Int) : Int := 8 * pr (uK k) + 1
abbrev uR : Type := Option (Int × List Int)
def uBet (a x : uR) : uR := match x with
  | none => a
  | some p => match a with
    | none => some p
    | some q => if p.1 < q.1 then some p else some q
def uSh (c k : Int) (x : uR) : uR := x.map fun p => (c + p.1, k :: p.2)
/-- of codes 0 to n - 1 -/
noncomputable def uFo (g : Int → uR) : Nat → uR
  | 0 => none
  | n + 1 => uBet (uFo g n) (g n)
/-- the best row of n deeds at most -/
noncomputable def uOpt (dr wp pr : Int → Int) (f : Int) (ts : List Int) : Nat → (Int → Int) → uR
  | 0, _ => none
  | n + 1, S => uFo (fun k => uIf (uCan dr wp f S k) (bif uHold f ts (uApp f S k) then some (uCs pr k, [k]) else uSh (uCs pr k) k (uOpt dr wp pr f ts n (uApp f S k))) none) 41
noncomputable def uOne (dr wp pr : Int → Int) (f : Int) (ts : List Int) (n : Nat) (S : Int → Int) (k : Int) : uR := uIf (uCan dr wp f S k) (bif uHold f ts (uApp f S k) then some (uCs pr k, [k]) else uSh (uCs pr k) k (uOpt dr wp pr f ts n (uApp f S k))) none
section
variable {dr wp pr : Int → Int} {f : Int} {ts : List Int} {n : Nat} {S : Int → Int} {k : Int} {x a : uR}
theorem uOpt_s : uOpt dr wp pr f ts (n + 1) S = uFo (uOne dr wp pr f ts n S) 41 := rfl
/-- what every row has of a property of costs and lengths -/
theorem uFo_all {g : Int → uR} {P : Int × List Int → Prop} (N : Nat) (h : ∀ k : Nat, k < N → ∀ p, g k = some p → P p) : ∀ p, uFo g N = some p → P p := by
  induction N with
  | zero =>
    intro p e
    cases e
  | succ n ih =>
    intro p e
    have ih := ih fun k hk => h k (by omega)
    have hg := h n (by omega)
    unfold uFo uBet at e
    cases hx : g n with
    | none =>
      rw [hx] at e
      exact ih p e
    | some y =>
      rw [hx] at e
      cases ha : uFo g n with
      | none =>
        rw [ha] at e
        exact hg p (hx.trans e)
      | some z =>
        rw [ha] at e
        simp only [] at e
        split at e
        · exact hg p (hx.trans e)
        · exact ih p (ha.trans e)
theorem uOpt_all {Q : Nat → (Int → Int) → Prop} {P : Nat → (Int → Int) → Int × List Int → Prop}
    (hQ : ∀ n S (k : Nat), Q (n + 1) S → k < 41 → uCan dr wp f S k → Q n (uApp f S k))
    (h1 : ∀ n S (k : Nat), Q (n + 1) S → k < 41 → uCan dr wp f S k → uHold f ts (uApp f S k) = true → P (n + 1) S (uCs pr k, [(k : Int)]))
    (h2 : ∀ n S (k : Nat) p, Q (n + 1) S → k < 41 → uCan dr wp f S k → uHold f ts (uApp f S k) = false → P n (uApp f S k) p → P (n + 1) S (uCs pr k + p.1, (k : Int) :: p.2)) : ∀ n S, Q n S → ∀ p, uOpt dr wp pr f ts n S = some p → P n S p := by
  intro n
  induction n with
  | zero =>
    intro S _ p e
    cases e
  | succ n ih =>
    intro S hS
    rw [uOpt_s]
    refine uFo_all 41 fun k hk p e => ?_
    unfold uOne at e
    by_cases hc : uCan dr wp f S k
    · rw [uIf_t hc] at e
      cases hh : uHold f ts (uApp f S k) with
      | true =>
        rw [hh] at e
        have e : some (uCs pr k, [(k : Int)]) = some p := e
        cases e
        exact h1 n S k hS hk hc hh
      | false =>
        rw [hh] at e
        have e : uSh (uCs pr k) k (uOpt dr wp pr f ts n (uApp f S k)) = some p := e
        unfold uSh at e
        cases ho : uOpt dr wp pr f ts n (uApp f S k) with
        | none =>
          rw [ho] at e
          cases e
        | some q =>
          rw [ho] at e
          cases e
          exact h2 n S k q hS hk hc hh (ih _ (hQ n S k hS hk hc) q ho)
    · rw [uIf_f hc] at e
      cases e
/-- lengths, costs -/
theorem uOpt_len (hp : ∀ i, 1 ≤ i → i ≤ 5 → 1 ≤ pr i ∧ pr i ≤ 9) : ∀ n S p, uOpt dr wp pr f ts n S = some p → 1 ≤ p.2.length ∧ p.2.length ≤ n ∧ (∃ c, p.1 = 8 * c + (p.2.length : Int) ∧ (p.2.length : Int) ≤ c ∧ c ≤ 9 * (p.2.length : Int)) ∧ ∀ k, k ∈ p.2 → 0 ≤ k ∧ k < 41 := by
  intro n S p e
  have hK : ∀ k : Nat, k < 41 → 1 ≤ uK (k : Int) ∧ uK (k : Int) ≤ 5 := by
    intro k hk
    unfold uK
    omega
  refine uOpt_all (Q := fun _ _ => True) (P := fun n _ p => 1 ≤ p.2.length ∧ p.2.length ≤ n ∧ (∃ c, p.1 = 8 * c + (p.2.length : Int) ∧ (p.2.length : Int) ≤ c ∧ c ≤ 9 * (p.2.length : Int)) ∧ ∀ k, k ∈ p.2 → 0 ≤ k ∧ k < 41) (fun _ _ _ _ _ _ => trivial) (fun n S k _ hk _ _ => ?_) (fun n S k q _ hk _ _ h => ?_) n S trivial p e
  · have := hp _ (hK k hk).1 (hK k hk).2
    refine ⟨Nat.le_refl _, by show 1 ≤ n + 1; omega, ⟨pr (uK k), rfl, this.1, this.2⟩, fun j hj => ?_⟩
    rw [List.mem_singleton] at hj
    omega
  · have := hp _ (hK k hk).1 (hK k hk).2
    obtain ⟨g1, g2, ⟨c, g3, g4, g5⟩, g6⟩ := h
    refine ⟨by show 1 ≤ q.2.length + 1; omega, by show q.2.length + 1 ≤ n + 1; omega, ⟨pr (uK k) + c, ?_, ?_, ?_⟩, fun j hj => ?_⟩
    · show uCs pr k + q.1 = _ + ((q.2.length + 1 : Nat) : Int)
      unfold uCs
      omega
    · show ((q.2.length + 1 : Nat) : Int) ≤ _
      omega
    · show _ ≤ 9 * ((q.2.length + 1 : Nat) : Int)
      omega
    · rcases List.mem_cons.mp hj with h | h
      · omega
      · exact g6 j h
/-- the best of n and of n + 1 deeds -/
def uRl (n : Nat) (x y : uR) : Prop := (∀ p, y = some p → p.2.length ≤ n → x = some p) ∧ (∀ p, x = some p → ∃ q, y = some q ∧ q.1 ≤ p.1)
theorem uRl_bet {a x b y : uR} (h1 : uRl n a b) (h2 : uRl n x y) : uRl n (uBet a x) (uBet b y) := by
  obtain ⟨a1, a2⟩ := h1
  obtain ⟨x1, x2⟩ := h2
  constructor
  · intro p e hl
    cases hy : y with
    | none =>
      rw [hy] at e
      have e : b = some p := e
      have ea := a1 p e hl
      cases hx : x with
      | none => exact ea
      | some q =>
        obtain ⟨q', e', _⟩ := x2 q hx
        rw [hy] at e'
        cases e'
    | some y0 =>
      rw [hy] at e
      cases hb : b with
      | none =>
        rw [hb] at e
        have e : some y0 = some p := e
        cases e
        have ex := x1 _ hy hl
        rw [ex]
        cases ha : a with
        | none => rfl
        | some q =>
          obtain ⟨q', e', _⟩ := a2 q ha
          rw [hb] at e'
          cases e'
      | some b0 =>
        rw [hb] at e
        have e : (if y0.1 < b0.1 then some y0 else some b0) = some p := e
        split at e
        · rename_i hlt
          cases e
          have ex := x1 _ hy hl
          rw [ex]
          cases ha : a with
          | none => rfl
          | some q =>
            obtain ⟨q', e', g⟩ := a2 q ha
            rw [hb] at e'
            cases e'
            show (if _ then _ else _) = _
            rw [if_pos (by omega)]
        · rename_i hlt
          cases e
          have ea := a1 _ hb hl
          rw [ea]
          cases hx : x with
          | none => rfl
          | some q =>
            obtain ⟨q', e', g⟩ := x2 q hx
            rw [hy] at e'
            cases e'
            show (if _ then _ else _) = _
            rw [if_neg (by omega)]
  · intro p e
    cases hx : x with
    | none =>
      rw [hx] at e
      have e : a = some p := e
      obtain ⟨q, hq, g⟩ := a2 p e
      rw [hq]
      cases hy : y with
      | none => exact ⟨q, rfl, g⟩
      | some y0 =>
        show ∃ q', (if y0.1 < q.1 then some y0 else some q) = some q' ∧ _
        split
        · exact ⟨_, rfl, by omega⟩
        · exact ⟨_, rfl, g⟩
    | some x0 =>
      obtain ⟨y0, hy, gy⟩ := x2 x0 hx
      rw [hx] at e
      rw [hy]
      cases ha : a with
      | none =>
        rw [ha] at e
        have e : some x0 = some p := e
        cases e
        cases hb : b with
        | none => exact ⟨y0, rfl, gy⟩
        | some b0 =>
          show ∃ q', (if y0.1 < b0.1 then some y0 else some b0) = some q' ∧ _
          split
          · exact ⟨_, rfl, by omega⟩
          · exact ⟨_, rfl, by omega⟩
      | some a0 =>
        obtain ⟨b0, hb, gb⟩ := a2 a0 ha
        rw [ha] at e
        have e : (if x0.1 < a0.1 then some x0 else some a0) = some p := e
        rw [hb]
        show ∃ q', (if y0.1 < b0.1 then some y0 else some b0) = some q' ∧ _
        split at e <;> (cases e; split <;> exact ⟨_, rfl, by omega⟩)
theorem uRl_fo {g h : Int → uR} (N : Nat) (hh : ∀ k : Nat, k < N → uRl n (g k) (h k)) : uRl n (uFo g N) (uFo h N) := by
  induction N with
  | zero => exact ⟨fun p e => (by cases e), fun p e => (by cases e)⟩
  | succ m ih => exact uRl_bet (ih fun k hk => hh k (by omega)) (hh m (by omega))
theorem uRl_opt : ∀ (n : Nat) (S : Int → Int), uRl n (uOpt dr wp pr f ts n S) (uOpt dr wp pr f ts (n + 1) S) := by
  intro n
  induction n with
  | zero =>
    intro S
    constructor
    · intro p e hl
      exfalso
      rw [uOpt_s] at e
      have : ¬ p.2.length ≤ 0 := by
        refine uFo_all (P := fun p => ¬ p.2.length ≤ 0) 41 (fun k hk q eq => ?_) p e
        unfold uOne at eq
        by_cases hc : uCan dr wp f S k
        · rw [uIf_t hc] at eq
          cases hh : uHold f ts (uApp f S k) with
          | true =>
            rw [hh] at eq
            have eq : some (uCs pr k, [(k : Int)]) = some q := eq
            cases eq
            exact Nat.not_succ_le_zero 0
          | false =>
            rw [hh] at eq
            cases eq
        · rw [uIf_f hc] at eq
          cases eq
      exact this hl
    · intro p e
      cases e
  | succ n ih =>
    intro S
    rw [uOpt_s (n := n), uOpt_s (n := n + 1)]
    refine uRl_fo 41 fun k hk => ?_
    unfold uOne
    by_cases hc : uCan dr wp f S k
    · rw [uIf_t hc, uIf_t hc]
      cases hh : uHold f ts (uApp f S k) with
      | true => exact ⟨fun p e _ => e, fun p e => ⟨p, e, Int.le_refl _⟩⟩
      | false =>
        obtain ⟨i1, i2⟩ := ih (uApp f S k)
        show uRl (n + 1) (uSh (uCs pr k) k (uOpt dr wp pr f ts n (uApp f S k))) (uSh (uCs pr k) k (uOpt dr wp pr f ts (n + 1) (uApp f S k)))
        unfold uSh
        constructor
        · intro p e hl
          cases ho : uOpt dr wp pr f ts (n + 1) (uApp f S k) with
          | none =>
            rw [ho] at e
            cases e
          | some q =>
            rw [ho] at e
            cases e
            have hl : q.2.length + 1 ≤ n + 1 := hl
            rw [i1 q ho (by omega)]
            rfl
        · intro p e
          cases ho : uOpt dr wp pr f ts n (uApp f S k) with
          | none =>
            rw [ho] at e
            cases e
          | some q =>
            rw [ho] at e
            cases e
            obtain ⟨q', e', g⟩ := i2 q ho
            rw [e']
            exact ⟨_, rfl, by show uCs pr k + q'.1 ≤ uCs pr k + q.1; omega⟩
    · rw [uIf_f hc, uIf_f hc]
      exact ⟨fun p e _ => (by cases e), fun p e => (by cases e)⟩
/-- of more deeds: the same, or cheaper -/
theorem uOpt_mono {m : Nat} (h : n ≤ m) : (∀ p, uOpt dr wp pr f ts m S = some p → p.2.length ≤ n → uOpt dr wp pr f ts n S = some p) ∧ (∀ p, uOpt dr wp pr f ts n S = some p → ∃ q, uOpt dr wp pr f ts m S = some q ∧ q.1 ≤ p.1) := by
  obtain ⟨d, rfl⟩ : ∃ d, m = n + d := ⟨m - n, by omega⟩
  clear h
  induction d with
  | zero => exact ⟨fun p e _ => e, fun p e => ⟨p, e, Int.le_refl _⟩⟩
  | succ d ih =>
    obtain ⟨j1, j2⟩ := uRl_opt (dr := dr) (wp := wp) (pr := pr) (f := f) (ts := ts) (n + d) S
    refine ⟨fun p e hl => ih.1 p (j1 p e (by omega)) hl, fun p e => ?_⟩
    obtain ⟨q, hq, g⟩ := ih.2 p e
    obtain ⟨q', hq', g'⟩ := j2 q hq
    exact ⟨q', hq', by omega⟩
end
end
