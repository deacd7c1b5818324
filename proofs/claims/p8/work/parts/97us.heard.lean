/-! what is heard, as a frame -/
section
set_option maxRecDepth 100000


section
variable {ro : Nat → Nat × (Nat → Int32)} {d : Nat} {Q : Option Value → pmS → Prop} {n p k c : Int} {a a' : xA} {b b' : xB}
/-- only the marks of clauses change -/
def uHf (a a' : xA) : Prop := (∀ q j, ¬ (q = 88 ∧ 41 ≤ j ∧ j < 113) → a' q j = a q j) ∧ xAr a'
theorem uHf_r (h : xAr a) : uHf a a := ⟨fun _ _ _ => rfl, h⟩
theorem uHf_u {j v : Int} (h : uHf a a') (hj : 41 ≤ j ∧ j < 113) (hv : xR v) : uHf a (xU a' 88 j v) := ⟨fun q i e => by
  rw [xUo (by
    rintro ⟨rfl, rfl⟩
    exact e ⟨rfl, hj⟩)]
  exact h.1 q i e, xAr_u h.2 hv⟩
/-- the laws of the reference -/
def uLw (a : xA) : Prop := (0 ≤ a 87 3 ∧ a 87 3 ≤ 6) ∧ ∀ c, 0 ≤ c → c < 24 → 0 ≤ a 106 c ∧ a 106 c ≤ 99
theorem uLw_o (h : uLw a) (e : ∀ q j, (q = 106 ∨ (q = 87 ∧ j = 3)) → a' q j = a q j) : uLw a' := ⟨by rw [e 87 3 (by omega)]; exact h.1, fun c c0 c1 => by rw [e 106 c (by omega)]; exact h.2 c c0 c1⟩
/-- happens -/
theorem u212 {sn : Int} (hA : xAr a) (hL : uLw a) (htn : 0 ≤ a 88 114 ∧ a 88 114 ≤ 99) (hp : 0 ≤ p ∧ p ≤ 3) (hk : 0 ≤ k ∧ k < 61) (hsn : 0 ≤ sn ∧ sn ≤ 15) (hd : 3 ≤ d) (hQ : ∀ a', uHf a a' → Q none (xS a' b)) : pmCs ro d 212 [.ref 87, xV p, xV k, xV sn] (xS a b) Q := by
  refine pmCs_deep (d := 3) (xg212 (w212 rfl htn ?_)) hd
  have loop : ∀ (m : Nat) (c : Int) (a1 : xA) (v6 v7 v8 v9 : Option Value), c + (m : Int) = 4 * a 87 3 → 0 ≤ c → uHf a a1 → pmWp ro 2 12 212 0 14 [some (.ref 87), some (xV p), some (xV k), some (xV sn), some (xV (a 88 114 + 1)), some (xV c), v6, v7, v8, v9] [] (xS a1 b) Q := by
    intro m
    induction m with
    | zero =>
      intro c a1 v6 v7 v8 v9 hc c0 h
      have hl := h.1 87 3 (by omega)
      have hl0 := hL.1
      exact w212c h.2 hp hk hsn (by omega) ⟨c0, by omega⟩ hl hl0 (by decide) (fun _ => hQ a1 h) (fun e => by omega) (fun e => by omega) (fun e => by omega)
    | succ m ih =>
      intro c a1 v6 v7 v8 v9 hc c0 h
      have hl := h.1 87 3 (by omega)
      have hl0 := hL.1
      have hc24 : 0 ≤ c ∧ c < 24 := by omega
      have nx : ∀ (a2 : xA) (v6 v7 v8 v9 : Option Value), uHf a a2 → pmWp ro 2 12 212 0 360 [some (.ref 87), some (xV p), some (xV k), some (xV sn), some (xV (a 88 114 + 1)), some (xV c), v6, v7, v8, v9] [] (xS a2 b) Q := fun a2 v6 v7 v8 v9 h2 => w212f hc24 (ih (c + 1) a2 _ _ _ _ (by omega) (by omega) h2)
      have hnb : ∀ c, 0 ≤ c → c < 24 → 0 ≤ a1 106 c ∧ a1 106 c ≤ 99 := fun c x0 x1 => by rw [h.1 106 c (by omega)]; exact hL.2 c x0 x1
      refine w212c h.2 hp hk hsn (by omega) ⟨c0, by omega⟩ hl hl0 (by decide) (fun e => by omega) (fun _ _ => nx a1 _ _ _ _ h) (fun _ _ _ => ?_) (fun _ _ _ => nx a1 _ _ _ _ h)
      have hat : 41 ≤ 41 + 3 * c ∧ 41 + 3 * c ≤ 110 := by omega
      obtain ⟨at0, eat⟩ : ∃ z, 41 + 3 * c = z := ⟨_, rfl⟩
      rw [eat] at hat ⊢
      have r0 : ∀ z : Int, 0 ≤ z ∧ z ≤ 300 → xR z := fun z hz => ⟨by omega, by omega⟩
      have after : ∀ z1 z2 z3 : Int, (z1 = 0 ∨ z1 = 1) → (z3 = 0 ∨ z3 = 1) → pmWp ro 2 12 212 0 137 [some (.ref 87), some (xV p), some (xV k), some (xV sn), some (xV (a 88 114 + 1)), some (xV c), some (xV at0), some (xV z1), some (xV z2), some (xV z3)] [] (xS a1 b) Q := by
        intro z1 z2 z3 hz1 hz3
        have hb := hnb c hc24.1 hc24.2
        refine w212e h.2 (by omega) hc24 hat hz1 hz3 hnb ?_ ?_ ?_ ?_ ?_ ?_ ?_ ?_ ?_ ?_ ?_ ?_ ?_ ?_ ?_ <;> intros
        all_goals
          refine nx _ _ _ _ _ ?_
          repeat' (first | exact h | refine uHf_u ?_ ⟨by omega, by omega⟩ ?_)
          all_goals first | exact r0 _ ⟨by omega, by omega⟩ | exact h.2 _ _ | exact (xAr_u h.2 (r0 _ ⟨by omega, by omega⟩)) _ _
      refine w212d h.2 hp hk hsn (by omega) hc24 hat (by decide) ?_ ?_ ?_ ?_ ?_ ?_ ?_ ?_ ?_ ?_ <;> intros
      all_goals
        exact after _ _ _ (by decide) (by decide)
  exact loop (4 * a 87 3).toNat 0 a _ _ _ _ (by have := hL.1; omega) (by decide) (uHf_r hA)
/-- turnEnds -/
theorem u214 (hA : xAr a) (hL : uLw a) (htn : 0 ≤ a 88 114 ∧ a 88 114 ≤ 99) (hd : 1 ≤ d) (hQ : ∀ a', uHf (xU (xU a 88 114 (a 88 114 + 1)) 88 115 0) a' → Q none (xS a' b)) : pmCs ro d 214 [.ref 87] (xS a b) Q := by
  refine pmCs_deep (d := 1) (xg214 (w214 rfl htn ?_)) hd
  have r0 : ∀ z : Int, 0 ≤ z ∧ z ≤ 300 → xR z := fun z hz => ⟨by omega, by omega⟩
  have hA1 : xAr (xU (xU a 88 114 (a 88 114 + 1)) 88 115 0) := xAr_u (xAr_u hA (r0 _ ⟨by omega, by omega⟩)) xR0
  have e114 : (xU (xU a 88 114 (a 88 114 + 1)) 88 115 0) 88 114 = a 88 114 + 1 := by rw [xUk (by decide), xUa]
  have hL1 : uLw (xU (xU a 88 114 (a 88 114 + 1)) 88 115 0) := uLw_o hL (fun q j e => by rw [xUn (by omega), xUn (by omega)])
  obtain ⟨A, eA⟩ : ∃ A, (xU (xU a 88 114 (a 88 114 + 1)) 88 115 0) = A := ⟨_, rfl⟩
  rw [eA] at hA1 e114 hL1 hQ ⊢
  have loop : ∀ (m : Nat) (c : Int) (a1 : xA) (v2 v3 : Option Value), c + (m : Int) = 4 * A 87 3 → 0 ≤ c → uHf A a1 → pmWp ro 0 12 214 0 26 [some (.ref 87), some (xV c), v2, v3] [] (xS a1 b) Q := by
    intro m
    induction m with
    | zero =>
      intro c a1 v2 v3 hc c0 h
      have hl := h.1 87 3 (by omega)
      have hl0 := hL1.1
      have ht := (h.1 88 114 (by omega)).trans e114
      have hnb : ∀ c, 0 ≤ c → c < 24 → 0 ≤ a1 106 c ∧ a1 106 c ≤ 99 := fun c x0 x1 => by rw [h.1 106 c (by omega)]; exact hL1.2 c x0 x1
      refine w214c h.2 ht (by omega) ⟨c0, by omega⟩ hl hl0 hnb ?_ ?_ ?_ ?_ ?_ ?_ ?_ ?_ ?_ ?_ <;> intros
      all_goals first | exact hQ a1 h | omega
    | succ m ih =>
      intro c a1 v2 v3 hc c0 h
      have hl := h.1 87 3 (by omega)
      have hl0 := hL1.1
      have ht := (h.1 88 114 (by omega)).trans e114
      have hc24 : 0 ≤ c ∧ c < 24 := by omega
      have hnb : ∀ c, 0 ≤ c → c < 24 → 0 ≤ a1 106 c ∧ a1 106 c ≤ 99 := fun c x0 x1 => by rw [h.1 106 c (by omega)]; exact hL1.2 c x0 x1
      have nx : ∀ (a2 : xA) (v2 v3 : Option Value), uHf A a2 → pmWp ro 0 12 214 0 186 [some (.ref 87), some (xV c), v2, v3] [] (xS a2 b) Q := fun a2 v2 v3 h2 => w214f hc24 (ih (c + 1) a2 _ _ (by omega) (by omega) h2)
      refine w214c h.2 ht (by omega) ⟨c0, by omega⟩ hl hl0 hnb ?_ ?_ ?_ ?_ ?_ ?_ ?_ ?_ ?_ ?_ <;> intros
      · exfalso
        omega
      all_goals
        refine nx _ _ _ ?_
        repeat' (first | exact h | refine uHf_u ?_ ⟨by omega, by omega⟩ ?_)
        all_goals exact r0 _ ⟨by omega, by omega⟩
  exact loop (4 * A 87 3).toNat 0 A _ _ (by have := hL1.1; omega) (by decide) (uHf_r hA1)
end
end
