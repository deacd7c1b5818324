/-! a folk of the class looks -/
section
set_option maxRecDepth 100000


section
variable {ro : Nat → Nat × (Nat → Int32)} {d w : Nat} {Q : Option Value → pmS → Prop} {n f p k x : Int} {r r' : Int → Int} {a a' : xA} {b b' : xB}
/-- a slot that is here, by the slots of the truth -/
abbrev uHr (S : Int → Int) (hr i v : Int) : Prop := v = hr ∨ (4 ≤ i ∧ (9 ≤ v ∧ v < 13) ∧ S (v - 9) = hr)
/-- a slot of a mind after a look -/
def uTg (S M : Int → Int) (hr i : Int) : Int := if uHr S hr i (S i) then S i else if uHr S hr i (M i) then 0 else M i
/-- look, by slots -/
theorem u63s (hz : uWz w) (hp : 1 ≤ p ∧ p ≤ 3) (h9 : uHi (b (w + 1) p)) (hal : ¬ uSl (b w 4) p = 8) (hd : 2 ≤ d) (hQ : ∀ l, uHi l → (∀ i, 0 ≤ i → i < 9 → uSl l i = uTg (uSl (b w 4)) (uSl (b (w + 1) p)) (uSl (b w 4) p) i) → Q none (xS a (xU b (w + 1) p l))) : pmCs ro d 63 [.ref 43, .ref w, xV p] (xS a b) Q := by
  refine pmCs_deep (d := 2) (xg63 (w63 hz (by decide) hp (fun _ => ?_) (fun e => absurd e hal))) hd
  have hhr := uSl_b (l := b w 4) (j := p) (by omega) (by omega)
  obtain ⟨hr, ehr⟩ : ∃ z, uSl (b w 4) p = z := ⟨_, rfl⟩
  rw [ehr] at hhr hQ ⊢
  have loop : ∀ (m : Nat) (i : Int) (l : Int64) (v7 v8 v9 v10 : Option Value), i + (m : Int) = 9 → 0 ≤ i → uHi l → (∀ j, 0 ≤ j → j < i → uSl l j = uTg (uSl (b w 4)) (uSl (b (w + 1) p)) hr j) → (∀ j, i ≤ j → j < 9 → uSl l j = uSl (b (w + 1) p) j) →
      pmWp ro 1 4 63 0 27 [some (.ref 43), some (.ref w), some (xV p), some (xV hr), some (.long l), none, some (xV i), v7, v8, v9, v10] [] (xS a b) Q := by
    intro m
    induction m with
    | zero =>
      intro i l v7 v8 v9 v10 hi i0 g1 g2 g3
      refine w63i hz (by decide) hp hhr ⟨i0, by omega⟩ (fun _ => hQ l g1 (fun j j0 j1 => g2 j j0 (by omega))) ?_ ?_ ?_ ?_ ?_ ?_ ?_ ?_ ?_ ?_ ?_ ?_ <;> (intro e; omega)
    | succ m ih =>
      intro i l v7 v8 v9 v10 hi i0 g1 g2 g3
      have i9 : i < 9 := by omega
      have hs := uSl_b (l := b w 4) (j := i) i0 (by omega)
      have eM := g3 i (by omega) i9
      have nx : ∀ (l2 : Int64) (v7 v8 v9 v10 : Option Value), (∀ j, 0 ≤ j → j < 16 → uSl l2 j = if j = i then uTg (uSl (b w 4)) (uSl (b (w + 1) p)) hr i else uSl l j) → pmWp ro 1 4 63 0 146 [some (.ref 43), some (.ref w), some (xV p), some (xV hr), some (.long l2), none, some (xV i), v7, v8, v9, v10] [] (xS a b) Q := by
        intro l2 v7 v8 v9 v10 h
        refine w63n hz (by decide) hp hhr ⟨i0, by omega⟩ ?_
        refine ih (i + 1) l2 _ _ _ _ (by omega) (by omega) (fun j j0 j1 => ?_) (fun j j0 j1 => ?_) (fun j j0 j1 => ?_)
        · rw [h j (by omega) j1, if_neg (by omega)]
          exact g1 j j0 j1
        · rw [h j j0 (by omega)]
          by_cases c : j = i
          · rw [if_pos c, c]
          · rw [if_neg c]
            exact g2 j j0 (by omega)
        · rw [h j (by omega) (by omega), if_neg (by omega)]
          exact g3 j (by omega) j1
      have yes : uHr (uSl (b w 4)) hr i (uSl (b w 4) i) → ∀ (v7 v8 v9 v10 : Option Value), pmWp ro 1 4 63 0 146 [some (.ref 43), some (.ref w), some (xV p), some (xV hr), some (.long (xWith l i (uSl (b w 4) i))), none, some (xV i), v7, v8, v9, v10] [] (xS a b) Q := fun h v7 v8 v9 v10 => nx _ _ _ _ _ (fun j j0 j1 => by
        rw [uWi i0 (by omega) hs.1 (by omega) j0 j1]
        unfold uTg
        rw [if_pos h])
      have gone : ¬ uHr (uSl (b w 4)) hr i (uSl (b w 4) i) → uHr (uSl (b w 4)) hr i (uSl l i) → ∀ (v7 v8 v9 v10 : Option Value), pmWp ro 1 4 63 0 146 [some (.ref 43), some (.ref w), some (xV p), some (xV hr), some (.long (xWith l i 0)), none, some (xV i), v7, v8, v9, v10] [] (xS a b) Q := fun h h2 v7 v8 v9 v10 => nx _ _ _ _ _ (fun j j0 j1 => by
        rw [uWi i0 (by omega) (by decide) (by decide) j0 j1]
        rw [eM] at h2
        unfold uTg
        rw [if_neg h, if_pos h2])
      have stay : ¬ uHr (uSl (b w 4)) hr i (uSl (b w 4) i) → ¬ uHr (uSl (b w 4)) hr i (uSl l i) → ∀ (v7 v8 v9 v10 : Option Value), pmWp ro 1 4 63 0 146 [some (.ref 43), some (.ref w), some (xV p), some (xV hr), some (.long l), none, some (xV i), v7, v8, v9, v10] [] (xS a b) Q := fun h h2 v7 v8 v9 v10 => nx _ _ _ _ _ (fun j j0 j1 => by
        rw [eM] at h2
        unfold uTg
        rw [if_neg h, if_neg h2]
        by_cases c : j = i
        · rw [if_pos c, c]
          exact eM
        · rw [if_neg c])
      refine w63i hz (by decide) hp hhr ⟨i0, by omega⟩ (fun e => by omega) (fun _ e1 e2 => yes (Or.inl e1) _ _ _ _) (fun _ e1 _ _ => yes (Or.inl e1) _ _ _ _) (fun _ e1 _ _ _ => yes (Or.inl e1) _ _ _ _) (fun _ e1 _ _ _ => yes (Or.inl e1) _ _ _ _) (fun _ e1 e2 e3 => gone (fun h => h.elim e1 (fun h => by omega)) (Or.inl e3) _ _ _ _) (fun _ e1 e2 e3 => stay (fun h => h.elim e1 (fun h => by omega)) (fun h => h.elim e3 (fun h => by omega)) _ _ _ _) (fun _ e1 e2 e3 e4 => yes (Or.inr ⟨by omega, e3⟩) _ _ _ _) (fun _ e1 e2 e3 e4 e5 => yes (Or.inr ⟨by omega, e3⟩) _ _ _ _) (fun _ e1 e2 e3 e4 e5 => yes (Or.inr ⟨by omega, e3⟩) _ _ _ _) (fun _ e1 e2 e3 e4 => gone (fun h => h.elim e1 (fun h => e3 h.2)) (Or.inl e4) _ _ _ _) (fun _ e1 e2 e3 e4 e5 => gone (fun h => h.elim e1 (fun h => e3 h.2)) (Or.inr ⟨by omega, e5⟩) _ _ _ _) (fun _ e1 e2 e3 e4 e5 => stay (fun h => h.elim e1 (fun h => e3 h.2)) (fun h => h.elim e4 (fun h => e5 h.2)) _ _ _ _)
  exact loop 9 0 (b (w + 1) p) _ _ _ _ (by decide) (by decide) h9 (fun j j0 j1 => by omega) (fun j _ _ => rfl)
end
end
