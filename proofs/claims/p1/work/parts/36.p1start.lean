/-! the law on scripts of at most six ints: it comes to its end with true -/
section
variable {Ln : Nat} {xs : Nat → Int32}
theorem p1_none : ∀ t ∈ ([] : List p1N), p1H Ln xs t := fun _ h => absurd h List.not_mem_nil
theorem p1_head (hLn : Ln ≤ 3072) : p1H Ln xs p1N0 := by
  refine p1_run hLn (N := [p1N1, p1N2, p1N3, p1N4, p1N5, p1N6, p1N7]) ?_ p1r0
  intro t ht
  simp only [List.mem_cons, List.not_mem_nil, or_false] at ht
  rcases ht with rfl | rfl | rfl | rfl | rfl | rfl | rfl
  · exact p1_run hLn p1_none p1r1
  · exact p1_run hLn p1_none p1r2
  · exact p1_run hLn p1_none p1r3
  · exact p1_run hLn p1_none p1r4
  · exact p1_rr4 hLn p1_none rfl p1r5a p1r5b p1r5c p1r5d
  · exact p1_rr4 hLn p1_none rfl p1r6a p1r6b p1r6c p1r6d
  · exact p1_rr4 hLn p1_none rfl p1r7a p1r7b p1r7c p1r7d
theorem p1_all (hLn : Ln ≤ 6) : ∃ N d σf, d ≤ 1000 ∧ pmRun (pmRo Ln xs) (pmCall (pmRo Ln xs) N d) 13 246 2 N 0 [some (.ref 1001), none, none, none] [] pmσ0 = some (some (.int 1), σf) ∧ pmTot σf.1 ≤ 7302250 := by
  have h := p1_go (xs := xs) (ρ := fun v => if v = 1 then (Ln : Int) else 0) (cl := [some (.ref 1001), none, none, none]) (cs := []) (σ := pmσ0) (by omega : Ln ≤ 3072) (N := [p1N0]) (fun t ht => by
    rw [List.mem_singleton] at ht
    subst ht
    exact p1_head (by omega)) p1e ⟨⟨⟨⟨rfl, rfl, by decide⟩, fun v i hi => ?_⟩, fun q hq => absurd hq List.not_mem_nil, fun q hq => absurd hq List.not_mem_nil⟩, ⟨⟨rfl, fun p => rfl⟩, fun p c hp => ?_, fun p c hp => ?_, fun p _ => ⟨rfl, rfl⟩⟩, Nat.zero_le _, fun v hv => absurd hv (Nat.not_lt_zero v)⟩ ⟨rfl, fun i a hi => ?_⟩ trivial
  · obtain ⟨M, N, r, σf, h1, h2, h3⟩ := h
    subst h2
    refine ⟨max M N, 20, σf, by decide, ?_, h3⟩
    exact pmRun_le pmRoLe.rf (pmCall_le pmRoLe.rf (Nat.le_max_left M N) 20 20 (Nat.le_refl 20)) N (max M N) _ _ _ _ _ (Nat.le_max_right M N) h1
  · match v, hi with
    | 0, hi => cases hi; exact ⟨Int.le_refl _, Int.le_refl _⟩
    | 1, hi => cases hi; exact ⟨by show (0 : Int) ≤ (Ln : Int); omega, by show (Ln : Int) ≤ 6; omega⟩
    | v + 2, hi => cases hi
  · cases hp
  · cases hp
  · match i, hi with
    | 0, hi => cases hi; exact ⟨.ref 1001, rfl, rfl⟩
    | 1, hi => cases hi
    | 2, hi => cases hi
    | 3, hi => cases hi
    | i + 4, hi => cases hi
end
