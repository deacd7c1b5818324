/-! the law on scripts of at most six ints -/
section
noncomputable def p1S (m : Nat) : aSs := (fLk [(68, [(0, [(1, 1, 3), (3, 0, 4)])]), (25, [(0, [(1, 1, 3), (3, 0, 4)])]), (132, [(0, [(1, 0, 4)])]), (134, [(0, [(1, -2147483638, 0)])]), (23, [(0, [(1, 0, 128)])]), (20, [(0, [(1, -2147483638, 0)])]), (13, [(0, [(1, 0, 7), (2, 0, 7)])])] m).getD []
def p1K : aK := (13, 246, 2, pmT_246, [])
noncomputable def p1fin : Option aV → aX → aM → Bool := fun r X M => match r with
  | some (.inl (false, f)) => (match aCst X.1 f with
    | some z => decide (z = 1) && (decide (M.1.1 ≤ 1000) && M.1.2.all fun c => c.all fun s => decide (s.2.1 ≤ 5000))
    | none => false)
  | _ => false
noncomputable def p1go (N : Int) (fuel : Nat) : Bool := aGo p1S (fun _ _ _ _ _ _ _ _ => none) (fun _ _ _ _ _ _ => none) p1fin fuel 20 true p1K 0 [some (.inr 1001), none, none, none] [] [] ([(0, 0), (0, N)], [], []) ((0, []), [], [], 0)
set_option maxRecDepth 1000000 in
theorem p1t : p1go 5 30000 = true := by decide +kernel
end
