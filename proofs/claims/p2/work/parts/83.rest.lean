/-! all but the reference's wish -/
section
variable {Ln : Nat} {xs : Nat → Int32}
theorem kHypP (hLn : Ln ≤ 3072) : bHyp (pmRo Ln xs) ((Ln : Int), xs) kP := ⟨kP_fr, Ln, xs, rfl, rfl, hLn⟩
theorem kHypQ (hLn : Ln ≤ 3072) : bHyp (pmRo Ln xs) ((Ln : Int), xs) kQ := ⟨kQ_fr, Ln, xs, rfl, rfl, hLn⟩
theorem kLaw (hLn : Ln ≤ 3072) (h153 : bCok (pmRo Ln xs) ((Ln : Int), xs) kP bC153) : ∃ N d σf, d ≤ 1000 ∧ pmRun (pmRo Ln xs) (pmCall (pmRo Ln xs) N d) 13 246 2 N 0 [some (.ref 1001), none, none, none] [] pmσ0 = some (some (.int 1), σf) ∧ pmTot σf.1 ≤ 7302250 := by
  have h := kHypP (xs := xs) hLn
  have hq := kHypQ (xs := xs) hLn
  have h39 : bCok (pmRo Ln xs) ((Ln : Int), xs) kP bC39 := kFail h fun σ x hP _ => kP_upi hP (by decide) (by decide) (by decide) (by decide) (by decide)
  have h39q : bCok (pmRo Ln xs) ((Ln : Int), xs) kQ bC39 := kFail hq fun σ x hP hx => ⟨kP_upi hP.1 (by decide) (by decide) (by decide) (by decide) (by decide), Or.inl (by
    show (pmUp σ.2.1 1 4 x 1 4).toInt ≠ 0
    rw [kUp_at]
    omega)⟩
  have h33 : bCok (pmRo Ln xs) ((Ln : Int), xs) kP bC33 := kOpen h fun σ x hP => kP_upi hP (by decide) (by decide) (by decide) (by decide) (by decide)
  have h187 := kHeld h
  have h199 := kFirst h (bO190 h h187)
  have h31 := kWish h hq h33 (kOne hq h39q) h39q
  exact pL_all hLn (pL_head hLn (bLcs_ok h h31 h33 h39 (kMeas1 h) (kMeas2 h) (kWeigh1 h) (kWeigh2 h) h153 h187 h199))
end
