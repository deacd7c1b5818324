/-! all but the reference's wish -/
section
variable {Ln : Nat} {xs : Nat → Int32}
theorem kHypP (hLn : Ln ≤ 3072) : bHyp (pmRo Ln xs) ((Ln : Int), xs) kP := ⟨kP_fr, Ln, xs, rfl, rfl, hLn⟩
theorem kHypQ (hLn : Ln ≤ 3072) : bHyp (pmRo Ln xs) ((Ln : Int), xs) kQ := ⟨kQ_fr, Ln, xs, rfl, rfl, hLn⟩
end
