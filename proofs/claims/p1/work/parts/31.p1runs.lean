/-! the runs -/
section
set_option maxRecDepth 1000000 in
theorem p1e : p1go [p1N0] 0 [some (.inr 1001), none, none, none] [] ([(0, 0), (0, 6)], [], []) ((0, []), [], [], 0) = true := by decide +kernel
set_option maxRecDepth 1000000 in
theorem p1r0 : p1run [p1N1, p1N2, p1N3, p1N4, p1N5, p1N6, p1N7] p1N0 = true := by decide +kernel
set_option maxRecDepth 1000000 in
theorem p1r1 : p1run [] p1N1 = true := by decide +kernel
set_option maxRecDepth 1000000 in
theorem p1r2 : p1run [] p1N2 = true := by decide +kernel
end
