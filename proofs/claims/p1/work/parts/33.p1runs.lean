/-! the runs: hidden -/
section
set_option maxRecDepth 1000000 in
theorem p1r5a : p1rr [] p1N5 4 (-2147483648) 31 = true := by decide +kernel
set_option maxRecDepth 1000000 in
theorem p1r5b : p1rr [] p1N5 4 32 63 = true := by decide +kernel
set_option maxRecDepth 1000000 in
theorem p1r5c : p1rr [] p1N5 4 64 95 = true := by decide +kernel
set_option maxRecDepth 1000000 in
theorem p1r5d : p1rr [] p1N5 4 96 2147483647 = true := by decide +kernel
end
