/-! the runs: hidden -/
section
set_option maxRecDepth 1000000 in
theorem p1r7a : p1rr [] p1N7 4 (-2147483648) 31 = true := by decide +kernel
set_option maxRecDepth 1000000 in
theorem p1r7b : p1rr [] p1N7 4 32 63 = true := by decide +kernel
set_option maxRecDepth 1000000 in
theorem p1r7c : p1rr [] p1N7 4 64 95 = true := by decide +kernel
set_option maxRecDepth 1000000 in
theorem p1r7d : p1rr [] p1N7 4 96 2147483647 = true := by decide +kernel
end
