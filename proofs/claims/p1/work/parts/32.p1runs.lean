/-! the runs: begin, believe -/
section
set_option maxRecDepth 1000000 in
theorem p1r3 : p1run [] p1N3 = true := by decide +kernel
set_option maxRecDepth 1000000 in
theorem p1r4 : p1run [] p1N4 = true := by decide +kernel
end
