theorem run_x : cR 400 20 11 0 [(10, 1)] [] [(0, 11, List.replicate 15 0)] = some (expW 134, 133, 23311) := by decide +kernel
