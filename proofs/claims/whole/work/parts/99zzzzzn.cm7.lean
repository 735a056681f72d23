theorem run_m : cR 400 20 12 0 [(10, 135)] [] (expW 134 ++ [(0, 12, List.replicate 89 0)]) = some (expW 193, 58, 25911) := by decide +kernel
