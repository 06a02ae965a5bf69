theorem dL_law_3 : decode code 3 = .ok (.dup, 1) := by decide +kernel
