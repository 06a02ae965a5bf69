theorem dL_law_11 : decode code 11 = .ok (.dup, 1) := by decide +kernel
