theorem dL_law_16 : decode code 16 = .ok (.iconst 0, 1) := by decide +kernel
