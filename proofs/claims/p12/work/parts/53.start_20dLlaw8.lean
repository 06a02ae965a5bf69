theorem dL_law_8 : decode code 8 = .ok (.new 10, 3) := by decide +kernel
