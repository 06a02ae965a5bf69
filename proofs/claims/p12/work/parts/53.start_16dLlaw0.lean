theorem dL_law_0 : decode code 0 = .ok (.new 7, 3) := by decide +kernel
