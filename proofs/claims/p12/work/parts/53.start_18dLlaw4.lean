theorem dL_law_4 : decode code 4 = .ok (.invokespecial 9, 3) := by decide +kernel
