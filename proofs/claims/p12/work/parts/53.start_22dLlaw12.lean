theorem dL_law_12 : decode code 12 = .ok (.invokespecial 12, 3) := by decide +kernel
