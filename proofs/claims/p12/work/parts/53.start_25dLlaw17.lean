theorem dL_law_17 : decode code 17 = .ok (.istore_n 3, 1) := by decide +kernel
