theorem dL_law_15 : decode code 15 = .ok (.astore_n 2, 1) := by decide +kernel
