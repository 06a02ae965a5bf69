theorem dL_law_7 : decode code 7 = .ok (.astore_n 1, 1) := by decide +kernel
