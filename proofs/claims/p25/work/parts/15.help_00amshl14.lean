/-! contracts: the system's questions (weak) -/
theorem am_shl14 {n : Int} (h0 : 0 ≤ n) (h1 : n ≤ 4) : 1 ≤ am_shl 1 n ∧ am_shl 1 n ≤ 16 := by
  rcases (show n = 0 ∨ n = 1 ∨ n = 2 ∨ n = 3 ∨ n = 4 by omega) with rfl | rfl | rfl | rfl | rfl <;> decide +kernel
