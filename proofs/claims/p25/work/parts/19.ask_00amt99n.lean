/-! contracts: the system's public questions (weak) -/
theorem am_t99n : ∀ n : Nat, n < 51 → 5 ≤ n → 1 ≤ (99 : Int).tdiv (n : Int) ∧ (99 : Int).tdiv (n : Int) ≤ 19 := by decide +kernel
