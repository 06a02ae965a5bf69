theorem kq_l_ne {a n c p q : Nat} {μ : am_N} (h1 : ¬ (p = a ∧ q < n)) (h2 : ¬ (p = 83 ∧ q = 27)) : kq_l a n c μ p q = μ p q := by unfold kq_l; rw [if_neg h1, if_neg h2]
