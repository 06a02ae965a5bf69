/-! the model's image and races in mind: what is kept, what comes back (exactly) -/
def kq_s (a n c : Nat) (μ : am_N) : am_N := fun p q => if p = 98 ∧ c ≤ q ∧ q < c + n then μ a (q - c) else if p = 83 ∧ q = 27 then ((c + n : Nat) : Int) else μ p q
def kq_l (a n c : Nat) (μ : am_N) : am_N := fun p q => if p = a ∧ q < n then μ 98 (c + q) else if p = 83 ∧ q = 27 then ((c + n : Nat) : Int) else μ p q
theorem kq_s_ne {a n c p q : Nat} {μ : am_N} (h1 : ¬ (p = 98 ∧ c ≤ q ∧ q < c + n)) (h2 : ¬ (p = 83 ∧ q = 27)) : kq_s a n c μ p q = μ p q := by unfold kq_s; rw [if_neg h1, if_neg h2]
