theorem kq_n {F : Nat → am_N} {μ : am_N} {i : Int} {n : Nat} (h : ∀ p q, μ p q = F i.toNat p q) (e : i = (n : Int)) : ∀ p q, μ p q = F n p q := by
  subst e
  exact h
