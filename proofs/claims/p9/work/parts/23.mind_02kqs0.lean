theorem kq_s0 {a c : Nat} {μ ν : am_N} {i : Int} (hi : i = 0) (h7 : ν 83 27 = (c : Int)) (h : ∀ p q, μ p q = ν p q) : ∀ p q, μ p q = kq_s a i.toNat c ν p q := fun p q => by
  subst hi
  unfold kq_s
  rw [if_neg (by simp only [Int.toNat_zero]; omega)]
  by_cases e : p = 83 ∧ q = 27
  · rw [if_pos e, h, e.1, e.2, h7]; rfl
  · rw [if_neg e, h]
