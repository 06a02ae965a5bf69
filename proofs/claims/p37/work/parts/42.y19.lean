/-! a fraction in lowest terms -/
theorem fp_dR {z : Int} (h1 : -1000000000000 ≤ z) (h2 : z ≤ 1000000000000) : am_d z = z := by
  unfold am_d; omega
/-- what a comparison of longs tells -/
theorem fp_lcv (u v : Int) : (v < u ∧ am_c (if v < u then 1 else if u = v then 0 else -1) = 1) ∨ (u = v ∧ am_c (if v < u then 1 else if u = v then 0 else -1) = 0) ∨ (u < v ∧ am_c (if v < u then 1 else if u = v then 0 else -1) = -1) := by
  by_cases h : v < u
  · rw [if_pos h]; exact Or.inl ⟨h, rfl⟩
  · rw [if_neg h]
    by_cases g : u = v
    · rw [if_pos g]; exact Or.inr (Or.inl ⟨g, rfl⟩)
    · rw [if_neg g]; exact Or.inr (Or.inr ⟨by omega, rfl⟩)
theorem am_qd {Q : Option am_V → am_N → Prop} {μ : am_N} {x z : Int} (k : Q (some (.inr (.inl z))) μ) (h : x = z) : Q (some (.inr (.inl x))) μ := by rw [h]; exact k
