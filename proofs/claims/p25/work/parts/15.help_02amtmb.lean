theorem am_tmb (x y : Int) : 0 ≤ x → 0 < y → (0 ≤ x.tmod y ∧ x.tmod y ≤ x ∧ 0 ≤ x.tdiv y ∧ x.tdiv y ≤ x) := fun hx hy => by
  rw [Int.tmod_eq_emod_of_nonneg hx, Int.tdiv_eq_ediv_of_nonneg hx]
  have h0 : 0 ≤ x / y := Int.ediv_nonneg hx (Int.le_of_lt hy)
  have h1 := Int.mul_nonneg (Int.le_of_lt hy) h0
  have h2 := Int.emod_def x y
  exact ⟨Int.emod_nonneg _ (by omega), by omega, h0, Int.ediv_le_self _ hx⟩
