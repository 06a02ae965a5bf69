/-! cups -/
theorem fq_x_l (f : Nat → Int) : ∀ k : Nat, fq_x f k ≤ k := by
  intro k
  induction k with
  | zero => exact Nat.le_refl _
  | succ k ih =>
    simp only [fq_x]
    split <;> omega
theorem fq_x_s {f : Nat → Int} {s : Int} (h : 1 ≤ s) : fq_x f ((s + 1).toNat - 1) = if f (fq_x f (s.toNat - 1)) < f s.toNat then s.toNat else fq_x f (s.toNat - 1) := by
  rw [show (s + 1).toNat - 1 = (s.toNat - 1) + 1 by omega]
  simp only [fq_x]
  rw [show s.toNat - 1 + 1 = s.toNat by omega]
