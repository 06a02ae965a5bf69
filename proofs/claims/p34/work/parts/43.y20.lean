/-! the first of the least -/
def fq_m (f : Nat → Int) : Nat → Nat
  | 0 => 0
  | k + 1 => if f (k + 1) < f (fq_m f k) then k + 1 else fq_m f k
theorem fq_m_l (f : Nat → Int) : ∀ k : Nat, fq_m f k ≤ k := by
  intro k
  induction k with
  | zero => exact Nat.le_refl _
  | succ k ih =>
    simp only [fq_m]
    split <;> omega
/-- a step: s stands for s tries made -/
theorem fq_m_s {f : Nat → Int} {s : Int} (h : 1 ≤ s) : fq_m f ((s + 1).toNat - 1) = if f s.toNat < f (fq_m f (s.toNat - 1)) then s.toNat else fq_m f (s.toNat - 1) := by
  rw [show (s + 1).toNat - 1 = (s.toNat - 1) + 1 by omega]
  simp only [fq_m]
  rw [show s.toNat - 1 + 1 = s.toNat by omega]
