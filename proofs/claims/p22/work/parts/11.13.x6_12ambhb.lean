/-! the reading of a LANE -/
/-- the letter at a place, -1 if there is none -/
def am_nx (t : Nat → Int) (n q : Int) : Int := if 0 ≤ q ∧ q < n then t q.toNat else -1
def am_dt (t : Nat → Int) (n q : Int) : Int := if 48 ≤ am_nx t n q ∧ am_nx t n q ≤ 57 then am_nx t n q - 48 else -1
/-- the place behind m digits at most -/
def am_dn (t : Nat → Int) (n : Int) : Nat → Int → Int
  | 0, q => q
  | m + 1, q => if 0 ≤ am_dt t n q then am_dn t n m (q + 1) else q
/-- the number that m digits at most tell -/
def am_dv (t : Nat → Int) (n : Int) : Nat → Int → Int → Int
  | 0, _, v => v
  | m + 1, q, v => if 0 ≤ am_dt t n q then am_dv t n m (q + 1) (10 * v + am_dt t n q) else v
def am_ld (c : Int) : Int := if c = 119 then 3 else if c = 114 then 8 else if c = 109 then 2 else if c = 115 then 3 else if c = 103 then 0 else -1
def am_ls (c : Int) : Int := if c = 119 then 1 else am_ld c
/-- the place behind the STATEMENT at p, or -1 less the place of the fault -/
def am_bh (t : Nat → Int) (n p : Int) : Int :=
  if am_ld (am_nx t n p) < 0 then -1 - p
  else if am_dn t n (am_ld (am_nx t n p)).toNat (p + 1) - p - 1 < am_ls (am_nx t n p) ∨ am_nx t n (am_dn t n (am_ld (am_nx t n p)).toNat (p + 1)) ≠ 59 then -1 - am_dn t n (am_ld (am_nx t n p)).toNat (p + 1)
  else am_dn t n (am_ld (am_nx t n p)).toNat (p + 1) + 1
theorem am_dt_b (t : Nat → Int) (n q : Int) : -1 ≤ am_dt t n q ∧ am_dt t n q ≤ 9 := by
  unfold am_dt; split <;> omega
theorem am_dn_b (t : Nat → Int) (n : Int) : ∀ (m : Nat) (q : Int), q ≤ am_dn t n m q ∧ am_dn t n m q ≤ q + m
  | 0, q => ⟨Int.le_refl _, by simp [am_dn]⟩
  | m + 1, q => by
    simp only [am_dn]
    split
    · have h := am_dn_b t n m (q + 1); omega
    · omega
/-- digits lie before the end -/
theorem am_dn_n (t : Nat → Int) (n : Int) : ∀ (m : Nat) (q : Int), q ≤ n → am_dn t n m q ≤ n
  | 0, q, h => h
  | m + 1, q, h => by
    simp only [am_dn]
    split
    · next e =>
      have : q < n := by
        unfold am_dt am_nx at e
        split at e <;> (split at e <;> omega)
      exact am_dn_n t n m (q + 1) (by omega)
    · exact h
theorem am_dn_p {t : Nat → Int} {n q : Int} (m : Nat) (h : 0 ≤ am_dt t n q) : am_dn t n (m + 1) q = am_dn t n m (q + 1) := if_pos h
theorem am_dn_q {t : Nat → Int} {n q : Int} (m : Nat) (h : ¬0 ≤ am_dt t n q) : am_dn t n (m + 1) q = q := if_neg h
theorem am_dn_add (t : Nat → Int) (n : Int) (b : Nat) : ∀ (a : Nat) (q : Int), am_dn t n (a + b) q = if am_dn t n a q = q + a then am_dn t n b (q + a) else am_dn t n a q
  | 0, q => by simp [am_dn]
  | a + 1, q => by
    rw [show a + 1 + b = (a + b) + 1 by omega]
    by_cases e : 0 ≤ am_dt t n q
    · have p := am_dn_p a e
      rw [am_dn_p (a + b) e, am_dn_add t n b a (q + 1)]
      by_cases f : am_dn t n a (q + 1) = q + 1 + a
      · rw [if_pos f, if_pos (by omega), show q + ((a + 1 : Nat) : Int) = q + 1 + a by omega]
      · rw [if_neg f, if_neg (by omega), p]
    · have p := am_dn_q a e
      rw [am_dn_q (a + b) e, if_neg (by omega), p]
/-- all m are digits -/
theorem am_dn_d (t : Nat → Int) (n : Int) : ∀ (m : Nat) (q : Int), am_dn t n m q = q + m → ∀ i : Nat, i < m → 0 ≤ am_dt t n (q + i)
  | 0, _, _, i, hi => absurd hi (Nat.not_lt_zero _)
  | m + 1, q, h, i, hi => by
    simp only [am_dn] at h
    by_cases e : 0 ≤ am_dt t n q
    · rw [if_pos e] at h
      cases i with
      | zero => simpa using e
      | succ i =>
        have z := am_dn_d t n m (q + 1) (by omega) i (by omega)
        rw [show q + ((i + 1 : Nat) : Int) = q + 1 + i by omega]
        exact z
    · rw [if_neg e] at h
      omega
theorem am_dv_b (t : Nat → Int) (n : Int) : ∀ (m : Nat) (q v : Int), 0 ≤ v → v ≤ am_dv t n m q v ∧ am_dv t n m q v ≤ (v + 1) * 10 ^ m - 1
  | 0, q, v, h => by simp [am_dv]
  | m + 1, q, v, h => by
    simp only [am_dv]
    have hp : (1 : Int) ≤ 10 ^ m := Int.pow_pos (m := m) (by decide)
    have hd := am_dt_b t n q
    split
    · have z := am_dv_b t n m (q + 1) (10 * v + am_dt t n q) (by omega)
      refine ⟨by omega, Int.le_trans z.2 ?_⟩
      have y : (10 * v + am_dt t n q + 1) * 10 ^ m ≤ ((v + 1) * 10) * 10 ^ m := Int.mul_le_mul_of_nonneg_right (by omega) (by omega)
      rw [Int.pow_succ, Int.mul_comm (10 ^ m) 10, ← Int.mul_assoc]
      omega
    · refine ⟨Int.le_refl _, ?_⟩
      have y : (v + 1) * 1 ≤ (v + 1) * 10 ^ (m + 1) := Int.mul_le_mul_of_nonneg_left (Int.pow_pos (m := m + 1) (by decide)) (by omega)
      omega
theorem am_dv_2 (t : Nat → Int) (n q : Int) (h0 : 0 ≤ am_dt t n q) (h1 : 0 ≤ am_dt t n (q + 1)) : am_dv t n 2 q 0 = 10 * am_dt t n q + am_dt t n (q + 1) := by
  simp only [am_dv]
  rw [if_pos h0, if_pos h1]
  omega
theorem am_dv_1 (t : Nat → Int) (n q : Int) (h0 : 0 ≤ am_dt t n q) : am_dv t n 1 q 0 = am_dt t n q := by
  simp only [am_dv]
  rw [if_pos h0]
  omega
/-- a STATEMENT ends behind its place, and within the letters -/
theorem am_bh_b (t : Nat → Int) (n p : Int) (h0 : 0 ≤ p) (h1 : p ≤ n) : (0 ≤ am_bh t n p → p + 1 < am_bh t n p ∧ am_bh t n p ≤ n) ∧ (am_bh t n p < 0 → p ≤ -1 - am_bh t n p ∧ -1 - am_bh t n p ≤ n) := by
  unfold am_bh
  split
  · omega
  · next e0 =>
    have hp : p < n := by
      by_cases h : p < n
      · exact h
      · exact absurd (by rw [show am_nx t n p = -1 from if_neg (by omega)]; decide) e0
    have b := am_dn_b t n (am_ld (am_nx t n p)).toNat (p + 1)
    have c := am_dn_n t n (am_ld (am_nx t n p)).toNat (p + 1) (by omega)
    split
    · omega
    · next e =>
      have f : am_nx t n (am_dn t n (am_ld (am_nx t n p)).toNat (p + 1)) = 59 := by
        by_cases g : am_nx t n (am_dn t n (am_ld (am_nx t n p)).toNat (p + 1)) = 59
        · exact g
        · exact absurd (Or.inr g) e
      have g : am_dn t n (am_ld (am_nx t n p)).toNat (p + 1) < n := by
        by_cases h : am_dn t n (am_ld (am_nx t n p)).toNat (p + 1) < n
        · exact h
        · rw [show am_nx t n (am_dn t n (am_ld (am_nx t n p)).toNat (p + 1)) = -1 from if_neg (by omega)] at f
          omega
      omega
