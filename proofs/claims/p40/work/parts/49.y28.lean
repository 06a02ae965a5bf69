/-! two rows put: in how many of sixteen the one is ahead -/
theorem fp_cr_0 {L N H : Nat → Int} {m t s u r : Int} (hm : m = 2) (a0 : L 0 = fp_pt t s 0) (a1 : N 0 = t) (a2 : H 0 = t + s) (b0 : L 1 = fp_pt u r 0) (b1 : N 1 = u) (b2 : H 1 = u + r) : fp_wy L N H m.toNat 0 = fp_aw 0 t s u r := by
  rw [hm]
  show fp_wy L N H 2 0 = _
  rw [fp_wy_20, a0, a1, a2, b0, b1, b2]
  unfold fp_aw
  simp only [Int.add_zero]
theorem fp_cr_1 {L N H : Nat → Int} {m t s u r : Int} (hm : m = 2) (a0 : L 1 = fp_pt t s 0) (a1 : N 1 = t) (a2 : H 1 = t + s) (b0 : L 0 = fp_pt u r 0) (b1 : N 0 = u) (b2 : H 0 = u + r) : fp_wy L N H m.toNat 1 = fp_aw 1 t s u r := by
  rw [hm]
  show fp_wy L N H 2 1 = _
  rw [fp_wy_21, a0, a1, a2, b0, b1, b2]
  rfl
theorem fp_cr_b {L N H : Nat → Int} {m t s u r : Int} (hm : m = 2) (t0 : 1 ≤ t) (t1 : t ≤ 100000) (s0 : 0 ≤ s) (s1 : s ≤ 20) (u0 : 1 ≤ u) (u1 : u ≤ 100000) (r0 : 0 ≤ r) (r1 : r ≤ 20) (a0 : L 0 = fp_pt t s 0) (a1 : N 0 = t) (a2 : H 0 = t + s) (b0 : L 1 = fp_pt u r 0) (b1 : N 1 = u) (b2 : H 1 = u + r) : ∀ j : Nat, (j : Int) < m → (0 ≤ L j ∧ L j ≤ 200000) ∧ (0 ≤ N j ∧ N j ≤ 200000) ∧ (0 ≤ H j ∧ H j ≤ 200000) := fun j hj => by
  have x := fp_pt_b (t := t) (s := s) (q := 0) t0 t1 s0 s1
  have y := fp_pt_b (t := u) (s := r) (q := 0) u0 u1 r0 r1
  rcases (show j = 0 ∨ j = 1 by rw [hm] at hj; omega) with rfl | rfl
  · rw [a0, a1, a2]; omega
  · rw [b0, b1, b2]; omega
/-! bags -/
