/-- the place of a number among those kept -/
def kp_at (k j : Nat) : Option Nat :=
  if (85 ≤ k ∧ k ≤ 90) ∧ j < 4 then some (4 * (k - 85) + j) else if k = 91 ∧ j < 6 then some (24 + j) else if k = 92 ∧ j < 4 then some (30 + j) else if k = 93 ∧ j < 4 then some (34 + j) else if k = 83 ∧ (j = 15 ∨ j = 16) then some (23 + j) else if k = 83 ∧ (10 ≤ j ∧ j ≤ 14) then some (30 + j) else none
theorem kp_lt {k j o : Nat} (h : kp_at k j = some o) : o < 45 := by
  unfold kp_at at h
  repeat' split at h
  all_goals first | (cases h; omega) | cases h
