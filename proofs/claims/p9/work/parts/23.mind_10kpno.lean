/-- all is kept in block w -/
def KPs (b : Nat) (ν μ : am_N) : Prop := (∀ k j o, kp_at k j = some o → μ 98 (b + o) = ν k j) ∧ ∀ p q, ¬ (p = 98 ∧ b ≤ q ∧ q < b + 45) → ¬ (p = 83 ∧ (q = 26 ∨ q = 27)) → μ p q = ν p q
/-- all comes back from block w -/
def KPl (b : Nat) (ν μ : am_N) : Prop := (∀ k j o, kp_at k j = some o → μ k j = ν 98 (b + o)) ∧ ∀ p q, kp_at p q = none → ¬ (p = 83 ∧ (q = 26 ∨ q = 27)) → μ p q = ν p q
theorem kp_no {p q : Nat} (h : kp_at p q = none) : ¬ ((85 ≤ p ∧ p ≤ 90) ∧ q < 4) ∧ ¬ (p = 91 ∧ q < 6) ∧ ¬ (p = 92 ∧ q < 4) ∧ ¬ (p = 93 ∧ q < 4) ∧ ¬ (p = 83 ∧ (q = 15 ∨ q = 16)) ∧ ¬ (p = 83 ∧ (10 ≤ q ∧ q ≤ 14)) := by
  unfold kp_at at h
  repeat' split at h
  all_goals first | (refine ⟨?_, ?_, ?_, ?_, ?_, ?_⟩ <;> assumption) | cases h
