/-- all is kept in block w -/
def KPs (b : Nat) (ν μ : am_N) : Prop := (∀ k j o, kp_at k j = some o → μ 98 (b + o) = ν k j) ∧ ∀ p q, ¬ (p = 98 ∧ b ≤ q ∧ q < b + 45) → ¬ (p = 83 ∧ (q = 26 ∨ q = 27)) → μ p q = ν p q
/-- all comes back from block w -/
def KPl (b : Nat) (ν μ : am_N) : Prop := (∀ k j o, kp_at k j = some o → μ k j = ν 98 (b + o)) ∧ ∀ p q, kp_at p q = none → ¬ (p = 83 ∧ (q = 26 ∨ q = 27)) → μ p q = ν p q
theorem kp_no {p q : Nat} (h : kp_at p q = none) : ¬ ((85 ≤ p ∧ p ≤ 90) ∧ q < 4) ∧ ¬ (p = 91 ∧ q < 6) ∧ ¬ (p = 92 ∧ q < 4) ∧ ¬ (p = 93 ∧ q < 4) ∧ ¬ (p = 83 ∧ (q = 15 ∨ q = 16)) ∧ ¬ (p = 83 ∧ (10 ≤ q ∧ q ≤ 14)) := by
  unfold kp_at at h
  repeat' split at h
  all_goals first | (refine ⟨?_, ?_, ?_, ?_, ?_, ?_⟩ <;> assumption) | cases h
/-- scratch, with the row kept for races in mind -/
def mQ1 (k j : Nat) : Bool := (Nat.beq k 98 && Nat.ble 60 j) || (Nat.ble 85 k && (Nat.ble k 93 && Nat.ble (bif Nat.beq k 91 then 6 else 4) j))
abbrev mQ : Nat → Nat → Bool := mo ms mQ1
/-- what may change while races are run in mind -/
def mM1 (k j : Nat) : Bool := (Nat.ble 85 k && Nat.ble k 90) || (Nat.beq k 83 && (Nat.ble 10 j && Nat.ble j 14))
abbrev mM : Nat → Nat → Bool := mo ms mM1
theorem mM_ok {k j : Nat} (h : mM k j = true) (h2 : mQ k j = false) : ∃ o, kp_at k j = some o := by
  simp only [mo, mM1, mQ1, Bool.or_eq_true, Bool.and_eq_true, Nat.ble_eq, Nat.beq_eq, Bool.or_eq_false_iff, Bool.and_eq_false_iff] at h h2
  obtain ⟨h3, -, h4⟩ := h2
  rcases h with h | ⟨h5, h6⟩ | ⟨rfl, h5, h6⟩
  · rw [h] at h3; cases h3
  · refine ⟨4 * (k - 85) + j, if_pos ⟨⟨h5, h6⟩, ?_⟩⟩
    have e : Nat.beq k 91 = false := by
      cases q : Nat.beq k 91 with
      | false => rfl
      | true => have := Nat.eq_of_beq_eq_true q; omega
    rcases h4 with h4 | h4 | h4
    · have := Nat.ble_eq.mpr h5; rw [this] at h4; cases h4
    · have := Nat.ble_eq.mpr (show k ≤ 93 by omega); rw [this] at h4; cases h4
    · rw [e] at h4
      simp only [cond_false] at h4
      rcases Nat.lt_or_ge j 4 with q | q
      · exact q
      · have := Nat.ble_eq.mpr q; rw [this] at h4; cases h4
  · refine ⟨30 + j, ?_⟩
    unfold kp_at
    rw [if_neg (by omega), if_neg (by omega), if_neg (by omega), if_neg (by omega), if_neg (by omega), if_pos ⟨rfl, h5, h6⟩]
