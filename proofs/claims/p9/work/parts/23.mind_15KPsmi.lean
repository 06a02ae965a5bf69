/-- races in mind: all was kept, then only what may change did -/
def MD (A : Nat → Nat → Bool) (ν μ : am_N) : Prop := ∃ μ0 μ1, gm A ν μ0 ∧ (mi μ1 ∧ KPs 60 μ0 μ1) ∧ gm mM μ1 μ
theorem KPs_mi {ν μ : am_N} (h : mi ν) (hk : KPs 60 ν μ) : mi μ := by
  have e : ∀ p q, ¬ (p = 98 ∧ 60 ≤ q ∧ q < 60 + 45) → ¬ (p = 83 ∧ (q = 26 ∨ q = 27)) → μ p q = ν p q := hk.2
  unfold mi at h ⊢
  rw [e 83 14 (by omega) (by omega), e 83 15 (by omega) (by omega), e 83 16 (by omega) (by omega), e 83 21 (by omega) (by omega), e 83 33 (by omega) (by omega), e 83 40 (by omega) (by omega), e 83 42 (by omega) (by omega), e 98 44 (by omega) (by omega), e 98 38 (by omega) (by omega), e 98 39 (by omega) (by omega)]
  refine ⟨h.1, h.2.1, h.2.2.1, h.2.2.2.1, h.2.2.2.2.1, h.2.2.2.2.2.1, h.2.2.2.2.2.2.1, h.2.2.2.2.2.2.2.1, h.2.2.2.2.2.2.2.2.1, h.2.2.2.2.2.2.2.2.2.1, fun p hp => ?_⟩
  rw [e 100 p (by omega) (by omega)]
  exact h.2.2.2.2.2.2.2.2.2.2 p hp
