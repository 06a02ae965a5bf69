theorem gm_15 {A : Nat → Nat → Bool} {ν μ : am_N} {v : Int} (h : gm A ν μ) (hA : A 83 15 = true) (h0 : 0 ≤ v) (h1 : v ≤ 6) : gm A ν (am_up μ 83 15 v) := ⟨mi_15 h.1 h0 h1, fun a b q => by
  rw [am_upE (fun z => by rw [z.1, z.2, hA] at q; cases q)]
  exact h.2 a b q⟩
theorem mi_16 {μ : am_N} {v : Int} (h : mi μ) (h0 : 0 ≤ v) (h1 : v ≤ 4) : mi (am_up μ 83 16 v) := by
  have e : ∀ a b, (a ≠ 83 ∨ b ≠ 16) → am_up μ 83 16 v a b = μ a b := fun a b q => am_upE (fun z => q.elim (fun w => w z.1) (fun w => w z.2))
  have f : am_up μ 83 16 v 83 16 = v := if_pos ⟨rfl, rfl⟩
  unfold mi at h ⊢
  rw [e 83 14 (Or.inr (by decide)), e 83 15 (Or.inr (by decide)), f, e 83 21 (Or.inr (by decide)), e 83 33 (Or.inr (by decide)), e 83 40 (Or.inr (by decide)), e 83 42 (Or.inr (by decide)), e 98 44 (Or.inl (by decide)), e 98 38 (Or.inl (by decide)), e 98 39 (Or.inl (by decide))]
  have g : sx_3 (am_up μ 83 16 v) 100 := fun p hp => by
    rw [e 100 p (Or.inl (by decide))]
    exact h.2.2.2.2.2.2.2.2.2.2 p hp
  refine ⟨?_, ?_, ?_, ?_, ?_, ?_, ?_, h.2.2.2.2.2.2.2.1, h.2.2.2.2.2.2.2.2.1, h.2.2.2.2.2.2.2.2.2.1, g⟩ <;> first | exact ⟨h0, h1⟩ | exact h.1 | exact h.2.1 | exact h.2.2.1 | exact h.2.2.2.1 | exact h.2.2.2.2.1 | exact h.2.2.2.2.2.1 | exact h.2.2.2.2.2.2.1
