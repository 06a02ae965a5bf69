/-! races in mind -/
theorem gm_84 {A : Nat → Nat → Bool} {ν μ : am_N} (hA : ∀ b, A 84 b = true) (h : mi ν) (f : ∀ a b, a ≠ 84 → μ a b = ν a b) : gm A ν μ := ⟨(mi_84 h f).1, fun a b q => f a b (fun z => by rw [z, hA] at q; cases q)⟩
