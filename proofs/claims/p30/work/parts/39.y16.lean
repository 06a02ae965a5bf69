/-! two TEAMS -/
/-! who lets another win -/
theorem fv_tk {μ ν : am_N} (h0 : ∀ b : Nat, b < 5 → μ 8 b = ν 1 b) (h1 : ∀ a : Nat, 0 < a → a < 7 → ∀ b : Nat, b < 4 → μ (8 + a) b = ν (1 + a) b) : fv μ 8 = fv ν 1 := fp_ct_e (fun b hb => h0 b hb) (fun a b q1 q2 q3 => h1 a q1 q2 b q3)
/-! races in mind -/
theorem gm_runs {μ μ' : am_N} (h : mi μ) (f : ∀ a b, a ≠ 89 → a ≠ 90 → ¬(a = 83 ∧ b = 11) → a ≠ 99 → a ≠ 100 → μ' a b = μ a b) (p : sx_3 μ' 100) : gm mM μ μ' := by
  refine ⟨?_, fun a b q => f a b (fun z => by rw [z] at q; cases q) (fun z => by rw [z] at q; cases q) (fun z => by rw [z.1, z.2] at q; cases q) (fun z => by rw [z] at q; cases q) (fun z => by rw [z] at q; cases q)⟩
  unfold mi at h ⊢
  have e : ∀ a b, a = 98 ∨ (a = 83 ∧ b ≠ 11) → μ' a b = μ a b := fun a b q => f a b (by omega) (by omega) (by omega) (by omega) (by omega)
  rw [e 83 14 (by omega), e 83 15 (by omega), e 83 16 (by omega), e 83 21 (by omega), e 83 33 (by omega), e 83 40 (by omega), e 83 42 (by omega), e 98 44 (by omega), e 98 38 (by omega), e 98 39 (by omega)]
  exact ⟨h.1, h.2.1, h.2.2.1, h.2.2.2.1, h.2.2.2.2.1, h.2.2.2.2.2.1, h.2.2.2.2.2.2.1, h.2.2.2.2.2.2.2.1, h.2.2.2.2.2.2.2.2.1, h.2.2.2.2.2.2.2.2.2.1, p⟩
theorem gm_84 {A : Nat → Nat → Bool} {ν μ : am_N} (hA : ∀ b, A 84 b = true) (h : mi ν) (f : ∀ a b, a ≠ 84 → μ a b = ν a b) : gm A ν μ := ⟨(mi_84 h f).1, fun a b q => f a b (fun z => by rw [z, hA] at q; cases q)⟩
