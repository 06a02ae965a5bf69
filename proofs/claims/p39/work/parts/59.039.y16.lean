/-! needed -/
theorem fv_tk {μ ν : am_N} (h0 : ∀ b : Nat, b < 5 → μ 8 b = ν 1 b) (h1 : ∀ a : Nat, 0 < a → a < 7 → ∀ b : Nat, b < 4 → μ (8 + a) b = ν (1 + a) b) : fv μ 8 = fv ν 1 := fp_ct_e (fun b hb => h0 b hb) (fun a b q1 q2 q3 => h1 a q1 q2 b q3)
theorem sx_lt {ν μ : am_N} (hS : sx ν ν) (f : ∀ a b, ¬(8 ≤ a ∧ a < 15) → a ≠ 33 → a ≠ 34 → ¬(a = 29 ∧ b = 0) → a ≠ 78 → μ a b = ν a b) (h34 : sx_3 μ 34) (h8 : 0 ≤ μ 8 4 ∧ μ 8 4 ≤ 4) (h29 : 0 ≤ μ 29 0 ∧ μ 29 0 ≤ 4) : sx ν μ := by
  have p : ∀ a, sx_p a = true → ¬(8 ≤ a ∧ a < 15) ∧ a ≠ 33 ∧ a ≠ 34 ∧ a ≠ 29 ∧ a ≠ 78 := fun a ha => by
    refine ⟨fun z => ?_, fun z => ?_, fun z => ?_, fun z => ?_, fun z => ?_⟩
    · rcases (show a = 8 ∨ a = 9 ∨ a = 10 ∨ a = 11 ∨ a = 12 ∨ a = 13 ∨ a = 14 by omega) with rfl | rfl | rfl | rfl | rfl | rfl | rfl <;> cases ha
    all_goals (rw [z] at ha; cases ha)
  refine ⟨fun a b ha => f a b (p a ha).1 (p a ha).2.1 (p a ha).2.2.1 (fun z => (p a ha).2.2.2.1 z.1) (p a ha).2.2.2.2, h34, fun q hq => ?_, ⟨h8, ?_, h29, ?_⟩, hS.2.2.2.2⟩
  · rw [f 43 q (by omega) (by omega) (by omega) (by omega) (by omega)]; exact hS.2.2.1 q hq
  · rw [f 15 4 (by omega) (by omega) (by omega) (by omega) (by omega)]; exact hS.2.2.2.1.2.1
  · rw [f 38 0 (by omega) (by omega) (by omega) (by omega) (by omega)]; exact hS.2.2.2.1.2.2.2
