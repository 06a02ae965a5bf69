/-! races by seeds -/
theorem sx_sd {ν μ : am_N} (hS : sx ν ν) (f : ∀ a b, ¬(8 ≤ a ∧ a < 22) → ¬(30 ≤ a ∧ a ≤ 34) → ¬(a = 29 ∧ b = 0) → a ≠ 78 → μ a b = ν a b) (h34 : sx_3 μ 34) (h8 : 0 ≤ μ 8 4 ∧ μ 8 4 ≤ 4) (h15 : 0 ≤ μ 15 4 ∧ μ 15 4 ≤ 4) (h29 : 0 ≤ μ 29 0 ∧ μ 29 0 ≤ 4) : sx ν μ := by
  have p : ∀ a, sx_p a = true → ¬(8 ≤ a ∧ a < 22) ∧ ¬(30 ≤ a ∧ a ≤ 34) ∧ a ≠ 29 ∧ a ≠ 78 := fun a ha => by
    refine ⟨fun y => ?_, fun y => sx_p30 ha (by omega), fun y => sx_p30 ha (by omega), fun y => ?_⟩
    · rcases (show a = 8 ∨ a = 9 ∨ a = 10 ∨ a = 11 ∨ a = 12 ∨ a = 13 ∨ a = 14 ∨ (15 ≤ a ∧ a < 22) by omega) with rfl | rfl | rfl | rfl | rfl | rfl | rfl | x
      all_goals first | cases ha | exact sx_p15 ha x
    · rw [y] at ha; cases ha
  refine ⟨fun a b ha => f a b (p a ha).1 (p a ha).2.1 (fun x => (p a ha).2.2.1 x.1) (p a ha).2.2.2, h34, fun q hq => ?_, ⟨h8, h15, h29, ?_⟩, hS.2.2.2.2⟩
  · rw [f 43 q (by omega) (by omega) (by omega) (by omega)]; exact hS.2.2.1 q hq
  · rw [f 38 0 (by omega) (by omega) (by omega) (by omega)]; exact hS.2.2.2.1.2.2.2
