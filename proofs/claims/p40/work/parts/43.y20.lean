/-! the first of the least -/
theorem sx_rk {ν μ : am_N} (hS : sx ν ν) (f : ∀ a b, ¬(15 ≤ a ∧ a < 22) → ¬(30 ≤ a ∧ a ≤ 34) → ¬(a = 29 ∧ b = 0) → a ≠ 78 → μ a b = ν a b) (h15 : 0 ≤ μ 15 4 ∧ μ 15 4 ≤ 4) (h29 : 0 ≤ μ 29 0 ∧ μ 29 0 ≤ 4) (h34 : sx_3 μ 34) : sx ν μ := by
  refine ⟨fun a b ha => f a b (sx_p15 ha) (fun z => sx_p30 ha (by omega)) (fun z => sx_p30 ha (by omega)) (fun z => by rw [z] at ha; cases ha), h34, fun p hp => ?_, ⟨?_, h15, h29, ?_⟩, hS.2.2.2.2⟩
  · rw [f 43 p (by omega) (by omega) (by omega) (by omega)]; exact hS.2.2.1 p hp
  · rw [f 8 4 (by omega) (by omega) (by omega) (by omega)]; exact hS.2.2.2.1.1
  · rw [f 38 0 (by omega) (by omega) (by omega) (by omega)]; exact hS.2.2.2.1.2.2.2
