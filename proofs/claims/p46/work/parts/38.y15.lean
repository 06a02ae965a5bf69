/-! two alone: in how many of sixteen the one is ahead -/
theorem sx_p15 {a : Nat} (h : sx_p a = true) : ¬(15 ≤ a ∧ a < 22) := fun z => by
  rcases (show a = 15 ∨ a = 16 ∨ a = 17 ∨ a = 18 ∨ a = 19 ∨ a = 20 ∨ a = 21 by omega) with rfl | rfl | rfl | rfl | rfl | rfl | rfl <;> cases h
theorem sx_p30 {a : Nat} (h : sx_p a = true) : ¬(29 ≤ a ∧ a ≤ 34) := fun z => by
  rcases (show a = 29 ∨ a = 30 ∨ a = 31 ∨ a = 32 ∨ a = 33 ∨ a = 34 by omega) with rfl | rfl | rfl | rfl | rfl | rfl <;> cases h
theorem sx_ad {ν μ : am_N} (hS : sx ν ν) (f : ∀ a b, ¬(15 ≤ a ∧ a < 22) → ¬(30 ≤ a ∧ a ≤ 32) → ¬(a = 29 ∧ b = 0) → a ≠ 78 → μ a b = ν a b) (h15 : 0 ≤ μ 15 4 ∧ μ 15 4 ≤ 4) (h29 : 0 ≤ μ 29 0 ∧ μ 29 0 ≤ 4) : sx ν μ := by
  refine ⟨fun a b ha => f a b (sx_p15 ha) (fun z => sx_p30 ha (by omega)) (fun z => sx_p30 ha (by omega)) (fun z => by rw [z] at ha; cases ha), fun p hp => ?_, fun p hp => ?_, ⟨?_, h15, h29, ?_⟩, hS.2.2.2.2⟩
  · rw [f 34 p (by omega) (by omega) (by omega) (by omega)]; exact hS.2.1 p hp
  · rw [f 43 p (by omega) (by omega) (by omega) (by omega)]; exact hS.2.2.1 p hp
  · rw [f 8 4 (by omega) (by omega) (by omega) (by omega)]; exact hS.2.2.2.1.1
  · rw [f 38 0 (by omega) (by omega) (by omega) (by omega)]; exact hS.2.2.2.1.2.2.2
theorem sx_78 {ν μ : am_N} (hS : sx ν ν) (f : ∀ a b, a ≠ 78 → μ a b = ν a b) : sx ν μ := sx_ad hS (fun a b _ _ _ h => f a b h) (by rw [f 15 4 (by decide)]; exact hS.2.2.2.1.2.1) (by rw [f 29 0 (by decide)]; exact hS.2.2.2.1.2.2.1)
theorem mi_84 {ν μ : am_N} (h : mi ν) (f : ∀ a b, a ≠ 84 → μ a b = ν a b) : gm ms ν μ := by
  refine ⟨?_, fun a b q => f a b (fun z => by rw [z] at q; cases q)⟩
  unfold mi at h ⊢
  rw [f 83 14 (by decide), f 83 15 (by decide), f 83 16 (by decide), f 83 21 (by decide), f 83 33 (by decide), f 83 40 (by decide), f 83 42 (by decide), f 98 44 (by decide), f 98 38 (by decide), f 98 39 (by decide)]
  refine ⟨h.1, h.2.1, h.2.2.1, h.2.2.2.1, h.2.2.2.2.1, h.2.2.2.2.2.1, h.2.2.2.2.2.2.1, h.2.2.2.2.2.2.2.1, h.2.2.2.2.2.2.2.2.1, h.2.2.2.2.2.2.2.2.2.1, fun p hp => ?_⟩
  rw [f 100 p (by decide)]
  exact h.2.2.2.2.2.2.2.2.2.2 p hp
