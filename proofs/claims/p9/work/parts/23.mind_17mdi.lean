theorem md_i {A : Nat → Nat → Bool} {ν μ : am_N} (h : MD A ν μ) : mi μ := by
  obtain ⟨_, _, _, _, h⟩ := h
  exact h.1
