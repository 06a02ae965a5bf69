theorem md_up {A : Nat → Nat → Bool} {ν μ : am_N} {k j : Nat} {v : Int} (h : MD A ν μ) (hA : mM k j = true) (hk : mi_b k j = false) : MD A ν (am_up μ k j v) := by
  obtain ⟨a, b, h3, h4, h5⟩ := h
  exact ⟨a, b, h3, h4, gm_up h5 hA hk⟩
