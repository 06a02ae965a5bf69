theorem md_tr {A B : Nat → Nat → Bool} {ν μ μ' : am_N} (h : MD A ν μ) (h2 : gm B μ μ') (hs : ∀ k j, mM k j = false → B k j = false) : MD A ν μ' := by
  obtain ⟨a, b, h3, h4, h5⟩ := h
  exact ⟨a, b, h3, h4, gm_tr h5 h2 hs⟩
