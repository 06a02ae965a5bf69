theorem fw_M {W : Int} {μ : am_N} (h : fp_fw W (mv μ)) (hW : W ≤ 2000) : am_fM μ ∧ (0 ≤ μ 83 12 ∧ μ 83 12 ≤ 4) ∧ (1 ≤ μ 83 13 ∧ μ 83 13 ≤ 9) ∧ (∀ b : Nat, b < 4 → 0 ≤ μ 89 b ∧ μ 89 b ≤ 99) ∧ (20 ≤ μ 83 10 ∧ μ 83 10 ≤ 200) ∧ (0 ≤ μ 83 11 ∧ μ 83 11 ≤ W) ∧ ∀ i : Nat, (i : Int) < μ 83 14 → (0 ≤ μ 85 i ∧ μ 85 i ≤ 5) ∧ (0 ≤ μ 86 i ∧ μ 86 i ≤ 9) ∧ (5 ≤ μ 87 i ∧ μ 87 i ≤ 40) ∧ (0 ≤ μ 88 i ∧ μ 88 i ≤ 20) := by
  obtain ⟨h0, h1, h2, h3, h4, h5, h6⟩ := h
  rw [mv_0 (by decide)] at h0 h1 h2 h3 h4
  have h0 : 20 ≤ μ 83 10 ∧ μ 83 10 ≤ 200 := h0
  have h1 : 0 ≤ μ 83 11 ∧ μ 83 11 ≤ W := h1
  have h2 : 0 ≤ μ 83 12 ∧ μ 83 12 ≤ 4 := h2
  have h3 : 1 ≤ μ 83 13 ∧ μ 83 13 ≤ 9 := h3
  have h4 : 0 ≤ μ 83 14 ∧ μ 83 14 ≤ 4 := h4
  have h5' : ∀ b : Nat, b < 4 → 0 ≤ μ 89 b ∧ μ 89 b ≤ 99 := fun b hb => by
    have q := h5 b hb
    rwa [mv_a (by decide) hb] at q
  have h6' : ∀ i : Nat, (i : Int) < μ 83 14 → (0 ≤ μ 85 i ∧ μ 85 i ≤ 5) ∧ (0 ≤ μ 86 i ∧ μ 86 i ≤ 9) ∧ (5 ≤ μ 87 i ∧ μ 87 i ≤ 40) ∧ (0 ≤ μ 88 i ∧ μ 88 i ≤ 20) := fun i hi => by
    have q := h6 i (by rw [mv_0 (by decide)]; exact hi)
    have hb : i < 4 := by omega
    rwa [mv_a (by decide) hb, mv_a (by decide) hb, mv_a (by decide) hb, mv_a (by decide) hb] at q
  refine ⟨⟨h4, ⟨by omega, by omega⟩, fun i hi => ?_⟩, h2, h3, h5', h0, h1, h6'⟩
  have q := h6' i hi
  exact ⟨⟨q.2.2.1, q.2.1, q.1, by omega, by omega⟩, h5' i (by omega)⟩
