/-! needed -/
theorem fp_al2_e {n : Int} (h0 : 0 ≤ n) (h1 : n ≤ 4) : ∃ t : Nat, am_shl 1 (2 * n) = ((2 ^ t : Nat) : Int) ∧ t ≤ 12 := by
  rcases (show n = 0 ∨ n = 1 ∨ n = 2 ∨ n = 3 ∨ n = 4 by omega) with rfl | rfl | rfl | rfl | rfl
  · exact ⟨0, by decide +kernel, by decide⟩
  · exact ⟨2, by decide +kernel, by decide⟩
  · exact ⟨4, by decide +kernel, by decide⟩
  · exact ⟨6, by decide +kernel, by decide⟩
  · exact ⟨8, by decide +kernel, by decide⟩
