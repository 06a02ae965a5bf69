/-! two TEAMS -/
/-! who lets another win -/
theorem fp_orF : ∀ (x : Fin 16), am_or ((x : Nat) : Int) 0 = ((x : Nat) : Int) := by decide +kernel
theorem fp_or0 {x : Int} (h0 : 0 ≤ x) (h1 : x ≤ 15) : am_or x 0 = x := by
  have h := fp_orF ⟨x.toNat, by omega⟩
  simp only [Int.toNat_of_nonneg h0] at h
  exact h
theorem fp_orG : ∀ (x : Fin 16) (i : Fin 4), 0 ≤ am_or ((x : Nat) : Int) (am_shl 1 ((i : Nat) : Int)) ∧ am_or ((x : Nat) : Int) (am_shl 1 ((i : Nat) : Int)) ≤ 15 := by decide +kernel
theorem fp_or1 {x i : Int} (h0 : 0 ≤ x) (h1 : x ≤ 15) (i0 : 0 ≤ i) (i1 : i < 4) : 0 ≤ am_or x (am_shl 1 i) ∧ am_or x (am_shl 1 i) ≤ 15 := by
  have h := fp_orG ⟨x.toNat, by omega⟩ ⟨i.toNat, by omega⟩
  simp only [Int.toNat_of_nonneg h0, Int.toNat_of_nonneg i0] at h
  exact h
