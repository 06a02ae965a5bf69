theorem am_t99 (x : Int) : 5 ≤ x → x ≤ 50 → (1 ≤ (am_c 99).tdiv x ∧ (am_c 99).tdiv x ≤ 19) := fun h1 h2 => by
  obtain ⟨n, rfl⟩ := Int.eq_ofNat_of_zero_le (show 0 ≤ x by omega)
  rw [show am_c 99 = 99 by decide]
  exact am_t99n n (by omega) (by omega)
