theorem am_cnt_ne (t : Nat → Int) {i j m : Nat} (hi : i < m) (hj : j < m) (h : i ≠ j) : am_cnt t i m ≠ am_cnt t j m := by
  by_cases e : t i < t j ∨ (t i = t j ∧ i < j)
  · have q := am_cnt_m t i j e m
    rw [if_pos hi] at q
    omega
  · have q := am_cnt_m t j i (by omega) m
    rw [if_pos hj] at q
    omega
/-- each place is somebody's -/
theorem am_cnt_s (t : Nat → Int) {m : Nat} (hm : m ≤ 4) : ∀ p : Nat, p < m → ∃ i, i < m ∧ am_cnt t i m = p := by
  intro p hp
  rcases (show m = 1 ∨ m = 2 ∨ m = 3 ∨ m = 4 by omega) with rfl | rfl | rfl | rfl
  · exact ⟨0, by omega, by have := am_cnt_b t 0 1; have := am_cnt_l t 0 1 (by omega); omega⟩
  · have a0 := am_cnt_b t 0 2; have a1 := am_cnt_b t 1 2; have b0 := am_cnt_l t 0 2 (by omega); have b1 := am_cnt_l t 1 2 (by omega)
    have c01 := am_cnt_ne t (i := 0) (j := 1) (m := 2) (by omega) (by omega) (by decide)
    rcases (show am_cnt t 0 2 = p ∨ am_cnt t 1 2 = p by omega) with h | h
    · exact ⟨0, by omega, h⟩
    · exact ⟨1, by omega, h⟩
  · have a0 := am_cnt_b t 0 3; have a1 := am_cnt_b t 1 3; have a2 := am_cnt_b t 2 3; have b0 := am_cnt_l t 0 3 (by omega); have b1 := am_cnt_l t 1 3 (by omega); have b2 := am_cnt_l t 2 3 (by omega)
    have c01 := am_cnt_ne t (i := 0) (j := 1) (m := 3) (by omega) (by omega) (by decide)
    have c02 := am_cnt_ne t (i := 0) (j := 2) (m := 3) (by omega) (by omega) (by decide)
    have c12 := am_cnt_ne t (i := 1) (j := 2) (m := 3) (by omega) (by omega) (by decide)
    rcases (show am_cnt t 0 3 = p ∨ am_cnt t 1 3 = p ∨ am_cnt t 2 3 = p by omega) with h | h | h
    · exact ⟨0, by omega, h⟩
    · exact ⟨1, by omega, h⟩
    · exact ⟨2, by omega, h⟩
  · have a0 := am_cnt_b t 0 4; have a1 := am_cnt_b t 1 4; have a2 := am_cnt_b t 2 4; have a3 := am_cnt_b t 3 4; have b0 := am_cnt_l t 0 4 (by omega); have b1 := am_cnt_l t 1 4 (by omega); have b2 := am_cnt_l t 2 4 (by omega); have b3 := am_cnt_l t 3 4 (by omega)
    have c01 := am_cnt_ne t (i := 0) (j := 1) (m := 4) (by omega) (by omega) (by decide)
    have c02 := am_cnt_ne t (i := 0) (j := 2) (m := 4) (by omega) (by omega) (by decide)
    have c03 := am_cnt_ne t (i := 0) (j := 3) (m := 4) (by omega) (by omega) (by decide)
    have c12 := am_cnt_ne t (i := 1) (j := 2) (m := 4) (by omega) (by omega) (by decide)
    have c13 := am_cnt_ne t (i := 1) (j := 3) (m := 4) (by omega) (by omega) (by decide)
    have c23 := am_cnt_ne t (i := 2) (j := 3) (m := 4) (by omega) (by omega) (by decide)
    rcases (show am_cnt t 0 4 = p ∨ am_cnt t 1 4 = p ∨ am_cnt t 2 4 = p ∨ am_cnt t 3 4 = p by omega) with h | h | h | h
    · exact ⟨0, by omega, h⟩
    · exact ⟨1, by omega, h⟩
    · exact ⟨2, by omega, h⟩
    · exact ⟨3, by omega, h⟩
