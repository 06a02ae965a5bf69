theorem mQ_98 {j : Nat} (h : mQ 98 j = false) : j < 60 := by
  rcases Nat.lt_or_ge j 60 with q | q
  · exact q
  · have e := Nat.ble_eq.mpr q
    simp only [mo, mQ1, Bool.or_eq_false_iff, Bool.and_eq_false_iff] at h
    rcases h.2.1 with h | h
    · cases h
    · rw [e] at h; cases h
