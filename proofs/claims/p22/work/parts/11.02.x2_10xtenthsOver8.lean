theorem x_tenthsOver_8 {l : Launch} {ν : am_N} {Q : Option am_V → am_N → Prop} (i y s : Int) (hi0 : 0 ≤ i) (hi1 : i < ν 8 4) (hn : ν 8 4 ≤ 4) (hr : am_rg (ν 11 i.toNat) (ν 10 i.toNat) (ν 9 i.toNat) (ν 8 1)) (y0 : -1000 ≤ y) (y1 : y ≤ 1000) (s0 : -1000 ≤ s) (s1 : s ≤ 1000) (k : Q (some (.inl (am_T (ν 11 i.toNat) (ν 10 i.toNat) (ν 9 i.toNat) (ν 8 1) (am_y y) s))) ν) : am_Does l 10 [.inr (.inr 8), .inl i, .inl y, .inl s] ν Q := by
  obtain ⟨⟨p0, p1⟩, ⟨f0, f1⟩, ⟨k0, k1⟩, ⟨w0, w1⟩⟩ := hr
  rcases (show ν 9 i.toNat = 0 ∨ ν 9 i.toNat = 1 ∨ ν 9 i.toNat = 2 ∨ ν 9 i.toNat = 3 ∨ ν 9 i.toNat = 4 ∨ ν 9 i.toNat = 5 by omega) with e | e | e | e | e | e
  · rw [e] at k; exact x_tenthsOver_8_0 i y s _ _ _ hi0 hi1 hn rfl rfl e rfl p0 p1 f0 f1 w0 w1 y0 y1 s0 s1 k
  · rw [e] at k; exact x_tenthsOver_8_1 i y s _ _ _ hi0 hi1 hn rfl rfl e rfl p0 p1 f0 f1 w0 w1 y0 y1 s0 s1 k
  · rw [e] at k; exact x_tenthsOver_8_2 i y s _ _ _ hi0 hi1 hn rfl rfl e rfl p0 p1 f0 f1 w0 w1 y0 y1 s0 s1 k
  · rw [e] at k; exact x_tenthsOver_8_3 i y s _ _ _ hi0 hi1 hn rfl rfl e rfl p0 p1 f0 f1 w0 w1 y0 y1 s0 s1 k
  · rw [e] at k; exact x_tenthsOver_8_4 i y s _ _ _ hi0 hi1 hn rfl rfl e rfl p0 p1 f0 f1 w0 w1 y0 y1 s0 s1 k
  · rw [e] at k; exact x_tenthsOver_8_5 i y s _ _ _ hi0 hi1 hn rfl rfl e rfl p0 p1 f0 f1 w0 w1 y0 y1 s0 s1 k
