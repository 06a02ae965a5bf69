theorem x_timeOver {l : Launch} {ν : am_N} {Q : Option am_V → am_N → Prop} (i y s : Int) (hi0 : 0 ≤ i) (hi1 : i < ν 83 14) (hn : ν 83 14 ≤ 4) (hr : am_rg (ν 87 i.toNat) (ν 86 i.toNat) (ν 85 i.toNat) (ν 83 11)) (y0 : -1000 ≤ y) (y1 : y ≤ 1000) (s0 : -1000 ≤ s) (s1 : s ≤ 1000) (k : Q (some (.inl (am_T (ν 87 i.toNat) (ν 86 i.toNat) (ν 85 i.toNat) (ν 83 11) (am_y y) s))) ν) : am_Does l 162 [.inr (.inr 83), .inl i, .inl y, .inl s] ν Q := by
  obtain ⟨⟨p0, p1⟩, ⟨f0, f1⟩, ⟨k0, k1⟩, ⟨w0, w1⟩⟩ := hr
  rcases (show ν 85 i.toNat = 0 ∨ ν 85 i.toNat = 1 ∨ ν 85 i.toNat = 2 ∨ ν 85 i.toNat = 3 ∨ ν 85 i.toNat = 4 ∨ ν 85 i.toNat = 5 by omega) with e | e | e | e | e | e
  · rw [e] at k; exact x_timeOver_0 i y s _ _ _ hi0 hi1 hn rfl rfl e rfl p0 p1 f0 f1 w0 w1 y0 y1 s0 s1 k
  · rw [e] at k; exact x_timeOver_1 i y s _ _ _ hi0 hi1 hn rfl rfl e rfl p0 p1 f0 f1 w0 w1 y0 y1 s0 s1 k
  · rw [e] at k; exact x_timeOver_2 i y s _ _ _ hi0 hi1 hn rfl rfl e rfl p0 p1 f0 f1 w0 w1 y0 y1 s0 s1 k
  · rw [e] at k; exact x_timeOver_3 i y s _ _ _ hi0 hi1 hn rfl rfl e rfl p0 p1 f0 f1 w0 w1 y0 y1 s0 s1 k
  · rw [e] at k; exact x_timeOver_4 i y s _ _ _ hi0 hi1 hn rfl rfl e rfl p0 p1 f0 f1 w0 w1 y0 y1 s0 s1 k
  · rw [e] at k; exact x_timeOver_5 i y s _ _ _ hi0 hi1 hn rfl rfl e rfl p0 p1 f0 f1 w0 w1 y0 y1 s0 s1 k
