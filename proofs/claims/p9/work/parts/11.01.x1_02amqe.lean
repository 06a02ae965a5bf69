theorem am_qe {Q : Option am_V → am_N → Prop} {μ : am_N} {x z : Int} (k : Q (some (.inl z)) μ) (h : x = z) : Q (some (.inl x)) μ := by rw [h]; exact k
