theorem kq_end {Q : Option am_V → am_N → Prop} {F μ : am_N} (k : Q none F) (h : ∀ p q, μ p q = F p q) : Q none μ := by
  rw [show μ = F from funext fun p => funext (h p)]; exact k
