theorem md_start {A : Nat → Nat → Bool} {ν μ μ' : am_N} (h : gm A ν μ) (hk : KPs 60 μ μ') : MD A ν μ' := ⟨μ, μ', h, ⟨KPs_mi h.1 hk, hk⟩, gm_rf (KPs_mi h.1 hk)⟩
