theorem am_s_alen {l : Launch} {L : Nat} {xs : Nat → Int} {y : Nat} {Q : Option am_V → am_N → Prop} {K : Nat → List (Option am_V) → List am_V → am_N → Prop} {pc : Nat} {lv : List (Option am_V)} {st : List am_V} {μ : am_N}  (hk : ∀ pc lv st μ, K pc lv st μ → am_AW l L xs y Q pc lv st μ) (hd : decode (am_bt y) pc = .ok (.arraylength, 1)) (h : am_stp l L xs y Q K (pc + 1, 12, 0, 0, 0, 0, []) lv st μ) : am_AW l L xs y Q pc lv st μ := by
  simp only [am_stp] at h
  split at h
  · rename_i k r
    split at h
    · rename_i n w hsh
      intro p e R s m args below meth c D ad ca tys B0 cells slots Qf E hret H locs ls hL hP hD hS
      obtain ⟨t0, ht0⟩ := (E.2.2.2.2.2.2.1 k _ hsh).1 rfl
      exact va_alen (v := Int32.ofInt (n : Int)) E.1 E.2.1 E.2.2.2.2.2.1 hP k t0 (am_ar hsh) ht0 (am_ofNat n) hd (hk _ _ _ _ h p e R s m args below meth c D ad ca tys B0 cells slots Qf E hret H locs ls hL hP hD hS)
    · rename_i fs hsh
      intro p e R s m args below meth c D ad ca tys B0 cells slots Qf E hret H locs ls hL hP hD hS
      obtain ⟨t0, ht0⟩ := (E.2.2.2.2.2.2.1 k _ hsh).2 rfl
      exact va_alen (v := Int32.ofInt (fs.length : Int)) E.1 E.2.1 E.2.2.2.2.2.1 hP k t0 (am_arq hsh) ht0 (am_ofNat fs.length) hd (hk _ _ _ _ h p e R s m args below meth c D ad ca tys B0 cells slots Qf E hret H locs ls hL hP hD hS)
    · exact h.elim
    · rename_i hsh
      obtain ⟨⟨h0, rfl⟩, h⟩ := h
      intro p e R s m args below meth c D ad ca tys B0 cells slots Qf E hret H locs ls hL hP hD hS
      obtain ⟨s1, s2, s3⟩ := E.2.2.2.2.2.2.2.2.2.2.2.2 h0
      have kk := hk _ _ _ _ h p e R s m args below meth c D ad ca tys B0 cells slots Qf E hret H locs ls hL hP hD hS
      refine va_slen E.1 E.2.1 s1 s2 (Nat.not_le.mpr s3) hS hd ?_
      rw [am_ofNat L]
      exact kk
  · exact h.elim
