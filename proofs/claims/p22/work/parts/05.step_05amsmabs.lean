theorem am_s_iadd {l : Launch} {L : Nat} {xs : Nat → Int} {y : Nat} {Q : Option am_V → am_N → Prop} {K : Nat → List (Option am_V) → List am_V → am_N → Prop} {pc : Nat} {lv : List (Option am_V)} {st : List am_V} {μ : am_N}  (hk : ∀ pc lv st μ, K pc lv st μ → am_AW l L xs y Q pc lv st μ) (hd : decode (am_bt y) pc = .ok (.iadd, 1)) (h : am_stp l L xs y Q K (pc + 1, 13, 0, 0, 0, 0, []) lv st μ) : am_AW l L xs y Q pc lv st μ := by
  simp only [am_stp] at h
  split at h
  · rename_i v u r
    intro p e R s m args below meth c D ad ca tys B0 cells slots Qf E hret H locs ls hL hP hD hS
    have kk : W p l e R s m args below meth c H locs cells slots Qf (F0 m (pc + 1) ls (.int (Int32.ofInt _) :: r.map (am_rv ad))) := hk _ _ _ _ h p e R s m args below meth c D ad ca tys B0 cells slots Qf E hret H locs ls hL hP hD hS
    rw [Int32.ofInt_add] at kk
    exact lv_iadd E.1 E.2.1 hd kk
  · exact h.elim
theorem am_s_isub {l : Launch} {L : Nat} {xs : Nat → Int} {y : Nat} {Q : Option am_V → am_N → Prop} {K : Nat → List (Option am_V) → List am_V → am_N → Prop} {pc : Nat} {lv : List (Option am_V)} {st : List am_V} {μ : am_N}  (hk : ∀ pc lv st μ, K pc lv st μ → am_AW l L xs y Q pc lv st μ) (hd : decode (am_bt y) pc = .ok (.isub, 1)) (h : am_stp l L xs y Q K (pc + 1, 14, 0, 0, 0, 0, []) lv st μ) : am_AW l L xs y Q pc lv st μ := by
  simp only [am_stp] at h
  split at h
  · rename_i v u r
    intro p e R s m args below meth c D ad ca tys B0 cells slots Qf E hret H locs ls hL hP hD hS
    have kk : W p l e R s m args below meth c H locs cells slots Qf (F0 m (pc + 1) ls (.int (Int32.ofInt _) :: r.map (am_rv ad))) := hk _ _ _ _ h p e R s m args below meth c D ad ca tys B0 cells slots Qf E hret H locs ls hL hP hD hS
    rw [Int32.ofInt_sub] at kk
    exact lv_isub E.1 E.2.1 hd kk
  · exact h.elim
theorem am_s_imul {l : Launch} {L : Nat} {xs : Nat → Int} {y : Nat} {Q : Option am_V → am_N → Prop} {K : Nat → List (Option am_V) → List am_V → am_N → Prop} {pc : Nat} {lv : List (Option am_V)} {st : List am_V} {μ : am_N}  (hk : ∀ pc lv st μ, K pc lv st μ → am_AW l L xs y Q pc lv st μ) (hd : decode (am_bt y) pc = .ok (.imul, 1)) (h : am_stp l L xs y Q K (pc + 1, 15, 0, 0, 0, 0, []) lv st μ) : am_AW l L xs y Q pc lv st μ := by
  simp only [am_stp] at h
  split at h
  · rename_i v u r
    intro p e R s m args below meth c D ad ca tys B0 cells slots Qf E hret H locs ls hL hP hD hS
    have kk : W p l e R s m args below meth c H locs cells slots Qf (F0 m (pc + 1) ls (.int (Int32.ofInt _) :: r.map (am_rv ad))) := hk _ _ _ _ h p e R s m args below meth c D ad ca tys B0 cells slots Qf E hret H locs ls hL hP hD hS
    rw [Int32.ofInt_mul] at kk
    exact lv_imul E.1 E.2.1 hd kk
  · exact h.elim
theorem am_s_idiv {l : Launch} {L : Nat} {xs : Nat → Int} {y : Nat} {Q : Option am_V → am_N → Prop} {K : Nat → List (Option am_V) → List am_V → am_N → Prop} {pc : Nat} {lv : List (Option am_V)} {st : List am_V} {μ : am_N}  (hk : ∀ pc lv st μ, K pc lv st μ → am_AW l L xs y Q pc lv st μ) (hd : decode (am_bt y) pc = .ok (.idiv, 1)) (h : am_stp l L xs y Q K (pc + 1, 16, 0, 0, 0, 0, []) lv st μ) : am_AW l L xs y Q pc lv st μ := by
  simp only [am_stp] at h
  split at h
  · rename_i v u r
    obtain ⟨h1, h⟩ := h
    intro p e R s m args below meth c D ad ca tys B0 cells slots Qf E hret H locs ls hL hP hD hS
    have kk : W p l e R s m args below meth c H locs cells slots Qf (F0 m (pc + 1) ls (.int (Int32.ofInt _) :: r.map (am_rv ad))) := hk _ _ _ _ h p e R s m args below meth c D ad ca tys B0 cells slots Qf E hret H locs ls hL hP hD hS
    rw [← am_div32] at kk
    exact lv_idiv E.1 E.2.1 hd (am_ne0 h1) kk
  · exact h.elim
theorem am_s_irem {l : Launch} {L : Nat} {xs : Nat → Int} {y : Nat} {Q : Option am_V → am_N → Prop} {K : Nat → List (Option am_V) → List am_V → am_N → Prop} {pc : Nat} {lv : List (Option am_V)} {st : List am_V} {μ : am_N}  (hk : ∀ pc lv st μ, K pc lv st μ → am_AW l L xs y Q pc lv st μ) (hd : decode (am_bt y) pc = .ok (.irem, 1)) (h : am_stp l L xs y Q K (pc + 1, 17, 0, 0, 0, 0, []) lv st μ) : am_AW l L xs y Q pc lv st μ := by
  simp only [am_stp] at h
  split at h
  · rename_i v u r
    obtain ⟨h1, h⟩ := h
    intro p e R s m args below meth c D ad ca tys B0 cells slots Qf E hret H locs ls hL hP hD hS
    have kk : W p l e R s m args below meth c H locs cells slots Qf (F0 m (pc + 1) ls (.int (Int32.ofInt _) :: r.map (am_rv ad))) := hk _ _ _ _ h p e R s m args below meth c D ad ca tys B0 cells slots Qf E hret H locs ls hL hP hD hS
    rw [← am_rem32] at kk
    exact lv_irem E.1 E.2.1 hd (am_ne0 h1) kk
  · exact h.elim
theorem am_s_iand {l : Launch} {L : Nat} {xs : Nat → Int} {y : Nat} {Q : Option am_V → am_N → Prop} {K : Nat → List (Option am_V) → List am_V → am_N → Prop} {pc : Nat} {lv : List (Option am_V)} {st : List am_V} {μ : am_N}  (hk : ∀ pc lv st μ, K pc lv st μ → am_AW l L xs y Q pc lv st μ) (hd : decode (am_bt y) pc = .ok (.iand, 1)) (h : am_stp l L xs y Q K (pc + 1, 18, 0, 0, 0, 0, []) lv st μ) : am_AW l L xs y Q pc lv st μ := by
  simp only [am_stp] at h
  split at h
  · rename_i v u r
    intro p e R s m args below meth c D ad ca tys B0 cells slots Qf E hret H locs ls hL hP hD hS
    have kk : W p l e R s m args below meth c H locs cells slots Qf (F0 m (pc + 1) ls (.int (Int32.ofInt _) :: r.map (am_rv ad))) := hk _ _ _ _ h p e R s m args below meth c D ad ca tys B0 cells slots Qf E hret H locs ls hL hP hD hS
    rw [am_and, am_back] at kk
    exact lv_iand E.1 E.2.1 hd kk
  · exact h.elim
theorem am_s_ior {l : Launch} {L : Nat} {xs : Nat → Int} {y : Nat} {Q : Option am_V → am_N → Prop} {K : Nat → List (Option am_V) → List am_V → am_N → Prop} {pc : Nat} {lv : List (Option am_V)} {st : List am_V} {μ : am_N}  (hk : ∀ pc lv st μ, K pc lv st μ → am_AW l L xs y Q pc lv st μ) (hd : decode (am_bt y) pc = .ok (.ior, 1)) (h : am_stp l L xs y Q K (pc + 1, 19, 0, 0, 0, 0, []) lv st μ) : am_AW l L xs y Q pc lv st μ := by
  simp only [am_stp] at h
  split at h
  · rename_i v u r
    intro p e R s m args below meth c D ad ca tys B0 cells slots Qf E hret H locs ls hL hP hD hS
    have kk : W p l e R s m args below meth c H locs cells slots Qf (F0 m (pc + 1) ls (.int (Int32.ofInt _) :: r.map (am_rv ad))) := hk _ _ _ _ h p e R s m args below meth c D ad ca tys B0 cells slots Qf E hret H locs ls hL hP hD hS
    rw [am_or, am_back] at kk
    exact lv_ior E.1 E.2.1 hd kk
  · exact h.elim
theorem am_s_ixor {l : Launch} {L : Nat} {xs : Nat → Int} {y : Nat} {Q : Option am_V → am_N → Prop} {K : Nat → List (Option am_V) → List am_V → am_N → Prop} {pc : Nat} {lv : List (Option am_V)} {st : List am_V} {μ : am_N}  (hk : ∀ pc lv st μ, K pc lv st μ → am_AW l L xs y Q pc lv st μ) (hd : decode (am_bt y) pc = .ok (.ixor, 1)) (h : am_stp l L xs y Q K (pc + 1, 20, 0, 0, 0, 0, []) lv st μ) : am_AW l L xs y Q pc lv st μ := by
  simp only [am_stp] at h
  split at h
  · rename_i v u r
    intro p e R s m args below meth c D ad ca tys B0 cells slots Qf E hret H locs ls hL hP hD hS
    have kk : W p l e R s m args below meth c H locs cells slots Qf (F0 m (pc + 1) ls (.int (Int32.ofInt _) :: r.map (am_rv ad))) := hk _ _ _ _ h p e R s m args below meth c D ad ca tys B0 cells slots Qf E hret H locs ls hL hP hD hS
    rw [am_xor, am_back] at kk
    exact lv_ixor E.1 E.2.1 hd kk
  · exact h.elim
theorem am_s_ishl {l : Launch} {L : Nat} {xs : Nat → Int} {y : Nat} {Q : Option am_V → am_N → Prop} {K : Nat → List (Option am_V) → List am_V → am_N → Prop} {pc : Nat} {lv : List (Option am_V)} {st : List am_V} {μ : am_N}  (hk : ∀ pc lv st μ, K pc lv st μ → am_AW l L xs y Q pc lv st μ) (hd : decode (am_bt y) pc = .ok (.ishl, 1)) (h : am_stp l L xs y Q K (pc + 1, 21, 0, 0, 0, 0, []) lv st μ) : am_AW l L xs y Q pc lv st μ := by
  simp only [am_stp] at h
  split at h
  · rename_i v u r
    intro p e R s m args below meth c D ad ca tys B0 cells slots Qf E hret H locs ls hL hP hD hS
    have kk : W p l e R s m args below meth c H locs cells slots Qf (F0 m (pc + 1) ls (.int (Int32.ofInt _) :: r.map (am_rv ad))) := hk _ _ _ _ h p e R s m args below meth c D ad ca tys B0 cells slots Qf E hret H locs ls hL hP hD hS
    rw [am_shl, am_back] at kk
    exact lv_ishl E.1 E.2.1 hd kk
  · exact h.elim
theorem am_s_ishr {l : Launch} {L : Nat} {xs : Nat → Int} {y : Nat} {Q : Option am_V → am_N → Prop} {K : Nat → List (Option am_V) → List am_V → am_N → Prop} {pc : Nat} {lv : List (Option am_V)} {st : List am_V} {μ : am_N}  (hk : ∀ pc lv st μ, K pc lv st μ → am_AW l L xs y Q pc lv st μ) (hd : decode (am_bt y) pc = .ok (.ishr, 1)) (h : am_stp l L xs y Q K (pc + 1, 22, 0, 0, 0, 0, []) lv st μ) : am_AW l L xs y Q pc lv st μ := by
  simp only [am_stp] at h
  split at h
  · rename_i v u r
    intro p e R s m args below meth c D ad ca tys B0 cells slots Qf E hret H locs ls hL hP hD hS
    have kk : W p l e R s m args below meth c H locs cells slots Qf (F0 m (pc + 1) ls (.int (Int32.ofInt _) :: r.map (am_rv ad))) := hk _ _ _ _ h p e R s m args below meth c D ad ca tys B0 cells slots Qf E hret H locs ls hL hP hD hS
    rw [am_shr, am_back] at kk
    exact lv_ishr E.1 E.2.1 hd kk
  · exact h.elim
theorem am_s_ineg {l : Launch} {L : Nat} {xs : Nat → Int} {y : Nat} {Q : Option am_V → am_N → Prop} {K : Nat → List (Option am_V) → List am_V → am_N → Prop} {pc : Nat} {lv : List (Option am_V)} {st : List am_V} {μ : am_N}  (hk : ∀ pc lv st μ, K pc lv st μ → am_AW l L xs y Q pc lv st μ) (hd : decode (am_bt y) pc = .ok (.ineg, 1)) (h : am_stp l L xs y Q K (pc + 1, 23, 0, 0, 0, 0, []) lv st μ) : am_AW l L xs y Q pc lv st μ := by
  simp only [am_stp] at h
  split at h
  · rename_i v r
    intro p e R s m args below meth c D ad ca tys B0 cells slots Qf E hret H locs ls hL hP hD hS
    have kk : W p l e R s m args below meth c H locs cells slots Qf (F0 m (pc + 1) ls (.int (Int32.ofInt _) :: r.map (am_rv ad))) := hk _ _ _ _ h p e R s m args below meth c D ad ca tys B0 cells slots Qf E hret H locs ls hL hP hD hS
    rw [Int32.ofInt_neg] at kk
    exact lv_ineg E.1 E.2.1 hd kk
  · exact h.elim
theorem am_s_i2l {l : Launch} {L : Nat} {xs : Nat → Int} {y : Nat} {Q : Option am_V → am_N → Prop} {K : Nat → List (Option am_V) → List am_V → am_N → Prop} {pc : Nat} {lv : List (Option am_V)} {st : List am_V} {μ : am_N}  (hk : ∀ pc lv st μ, K pc lv st μ → am_AW l L xs y Q pc lv st μ) (hd : decode (am_bt y) pc = .ok (.i2l, 1)) (h : am_stp l L xs y Q K (pc + 1, 33, 0, 0, 0, 0, []) lv st μ) : am_AW l L xs y Q pc lv st μ := by
  simp only [am_stp] at h
  split at h
  · rename_i v r
    intro p e R s m args below meth c D ad ca tys B0 cells slots Qf E hret H locs ls hL hP hD hS
    have kk : W p l e R s m args below meth c H locs cells slots Qf (F0 m (pc + 1) ls (.long (Int64.ofInt _) :: r.map (am_rv ad))) := hk _ _ _ _ h p e R s m args below meth c D ad ca tys B0 cells slots Qf E hret H locs ls hL hP hD hS
    rw [← am_i2l] at kk
    exact lv_i2l E.1 E.2.1 hd rfl kk
  · exact h.elim
theorem am_s_lcmp {l : Launch} {L : Nat} {xs : Nat → Int} {y : Nat} {Q : Option am_V → am_N → Prop} {K : Nat → List (Option am_V) → List am_V → am_N → Prop} {pc : Nat} {lv : List (Option am_V)} {st : List am_V} {μ : am_N}  (hk : ∀ pc lv st μ, K pc lv st μ → am_AW l L xs y Q pc lv st μ) (hd : decode (am_bt y) pc = .ok (.lcmp, 1)) (h : am_stp l L xs y Q K (pc + 1, 34, 0, 0, 0, 0, []) lv st μ) : am_AW l L xs y Q pc lv st μ := by
  simp only [am_stp] at h
  split at h
  · rename_i v u r
    intro p e R s m args below meth c D ad ca tys B0 cells slots Qf E hret H locs ls hL hP hD hS
    have kk : W p l e R s m args below meth c H locs cells slots Qf (F0 m (pc + 1) ls (.int (Int32.ofInt _) :: r.map (am_rv ad))) := hk _ _ _ _ h p e R s m args below meth c D ad ca tys B0 cells slots Qf E hret H locs ls hL hP hD hS
    rw [← am_lcmp] at kk
    exact W.lcmp E.1 E.2.1 hd kk
  · exact h.elim
theorem am_s_ladd {l : Launch} {L : Nat} {xs : Nat → Int} {y : Nat} {Q : Option am_V → am_N → Prop} {K : Nat → List (Option am_V) → List am_V → am_N → Prop} {pc : Nat} {lv : List (Option am_V)} {st : List am_V} {μ : am_N}  (hk : ∀ pc lv st μ, K pc lv st μ → am_AW l L xs y Q pc lv st μ) (hd : decode (am_bt y) pc = .ok (.ladd, 1)) (h : am_stp l L xs y Q K (pc + 1, 35, 0, 0, 0, 0, []) lv st μ) : am_AW l L xs y Q pc lv st μ := by
  simp only [am_stp] at h
  split at h
  · rename_i v u r
    intro p e R s m args below meth c D ad ca tys B0 cells slots Qf E hret H locs ls hL hP hD hS
    have kk : W p l e R s m args below meth c H locs cells slots Qf (F0 m (pc + 1) ls (.long (Int64.ofInt _) :: r.map (am_rv ad))) := hk _ _ _ _ h p e R s m args below meth c D ad ca tys B0 cells slots Qf E hret H locs ls hL hP hD hS
    rw [Int64.ofInt_add] at kk
    exact lv_ladd E.1 E.2.1 hd kk
  · exact h.elim
theorem am_s_lsub {l : Launch} {L : Nat} {xs : Nat → Int} {y : Nat} {Q : Option am_V → am_N → Prop} {K : Nat → List (Option am_V) → List am_V → am_N → Prop} {pc : Nat} {lv : List (Option am_V)} {st : List am_V} {μ : am_N}  (hk : ∀ pc lv st μ, K pc lv st μ → am_AW l L xs y Q pc lv st μ) (hd : decode (am_bt y) pc = .ok (.lsub, 1)) (h : am_stp l L xs y Q K (pc + 1, 36, 0, 0, 0, 0, []) lv st μ) : am_AW l L xs y Q pc lv st μ := by
  simp only [am_stp] at h
  split at h
  · rename_i v u r
    intro p e R s m args below meth c D ad ca tys B0 cells slots Qf E hret H locs ls hL hP hD hS
    have kk : W p l e R s m args below meth c H locs cells slots Qf (F0 m (pc + 1) ls (.long (Int64.ofInt _) :: r.map (am_rv ad))) := hk _ _ _ _ h p e R s m args below meth c D ad ca tys B0 cells slots Qf E hret H locs ls hL hP hD hS
    rw [Int64.ofInt_sub] at kk
    exact lv_lsub E.1 E.2.1 hd kk
  · exact h.elim
theorem am_s_lmul {l : Launch} {L : Nat} {xs : Nat → Int} {y : Nat} {Q : Option am_V → am_N → Prop} {K : Nat → List (Option am_V) → List am_V → am_N → Prop} {pc : Nat} {lv : List (Option am_V)} {st : List am_V} {μ : am_N}  (hk : ∀ pc lv st μ, K pc lv st μ → am_AW l L xs y Q pc lv st μ) (hd : decode (am_bt y) pc = .ok (.lmul, 1)) (h : am_stp l L xs y Q K (pc + 1, 37, 0, 0, 0, 0, []) lv st μ) : am_AW l L xs y Q pc lv st μ := by
  simp only [am_stp] at h
  split at h
  · rename_i v u r
    intro p e R s m args below meth c D ad ca tys B0 cells slots Qf E hret H locs ls hL hP hD hS
    have kk : W p l e R s m args below meth c H locs cells slots Qf (F0 m (pc + 1) ls (.long (Int64.ofInt _) :: r.map (am_rv ad))) := hk _ _ _ _ h p e R s m args below meth c D ad ca tys B0 cells slots Qf E hret H locs ls hL hP hD hS
    rw [Int64.ofInt_mul] at kk
    exact lv_lmul E.1 E.2.1 hd kk
  · exact h.elim
theorem am_s_ldiv {l : Launch} {L : Nat} {xs : Nat → Int} {y : Nat} {Q : Option am_V → am_N → Prop} {K : Nat → List (Option am_V) → List am_V → am_N → Prop} {pc : Nat} {lv : List (Option am_V)} {st : List am_V} {μ : am_N}  (hk : ∀ pc lv st μ, K pc lv st μ → am_AW l L xs y Q pc lv st μ) (hd : decode (am_bt y) pc = .ok (.ldiv, 1)) (h : am_stp l L xs y Q K (pc + 1, 38, 0, 0, 0, 0, []) lv st μ) : am_AW l L xs y Q pc lv st μ := by
  simp only [am_stp] at h
  split at h
  · rename_i v u r
    obtain ⟨h1, h⟩ := h
    intro p e R s m args below meth c D ad ca tys B0 cells slots Qf E hret H locs ls hL hP hD hS
    have kk : W p l e R s m args below meth c H locs cells slots Qf (F0 m (pc + 1) ls (.long (Int64.ofInt _) :: r.map (am_rv ad))) := hk _ _ _ _ h p e R s m args below meth c D ad ca tys B0 cells slots Qf E hret H locs ls hL hP hD hS
    rw [← am_div64] at kk
    exact lv_ldiv E.1 E.2.1 hd (am_ne064 h1) kk
  · exact h.elim
theorem am_s_lrem {l : Launch} {L : Nat} {xs : Nat → Int} {y : Nat} {Q : Option am_V → am_N → Prop} {K : Nat → List (Option am_V) → List am_V → am_N → Prop} {pc : Nat} {lv : List (Option am_V)} {st : List am_V} {μ : am_N}  (hk : ∀ pc lv st μ, K pc lv st μ → am_AW l L xs y Q pc lv st μ) (hd : decode (am_bt y) pc = .ok (.lrem, 1)) (h : am_stp l L xs y Q K (pc + 1, 39, 0, 0, 0, 0, []) lv st μ) : am_AW l L xs y Q pc lv st μ := by
  simp only [am_stp] at h
  split at h
  · rename_i v u r
    obtain ⟨h1, h⟩ := h
    intro p e R s m args below meth c D ad ca tys B0 cells slots Qf E hret H locs ls hL hP hD hS
    have kk : W p l e R s m args below meth c H locs cells slots Qf (F0 m (pc + 1) ls (.long (Int64.ofInt _) :: r.map (am_rv ad))) := hk _ _ _ _ h p e R s m args below meth c D ad ca tys B0 cells slots Qf E hret H locs ls hL hP hD hS
    rw [← am_rem64] at kk
    exact lv_lrem E.1 E.2.1 hd (am_ne064 h1) kk
  · exact h.elim
theorem am_s_goto {l : Launch} {L : Nat} {xs : Nat → Int} {y : Nat} {Q : Option am_V → am_N → Prop} {K : Nat → List (Option am_V) → List am_V → am_N → Prop} {pc : Nat} {lv : List (Option am_V)} {st : List am_V} {μ : am_N} {off : Int} (hk : ∀ pc lv st μ, K pc lv st μ → am_AW l L xs y Q pc lv st μ) (hd : decode (am_bt y) pc = .ok (.goto off, 3)) (ho : 0 ≤ (pc : Int) + off) (h : K ((pc : Int) + off).toNat lv st μ) : am_AW l L xs y Q pc lv st μ := by
  intro p e R s m args below meth c D ad ca tys B0 cells slots Qf E hret H locs ls hL hP hD hS
  exact lv_goto E.1 E.2.1 hd (by omega) (hk _ _ _ _ h p e R s m args below meth c D ad ca tys B0 cells slots Qf E hret H locs ls hL hP hD hS)
theorem am_s_if_eq {l : Launch} {L : Nat} {xs : Nat → Int} {y : Nat} {Q : Option am_V → am_N → Prop} {K : Nat → List (Option am_V) → List am_V → am_N → Prop} {pc : Nat} {lv : List (Option am_V)} {st : List am_V} {μ : am_N} {off : Int} (hk : ∀ pc lv st μ, K pc lv st μ → am_AW l L xs y Q pc lv st μ) (hd : decode (am_bt y) pc = .ok (.ifCond .eq off, 3)) (ho : 0 ≤ (pc : Int) + off) (h : am_stp l L xs y Q K (pc + 3, 26, ((pc : Int) + off).toNat, 0, 0, 0, []) lv st μ) : am_AW l L xs y Q pc lv st μ := by
  simp only [am_stp] at h
  split at h
  · rename_i v r
    obtain ⟨h1, h2⟩ := am_br2_iff.mp h
    intro p e R s m args below meth c D ad ca tys B0 cells slots Qf E hret H locs ls hL hP hD hS
    refine lv_if_eq (tgt := ((pc : Int) + off).toNat) E.1 E.2.1 hd (by omega) (fun q => ?_) (fun q => ?_)
    · exact hk _ _ _ _ (h1 (am_c_eq.mp q)) p e R s m args below meth c D ad ca tys B0 cells slots Qf E hret H locs ls hL hP hD hS
    · exact hk _ _ _ _ (h2 (am_n_eq.mp q)) p e R s m args below meth c D ad ca tys B0 cells slots Qf E hret H locs ls hL hP hD hS
  · exact h.elim
theorem am_s_icmp_eq {l : Launch} {L : Nat} {xs : Nat → Int} {y : Nat} {Q : Option am_V → am_N → Prop} {K : Nat → List (Option am_V) → List am_V → am_N → Prop} {pc : Nat} {lv : List (Option am_V)} {st : List am_V} {μ : am_N} {off : Int} (hk : ∀ pc lv st μ, K pc lv st μ → am_AW l L xs y Q pc lv st μ) (hd : decode (am_bt y) pc = .ok (.if_icmp .eq off, 3)) (ho : 0 ≤ (pc : Int) + off) (h : am_stp l L xs y Q K (pc + 3, 27, ((pc : Int) + off).toNat, 0, 0, 0, []) lv st μ) : am_AW l L xs y Q pc lv st μ := by
  simp only [am_stp] at h
  split at h
  · rename_i v u r
    obtain ⟨h1, h2⟩ := am_br2_iff.mp h
    intro p e R s m args below meth c D ad ca tys B0 cells slots Qf E hret H locs ls hL hP hD hS
    refine lv_icmp_eq (tgt := ((pc : Int) + off).toNat) E.1 E.2.1 hd (by omega) (fun q => ?_) (fun q => ?_)
    · exact hk _ _ _ _ (h1 (am_c2_eq.mp q)) p e R s m args below meth c D ad ca tys B0 cells slots Qf E hret H locs ls hL hP hD hS
    · exact hk _ _ _ _ (h2 (am_n2_eq.mp q)) p e R s m args below meth c D ad ca tys B0 cells slots Qf E hret H locs ls hL hP hD hS
  · exact h.elim
theorem am_s_if_ne {l : Launch} {L : Nat} {xs : Nat → Int} {y : Nat} {Q : Option am_V → am_N → Prop} {K : Nat → List (Option am_V) → List am_V → am_N → Prop} {pc : Nat} {lv : List (Option am_V)} {st : List am_V} {μ : am_N} {off : Int} (hk : ∀ pc lv st μ, K pc lv st μ → am_AW l L xs y Q pc lv st μ) (hd : decode (am_bt y) pc = .ok (.ifCond .ne off, 3)) (ho : 0 ≤ (pc : Int) + off) (h : am_stp l L xs y Q K (pc + 3, 26, ((pc : Int) + off).toNat, 1, 0, 0, []) lv st μ) : am_AW l L xs y Q pc lv st μ := by
  simp only [am_stp] at h
  split at h
  · rename_i v r
    obtain ⟨h1, h2⟩ := am_br2_iff.mp h
    intro p e R s m args below meth c D ad ca tys B0 cells slots Qf E hret H locs ls hL hP hD hS
    refine lv_if_ne (tgt := ((pc : Int) + off).toNat) E.1 E.2.1 hd (by omega) (fun q => ?_) (fun q => ?_)
    · exact hk _ _ _ _ (h1 (am_c_ne.mp q)) p e R s m args below meth c D ad ca tys B0 cells slots Qf E hret H locs ls hL hP hD hS
    · exact hk _ _ _ _ (h2 (am_n_ne.mp q)) p e R s m args below meth c D ad ca tys B0 cells slots Qf E hret H locs ls hL hP hD hS
  · exact h.elim
theorem am_s_icmp_ne {l : Launch} {L : Nat} {xs : Nat → Int} {y : Nat} {Q : Option am_V → am_N → Prop} {K : Nat → List (Option am_V) → List am_V → am_N → Prop} {pc : Nat} {lv : List (Option am_V)} {st : List am_V} {μ : am_N} {off : Int} (hk : ∀ pc lv st μ, K pc lv st μ → am_AW l L xs y Q pc lv st μ) (hd : decode (am_bt y) pc = .ok (.if_icmp .ne off, 3)) (ho : 0 ≤ (pc : Int) + off) (h : am_stp l L xs y Q K (pc + 3, 27, ((pc : Int) + off).toNat, 1, 0, 0, []) lv st μ) : am_AW l L xs y Q pc lv st μ := by
  simp only [am_stp] at h
  split at h
  · rename_i v u r
    obtain ⟨h1, h2⟩ := am_br2_iff.mp h
    intro p e R s m args below meth c D ad ca tys B0 cells slots Qf E hret H locs ls hL hP hD hS
    refine lv_icmp_ne (tgt := ((pc : Int) + off).toNat) E.1 E.2.1 hd (by omega) (fun q => ?_) (fun q => ?_)
    · exact hk _ _ _ _ (h1 (am_c2_ne.mp q)) p e R s m args below meth c D ad ca tys B0 cells slots Qf E hret H locs ls hL hP hD hS
    · exact hk _ _ _ _ (h2 (am_n2_ne.mp q)) p e R s m args below meth c D ad ca tys B0 cells slots Qf E hret H locs ls hL hP hD hS
  · exact h.elim
theorem am_s_if_lt {l : Launch} {L : Nat} {xs : Nat → Int} {y : Nat} {Q : Option am_V → am_N → Prop} {K : Nat → List (Option am_V) → List am_V → am_N → Prop} {pc : Nat} {lv : List (Option am_V)} {st : List am_V} {μ : am_N} {off : Int} (hk : ∀ pc lv st μ, K pc lv st μ → am_AW l L xs y Q pc lv st μ) (hd : decode (am_bt y) pc = .ok (.ifCond .lt off, 3)) (ho : 0 ≤ (pc : Int) + off) (h : am_stp l L xs y Q K (pc + 3, 26, ((pc : Int) + off).toNat, 2, 0, 0, []) lv st μ) : am_AW l L xs y Q pc lv st μ := by
  simp only [am_stp] at h
  split at h
  · rename_i v r
    obtain ⟨h1, h2⟩ := am_br2_iff.mp h
    intro p e R s m args below meth c D ad ca tys B0 cells slots Qf E hret H locs ls hL hP hD hS
    refine lv_if_lt (tgt := ((pc : Int) + off).toNat) E.1 E.2.1 hd (by omega) (fun q => ?_) (fun q => ?_)
    · exact hk _ _ _ _ (h1 (am_c_lt.mp q)) p e R s m args below meth c D ad ca tys B0 cells slots Qf E hret H locs ls hL hP hD hS
    · exact hk _ _ _ _ (h2 (am_n_lt.mp q)) p e R s m args below meth c D ad ca tys B0 cells slots Qf E hret H locs ls hL hP hD hS
  · exact h.elim
theorem am_s_icmp_lt {l : Launch} {L : Nat} {xs : Nat → Int} {y : Nat} {Q : Option am_V → am_N → Prop} {K : Nat → List (Option am_V) → List am_V → am_N → Prop} {pc : Nat} {lv : List (Option am_V)} {st : List am_V} {μ : am_N} {off : Int} (hk : ∀ pc lv st μ, K pc lv st μ → am_AW l L xs y Q pc lv st μ) (hd : decode (am_bt y) pc = .ok (.if_icmp .lt off, 3)) (ho : 0 ≤ (pc : Int) + off) (h : am_stp l L xs y Q K (pc + 3, 27, ((pc : Int) + off).toNat, 2, 0, 0, []) lv st μ) : am_AW l L xs y Q pc lv st μ := by
  simp only [am_stp] at h
  split at h
  · rename_i v u r
    obtain ⟨h1, h2⟩ := am_br2_iff.mp h
    intro p e R s m args below meth c D ad ca tys B0 cells slots Qf E hret H locs ls hL hP hD hS
    refine lv_icmp_lt (tgt := ((pc : Int) + off).toNat) E.1 E.2.1 hd (by omega) (fun q => ?_) (fun q => ?_)
    · exact hk _ _ _ _ (h1 (am_c2_lt.mp q)) p e R s m args below meth c D ad ca tys B0 cells slots Qf E hret H locs ls hL hP hD hS
    · exact hk _ _ _ _ (h2 (am_n2_lt.mp q)) p e R s m args below meth c D ad ca tys B0 cells slots Qf E hret H locs ls hL hP hD hS
  · exact h.elim
theorem am_s_if_ge {l : Launch} {L : Nat} {xs : Nat → Int} {y : Nat} {Q : Option am_V → am_N → Prop} {K : Nat → List (Option am_V) → List am_V → am_N → Prop} {pc : Nat} {lv : List (Option am_V)} {st : List am_V} {μ : am_N} {off : Int} (hk : ∀ pc lv st μ, K pc lv st μ → am_AW l L xs y Q pc lv st μ) (hd : decode (am_bt y) pc = .ok (.ifCond .ge off, 3)) (ho : 0 ≤ (pc : Int) + off) (h : am_stp l L xs y Q K (pc + 3, 26, ((pc : Int) + off).toNat, 3, 0, 0, []) lv st μ) : am_AW l L xs y Q pc lv st μ := by
  simp only [am_stp] at h
  split at h
  · rename_i v r
    obtain ⟨h1, h2⟩ := am_br2_iff.mp h
    intro p e R s m args below meth c D ad ca tys B0 cells slots Qf E hret H locs ls hL hP hD hS
    refine lv_if_ge (tgt := ((pc : Int) + off).toNat) E.1 E.2.1 hd (by omega) (fun q => ?_) (fun q => ?_)
    · exact hk _ _ _ _ (h1 (am_c_ge.mp q)) p e R s m args below meth c D ad ca tys B0 cells slots Qf E hret H locs ls hL hP hD hS
    · exact hk _ _ _ _ (h2 (am_n_ge.mp q)) p e R s m args below meth c D ad ca tys B0 cells slots Qf E hret H locs ls hL hP hD hS
  · exact h.elim
theorem am_s_icmp_ge {l : Launch} {L : Nat} {xs : Nat → Int} {y : Nat} {Q : Option am_V → am_N → Prop} {K : Nat → List (Option am_V) → List am_V → am_N → Prop} {pc : Nat} {lv : List (Option am_V)} {st : List am_V} {μ : am_N} {off : Int} (hk : ∀ pc lv st μ, K pc lv st μ → am_AW l L xs y Q pc lv st μ) (hd : decode (am_bt y) pc = .ok (.if_icmp .ge off, 3)) (ho : 0 ≤ (pc : Int) + off) (h : am_stp l L xs y Q K (pc + 3, 27, ((pc : Int) + off).toNat, 3, 0, 0, []) lv st μ) : am_AW l L xs y Q pc lv st μ := by
  simp only [am_stp] at h
  split at h
  · rename_i v u r
    obtain ⟨h1, h2⟩ := am_br2_iff.mp h
    intro p e R s m args below meth c D ad ca tys B0 cells slots Qf E hret H locs ls hL hP hD hS
    refine lv_icmp_ge (tgt := ((pc : Int) + off).toNat) E.1 E.2.1 hd (by omega) (fun q => ?_) (fun q => ?_)
    · exact hk _ _ _ _ (h1 (am_c2_ge.mp q)) p e R s m args below meth c D ad ca tys B0 cells slots Qf E hret H locs ls hL hP hD hS
    · exact hk _ _ _ _ (h2 (am_n2_ge.mp q)) p e R s m args below meth c D ad ca tys B0 cells slots Qf E hret H locs ls hL hP hD hS
  · exact h.elim
theorem am_s_if_gt {l : Launch} {L : Nat} {xs : Nat → Int} {y : Nat} {Q : Option am_V → am_N → Prop} {K : Nat → List (Option am_V) → List am_V → am_N → Prop} {pc : Nat} {lv : List (Option am_V)} {st : List am_V} {μ : am_N} {off : Int} (hk : ∀ pc lv st μ, K pc lv st μ → am_AW l L xs y Q pc lv st μ) (hd : decode (am_bt y) pc = .ok (.ifCond .gt off, 3)) (ho : 0 ≤ (pc : Int) + off) (h : am_stp l L xs y Q K (pc + 3, 26, ((pc : Int) + off).toNat, 4, 0, 0, []) lv st μ) : am_AW l L xs y Q pc lv st μ := by
  simp only [am_stp] at h
  split at h
  · rename_i v r
    obtain ⟨h1, h2⟩ := am_br2_iff.mp h
    intro p e R s m args below meth c D ad ca tys B0 cells slots Qf E hret H locs ls hL hP hD hS
    refine lv_if_gt (tgt := ((pc : Int) + off).toNat) E.1 E.2.1 hd (by omega) (fun q => ?_) (fun q => ?_)
    · exact hk _ _ _ _ (h1 (am_c_gt.mp q)) p e R s m args below meth c D ad ca tys B0 cells slots Qf E hret H locs ls hL hP hD hS
    · exact hk _ _ _ _ (h2 (am_n_gt.mp q)) p e R s m args below meth c D ad ca tys B0 cells slots Qf E hret H locs ls hL hP hD hS
  · exact h.elim
theorem am_s_icmp_gt {l : Launch} {L : Nat} {xs : Nat → Int} {y : Nat} {Q : Option am_V → am_N → Prop} {K : Nat → List (Option am_V) → List am_V → am_N → Prop} {pc : Nat} {lv : List (Option am_V)} {st : List am_V} {μ : am_N} {off : Int} (hk : ∀ pc lv st μ, K pc lv st μ → am_AW l L xs y Q pc lv st μ) (hd : decode (am_bt y) pc = .ok (.if_icmp .gt off, 3)) (ho : 0 ≤ (pc : Int) + off) (h : am_stp l L xs y Q K (pc + 3, 27, ((pc : Int) + off).toNat, 4, 0, 0, []) lv st μ) : am_AW l L xs y Q pc lv st μ := by
  simp only [am_stp] at h
  split at h
  · rename_i v u r
    obtain ⟨h1, h2⟩ := am_br2_iff.mp h
    intro p e R s m args below meth c D ad ca tys B0 cells slots Qf E hret H locs ls hL hP hD hS
    refine lv_icmp_gt (tgt := ((pc : Int) + off).toNat) E.1 E.2.1 hd (by omega) (fun q => ?_) (fun q => ?_)
    · exact hk _ _ _ _ (h1 (am_c2_gt.mp q)) p e R s m args below meth c D ad ca tys B0 cells slots Qf E hret H locs ls hL hP hD hS
    · exact hk _ _ _ _ (h2 (am_n2_gt.mp q)) p e R s m args below meth c D ad ca tys B0 cells slots Qf E hret H locs ls hL hP hD hS
  · exact h.elim
theorem am_s_if_le {l : Launch} {L : Nat} {xs : Nat → Int} {y : Nat} {Q : Option am_V → am_N → Prop} {K : Nat → List (Option am_V) → List am_V → am_N → Prop} {pc : Nat} {lv : List (Option am_V)} {st : List am_V} {μ : am_N} {off : Int} (hk : ∀ pc lv st μ, K pc lv st μ → am_AW l L xs y Q pc lv st μ) (hd : decode (am_bt y) pc = .ok (.ifCond .le off, 3)) (ho : 0 ≤ (pc : Int) + off) (h : am_stp l L xs y Q K (pc + 3, 26, ((pc : Int) + off).toNat, 5, 0, 0, []) lv st μ) : am_AW l L xs y Q pc lv st μ := by
  simp only [am_stp] at h
  split at h
  · rename_i v r
    obtain ⟨h1, h2⟩ := am_br2_iff.mp h
    intro p e R s m args below meth c D ad ca tys B0 cells slots Qf E hret H locs ls hL hP hD hS
    refine lv_if_le (tgt := ((pc : Int) + off).toNat) E.1 E.2.1 hd (by omega) (fun q => ?_) (fun q => ?_)
    · exact hk _ _ _ _ (h1 (am_c_le.mp q)) p e R s m args below meth c D ad ca tys B0 cells slots Qf E hret H locs ls hL hP hD hS
    · exact hk _ _ _ _ (h2 (am_n_le.mp q)) p e R s m args below meth c D ad ca tys B0 cells slots Qf E hret H locs ls hL hP hD hS
  · exact h.elim
theorem am_s_icmp_le {l : Launch} {L : Nat} {xs : Nat → Int} {y : Nat} {Q : Option am_V → am_N → Prop} {K : Nat → List (Option am_V) → List am_V → am_N → Prop} {pc : Nat} {lv : List (Option am_V)} {st : List am_V} {μ : am_N} {off : Int} (hk : ∀ pc lv st μ, K pc lv st μ → am_AW l L xs y Q pc lv st μ) (hd : decode (am_bt y) pc = .ok (.if_icmp .le off, 3)) (ho : 0 ≤ (pc : Int) + off) (h : am_stp l L xs y Q K (pc + 3, 27, ((pc : Int) + off).toNat, 5, 0, 0, []) lv st μ) : am_AW l L xs y Q pc lv st μ := by
  simp only [am_stp] at h
  split at h
  · rename_i v u r
    obtain ⟨h1, h2⟩ := am_br2_iff.mp h
    intro p e R s m args below meth c D ad ca tys B0 cells slots Qf E hret H locs ls hL hP hD hS
    refine lv_icmp_le (tgt := ((pc : Int) + off).toNat) E.1 E.2.1 hd (by omega) (fun q => ?_) (fun q => ?_)
    · exact hk _ _ _ _ (h1 (am_c2_le.mp q)) p e R s m args below meth c D ad ca tys B0 cells slots Qf E hret H locs ls hL hP hD hS
    · exact hk _ _ _ _ (h2 (am_n2_le.mp q)) p e R s m args below meth c D ad ca tys B0 cells slots Qf E hret H locs ls hL hP hD hS
  · exact h.elim
theorem am_s_pop {l : Launch} {L : Nat} {xs : Nat → Int} {y : Nat} {Q : Option am_V → am_N → Prop} {K : Nat → List (Option am_V) → List am_V → am_N → Prop} {pc : Nat} {lv : List (Option am_V)} {st : List am_V} {μ : am_N}  (hk : ∀ pc lv st μ, K pc lv st μ → am_AW l L xs y Q pc lv st μ) (hd : decode (am_bt y) pc = .ok (.pop, 1)) (h : am_stp l L xs y Q K (pc + 1, 28, 0, 0, 0, 0, []) lv st μ) : am_AW l L xs y Q pc lv st μ := by
  simp only [am_stp] at h
  split at h
  · intro p e R s m args below meth c D ad ca tys B0 cells slots Qf E hret H locs ls hL hP hD hS
    exact lv_pop E.1 E.2.1 hd rfl (hk _ _ _ _ h p e R s m args below meth c D ad ca tys B0 cells slots Qf E hret H locs ls hL hP hD hS)
  · exact h.elim
theorem am_s_pop2 {l : Launch} {L : Nat} {xs : Nat → Int} {y : Nat} {Q : Option am_V → am_N → Prop} {K : Nat → List (Option am_V) → List am_V → am_N → Prop} {pc : Nat} {lv : List (Option am_V)} {st : List am_V} {μ : am_N}  (hk : ∀ pc lv st μ, K pc lv st μ → am_AW l L xs y Q pc lv st μ) (hd : decode (am_bt y) pc = .ok (.pop2, 1)) (h : am_stp l L xs y Q K (pc + 1, 29, 0, 0, 0, 0, []) lv st μ) : am_AW l L xs y Q pc lv st μ := by
  simp only [am_stp] at h
  split at h
  · intro p e R s m args below meth c D ad ca tys B0 cells slots Qf E hret H locs ls hL hP hD hS
    exact lv_pop2_2 E.1 E.2.1 hd rfl (hk _ _ _ _ h p e R s m args below meth c D ad ca tys B0 cells slots Qf E hret H locs ls hL hP hD hS)
  · exact h.elim
theorem am_s_dup {l : Launch} {L : Nat} {xs : Nat → Int} {y : Nat} {Q : Option am_V → am_N → Prop} {K : Nat → List (Option am_V) → List am_V → am_N → Prop} {pc : Nat} {lv : List (Option am_V)} {st : List am_V} {μ : am_N}  (hk : ∀ pc lv st μ, K pc lv st μ → am_AW l L xs y Q pc lv st μ) (hd : decode (am_bt y) pc = .ok (.dup, 1)) (h : am_stp l L xs y Q K (pc + 1, 30, 0, 0, 0, 0, []) lv st μ) : am_AW l L xs y Q pc lv st μ := by
  simp only [am_stp] at h
  split at h
  · intro p e R s m args below meth c D ad ca tys B0 cells slots Qf E hret H locs ls hL hP hD hS
    exact lv_dup E.1 E.2.1 hd rfl (hk _ _ _ _ h p e R s m args below meth c D ad ca tys B0 cells slots Qf E hret H locs ls hL hP hD hS)
  · intro p e R s m args below meth c D ad ca tys B0 cells slots Qf E hret H locs ls hL hP hD hS
    exact lv_dup E.1 E.2.1 hd rfl (hk _ _ _ _ h p e R s m args below meth c D ad ca tys B0 cells slots Qf E hret H locs ls hL hP hD hS)
  · exact h.elim
theorem am_s_dup2 {l : Launch} {L : Nat} {xs : Nat → Int} {y : Nat} {Q : Option am_V → am_N → Prop} {K : Nat → List (Option am_V) → List am_V → am_N → Prop} {pc : Nat} {lv : List (Option am_V)} {st : List am_V} {μ : am_N}  (hk : ∀ pc lv st μ, K pc lv st μ → am_AW l L xs y Q pc lv st μ) (hd : decode (am_bt y) pc = .ok (.dup2, 1)) (h : am_stp l L xs y Q K (pc + 1, 31, 0, 0, 0, 0, []) lv st μ) : am_AW l L xs y Q pc lv st μ := by
  simp only [am_stp] at h
  split at h
  · intro p e R s m args below meth c D ad ca tys B0 cells slots Qf E hret H locs ls hL hP hD hS
    exact lv_dup2_11 E.1 E.2.1 hd rfl rfl (hk _ _ _ _ h p e R s m args below meth c D ad ca tys B0 cells slots Qf E hret H locs ls hL hP hD hS)
  · exact h.elim
theorem am_s_dup_x1 {l : Launch} {L : Nat} {xs : Nat → Int} {y : Nat} {Q : Option am_V → am_N → Prop} {K : Nat → List (Option am_V) → List am_V → am_N → Prop} {pc : Nat} {lv : List (Option am_V)} {st : List am_V} {μ : am_N}  (hk : ∀ pc lv st μ, K pc lv st μ → am_AW l L xs y Q pc lv st μ) (hd : decode (am_bt y) pc = .ok (.dup_x1, 1)) (h : am_stp l L xs y Q K (pc + 1, 32, 0, 0, 0, 0, []) lv st μ) : am_AW l L xs y Q pc lv st μ := by
  simp only [am_stp] at h
  split at h
  · intro p e R s m args below meth c D ad ca tys B0 cells slots Qf E hret H locs ls hL hP hD hS
    exact lv_dup_x1 E.1 E.2.1 hd rfl rfl (hk _ _ _ _ h p e R s m args below meth c D ad ca tys B0 cells slots Qf E hret H locs ls hL hP hD hS)
  · exact h.elim
theorem am_s_mmax {l : Launch} {L : Nat} {xs : Nat → Int} {y : Nat} {Q : Option am_V → am_N → Prop} {K : Nat → List (Option am_V) → List am_V → am_N → Prop} {pc : Nat} {lv : List (Option am_V)} {st : List am_V} {μ : am_N} {k : Nat} (hl1 : 1 ≤ am_fr y) (hl2 : 21 ≤ am_lo y) (hk : ∀ pc lv st μ, K pc lv st μ → am_AW l L xs y Q pc lv st μ) (hd : decode (am_bt y) pc = .ok (.invokestatic k, 3)) (hf : (am_ow y, k, 0) ∈ am_ma) (h : am_stp l L xs y Q K (pc + 3, 46, 0, 0, 0, 0, []) lv st μ) : am_AW l L xs y Q pc lv st μ := by
  simp only [am_stp] at h
  split at h
  · rename_i v u r
    obtain ⟨h1, h⟩ := am_ifb h
    have h1 := Nat.le_of_ble_eq_true h1
    intro p e R s m args below meth c D ad ca tys B0 cells slots Qf E hret H locs ls hL hP hD hS
    obtain ⟨e1, e2, e3, e4, e5, e6, e7, e8, e9, e10, e11, e12, e13⟩ := id E
    have kk : W p l e R s m args below meth c H locs cells slots Qf (F0 m (pc + 3) ls (.int (Int32.ofInt _) :: r.map (am_rv ad))) := hk _ _ _ _ h p e R s m args below meth c D ad ca tys B0 cells slots Qf E hret H locs ls hL hP hD hS
    refine va_mmax e1 e2 (e3.trans hL.1.symm) e4 (e5 _ (am_ma_in _ hf)) (e5 _ (am_mw_in _ (List.mem_of_getElem? (i := 0) rfl))) (e5 _ (am_mw_in _ (List.mem_of_getElem? (i := 6) rfl))) (e5 _ (am_mw_in _ (List.mem_of_getElem? (i := 1) rfl))) (by omega) (by rw [am_cats]; omega) e11 e12 hd ?_
    simp only [am_lt]
    split at kk
    · rename_i hc
      rw [if_pos hc]; exact kk
    · rename_i hc
      rw [if_neg hc]; exact kk
  · exact h.elim
theorem am_s_mmin {l : Launch} {L : Nat} {xs : Nat → Int} {y : Nat} {Q : Option am_V → am_N → Prop} {K : Nat → List (Option am_V) → List am_V → am_N → Prop} {pc : Nat} {lv : List (Option am_V)} {st : List am_V} {μ : am_N} {k : Nat} (hl1 : 1 ≤ am_fr y) (hl2 : 21 ≤ am_lo y) (hk : ∀ pc lv st μ, K pc lv st μ → am_AW l L xs y Q pc lv st μ) (hd : decode (am_bt y) pc = .ok (.invokestatic k, 3)) (hf : (am_ow y, k, 1) ∈ am_ma) (h : am_stp l L xs y Q K (pc + 3, 47, 0, 0, 0, 0, []) lv st μ) : am_AW l L xs y Q pc lv st μ := by
  simp only [am_stp] at h
  split at h
  · rename_i v u r
    obtain ⟨h1, h⟩ := am_ifb h
    have h1 := Nat.le_of_ble_eq_true h1
    intro p e R s m args below meth c D ad ca tys B0 cells slots Qf E hret H locs ls hL hP hD hS
    obtain ⟨e1, e2, e3, e4, e5, e6, e7, e8, e9, e10, e11, e12, e13⟩ := id E
    have kk : W p l e R s m args below meth c H locs cells slots Qf (F0 m (pc + 3) ls (.int (Int32.ofInt _) :: r.map (am_rv ad))) := hk _ _ _ _ h p e R s m args below meth c D ad ca tys B0 cells slots Qf E hret H locs ls hL hP hD hS
    refine va_mmin e1 e2 (e3.trans hL.1.symm) e4 (e5 _ (am_ma_in _ hf)) (e5 _ (am_mw_in _ (List.mem_of_getElem? (i := 2) rfl))) (e5 _ (am_mw_in _ (List.mem_of_getElem? (i := 6) rfl))) (e5 _ (am_mw_in _ (List.mem_of_getElem? (i := 3) rfl))) (by omega) (by rw [am_cats]; omega) e11 e12 hd ?_
    simp only [am_lt]
    split at kk
    · rename_i hc
      rw [if_pos hc]; exact kk
    · rename_i hc
      rw [if_neg hc]; exact kk
  · exact h.elim
theorem am_s_mabs {l : Launch} {L : Nat} {xs : Nat → Int} {y : Nat} {Q : Option am_V → am_N → Prop} {K : Nat → List (Option am_V) → List am_V → am_N → Prop} {pc : Nat} {lv : List (Option am_V)} {st : List am_V} {μ : am_N} {k : Nat} (hl1 : 1 ≤ am_fr y) (hl2 : 21 ≤ am_lo y) (hk : ∀ pc lv st μ, K pc lv st μ → am_AW l L xs y Q pc lv st μ) (hd : decode (am_bt y) pc = .ok (.invokestatic k, 3)) (hf : (am_ow y, k, 2) ∈ am_ma) (h : am_stp l L xs y Q K (pc + 3, 48, 0, 0, 0, 0, []) lv st μ) : am_AW l L xs y Q pc lv st μ := by
  simp only [am_stp] at h
  split at h
  · rename_i u r
    obtain ⟨h1, h⟩ := am_ifb h
    have h1 := Nat.le_of_ble_eq_true h1
    intro p e R s m args below meth c D ad ca tys B0 cells slots Qf E hret H locs ls hL hP hD hS
    obtain ⟨e1, e2, e3, e4, e5, e6, e7, e8, e9, e10, e11, e12, e13⟩ := id E
    have kk : W p l e R s m args below meth c H locs cells slots Qf (F0 m (pc + 3) ls (.int (Int32.ofInt _) :: r.map (am_rv ad))) := hk _ _ _ _ h p e R s m args below meth c D ad ca tys B0 cells slots Qf E hret H locs ls hL hP hD hS
    refine va_mabs e1 e2 (e3.trans hL.1.symm) e4 (e5 _ (am_ma_in _ hf)) (e5 _ (am_mw_in _ (List.mem_of_getElem? (i := 4) rfl))) (e5 _ (am_mw_in _ (List.mem_of_getElem? (i := 6) rfl))) (e5 _ (am_mw_in _ (List.mem_of_getElem? (i := 5) rfl))) (by omega) (by rw [am_cats]; omega) e11 e12 hd ?_
    rw [← am_0]
    simp only [am_le, am_c0]
    split at kk
    · rename_i hc
      rw [if_pos hc]; exact kk
    · rename_i hc
      rw [if_neg hc, ← Int32.ofInt_sub]; exact kk
  · exact h.elim
