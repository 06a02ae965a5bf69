theorem am_s_iaload {l : Launch} {L : Nat} {xs : Nat → Int} {y : Nat} {Q : Option am_V → am_N → Prop} {K : Nat → List (Option am_V) → List am_V → am_N → Prop} {pc : Nat} {lv : List (Option am_V)} {st : List am_V} {μ : am_N}  (hk : ∀ pc lv st μ, K pc lv st μ → am_AW l L xs y Q pc lv st μ) (hd : decode (am_bt y) pc = .ok (.iaload, 1)) (h : am_stp l L xs y Q K (pc + 1, 9, 0, 0, 0, 0, []) lv st μ) : am_AW l L xs y Q pc lv st μ := by
  simp only [am_stp] at h
  split at h
  · rename_i i k r
    split at h
    · rename_i n w hsh
      obtain ⟨h1, h⟩ := h
      intro p e R s m args below meth c D ad ca tys B0 cells slots Qf E hret H locs ls hL hP hD hS
      obtain ⟨t0, ht0⟩ := (E.2.2.2.2.2.2.1 k _ hsh).1 rfl
      have kk := hk _ _ _ _ h p e R s m args below meth c D ad ca tys B0 cells slots Qf E hret H locs ls hL hP hD hS
      refine va_iald E.1 E.2.1 E.2.2.2.2.2.1 hP k t0 (am_ar hsh) ht0 (am_in h1) hd ?_
      rw [am_cl_nat]
      exact kk
    · exact h.elim
    · rename_i hsh
      obtain ⟨⟨h0, rfl⟩, h1, h⟩ := h
      intro p e R s m args below meth c D ad ca tys B0 cells slots Qf E hret H locs ls hL hP hD hS
      obtain ⟨s1, s2, s3⟩ := E.2.2.2.2.2.2.2.2.2.2.2.2 h0
      have kk := hk _ _ _ _ h p e R s m args below meth c D ad ca tys B0 cells slots Qf E hret H locs ls hL hP hD hS
      refine va_sld E.1 E.2.1 s1 s2 (Nat.not_le.mpr s3) hS (am_in h1) hd ?_
      rw [am_cl_nat]
      exact kk
  · exact h.elim
theorem am_s_iastore {l : Launch} {L : Nat} {xs : Nat → Int} {y : Nat} {Q : Option am_V → am_N → Prop} {K : Nat → List (Option am_V) → List am_V → am_N → Prop} {pc : Nat} {lv : List (Option am_V)} {st : List am_V} {μ : am_N}  (hk : ∀ pc lv st μ, K pc lv st μ → am_AW l L xs y Q pc lv st μ) (hd : decode (am_bt y) pc = .ok (.iastore, 1)) (h : am_stp l L xs y Q K (pc + 1, 10, 0, 0, 0, 0, []) lv st μ) : am_AW l L xs y Q pc lv st μ := by
  simp only [am_stp] at h
  split at h
  · rename_i v i k r
    split at h
    · rename_i n w hsh
      obtain ⟨h1, h⟩ := h
      intro p e R s m args below meth c D ad ca tys B0 cells slots Qf E hret H locs ls hL hP hD hS
      obtain ⟨t0, ht0⟩ := (E.2.2.2.2.2.2.1 k _ hsh).1 rfl
      refine va_iast E.1 E.2.1 E.2.2.2.2.2.1 hP hD hS k t0 (am_ar hsh) ht0 (am_in h1) hd (fun H1 locs1 hP hD hS => ?_)
      rw [am_ar_set hsh, am_cl_nat] at hP hD
      exact hk _ _ _ _ h p e R s m args below meth c D ad ca tys B0 cells slots Qf E hret H1 locs1 ls hL hP hD hS
    · exact h.elim
  · exact h.elim
theorem am_s_aaload {l : Launch} {L : Nat} {xs : Nat → Int} {y : Nat} {Q : Option am_V → am_N → Prop} {K : Nat → List (Option am_V) → List am_V → am_N → Prop} {pc : Nat} {lv : List (Option am_V)} {st : List am_V} {μ : am_N}  (hk : ∀ pc lv st μ, K pc lv st μ → am_AW l L xs y Q pc lv st μ) (hd : decode (am_bt y) pc = .ok (.aaload, 1)) (h : am_stp l L xs y Q K (pc + 1, 11, 0, 0, 0, 0, []) lv st μ) : am_AW l L xs y Q pc lv st μ := by
  simp only [am_stp] at h
  split at h
  · rename_i i k r
    split at h
    · rename_i fs hsh
      obtain ⟨h1, h⟩ := h
      intro p e R s m args below meth c D ad ca tys B0 cells slots Qf E hret H locs ls hL hP hD hS
      obtain ⟨t0, ht0⟩ := (E.2.2.2.2.2.2.1 k _ hsh).2 rfl
      have hin := am_in (i := i) (n := fs.length) h1
      have hlt : (Int32.ofInt i).toNatClampNeg < fs.length := Nat.not_le.mp fun q => hin (Or.inr q)
      have hlt2 : (am_c i).toNat < fs.length := by rw [← am_cl_nat]; exact hlt
      have hj := List.getElem?_eq_getElem hlt2
      have kk := hk _ _ _ _ (h _ hj) p e R s m args below meth c D ad ca tys B0 cells slots Qf E hret H locs ls hL hP hD hS
      refine W.aald (v := va_rf ((fs[(Int32.ofInt i).toNatClampNeg]?).map ad)) (ty := .array .int) E.1 E.2.1 (hP k _ (am_arq hsh)) ((E.2.2.2.2.2.1.2 t0 _ ht0).1 fs.length (fun j => va_rf ((fs[j]?).map ad))) rfl (fun q => by cases q) (by show ¬ (_ < 0 ∨ (arrV _ _ _).slots.size ≤ _); rw [arrV_size]; exact hin) (by show (arrV _ _ _).slots[_]? = _; rw [arrV_read _ _ hlt]) rfl rfl hd ?_
      rw [am_cl_nat, hj]
      exact kk
    · exact h.elim
  · exact h.elim
