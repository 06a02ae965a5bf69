theorem am_s_return {l : Launch} {L : Nat} {xs : Nat → Int} {y : Nat} {Q : Option am_V → am_N → Prop} {K : Nat → List (Option am_V) → List am_V → am_N → Prop} {pc : Nat} {lv : List (Option am_V)} {st : List am_V} {μ : am_N}  (hk : ∀ pc lv st μ, K pc lv st μ → am_AW l L xs y Q pc lv st μ) (hd : decode (am_bt y) pc = .ok (.return_, 1)) (hr : am_re y = none) (h : am_stp l L xs y Q K (0, 42, 0, 0, 0, 0, []) lv st μ) : am_AW l L xs y Q pc lv st μ := by
  simp only [am_stp] at h
  split at h
  · intro p e R s m args below meth c D ad ca tys B0 cells slots Qf E hret H locs ls hL hP hD hS
    exact hret none μ H locs pc ls h.2 hP hD hS ⟨hd, hr⟩
  · exact h.elim
theorem am_s_ireturn {l : Launch} {L : Nat} {xs : Nat → Int} {y : Nat} {Q : Option am_V → am_N → Prop} {K : Nat → List (Option am_V) → List am_V → am_N → Prop} {pc : Nat} {lv : List (Option am_V)} {st : List am_V} {μ : am_N}  (hk : ∀ pc lv st μ, K pc lv st μ → am_AW l L xs y Q pc lv st μ) (hd : decode (am_bt y) pc = .ok (.ireturn, 1)) (hr : am_re y = some .int) (h : am_stp l L xs y Q K (0, 43, 0, 0, 0, 0, []) lv st μ) : am_AW l L xs y Q pc lv st μ := by
  simp only [am_stp] at h
  split at h
  · rename_i v
    intro p e R s m args below meth c D ad ca tys B0 cells slots Qf E hret H locs ls hL hP hD hS
    exact hret (some (.inl v)) μ H locs pc ls h.2 hP hD hS ⟨hd, Or.inl hr⟩
  · exact h.elim
theorem am_s_ireturnz {l : Launch} {L : Nat} {xs : Nat → Int} {y : Nat} {Q : Option am_V → am_N → Prop} {K : Nat → List (Option am_V) → List am_V → am_N → Prop} {pc : Nat} {lv : List (Option am_V)} {st : List am_V} {μ : am_N}  (hk : ∀ pc lv st μ, K pc lv st μ → am_AW l L xs y Q pc lv st μ) (hd : decode (am_bt y) pc = .ok (.ireturn, 1)) (hr : am_re y = some .boolean) (h : am_stp l L xs y Q K (0, 43, 0, 0, 1, 0, []) lv st μ) : am_AW l L xs y Q pc lv st μ := by
  simp only [am_stp] at h
  split at h
  · rename_i v
    intro p e R s m args below meth c D ad ca tys B0 cells slots Qf E hret H locs ls hL hP hD hS
    exact hret (some (.inl v)) μ H locs pc ls h.2 hP hD hS ⟨hd, Or.inr ⟨hr, h.1⟩⟩
  · exact h.elim
theorem am_s_lreturn {l : Launch} {L : Nat} {xs : Nat → Int} {y : Nat} {Q : Option am_V → am_N → Prop} {K : Nat → List (Option am_V) → List am_V → am_N → Prop} {pc : Nat} {lv : List (Option am_V)} {st : List am_V} {μ : am_N}  (hk : ∀ pc lv st μ, K pc lv st μ → am_AW l L xs y Q pc lv st μ) (hd : decode (am_bt y) pc = .ok (.lreturn, 1)) (hr : am_re y = some .long) (h : am_stp l L xs y Q K (0, 44, 0, 0, 0, 0, []) lv st μ) : am_AW l L xs y Q pc lv st μ := by
  simp only [am_stp] at h
  split at h
  · rename_i v
    intro p e R s m args below meth c D ad ca tys B0 cells slots Qf E hret H locs ls hL hP hD hS
    exact hret (some (.inr (.inl v))) μ H locs pc ls h.2 hP hD hS ⟨hd, hr⟩
  · exact h.elim
theorem am_s_table {l : Launch} {L : Nat} {xs : Nat → Int} {y : Nat} {Q : Option am_V → am_N → Prop} {K : Nat → List (Option am_V) → List am_V → am_N → Prop} {pc : Nat} {lv : List (Option am_V)} {st : List am_V} {μ : am_N} {d lo hi : Int} {offs : Array Int} {len : Nat} (hk : ∀ pc lv st μ, K pc lv st μ → am_AW l L xs y Q pc lv st μ) (hd : decode (am_bt y) pc = .ok (.tableswitch d lo hi offs, len)) (h0 : 0 ≤ (pc : Int) + d) (h1 : ∀ o ∈ offs.toList, 0 ≤ (pc : Int) + o) (h2 : (offs.toList.length : Int) = hi - lo + 1) (h : am_stp l L xs y Q K (0, 45, ((pc : Int) + d).toNat, 0, 0, 0, am_tb pc lo offs.toList) lv st μ) : am_AW l L xs y Q pc lv st μ := by
  simp only [am_stp] at h
  split at h
  · rename_i v r
    intro p e R s m args below meth c D ad ca tys B0 cells slots Qf E hret H locs ls hL hP hD hS
    rcases am_sw_tb h with ⟨o, ho, hK⟩ | ⟨ho, hK⟩
    · have hlo : ¬ am_c v < lo := ho.1
      have ho2 := ho.2
      have hmem : o ∈ offs.toList := List.mem_of_getElem? ho2
      have hlt : (am_c v - lo).toNat < offs.toList.length := (List.getElem?_eq_some_iff.mp ho2).1
      exact lv_tableIn (tgt := ((pc : Int) + o).toNat) E.1 E.2.1 hd (by rw [am_toInt]; exact hlo) (by rw [am_toInt]; omega) (by rw [am_toInt, ← Array.getElem?_toList]; exact ho2) (by have := h1 o hmem; omega) (hk _ _ _ _ hK p e R s m args below meth c D ad ca tys B0 cells slots Qf E hret H locs ls hL hP hD hS)
    · exact lv_tableOut (tgt := ((pc : Int) + d).toNat) E.1 E.2.1 hd (by rw [am_toInt]; rcases ho with q | q; exact Or.inl q; exact Or.inr (by omega)) (by omega) (hk _ _ _ _ hK p e R s m args below meth c D ad ca tys B0 cells slots Qf E hret H locs ls hL hP hD hS)
  · exact h.elim
