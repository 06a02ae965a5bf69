theorem am_s_putfield {l : Launch} {L : Nat} {xs : Nat → Int} {y : Nat} {Q : Option am_V → am_N → Prop} {K : Nat → List (Option am_V) → List am_V → am_N → Prop} {pc : Nat} {lv : List (Option am_V)} {st : List am_V} {μ : am_N} {k ci b : Nat} (hk : ∀ pc lv st μ, K pc lv st μ → am_AW l L xs y Q pc lv st μ) (hd : decode (am_bt y) pc = .ok (.putfield k, 3)) (hf : (am_ow y, k, ci, b) ∈ am_fl) (hfin : (am_cT ci b).2.2.2 = false) (hty : am_ty ci b = .int) (h : am_stp l L xs y Q K (pc + 3, 8, ci, b, 0, 0, []) lv st μ) : am_AW l L xs y Q pc lv st μ := by
  simp only [am_stp] at h
  split at h
  · rename_i v a r
    split at h
    · rename_i t fs hsh
      obtain ⟨ht, h⟩ := am_ifb h
      have ht := Nat.eq_of_beq_eq_true ht
      split at h
      · rename_i hb
        intro p e R s m args below meth c D ad ca tys B0 cells slots Qf E hret H locs ls hL hP hD hS
        obtain ⟨hc, hk1, hk2⟩ := am_fl_ok hf
        obtain ⟨q1, q2⟩ := am_ty_ok hf
        refine va_put (D := D) (ty := .int) (v := .int (Int32.ofInt v)) E.1 E.2.1 E.2.2.2.2.1 hk2 (am_ty ci) q1 q2 E.2.2.2.1 E.2.2.2.2.2.1 hP hD hS a (am_ob hsh ht) hc b hk1 (E.2.2.2.2.1 _ (am_fl_in _ hf)) (fun _ h9 => h9) hfin (by rw [q1 b hk1, hty]) rfl rfl (by rw [List.length_mapIdx]; exact (List.getElem?_eq_some_iff.mp hb).1) hd (fun H1 locs1 hP hD hS => ?_)
        rw [am_ob_set hsh ht hb] at hP hD
        exact hk _ _ _ _ h p e R s m args below meth c D ad ca tys B0 cells slots Qf E hret H1 locs1 ls hL hP hD hS
      · exact h.elim
    · exact h.elim
  · exact h.elim
