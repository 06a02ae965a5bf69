theorem sb_R_KR : ∀ k j, mKR k j = false → mAR k j = false := fun k j h => Bool.or_eq_false_iff.mpr ⟨sb_T_KR k j h, mo_r k j h⟩
