theorem sb_T_KR : ∀ k j, mKR k j = false → mT k j = false := fun k j h => sb_T_K k j (mo_l k j h)
