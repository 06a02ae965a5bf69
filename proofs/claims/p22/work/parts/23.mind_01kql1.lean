theorem kq_l1 {a c : Nat} {i : Int} {ν μ : am_N} {x : Nat} {z v : Int} (ha : a ≠ 98) (ha2 : a ≠ 83) (h0 : 0 ≤ i) (h : ∀ p q, μ p q = kq_l a i.toNat c ν p q) (hx : x = i.toNat) (hv : v = ν 98 (c + i.toNat)) (hz : z = ((c + i.toNat : Nat) : Int) + 1) : ∀ p q, am_up (am_up μ a x v) 83 27 z p q = kq_l a (i + 1).toNat c ν p q := fun p q => by
  rw [show (i + 1).toNat = i.toNat + 1 by omega]
  subst hx hv hz
  generalize i.toNat = n at h ⊢
  by_cases h1 : p = 83 ∧ q = 27
  · obtain ⟨rfl, rfl⟩ := h1
    rw [am_upS, if_pos ⟨rfl, rfl⟩]
    unfold kq_l
    rw [if_neg (by omega), if_pos ⟨rfl, rfl⟩]
    omega
  · rw [am_upE h1]
    by_cases h2 : p = a ∧ q = n
    · obtain ⟨rfl, rfl⟩ := h2
      rw [am_upS, if_pos ⟨rfl, rfl⟩]
      unfold kq_l
      rw [if_pos (by omega)]
    · rw [am_upE h2, h]
      unfold kq_l
      by_cases h3 : p = a ∧ q < n
      · rw [if_pos h3, if_pos (by omega)]
      · rw [if_neg h3, if_neg h1, if_neg (by omega), if_neg h1]
