/-! the model's image and races in mind: what is kept, what comes back (exactly) -/
def kq_s (a n c : Nat) (μ : am_N) : am_N := fun p q => if p = 98 ∧ c ≤ q ∧ q < c + n then μ a (q - c) else if p = 83 ∧ q = 27 then ((c + n : Nat) : Int) else μ p q
def kq_l (a n c : Nat) (μ : am_N) : am_N := fun p q => if p = a ∧ q < n then μ 98 (c + q) else if p = 83 ∧ q = 27 then ((c + n : Nat) : Int) else μ p q
theorem kq_s_ne {a n c p q : Nat} {μ : am_N} (h1 : ¬ (p = 98 ∧ c ≤ q ∧ q < c + n)) (h2 : ¬ (p = 83 ∧ q = 27)) : kq_s a n c μ p q = μ p q := by unfold kq_s; rw [if_neg h1, if_neg h2]
theorem kq_l_ne {a n c p q : Nat} {μ : am_N} (h1 : ¬ (p = a ∧ q < n)) (h2 : ¬ (p = 83 ∧ q = 27)) : kq_l a n c μ p q = μ p q := by unfold kq_l; rw [if_neg h1, if_neg h2]
theorem kq_s0 {a c : Nat} {μ ν : am_N} {i : Int} (hi : i = 0) (h7 : ν 83 27 = (c : Int)) (h : ∀ p q, μ p q = ν p q) : ∀ p q, μ p q = kq_s a i.toNat c ν p q := fun p q => by
  subst hi
  unfold kq_s
  rw [if_neg (by simp only [Int.toNat_zero]; omega)]
  by_cases e : p = 83 ∧ q = 27
  · rw [if_pos e, h, e.1, e.2, h7]; rfl
  · rw [if_neg e, h]
theorem kq_l0 {a c : Nat} {μ ν : am_N} {i : Int} (hi : i = 0) (h7 : ν 83 27 = (c : Int)) (h : ∀ p q, μ p q = ν p q) : ∀ p q, μ p q = kq_l a i.toNat c ν p q := fun p q => by
  subst hi
  unfold kq_l
  rw [if_neg (by simp only [Int.toNat_zero]; omega)]
  by_cases e : p = 83 ∧ q = 27
  · rw [if_pos e, h, e.1, e.2, h7]; rfl
  · rw [if_neg e, h]
theorem kq_s1 {a c : Nat} {i : Int} {ν μ : am_N} {x : Nat} {z v : Int} (ha : a ≠ 98) (h0 : 0 ≤ i) (h : ∀ p q, μ p q = kq_s a i.toNat c ν p q) (hx : x = c + i.toNat) (hv : v = ν a i.toNat) (hz : z = ((c + i.toNat : Nat) : Int) + 1) : ∀ p q, am_up (am_up μ 98 x v) 83 27 z p q = kq_s a (i + 1).toNat c ν p q := fun p q => by
  rw [show (i + 1).toNat = i.toNat + 1 by omega]
  subst hx hv hz
  generalize i.toNat = n at h ⊢
  by_cases h1 : p = 83 ∧ q = 27
  · obtain ⟨rfl, rfl⟩ := h1
    rw [am_upS, if_pos ⟨rfl, rfl⟩]
    unfold kq_s
    rw [if_neg (by omega), if_pos ⟨rfl, rfl⟩]
    omega
  · rw [am_upE h1]
    by_cases h2 : p = 98 ∧ q = c + n
    · obtain ⟨rfl, rfl⟩ := h2
      rw [am_upS, if_pos ⟨rfl, rfl⟩]
      unfold kq_s
      rw [if_pos (by omega), Nat.add_sub_cancel_left]
    · rw [am_upE h2, h]
      unfold kq_s
      by_cases h3 : p = 98 ∧ c ≤ q ∧ q < c + n
      · rw [if_pos h3, if_pos (by omega)]
      · rw [if_neg h3, if_neg h1, if_neg (by omega), if_neg h1]
