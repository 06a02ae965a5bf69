theorem am_gap2 {μ : am_N} {c : Nat} {t : Nat → Int} {r : Nat} {k : Int} (hr : r ≤ 3) (h : am_gap μ c t r k) (k0 : 0 ≤ k) (k1 : k ≤ r) (ht : 0 < k → t (μ c (k - 1).toNat).toNat ≤ t r) : ∀ i : Nat, i < r + 1 → am_up μ c k.toNat r c (am_cnt t i (r + 1)).toNat = i := by
  have H : ∀ i, i < r → (am_cnt t i r < k → t i ≤ t r) ∧ (k ≤ am_cnt t i r → t r < t i) := fun i hi => by
    refine ⟨fun z => ?_, fun z => ((h i hi).2 z).1⟩
    have b := am_cnt_b t i r
    obtain ⟨j, hj, hc, hv⟩ := am_gap_b hr h (by omega) k1
    have q := ht (by omega)
    rw [hv, show ((j : Int)).toNat = j by omega] at q
    have p : t i ≤ t j := am_cnt_le t hj (by omega)
    omega
  obtain ⟨a, b⟩ := am_ins t (by omega : r + 1 ≤ 4) k0 k1 H
  intro i hi
  by_cases e : i = r
  · subst e
    rw [a]
    exact if_pos ⟨rfl, rfl⟩
  · have q := h i (by omega)
    have c0 := am_cnt_b t i r
    rw [b i (by omega)]
    by_cases e2 : am_cnt t i r < k
    · rw [if_pos e2, show am_cnt t i r + 0 = am_cnt t i r by omega]
      rw [show am_up μ c k.toNat (r : Int) c (am_cnt t i r).toNat = μ c (am_cnt t i r).toNat from if_neg (fun w => by have := w.2; omega)]
      exact q.1 e2
    · rw [if_neg e2, show (am_cnt t i r + 1).toNat = (am_cnt t i r).toNat + 1 by omega]
      rw [show am_up μ c k.toNat (r : Int) c ((am_cnt t i r).toNat + 1) = μ c ((am_cnt t i r).toNat + 1) from if_neg (fun w => by have := w.2; omega)]
      exact (q.2 (by omega)).2
