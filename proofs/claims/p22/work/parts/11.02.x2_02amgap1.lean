/-- fewer ahead: no later time -/
theorem am_cnt_le (t : Nat → Int) {i j m : Nat} (hj : j < m) (h : am_cnt t i m ≤ am_cnt t j m) : t i ≤ t j := by
  by_cases e : t j < t i
  · have q := am_cnt_m t j i (Or.inl e) m
    rw [if_pos hj] at q
    omega
  · omega
/-- one more at place k -/
theorem am_ins (t : Nat → Int) {r : Nat} {k : Int} (hr : r + 1 ≤ 4) (k0 : 0 ≤ k) (k1 : k ≤ r) (H : ∀ i, i < r → (am_cnt t i r < k → t i ≤ t r) ∧ (k ≤ am_cnt t i r → t r < t i)) : am_cnt t r (r + 1) = k ∧ ∀ i, i < r → am_cnt t i (r + 1) = am_cnt t i r + (if am_cnt t i r < k then 0 else 1) := by
  have h2 : ∀ i, i < r → am_cnt t i (r + 1) = am_cnt t i r + (if am_cnt t i r < k then 0 else 1) := fun i hi => by
    have q := H i hi
    simp only [am_cnt]
    by_cases e : am_cnt t i r < k
    · have := q.1 e
      rw [if_pos e, if_neg (by omega)]
    · have := q.2 (by omega)
      rw [if_neg e, if_pos (by omega)]
  refine ⟨?_, h2⟩
  obtain ⟨i, hi, hc⟩ := am_cnt_s t (m := r + 1) hr k.toNat (by omega)
  by_cases e : i = r
  · subst e; omega
  · have q := h2 i (by omega)
    split at q <;> omega
/-- the first r are sorted in cell c, save that from place k on all stand one further -/
def am_gap (μ : am_N) (c : Nat) (t : Nat → Int) (r : Nat) (k : Int) : Prop := ∀ i : Nat, i < r → (am_cnt t i r < k → μ c (am_cnt t i r).toNat = i) ∧ (k ≤ am_cnt t i r → t r < t i ∧ μ c ((am_cnt t i r).toNat + 1) = i)
theorem am_gap0 {μ : am_N} {c : Nat} {t : Nat → Int} {r : Nat} (h : ∀ i : Nat, i < r → μ c (am_cnt t i r).toNat = i) : am_gap μ c t r r := fun i hi => ⟨fun _ => h i hi, fun q => by have := am_cnt_l t i r hi; omega⟩
/-- who stands before the gap -/
theorem am_gap_b {μ : am_N} {c : Nat} {t : Nat → Int} {r : Nat} {k : Int} (hr : r ≤ 3) (h : am_gap μ c t r k) (k0 : 0 < k) (k1 : k ≤ r) : ∃ i : Nat, i < r ∧ am_cnt t i r = k - 1 ∧ μ c (k - 1).toNat = i := by
  obtain ⟨i, hi, hc⟩ := am_cnt_s t (m := r) (by omega) (k - 1).toNat (by omega)
  have e : am_cnt t i r = k - 1 := by omega
  have q := (h i hi).1 (by omega)
  rw [e] at q
  exact ⟨i, hi, e, q⟩
theorem am_gap1 {μ : am_N} {c : Nat} {t : Nat → Int} {r : Nat} {k : Int} (hr : r ≤ 3) (h : am_gap μ c t r k) (k0 : 0 < k) (k1 : k ≤ r) (ht : t r < t (μ c (k - 1).toNat).toNat) : am_gap (am_up μ c k.toNat (μ c (k - 1).toNat)) c t r (k - 1) := by
  obtain ⟨j, hj, hc, hv⟩ := am_gap_b hr h k0 k1
  rw [hv] at ht ⊢
  have ej : ((j : Int)).toNat = j := by omega
  rw [ej] at ht
  intro i hi
  have q := h i hi
  have b := am_cnt_b t i r
  constructor
  · intro z
    rw [show am_up μ c k.toNat (j : Int) c (am_cnt t i r).toNat = μ c (am_cnt t i r).toNat from if_neg (fun w => by have := w.2; omega)]
    exact q.1 (by omega)
  · intro z
    by_cases e : am_cnt t i r = k - 1
    · have d : i = j := by
        by_cases d : i = j
        · exact d
        · exact absurd (by rw [e, hc]) (am_cnt_ne t hi hj d)
      subst d
      refine ⟨ht, ?_⟩
      rw [show (am_cnt t i r).toNat + 1 = k.toNat by omega]
      exact if_pos ⟨rfl, rfl⟩
    · have q2 := q.2 (by omega)
      refine ⟨q2.1, ?_⟩
      rw [show am_up μ c k.toNat (j : Int) c ((am_cnt t i r).toNat + 1) = μ c ((am_cnt t i r).toNat + 1) from if_neg (fun w => by have := w.2; omega)]
      exact q2.2
