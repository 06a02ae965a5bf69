theorem s_setF {l : Launch} {ν : am_N} {Q : Option am_V → am_N → Prop} (w v : Int) (cw : am_c w = w) (cv : am_c v = v) (k1 : (0 ≤ w ∧ w ≤ 3) → fp_sb w v → ∀ μ' : am_N, (∀ a b, ¬(1 ≤ a ∧ a ≤ 7) → ¬(a = 62 ∧ b = 3) → μ' a b = ν a b) → fv μ' 1 = fp_ct (am_up (fv ν 1) 0 (fp_sl w) v) → μ' 62 3 = 0 → Q (some (.inl (ν 1 (fp_sl w)))) μ') (k0 : ¬((0 ≤ w ∧ w ≤ 3) ∧ fp_sb w v) → ∀ (r : Int) (μ' : am_N), (∀ a b, a ≠ 78 → μ' a b = ν a b) → Q (some (.inl r)) μ') : am_Does l 66 [.inr (.inr 0), .inl w, .inl v] ν Q :=
  s_set w v cw cv (fun a1 a2 => k1 a1 a2 _ (fun a b q1 q2 => (am_uE q2).trans (am_upN (by omega))) (fv_d.trans fv_up0) (if_pos ⟨rfl, rfl⟩)) k0
theorem n_setF {l : Launch} {ν : am_N} {Q : Option am_V → am_N → Prop} (w v : Int) (cw : am_c w = w) (cv : am_c v = v) (k1 : (0 ≤ w ∧ w ≤ 3) → fp_sb w v → ∀ μ' : am_N, (∀ a b, ¬(85 ≤ a ∧ a ≤ 90) → ¬(a = 83 ∧ (10 ≤ b ∧ b ≤ 14 ∨ b = 33)) → μ' a b = ν a b) → mv μ' = fp_ct (am_up (mv ν) 0 (fp_sl w) v) → μ' 83 33 = 0 → Q (some (.inl (ν 83 (10 + fp_sl w)))) μ') (k0 : ¬((0 ≤ w ∧ w ≤ 3) ∧ fp_sb w v) → ∀ (r : Int) (μ' : am_N), (∀ a b, a ≠ 84 → μ' a b = ν a b) → Q (some (.inl r)) μ') : am_Does l 176 [.inr (.inr 83), .inl w, .inl v] ν Q :=
  n_set w v cw cv (fun a1 a2 μ' f e z => k1 a1 a2 μ' (fun a b q1 q2 => f a b (by omega) (by omega)) (by
    have s4 : fp_sl w < 4 := by unfold fp_sl; (repeat' split) <;> decide
    refine fp_ct_e (fun b hb => ?_) (fun a b q1 q2 hb => ?_)
    · show μ' 83 (10 + b) = _
      by_cases d : b < 4
      · rw [e b d]
        by_cases y : b = fp_sl w
        · rw [if_pos y, am_upS, if_pos ⟨rfl, y⟩]
        · rw [if_neg y, am_upM y]; exact (mv_0 hb).symm
      · rw [f 83 (10 + b) (by omega) (by omega), am_upM (by omega)]; exact (mv_0 hb).symm
    · rw [am_upN (by omega)]
      obtain ⟨a, rfl⟩ : ∃ x, a = x + 1 := ⟨a - 1, by omega⟩
      exact (f (85 + a) b (by omega) (by omega)).trans (mv_a (by omega) hb).symm) z) k0
