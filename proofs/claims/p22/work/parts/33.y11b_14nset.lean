theorem n_set {l : Launch} {ν : am_N} {Q : Option am_V → am_N → Prop} (w v : Int) (cw : am_c w = w) (cv : am_c v = v) (k1 : (0 ≤ w ∧ w ≤ 3) → fp_sb w v → ∀ μ' : am_N, (∀ a b, ¬(a = 83 ∧ 10 ≤ b ∧ b ≤ 13) → ¬(a = 83 ∧ b = 33) → μ' a b = ν a b) → (∀ b : Nat, b < 4 → μ' 83 (10 + b) = if b = fp_sl w then v else ν 83 (10 + b)) → μ' 83 33 = 0 → Q (some (.inl (ν 83 (10 + fp_sl w)))) μ') (k0 : ¬((0 ≤ w ∧ w ≤ 3) ∧ fp_sb w v) → ∀ (r : Int) (μ' : am_N), (∀ a b, a ≠ 84 → μ' a b = ν a b) → Q (some (.inl r)) μ') : am_Does l 176 [.inr (.inr 83), .inl w, .inl v] ν Q := by
  by_cases h : 0 ≤ w ∧ w ≤ 3
  · rcases (show w = 0 ∨ w = 1 ∨ w = 2 ∨ w = 3 by omega) with e | e | e | e
    · exact n_set_0 w v cw cv e k1 k0
    · exact n_set_1 w v cw cv e k1 k0
    · exact n_set_2 w v cw cv e k1 k0
    · exact n_set_3 w v cw cv e k1 k0
  · exact n_set_9 w v cw cv h k1 k0
