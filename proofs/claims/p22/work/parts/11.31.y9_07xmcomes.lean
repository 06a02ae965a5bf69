theorem x_mcomes {l : Launch} {ν : am_N} {Q : Option am_V → am_N → Prop} (t : Nat → Int) (n p i : Int) (n0 : 0 ≤ n) (n1 : n ≤ 96) (hL : ∀ i : Nat, (i : Int) < n → 0 ≤ t i ∧ t i ≤ 255) (p0 : 0 ≤ p) (p1 : p < n) (hb : 0 ≤ am_bh t n p) (i0 : 0 ≤ i) (i1 : i < 48) (el : ν 95 i.toNat = am_nx t n p) (td : fp_td t n p (ν 97) (5 * i.toNat)) (hw : fp_fw 999 (mv ν)) (h3 : sx_3 ν 100) (k1 : fp_ok t n (mv ν) p → ∀ μ' : am_N, (∀ a b, ¬(85 ≤ a ∧ a ≤ 90) → ¬(a = 83 ∧ 10 ≤ b ∧ b ≤ 14) → a ≠ 99 → a ≠ 100 → μ' a b = ν a b) → mv μ' = fp_cf t n (mv ν) p → sx_3 μ' 100 → Q (some (.inl 1)) μ') (k0 : ¬ fp_ok t n (mv ν) p → ∀ μ' : am_N, (∀ a b, ¬(85 ≤ a ∧ a ≤ 90) → ¬(a = 83 ∧ 10 ≤ b ∧ b ≤ 14) → a ≠ 99 → a ≠ 100 → μ' a b = ν a b) → sx_3 μ' 100 → Q (some (.inl 0)) μ') : am_Does l 155 [.inr (.inr 83), .inl i] ν Q := by
  have hc : 0 ≤ am_ld (am_nx t n p) := by
    by_cases z : 0 ≤ am_ld (am_nx t n p)
    · exact z
    · rw [am_bh_1 (by omega)] at hb; omega
  have hd : am_nx t n p = 119 ∨ am_nx t n p = 114 ∨ am_nx t n p = 109 ∨ am_nx t n p = 115 ∨ am_nx t n p = 103 := by
    unfold am_ld at hc
    repeat' split at hc
    all_goals omega
  rcases hd with h | h | h | h | h
  · exact x_mc_119 t n p i n0 n1 hL p0 p1 hb i0 i1 el td hw h3 h k1 k0
  · exact x_mc_114 t n p i n0 n1 hL p0 p1 hb i0 i1 el td hw h3 h k1 k0
  · exact x_mc_109 t n p i n0 n1 hL p0 p1 hb i0 i1 el td hw h3 h k1 k0
  · exact x_mc_115 t n p i n0 n1 hL p0 p1 hb i0 i1 el td hw h3 h k1 k0
  · exact x_mc_103 t n p i n0 n1 hL p0 p1 hb i0 i1 el td hw h3 h k1 k0
