theorem x_statement {l : Launch} {ν : am_N} {Q : Option am_V → am_N → Prop} (t : Nat → Int) (n q s : Int) (ht : ν 94 = t) (hn : ν 83 21 = n) (hq : ν 83 22 = q) (n0 : 0 ≤ n) (n1 : n ≤ 96) (hL : ∀ i : Nat, (i : Int) < n → 0 ≤ t i ∧ t i ≤ 255) (es : ν 83 23 = s) (s0 : 0 ≤ s) (s1 : s < 48) (a0 : 0 ≤ q) (a1 : q ≤ n) (k1 : 0 ≤ am_bh t n q → ∀ μ' : am_N, (∀ a b, ¬(a = 83 ∧ b = 22) → ¬(a = 95 ∧ b = s.toNat) → ¬(a = 96 ∧ b = s.toNat) → ¬(a = 97 ∧ 5 * s.toNat ≤ b ∧ b < 5 * s.toNat + 5) → μ' a b = ν a b) → μ' 83 22 = am_bh t n q → μ' 95 s.toNat = am_nx t n q → μ' 96 s.toNat = q → fp_td t n q (μ' 97) (5 * s.toNat) → Q (some (.inl 1)) μ') (k0 : am_bh t n q < 0 → ∀ μ' : am_N, (∀ a b, ¬(a = 83 ∧ b = 22) → ¬(a = 95 ∧ b = s.toNat) → ¬(a = 96 ∧ b = s.toNat) → ¬(a = 97 ∧ 5 * s.toNat ≤ b ∧ b < 5 * s.toNat + 5) → μ' a b = ν a b) → μ' 83 22 = -1 - am_bh t n q → Q (some (.inl 0)) μ') : am_Does l 153 [.inr (.inr 83)] ν Q := by
  by_cases hc : am_ld (am_nx t n q) < 0
  · exact x_st_no t n q s ht hn hq n0 n1 hL es s0 s1 a0 a1 hc k1 k0
  · have hd : am_nx t n q = 119 ∨ am_nx t n q = 114 ∨ am_nx t n q = 109 ∨ am_nx t n q = 115 ∨ am_nx t n q = 103 := by
      unfold am_ld at hc
      repeat' split at hc
      all_goals omega
    rcases hd with h | h | h | h | h
    · exact x_st_119 t n q s ht hn hq n0 n1 hL es s0 s1 a0 a1 h k1 k0
    · exact x_st_114 t n q s ht hn hq n0 n1 hL es s0 s1 a0 a1 h k1 k0
    · exact x_st_109 t n q s ht hn hq n0 n1 hL es s0 s1 a0 a1 h k1 k0
    · exact x_st_115 t n q s ht hn hq n0 n1 hL es s0 s1 a0 a1 h k1 k0
    · exact x_st_103 t n q s ht hn hq n0 n1 hL es s0 s1 a0 a1 h k1 k0
