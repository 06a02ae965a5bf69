theorem x_st_no {l : Launch} {ν : am_N} {Q : Option am_V → am_N → Prop} (t : Nat → Int) (n q s : Int) (ht : ν 94 = t) (hn : ν 83 21 = n) (hq : ν 83 22 = q) (n0 : 0 ≤ n) (n1 : n ≤ 96) (hL : ∀ i : Nat, (i : Int) < n → 0 ≤ t i ∧ t i ≤ 255) (es : ν 83 23 = s) (s0 : 0 ≤ s) (s1 : s < 48) (a0 : 0 ≤ q) (a1 : q ≤ n) (hc : am_ld (am_nx t n q) < 0) (k1 : 0 ≤ am_bh t n q → ∀ μ' : am_N, (∀ a b, ¬(a = 83 ∧ b = 22) → ¬(a = 95 ∧ b = s.toNat) → ¬(a = 96 ∧ b = s.toNat) → ¬(a = 97 ∧ 5 * s.toNat ≤ b ∧ b < 5 * s.toNat + 5) → μ' a b = ν a b) → μ' 83 22 = am_bh t n q → μ' 95 s.toNat = am_nx t n q → μ' 96 s.toNat = q → fp_td t n q (μ' 97) (5 * s.toNat) → Q (some (.inl 1)) μ') (k0 : am_bh t n q < 0 → ∀ μ' : am_N, (∀ a b, ¬(a = 83 ∧ b = 22) → ¬(a = 95 ∧ b = s.toNat) → ¬(a = 96 ∧ b = s.toNat) → ¬(a = 97 ∧ 5 * s.toNat ≤ b ∧ b < 5 * s.toNat + 5) → μ' a b = ν a b) → μ' 83 22 = -1 - am_bh t n q → Q (some (.inl 0)) μ') : am_Does l 153 [.inr (.inr 83)] ν Q := by
  refine am_Does_of (Nat.le_of_ble_eq_true rfl) (Nat.le_of_ble_eq_true rfl) (Nat.le_of_ble_eq_true rfl) ?_
  have l0 : am_c 0 = 0 := rfl
  have l1 : am_c 1 = 1 := rfl
  have l2 : am_c 2 = 2 := rfl
  have l3 : am_c 3 = 3 := rfl
  have l4 : am_c 4 = 4 := rfl
  have l5 : am_c 5 = 5 := rfl
  have l8 : am_c 8 = 8 := rfl
  have l10 : am_c 10 = 10 := rfl
  have l20 : am_c 20 = 20 := rfl
  have l40 : am_c 40 = 40 := rfl
  have l48 : am_c 48 = 48 := rfl
  have l57 : am_c 57 = 57 := rfl
  have l59 : am_c 59 = 59 := rfl
  have l103 : am_c 103 = 103 := rfl
  have l109 : am_c 109 = 109 := rfl
  have l114 : am_c 114 = 114 := rfl
  have l115 : am_c 115 = 115 := rfl
  have l119 : am_c 119 = 119 := rfl
  have l200 : am_c 200 = 200 := rfl
  have l999 : am_c 999 = 999 := rfl
  have hd : am_nx t n q ≠ 119 ∧ am_nx t n q ≠ 114 ∧ am_nx t n q ≠ 109 ∧ am_nx t n q ≠ 115 ∧ am_nx t n q ≠ 103 := by
    refine ⟨?_, ?_, ?_, ?_, ?_⟩ <;> (intro z; rw [z] at hc; exact absurd hc (by decide))
  have hb := am_bh_1 hc
  refine am_go (ct := fun _ => false) am_oX7_statement 300 ?_
  conv => whnf
  repeat' first
    | (refine (?_ : am_wp _ _ _ _ _ _ _ _ _ _ _ _); conv => whnf)
    | (refine (?_ : am_sw _ _ _ _); conv => whnf)
    | refine And.intro trivial ?_
    | exact trivial
    | ((with_reducible refine (?_ : am_Does _ 149 _ _ _)); refine x_next t n q ?_ ?_ ?_ n0 n1 hL ?_ ?_ (fun v ev v0 v1 cv => ?_))
    | refine k0 ?_ _ ?_ ?_
    | refine And.intro (fun h => absurd (show am_nx t n q = _ by rw [← ev, ← cv]; exact h) (by first | exact hd.1 | exact hd.2.1 | exact hd.2.2.1 | exact hd.2.2.2.1 | exact hd.2.2.2.2)) (fun _ => ?_)
    | refine And.intro (fun h => absurd h (by decide)) (fun _ => ?_)
    | refine And.intro (fun _ => ?_) (fun h => absurd (by decide) h)
    | refine And.intro (fun _ => ?_) (fun _ => ?_)
    | refine And.intro ?_ ?_
  all_goals (first | decide | exact ht | exact hn | exact hq | omega | exact fun _ _ _ _ _ _ => rfl | (trace_state; fail))
theorem x_statement {l : Launch} {ν : am_N} {Q : Option am_V → am_N → Prop} (t : Nat → Int) (n q s : Int) (ht : ν 94 = t) (hn : ν 83 21 = n) (hq : ν 83 22 = q) (n0 : 0 ≤ n) (n1 : n ≤ 96) (hL : ∀ i : Nat, (i : Int) < n → 0 ≤ t i ∧ t i ≤ 255) (es : ν 83 23 = s) (s0 : 0 ≤ s) (s1 : s < 48) (a0 : 0 ≤ q) (a1 : q ≤ n) (k1 : 0 ≤ am_bh t n q → ∀ μ' : am_N, (∀ a b, ¬(a = 83 ∧ b = 22) → ¬(a = 95 ∧ b = s.toNat) → ¬(a = 96 ∧ b = s.toNat) → ¬(a = 97 ∧ 5 * s.toNat ≤ b ∧ b < 5 * s.toNat + 5) → μ' a b = ν a b) → μ' 83 22 = am_bh t n q → μ' 95 s.toNat = am_nx t n q → μ' 96 s.toNat = q → fp_td t n q (μ' 97) (5 * s.toNat) → Q (some (.inl 1)) μ') (k0 : am_bh t n q < 0 → ∀ μ' : am_N, (∀ a b, ¬(a = 83 ∧ b = 22) → ¬(a = 95 ∧ b = s.toNat) → ¬(a = 96 ∧ b = s.toNat) → ¬(a = 97 ∧ 5 * s.toNat ≤ b ∧ b < 5 * s.toNat + 5) → μ' a b = ν a b) → μ' 83 22 = -1 - am_bh t n q → Q (some (.inl 0)) μ') : am_Does l 153 [.inr (.inr 83)] ν Q := by
  by_cases hc : am_ld (am_nx t n q) < 0
  · exact x_st_no t n q s ht hn hq n0 n1 hL es s0 s1 a0 a1 hc k1 k0
  · have hd : am_nx t n q = 119 ∨ am_nx t n q = 114 ∨ am_nx t n q = 109 ∨ am_nx t n q = 115 ∨ am_nx t n q = 103 := by
      unfold am_ld at hc
      repeat' split at hc
      all_goals omega
    rcases hd with h | h | h | h | h
    · exact x_st_119 t n q s ht hn hq n0 n1 hL es s0 s1 a0 a1 h k1 k0
    · exact x_st_114 t n q s ht hn hq n0 n1 hL es s0 s1 a0 a1 h k1 k0
    · exact x_st_109 t n q s ht hn hq n0 n1 hL es s0 s1 a0 a1 h k1 k0
    · exact x_st_115 t n q s ht hn hq n0 n1 hL es s0 s1 a0 a1 h k1 k0
    · exact x_st_103 t n q s ht hn hq n0 n1 hL es s0 s1 a0 a1 h k1 k0
