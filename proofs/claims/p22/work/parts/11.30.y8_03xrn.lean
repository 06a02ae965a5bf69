/-- a number of exactly m digits: two ways on -/
theorem x_rn {l : Launch} {ν : am_N} {Q : Option am_V → am_N → Prop} (t : Nat → Int) (n q o m : Int) (ht : ν 94 = t) (hn : ν 83 21 = n) (hq : ν 83 22 = q) (n0 : 0 ≤ n) (n1 : n ≤ 96) (hL : ∀ i : Nat, (i : Int) < n → 0 ≤ t i ∧ t i ≤ 255) (o0 : 0 ≤ o) (o1 : o < 240) (m0 : 0 ≤ m) (m1 : m ≤ 3) (a0 : 0 ≤ q) (a1 : q ≤ 150)
    (k1 : ∀ μ' : am_N, (∀ a b, ¬(a = 83 ∧ b = 22) → ¬(a = 97 ∧ b = o.toNat) → μ' a b = ν a b) → am_dn t n m.toNat q = q + m → μ' 83 22 = q + m → μ' 97 o.toNat = am_dv t n m.toNat q 0 → Q (some (.inl 1)) μ')
    (k0 : ∀ μ' : am_N, (∀ a b, ¬(a = 83 ∧ b = 22) → ¬(a = 97 ∧ b = o.toNat) → μ' a b = ν a b) → am_dn t n m.toNat q ≠ q + m → μ' 83 22 = am_dn t n m.toNat q → Q (some (.inl 0)) μ') : am_Does l 150 [.inr (.inr 83), .inl o, .inl m, .inl m] ν Q := by
  refine x_readsNumber t n q o m m ht hn hq n0 n1 hL o0 o1 m0 (by omega) m0 m1 a0 a1 (fun e μ' h1 h2 h3 h4 h5 h6 => ?_)
  subst h1
  by_cases g : am_dn t n m.toNat q = q + m
  · rw [if_pos (by omega)]
    exact k1 μ' h4 g (by omega) h6
  · rw [if_neg (by omega)]
    exact k0 μ' h4 g h5
