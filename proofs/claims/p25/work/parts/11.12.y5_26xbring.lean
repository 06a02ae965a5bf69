theorem x_bring {l : Launch} {ν : am_N} {Q : Option am_V → am_N → Prop} (h0 : 0 < ν 62 3) (h1 : ν 62 3 ≤ 6) (k : ∀ μ' : am_N, (∀ a b, a ≠ 6 → a ≠ 7 → ¬(a = 1 ∧ b = 1) → ¬(a = 62 ∧ b = 3) → μ' a b = ν a b) → μ' 62 3 = ν 62 3 - 1 → μ' 1 1 = ν 77 (ν 62 3 - 1).toNat → (∀ r : Nat, r < 4 → μ' 6 r = ν (64 + (ν 62 3 - 1).toNat) r ∧ μ' 7 r = ν (71 + (ν 62 3 - 1).toNat) r) → Q (some (.inl (ν 62 3 - 1))) μ') : am_Does l 48 [.inr (.inr 62), .inr (.inr 1)] ν Q := by
  rcases (show ν 62 3 = 1 ∨ ν 62 3 = 2 ∨ ν 62 3 = 3 ∨ ν 62 3 = 4 ∨ ν 62 3 = 5 ∨ ν 62 3 = 6 by omega) with e | e | e | e | e | e
  · exact x_bring_1 e k
  · exact x_bring_2 e k
  · exact x_bring_3 e k
  · exact x_bring_4 e k
  · exact x_bring_5 e k
  · exact x_bring_6 e k
