theorem x_keep {l : Launch} {ν : am_N} {Q : Option am_V → am_N → Prop} (h0 : 0 ≤ ν 62 3) (h1 : ν 62 3 ≤ 6) (k : ∀ μ' : am_N, (∀ a b, ¬(62 ≤ a ∧ a ≤ 77) → μ' a b = ν a b) → μ' 62 3 = (if ν 62 3 < 6 then ν 62 3 + 1 else 6) → (∀ r : Nat, r < 4 → μ' (64 + (μ' 62 3 - 1).toNat) r = ν 6 r ∧ μ' (71 + (μ' 62 3 - 1).toNat) r = ν 7 r) → μ' 77 (μ' 62 3 - 1).toNat = ν 1 1 → (∀ j : Nat, (j : Int) + 1 < μ' 62 3 → (∀ r : Nat, r < 4 → μ' (64 + (μ' 62 3 - 2 - j).toNat) r = ν (64 + (ν 62 3 - 1 - j).toNat) r ∧ μ' (71 + (μ' 62 3 - 2 - j).toNat) r = ν (71 + (ν 62 3 - 1 - j).toNat) r) ∧ μ' 77 (μ' 62 3 - 2 - j).toNat = ν 77 (ν 62 3 - 1 - j).toNat) → Q none μ') : am_Does l 46 [.inr (.inr 62), .inr (.inr 1)] ν Q := by
  rcases (show ν 62 3 = 0 ∨ ν 62 3 = 1 ∨ ν 62 3 = 2 ∨ ν 62 3 = 3 ∨ ν 62 3 = 4 ∨ ν 62 3 = 5 ∨ ν 62 3 = 6 by omega) with e | e | e | e | e | e | e
  · exact x_keep_0 e k
  · exact x_keep_1 e k
  · exact x_keep_2 e k
  · exact x_keep_3 e k
  · exact x_keep_4 e k
  · exact x_keep_5 e k
  · exact x_keep_6 e k
