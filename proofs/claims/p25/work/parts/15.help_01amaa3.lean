theorem am_aa3 {P : Nat → Prop} {a b c : Nat} (h1 : P a) (h2 : P b) (h3 : P c) : ∀ (i j : Nat), ([a, b, c] : List Nat)[i]? = some j → P j
  | 0, j, h => by cases h; exact h1
  | 1, j, h => by cases h; exact h2
  | 2, j, h => by cases h; exact h3
  | i + 3, j, h => by simp at h
