/-! helpers of the strong parts -/
theorem am_uE {μ : am_N} {k j a b : Nat} {v : Int} (h : ¬ (a = k ∧ b = j)) : am_up μ k j v a b = μ a b := if_neg h
theorem am_ab1 {P : Nat → Prop} {l : List Nat} {i a : Nat} (h : l[i]? = some a) (hp : P a) : ∀ j : Nat, l[i]? = some j → P j := fun j hj => by
  rw [h] at hj
  cases hj
  exact hp
