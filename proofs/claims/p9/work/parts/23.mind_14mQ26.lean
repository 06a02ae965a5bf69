theorem mQ_26 {p q : Nat} (h : mQ p q = false) : ¬ (p = 83 ∧ (q = 26 ∨ q = 27)) := fun z => by
  obtain ⟨rfl, rfl | rfl⟩ := z <;> cases h
