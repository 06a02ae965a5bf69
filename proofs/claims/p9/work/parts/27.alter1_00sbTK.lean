/-! contracts: the model's changes (weak; its rows exactly) -/
/-- runs that can be taken back -/
def mK1 (k j : Nat) : Bool := Nat.beq k 101 || (Nat.beq k 102 || (Nat.beq k 103 || (Nat.beq k 83 && Nat.beq j 33)))
abbrev mK : Nat → Nat → Bool := mo ms mK1
abbrev mKR : Nat → Nat → Bool := mo mK mR
def m1o (k' j' k j : Nat) : Bool := Nat.beq k k' || (Nat.beq k 83 && Nat.beq j j')
theorem sb_T_K : ∀ k j, mK k j = false → mT k j = false := fun k j h => sb_T_s k j (mo_l k j h)
