theorem gm_42 {A : Nat → Nat → Bool} {ν μ : am_N} {v : Int} (h : gm A ν μ) (hA : A 83 42 = true) (h0 : 0 ≤ v) (h1 : v ≤ 12) : gm A ν (am_up μ 83 42 v) := ⟨mi_42 h.1 h0 h1, fun a b q => by
  rw [am_upE (fun z => by rw [z.1, z.2, hA] at q; cases q)]
  exact h.2 a b q⟩
/-- what a LANE changes -/
def mL1 (k j : Nat) : Bool := (Nat.ble 85 k && Nat.ble k 88) || (Nat.beq k 83 && (Nat.beq j 10 || (Nat.beq j 12 || (Nat.beq j 13 || Nat.beq j 14))))
abbrev mL : Nat → Nat → Bool := mo mAR mL1
