theorem lx_beq {j n : Nat} (h : j < n) : Nat.beq j n = false := by
  cases q : Nat.beq j n with
  | false => rfl
  | true => have := Nat.eq_of_beq_eq_true q; omega
