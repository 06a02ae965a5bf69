theorem lx_Xt (xs : Nat → Int32) : lx_X (fun j => (xs j).toInt) := fun j => by
  have e := am_toInt (xs j).toInt
  rw [am_back] at e
  have h := am_cb (xs j).toInt
  show -2147483648 ≤ (xs j).toInt ∧ (xs j).toInt ≤ 2147483647
  omega
