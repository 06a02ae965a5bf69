theorem lx_blt {j n : Nat} (h : j < n) : Nat.blt j n = true := Nat.ble_eq.mpr h
