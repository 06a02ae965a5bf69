def lx_tk (k : Nat) : Bool := match am_sh[k]? with
  | some q => (!(Nat.beq q.1 0) || lx_L.any (fun p => Nat.beq p.1 k && !p.2)) && (!(Nat.beq q.1 1) || lx_L.any (fun p => Nat.beq p.1 k && p.2))
  | none => true
set_option maxRecDepth 20000 in
theorem lx_tka : (List.range am_sh.length).all lx_tk = true := by decide +kernel
