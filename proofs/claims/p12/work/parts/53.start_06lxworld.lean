theorem lx_world (b q : Nat) (u1 v1 : Nat → Nat) (u2 v2 : Nat → ClassId) : am_ws (lx_ad b q u1 v1) (lx_ca u2 v2) nw_μ = nwX6 u1 u2 ++ nwX7 q v1 v2 := by
  have h1 : nw_go (lx_ad b q u1 v1) (lx_ca u2 v2) 0 (am_sh.take 83) = nwX6 u1 u2 := nw_go_same (n := 83) (fun j h => by
    unfold lx_ad
    rw [lx_beq (show j < 999 by omega), lx_blt h]; rfl) (fun j h => by
    unfold lx_ca
    rw [lx_blt h]; rfl) (am_sh.take 83) 0 (by decide) (by decide)
  have h2 : am_sh = am_sh.take 83 ++ am_sh.drop 83 := (List.take_append_drop 83 am_sh).symm
  rw [nw_ws]
  refine (congrArg (nw_go (lx_ad b q u1 v1) (lx_ca u2 v2) 0) h2).trans ?_
  rw [nw_go_app, h1, show 0 + (am_sh.take 83).length = 83 from rfl, lx_world7]
