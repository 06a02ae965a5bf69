theorem lx_world7 (b q : Nat) (u1 v1 : Nat → Nat) (u2 v2 : Nat → ClassId) : nw_go (lx_ad b q u1 v1) (lx_ca u2 v2) 83 (am_sh.drop 83) = nwX7 q v1 v2 := rfl
