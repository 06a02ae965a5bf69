/-! the law: its start and its loop -/
def lx_ad (b q : Nat) (u v : Nat → Nat) (k : Nat) : Nat := bif Nat.beq k 999 then b else bif Nat.blt k 83 then u k else bif Nat.beq k 83 then q else v (k - 84)
def lx_ca (u v : Nat → ClassId) (k : Nat) : ClassId := bif Nat.blt k 83 then u k else v (k - 84)
theorem nw_go_app (ad : Nat → Nat) (ca : Nat → ClassId) (l2 : List (Nat × List Nat)) : ∀ (l1 : List (Nat × List Nat)) (k : Nat), nw_go ad ca k (l1 ++ l2) = nw_go ad ca k l1 ++ nw_go ad ca (k + l1.length) l2
  | [], k => rfl
  | q :: r, k => by
    show _ :: nw_go ad ca (k + 1) (r ++ l2) = _ :: (nw_go ad ca (k + 1) r ++ nw_go ad ca (k + (r.length + 1)) l2)
    rw [nw_go_app ad ca l2 r (k + 1), show k + 1 + r.length = k + (r.length + 1) by omega]
