/-! the law: what is claimed of a case -/
def lx_Q : Option am_V → am_N → Prop := fun r _ => r = some (.inl 1)
/-- canonical numbers -/
def lx_X (xs : Nat → Int) : Prop := ∀ j, -2147483648 ≤ xs j ∧ xs j ≤ 2147483647
/-- to the end of a case -/
def lx_H (l : Launch) (L : Nat) (xs : Nat → Int) (i : Int) : Prop := ∀ μ : am_N, lx_J μ → am_AW l L xs 0 lx_Q 1662 [some (.inr (.inr 999)), some (.inr (.inr 0)), some (.inr (.inr 83)), some (.inl i)] [] μ
