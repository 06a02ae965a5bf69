theorem lx_next {l : Launch} {L : Nat} {xs : Nat → Int} {i : Int} (hN : ∀ μ : am_N, lx_I μ → am_AW l L xs 0 lx_Q 18 [some (.inr (.inr 999)), some (.inr (.inr 0)), some (.inr (.inr 83)), some (.inl (i + 5))] [] μ) : lx_H l L xs i := fun μ hI => by
  refine am_go (ct := fun pc => Nat.beq pc 18) am_oL_law 20 ?_
  conv => whnf
  repeat' first
    | (refine (?_ : am_wp _ _ _ _ _ _ _ _ _ _ _ _); conv => whnf)
    | refine And.intro trivial ?_
    | exact hN _ hI
