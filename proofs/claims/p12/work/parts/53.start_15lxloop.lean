theorem lx_loop {l : Launch} {L : Nat} {xs : Nat → Int} (hX : lx_X xs) (hL : L ≤ 2560) : ∀ (m : Nat) (i : Int) (μ : am_N), 0 ≤ i → i ≤ 2565 → (L : Int) - i < m → lx_I μ → am_AW l L xs 0 lx_Q 18 [some (.inr (.inr 999)), some (.inr (.inr 0)), some (.inr (.inr 83)), some (.inl i)] [] μ := by
  intro m
  induction m with
  | zero =>
    intro i μ hi0 hi1 hm hI
    have ei : am_c i = i := am_cR (by omega) (by omega)
    have eL : am_c ((L : Int) - 5) = (L : Int) - 5 := am_cR (by omega) (by omega)
    refine am_go (ct := fun pc => Nat.beq pc 26) am_oL_law 20 ?_
    conv => whnf
    repeat' first
      | (refine (?_ : am_wp _ _ _ _ _ _ _ _ _ _ _ _); conv => whnf)
      | refine And.intro ⟨rfl, rfl⟩ ?_
      | refine And.intro trivial ?_
      | exact rfl
      | refine And.intro (fun _ => ?_) (fun hz => absurd (show am_c ((L : Int) - 5) < am_c i by omega) hz)
      | refine And.intro (Or.inr rfl) ?_
  | succ m ih =>
    intro i μ hi0 hi1 hm hI
    have ei : am_c i = i := am_cR (by omega) (by omega)
    have eL : am_c ((L : Int) - 5) = (L : Int) - 5 := am_cR (by omega) (by omega)
    have hgo : i ≤ (L : Int) - 5 → am_AW l L xs 0 lx_Q 26 [some (.inr (.inr 999)), some (.inr (.inr 0)), some (.inr (.inr 83)), some (.inl i)] [] μ := fun hi => by
      have hH : lx_H l L xs i := lx_next (fun μ hI => ih (i + 5) μ (by omega) (by omega) (by omega) hI)
      have ix : 0 ≤ am_c i ∧ am_c i < L := by rw [ei]; omega
      refine am_go (ct := fun pc => Nat.ble 256 pc && Nat.ble pc 1663) am_oL_law 20 ?_
      conv => whnf
      repeat' first
        | (refine (?_ : am_wp _ _ _ _ _ _ _ _ _ _ _ _); conv => whnf)
        | (refine (?_ : am_sw _ _ _ _); conv => whnf)
        | refine And.intro ⟨rfl, rfl⟩ ?_
        | refine And.intro ix ?_
        | refine And.intro trivial ?_
        | exact hH _ hI
        | exact lx_c0 hX hL hi0 (by omega) hH _ hI
        | exact lx_c1 hX hL hi0 (by omega) hH _ hI
        | exact lx_c2 hX hL hi0 (by omega) hH _ hI
        | exact lx_c3 hX hL hi0 (by omega) hH _ hI
        | exact lx_c4 hX hL hi0 (by omega) hH _ hI
        | exact lx_c5 hX hL hi0 (by omega) hH _ hI
        | exact lx_c6 hX hL hi0 (by omega) hH _ hI
        | exact lx_c7 hX hL hi0 (by omega) hH _ hI
        | exact lx_c8 hX hL hi0 (by omega) hH _ hI
        | exact lx_c9 hX hL hi0 (by omega) hH _ hI
        | exact lx_c10 hX hL hi0 (by omega) hH _ hI
        | exact lx_c11 hX hL hi0 (by omega) hH _ hI
        | exact lx_c12 hX hL hi0 (by omega) hH _ hI
        | exact lx_c13 hX hL hi0 (by omega) hH _ hI
        | exact lx_c14 hX hL hi0 (by omega) hH _ hI
        | exact lx_c15 hX hL hi0 (by omega) hH _ hI
        | exact lx_c16 hX hL hi0 (by omega) hH _ hI
        | exact lx_c17 hX hL hi0 (by omega) hH _ hI
        | exact lx_c18 hX hL hi0 (by omega) hH _ hI
        | exact lx_c19 hX hL hi0 (by omega) hH _ hI
        | exact lx_c20 hX hL hi0 (by omega) hH _ hI
        | exact lx_c21 hX hL hi0 (by omega) hH _ hI
        | exact lx_c22 hX hL hi0 (by omega) hH _ hI
        | exact lx_c23 hX hL hi0 (by omega) hH _ hI
        | exact lx_c24 hX hL hi0 (by omega) hH _ hI
        | exact lx_c25 hX hL hi0 (by omega) hH _ hI
        | exact lx_c26 hX hL hi0 (by omega) hH _ hI
        | exact lx_c27 hX hL hi0 (by omega) hH _ hI
        | exact lx_c28 hX hL hi0 (by omega) hH _ hI
        | exact lx_c29 hX hL hi0 (by omega) hH _ hI
        | exact lx_c30 hX hL hi0 (by omega) hH _ hI
        | exact lx_c31 hX hL hi0 (by omega) hH _ hI
        | exact lx_c32 hX hL hi0 (by omega) hH _ hI
        | exact lx_c33 hX hL hi0 (by omega) hH _ hI
        | exact lx_c34 hX hL hi0 (by omega) hH _ hI
        | exact lx_c35 hX hL hi0 (by omega) hH _ hI
        | exact lx_c36 hX hL hi0 (by omega) hH _ hI
        | exact lx_c37 hX hL hi0 (by omega) hH _ hI
        | exact lx_c38 hX hL hi0 (by omega) hH _ hI
        | exact lx_c39 hX hL hi0 (by omega) hH _ hI
        | exact lx_c40 hX hL hi0 (by omega) hH _ hI
        | exact lx_c41 hX hL hi0 (by omega) hH _ hI
        | exact lx_c42 hX hL hi0 (by omega) hH _ hI
        | exact lx_c43 hX hL hi0 (by omega) hH _ hI
        | exact lx_c44 hX hL hi0 (by omega) hH _ hI
        | exact lx_c45 hX hL hi0 (by omega) hH _ hI
        | exact lx_c46 hX hL hi0 (by omega) hH _ hI
        | exact lx_c47 hX hL hi0 (by omega) hH _ hI
        | exact lx_c48 hX hL hi0 (by omega) hH _ hI
        | exact lx_c49 hX hL hi0 (by omega) hH _ hI
        | exact lx_c50 hX hL hi0 (by omega) hH _ hI
        | exact lx_c51 hX hL hi0 (by omega) hH _ hI
        | refine And.intro (fun _ => ?_) (fun _ => ?_)
    refine am_go (ct := fun pc => Nat.beq pc 26) am_oL_law 20 ?_
    conv => whnf
    repeat' first
      | (refine (?_ : am_wp _ _ _ _ _ _ _ _ _ _ _ _); conv => whnf)
      | refine And.intro ⟨rfl, rfl⟩ ?_
      | refine And.intro trivial ?_
      | exact rfl
      | refine And.intro (Or.inr rfl) ?_
      | exact hgo (by omega)
      | refine And.intro (fun _ => ?_) (fun hz => ?_)
