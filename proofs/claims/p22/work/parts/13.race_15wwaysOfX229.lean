theorem w_gap_X2_29 {l : Launch} {μ : am_N} {Q : Option am_V → am_N → Prop} {ν : am_N}  (hS : sx ν μ)  (k : ∀ r, Q (some (.inl r)) μ) : am_Does l 39 [.inr (.inr 29)] μ Q := by
  refine am_Does_of (Nat.le_of_ble_eq_true rfl) (Nat.le_of_ble_eq_true rfl) (Nat.le_of_ble_eq_true rfl) ?_
  have hb := sx_all hS
  have hp0 := sx_pl hS 0 (by decide)
  have hp1 := sx_pl hS 1 (by decide)
  refine am_go (ct := fun _ => false) am_oX2_gap 300 ?_
  conv => whnf
  repeat' first
    | (refine (?_ : am_wp _ _ _ _ _ _ _ _ _ _ _ _); conv => whnf)
    | (refine (?_ : am_sw _ _ _ _); conv => whnf)
    | refine And.intro trivial ?_
    | exact trivial
    | assumption
    | ((with_reducible refine (?_ : _ ∧ _)); first | (with_reducible first | refine am_jn am_q1 ?_ | refine am_jn am_q2 ?_ | refine am_jn am_q3 ?_ | refine am_jn am_q4 ?_ | refine am_jn am_q6 ?_ | refine am_jn am_q9 ?_ | refine am_jn am_p1 ?_ | refine am_jy am_p0 ?_ | refine am_kn am_q1 ?_ | refine am_kn am_q2 ?_ | refine am_kn am_q3 ?_ | refine am_kn am_q4 ?_ | refine am_kn am_q6 ?_ | refine am_kn am_q9 ?_ | refine am_kn am_p1 ?_ | refine am_ky am_p0 ?_) | refine And.intro (fun h => absurd h (by decide)) (fun _ => ?_) | refine And.intro (fun _ => ?_) (fun h => absurd (by decide) h) | refine And.intro (fun _ => ?_) (fun _ => ?_) | refine And.intro ?_ ?_)
    | exact k _
    | refine sx_up ?_ rfl
    | refine And.intro (fun h => absurd h (by decide)) (fun _ => ?_)
    | refine And.intro (fun _ => ?_) (fun h => absurd (by decide) h)
    | refine And.intro (fun _ => ?_) (fun _ => ?_)
    | refine And.intro ?_ ?_
  all_goals (first | assumption | omega | (simp only [am_c, am_up] at *; omega) | (simp [am_c, am_up] at *; omega))
theorem w_waysOf_X2_29 {l : Launch} {μ : am_N} {Q : Option am_V → am_N → Prop} {ν : am_N} (d : Int) (hS : sx ν μ)  (k : ∀ r μ', sx ν μ' → Q (some (.inl r)) μ') : am_Does l 30 [.inr (.inr 29), .inl d] μ Q := by
  refine am_Does_of (Nat.le_of_ble_eq_true rfl) (Nat.le_of_ble_eq_true rfl) (Nat.le_of_ble_eq_true rfl) ?_
  have hb := sx_all hS
  have lp10 : ∀ (m : Nat) (q s i : Int) (o5 : Option am_V) (μ : am_N) , sx ν μ → 0 ≤ i → (i ≤ am_c q ∨ i = 0) → max (am_c q - i) 0 < (m : Int) → am_AW l 0 (fun _ => 0) 30 Q 10 [some (.inr (.inr 29)), some (.inl d), some (.inl q), some (.inl s), some (.inl i), o5] [] μ := by
    intro m
    induction m with
    | zero =>
      intro q s i o5 μ hv0 hv1 hv2 hm
      have hb := sx_all hv0
      exfalso
      omega
    | succ m ih =>
      intro q s i o5 μ hv0 hv1 hv2 hm
      have hb := sx_all hv0
      refine am_go (ct := fun pc => Nat.beq pc 10) am_oX2_waysOf 300 ?_
      conv => whnf
      repeat' first
        | (refine (?_ : am_wp _ _ _ _ _ _ _ _ _ _ _ _); conv => whnf)
        | (refine (?_ : am_sw _ _ _ _); conv => whnf)
        | refine And.intro trivial ?_
        | exact trivial
        | assumption
        | ((with_reducible refine (?_ : _ ∧ _)); first | (with_reducible first | refine am_jn am_q1 ?_ | refine am_jn am_q2 ?_ | refine am_jn am_q3 ?_ | refine am_jn am_q4 ?_ | refine am_jn am_q6 ?_ | refine am_jn am_q9 ?_ | refine am_jn am_p1 ?_ | refine am_jy am_p0 ?_ | refine am_kn am_q1 ?_ | refine am_kn am_q2 ?_ | refine am_kn am_q3 ?_ | refine am_kn am_q4 ?_ | refine am_kn am_q6 ?_ | refine am_kn am_q9 ?_ | refine am_kn am_p1 ?_ | refine am_ky am_p0 ?_) | refine And.intro (fun h => absurd h (by decide)) (fun _ => ?_) | refine And.intro (fun _ => ?_) (fun h => absurd (by decide) h) | refine And.intro (fun _ => ?_) (fun _ => ?_) | refine And.intro ?_ ?_)
        | refine k _ _ ?_
        | refine sx_up ?_ rfl
        | ((with_reducible refine (?_ : am_Does _ 28 _ _ _)); refine w_outcomes_X2_29 (ν := ν)  ?_  (fun _ => ?_))
        | ((with_reducible refine (?_ : am_Does _ 29 _ _ _)); refine w_deal_X2_29 (ν := ν) _ ?_  (fun _ _ _ => ?_))
        | ((with_reducible refine (?_ : am_Does _ 40 _ _ _)); refine w_digits_X2_29 (ν := ν)  ?_  (fun _ => ?_))
        | ((with_reducible refine (?_ : am_AW _ _ _ _ _ 10 _ _ _)); refine ih _ _ _ _ _ ?_ ?_ ?_ ?_)
        | refine And.intro (fun h => absurd h (by decide)) (fun _ => ?_)
        | refine And.intro (fun _ => ?_) (fun h => absurd (by decide) h)
        | refine And.intro (fun _ => ?_) (fun _ => ?_)
        | refine And.intro ?_ ?_
      all_goals (first | assumption | omega | (simp only [am_c, am_up] at *; omega) | (simp [am_c, am_up] at *; omega))
  have lp10' : ∀ (q s i : Int) (o5 : Option am_V) (μ : am_N) , sx ν μ → 0 ≤ i → (i ≤ am_c q ∨ i = 0) → am_AW l 0 (fun _ => 0) 30 Q 10 [some (.inr (.inr 29)), some (.inl d), some (.inl q), some (.inl s), some (.inl i), o5] [] μ := fun q s i o5 μ hv0 hv1 hv2 => lp10 ((max (am_c q - i) 0) + 1).toNat q s i o5 μ hv0 hv1 hv2 (by omega)
  refine am_go (ct := fun pc => Nat.beq pc 10) am_oX2_waysOf 300 ?_
  conv => whnf
  repeat' first
    | (refine (?_ : am_wp _ _ _ _ _ _ _ _ _ _ _ _); conv => whnf)
    | (refine (?_ : am_sw _ _ _ _); conv => whnf)
    | refine And.intro trivial ?_
    | exact trivial
    | assumption
    | ((with_reducible refine (?_ : _ ∧ _)); first | (with_reducible first | refine am_jn am_q1 ?_ | refine am_jn am_q2 ?_ | refine am_jn am_q3 ?_ | refine am_jn am_q4 ?_ | refine am_jn am_q6 ?_ | refine am_jn am_q9 ?_ | refine am_jn am_p1 ?_ | refine am_jy am_p0 ?_ | refine am_kn am_q1 ?_ | refine am_kn am_q2 ?_ | refine am_kn am_q3 ?_ | refine am_kn am_q4 ?_ | refine am_kn am_q6 ?_ | refine am_kn am_q9 ?_ | refine am_kn am_p1 ?_ | refine am_ky am_p0 ?_) | refine And.intro (fun h => absurd h (by decide)) (fun _ => ?_) | refine And.intro (fun _ => ?_) (fun h => absurd (by decide) h) | refine And.intro (fun _ => ?_) (fun _ => ?_) | refine And.intro ?_ ?_)
    | refine k _ _ ?_
    | refine sx_up ?_ rfl
    | ((with_reducible refine (?_ : am_Does _ 28 _ _ _)); refine w_outcomes_X2_29 (ν := ν)  ?_  (fun _ => ?_))
    | ((with_reducible refine (?_ : am_Does _ 29 _ _ _)); refine w_deal_X2_29 (ν := ν) _ ?_  (fun _ _ _ => ?_))
    | ((with_reducible refine (?_ : am_Does _ 40 _ _ _)); refine w_digits_X2_29 (ν := ν)  ?_  (fun _ => ?_))
    | ((with_reducible refine (?_ : am_AW _ _ _ _ _ 10 _ _ _)); refine lp10' _ _ _ _ _ ?_ ?_ ?_)
    | refine And.intro (fun h => absurd h (by decide)) (fun _ => ?_)
    | refine And.intro (fun _ => ?_) (fun h => absurd (by decide) h)
    | refine And.intro (fun _ => ?_) (fun _ => ?_)
    | refine And.intro ?_ ?_
  all_goals (first | assumption | omega | (simp only [am_c, am_up] at *; omega) | (simp [am_c, am_up] at *; omega))
