/-! s -/
theorem w_putStarts_X6Zs {l : Launch} {μ : am_N} {Q : Option am_V → am_N → Prop} {ν : am_N} (c mm : Int) (hS : sx ν μ) (hc0 : 0 ≤ c) (hc1 : c ≤ 2147483647) (k : ∀ μ', sx ν μ' → Q none μ') : am_Does l 124 [.inr (.inr 0), .inl c, .inl mm] μ Q := by
  refine am_Does_of (Nat.le_of_ble_eq_true rfl) (Nat.le_of_ble_eq_true rfl) (Nat.le_of_ble_eq_true rfl) ?_
  have hb := sx_all hS
  have lp13 : ∀ (m : Nat) (q r : Int) (o5 : Option am_V) (μ : am_N) , sx ν μ → -1 ≤ r → r ≤ 3 → 0 ≤ q → q ≤ 2147483647 → r + 1 < (m : Int) → am_AW l 0 (fun _ => 0) 124 Q 13 [some (.inr (.inr 0)), some (.inl c), some (.inl mm), some (.inl q), some (.inl r), o5] [] μ := by
    intro m
    induction m with
    | zero =>
      intro q r o5 μ hv0 hv1 hv2 hv3 hv4 hm
      have hb := sx_all hv0
      exfalso
      omega
    | succ m ih =>
      intro q r o5 μ hv0 hv1 hv2 hv3 hv4 hm
      have hb := sx_all hv0
      have t1 := am_tmb (am_c q) (am_c mm)
      have cf_q : am_c q = q := am_cR (by omega) (by omega)
      have cf_r : am_c r = r := am_cR (by omega) (by omega)
      refine am_go (ct := fun pc => Nat.beq pc 13) am_oX6_putStarts 300 ?_
      conv => whnf
      repeat' first
        | (refine (?_ : am_wp _ _ _ _ _ _ _ _ _ _ _ _); conv => whnf)
        | (refine (?_ : am_sw _ _ _ _); conv => whnf)
        | refine And.intro trivial ?_
        | exact trivial
        | (with_reducible assumption)
        | ((with_reducible refine (?_ : ∀ j : Nat, (_ : Option Nat) = some j → _)); refine am_aa3 ?_ ?_ ?_ _)
        | ((with_reducible refine (?_ : _ ∧ _)); first | (with_reducible first | refine am_jn am_q1 ?_ | refine am_jn am_q2 ?_ | refine am_jn am_q3 ?_ | refine am_jn am_q4 ?_ | refine am_jn am_q6 ?_ | refine am_jn am_q9 ?_ | refine am_jn am_p1 ?_ | refine am_jy am_p0 ?_ | refine am_kn am_q1 ?_ | refine am_kn am_q2 ?_ | refine am_kn am_q3 ?_ | refine am_kn am_q4 ?_ | refine am_kn am_q6 ?_ | refine am_kn am_q9 ?_ | refine am_kn am_p1 ?_ | refine am_ky am_p0 ?_) | refine And.intro (fun h => absurd h (by decide)) (fun _ => ?_) | refine And.intro (fun _ => ?_) (fun h => absurd (by decide) h) | refine And.intro (fun _ => ?_) (fun _ => ?_) | refine And.intro ?_ ?_)
        | refine k _ ?_
        | refine sx_up ?_ rfl
        | ((with_reducible refine (?_ : am_Does _ 22 _ _ _)); refine w_put_X2_29 (ν := ν) _ _ _ ?_  (fun _ _ => ?_))
        | ((with_reducible refine (?_ : am_AW _ _ _ _ _ 13 _ _ _)); refine ih _ _ _ _ ?_ ?_ ?_ ?_ ?_ ?_)
        | refine And.intro (fun h => absurd h (by decide)) (fun _ => ?_)
        | refine And.intro (fun _ => ?_) (fun h => absurd (by decide) h)
        | refine And.intro (fun _ => ?_) (fun _ => ?_)
        | refine And.intro ?_ ?_
      all_goals sorry
  have lp13' : ∀ (q r : Int) (o5 : Option am_V) (μ : am_N) , sx ν μ → -1 ≤ r → r ≤ 3 → 0 ≤ q → q ≤ 2147483647 → am_AW l 0 (fun _ => 0) 124 Q 13 [some (.inr (.inr 0)), some (.inl c), some (.inl mm), some (.inl q), some (.inl r), o5] [] μ := fun q r o5 μ hv0 hv1 hv2 hv3 hv4 => lp13 ((r + 1) + 1).toNat q r o5 μ hv0 hv1 hv2 hv3 hv4 (by omega)
  refine am_go (ct := fun pc => Nat.beq pc 13) am_oX6_putStarts 300 ?_
  conv => whnf
  repeat' first
    | (refine (?_ : am_wp _ _ _ _ _ _ _ _ _ _ _ _); conv => whnf)
    | (refine (?_ : am_sw _ _ _ _); conv => whnf)
    | refine And.intro trivial ?_
    | exact trivial
    | (with_reducible assumption)
    | ((with_reducible refine (?_ : ∀ j : Nat, (_ : Option Nat) = some j → _)); refine am_aa3 ?_ ?_ ?_ _)
    | ((with_reducible refine (?_ : _ ∧ _)); first | (with_reducible first | refine am_jn am_q1 ?_ | refine am_jn am_q2 ?_ | refine am_jn am_q3 ?_ | refine am_jn am_q4 ?_ | refine am_jn am_q6 ?_ | refine am_jn am_q9 ?_ | refine am_jn am_p1 ?_ | refine am_jy am_p0 ?_ | refine am_kn am_q1 ?_ | refine am_kn am_q2 ?_ | refine am_kn am_q3 ?_ | refine am_kn am_q4 ?_ | refine am_kn am_q6 ?_ | refine am_kn am_q9 ?_ | refine am_kn am_p1 ?_ | refine am_ky am_p0 ?_) | refine And.intro (fun h => absurd h (by decide)) (fun _ => ?_) | refine And.intro (fun _ => ?_) (fun h => absurd (by decide) h) | refine And.intro (fun _ => ?_) (fun _ => ?_) | refine And.intro ?_ ?_)
    | refine k _ ?_
    | refine sx_up ?_ rfl
    | ((with_reducible refine (?_ : am_Does _ 22 _ _ _)); refine w_put_X2_29 (ν := ν) _ _ _ ?_  (fun _ _ => ?_))
    | ((with_reducible refine (?_ : am_AW _ _ _ _ _ 13 _ _ _)); refine lp13' _ _ _ _ ?_ ?_ ?_ ?_ ?_)
    | refine And.intro (fun h => absurd h (by decide)) (fun _ => ?_)
    | refine And.intro (fun _ => ?_) (fun h => absurd (by decide) h)
    | refine And.intro (fun _ => ?_) (fun _ => ?_)
    | refine And.intro ?_ ?_
  all_goals sorry
