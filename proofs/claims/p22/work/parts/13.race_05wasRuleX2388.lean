theorem w_asRule_X2_38_8 {l : Launch} {μ : am_N} {Q : Option am_V → am_N → Prop} {ν : am_N}  (hS : sx ν μ)  (k : ∀ μ', sx ν μ' → Q none μ') : am_Does l 33 [.inr (.inr 38), .inr (.inr 8)] μ Q := by
  refine am_Does_of (Nat.le_of_ble_eq_true rfl) (Nat.le_of_ble_eq_true rfl) (Nat.le_of_ble_eq_true rfl) ?_
  have hb := sx_all hS
  have lp10 : ∀ (m : Nat) (i : Int) (μ : am_N) , sx ν μ → 0 ≤ i → i ≤ 4 → 4 - i < (m : Int) → am_AW l 0 (fun _ => 0) 33 Q 10 [some (.inr (.inr 38)), some (.inr (.inr 8)), some (.inl i)] [] μ := by
    intro m
    induction m with
    | zero =>
      intro i μ hv0 hv1 hv2 hm
      have hb := sx_all hv0
      exfalso
      omega
    | succ m ih =>
      intro i μ hv0 hv1 hv2 hm
      have hb := sx_all hv0
      refine am_go (ct := fun pc => Nat.beq pc 10) am_oX2_asRule 300 ?_
      conv => whnf
      repeat' first
        | (refine (?_ : am_wp _ _ _ _ _ _ _ _ _ _ _ _); conv => whnf)
        | (refine (?_ : am_sw _ _ _ _); conv => whnf)
        | refine And.intro trivial ?_
        | exact trivial
        | assumption
        | refine sx_c38 ?_ ?_
        | exact (sx_all (ν := ν) (by assumption)).2.1
        | ((with_reducible refine (?_ : _ ∧ _)); first | (with_reducible first | refine am_jn am_q1 ?_ | refine am_jn am_q2 ?_ | refine am_jn am_q3 ?_ | refine am_jn am_q4 ?_ | refine am_jn am_q6 ?_ | refine am_jn am_q9 ?_ | refine am_jn am_p1 ?_ | refine am_jy am_p0 ?_ | refine am_kn am_q1 ?_ | refine am_kn am_q2 ?_ | refine am_kn am_q3 ?_ | refine am_kn am_q4 ?_ | refine am_kn am_q6 ?_ | refine am_kn am_q9 ?_ | refine am_kn am_p1 ?_ | refine am_ky am_p0 ?_) | refine And.intro (fun h => absurd h (by decide)) (fun _ => ?_) | refine And.intro (fun _ => ?_) (fun h => absurd (by decide) h) | refine And.intro (fun _ => ?_) (fun _ => ?_) | refine And.intro ?_ ?_)
        | refine k _ ?_
        | refine sx_up ?_ rfl
        | ((with_reducible refine (?_ : am_Does _ 8 _ _ _)); first | ((with_reducible refine (?_ : am_Does _ 8 (Sum.inr (Sum.inr 1) :: _) _ _)); refine w_tenths_X0_1 (ν := ν) _ ?_  (fun _ => ?_)) | ((with_reducible refine (?_ : am_Does _ 8 (Sum.inr (Sum.inr 8) :: _) _ _)); refine w_tenths_X0_8 (ν := ν) _ ?_  (fun _ => ?_)) | ((with_reducible refine (?_ : am_Does _ 8 (Sum.inr (Sum.inr 15) :: _) _ _)); refine w_tenths_X0_15 (ν := ν) _ ?_  (fun _ => ?_)) | refine w_tenths_X0_1 (ν := ν) _ ?_  (fun _ => ?_) | refine w_tenths_X0_8 (ν := ν) _ ?_  (fun _ => ?_) | refine w_tenths_X0_15 (ν := ν) _ ?_  (fun _ => ?_))
        | ((with_reducible refine (?_ : am_Does _ 36 _ _ _)); first | ((with_reducible refine (?_ : am_Does _ 36 (Sum.inr (Sum.inr 29) :: _) _ _)); refine w_line_X2_29 (ν := ν)  ?_  (fun _ _ => ?_)) | ((with_reducible refine (?_ : am_Does _ 36 (Sum.inr (Sum.inr 38) :: _) _ _)); refine w_line_X2_38 (ν := ν)  ?_  (fun _ _ => ?_)) | refine w_line_X2_29 (ν := ν)  ?_  (fun _ _ => ?_) | refine w_line_X2_38 (ν := ν)  ?_  (fun _ _ => ?_))
        | ((with_reducible refine (?_ : am_AW _ _ _ _ _ 10 _ _ _)); refine ih _ _ ?_ ?_ ?_ ?_)
        | refine And.intro (fun h => absurd h (by decide)) (fun _ => ?_)
        | refine And.intro (fun _ => ?_) (fun h => absurd (by decide) h)
        | refine And.intro (fun _ => ?_) (fun _ => ?_)
        | refine And.intro ?_ ?_
      all_goals (first | assumption | omega | (simp only [am_c, am_up] at *; omega) | (simp [am_c, am_up] at *; omega))
  have lp10' : ∀ (i : Int) (μ : am_N) , sx ν μ → 0 ≤ i → i ≤ 4 → am_AW l 0 (fun _ => 0) 33 Q 10 [some (.inr (.inr 38)), some (.inr (.inr 8)), some (.inl i)] [] μ := fun i μ hv0 hv1 hv2 => lp10 ((4 - i) + 1).toNat i μ hv0 hv1 hv2 (by omega)
  refine am_go (ct := fun pc => Nat.beq pc 10) am_oX2_asRule 300 ?_
  conv => whnf
  repeat' first
    | (refine (?_ : am_wp _ _ _ _ _ _ _ _ _ _ _ _); conv => whnf)
    | (refine (?_ : am_sw _ _ _ _); conv => whnf)
    | refine And.intro trivial ?_
    | exact trivial
    | assumption
    | refine sx_c38 ?_ ?_
    | exact (sx_all (ν := ν) (by assumption)).2.1
    | ((with_reducible refine (?_ : _ ∧ _)); first | (with_reducible first | refine am_jn am_q1 ?_ | refine am_jn am_q2 ?_ | refine am_jn am_q3 ?_ | refine am_jn am_q4 ?_ | refine am_jn am_q6 ?_ | refine am_jn am_q9 ?_ | refine am_jn am_p1 ?_ | refine am_jy am_p0 ?_ | refine am_kn am_q1 ?_ | refine am_kn am_q2 ?_ | refine am_kn am_q3 ?_ | refine am_kn am_q4 ?_ | refine am_kn am_q6 ?_ | refine am_kn am_q9 ?_ | refine am_kn am_p1 ?_ | refine am_ky am_p0 ?_) | refine And.intro (fun h => absurd h (by decide)) (fun _ => ?_) | refine And.intro (fun _ => ?_) (fun h => absurd (by decide) h) | refine And.intro (fun _ => ?_) (fun _ => ?_) | refine And.intro ?_ ?_)
    | refine k _ ?_
    | refine sx_up ?_ rfl
    | ((with_reducible refine (?_ : am_Does _ 8 _ _ _)); first | ((with_reducible refine (?_ : am_Does _ 8 (Sum.inr (Sum.inr 1) :: _) _ _)); refine w_tenths_X0_1 (ν := ν) _ ?_  (fun _ => ?_)) | ((with_reducible refine (?_ : am_Does _ 8 (Sum.inr (Sum.inr 8) :: _) _ _)); refine w_tenths_X0_8 (ν := ν) _ ?_  (fun _ => ?_)) | ((with_reducible refine (?_ : am_Does _ 8 (Sum.inr (Sum.inr 15) :: _) _ _)); refine w_tenths_X0_15 (ν := ν) _ ?_  (fun _ => ?_)) | refine w_tenths_X0_1 (ν := ν) _ ?_  (fun _ => ?_) | refine w_tenths_X0_8 (ν := ν) _ ?_  (fun _ => ?_) | refine w_tenths_X0_15 (ν := ν) _ ?_  (fun _ => ?_))
    | ((with_reducible refine (?_ : am_Does _ 36 _ _ _)); first | ((with_reducible refine (?_ : am_Does _ 36 (Sum.inr (Sum.inr 29) :: _) _ _)); refine w_line_X2_29 (ν := ν)  ?_  (fun _ _ => ?_)) | ((with_reducible refine (?_ : am_Does _ 36 (Sum.inr (Sum.inr 38) :: _) _ _)); refine w_line_X2_38 (ν := ν)  ?_  (fun _ _ => ?_)) | refine w_line_X2_29 (ν := ν)  ?_  (fun _ _ => ?_) | refine w_line_X2_38 (ν := ν)  ?_  (fun _ _ => ?_))
    | ((with_reducible refine (?_ : am_AW _ _ _ _ _ 10 _ _ _)); refine lp10' _ _ ?_ ?_ ?_)
    | refine And.intro (fun h => absurd h (by decide)) (fun _ => ?_)
    | refine And.intro (fun _ => ?_) (fun h => absurd (by decide) h)
    | refine And.intro (fun _ => ?_) (fun _ => ?_)
    | refine And.intro ?_ ?_
  all_goals (first | assumption | omega | (simp only [am_c, am_up] at *; omega) | (simp [am_c, am_up] at *; omega))
