theorem w_takeTwo_X0_15_1 {l : Launch} {μ : am_N} {Q : Option am_V → am_N → Prop} {ν : am_N} (i j : Int) (hS : sx ν μ)  (k : ∀ μ', sx ν μ' → Q none μ') : am_Does l 3 [.inr (.inr 15), .inr (.inr 1), .inl i, .inl j] μ Q := by
  refine am_Does_of (Nat.le_of_ble_eq_true rfl) (Nat.le_of_ble_eq_true rfl) (Nat.le_of_ble_eq_true rfl) ?_
  have hb := sx_all hS
  refine am_go (ct := fun _ => false) am_oX0_takeTwo 300 ?_
  conv => whnf
  repeat' first
    | (refine (?_ : am_wp _ _ _ _ _ _ _ _ _ _ _ _); conv => whnf)
    | (refine (?_ : am_sw _ _ _ _); conv => whnf)
    | refine And.intro trivial ?_
    | exact trivial
    | assumption
    | refine sx_c15 ?_ ?_
    | ((with_reducible refine (?_ : _ ∧ _)); first | (with_reducible first | refine am_jn am_q1 ?_ | refine am_jn am_q2 ?_ | refine am_jn am_q3 ?_ | refine am_jn am_q4 ?_ | refine am_jn am_q6 ?_ | refine am_jn am_q9 ?_ | refine am_jn am_p1 ?_ | refine am_jy am_p0 ?_ | refine am_kn am_q1 ?_ | refine am_kn am_q2 ?_ | refine am_kn am_q3 ?_ | refine am_kn am_q4 ?_ | refine am_kn am_q6 ?_ | refine am_kn am_q9 ?_ | refine am_kn am_p1 ?_ | refine am_ky am_p0 ?_) | refine And.intro (fun h => absurd h (by decide)) (fun _ => ?_) | refine And.intro (fun _ => ?_) (fun h => absurd (by decide) h) | refine And.intro (fun _ => ?_) (fun _ => ?_) | refine And.intro ?_ ?_)
    | refine k _ ?_
    | refine sx_up ?_ rfl
    | ((with_reducible refine (?_ : am_Does _ 4 _ _ _)); first | ((with_reducible refine (?_ : am_Does _ 4 (Sum.inr (Sum.inr 8) :: Sum.inr (Sum.inr 1) :: _) _ _)); refine w_takeSettings_X0_8_1 (ν := ν)  ?_  (fun _ _ => ?_)) | ((with_reducible refine (?_ : am_Does _ 4 (Sum.inr (Sum.inr 15) :: Sum.inr (Sum.inr 8) :: _) _ _)); refine w_takeSettings_X0_15_8 (ν := ν)  ?_  (fun _ _ => ?_)) | ((with_reducible refine (?_ : am_Does _ 4 (Sum.inr (Sum.inr 15) :: Sum.inr (Sum.inr 1) :: _) _ _)); refine w_takeSettings_X0_15_1 (ν := ν)  ?_  (fun _ _ => ?_)) | refine w_takeSettings_X0_8_1 (ν := ν)  ?_  (fun _ _ => ?_) | refine w_takeSettings_X0_15_8 (ν := ν)  ?_  (fun _ _ => ?_) | refine w_takeSettings_X0_15_1 (ν := ν)  ?_  (fun _ _ => ?_))
    | ((with_reducible refine (?_ : am_Does _ 5 _ _ _)); first | ((with_reducible refine (?_ : am_Does _ 5 (Sum.inr (Sum.inr 8) :: _ :: Sum.inr (Sum.inr 1) :: _) _ _)); refine w_takeRunner_X0_8_1 (ν := ν) _ _ ?_  (fun _ _ => ?_)) | ((with_reducible refine (?_ : am_Does _ 5 (Sum.inr (Sum.inr 15) :: _ :: Sum.inr (Sum.inr 8) :: _) _ _)); refine w_takeRunner_X0_15_8 (ν := ν) _ _ ?_  (fun _ _ => ?_)) | ((with_reducible refine (?_ : am_Does _ 5 (Sum.inr (Sum.inr 15) :: _ :: Sum.inr (Sum.inr 1) :: _) _ _)); refine w_takeRunner_X0_15_1 (ν := ν) _ _ ?_  (fun _ _ => ?_)) | refine w_takeRunner_X0_8_1 (ν := ν) _ _ ?_  (fun _ _ => ?_) | refine w_takeRunner_X0_15_8 (ν := ν) _ _ ?_  (fun _ _ => ?_) | refine w_takeRunner_X0_15_1 (ν := ν) _ _ ?_  (fun _ _ => ?_))
    | refine And.intro (fun h => absurd h (by decide)) (fun _ => ?_)
    | refine And.intro (fun _ => ?_) (fun h => absurd (by decide) h)
    | refine And.intro (fun _ => ?_) (fun _ => ?_)
    | refine And.intro ?_ ?_
  all_goals (first | assumption | omega | (simp only [am_c, am_up] at *; omega) | (simp [am_c, am_up] at *; omega))
theorem w_startsAs_X0_8_15 {l : Launch} {μ : am_N} {Q : Option am_V → am_N → Prop} {ν : am_N}  (hS : sx ν μ)  (k : ∀ r, Q (some (.inl r)) μ) : am_Does l 13 [.inr (.inr 8), .inr (.inr 15)] μ Q := by
  refine am_Does_of (Nat.le_of_ble_eq_true rfl) (Nat.le_of_ble_eq_true rfl) (Nat.le_of_ble_eq_true rfl) ?_
  have hb := sx_all hS
  have lp2 : ∀ (m : Nat) (i : Int) , 0 ≤ i → i ≤ 4 → 4 - i < (m : Int) → am_AW l 0 (fun _ => 0) 13 Q 2 [some (.inr (.inr 8)), some (.inr (.inr 15)), some (.inl i)] [] μ := by
    intro m
    induction m with
    | zero =>
      intro i  hv0 hv1 hm
      exfalso
      omega
    | succ m ih =>
      intro i  hv0 hv1 hm
      refine am_go (ct := fun pc => Nat.beq pc 2) am_oX0_startsAs 300 ?_
      conv => whnf
      repeat' first
        | (refine (?_ : am_wp _ _ _ _ _ _ _ _ _ _ _ _); conv => whnf)
        | (refine (?_ : am_sw _ _ _ _); conv => whnf)
        | refine And.intro trivial ?_
        | exact trivial
        | assumption
        | ((with_reducible refine (?_ : _ ∧ _)); first | (with_reducible first | refine am_jn am_q1 ?_ | refine am_jn am_q2 ?_ | refine am_jn am_q3 ?_ | refine am_jn am_q4 ?_ | refine am_jn am_q6 ?_ | refine am_jn am_q9 ?_ | refine am_jn am_p1 ?_ | refine am_jy am_p0 ?_ | refine am_kn am_q1 ?_ | refine am_kn am_q2 ?_ | refine am_kn am_q3 ?_ | refine am_kn am_q4 ?_ | refine am_kn am_q6 ?_ | refine am_kn am_q9 ?_ | refine am_kn am_p1 ?_ | refine am_ky am_p0 ?_) | refine And.intro (fun h => absurd h (by decide)) (fun _ => ?_) | refine And.intro (fun _ => ?_) (fun h => absurd (by decide) h) | refine And.intro (fun _ => ?_) (fun _ => ?_) | refine And.intro ?_ ?_)
        | exact k _
        | refine sx_up ?_ rfl
        | ((with_reducible refine (?_ : am_AW _ _ _ _ _ 2 _ _ _)); refine ih _  ?_ ?_ ?_)
        | refine And.intro (fun h => absurd h (by decide)) (fun _ => ?_)
        | refine And.intro (fun _ => ?_) (fun h => absurd (by decide) h)
        | refine And.intro (fun _ => ?_) (fun _ => ?_)
        | refine And.intro ?_ ?_
      all_goals (first | assumption | omega | (simp only [am_c, am_up] at *; omega) | (simp [am_c, am_up] at *; omega))
  have lp2' : ∀ (i : Int) , 0 ≤ i → i ≤ 4 → am_AW l 0 (fun _ => 0) 13 Q 2 [some (.inr (.inr 8)), some (.inr (.inr 15)), some (.inl i)] [] μ := fun i  hv0 hv1 => lp2 ((4 - i) + 1).toNat i  hv0 hv1 (by omega)
  refine am_go (ct := fun pc => Nat.beq pc 2) am_oX0_startsAs 300 ?_
  conv => whnf
  repeat' first
    | (refine (?_ : am_wp _ _ _ _ _ _ _ _ _ _ _ _); conv => whnf)
    | (refine (?_ : am_sw _ _ _ _); conv => whnf)
    | refine And.intro trivial ?_
    | exact trivial
    | assumption
    | ((with_reducible refine (?_ : _ ∧ _)); first | (with_reducible first | refine am_jn am_q1 ?_ | refine am_jn am_q2 ?_ | refine am_jn am_q3 ?_ | refine am_jn am_q4 ?_ | refine am_jn am_q6 ?_ | refine am_jn am_q9 ?_ | refine am_jn am_p1 ?_ | refine am_jy am_p0 ?_ | refine am_kn am_q1 ?_ | refine am_kn am_q2 ?_ | refine am_kn am_q3 ?_ | refine am_kn am_q4 ?_ | refine am_kn am_q6 ?_ | refine am_kn am_q9 ?_ | refine am_kn am_p1 ?_ | refine am_ky am_p0 ?_) | refine And.intro (fun h => absurd h (by decide)) (fun _ => ?_) | refine And.intro (fun _ => ?_) (fun h => absurd (by decide) h) | refine And.intro (fun _ => ?_) (fun _ => ?_) | refine And.intro ?_ ?_)
    | exact k _
    | refine sx_up ?_ rfl
    | ((with_reducible refine (?_ : am_AW _ _ _ _ _ 2 _ _ _)); refine lp2' _  ?_ ?_)
    | refine And.intro (fun h => absurd h (by decide)) (fun _ => ?_)
    | refine And.intro (fun _ => ?_) (fun h => absurd (by decide) h)
    | refine And.intro (fun _ => ?_) (fun _ => ?_)
    | refine And.intro ?_ ?_
  all_goals (first | assumption | omega | (simp only [am_c, am_up] at *; omega) | (simp [am_c, am_up] at *; omega))
