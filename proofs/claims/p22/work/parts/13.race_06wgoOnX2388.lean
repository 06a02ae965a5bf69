theorem w_behind_X2_38_8 {l : Launch} {μ : am_N} {Q : Option am_V → am_N → Prop} {ν : am_N}  (hS : sx ν μ)  (k : ∀ μ', sx ν μ' → Q none μ') : am_Does l 35 [.inr (.inr 38), .inr (.inr 8)] μ Q := by
  refine am_Does_of (Nat.le_of_ble_eq_true rfl) (Nat.le_of_ble_eq_true rfl) (Nat.le_of_ble_eq_true rfl) ?_
  have hb := sx_all hS
  refine am_go (ct := fun _ => false) am_oX2_behind 300 ?_
  conv => whnf
  repeat' first
    | (refine (?_ : am_wp _ _ _ _ _ _ _ _ _ _ _ _); conv => whnf)
    | (refine (?_ : am_sw _ _ _ _); conv => whnf)
    | refine And.intro trivial ?_
    | exact trivial
    | assumption
    | ((with_reducible refine (?_ : _ ∧ _)); first | (with_reducible first | refine am_jn am_q1 ?_ | refine am_jn am_q2 ?_ | refine am_jn am_q3 ?_ | refine am_jn am_q4 ?_ | refine am_jn am_q6 ?_ | refine am_jn am_q9 ?_ | refine am_jn am_p1 ?_ | refine am_jy am_p0 ?_ | refine am_kn am_q1 ?_ | refine am_kn am_q2 ?_ | refine am_kn am_q3 ?_ | refine am_kn am_q4 ?_ | refine am_kn am_q6 ?_ | refine am_kn am_q9 ?_ | refine am_kn am_p1 ?_ | refine am_ky am_p0 ?_) | refine And.intro (fun h => absurd h (by decide)) (fun _ => ?_) | refine And.intro (fun _ => ?_) (fun h => absurd (by decide) h) | refine And.intro (fun _ => ?_) (fun _ => ?_) | refine And.intro ?_ ?_)
    | refine k _ ?_
    | refine sx_up ?_ rfl
    | ((with_reducible refine (?_ : am_Does _ 37 _ _ _)); first | ((with_reducible refine (?_ : am_Does _ 37 (Sum.inr (Sum.inr 29) :: _) _ _)); refine w_first_X2_29 (ν := ν)  ?_  (fun _ => ?_)) | ((with_reducible refine (?_ : am_Does _ 37 (Sum.inr (Sum.inr 38) :: _) _ _)); refine w_first_X2_38 (ν := ν)  ?_  (fun _ => ?_)) | refine w_first_X2_29 (ν := ν)  ?_  (fun _ => ?_) | refine w_first_X2_38 (ν := ν)  ?_  (fun _ => ?_))
    | ((with_reducible refine (?_ : am_Does _ 38 _ _ _)); first | ((with_reducible refine (?_ : am_Does _ 38 (Sum.inr (Sum.inr 29) :: _) _ _)); refine w_last_X2_29 (ν := ν)  ?_  (fun _ => ?_)) | ((with_reducible refine (?_ : am_Does _ 38 (Sum.inr (Sum.inr 38) :: _) _ _)); refine w_last_X2_38 (ν := ν)  ?_  (fun _ => ?_)) | refine w_last_X2_29 (ν := ν)  ?_  (fun _ => ?_) | refine w_last_X2_38 (ν := ν)  ?_  (fun _ => ?_))
    | ((with_reducible refine (?_ : am_Does _ 12 _ _ _)); first | ((with_reducible refine (?_ : am_Does _ 12 (Sum.inr (Sum.inr 8) :: _) _ _)); refine w_mend_X0_8 (ν := ν) _ _ ?_  (fun _ _ => ?_)) | ((with_reducible refine (?_ : am_Does _ 12 (Sum.inr (Sum.inr 15) :: _) _ _)); refine w_mend_X0_15 (ν := ν) _ _ ?_  (fun _ _ => ?_)) | refine w_mend_X0_8 (ν := ν) _ _ ?_  (fun _ _ => ?_) | refine w_mend_X0_15 (ν := ν) _ _ ?_  (fun _ _ => ?_))
    | refine And.intro (fun h => absurd h (by decide)) (fun _ => ?_)
    | refine And.intro (fun _ => ?_) (fun h => absurd (by decide) h)
    | refine And.intro (fun _ => ?_) (fun _ => ?_)
    | refine And.intro ?_ ?_
  all_goals (first | assumption | omega | (simp only [am_c, am_up] at *; omega) | (simp [am_c, am_up] at *; omega))
theorem w_goOn_X2_38_8 {l : Launch} {μ : am_N} {Q : Option am_V → am_N → Prop} {ν : am_N}  (hS : sx ν μ)  (k : ∀ r μ', sx ν μ' → Q (some (.inl r)) μ') : am_Does l 34 [.inr (.inr 38), .inr (.inr 8)] μ Q := by
  refine am_Does_of (Nat.le_of_ble_eq_true rfl) (Nat.le_of_ble_eq_true rfl) (Nat.le_of_ble_eq_true rfl) ?_
  have hb := sx_all hS
  refine am_go (ct := fun _ => false) am_oX2_goOn 300 ?_
  conv => whnf
  repeat' first
    | (refine (?_ : am_wp _ _ _ _ _ _ _ _ _ _ _ _); conv => whnf)
    | (refine (?_ : am_sw _ _ _ _); conv => whnf)
    | refine And.intro trivial ?_
    | exact trivial
    | assumption
    | ((with_reducible refine (?_ : _ ∧ _)); first | (with_reducible first | refine am_jn am_q1 ?_ | refine am_jn am_q2 ?_ | refine am_jn am_q3 ?_ | refine am_jn am_q4 ?_ | refine am_jn am_q6 ?_ | refine am_jn am_q9 ?_ | refine am_jn am_p1 ?_ | refine am_jy am_p0 ?_ | refine am_kn am_q1 ?_ | refine am_kn am_q2 ?_ | refine am_kn am_q3 ?_ | refine am_kn am_q4 ?_ | refine am_kn am_q6 ?_ | refine am_kn am_q9 ?_ | refine am_kn am_p1 ?_ | refine am_ky am_p0 ?_) | refine And.intro (fun h => absurd h (by decide)) (fun _ => ?_) | refine And.intro (fun _ => ?_) (fun h => absurd (by decide) h) | refine And.intro (fun _ => ?_) (fun _ => ?_) | refine And.intro ?_ ?_)
    | refine k _ _ ?_
    | refine sx_up ?_ rfl
    | ((with_reducible refine (?_ : am_Does _ 33 _ _ _)); first | ((with_reducible refine (?_ : am_Does _ 33 (Sum.inr (Sum.inr 29) :: Sum.inr (Sum.inr 1) :: _) _ _)); refine w_asRule_X2_29_1 (ν := ν)  ?_  (fun _ _ => ?_)) | ((with_reducible refine (?_ : am_Does _ 33 (Sum.inr (Sum.inr 29) :: Sum.inr (Sum.inr 8) :: _) _ _)); refine w_asRule_X2_29_8 (ν := ν)  ?_  (fun _ _ => ?_)) | ((with_reducible refine (?_ : am_Does _ 33 (Sum.inr (Sum.inr 29) :: Sum.inr (Sum.inr 15) :: _) _ _)); refine w_asRule_X2_29_15 (ν := ν)  ?_  (fun _ _ => ?_)) | ((with_reducible refine (?_ : am_Does _ 33 (Sum.inr (Sum.inr 38) :: Sum.inr (Sum.inr 8) :: _) _ _)); refine w_asRule_X2_38_8 (ν := ν)  ?_  (fun _ _ => ?_)) | refine w_asRule_X2_29_1 (ν := ν)  ?_  (fun _ _ => ?_) | refine w_asRule_X2_29_8 (ν := ν)  ?_  (fun _ _ => ?_) | refine w_asRule_X2_29_15 (ν := ν)  ?_  (fun _ _ => ?_) | refine w_asRule_X2_38_8 (ν := ν)  ?_  (fun _ _ => ?_))
    | ((with_reducible refine (?_ : am_Does _ 37 _ _ _)); first | ((with_reducible refine (?_ : am_Does _ 37 (Sum.inr (Sum.inr 29) :: _) _ _)); refine w_first_X2_29 (ν := ν)  ?_  (fun _ => ?_)) | ((with_reducible refine (?_ : am_Does _ 37 (Sum.inr (Sum.inr 38) :: _) _ _)); refine w_first_X2_38 (ν := ν)  ?_  (fun _ => ?_)) | refine w_first_X2_29 (ν := ν)  ?_  (fun _ => ?_) | refine w_first_X2_38 (ν := ν)  ?_  (fun _ => ?_))
    | ((with_reducible refine (?_ : am_Does _ 1 _ _ _)); first | ((with_reducible refine (?_ : am_Does _ 1 (Sum.inr (Sum.inr 1) :: _) _ _)); refine w_has_X0_1 (ν := ν) _ ?_ (fun _ _ _ => ?_) (fun _ => ?_)) | ((with_reducible refine (?_ : am_Does _ 1 (Sum.inr (Sum.inr 8) :: _) _ _)); refine w_has_X0_8 (ν := ν) _ ?_ (fun _ _ _ => ?_) (fun _ => ?_)) | ((with_reducible refine (?_ : am_Does _ 1 (Sum.inr (Sum.inr 15) :: _) _ _)); refine w_has_X0_15 (ν := ν) _ ?_ (fun _ _ _ => ?_) (fun _ => ?_)) | refine w_has_X0_1 (ν := ν) _ ?_ (fun _ _ _ => ?_) (fun _ => ?_) | refine w_has_X0_8 (ν := ν) _ ?_ (fun _ _ _ => ?_) (fun _ => ?_) | refine w_has_X0_15 (ν := ν) _ ?_ (fun _ _ _ => ?_) (fun _ => ?_))
    | ((with_reducible refine (?_ : am_Does _ 35 _ _ _)); refine w_behind_X2_38_8 (ν := ν)  ?_  (fun _ _ => ?_))
    | refine And.intro (fun h => absurd h (by decide)) (fun _ => ?_)
    | refine And.intro (fun _ => ?_) (fun h => absurd (by decide) h)
    | refine And.intro (fun _ => ?_) (fun _ => ?_)
    | refine And.intro ?_ ?_
  all_goals (first | assumption | omega | (simp only [am_c, am_up] at *; omega) | (simp [am_c, am_up] at *; omega))
