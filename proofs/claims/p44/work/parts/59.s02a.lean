/-! o -/
theorem v_judge_X6Zo {l : Launch} {μ : am_N} {Q : Option am_V → am_N → Prop}  (hS : sx μ μ)  (k : ∀ r μ', gv [44] μ μ' → μ' 44 1 = 0 → Q (some (.inl r)) μ') : am_Does l 87 [.inr (.inr 0)] μ Q := by
  refine am_Does_of (Nat.le_of_ble_eq_true rfl) (Nat.le_of_ble_eq_true rfl) (Nat.le_of_ble_eq_true rfl) ?_
  have hb := sx_all hS
  refine am_go (ct := fun _ => false) am_oX6_judge 300 ?_
  conv => whnf
  repeat' first
    | (refine (?_ : am_wp _ _ _ _ _ _ _ _ _ _ _ _); conv => whnf)
    | (refine (?_ : am_sw _ _ _ _); conv => whnf)
    | refine And.intro trivial ?_
    | exact trivial
    | (with_reducible assumption)
    | refine gv_up ?_ rfl rfl
    | refine gv_b1 ?_ rfl ?_
    | refine gv_b22 ?_ rfl ?_
    | refine gv_b36 ?_ rfl ?_
    | refine gv_b44 ?_ rfl ?_
    | refine gv_b46 ?_ rfl ?_
    | refine gv_b48 ?_ rfl ?_
    | refine gv_b50 ?_ rfl ?_
    | refine gv_b53 ?_ rfl ?_
    | refine gv_b55 ?_ rfl ?_
    | refine gv_b58 ?_ rfl ?_
    | refine gv_b60 ?_ rfl ?_
    | refine gv_b62 ?_ rfl ?_
    | exact gv_rf hS
    | refine gv_sx ?_ (by assumption)
    | exact hS
    | ((with_reducible refine (?_ : _ ∧ _)); first | (with_reducible first | refine am_jn am_q1 ?_ | refine am_jn am_q2 ?_ | refine am_jn am_q3 ?_ | refine am_jn am_q4 ?_ | refine am_jn am_q6 ?_ | refine am_jn am_q9 ?_ | refine am_jn am_p1 ?_ | refine am_jy am_p0 ?_ | refine am_kn am_q1 ?_ | refine am_kn am_q2 ?_ | refine am_kn am_q3 ?_ | refine am_kn am_q4 ?_ | refine am_kn am_q6 ?_ | refine am_kn am_q9 ?_ | refine am_kn am_p1 ?_ | refine am_ky am_p0 ?_) | refine And.intro (fun h => absurd h (by decide)) (fun _ => ?_) | refine And.intro (fun _ => ?_) (fun h => absurd (by decide) h) | refine And.intro (fun _ => ?_) (fun _ => ?_) | refine And.intro ?_ ?_)
    | refine k _ _ ?_ ?_
    | ((with_reducible refine (?_ : am_Does _ 44 _ _ _)); refine v_drop_X3_44 ?_)
    | ((with_reducible refine (?_ : am_Does _ 2 _ _ _)); first | ((with_reducible refine (?_ : am_Does _ 2 (Sum.inr (Sum.inr 8) :: Sum.inr (Sum.inr 1) :: _) _ _)); refine w_take_X0_8_1  (gv_i (E := [44]) (ν := μ) (by repeat' first | assumption | exact gv_rf hS | refine gv_up ?_ rfl rfl | refine gv_sx ?_ (by assumption)))  (fun _ _ => ?_)) | ((with_reducible refine (?_ : am_Does _ 2 (Sum.inr (Sum.inr 15) :: Sum.inr (Sum.inr 8) :: _) _ _)); refine w_take_X0_15_8  (gv_i (E := [44]) (ν := μ) (by repeat' first | assumption | exact gv_rf hS | refine gv_up ?_ rfl rfl | refine gv_sx ?_ (by assumption)))  (fun _ _ => ?_)) | refine w_take_X0_8_1  (gv_i (E := [44]) (ν := μ) (by repeat' first | assumption | exact gv_rf hS | refine gv_up ?_ rfl rfl | refine gv_sx ?_ (by assumption)))  (fun _ _ => ?_) | refine w_take_X0_15_8  (gv_i (E := [44]) (ν := μ) (by repeat' first | assumption | exact gv_rf hS | refine gv_up ?_ rfl rfl | refine gv_sx ?_ (by assumption)))  (fun _ _ => ?_))
    | ((with_reducible refine (?_ : am_Does _ 130 _ _ _)); refine w_firstNotSo_X6  (gv_i (E := [44]) (ν := μ) (by repeat' first | assumption | exact gv_rf hS | refine gv_up ?_ rfl rfl | refine gv_sx ?_ (by assumption)))  (fun _ _ _ => ?_))
    | refine And.intro (fun h => absurd h (by decide)) (fun _ => ?_)
    | refine And.intro (fun _ => ?_) (fun h => absurd (by decide) h)
    | refine And.intro (fun _ => ?_) (fun _ => ?_)
    | refine And.intro ?_ ?_
  all_goals (first | (with_reducible assumption) | decide | omega | assumption | (subst_vars; simp [am_upS] at * <;> omega) | (intros; omega) | (simp only [am_c, am_up] at * <;> omega) | (simp [am_c, am_up] at * <;> omega))
