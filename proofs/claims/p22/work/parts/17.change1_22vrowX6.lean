/-! contracts: the system's public changes (weak; rows exactly) -/
theorem v_row_X6 {l : Launch} {μ : am_N} {Q : Option am_V → am_N → Prop} (a : Int) (hS : sx μ μ) (ha0 : -2147483648 ≤ a) (ha1 : a ≤ 2147483647) (k : ∀ r μ', gv [44, 45] μ μ' → ((am_c a < 0 ∧ r = -4 ∧ μ' 44 1 = μ 44 1) ∨ (0 ≤ am_c a ∧ (99 < am_c a ∨ μ 44 1 = 12) ∧ r = -6 ∧ μ' 44 1 = μ 44 1) ∨ (0 ≤ am_c a ∧ am_c a ≤ 99 ∧ μ 44 1 < 12 ∧ r = μ 44 1 + 1 ∧ μ' 44 1 = μ 44 1 + 1)) → Q (some (.inl r)) μ') : am_Does l 86 [.inr (.inr 0), .inl a] μ Q := by
  refine am_Does_of (Nat.le_of_ble_eq_true rfl) (Nat.le_of_ble_eq_true rfl) (Nat.le_of_ble_eq_true rfl) ?_
  have hb := sx_all hS
  refine am_go (ct := fun _ => false) am_oX6_row 300 ?_
  conv => whnf
  repeat' first
    | (refine (?_ : am_wp _ _ _ _ _ _ _ _ _ _ _ _); conv => whnf)
    | (refine (?_ : am_sw _ _ _ _); conv => whnf)
    | refine And.intro trivial ?_
    | exact trivial
    | assumption
    | refine gv_up ?_ rfl rfl
    | refine gv_b1 ?_ rfl ?_
    | refine gv_b22 ?_ rfl ?_
    | refine gv_b36 ?_ rfl ?_
    | refine gv_b44 ?_ rfl ?_
    | refine gv_b46 ?_ rfl ?_
    | refine gv_b48 ?_ rfl ?_
    | refine gv_b50 ?_ rfl ?_
    | refine gv_b53 ?_ rfl ?_
    | refine gv_b55 ?_ rfl ?_
    | refine gv_b58 ?_ rfl ?_
    | refine gv_b60 ?_ rfl ?_
    | refine gv_b62 ?_ rfl ?_
    | exact gv_rf hS
    | refine gv_sx ?_ (by assumption)
    | exact hS
    | ((with_reducible refine (?_ : _ ∧ _)); first | (with_reducible first | refine am_jn am_q1 ?_ | refine am_jn am_q2 ?_ | refine am_jn am_q3 ?_ | refine am_jn am_q4 ?_ | refine am_jn am_q6 ?_ | refine am_jn am_q9 ?_ | refine am_jn am_p1 ?_ | refine am_jy am_p0 ?_ | refine am_kn am_q1 ?_ | refine am_kn am_q2 ?_ | refine am_kn am_q3 ?_ | refine am_kn am_q4 ?_ | refine am_kn am_q6 ?_ | refine am_kn am_q9 ?_ | refine am_kn am_p1 ?_ | refine am_ky am_p0 ?_) | refine And.intro (fun h => absurd h (by decide)) (fun _ => ?_) | refine And.intro (fun _ => ?_) (fun h => absurd (by decide) h) | refine And.intro (fun _ => ?_) (fun _ => ?_) | refine And.intro ?_ ?_)
    | refine k _ _ ?_ ?_
    | ((with_reducible refine (?_ : am_Does _ 41 _ _ _)); refine v_full_X3_44 (ν := μ) ?_ (fun _ => ?_) (fun _ => ?_))
    | ((with_reducible refine (?_ : am_Does _ 42 _ _ _)); refine v_putE_X3_44 _ ?_ ?_ ?_)
    | ((with_reducible refine (?_ : am_Does _ 113 _ _ _)); refine w_refuse_X6 _ (gv_i (E := [44, 45]) (ν := μ) (by repeat' first | assumption | exact gv_rf hS | refine gv_up ?_ rfl rfl | refine gv_sx ?_ (by assumption))) ?_ ?_ (fun _ _ _ => ?_))
    | refine And.intro (fun h => absurd h (by decide)) (fun _ => ?_)
    | refine And.intro (fun _ => ?_) (fun h => absurd (by decide) h)
    | refine And.intro (fun _ => ?_) (fun _ => ?_)
    | refine And.intro ?_ ?_
  all_goals (first | assumption | decide | omega | (subst_vars; simp [am_upS] at * <;> omega) | (intros; omega) | (simp only [am_c, am_up] at * <;> omega) | (simp [am_c, am_up] at * <;> omega))
