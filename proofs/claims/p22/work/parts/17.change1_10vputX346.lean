theorem v_put_X3_46 {l : Launch} {μ : am_N} {Q : Option am_V → am_N → Prop} (v : Int) (hS : sx μ μ) (h1 : μ 46 1 < 6) (k : ∀ r μ', r = μ 46 1 + 1 → μ' = am_up (am_up μ 46 1 (μ 46 1 + 1)) 47 (μ 46 1).toNat v → Q (some (.inl r)) μ') : am_Does l 42 [.inr (.inr 46), .inl v] μ Q := by
  refine am_Does_of (Nat.le_of_ble_eq_true rfl) (Nat.le_of_ble_eq_true rfl) (Nat.le_of_ble_eq_true rfl) ?_
  have hb := sx_all hS
  have e1 : am_c (μ 46 1) = μ 46 1 := am_cR (by omega) (by omega)
  refine am_go (ct := fun _ => false) am_oX3_put 300 ?_
  conv => whnf
  repeat' first
    | (refine (?_ : am_wp _ _ _ _ _ _ _ _ _ _ _ _); conv => whnf)
    | (refine (?_ : am_sw _ _ _ _); conv => whnf)
    | refine And.intro trivial ?_
    | exact trivial
    | assumption
    | ((with_reducible refine (?_ : _ ∧ _)); first | (with_reducible first | refine am_jn am_q1 ?_ | refine am_jn am_q2 ?_ | refine am_jn am_q3 ?_ | refine am_jn am_q4 ?_ | refine am_jn am_q6 ?_ | refine am_jn am_q9 ?_ | refine am_jn am_p1 ?_ | refine am_jy am_p0 ?_ | refine am_kn am_q1 ?_ | refine am_kn am_q2 ?_ | refine am_kn am_q3 ?_ | refine am_kn am_q4 ?_ | refine am_kn am_q6 ?_ | refine am_kn am_q9 ?_ | refine am_kn am_p1 ?_ | refine am_ky am_p0 ?_) | refine And.intro (fun h => absurd h (by decide)) (fun _ => ?_) | refine And.intro (fun _ => ?_) (fun h => absurd (by decide) h) | refine And.intro (fun _ => ?_) (fun _ => ?_) | refine And.intro ?_ ?_)
    | refine k _ _ ?_ ?_
    | ((with_reducible refine (?_ : am_Does _ 41 _ _ _)); refine v_full_X3_46 (ν := μ) hS (fun _ => ?_) (fun _ => ?_))
    | refine And.intro (fun h => absurd h (by decide)) (fun _ => ?_)
    | refine And.intro (fun _ => ?_) (fun h => absurd (by decide) h)
    | refine And.intro (fun _ => ?_) (fun _ => ?_)
    | refine And.intro ?_ ?_
  all_goals (first | assumption | decide | omega | (simp only [e1]; done) | (simp only [e1] at * <;> omega) | (simp only [am_c, am_up] at * <;> omega) | (simp [am_c, am_up] at * <;> omega))
