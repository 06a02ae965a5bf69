theorem m_partOf {l : Launch} {μ : am_N} {Q : Option am_V → am_N → Prop} (a b c : Int) (h0 : am_d b ≠ 0) (k : ∀ r : Int, Q (some (.inr (.inl r))) μ) : am_Does l 185 [.inr (.inl a), .inr (.inl b), .inl c] μ Q := by
  refine am_Does_of (Nat.le_of_ble_eq_true rfl) (Nat.le_of_ble_eq_true rfl) (Nat.le_of_ble_eq_true rfl) ?_
  refine am_go (ct := fun _ => false) am_oX7_partOf 300 ?_
  conv => whnf
  repeat' first
    | (refine (?_ : am_wp _ _ _ _ _ _ _ _ _ _ _ _); conv => whnf)
    | (refine (?_ : am_sw _ _ _ _); conv => whnf)
    | refine And.intro trivial ?_
    | exact trivial
    | assumption
    | ((with_reducible refine (?_ : _ ∧ _)); first | (with_reducible first | refine am_jn am_q1 ?_ | refine am_jn am_q2 ?_ | refine am_jn am_q3 ?_ | refine am_jn am_q4 ?_ | refine am_jn am_q6 ?_ | refine am_jn am_q9 ?_ | refine am_jn am_p1 ?_ | refine am_jy am_p0 ?_ | refine am_kn am_q1 ?_ | refine am_kn am_q2 ?_ | refine am_kn am_q3 ?_ | refine am_kn am_q4 ?_ | refine am_kn am_q6 ?_ | refine am_kn am_q9 ?_ | refine am_kn am_p1 ?_ | refine am_ky am_p0 ?_) | refine And.intro (fun h => absurd h (by decide)) (fun _ => ?_) | refine And.intro (fun _ => ?_) (fun h => absurd (by decide) h) | refine And.intro (fun _ => ?_) (fun _ => ?_) | refine And.intro ?_ ?_)
    | refine k _
    | ((with_reducible refine (?_ : am_Does _ 184 _ _ _)); refine m_divisor _ _ ?_ (fun _ _ => ?_))
    | refine And.intro (fun h => absurd h (by decide)) (fun _ => ?_)
    | refine And.intro (fun _ => ?_) (fun h => absurd (by decide) h)
    | refine And.intro (fun _ => ?_) (fun _ => ?_)
    | refine And.intro ?_ ?_
  all_goals (first | assumption | decide | omega | (intros; omega) | (intros; simp only [am_c] at * <;> omega) | (simp only [am_c, am_up] at * <;> omega) | (simp [am_c, am_up] at * <;> omega))
theorem m_order {l : Launch} {ν : am_N} {Q : Option am_V → am_N → Prop}  (hS : mi ν)   (k : ∀ (r : Int) (μ' : am_N), gm ms ν μ' → Q (some (.inl r)) μ') : am_Does l 181 [.inr (.inr 83)] ν Q := by
  refine am_Does_of (Nat.le_of_ble_eq_true rfl) (Nat.le_of_ble_eq_true rfl) (Nat.le_of_ble_eq_true rfl) ?_
  have hb := mi_all hS
  refine am_go (ct := fun _ => false) am_oX7_order 300 ?_
  conv => whnf
  repeat' first
    | (refine (?_ : am_wp _ _ _ _ _ _ _ _ _ _ _ _); conv => whnf)
    | (refine (?_ : am_sw _ _ _ _); conv => whnf)
    | refine And.intro trivial ?_
    | exact trivial
    | assumption
    | ((with_reducible refine (?_ : _ ∧ _)); first | (with_reducible first | refine am_jn am_q1 ?_ | refine am_jn am_q2 ?_ | refine am_jn am_q3 ?_ | refine am_jn am_q4 ?_ | refine am_jn am_q6 ?_ | refine am_jn am_q9 ?_ | refine am_jn am_p1 ?_ | refine am_jy am_p0 ?_ | refine am_kn am_q1 ?_ | refine am_kn am_q2 ?_ | refine am_kn am_q3 ?_ | refine am_kn am_q4 ?_ | refine am_kn am_q6 ?_ | refine am_kn am_q9 ?_ | refine am_kn am_p1 ?_ | refine am_ky am_p0 ?_) | refine And.intro (fun h => absurd h (by decide)) (fun _ => ?_) | refine And.intro (fun _ => ?_) (fun h => absurd (by decide) h) | refine And.intro (fun _ => ?_) (fun _ => ?_) | refine And.intro ?_ ?_)
    | refine k _ _ ?_
    | ((with_reducible refine (?_ : am_Does _ 166 _ _ _)); refine m_takesTimes  (gm_rf (by repeat' first | assumption | exact gm_i (by assumption) | exact md_i (by assumption) | refine mi_up ?_ rfl | refine mi_100 ?_ ?_ ?_ | (simp only [am_c] at * <;> omega)))  (fun _ _ _ _ _ => ?_))
    | ((with_reducible refine (?_ : am_Does _ 178 _ _ _)); refine m_digits  ?_  (fun _ => ?_))
    | exact gm_rf hS
    | refine gm_up ?_ rfl rfl
    | refine gm_up ?_ mo1_self rfl
    | refine gm_up ?_ mo1_in rfl
    | refine gm_100 ?_ rfl ?_ ?_
    | refine gm_14 ?_ rfl ?_ ?_
    | refine gm_15 ?_ rfl ?_ ?_
    | refine gm_16 ?_ rfl ?_ ?_
    | refine gm_21 ?_ rfl ?_ ?_
    | refine gm_33 ?_ rfl ?_ ?_
    | refine gm_40 ?_ rfl ?_ ?_
    | refine gm_42 ?_ rfl ?_ ?_
    | refine md_up ?_ rfl rfl
    | refine md_tr ?_ (by assumption) ?_
    | refine gm_tr ?_ (by assumption) ?_
    | refine gm_put ?_ ?_ rfl
    | refine mi_up ?_ rfl
    | exact gm_i (by assumption)
    | exact md_i (by assumption)
    | exact sb_id
    | exact sb_T_s
    | exact sb_T_Q
    | exact sb_T_M
    | exact sb_R_M
    | exact sb_L_M
    | exact mo_l
    | exact mo1_sub
    | exact mo1_one sb_T_s
    | exact mo1_one mo_l
    | exact mo1_one sb_T_Q
    | exact mo1_one (mo1_one sb_T_s)
    | exact mo1_one (mo1_one sb_id)
    | exact fun k j h => sb_T_Q k j (mo_l k j h)
    | exact fun k j h => mo_l k j (mo_l k j h)
    | exact fun k j h => sb_T_s k j (mo_l k j h)
    | refine And.intro (fun h => absurd h (by decide)) (fun _ => ?_)
    | refine And.intro (fun _ => ?_) (fun h => absurd (by decide) h)
    | refine And.intro (fun _ => ?_) (fun _ => ?_)
    | refine And.intro ?_ ?_
  all_goals (first | assumption | decide | omega | rfl | (simp only [am_c] at * <;> omega) | (simp only [am_c, am_up] at * <;> omega) | (simp [am_c, am_up] at * <;> omega))
theorem m_likely {l : Launch} {ν : am_N} {Q : Option am_V → am_N → Prop} (a b : Int) (hS : mi ν) (ha0 : -2147483648 ≤ a) (ha1 : a ≤ 2147483647) (hb0 : -2147483648 ≤ b) (hb1 : b ≤ 2147483647)  (k : ∀ (r : Int) (μ' : am_N), gm ms ν μ' → Q (some (.inr (.inl r))) μ') : am_Does l 186 [.inr (.inr 83), .inl a, .inl b] ν Q := by
  refine am_Does_of (Nat.le_of_ble_eq_true rfl) (Nat.le_of_ble_eq_true rfl) (Nat.le_of_ble_eq_true rfl) ?_
  have hb := mi_all hS
  refine am_go (ct := fun _ => false) am_oX7_likely 300 ?_
  conv => whnf
  repeat' first
    | (refine (?_ : am_wp _ _ _ _ _ _ _ _ _ _ _ _); conv => whnf)
    | (refine (?_ : am_sw _ _ _ _); conv => whnf)
    | refine And.intro trivial ?_
    | exact trivial
    | assumption
    | ((with_reducible refine (?_ : _ ∧ _)); first | (with_reducible first | refine am_jn am_q1 ?_ | refine am_jn am_q2 ?_ | refine am_jn am_q3 ?_ | refine am_jn am_q4 ?_ | refine am_jn am_q6 ?_ | refine am_jn am_q9 ?_ | refine am_jn am_p1 ?_ | refine am_jy am_p0 ?_ | refine am_kn am_q1 ?_ | refine am_kn am_q2 ?_ | refine am_kn am_q3 ?_ | refine am_kn am_q4 ?_ | refine am_kn am_q6 ?_ | refine am_kn am_q9 ?_ | refine am_kn am_p1 ?_ | refine am_ky am_p0 ?_) | refine And.intro (fun h => absurd h (by decide)) (fun _ => ?_) | refine And.intro (fun _ => ?_) (fun h => absurd (by decide) h) | refine And.intro (fun _ => ?_) (fun _ => ?_) | refine And.intro ?_ ?_)
    | refine k _ _ ?_
    | ((with_reducible refine (?_ : am_Does _ 146 _ _ _)); refine m_isRunner _ ?_ (fun _ _ _ => ?_) (fun _ => ?_))
    | ((with_reducible refine (?_ : am_Does _ 142 _ _ _)); refine m_lowest _ (gm_rf (by repeat' first | assumption | exact gm_i (by assumption) | exact md_i (by assumption) | refine mi_up ?_ rfl | refine mi_100 ?_ ?_ ?_ | (simp only [am_c] at * <;> omega))) ?_ ?_ (fun _ _ _ => ?_))
    | ((with_reducible refine (?_ : am_Does _ 143 _ _ _)); refine m_isIn _ _ _ (fun _ _ => ?_) (fun _ => ?_))
    | ((with_reducible refine (?_ : am_Does _ 182 _ _ _)); refine m_findFirstsE (by repeat' first | assumption | exact gm_i (by assumption) | exact md_i (by assumption) | refine mi_up ?_ rfl | refine mi_100 ?_ ?_ ?_ | (simp only [am_c] at * <;> omega)) (fun _ _ _ _ => ?_))
    | ((with_reducible refine (?_ : am_Does _ 169 _ _ _)); refine m_races ?_)
    | ((with_reducible refine (?_ : am_Does _ 185 _ _ _)); refine m_partOf _ _ _ ?_ (fun _ => ?_))
    | exact gm_rf hS
    | refine gm_up ?_ rfl rfl
    | refine gm_up ?_ mo1_self rfl
    | refine gm_up ?_ mo1_in rfl
    | refine gm_100 ?_ rfl ?_ ?_
    | refine gm_14 ?_ rfl ?_ ?_
    | refine gm_15 ?_ rfl ?_ ?_
    | refine gm_16 ?_ rfl ?_ ?_
    | refine gm_21 ?_ rfl ?_ ?_
    | refine gm_33 ?_ rfl ?_ ?_
    | refine gm_40 ?_ rfl ?_ ?_
    | refine gm_42 ?_ rfl ?_ ?_
    | refine md_up ?_ rfl rfl
    | refine md_tr ?_ (by assumption) ?_
    | refine gm_tr ?_ (by assumption) ?_
    | refine gm_put ?_ ?_ rfl
    | refine mi_up ?_ rfl
    | exact gm_i (by assumption)
    | exact md_i (by assumption)
    | exact sb_id
    | exact sb_T_s
    | exact sb_T_Q
    | exact sb_T_M
    | exact sb_R_M
    | exact sb_L_M
    | exact mo_l
    | exact mo1_sub
    | exact mo1_one sb_T_s
    | exact mo1_one mo_l
    | exact mo1_one sb_T_Q
    | exact mo1_one (mo1_one sb_T_s)
    | exact mo1_one (mo1_one sb_id)
    | exact fun k j h => sb_T_Q k j (mo_l k j h)
    | exact fun k j h => mo_l k j (mo_l k j h)
    | exact fun k j h => sb_T_s k j (mo_l k j h)
    | refine And.intro (fun h => absurd h (by decide)) (fun _ => ?_)
    | refine And.intro (fun _ => ?_) (fun h => absurd (by decide) h)
    | refine And.intro (fun _ => ?_) (fun _ => ?_)
    | refine And.intro ?_ ?_
  all_goals (first | assumption | decide | exact am_rc (by omega) (by omega) | exact hrc | exact am_c3l (by assumption) (by assumption) | exact am_c3h (by assumption) (by assumption) | (intro h; rw [show (4096 : Int) = 4096 from rfl] at h; revert h; decide) | omega | rfl | (simp only [am_c] at * <;> omega) | (simp only [am_c, am_up] at * <;> omega) | (simp [am_c, am_up] at * <;> omega))
