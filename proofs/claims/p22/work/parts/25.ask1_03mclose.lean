theorem m_close {l : Launch} {ν : am_N} {Q : Option am_V → am_N → Prop} (a b : Int) (hS : mi ν) (ha0 : -2147483648 ≤ a) (ha1 : a ≤ 2147483647) (hb0 : -2147483648 ≤ b) (hb1 : b ≤ 2147483647)  (k : ∀ (r : Int) (μ' : am_N), gm ms ν μ' → Q (some (.inr (.inl r))) μ') : am_Does l 190 [.inr (.inr 83), .inl a, .inl b] ν Q := by
  refine am_Does_of (Nat.le_of_ble_eq_true rfl) (Nat.le_of_ble_eq_true rfl) (Nat.le_of_ble_eq_true rfl) ?_
  have hb := mi_all hS
  have lp74 : ∀ (m : Nat) (w s i : Int) (μ : am_N) , gm ms ν μ → 0 ≤ i → (i ≤ am_c (am_shl 1 (2 * ν 83 14)) ∨ i = 0) → max (am_c (am_shl 1 (2 * ν 83 14)) - i) 0 < (m : Int) → am_AW l 0 (fun _ => 0) 190 Q 74 [some (.inr (.inr 83)), some (.inl a), some (.inl b), some (.inl w), some (.inr (.inl s)), none, some (.inl i)] [] μ := by
    intro m
    induction m with
    | zero =>
      intro w s i μ hv0 hv1 hv2 hm
      have hb := mi_all hv0.1
      exfalso
      omega
    | succ m ih =>
      intro w s i μ hv0 hv1 hv2 hm
      have hb := mi_all hv0.1
      have e14 : μ 83 14 = ν 83 14 := hv0.2 83 14 rfl
      have hrc := am_rc (n := μ 83 14) (by omega) (by omega)
      refine am_go (ct := fun pc => Nat.beq pc 74) am_oX7_close 300 ?_
      conv => whnf
      repeat' first
        | (refine (?_ : am_wp _ _ _ _ _ _ _ _ _ _ _ _); conv => whnf)
        | (refine (?_ : am_sw _ _ _ _); conv => whnf)
        | refine And.intro trivial ?_
        | exact trivial
        | assumption
        | ((with_reducible refine (?_ : _ ∧ _)); first | (with_reducible first | refine am_jn am_q1 ?_ | refine am_jn am_q2 ?_ | refine am_jn am_q3 ?_ | refine am_jn am_q4 ?_ | refine am_jn am_q6 ?_ | refine am_jn am_q9 ?_ | refine am_jn am_p1 ?_ | refine am_jy am_p0 ?_ | refine am_kn am_q1 ?_ | refine am_kn am_q2 ?_ | refine am_kn am_q3 ?_ | refine am_kn am_q4 ?_ | refine am_kn am_q6 ?_ | refine am_kn am_q9 ?_ | refine am_kn am_p1 ?_ | refine am_ky am_p0 ?_) | refine And.intro (fun h => absurd h (by decide)) (fun _ => ?_) | refine And.intro (fun _ => ?_) (fun h => absurd (by decide) h) | refine And.intro (fun _ => ?_) (fun _ => ?_) | refine And.intro ?_ ?_)
        | refine k _ _ ?_
        | ((with_reducible refine (?_ : am_Does _ 143 _ _ _)); refine m_isIn _ _ _ (fun _ _ => ?_) (fun _ => ?_))
        | ((with_reducible refine (?_ : am_Does _ 142 _ _ _)); refine m_lowest _ (gm_rf (by repeat' first | assumption | exact gm_i (by assumption) | exact md_i (by assumption) | refine mi_up ?_ rfl | refine mi_100 ?_ ?_ ?_ | (simp only [am_c] at * <;> omega))) ?_ ?_ (fun _ _ _ => ?_))
        | ((with_reducible refine (?_ : am_Does _ 183 _ _ _)); refine m_unevenE (by repeat' first | assumption | exact gm_i (by assumption) | exact md_i (by assumption) | refine mi_up ?_ rfl | refine mi_100 ?_ ?_ ?_ | (simp only [am_c] at * <;> omega)) (fun _ _ _ _ => ?_))
        | ((with_reducible refine (?_ : am_Does _ 169 _ _ _)); refine m_races ?_)
        | ((with_reducible refine (?_ : am_Does _ 185 _ _ _)); refine m_partOf _ _ _ ?_ (fun _ => ?_))
        | ((with_reducible refine (?_ : am_Does _ 168 _ _ _)); refine m_takesParts _ (gm_rf (by repeat' first | assumption | exact gm_i (by assumption) | exact md_i (by assumption) | refine mi_up ?_ rfl | refine mi_100 ?_ ?_ ?_ | (simp only [am_c] at * <;> omega)))  (fun _ _ _ _ _ => ?_))
        | ((with_reducible refine (?_ : am_Does _ 189 _ _ _)); refine m_gap  ?_  (fun _ => ?_))
        | exact gm_rf hS
        | refine gm_up ?_ rfl rfl
        | refine gm_up ?_ mo1_self rfl
        | refine gm_up ?_ mo1_in rfl
        | refine gm_100 ?_ rfl ?_ ?_
        | refine gm_14 ?_ rfl ?_ ?_
        | refine gm_15 ?_ rfl ?_ ?_
        | refine gm_16 ?_ rfl ?_ ?_
        | refine gm_21 ?_ rfl ?_ ?_
        | refine gm_33 ?_ rfl ?_ ?_
        | refine gm_40 ?_ rfl ?_ ?_
        | refine gm_42 ?_ rfl ?_ ?_
        | refine md_up ?_ rfl rfl
        | refine md_tr ?_ (by assumption) ?_
        | refine gm_tr ?_ (by assumption) ?_
        | refine gm_put ?_ ?_ rfl
        | refine mi_up ?_ rfl
        | exact gm_i (by assumption)
        | exact md_i (by assumption)
        | exact sb_id
        | exact sb_T_s
        | exact sb_T_Q
        | exact sb_T_M
        | exact sb_R_M
        | exact sb_L_M
        | exact mo_l
        | exact mo1_sub
        | exact mo1_one sb_T_s
        | exact mo1_one mo_l
        | exact mo1_one sb_T_Q
        | exact mo1_one (mo1_one sb_T_s)
        | exact mo1_one (mo1_one sb_id)
        | exact fun k j h => sb_T_Q k j (mo_l k j h)
        | exact fun k j h => mo_l k j (mo_l k j h)
        | exact fun k j h => sb_T_s k j (mo_l k j h)
        | ((with_reducible refine (?_ : am_AW _ _ _ _ _ 74 _ _ _)); refine ih _ _ _ _ ?_ ?_ ?_ ?_)
        | refine And.intro (fun h => absurd h (by decide)) (fun _ => ?_)
        | refine And.intro (fun _ => ?_) (fun h => absurd (by decide) h)
        | refine And.intro (fun _ => ?_) (fun _ => ?_)
        | refine And.intro ?_ ?_
      all_goals (first | assumption | decide | exact am_rc (by omega) (by omega) | omega | (simp only [e14] at * <;> omega) | (simp only [e14, am_c] at * <;> omega))
  have lp74' : ∀ (w s i : Int) (μ : am_N) , gm ms ν μ → 0 ≤ i → (i ≤ am_c (am_shl 1 (2 * ν 83 14)) ∨ i = 0) → am_AW l 0 (fun _ => 0) 190 Q 74 [some (.inr (.inr 83)), some (.inl a), some (.inl b), some (.inl w), some (.inr (.inl s)), none, some (.inl i)] [] μ := fun w s i μ hv0 hv1 hv2 => lp74 ((max (am_c (am_shl 1 (2 * ν 83 14)) - i) 0) + 1).toNat w s i μ hv0 hv1 hv2 (by omega)
  refine am_go (ct := fun pc => Nat.beq pc 74) am_oX7_close 300 ?_
  conv => whnf
  repeat' first
    | (refine (?_ : am_wp _ _ _ _ _ _ _ _ _ _ _ _); conv => whnf)
    | (refine (?_ : am_sw _ _ _ _); conv => whnf)
    | refine And.intro trivial ?_
    | exact trivial
    | assumption
    | ((with_reducible refine (?_ : _ ∧ _)); first | (with_reducible first | refine am_jn am_q1 ?_ | refine am_jn am_q2 ?_ | refine am_jn am_q3 ?_ | refine am_jn am_q4 ?_ | refine am_jn am_q6 ?_ | refine am_jn am_q9 ?_ | refine am_jn am_p1 ?_ | refine am_jy am_p0 ?_ | refine am_kn am_q1 ?_ | refine am_kn am_q2 ?_ | refine am_kn am_q3 ?_ | refine am_kn am_q4 ?_ | refine am_kn am_q6 ?_ | refine am_kn am_q9 ?_ | refine am_kn am_p1 ?_ | refine am_ky am_p0 ?_) | refine And.intro (fun h => absurd h (by decide)) (fun _ => ?_) | refine And.intro (fun _ => ?_) (fun h => absurd (by decide) h) | refine And.intro (fun _ => ?_) (fun _ => ?_) | refine And.intro ?_ ?_)
    | refine k _ _ ?_
    | ((with_reducible refine (?_ : am_Does _ 143 _ _ _)); refine m_isIn _ _ _ (fun _ _ => ?_) (fun _ => ?_))
    | ((with_reducible refine (?_ : am_Does _ 142 _ _ _)); refine m_lowest _ (gm_rf (by repeat' first | assumption | exact gm_i (by assumption) | exact md_i (by assumption) | refine mi_up ?_ rfl | refine mi_100 ?_ ?_ ?_ | (simp only [am_c] at * <;> omega))) ?_ ?_ (fun _ _ _ => ?_))
    | ((with_reducible refine (?_ : am_Does _ 183 _ _ _)); refine m_unevenE (by repeat' first | assumption | exact gm_i (by assumption) | exact md_i (by assumption) | refine mi_up ?_ rfl | refine mi_100 ?_ ?_ ?_ | (simp only [am_c] at * <;> omega)) (fun _ _ _ _ => ?_))
    | ((with_reducible refine (?_ : am_Does _ 169 _ _ _)); refine m_races ?_)
    | ((with_reducible refine (?_ : am_Does _ 185 _ _ _)); refine m_partOf _ _ _ ?_ (fun _ => ?_))
    | ((with_reducible refine (?_ : am_Does _ 168 _ _ _)); refine m_takesParts _ (gm_rf (by repeat' first | assumption | exact gm_i (by assumption) | exact md_i (by assumption) | refine mi_up ?_ rfl | refine mi_100 ?_ ?_ ?_ | (simp only [am_c] at * <;> omega)))  (fun _ _ _ _ _ => ?_))
    | ((with_reducible refine (?_ : am_Does _ 189 _ _ _)); refine m_gap  ?_  (fun _ => ?_))
    | exact gm_rf hS
    | refine gm_up ?_ rfl rfl
    | refine gm_up ?_ mo1_self rfl
    | refine gm_up ?_ mo1_in rfl
    | refine gm_100 ?_ rfl ?_ ?_
    | refine gm_14 ?_ rfl ?_ ?_
    | refine gm_15 ?_ rfl ?_ ?_
    | refine gm_16 ?_ rfl ?_ ?_
    | refine gm_21 ?_ rfl ?_ ?_
    | refine gm_33 ?_ rfl ?_ ?_
    | refine gm_40 ?_ rfl ?_ ?_
    | refine gm_42 ?_ rfl ?_ ?_
    | refine md_up ?_ rfl rfl
    | refine md_tr ?_ (by assumption) ?_
    | refine gm_tr ?_ (by assumption) ?_
    | refine gm_put ?_ ?_ rfl
    | refine mi_up ?_ rfl
    | exact gm_i (by assumption)
    | exact md_i (by assumption)
    | exact sb_id
    | exact sb_T_s
    | exact sb_T_Q
    | exact sb_T_M
    | exact sb_R_M
    | exact sb_L_M
    | exact mo_l
    | exact mo1_sub
    | exact mo1_one sb_T_s
    | exact mo1_one mo_l
    | exact mo1_one sb_T_Q
    | exact mo1_one (mo1_one sb_T_s)
    | exact mo1_one (mo1_one sb_id)
    | exact fun k j h => sb_T_Q k j (mo_l k j h)
    | exact fun k j h => mo_l k j (mo_l k j h)
    | exact fun k j h => sb_T_s k j (mo_l k j h)
    | ((with_reducible refine (?_ : am_AW _ _ _ _ _ 74 _ _ _)); refine lp74' _ _ _ _ ?_ ?_ ?_)
    | refine And.intro (fun h => absurd h (by decide)) (fun _ => ?_)
    | refine And.intro (fun _ => ?_) (fun h => absurd (by decide) h)
    | refine And.intro (fun _ => ?_) (fun _ => ?_)
    | refine And.intro ?_ ?_
  all_goals (first | assumption | decide | exact am_rc (by omega) (by omega) | exact hrc | exact am_c3l (by assumption) (by assumption) | exact am_c3h (by assumption) (by assumption) | (intro h; rw [show (4096 : Int) = 4096 from rfl] at h; revert h; decide) | omega | rfl | (simp only [am_c] at * <;> omega) | (simp only [am_c, am_up] at * <;> omega) | (simp [am_c, am_up] at * <;> omega))
