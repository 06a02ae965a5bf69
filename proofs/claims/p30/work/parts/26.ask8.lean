/-! contracts: the model's public questions, the second half (weak) -/
theorem m_past {l : Launch} {ν : am_N} {Q : Option am_V → am_N → Prop} (a b : Int) (hS : mi ν) (ha0 : -2147483648 ≤ a) (ha1 : a ≤ 2147483647) (hb0 : -2147483648 ≤ b) (hb1 : b ≤ 2147483647)  (k : ∀ (r : Int) (μ' : am_N), gm ms ν μ' → Q (some (.inl r)) μ') : am_Does l 243 [.inr (.inr 83), .inl a, .inl b] ν Q := by
  refine am_Does_of (Nat.le_of_ble_eq_true rfl) (Nat.le_of_ble_eq_true rfl) (Nat.le_of_ble_eq_true rfl) ?_
  have hb := mi_all hS
  have lp64 : ∀ (m : Nat) (w k0 f0 x y i : Int) (μ : am_N) , gm (mo1 (mo1 ms 86 (am_c a).toNat) 85 (am_c a).toNat) ν μ → 0 ≤ i → i ≤ 60 → 0 ≤ am_c a → am_c a < 4 → k0 = ν 85 (am_c a).toNat → f0 = ν 86 (am_c a).toNat → 60 - i < (m : Int) → am_AW l 0 (fun _ => 0) 243 Q 64 [some (.inr (.inr 83)), some (.inl a), some (.inl b), some (.inl w), some (.inl k0), some (.inl f0), some (.inl x), some (.inl y), some (.inl i)] [] μ := by
    intro m
    induction m with
    | zero =>
      intro w k0 f0 x y i μ hv0 hv1 hv2 hv3 hv4 hv5 hv6 hm
      have hb := mi_all hv0.1
      exfalso
      omega
    | succ m ih =>
      intro w k0 f0 x y i μ hv0 hv1 hv2 hv3 hv4 hv5 hv6 hm
      have hb := mi_all hv0.1
      refine am_go (ct := fun pc => Nat.beq pc 64) am_oX7_past 300 ?_
      conv => whnf
      repeat' first
        | (refine (?_ : am_wp _ _ _ _ _ _ _ _ _ _ _ _); conv => whnf)
        | (refine (?_ : am_sw _ _ _ _); conv => whnf)
        | refine And.intro trivial ?_
        | exact trivial
        | (with_reducible assumption)
        | ((with_reducible refine (?_ : _ ∧ _)); first | (with_reducible first | refine am_jn am_q1 ?_ | refine am_jn am_q2 ?_ | refine am_jn am_q3 ?_ | refine am_jn am_q4 ?_ | refine am_jn am_q6 ?_ | refine am_jn am_q9 ?_ | refine am_jn am_p1 ?_ | refine am_jy am_p0 ?_ | refine am_kn am_q1 ?_ | refine am_kn am_q2 ?_ | refine am_kn am_q3 ?_ | refine am_kn am_q4 ?_ | refine am_kn am_q6 ?_ | refine am_kn am_q9 ?_ | refine am_kn am_p1 ?_ | refine am_ky am_p0 ?_) | refine And.intro (fun h => absurd h (by decide)) (fun _ => ?_) | refine And.intro (fun _ => ?_) (fun h => absurd (by decide) h) | refine And.intro (fun _ => ?_) (fun _ => ?_) | refine And.intro ?_ ?_)
        | refine k _ _ ?_
        | ((with_reducible refine (?_ : am_Does _ 146 _ _ _)); refine m_isRunner _ ?_ (fun _ _ _ => ?_) (fun _ => ?_))
        | ((with_reducible refine (?_ : am_Does _ 143 _ _ _)); refine m_isIn _ _ _ (fun _ _ => ?_) (fun _ => ?_))
        | ((with_reducible refine (?_ : am_Does _ 140 _ _ _)); refine m_no _ (gm_rf (by repeat' first | assumption | exact gm_i (by assumption) | exact md_i (by assumption) | refine mi_up ?_ rfl | refine mi_100 ?_ ?_ ?_ | (simp only [am_c] at * <;> omega))) ?_ ?_ (fun _ _ _ _ => ?_))
        | ((with_reducible refine (?_ : am_Does _ 242 _ _ _)); refine m_hasTimes _ (by repeat' first | assumption | exact gm_i (by assumption) | exact md_i (by assumption) | refine mi_up ?_ rfl | refine mi_100 ?_ ?_ ?_ | (simp only [am_c] at * <;> omega)) ?_ ?_ (fun _ _ _ _ => ?_))
        | exact gm_rf hS
        | refine gm_up ?_ rfl rfl
        | refine gm_up ?_ mo1_self rfl
        | refine gm_up ?_ mo1_in rfl
        | refine gm_100 ?_ rfl ?_ ?_
        | refine gm_14 ?_ rfl ?_ ?_
        | refine gm_15 ?_ rfl ?_ ?_
        | refine gm_16 ?_ rfl ?_ ?_
        | refine gm_21 ?_ rfl ?_ ?_
        | refine gm_33 ?_ rfl ?_ ?_
        | refine gm_40 ?_ rfl ?_ ?_
        | refine gm_42 ?_ rfl ?_ ?_
        | refine md_up ?_ rfl rfl
        | refine md_tr ?_ (by assumption) ?_
        | refine gm_tr ?_ (by assumption) ?_
        | refine gm_put ?_ ?_ rfl
        | refine mi_up ?_ rfl
        | exact gm_i (by assumption)
        | exact md_i (by assumption)
        | exact sb_id
        | exact sb_T_s
        | exact sb_T_Q
        | exact sb_T_M
        | exact sb_R_M
        | exact sb_L_M
        | exact mo_l
        | exact mo1_sub
        | exact mo1_one sb_T_s
        | exact mo1_one mo_l
        | exact mo1_one sb_T_Q
        | exact mo1_one (mo1_one sb_T_s)
        | exact mo1_one (mo1_one sb_id)
        | exact fun k j h => sb_T_Q k j (mo_l k j h)
        | exact fun k j h => mo_l k j (mo_l k j h)
        | exact fun k j h => sb_T_s k j (mo_l k j h)
        | ((with_reducible refine (?_ : am_AW _ _ _ _ _ 64 _ _ _)); refine ih _ _ _ _ _ _ _ ?_ ?_ ?_ ?_ ?_ ?_ ?_ ?_)
        | refine And.intro (fun h => absurd h (by decide)) (fun _ => ?_)
        | refine And.intro (fun _ => ?_) (fun h => absurd (by decide) h)
        | refine And.intro (fun _ => ?_) (fun _ => ?_)
        | refine And.intro ?_ ?_
      all_goals (first | (with_reducible assumption) | decide | omega | assumption | rfl | (simp only [am_c] at * <;> omega) | (simp only [am_c, am_up] at * <;> omega) | (simp [am_c, am_up] at * <;> omega))
  have lp64' : ∀ (w k0 f0 x y i : Int) (μ : am_N) , gm (mo1 (mo1 ms 86 (am_c a).toNat) 85 (am_c a).toNat) ν μ → 0 ≤ i → i ≤ 60 → 0 ≤ am_c a → am_c a < 4 → k0 = ν 85 (am_c a).toNat → f0 = ν 86 (am_c a).toNat → am_AW l 0 (fun _ => 0) 243 Q 64 [some (.inr (.inr 83)), some (.inl a), some (.inl b), some (.inl w), some (.inl k0), some (.inl f0), some (.inl x), some (.inl y), some (.inl i)] [] μ := fun w k0 f0 x y i μ hv0 hv1 hv2 hv3 hv4 hv5 hv6 => lp64 ((60 - i) + 1).toNat w k0 f0 x y i μ hv0 hv1 hv2 hv3 hv4 hv5 hv6 (by omega)
  refine am_go (ct := fun pc => Nat.beq pc 64) am_oX7_past 300 ?_
  conv => whnf
  repeat' first
    | (refine (?_ : am_wp _ _ _ _ _ _ _ _ _ _ _ _); conv => whnf)
    | (refine (?_ : am_sw _ _ _ _); conv => whnf)
    | refine And.intro trivial ?_
    | exact trivial
    | (with_reducible assumption)
    | ((with_reducible refine (?_ : _ ∧ _)); first | (with_reducible first | refine am_jn am_q1 ?_ | refine am_jn am_q2 ?_ | refine am_jn am_q3 ?_ | refine am_jn am_q4 ?_ | refine am_jn am_q6 ?_ | refine am_jn am_q9 ?_ | refine am_jn am_p1 ?_ | refine am_jy am_p0 ?_ | refine am_kn am_q1 ?_ | refine am_kn am_q2 ?_ | refine am_kn am_q3 ?_ | refine am_kn am_q4 ?_ | refine am_kn am_q6 ?_ | refine am_kn am_q9 ?_ | refine am_kn am_p1 ?_ | refine am_ky am_p0 ?_) | refine And.intro (fun h => absurd h (by decide)) (fun _ => ?_) | refine And.intro (fun _ => ?_) (fun h => absurd (by decide) h) | refine And.intro (fun _ => ?_) (fun _ => ?_) | refine And.intro ?_ ?_)
    | refine k _ _ ?_
    | ((with_reducible refine (?_ : am_Does _ 146 _ _ _)); refine m_isRunner _ ?_ (fun _ _ _ => ?_) (fun _ => ?_))
    | ((with_reducible refine (?_ : am_Does _ 143 _ _ _)); refine m_isIn _ _ _ (fun _ _ => ?_) (fun _ => ?_))
    | ((with_reducible refine (?_ : am_Does _ 140 _ _ _)); refine m_no _ (gm_rf (by repeat' first | assumption | exact gm_i (by assumption) | exact md_i (by assumption) | refine mi_up ?_ rfl | refine mi_100 ?_ ?_ ?_ | (simp only [am_c] at * <;> omega))) ?_ ?_ (fun _ _ _ _ => ?_))
    | ((with_reducible refine (?_ : am_Does _ 242 _ _ _)); refine m_hasTimes _ (by repeat' first | assumption | exact gm_i (by assumption) | exact md_i (by assumption) | refine mi_up ?_ rfl | refine mi_100 ?_ ?_ ?_ | (simp only [am_c] at * <;> omega)) ?_ ?_ (fun _ _ _ _ => ?_))
    | exact gm_rf hS
    | refine gm_up ?_ rfl rfl
    | refine gm_up ?_ mo1_self rfl
    | refine gm_up ?_ mo1_in rfl
    | refine gm_100 ?_ rfl ?_ ?_
    | refine gm_14 ?_ rfl ?_ ?_
    | refine gm_15 ?_ rfl ?_ ?_
    | refine gm_16 ?_ rfl ?_ ?_
    | refine gm_21 ?_ rfl ?_ ?_
    | refine gm_33 ?_ rfl ?_ ?_
    | refine gm_40 ?_ rfl ?_ ?_
    | refine gm_42 ?_ rfl ?_ ?_
    | refine md_up ?_ rfl rfl
    | refine md_tr ?_ (by assumption) ?_
    | refine gm_tr ?_ (by assumption) ?_
    | refine gm_put ?_ ?_ rfl
    | refine mi_up ?_ rfl
    | exact gm_i (by assumption)
    | exact md_i (by assumption)
    | exact sb_id
    | exact sb_T_s
    | exact sb_T_Q
    | exact sb_T_M
    | exact sb_R_M
    | exact sb_L_M
    | exact mo_l
    | exact mo1_sub
    | exact mo1_one sb_T_s
    | exact mo1_one mo_l
    | exact mo1_one sb_T_Q
    | exact mo1_one (mo1_one sb_T_s)
    | exact mo1_one (mo1_one sb_id)
    | exact fun k j h => sb_T_Q k j (mo_l k j h)
    | exact fun k j h => mo_l k j (mo_l k j h)
    | exact fun k j h => sb_T_s k j (mo_l k j h)
    | ((with_reducible refine (?_ : am_AW _ _ _ _ _ 64 _ _ _)); refine lp64' _ _ _ _ _ _ _ ?_ ?_ ?_ ?_ ?_ ?_ ?_)
    | refine And.intro (fun h => absurd h (by decide)) (fun _ => ?_)
    | refine And.intro (fun _ => ?_) (fun h => absurd (by decide) h)
    | refine And.intro (fun _ => ?_) (fun _ => ?_)
    | refine And.intro ?_ ?_
  all_goals (first | (with_reducible assumption) | decide | omega | assumption | rfl | (simp only [am_c] at * <;> omega) | (simp only [am_c, am_up] at * <;> omega) | (simp [am_c, am_up] at * <;> omega))
theorem m_fits {l : Launch} {ν : am_N} {Q : Option am_V → am_N → Prop} (a b : Int) (hS : mi ν) (ha0 : -2147483648 ≤ a) (ha1 : a ≤ 2147483647) (hb0 : -2147483648 ≤ b) (hb1 : b ≤ 2147483647)  (k : ∀ (r : Int) (μ' : am_N), gm mQ ν μ' → Q (some (.inl r)) μ') : am_Does l 246 [.inr (.inr 83), .inl a, .inl b] ν Q := by
  refine am_Does_of (Nat.le_of_ble_eq_true rfl) (Nat.le_of_ble_eq_true rfl) (Nat.le_of_ble_eq_true rfl) ?_
  have hb := mi_all hS
  have lp47 : ∀ (m : Nat) (d0 x y i : Int) (μ : am_N) , gm (mo1 mQ 89 (am_c a).toNat) ν μ → 0 ≤ i → i ≤ 100 → 0 ≤ am_c a → am_c a < 4 → d0 = ν 89 (am_c a).toNat → 100 - i < (m : Int) → am_AW l 0 (fun _ => 0) 246 Q 47 [some (.inr (.inr 83)), some (.inl a), some (.inl b), some (.inl d0), some (.inl x), some (.inl y), some (.inl i)] [] μ := by
    intro m
    induction m with
    | zero =>
      intro d0 x y i μ hv0 hv1 hv2 hv3 hv4 hv5 hm
      have hb := mi_all hv0.1
      exfalso
      omega
    | succ m ih =>
      intro d0 x y i μ hv0 hv1 hv2 hv3 hv4 hv5 hm
      have hb := mi_all hv0.1
      refine am_go (ct := fun pc => Nat.beq pc 47) am_oX7_fits 300 ?_
      conv => whnf
      repeat' first
        | (refine (?_ : am_wp _ _ _ _ _ _ _ _ _ _ _ _); conv => whnf)
        | (refine (?_ : am_sw _ _ _ _); conv => whnf)
        | refine And.intro trivial ?_
        | exact trivial
        | (with_reducible assumption)
        | ((with_reducible refine (?_ : _ ∧ _)); first | (with_reducible first | refine am_jn am_q1 ?_ | refine am_jn am_q2 ?_ | refine am_jn am_q3 ?_ | refine am_jn am_q4 ?_ | refine am_jn am_q6 ?_ | refine am_jn am_q9 ?_ | refine am_jn am_p1 ?_ | refine am_jy am_p0 ?_ | refine am_kn am_q1 ?_ | refine am_kn am_q2 ?_ | refine am_kn am_q3 ?_ | refine am_kn am_q4 ?_ | refine am_kn am_q6 ?_ | refine am_kn am_q9 ?_ | refine am_kn am_p1 ?_ | refine am_ky am_p0 ?_) | refine And.intro (fun h => absurd h (by decide)) (fun _ => ?_) | refine And.intro (fun _ => ?_) (fun h => absurd (by decide) h) | refine And.intro (fun _ => ?_) (fun _ => ?_) | refine And.intro ?_ ?_)
        | refine k _ _ ?_
        | ((with_reducible refine (?_ : am_Does _ 146 _ _ _)); refine m_isRunner _ ?_ (fun _ _ _ => ?_) (fun _ => ?_))
        | ((with_reducible refine (?_ : am_Does _ 140 _ _ _)); refine m_no _ (gm_rf (by repeat' first | assumption | exact gm_i (by assumption) | exact md_i (by assumption) | refine mi_up ?_ rfl | refine mi_100 ?_ ?_ ?_ | (simp only [am_c] at * <;> omega))) ?_ ?_ (fun _ _ _ _ => ?_))
        | ((with_reducible refine (?_ : am_Does _ 143 _ _ _)); refine m_isIn _ _ _ (fun _ _ => ?_) (fun _ => ?_))
        | ((with_reducible refine (?_ : am_Does _ 245 _ _ _)); refine m_wrongAt  (by repeat' first | assumption | exact gm_i (by assumption) | exact md_i (by assumption) | refine mi_up ?_ rfl | refine mi_100 ?_ ?_ ?_ | (simp only [am_c] at * <;> omega))  (fun _ _ _ _ => ?_))
        | exact gm_rf hS
        | refine gm_up ?_ rfl rfl
        | refine gm_up ?_ mo1_self rfl
        | refine gm_up ?_ mo1_in rfl
        | refine gm_100 ?_ rfl ?_ ?_
        | refine gm_14 ?_ rfl ?_ ?_
        | refine gm_15 ?_ rfl ?_ ?_
        | refine gm_16 ?_ rfl ?_ ?_
        | refine gm_21 ?_ rfl ?_ ?_
        | refine gm_33 ?_ rfl ?_ ?_
        | refine gm_40 ?_ rfl ?_ ?_
        | refine gm_42 ?_ rfl ?_ ?_
        | refine md_up ?_ rfl rfl
        | refine md_tr ?_ (by assumption) ?_
        | refine gm_tr ?_ (by assumption) ?_
        | refine gm_put ?_ ?_ rfl
        | refine mi_up ?_ rfl
        | exact gm_i (by assumption)
        | exact md_i (by assumption)
        | exact sb_id
        | exact sb_T_s
        | exact sb_T_Q
        | exact sb_T_M
        | exact sb_R_M
        | exact sb_L_M
        | exact mo_l
        | exact mo1_sub
        | exact mo1_one sb_T_s
        | exact mo1_one mo_l
        | exact mo1_one sb_T_Q
        | exact mo1_one (mo1_one sb_T_s)
        | exact mo1_one (mo1_one sb_id)
        | exact fun k j h => sb_T_Q k j (mo_l k j h)
        | exact fun k j h => mo_l k j (mo_l k j h)
        | exact fun k j h => sb_T_s k j (mo_l k j h)
        | ((with_reducible refine (?_ : am_AW _ _ _ _ _ 47 _ _ _)); refine ih _ _ _ _ _ ?_ ?_ ?_ ?_ ?_ ?_ ?_)
        | refine And.intro (fun h => absurd h (by decide)) (fun _ => ?_)
        | refine And.intro (fun _ => ?_) (fun h => absurd (by decide) h)
        | refine And.intro (fun _ => ?_) (fun _ => ?_)
        | refine And.intro ?_ ?_
      all_goals (first | (with_reducible assumption) | decide | omega | assumption | rfl | (simp only [am_c] at * <;> omega) | (simp only [am_c, am_up] at * <;> omega) | (simp [am_c, am_up] at * <;> omega))
  have lp47' : ∀ (d0 x y i : Int) (μ : am_N) , gm (mo1 mQ 89 (am_c a).toNat) ν μ → 0 ≤ i → i ≤ 100 → 0 ≤ am_c a → am_c a < 4 → d0 = ν 89 (am_c a).toNat → am_AW l 0 (fun _ => 0) 246 Q 47 [some (.inr (.inr 83)), some (.inl a), some (.inl b), some (.inl d0), some (.inl x), some (.inl y), some (.inl i)] [] μ := fun d0 x y i μ hv0 hv1 hv2 hv3 hv4 hv5 => lp47 ((100 - i) + 1).toNat d0 x y i μ hv0 hv1 hv2 hv3 hv4 hv5 (by omega)
  refine am_go (ct := fun pc => Nat.beq pc 47) am_oX7_fits 300 ?_
  conv => whnf
  repeat' first
    | (refine (?_ : am_wp _ _ _ _ _ _ _ _ _ _ _ _); conv => whnf)
    | (refine (?_ : am_sw _ _ _ _); conv => whnf)
    | refine And.intro trivial ?_
    | exact trivial
    | (with_reducible assumption)
    | ((with_reducible refine (?_ : _ ∧ _)); first | (with_reducible first | refine am_jn am_q1 ?_ | refine am_jn am_q2 ?_ | refine am_jn am_q3 ?_ | refine am_jn am_q4 ?_ | refine am_jn am_q6 ?_ | refine am_jn am_q9 ?_ | refine am_jn am_p1 ?_ | refine am_jy am_p0 ?_ | refine am_kn am_q1 ?_ | refine am_kn am_q2 ?_ | refine am_kn am_q3 ?_ | refine am_kn am_q4 ?_ | refine am_kn am_q6 ?_ | refine am_kn am_q9 ?_ | refine am_kn am_p1 ?_ | refine am_ky am_p0 ?_) | refine And.intro (fun h => absurd h (by decide)) (fun _ => ?_) | refine And.intro (fun _ => ?_) (fun h => absurd (by decide) h) | refine And.intro (fun _ => ?_) (fun _ => ?_) | refine And.intro ?_ ?_)
    | refine k _ _ ?_
    | ((with_reducible refine (?_ : am_Does _ 146 _ _ _)); refine m_isRunner _ ?_ (fun _ _ _ => ?_) (fun _ => ?_))
    | ((with_reducible refine (?_ : am_Does _ 140 _ _ _)); refine m_no _ (gm_rf (by repeat' first | assumption | exact gm_i (by assumption) | exact md_i (by assumption) | refine mi_up ?_ rfl | refine mi_100 ?_ ?_ ?_ | (simp only [am_c] at * <;> omega))) ?_ ?_ (fun _ _ _ _ => ?_))
    | ((with_reducible refine (?_ : am_Does _ 143 _ _ _)); refine m_isIn _ _ _ (fun _ _ => ?_) (fun _ => ?_))
    | ((with_reducible refine (?_ : am_Does _ 245 _ _ _)); refine m_wrongAt  (by repeat' first | assumption | exact gm_i (by assumption) | exact md_i (by assumption) | refine mi_up ?_ rfl | refine mi_100 ?_ ?_ ?_ | (simp only [am_c] at * <;> omega))  (fun _ _ _ _ => ?_))
    | exact gm_rf hS
    | refine gm_up ?_ rfl rfl
    | refine gm_up ?_ mo1_self rfl
    | refine gm_up ?_ mo1_in rfl
    | refine gm_100 ?_ rfl ?_ ?_
    | refine gm_14 ?_ rfl ?_ ?_
    | refine gm_15 ?_ rfl ?_ ?_
    | refine gm_16 ?_ rfl ?_ ?_
    | refine gm_21 ?_ rfl ?_ ?_
    | refine gm_33 ?_ rfl ?_ ?_
    | refine gm_40 ?_ rfl ?_ ?_
    | refine gm_42 ?_ rfl ?_ ?_
    | refine md_up ?_ rfl rfl
    | refine md_tr ?_ (by assumption) ?_
    | refine gm_tr ?_ (by assumption) ?_
    | refine gm_put ?_ ?_ rfl
    | refine mi_up ?_ rfl
    | exact gm_i (by assumption)
    | exact md_i (by assumption)
    | exact sb_id
    | exact sb_T_s
    | exact sb_T_Q
    | exact sb_T_M
    | exact sb_R_M
    | exact sb_L_M
    | exact mo_l
    | exact mo1_sub
    | exact mo1_one sb_T_s
    | exact mo1_one mo_l
    | exact mo1_one sb_T_Q
    | exact mo1_one (mo1_one sb_T_s)
    | exact mo1_one (mo1_one sb_id)
    | exact fun k j h => sb_T_Q k j (mo_l k j h)
    | exact fun k j h => mo_l k j (mo_l k j h)
    | exact fun k j h => sb_T_s k j (mo_l k j h)
    | ((with_reducible refine (?_ : am_AW _ _ _ _ _ 47 _ _ _)); refine lp47' _ _ _ _ _ ?_ ?_ ?_ ?_ ?_ ?_)
    | refine And.intro (fun h => absurd h (by decide)) (fun _ => ?_)
    | refine And.intro (fun _ => ?_) (fun h => absurd (by decide) h)
    | refine And.intro (fun _ => ?_) (fun _ => ?_)
    | refine And.intro ?_ ?_
  all_goals (first | (with_reducible assumption) | decide | omega | assumption | rfl | (simp only [am_c] at * <;> omega) | (simp only [am_c, am_up] at * <;> omega) | (simp [am_c, am_up] at * <;> omega))
theorem m_count {l : Launch} {ν : am_N} {Q : Option am_V → am_N → Prop} (a : Int) (hS : mi ν) (ha0 : -2147483648 ≤ a) (ha1 : a ≤ 2147483647)  (k : ∀ (r : Int) (μ' : am_N), gm ms ν μ' → Q (some (.inl r)) μ') : am_Does l 250 [.inr (.inr 83), .inl a] ν Q := by
  refine am_Does_of (Nat.le_of_ble_eq_true rfl) (Nat.le_of_ble_eq_true rfl) (Nat.le_of_ble_eq_true rfl) ?_
  have hb := mi_all hS
  have lp143 : ∀ (m : Nat) (s i : Int) , 0 ≤ i → i ≤ 4 → 4 - i < (m : Int) → am_AW l 0 (fun _ => 0) 250 Q 143 [some (.inr (.inr 83)), some (.inl a), some (.inl s), some (.inl i)] [] ν := by
    intro m
    induction m with
    | zero =>
      intro s i  hv0 hv1 hm
      exfalso
      omega
    | succ m ih =>
      intro s i  hv0 hv1 hm
      refine am_go (ct := fun pc => Nat.beq pc 143 || Nat.beq pc 170) am_oX7_count 300 ?_
      conv => whnf
      repeat' first
        | (refine (?_ : am_wp _ _ _ _ _ _ _ _ _ _ _ _); conv => whnf)
        | (refine (?_ : am_sw _ _ _ _); conv => whnf)
        | refine And.intro trivial ?_
        | exact trivial
        | (with_reducible assumption)
        | ((with_reducible refine (?_ : _ ∧ _)); first | (with_reducible first | refine am_jn am_q1 ?_ | refine am_jn am_q2 ?_ | refine am_jn am_q3 ?_ | refine am_jn am_q4 ?_ | refine am_jn am_q6 ?_ | refine am_jn am_q9 ?_ | refine am_jn am_p1 ?_ | refine am_jy am_p0 ?_ | refine am_kn am_q1 ?_ | refine am_kn am_q2 ?_ | refine am_kn am_q3 ?_ | refine am_kn am_q4 ?_ | refine am_kn am_q6 ?_ | refine am_kn am_q9 ?_ | refine am_kn am_p1 ?_ | refine am_ky am_p0 ?_) | refine And.intro (fun h => absurd h (by decide)) (fun _ => ?_) | refine And.intro (fun _ => ?_) (fun h => absurd (by decide) h) | refine And.intro (fun _ => ?_) (fun _ => ?_) | refine And.intro ?_ ?_)
        | refine k _ _ ?_
        | ((with_reducible refine (?_ : am_Does _ 143 _ _ _)); refine m_isIn _ _ _ (fun _ _ => ?_) (fun _ => ?_))
        | exact gm_rf hS
        | refine gm_up ?_ rfl rfl
        | refine gm_up ?_ mo1_self rfl
        | refine gm_up ?_ mo1_in rfl
        | refine gm_100 ?_ rfl ?_ ?_
        | refine gm_14 ?_ rfl ?_ ?_
        | refine gm_15 ?_ rfl ?_ ?_
        | refine gm_16 ?_ rfl ?_ ?_
        | refine gm_21 ?_ rfl ?_ ?_
        | refine gm_33 ?_ rfl ?_ ?_
        | refine gm_40 ?_ rfl ?_ ?_
        | refine gm_42 ?_ rfl ?_ ?_
        | refine md_up ?_ rfl rfl
        | refine md_tr ?_ (by assumption) ?_
        | refine gm_tr ?_ (by assumption) ?_
        | refine gm_put ?_ ?_ rfl
        | refine mi_up ?_ rfl
        | exact gm_i (by assumption)
        | exact md_i (by assumption)
        | exact sb_id
        | exact sb_T_s
        | exact sb_T_Q
        | exact sb_T_M
        | exact sb_R_M
        | exact sb_L_M
        | exact mo_l
        | exact mo1_sub
        | exact mo1_one sb_T_s
        | exact mo1_one mo_l
        | exact mo1_one sb_T_Q
        | exact mo1_one (mo1_one sb_T_s)
        | exact mo1_one (mo1_one sb_id)
        | exact fun k j h => sb_T_Q k j (mo_l k j h)
        | exact fun k j h => mo_l k j (mo_l k j h)
        | exact fun k j h => sb_T_s k j (mo_l k j h)
        | ((with_reducible refine (?_ : am_AW _ _ _ _ _ 143 _ _ _)); refine ih _ _  ?_ ?_ ?_)
        | refine And.intro (fun h => absurd h (by decide)) (fun _ => ?_)
        | refine And.intro (fun _ => ?_) (fun h => absurd (by decide) h)
        | refine And.intro (fun _ => ?_) (fun _ => ?_)
        | refine And.intro ?_ ?_
      all_goals (first | (with_reducible assumption) | decide | omega | assumption | rfl | (simp only [am_c] at * <;> omega) | (simp only [am_c, am_up] at * <;> omega) | (simp [am_c, am_up] at * <;> omega))
  have lp143' : ∀ (s i : Int) , 0 ≤ i → i ≤ 4 → am_AW l 0 (fun _ => 0) 250 Q 143 [some (.inr (.inr 83)), some (.inl a), some (.inl s), some (.inl i)] [] ν := fun s i  hv0 hv1 => lp143 ((4 - i) + 1).toNat s i  hv0 hv1 (by omega)
  have lp170 : ∀ (m : Nat) (s i : Int) , 0 ≤ i → i ≤ 4 → 4 - i < (m : Int) → am_AW l 0 (fun _ => 0) 250 Q 170 [some (.inr (.inr 83)), some (.inl a), some (.inl s), some (.inl i)] [] ν := by
    intro m
    induction m with
    | zero =>
      intro s i  hv0 hv1 hm
      exfalso
      omega
    | succ m ih =>
      intro s i  hv0 hv1 hm
      refine am_go (ct := fun pc => Nat.beq pc 143 || Nat.beq pc 170) am_oX7_count 300 ?_
      conv => whnf
      repeat' first
        | (refine (?_ : am_wp _ _ _ _ _ _ _ _ _ _ _ _); conv => whnf)
        | (refine (?_ : am_sw _ _ _ _); conv => whnf)
        | refine And.intro trivial ?_
        | exact trivial
        | (with_reducible assumption)
        | ((with_reducible refine (?_ : _ ∧ _)); first | (with_reducible first | refine am_jn am_q1 ?_ | refine am_jn am_q2 ?_ | refine am_jn am_q3 ?_ | refine am_jn am_q4 ?_ | refine am_jn am_q6 ?_ | refine am_jn am_q9 ?_ | refine am_jn am_p1 ?_ | refine am_jy am_p0 ?_ | refine am_kn am_q1 ?_ | refine am_kn am_q2 ?_ | refine am_kn am_q3 ?_ | refine am_kn am_q4 ?_ | refine am_kn am_q6 ?_ | refine am_kn am_q9 ?_ | refine am_kn am_p1 ?_ | refine am_ky am_p0 ?_) | refine And.intro (fun h => absurd h (by decide)) (fun _ => ?_) | refine And.intro (fun _ => ?_) (fun h => absurd (by decide) h) | refine And.intro (fun _ => ?_) (fun _ => ?_) | refine And.intro ?_ ?_)
        | refine k _ _ ?_
        | ((with_reducible refine (?_ : am_Does _ 143 _ _ _)); refine m_isIn _ _ _ (fun _ _ => ?_) (fun _ => ?_))
        | exact gm_rf hS
        | refine gm_up ?_ rfl rfl
        | refine gm_up ?_ mo1_self rfl
        | refine gm_up ?_ mo1_in rfl
        | refine gm_100 ?_ rfl ?_ ?_
        | refine gm_14 ?_ rfl ?_ ?_
        | refine gm_15 ?_ rfl ?_ ?_
        | refine gm_16 ?_ rfl ?_ ?_
        | refine gm_21 ?_ rfl ?_ ?_
        | refine gm_33 ?_ rfl ?_ ?_
        | refine gm_40 ?_ rfl ?_ ?_
        | refine gm_42 ?_ rfl ?_ ?_
        | refine md_up ?_ rfl rfl
        | refine md_tr ?_ (by assumption) ?_
        | refine gm_tr ?_ (by assumption) ?_
        | refine gm_put ?_ ?_ rfl
        | refine mi_up ?_ rfl
        | exact gm_i (by assumption)
        | exact md_i (by assumption)
        | exact sb_id
        | exact sb_T_s
        | exact sb_T_Q
        | exact sb_T_M
        | exact sb_R_M
        | exact sb_L_M
        | exact mo_l
        | exact mo1_sub
        | exact mo1_one sb_T_s
        | exact mo1_one mo_l
        | exact mo1_one sb_T_Q
        | exact mo1_one (mo1_one sb_T_s)
        | exact mo1_one (mo1_one sb_id)
        | exact fun k j h => sb_T_Q k j (mo_l k j h)
        | exact fun k j h => mo_l k j (mo_l k j h)
        | exact fun k j h => sb_T_s k j (mo_l k j h)
        | ((with_reducible refine (?_ : am_AW _ _ _ _ _ 170 _ _ _)); refine ih _ _  ?_ ?_ ?_)
        | ((with_reducible refine (?_ : am_AW _ _ _ _ _ 143 _ _ _)); refine lp143' _ _  ?_ ?_)
        | refine And.intro (fun h => absurd h (by decide)) (fun _ => ?_)
        | refine And.intro (fun _ => ?_) (fun h => absurd (by decide) h)
        | refine And.intro (fun _ => ?_) (fun _ => ?_)
        | refine And.intro ?_ ?_
      all_goals (first | (with_reducible assumption) | decide | omega | assumption | rfl | (simp only [am_c] at * <;> omega) | (simp only [am_c, am_up] at * <;> omega) | (simp [am_c, am_up] at * <;> omega))
  have lp170' : ∀ (s i : Int) , 0 ≤ i → i ≤ 4 → am_AW l 0 (fun _ => 0) 250 Q 170 [some (.inr (.inr 83)), some (.inl a), some (.inl s), some (.inl i)] [] ν := fun s i  hv0 hv1 => lp170 ((4 - i) + 1).toNat s i  hv0 hv1 (by omega)
  refine am_go (ct := fun pc => Nat.beq pc 143 || Nat.beq pc 170) am_oX7_count 300 ?_
  conv => whnf
  repeat' first
    | (refine (?_ : am_wp _ _ _ _ _ _ _ _ _ _ _ _); conv => whnf)
    | (refine (?_ : am_sw _ _ _ _); conv => whnf)
    | refine And.intro trivial ?_
    | exact trivial
    | (with_reducible assumption)
    | ((with_reducible refine (?_ : _ ∧ _)); first | (with_reducible first | refine am_jn am_q1 ?_ | refine am_jn am_q2 ?_ | refine am_jn am_q3 ?_ | refine am_jn am_q4 ?_ | refine am_jn am_q6 ?_ | refine am_jn am_q9 ?_ | refine am_jn am_p1 ?_ | refine am_jy am_p0 ?_ | refine am_kn am_q1 ?_ | refine am_kn am_q2 ?_ | refine am_kn am_q3 ?_ | refine am_kn am_q4 ?_ | refine am_kn am_q6 ?_ | refine am_kn am_q9 ?_ | refine am_kn am_p1 ?_ | refine am_ky am_p0 ?_) | refine And.intro (fun h => absurd h (by decide)) (fun _ => ?_) | refine And.intro (fun _ => ?_) (fun h => absurd (by decide) h) | refine And.intro (fun _ => ?_) (fun _ => ?_) | refine And.intro ?_ ?_)
    | refine k _ _ ?_
    | ((with_reducible refine (?_ : am_Does _ 143 _ _ _)); refine m_isIn _ _ _ (fun _ _ => ?_) (fun _ => ?_))
    | exact gm_rf hS
    | refine gm_up ?_ rfl rfl
    | refine gm_up ?_ mo1_self rfl
    | refine gm_up ?_ mo1_in rfl
    | refine gm_100 ?_ rfl ?_ ?_
    | refine gm_14 ?_ rfl ?_ ?_
    | refine gm_15 ?_ rfl ?_ ?_
    | refine gm_16 ?_ rfl ?_ ?_
    | refine gm_21 ?_ rfl ?_ ?_
    | refine gm_33 ?_ rfl ?_ ?_
    | refine gm_40 ?_ rfl ?_ ?_
    | refine gm_42 ?_ rfl ?_ ?_
    | refine md_up ?_ rfl rfl
    | refine md_tr ?_ (by assumption) ?_
    | refine gm_tr ?_ (by assumption) ?_
    | refine gm_put ?_ ?_ rfl
    | refine mi_up ?_ rfl
    | exact gm_i (by assumption)
    | exact md_i (by assumption)
    | exact sb_id
    | exact sb_T_s
    | exact sb_T_Q
    | exact sb_T_M
    | exact sb_R_M
    | exact sb_L_M
    | exact mo_l
    | exact mo1_sub
    | exact mo1_one sb_T_s
    | exact mo1_one mo_l
    | exact mo1_one sb_T_Q
    | exact mo1_one (mo1_one sb_T_s)
    | exact mo1_one (mo1_one sb_id)
    | exact fun k j h => sb_T_Q k j (mo_l k j h)
    | exact fun k j h => mo_l k j (mo_l k j h)
    | exact fun k j h => sb_T_s k j (mo_l k j h)
    | ((with_reducible refine (?_ : am_AW _ _ _ _ _ 170 _ _ _)); refine lp170' _ _  ?_ ?_)
    | ((with_reducible refine (?_ : am_AW _ _ _ _ _ 143 _ _ _)); refine lp143' _ _  ?_ ?_)
    | refine And.intro (fun h => absurd h (by decide)) (fun _ => ?_)
    | refine And.intro (fun _ => ?_) (fun h => absurd (by decide) h)
    | refine And.intro (fun _ => ?_) (fun _ => ?_)
    | refine And.intro ?_ ?_
  all_goals (first | (with_reducible assumption) | decide | omega | assumption | rfl | (simp only [am_c] at * <;> omega) | (simp only [am_c, am_up] at * <;> omega) | (simp [am_c, am_up] at * <;> omega))
/-! contracts: the model's changes (weak; its rows exactly) -/
/-- runs that can be taken back -/
def mK1 (k j : Nat) : Bool := Nat.beq k 101 || (Nat.beq k 102 || (Nat.beq k 103 || (Nat.beq k 83 && Nat.beq j 33)))
abbrev mK : Nat → Nat → Bool := mo ms mK1
abbrev mKR : Nat → Nat → Bool := mo mK mR
def m1o (k' j' k j : Nat) : Bool := Nat.beq k k' || (Nat.beq k 83 && Nat.beq j j')
theorem sb_T_K : ∀ k j, mK k j = false → mT k j = false := fun k j h => sb_T_s k j (mo_l k j h)
theorem sb_T_KR : ∀ k j, mKR k j = false → mT k j = false := fun k j h => sb_T_K k j (mo_l k j h)
theorem sb_R_KR : ∀ k j, mKR k j = false → mAR k j = false := fun k j h => Bool.or_eq_false_iff.mpr ⟨sb_T_KR k j h, mo_r k j h⟩
theorem m_row {l : Launch} {ν : am_N} {Q : Option am_V → am_N → Prop} (a : Int) (hS : mi ν) (ha0 : -2147483648 ≤ a) (ha1 : a ≤ 2147483647)  (k : ∀ (r : Int) (μ' : am_N), gm (mo ms (m1o 106 42)) ν μ' → ((am_c a < 0 ∧ r = -4 ∧ μ' 83 42 = ν 83 42) ∨ (0 ≤ am_c a ∧ (99 < am_c a ∨ ν 83 42 = 12) ∧ r = -6 ∧ μ' 83 42 = ν 83 42) ∨ (0 ≤ am_c a ∧ am_c a ≤ 99 ∧ ν 83 42 < 12 ∧ r = ν 83 42 + 1 ∧ μ' 83 42 = ν 83 42 + 1)) → Q (some (.inl r)) μ') : am_Does l 244 [.inr (.inr 83), .inl a] ν Q := by
  refine am_Does_of (Nat.le_of_ble_eq_true rfl) (Nat.le_of_ble_eq_true rfl) (Nat.le_of_ble_eq_true rfl) ?_
  have hb := mi_all hS
  refine am_go (ct := fun _ => false) am_oX7_row 300 ?_
  conv => whnf
  repeat' first
    | (refine (?_ : am_wp _ _ _ _ _ _ _ _ _ _ _ _); conv => whnf)
    | (refine (?_ : am_sw _ _ _ _); conv => whnf)
    | refine And.intro trivial ?_
    | exact trivial
    | (with_reducible assumption)
    | ((with_reducible refine (?_ : _ ∧ _)); first | (with_reducible first | refine am_jn am_q1 ?_ | refine am_jn am_q2 ?_ | refine am_jn am_q3 ?_ | refine am_jn am_q4 ?_ | refine am_jn am_q6 ?_ | refine am_jn am_q9 ?_ | refine am_jn am_p1 ?_ | refine am_jy am_p0 ?_ | refine am_kn am_q1 ?_ | refine am_kn am_q2 ?_ | refine am_kn am_q3 ?_ | refine am_kn am_q4 ?_ | refine am_kn am_q6 ?_ | refine am_kn am_q9 ?_ | refine am_kn am_p1 ?_ | refine am_ky am_p0 ?_) | refine And.intro (fun h => absurd h (by decide)) (fun _ => ?_) | refine And.intro (fun _ => ?_) (fun h => absurd (by decide) h) | refine And.intro (fun _ => ?_) (fun _ => ?_) | refine And.intro ?_ ?_)
    | refine k _ _ ?_ ?_
    | exact sb_R_KR
    | exact sb_T_KR
    | exact sb_T_K
    | exact fun k j h => mo_l k j (mo_l k j h)
    | exact mo_l
    | ((with_reducible refine (?_ : am_Does _ 144 _ _ _)); refine m_bound _ _ _ (fun _ => ?_) (fun _ _ => ?_) (fun _ _ => ?_))
    | ((with_reducible refine (?_ : am_Does _ 140 _ _ _)); refine m_no _ (gm_rf (by repeat' first | assumption | exact gm_i (by assumption) | exact md_i (by assumption) | refine mi_up ?_ rfl | refine mi_100 ?_ ?_ ?_ | (simp only [am_c] at * <;> omega))) ?_ ?_ (fun _ _ _ _ => ?_))
    | exact gm_rf hS
    | refine gm_up ?_ rfl rfl
    | refine gm_up ?_ mo1_self rfl
    | refine gm_up ?_ mo1_in rfl
    | refine gm_100 ?_ rfl ?_ ?_
    | refine gm_14 ?_ rfl ?_ ?_
    | refine gm_15 ?_ rfl ?_ ?_
    | refine gm_16 ?_ rfl ?_ ?_
    | refine gm_21 ?_ rfl ?_ ?_
    | refine gm_33 ?_ rfl ?_ ?_
    | refine gm_40 ?_ rfl ?_ ?_
    | refine gm_42 ?_ rfl ?_ ?_
    | refine md_up ?_ rfl rfl
    | refine md_tr ?_ (by assumption) ?_
    | refine gm_tr ?_ (by assumption) ?_
    | refine gm_put ?_ ?_ rfl
    | refine mi_up ?_ rfl
    | exact gm_i (by assumption)
    | exact md_i (by assumption)
    | exact sb_id
    | exact sb_T_s
    | exact sb_T_Q
    | exact sb_T_M
    | exact sb_R_M
    | exact sb_L_M
    | exact mo_l
    | exact mo1_sub
    | exact mo1_one sb_T_s
    | exact mo1_one mo_l
    | exact mo1_one sb_T_Q
    | exact mo1_one (mo1_one sb_T_s)
    | exact mo1_one (mo1_one sb_id)
    | exact fun k j h => sb_T_Q k j (mo_l k j h)
    | exact fun k j h => mo_l k j (mo_l k j h)
    | exact fun k j h => sb_T_s k j (mo_l k j h)
    | refine And.intro (fun h => absurd h (by decide)) (fun _ => ?_)
    | refine And.intro (fun _ => ?_) (fun h => absurd (by decide) h)
    | refine And.intro (fun _ => ?_) (fun _ => ?_)
    | refine And.intro ?_ ?_
  all_goals (first | (with_reducible assumption) | decide | omega | assumption | rfl | (have eq9 := (by assumption : gm ms _ _).2 83 42 rfl; simp [am_c, am_up] at * <;> omega) | (simp only [am_c] at * <;> omega) | (simp [am_c, am_up] at * <;> omega))
theorem m_time {l : Launch} {ν : am_N} {Q : Option am_V → am_N → Prop} (a : Int) (hS : mi ν) (ha0 : -2147483648 ≤ a) (ha1 : a ≤ 2147483647)  (k : ∀ (r : Int) (μ' : am_N), gm (mo ms (m1o 105 40)) ν μ' → ((am_c a < 0 ∧ r = -4 ∧ μ' 83 40 = ν 83 40) ∨ (0 ≤ am_c a ∧ (999 < am_c a ∨ ν 83 40 = 6) ∧ r = -6 ∧ μ' 83 40 = ν 83 40) ∨ (0 ≤ am_c a ∧ am_c a ≤ 999 ∧ ν 83 40 < 6 ∧ r = ν 83 40 + 1 ∧ μ' 83 40 = ν 83 40 + 1)) → Q (some (.inl r)) μ') : am_Does l 240 [.inr (.inr 83), .inl a] ν Q := by
  refine am_Does_of (Nat.le_of_ble_eq_true rfl) (Nat.le_of_ble_eq_true rfl) (Nat.le_of_ble_eq_true rfl) ?_
  have hb := mi_all hS
  refine am_go (ct := fun _ => false) am_oX7_time 300 ?_
  conv => whnf
  repeat' first
    | (refine (?_ : am_wp _ _ _ _ _ _ _ _ _ _ _ _); conv => whnf)
    | (refine (?_ : am_sw _ _ _ _); conv => whnf)
    | refine And.intro trivial ?_
    | exact trivial
    | (with_reducible assumption)
    | ((with_reducible refine (?_ : _ ∧ _)); first | (with_reducible first | refine am_jn am_q1 ?_ | refine am_jn am_q2 ?_ | refine am_jn am_q3 ?_ | refine am_jn am_q4 ?_ | refine am_jn am_q6 ?_ | refine am_jn am_q9 ?_ | refine am_jn am_p1 ?_ | refine am_jy am_p0 ?_ | refine am_kn am_q1 ?_ | refine am_kn am_q2 ?_ | refine am_kn am_q3 ?_ | refine am_kn am_q4 ?_ | refine am_kn am_q6 ?_ | refine am_kn am_q9 ?_ | refine am_kn am_p1 ?_ | refine am_ky am_p0 ?_) | refine And.intro (fun h => absurd h (by decide)) (fun _ => ?_) | refine And.intro (fun _ => ?_) (fun h => absurd (by decide) h) | refine And.intro (fun _ => ?_) (fun _ => ?_) | refine And.intro ?_ ?_)
    | refine k _ _ ?_ ?_
    | exact sb_R_KR
    | exact sb_T_KR
    | exact sb_T_K
    | exact fun k j h => mo_l k j (mo_l k j h)
    | exact mo_l
    | ((with_reducible refine (?_ : am_Does _ 144 _ _ _)); refine m_bound _ _ _ (fun _ => ?_) (fun _ _ => ?_) (fun _ _ => ?_))
    | ((with_reducible refine (?_ : am_Does _ 140 _ _ _)); refine m_no _ (gm_rf (by repeat' first | assumption | exact gm_i (by assumption) | exact md_i (by assumption) | refine mi_up ?_ rfl | refine mi_100 ?_ ?_ ?_ | (simp only [am_c] at * <;> omega))) ?_ ?_ (fun _ _ _ _ => ?_))
    | exact gm_rf hS
    | refine gm_up ?_ rfl rfl
    | refine gm_up ?_ mo1_self rfl
    | refine gm_up ?_ mo1_in rfl
    | refine gm_100 ?_ rfl ?_ ?_
    | refine gm_14 ?_ rfl ?_ ?_
    | refine gm_15 ?_ rfl ?_ ?_
    | refine gm_16 ?_ rfl ?_ ?_
    | refine gm_21 ?_ rfl ?_ ?_
    | refine gm_33 ?_ rfl ?_ ?_
    | refine gm_40 ?_ rfl ?_ ?_
    | refine gm_42 ?_ rfl ?_ ?_
    | refine md_up ?_ rfl rfl
    | refine md_tr ?_ (by assumption) ?_
    | refine gm_tr ?_ (by assumption) ?_
    | refine gm_put ?_ ?_ rfl
    | refine mi_up ?_ rfl
    | exact gm_i (by assumption)
    | exact md_i (by assumption)
    | exact sb_id
    | exact sb_T_s
    | exact sb_T_Q
    | exact sb_T_M
    | exact sb_R_M
    | exact sb_L_M
    | exact mo_l
    | exact mo1_sub
    | exact mo1_one sb_T_s
    | exact mo1_one mo_l
    | exact mo1_one sb_T_Q
    | exact mo1_one (mo1_one sb_T_s)
    | exact mo1_one (mo1_one sb_id)
    | exact fun k j h => sb_T_Q k j (mo_l k j h)
    | exact fun k j h => mo_l k j (mo_l k j h)
    | exact fun k j h => sb_T_s k j (mo_l k j h)
    | refine And.intro (fun h => absurd h (by decide)) (fun _ => ?_)
    | refine And.intro (fun _ => ?_) (fun h => absurd (by decide) h)
    | refine And.intro (fun _ => ?_) (fun _ => ?_)
    | refine And.intro ?_ ?_
  all_goals (first | (with_reducible assumption) | decide | omega | assumption | rfl | (have eq9 := (by assumption : gm ms _ _).2 83 40 rfl; simp [am_c, am_up] at * <;> omega) | (simp only [am_c] at * <;> omega) | (simp [am_c, am_up] at * <;> omega))
theorem m_bag {l : Launch} {ν : am_N} {Q : Option am_V → am_N → Prop} (a : Int) (hS : mi ν) (ha0 : -2147483648 ≤ a) (ha1 : a ≤ 2147483647)  (k : ∀ (r : Int) (μ' : am_N), gm (mo ms (m1o 91 15)) ν μ' → ((am_c a < 1 ∧ r = -4 ∧ μ' 83 15 = ν 83 15) ∨ (1 ≤ am_c a ∧ (9 < am_c a ∨ ν 83 15 = 6) ∧ r = -6 ∧ μ' 83 15 = ν 83 15) ∨ (1 ≤ am_c a ∧ am_c a ≤ 9 ∧ ν 83 15 < 6 ∧ r = ν 83 15 + 1 ∧ μ' 83 15 = ν 83 15 + 1)) → Q (some (.inl r)) μ') : am_Does l 213 [.inr (.inr 83), .inl a] ν Q := by
  refine am_Does_of (Nat.le_of_ble_eq_true rfl) (Nat.le_of_ble_eq_true rfl) (Nat.le_of_ble_eq_true rfl) ?_
  have hb := mi_all hS
  refine am_go (ct := fun _ => false) am_oX7_bag 300 ?_
  conv => whnf
  repeat' first
    | (refine (?_ : am_wp _ _ _ _ _ _ _ _ _ _ _ _); conv => whnf)
    | (refine (?_ : am_sw _ _ _ _); conv => whnf)
    | refine And.intro trivial ?_
    | exact trivial
    | (with_reducible assumption)
    | ((with_reducible refine (?_ : _ ∧ _)); first | (with_reducible first | refine am_jn am_q1 ?_ | refine am_jn am_q2 ?_ | refine am_jn am_q3 ?_ | refine am_jn am_q4 ?_ | refine am_jn am_q6 ?_ | refine am_jn am_q9 ?_ | refine am_jn am_p1 ?_ | refine am_jy am_p0 ?_ | refine am_kn am_q1 ?_ | refine am_kn am_q2 ?_ | refine am_kn am_q3 ?_ | refine am_kn am_q4 ?_ | refine am_kn am_q6 ?_ | refine am_kn am_q9 ?_ | refine am_kn am_p1 ?_ | refine am_ky am_p0 ?_) | refine And.intro (fun h => absurd h (by decide)) (fun _ => ?_) | refine And.intro (fun _ => ?_) (fun h => absurd (by decide) h) | refine And.intro (fun _ => ?_) (fun _ => ?_) | refine And.intro ?_ ?_)
    | refine k _ _ ?_ ?_
    | exact sb_R_KR
    | exact sb_T_KR
    | exact sb_T_K
    | exact fun k j h => mo_l k j (mo_l k j h)
    | exact mo_l
    | ((with_reducible refine (?_ : am_Does _ 144 _ _ _)); refine m_bound _ _ _ (fun _ => ?_) (fun _ _ => ?_) (fun _ _ => ?_))
    | ((with_reducible refine (?_ : am_Does _ 140 _ _ _)); refine m_no _ (gm_rf (by repeat' first | assumption | exact gm_i (by assumption) | exact md_i (by assumption) | refine mi_up ?_ rfl | refine mi_100 ?_ ?_ ?_ | (simp only [am_c] at * <;> omega))) ?_ ?_ (fun _ _ _ _ => ?_))
    | exact gm_rf hS
    | refine gm_up ?_ rfl rfl
    | refine gm_up ?_ mo1_self rfl
    | refine gm_up ?_ mo1_in rfl
    | refine gm_100 ?_ rfl ?_ ?_
    | refine gm_14 ?_ rfl ?_ ?_
    | refine gm_15 ?_ rfl ?_ ?_
    | refine gm_16 ?_ rfl ?_ ?_
    | refine gm_21 ?_ rfl ?_ ?_
    | refine gm_33 ?_ rfl ?_ ?_
    | refine gm_40 ?_ rfl ?_ ?_
    | refine gm_42 ?_ rfl ?_ ?_
    | refine md_up ?_ rfl rfl
    | refine md_tr ?_ (by assumption) ?_
    | refine gm_tr ?_ (by assumption) ?_
    | refine gm_put ?_ ?_ rfl
    | refine mi_up ?_ rfl
    | exact gm_i (by assumption)
    | exact md_i (by assumption)
    | exact sb_id
    | exact sb_T_s
    | exact sb_T_Q
    | exact sb_T_M
    | exact sb_R_M
    | exact sb_L_M
    | exact mo_l
    | exact mo1_sub
    | exact mo1_one sb_T_s
    | exact mo1_one mo_l
    | exact mo1_one sb_T_Q
    | exact mo1_one (mo1_one sb_T_s)
    | exact mo1_one (mo1_one sb_id)
    | exact fun k j h => sb_T_Q k j (mo_l k j h)
    | exact fun k j h => mo_l k j (mo_l k j h)
    | exact fun k j h => sb_T_s k j (mo_l k j h)
    | refine And.intro (fun h => absurd h (by decide)) (fun _ => ?_)
    | refine And.intro (fun _ => ?_) (fun h => absurd (by decide) h)
    | refine And.intro (fun _ => ?_) (fun _ => ?_)
    | refine And.intro ?_ ?_
  all_goals (first | (with_reducible assumption) | decide | omega | assumption | rfl | (have eq9 := (by assumption : gm ms _ _).2 83 15 rfl; simp [am_c, am_up] at * <;> omega) | (simp only [am_c] at * <;> omega) | (simp [am_c, am_up] at * <;> omega))
theorem m_habit {l : Launch} {ν : am_N} {Q : Option am_V → am_N → Prop} (a b : Int) (hS : mi ν) (ha0 : -2147483648 ≤ a) (ha1 : a ≤ 2147483647) (hb0 : -2147483648 ≤ b) (hb1 : b ≤ 2147483647)  (k : ∀ (r : Int) (μ' : am_N), gm (mo ms (mo (m1o 92 16) (m1o 93 16))) ν μ' → Q (some (.inl r)) μ') : am_Does l 233 [.inr (.inr 83), .inl a, .inl b] ν Q := by
  refine am_Does_of (Nat.le_of_ble_eq_true rfl) (Nat.le_of_ble_eq_true rfl) (Nat.le_of_ble_eq_true rfl) ?_
  have hb := mi_all hS
  refine am_go (ct := fun _ => false) am_oX7_habit 300 ?_
  conv => whnf
  repeat' first
    | (refine (?_ : am_wp _ _ _ _ _ _ _ _ _ _ _ _); conv => whnf)
    | (refine (?_ : am_sw _ _ _ _); conv => whnf)
    | refine And.intro trivial ?_
    | exact trivial
    | (with_reducible assumption)
    | ((with_reducible refine (?_ : _ ∧ _)); first | (with_reducible first | refine am_jn am_q1 ?_ | refine am_jn am_q2 ?_ | refine am_jn am_q3 ?_ | refine am_jn am_q4 ?_ | refine am_jn am_q6 ?_ | refine am_jn am_q9 ?_ | refine am_jn am_p1 ?_ | refine am_jy am_p0 ?_ | refine am_kn am_q1 ?_ | refine am_kn am_q2 ?_ | refine am_kn am_q3 ?_ | refine am_kn am_q4 ?_ | refine am_kn am_q6 ?_ | refine am_kn am_q9 ?_ | refine am_kn am_p1 ?_ | refine am_ky am_p0 ?_) | refine And.intro (fun h => absurd h (by decide)) (fun _ => ?_) | refine And.intro (fun _ => ?_) (fun h => absurd (by decide) h) | refine And.intro (fun _ => ?_) (fun _ => ?_) | refine And.intro ?_ ?_)
    | refine k _ _ ?_
    | exact sb_R_KR
    | exact sb_T_KR
    | exact sb_T_K
    | exact fun k j h => mo_l k j (mo_l k j h)
    | exact mo_l
    | ((with_reducible refine (?_ : am_Does _ 143 _ _ _)); refine m_isIn _ _ _ (fun _ _ => ?_) (fun _ => ?_))
    | ((with_reducible refine (?_ : am_Does _ 144 _ _ _)); refine m_bound _ _ _ (fun _ => ?_) (fun _ _ => ?_) (fun _ _ => ?_))
    | ((with_reducible refine (?_ : am_Does _ 140 _ _ _)); refine m_no _ (gm_rf (by repeat' first | assumption | exact gm_i (by assumption) | exact md_i (by assumption) | refine mi_up ?_ rfl | refine mi_100 ?_ ?_ ?_ | (simp only [am_c] at * <;> omega))) ?_ ?_ (fun _ _ _ _ => ?_))
    | exact gm_rf hS
    | refine gm_up ?_ rfl rfl
    | refine gm_up ?_ mo1_self rfl
    | refine gm_up ?_ mo1_in rfl
    | refine gm_100 ?_ rfl ?_ ?_
    | refine gm_14 ?_ rfl ?_ ?_
    | refine gm_15 ?_ rfl ?_ ?_
    | refine gm_16 ?_ rfl ?_ ?_
    | refine gm_21 ?_ rfl ?_ ?_
    | refine gm_33 ?_ rfl ?_ ?_
    | refine gm_40 ?_ rfl ?_ ?_
    | refine gm_42 ?_ rfl ?_ ?_
    | refine md_up ?_ rfl rfl
    | refine md_tr ?_ (by assumption) ?_
    | refine gm_tr ?_ (by assumption) ?_
    | refine gm_put ?_ ?_ rfl
    | refine mi_up ?_ rfl
    | exact gm_i (by assumption)
    | exact md_i (by assumption)
    | exact sb_id
    | exact sb_T_s
    | exact sb_T_Q
    | exact sb_T_M
    | exact sb_R_M
    | exact sb_L_M
    | exact mo_l
    | exact mo1_sub
    | exact mo1_one sb_T_s
    | exact mo1_one mo_l
    | exact mo1_one sb_T_Q
    | exact mo1_one (mo1_one sb_T_s)
    | exact mo1_one (mo1_one sb_id)
    | exact fun k j h => sb_T_Q k j (mo_l k j h)
    | exact fun k j h => mo_l k j (mo_l k j h)
    | exact fun k j h => sb_T_s k j (mo_l k j h)
    | refine And.intro (fun h => absurd h (by decide)) (fun _ => ?_)
    | refine And.intro (fun _ => ?_) (fun h => absurd (by decide) h)
    | refine And.intro (fun _ => ?_) (fun _ => ?_)
    | refine And.intro ?_ ?_
  all_goals (first | (with_reducible assumption) | decide | omega | assumption | rfl | (simp only [am_c] at * <;> omega) | (simp only [am_c, am_up] at * <;> omega) | (simp [am_c, am_up] at * <;> omega))
theorem m_clear {l : Launch} {ν : am_N} {Q : Option am_V → am_N → Prop}  (hS : mi ν)   (k : ∀ (r : Int) (μ' : am_N), gm (mo ms (m1o 83000 42)) ν μ' → r = ν 83 42 → μ' 83 42 = 0 → Q (some (.inl r)) μ') : am_Does l 248 [.inr (.inr 83)] ν Q := by
  refine am_Does_of (Nat.le_of_ble_eq_true rfl) (Nat.le_of_ble_eq_true rfl) (Nat.le_of_ble_eq_true rfl) ?_
  have hb := mi_all hS
  refine am_go (ct := fun _ => false) am_oX7_clear 300 ?_
  conv => whnf
  repeat' first
    | (refine (?_ : am_wp _ _ _ _ _ _ _ _ _ _ _ _); conv => whnf)
    | (refine (?_ : am_sw _ _ _ _); conv => whnf)
    | refine And.intro trivial ?_
    | exact trivial
    | (with_reducible assumption)
    | ((with_reducible refine (?_ : _ ∧ _)); first | (with_reducible first | refine am_jn am_q1 ?_ | refine am_jn am_q2 ?_ | refine am_jn am_q3 ?_ | refine am_jn am_q4 ?_ | refine am_jn am_q6 ?_ | refine am_jn am_q9 ?_ | refine am_jn am_p1 ?_ | refine am_jy am_p0 ?_ | refine am_kn am_q1 ?_ | refine am_kn am_q2 ?_ | refine am_kn am_q3 ?_ | refine am_kn am_q4 ?_ | refine am_kn am_q6 ?_ | refine am_kn am_q9 ?_ | refine am_kn am_p1 ?_ | refine am_ky am_p0 ?_) | refine And.intro (fun h => absurd h (by decide)) (fun _ => ?_) | refine And.intro (fun _ => ?_) (fun h => absurd (by decide) h) | refine And.intro (fun _ => ?_) (fun _ => ?_) | refine And.intro ?_ ?_)
    | refine k _ _ ?_ ?_ ?_
    | exact sb_R_KR
    | exact sb_T_KR
    | exact sb_T_K
    | exact fun k j h => mo_l k j (mo_l k j h)
    | exact mo_l
    | exact gm_rf hS
    | refine gm_up ?_ rfl rfl
    | refine gm_up ?_ mo1_self rfl
    | refine gm_up ?_ mo1_in rfl
    | refine gm_100 ?_ rfl ?_ ?_
    | refine gm_14 ?_ rfl ?_ ?_
    | refine gm_15 ?_ rfl ?_ ?_
    | refine gm_16 ?_ rfl ?_ ?_
    | refine gm_21 ?_ rfl ?_ ?_
    | refine gm_33 ?_ rfl ?_ ?_
    | refine gm_40 ?_ rfl ?_ ?_
    | refine gm_42 ?_ rfl ?_ ?_
    | refine md_up ?_ rfl rfl
    | refine md_tr ?_ (by assumption) ?_
    | refine gm_tr ?_ (by assumption) ?_
    | refine gm_put ?_ ?_ rfl
    | refine mi_up ?_ rfl
    | exact gm_i (by assumption)
    | exact md_i (by assumption)
    | exact sb_id
    | exact sb_T_s
    | exact sb_T_Q
    | exact sb_T_M
    | exact sb_R_M
    | exact sb_L_M
    | exact mo_l
    | exact mo1_sub
    | exact mo1_one sb_T_s
    | exact mo1_one mo_l
    | exact mo1_one sb_T_Q
    | exact mo1_one (mo1_one sb_T_s)
    | exact mo1_one (mo1_one sb_id)
    | exact fun k j h => sb_T_Q k j (mo_l k j h)
    | exact fun k j h => mo_l k j (mo_l k j h)
    | exact fun k j h => sb_T_s k j (mo_l k j h)
    | refine And.intro (fun h => absurd h (by decide)) (fun _ => ?_)
    | refine And.intro (fun _ => ?_) (fun h => absurd (by decide) h)
    | refine And.intro (fun _ => ?_) (fun _ => ?_)
    | refine And.intro ?_ ?_
  all_goals (first | (with_reducible assumption) | decide | omega | assumption | rfl | (simp only [am_c] at * <;> omega) | (simp only [am_c, am_up] at * <;> omega) | (simp [am_c, am_up] at * <;> omega))
theorem m_wipe {l : Launch} {ν : am_N} {Q : Option am_V → am_N → Prop}  (hS : mi ν)   (k : ∀ (r : Int) (μ' : am_N), gm (mo ms (m1o 83000 40)) ν μ' → r = ν 83 40 → μ' 83 40 = 0 → Q (some (.inl r)) μ') : am_Does l 241 [.inr (.inr 83)] ν Q := by
  refine am_Does_of (Nat.le_of_ble_eq_true rfl) (Nat.le_of_ble_eq_true rfl) (Nat.le_of_ble_eq_true rfl) ?_
  have hb := mi_all hS
  refine am_go (ct := fun _ => false) am_oX7_wipe 300 ?_
  conv => whnf
  repeat' first
    | (refine (?_ : am_wp _ _ _ _ _ _ _ _ _ _ _ _); conv => whnf)
    | (refine (?_ : am_sw _ _ _ _); conv => whnf)
    | refine And.intro trivial ?_
    | exact trivial
    | (with_reducible assumption)
    | ((with_reducible refine (?_ : _ ∧ _)); first | (with_reducible first | refine am_jn am_q1 ?_ | refine am_jn am_q2 ?_ | refine am_jn am_q3 ?_ | refine am_jn am_q4 ?_ | refine am_jn am_q6 ?_ | refine am_jn am_q9 ?_ | refine am_jn am_p1 ?_ | refine am_jy am_p0 ?_ | refine am_kn am_q1 ?_ | refine am_kn am_q2 ?_ | refine am_kn am_q3 ?_ | refine am_kn am_q4 ?_ | refine am_kn am_q6 ?_ | refine am_kn am_q9 ?_ | refine am_kn am_p1 ?_ | refine am_ky am_p0 ?_) | refine And.intro (fun h => absurd h (by decide)) (fun _ => ?_) | refine And.intro (fun _ => ?_) (fun h => absurd (by decide) h) | refine And.intro (fun _ => ?_) (fun _ => ?_) | refine And.intro ?_ ?_)
    | refine k _ _ ?_ ?_ ?_
    | exact sb_R_KR
    | exact sb_T_KR
    | exact sb_T_K
    | exact fun k j h => mo_l k j (mo_l k j h)
    | exact mo_l
    | exact gm_rf hS
    | refine gm_up ?_ rfl rfl
    | refine gm_up ?_ mo1_self rfl
    | refine gm_up ?_ mo1_in rfl
    | refine gm_100 ?_ rfl ?_ ?_
    | refine gm_14 ?_ rfl ?_ ?_
    | refine gm_15 ?_ rfl ?_ ?_
    | refine gm_16 ?_ rfl ?_ ?_
    | refine gm_21 ?_ rfl ?_ ?_
    | refine gm_33 ?_ rfl ?_ ?_
    | refine gm_40 ?_ rfl ?_ ?_
    | refine gm_42 ?_ rfl ?_ ?_
    | refine md_up ?_ rfl rfl
    | refine md_tr ?_ (by assumption) ?_
    | refine gm_tr ?_ (by assumption) ?_
    | refine gm_put ?_ ?_ rfl
    | refine mi_up ?_ rfl
    | exact gm_i (by assumption)
    | exact md_i (by assumption)
    | exact sb_id
    | exact sb_T_s
    | exact sb_T_Q
    | exact sb_T_M
    | exact sb_R_M
    | exact sb_L_M
    | exact mo_l
    | exact mo1_sub
    | exact mo1_one sb_T_s
    | exact mo1_one mo_l
    | exact mo1_one sb_T_Q
    | exact mo1_one (mo1_one sb_T_s)
    | exact mo1_one (mo1_one sb_id)
    | exact fun k j h => sb_T_Q k j (mo_l k j h)
    | exact fun k j h => mo_l k j (mo_l k j h)
    | exact fun k j h => sb_T_s k j (mo_l k j h)
    | refine And.intro (fun h => absurd h (by decide)) (fun _ => ?_)
    | refine And.intro (fun _ => ?_) (fun h => absurd (by decide) h)
    | refine And.intro (fun _ => ?_) (fun _ => ?_)
    | refine And.intro ?_ ?_
  all_goals (first | (with_reducible assumption) | decide | omega | assumption | rfl | (simp only [am_c] at * <;> omega) | (simp only [am_c, am_up] at * <;> omega) | (simp [am_c, am_up] at * <;> omega))
theorem m_empty {l : Launch} {ν : am_N} {Q : Option am_V → am_N → Prop}  (hS : mi ν)   (k : ∀ (r : Int) (μ' : am_N), gm (mo ms (m1o 83000 15)) ν μ' → r = ν 83 15 → μ' 83 15 = 0 → Q (some (.inl r)) μ') : am_Does l 214 [.inr (.inr 83)] ν Q := by
  refine am_Does_of (Nat.le_of_ble_eq_true rfl) (Nat.le_of_ble_eq_true rfl) (Nat.le_of_ble_eq_true rfl) ?_
  have hb := mi_all hS
  refine am_go (ct := fun _ => false) am_oX7_empty 300 ?_
  conv => whnf
  repeat' first
    | (refine (?_ : am_wp _ _ _ _ _ _ _ _ _ _ _ _); conv => whnf)
    | (refine (?_ : am_sw _ _ _ _); conv => whnf)
    | refine And.intro trivial ?_
    | exact trivial
    | (with_reducible assumption)
    | ((with_reducible refine (?_ : _ ∧ _)); first | (with_reducible first | refine am_jn am_q1 ?_ | refine am_jn am_q2 ?_ | refine am_jn am_q3 ?_ | refine am_jn am_q4 ?_ | refine am_jn am_q6 ?_ | refine am_jn am_q9 ?_ | refine am_jn am_p1 ?_ | refine am_jy am_p0 ?_ | refine am_kn am_q1 ?_ | refine am_kn am_q2 ?_ | refine am_kn am_q3 ?_ | refine am_kn am_q4 ?_ | refine am_kn am_q6 ?_ | refine am_kn am_q9 ?_ | refine am_kn am_p1 ?_ | refine am_ky am_p0 ?_) | refine And.intro (fun h => absurd h (by decide)) (fun _ => ?_) | refine And.intro (fun _ => ?_) (fun h => absurd (by decide) h) | refine And.intro (fun _ => ?_) (fun _ => ?_) | refine And.intro ?_ ?_)
    | refine k _ _ ?_ ?_ ?_
    | exact sb_R_KR
    | exact sb_T_KR
    | exact sb_T_K
    | exact fun k j h => mo_l k j (mo_l k j h)
    | exact mo_l
    | exact gm_rf hS
    | refine gm_up ?_ rfl rfl
    | refine gm_up ?_ mo1_self rfl
    | refine gm_up ?_ mo1_in rfl
    | refine gm_100 ?_ rfl ?_ ?_
    | refine gm_14 ?_ rfl ?_ ?_
    | refine gm_15 ?_ rfl ?_ ?_
    | refine gm_16 ?_ rfl ?_ ?_
    | refine gm_21 ?_ rfl ?_ ?_
    | refine gm_33 ?_ rfl ?_ ?_
    | refine gm_40 ?_ rfl ?_ ?_
    | refine gm_42 ?_ rfl ?_ ?_
    | refine md_up ?_ rfl rfl
    | refine md_tr ?_ (by assumption) ?_
    | refine gm_tr ?_ (by assumption) ?_
    | refine gm_put ?_ ?_ rfl
    | refine mi_up ?_ rfl
    | exact gm_i (by assumption)
    | exact md_i (by assumption)
    | exact sb_id
    | exact sb_T_s
    | exact sb_T_Q
    | exact sb_T_M
    | exact sb_R_M
    | exact sb_L_M
    | exact mo_l
    | exact mo1_sub
    | exact mo1_one sb_T_s
    | exact mo1_one mo_l
    | exact mo1_one sb_T_Q
    | exact mo1_one (mo1_one sb_T_s)
    | exact mo1_one (mo1_one sb_id)
    | exact fun k j h => sb_T_Q k j (mo_l k j h)
    | exact fun k j h => mo_l k j (mo_l k j h)
    | exact fun k j h => sb_T_s k j (mo_l k j h)
    | refine And.intro (fun h => absurd h (by decide)) (fun _ => ?_)
    | refine And.intro (fun _ => ?_) (fun h => absurd (by decide) h)
    | refine And.intro (fun _ => ?_) (fun _ => ?_)
    | refine And.intro ?_ ?_
  all_goals (first | (with_reducible assumption) | decide | omega | assumption | rfl | (simp only [am_c] at * <;> omega) | (simp only [am_c, am_up] at * <;> omega) | (simp [am_c, am_up] at * <;> omega))
theorem m_forget {l : Launch} {ν : am_N} {Q : Option am_V → am_N → Prop}  (hS : mi ν)   (k : ∀ (r : Int) (μ' : am_N), gm (mo ms (m1o 83000 16)) ν μ' → r = ν 83 16 → μ' 83 16 = 0 → Q (some (.inl r)) μ') : am_Does l 234 [.inr (.inr 83)] ν Q := by
  refine am_Does_of (Nat.le_of_ble_eq_true rfl) (Nat.le_of_ble_eq_true rfl) (Nat.le_of_ble_eq_true rfl) ?_
  have hb := mi_all hS
  refine am_go (ct := fun _ => false) am_oX7_forget 300 ?_
  conv => whnf
  repeat' first
    | (refine (?_ : am_wp _ _ _ _ _ _ _ _ _ _ _ _); conv => whnf)
    | (refine (?_ : am_sw _ _ _ _); conv => whnf)
    | refine And.intro trivial ?_
    | exact trivial
    | (with_reducible assumption)
    | ((with_reducible refine (?_ : _ ∧ _)); first | (with_reducible first | refine am_jn am_q1 ?_ | refine am_jn am_q2 ?_ | refine am_jn am_q3 ?_ | refine am_jn am_q4 ?_ | refine am_jn am_q6 ?_ | refine am_jn am_q9 ?_ | refine am_jn am_p1 ?_ | refine am_jy am_p0 ?_ | refine am_kn am_q1 ?_ | refine am_kn am_q2 ?_ | refine am_kn am_q3 ?_ | refine am_kn am_q4 ?_ | refine am_kn am_q6 ?_ | refine am_kn am_q9 ?_ | refine am_kn am_p1 ?_ | refine am_ky am_p0 ?_) | refine And.intro (fun h => absurd h (by decide)) (fun _ => ?_) | refine And.intro (fun _ => ?_) (fun h => absurd (by decide) h) | refine And.intro (fun _ => ?_) (fun _ => ?_) | refine And.intro ?_ ?_)
    | refine k _ _ ?_ ?_ ?_
    | exact sb_R_KR
    | exact sb_T_KR
    | exact sb_T_K
    | exact fun k j h => mo_l k j (mo_l k j h)
    | exact mo_l
    | exact gm_rf hS
    | refine gm_up ?_ rfl rfl
    | refine gm_up ?_ mo1_self rfl
    | refine gm_up ?_ mo1_in rfl
    | refine gm_100 ?_ rfl ?_ ?_
    | refine gm_14 ?_ rfl ?_ ?_
    | refine gm_15 ?_ rfl ?_ ?_
    | refine gm_16 ?_ rfl ?_ ?_
    | refine gm_21 ?_ rfl ?_ ?_
    | refine gm_33 ?_ rfl ?_ ?_
    | refine gm_40 ?_ rfl ?_ ?_
    | refine gm_42 ?_ rfl ?_ ?_
    | refine md_up ?_ rfl rfl
    | refine md_tr ?_ (by assumption) ?_
    | refine gm_tr ?_ (by assumption) ?_
    | refine gm_put ?_ ?_ rfl
    | refine mi_up ?_ rfl
    | exact gm_i (by assumption)
    | exact md_i (by assumption)
    | exact sb_id
    | exact sb_T_s
    | exact sb_T_Q
    | exact sb_T_M
    | exact sb_R_M
    | exact sb_L_M
    | exact mo_l
    | exact mo1_sub
    | exact mo1_one sb_T_s
    | exact mo1_one mo_l
    | exact mo1_one sb_T_Q
    | exact mo1_one (mo1_one sb_T_s)
    | exact mo1_one (mo1_one sb_id)
    | exact fun k j h => sb_T_Q k j (mo_l k j h)
    | exact fun k j h => mo_l k j (mo_l k j h)
    | exact fun k j h => sb_T_s k j (mo_l k j h)
    | refine And.intro (fun h => absurd h (by decide)) (fun _ => ?_)
    | refine And.intro (fun _ => ?_) (fun h => absurd (by decide) h)
    | refine And.intro (fun _ => ?_) (fun _ => ?_)
    | refine And.intro ?_ ?_
  all_goals (first | (with_reducible assumption) | decide | omega | assumption | rfl | (simp only [am_c] at * <;> omega) | (simp only [am_c, am_up] at * <;> omega) | (simp [am_c, am_up] at * <;> omega))
theorem m_judge {l : Launch} {ν : am_N} {Q : Option am_V → am_N → Prop}  (hS : mi ν)   (k : ∀ (r : Int) (μ' : am_N), gm (mo mQ (m1o 83000 42)) ν μ' → μ' 83 42 = 0 → Q (some (.inl r)) μ') : am_Does l 247 [.inr (.inr 83)] ν Q := by
  refine am_Does_of (Nat.le_of_ble_eq_true rfl) (Nat.le_of_ble_eq_true rfl) (Nat.le_of_ble_eq_true rfl) ?_
  have hb := mi_all hS
  refine am_go (ct := fun _ => false) am_oX7_judge 300 ?_
  conv => whnf
  repeat' first
    | (refine (?_ : am_wp _ _ _ _ _ _ _ _ _ _ _ _); conv => whnf)
    | (refine (?_ : am_sw _ _ _ _); conv => whnf)
    | refine And.intro trivial ?_
    | exact trivial
    | (with_reducible assumption)
    | ((with_reducible refine (?_ : _ ∧ _)); first | (with_reducible first | refine am_jn am_q1 ?_ | refine am_jn am_q2 ?_ | refine am_jn am_q3 ?_ | refine am_jn am_q4 ?_ | refine am_jn am_q6 ?_ | refine am_jn am_q9 ?_ | refine am_jn am_p1 ?_ | refine am_jy am_p0 ?_ | refine am_kn am_q1 ?_ | refine am_kn am_q2 ?_ | refine am_kn am_q3 ?_ | refine am_kn am_q4 ?_ | refine am_kn am_q6 ?_ | refine am_kn am_q9 ?_ | refine am_kn am_p1 ?_ | refine am_ky am_p0 ?_) | refine And.intro (fun h => absurd h (by decide)) (fun _ => ?_) | refine And.intro (fun _ => ?_) (fun h => absurd (by decide) h) | refine And.intro (fun _ => ?_) (fun _ => ?_) | refine And.intro ?_ ?_)
    | refine k _ _ ?_ ?_
    | exact fun k j h => mo_l k j h
    | exact sb_R_KR
    | exact sb_T_KR
    | exact sb_T_K
    | exact fun k j h => mo_l k j (mo_l k j h)
    | exact mo_l
    | ((with_reducible refine (?_ : am_Does _ 245 _ _ _)); refine m_wrongAt  (by repeat' first | assumption | exact gm_i (by assumption) | exact md_i (by assumption) | refine mi_up ?_ rfl | refine mi_100 ?_ ?_ ?_ | (simp only [am_c] at * <;> omega))  (fun _ _ _ _ => ?_))
    | exact gm_rf hS
    | refine gm_up ?_ rfl rfl
    | refine gm_up ?_ mo1_self rfl
    | refine gm_up ?_ mo1_in rfl
    | refine gm_100 ?_ rfl ?_ ?_
    | refine gm_14 ?_ rfl ?_ ?_
    | refine gm_15 ?_ rfl ?_ ?_
    | refine gm_16 ?_ rfl ?_ ?_
    | refine gm_21 ?_ rfl ?_ ?_
    | refine gm_33 ?_ rfl ?_ ?_
    | refine gm_40 ?_ rfl ?_ ?_
    | refine gm_42 ?_ rfl ?_ ?_
    | refine md_up ?_ rfl rfl
    | refine md_tr ?_ (by assumption) ?_
    | refine gm_tr ?_ (by assumption) ?_
    | refine gm_put ?_ ?_ rfl
    | refine mi_up ?_ rfl
    | exact gm_i (by assumption)
    | exact md_i (by assumption)
    | exact sb_id
    | exact sb_T_s
    | exact sb_T_Q
    | exact sb_T_M
    | exact sb_R_M
    | exact sb_L_M
    | exact mo_l
    | exact mo1_sub
    | exact mo1_one sb_T_s
    | exact mo1_one mo_l
    | exact mo1_one sb_T_Q
    | exact mo1_one (mo1_one sb_T_s)
    | exact mo1_one (mo1_one sb_id)
    | exact fun k j h => sb_T_Q k j (mo_l k j h)
    | exact fun k j h => mo_l k j (mo_l k j h)
    | exact fun k j h => sb_T_s k j (mo_l k j h)
    | refine And.intro (fun h => absurd h (by decide)) (fun _ => ?_)
    | refine And.intro (fun _ => ?_) (fun h => absurd (by decide) h)
    | refine And.intro (fun _ => ?_) (fun _ => ?_)
    | refine And.intro ?_ ?_
  all_goals (first | (with_reducible assumption) | decide | omega | assumption | rfl | (simp only [am_c] at * <;> omega) | (simp only [am_c, am_up] at * <;> omega) | (simp [am_c, am_up] at * <;> omega))
