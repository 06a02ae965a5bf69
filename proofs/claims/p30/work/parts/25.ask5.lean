/-! contracts: the model's public questions (weak) -/
theorem m_same {l : Launch} {ν : am_N} {Q : Option am_V → am_N → Prop} (a b c : Int) (hS : mi ν) (ha0 : -2147483648 ≤ a) (ha1 : a ≤ 2147483647) (hb0 : -2147483648 ≤ b) (hb1 : b ≤ 2147483647) (hc0 : -2147483648 ≤ c) (hc1 : c ≤ 2147483647)  (k : ∀ (r : Int) (μ' : am_N), gm ms ν μ' → Q (some (.inl r)) μ') : am_Does l 208 [.inr (.inr 83), .inl a, .inl b, .inl c] ν Q := by
  refine am_Does_of (Nat.le_of_ble_eq_true rfl) (Nat.le_of_ble_eq_true rfl) (Nat.le_of_ble_eq_true rfl) ?_
  have hb := mi_all hS
  have lp37 : ∀ (m : Nat) (w i : Int) , 0 ≤ i → i ≤ 100 → 0 ≤ am_c a → am_c a < 4 → 0 ≤ am_c c → am_c c < 4 → 100 - i < (m : Int) → am_AW l 0 (fun _ => 0) 208 Q 37 [some (.inr (.inr 83)), some (.inl a), some (.inl b), some (.inl c), some (.inl w), some (.inl i)] [] ν := by
    intro m
    induction m with
    | zero =>
      intro w i  hv0 hv1 hv2 hv3 hv4 hv5 hm
      exfalso
      omega
    | succ m ih =>
      intro w i  hv0 hv1 hv2 hv3 hv4 hv5 hm
      refine am_go (ct := fun pc => Nat.beq pc 37) am_oX7_same 300 ?_
      conv => whnf
      repeat' first
        | (refine (?_ : am_wp _ _ _ _ _ _ _ _ _ _ _ _); conv => whnf)
        | (refine (?_ : am_sw _ _ _ _); conv => whnf)
        | refine And.intro trivial ?_
        | exact trivial
        | (with_reducible assumption)
        | ((with_reducible refine (?_ : _ ∧ _)); first | (with_reducible first | refine am_jn am_q1 ?_ | refine am_jn am_q2 ?_ | refine am_jn am_q3 ?_ | refine am_jn am_q4 ?_ | refine am_jn am_q6 ?_ | refine am_jn am_q9 ?_ | refine am_jn am_p1 ?_ | refine am_jy am_p0 ?_ | refine am_kn am_q1 ?_ | refine am_kn am_q2 ?_ | refine am_kn am_q3 ?_ | refine am_kn am_q4 ?_ | refine am_kn am_q6 ?_ | refine am_kn am_q9 ?_ | refine am_kn am_p1 ?_ | refine am_ky am_p0 ?_) | refine And.intro (fun h => absurd h (by decide)) (fun _ => ?_) | refine And.intro (fun _ => ?_) (fun h => absurd (by decide) h) | refine And.intro (fun _ => ?_) (fun _ => ?_) | refine And.intro ?_ ?_)
        | refine k _ _ ?_
        | ((with_reducible refine (?_ : am_Does _ 147 _ _ _)); refine m_areTwo _ _ ?_ (fun _ _ _ _ _ => ?_) ?_)
        | ((with_reducible refine (?_ : am_Does _ 144 _ _ _)); refine m_bound _ _ _ (fun _ => ?_) (fun _ _ => ?_) (fun _ _ => ?_))
        | ((with_reducible refine (?_ : am_Does _ 140 _ _ _)); refine m_no _ (gm_rf (by repeat' first | assumption | exact gm_i (by assumption) | exact md_i (by assumption) | refine mi_up ?_ rfl | refine mi_100 ?_ ?_ ?_ | (simp only [am_c] at * <;> omega))) ?_ ?_ (fun _ _ _ _ => ?_))
        | ((with_reducible refine (?_ : am_Does _ 206 _ _ _)); refine m_worthOf _ _ ?_ ?_ ?_ (fun _ => ?_))
        | exact gm_rf hS
        | refine gm_up ?_ rfl rfl
        | refine gm_up ?_ mo1_self rfl
        | refine gm_up ?_ mo1_in rfl
        | refine gm_100 ?_ rfl ?_ ?_
        | refine gm_14 ?_ rfl ?_ ?_
        | refine gm_15 ?_ rfl ?_ ?_
        | refine gm_16 ?_ rfl ?_ ?_
        | refine gm_21 ?_ rfl ?_ ?_
        | refine gm_33 ?_ rfl ?_ ?_
        | refine gm_40 ?_ rfl ?_ ?_
        | refine gm_42 ?_ rfl ?_ ?_
        | refine md_up ?_ rfl rfl
        | refine md_tr ?_ (by assumption) ?_
        | refine gm_tr ?_ (by assumption) ?_
        | refine gm_put ?_ ?_ rfl
        | refine mi_up ?_ rfl
        | exact gm_i (by assumption)
        | exact md_i (by assumption)
        | exact sb_id
        | exact sb_T_s
        | exact sb_T_Q
        | exact sb_T_M
        | exact sb_R_M
        | exact sb_L_M
        | exact mo_l
        | exact mo1_sub
        | exact mo1_one sb_T_s
        | exact mo1_one mo_l
        | exact mo1_one sb_T_Q
        | exact mo1_one (mo1_one sb_T_s)
        | exact mo1_one (mo1_one sb_id)
        | exact fun k j h => sb_T_Q k j (mo_l k j h)
        | exact fun k j h => mo_l k j (mo_l k j h)
        | exact fun k j h => sb_T_s k j (mo_l k j h)
        | ((with_reducible refine (?_ : am_AW _ _ _ _ _ 37 _ _ _)); refine ih _ _  ?_ ?_ ?_ ?_ ?_ ?_ ?_)
        | refine And.intro (fun h => absurd h (by decide)) (fun _ => ?_)
        | refine And.intro (fun _ => ?_) (fun h => absurd (by decide) h)
        | refine And.intro (fun _ => ?_) (fun _ => ?_)
        | refine And.intro ?_ ?_
      all_goals (first | (with_reducible assumption) | decide | omega | assumption | rfl | (simp only [am_c] at * <;> omega) | (simp only [am_c, am_up] at * <;> omega) | (simp [am_c, am_up] at * <;> omega))
  have lp37' : ∀ (w i : Int) , 0 ≤ i → i ≤ 100 → 0 ≤ am_c a → am_c a < 4 → 0 ≤ am_c c → am_c c < 4 → am_AW l 0 (fun _ => 0) 208 Q 37 [some (.inr (.inr 83)), some (.inl a), some (.inl b), some (.inl c), some (.inl w), some (.inl i)] [] ν := fun w i  hv0 hv1 hv2 hv3 hv4 hv5 => lp37 ((100 - i) + 1).toNat w i  hv0 hv1 hv2 hv3 hv4 hv5 (by omega)
  refine am_go (ct := fun pc => Nat.beq pc 37) am_oX7_same 300 ?_
  conv => whnf
  repeat' first
    | (refine (?_ : am_wp _ _ _ _ _ _ _ _ _ _ _ _); conv => whnf)
    | (refine (?_ : am_sw _ _ _ _); conv => whnf)
    | refine And.intro trivial ?_
    | exact trivial
    | (with_reducible assumption)
    | ((with_reducible refine (?_ : _ ∧ _)); first | (with_reducible first | refine am_jn am_q1 ?_ | refine am_jn am_q2 ?_ | refine am_jn am_q3 ?_ | refine am_jn am_q4 ?_ | refine am_jn am_q6 ?_ | refine am_jn am_q9 ?_ | refine am_jn am_p1 ?_ | refine am_jy am_p0 ?_ | refine am_kn am_q1 ?_ | refine am_kn am_q2 ?_ | refine am_kn am_q3 ?_ | refine am_kn am_q4 ?_ | refine am_kn am_q6 ?_ | refine am_kn am_q9 ?_ | refine am_kn am_p1 ?_ | refine am_ky am_p0 ?_) | refine And.intro (fun h => absurd h (by decide)) (fun _ => ?_) | refine And.intro (fun _ => ?_) (fun h => absurd (by decide) h) | refine And.intro (fun _ => ?_) (fun _ => ?_) | refine And.intro ?_ ?_)
    | refine k _ _ ?_
    | ((with_reducible refine (?_ : am_Does _ 147 _ _ _)); refine m_areTwo _ _ ?_ (fun _ _ _ _ _ => ?_) ?_)
    | ((with_reducible refine (?_ : am_Does _ 144 _ _ _)); refine m_bound _ _ _ (fun _ => ?_) (fun _ _ => ?_) (fun _ _ => ?_))
    | ((with_reducible refine (?_ : am_Does _ 140 _ _ _)); refine m_no _ (gm_rf (by repeat' first | assumption | exact gm_i (by assumption) | exact md_i (by assumption) | refine mi_up ?_ rfl | refine mi_100 ?_ ?_ ?_ | (simp only [am_c] at * <;> omega))) ?_ ?_ (fun _ _ _ _ => ?_))
    | ((with_reducible refine (?_ : am_Does _ 206 _ _ _)); refine m_worthOf _ _ ?_ ?_ ?_ (fun _ => ?_))
    | exact gm_rf hS
    | refine gm_up ?_ rfl rfl
    | refine gm_up ?_ mo1_self rfl
    | refine gm_up ?_ mo1_in rfl
    | refine gm_100 ?_ rfl ?_ ?_
    | refine gm_14 ?_ rfl ?_ ?_
    | refine gm_15 ?_ rfl ?_ ?_
    | refine gm_16 ?_ rfl ?_ ?_
    | refine gm_21 ?_ rfl ?_ ?_
    | refine gm_33 ?_ rfl ?_ ?_
    | refine gm_40 ?_ rfl ?_ ?_
    | refine gm_42 ?_ rfl ?_ ?_
    | refine md_up ?_ rfl rfl
    | refine md_tr ?_ (by assumption) ?_
    | refine gm_tr ?_ (by assumption) ?_
    | refine gm_put ?_ ?_ rfl
    | refine mi_up ?_ rfl
    | exact gm_i (by assumption)
    | exact md_i (by assumption)
    | exact sb_id
    | exact sb_T_s
    | exact sb_T_Q
    | exact sb_T_M
    | exact sb_R_M
    | exact sb_L_M
    | exact mo_l
    | exact mo1_sub
    | exact mo1_one sb_T_s
    | exact mo1_one mo_l
    | exact mo1_one sb_T_Q
    | exact mo1_one (mo1_one sb_T_s)
    | exact mo1_one (mo1_one sb_id)
    | exact fun k j h => sb_T_Q k j (mo_l k j h)
    | exact fun k j h => mo_l k j (mo_l k j h)
    | exact fun k j h => sb_T_s k j (mo_l k j h)
    | ((with_reducible refine (?_ : am_AW _ _ _ _ _ 37 _ _ _)); refine lp37' _ _  ?_ ?_ ?_ ?_ ?_ ?_)
    | refine And.intro (fun h => absurd h (by decide)) (fun _ => ?_)
    | refine And.intro (fun _ => ?_) (fun h => absurd (by decide) h)
    | refine And.intro (fun _ => ?_) (fun _ => ?_)
    | refine And.intro ?_ ?_
  all_goals (first | (with_reducible assumption) | decide | omega | assumption | rfl | (simp only [am_c] at * <;> omega) | (simp only [am_c, am_up] at * <;> omega) | (simp [am_c, am_up] at * <;> omega))
theorem m_teams {l : Launch} {ν : am_N} {Q : Option am_V → am_N → Prop} (a : Int) (hS : mi ν) (ha0 : -2147483648 ≤ a) (ha1 : a ≤ 2147483647)  (k : ∀ (r : Int) (μ' : am_N), gm ms ν μ' → Q (some (.inl r)) μ') : am_Does l 210 [.inr (.inr 83), .inl a] ν Q := by
  refine am_Does_of (Nat.le_of_ble_eq_true rfl) (Nat.le_of_ble_eq_true rfl) (Nat.le_of_ble_eq_true rfl) ?_
  have hb := mi_all hS
  have lp44 : ∀ (m : Nat) (w x i : Int) , 3 ≤ i → i ≤ 100 → 100 - i < (m : Int) → am_AW l 0 (fun _ => 0) 210 Q 44 [some (.inr (.inr 83)), some (.inl a), some (.inl w), some (.inl x), some (.inl i)] [] ν := by
    intro m
    induction m with
    | zero =>
      intro w x i  hv0 hv1 hm
      exfalso
      omega
    | succ m ih =>
      intro w x i  hv0 hv1 hm
      have h16 : ∀ n : Int, 0 ≤ n → n ≤ 4 → am_c (am_shl 1 n - 1) ≤ 15 := fun n h0 h1 => by rcases (show n = 0 ∨ n = 1 ∨ n = 2 ∨ n = 3 ∨ n = 4 by omega) with rfl | rfl | rfl | rfl | rfl <;> decide
      have h15 := h16 (ν 83 14) (by omega) (by omega)
      refine am_go (ct := fun pc => Nat.beq pc 44) am_oX7_teams 300 ?_
      conv => whnf
      repeat' first
        | (refine (?_ : am_wp _ _ _ _ _ _ _ _ _ _ _ _); conv => whnf)
        | (refine (?_ : am_sw _ _ _ _); conv => whnf)
        | refine And.intro trivial ?_
        | exact trivial
        | (with_reducible assumption)
        | ((with_reducible refine (?_ : _ ∧ _)); first | (with_reducible first | refine am_jn am_q1 ?_ | refine am_jn am_q2 ?_ | refine am_jn am_q3 ?_ | refine am_jn am_q4 ?_ | refine am_jn am_q6 ?_ | refine am_jn am_q9 ?_ | refine am_jn am_p1 ?_ | refine am_jy am_p0 ?_ | refine am_kn am_q1 ?_ | refine am_kn am_q2 ?_ | refine am_kn am_q3 ?_ | refine am_kn am_q4 ?_ | refine am_kn am_q6 ?_ | refine am_kn am_q9 ?_ | refine am_kn am_p1 ?_ | refine am_ky am_p0 ?_) | refine And.intro (fun h => absurd h (by decide)) (fun _ => ?_) | refine And.intro (fun _ => ?_) (fun h => absurd (by decide) h) | refine And.intro (fun _ => ?_) (fun _ => ?_) | refine And.intro ?_ ?_)
        | refine k _ _ ?_
        | ((with_reducible refine (?_ : am_Does _ 143 _ _ _)); refine m_isIn _ _ _ (fun _ _ => ?_) (fun _ => ?_))
        | ((with_reducible refine (?_ : am_Does _ 140 _ _ _)); refine m_no _ (gm_rf (by repeat' first | assumption | exact gm_i (by assumption) | exact md_i (by assumption) | refine mi_up ?_ rfl | refine mi_100 ?_ ?_ ?_ | (simp only [am_c] at * <;> omega))) ?_ ?_ (fun _ _ _ _ => ?_))
        | ((with_reducible refine (?_ : am_Does _ 209 _ _ _)); refine m_apartBy _ ?_  (fun _ => ?_))
        | exact gm_rf hS
        | refine gm_up ?_ rfl rfl
        | refine gm_up ?_ mo1_self rfl
        | refine gm_up ?_ mo1_in rfl
        | refine gm_100 ?_ rfl ?_ ?_
        | refine gm_14 ?_ rfl ?_ ?_
        | refine gm_15 ?_ rfl ?_ ?_
        | refine gm_16 ?_ rfl ?_ ?_
        | refine gm_21 ?_ rfl ?_ ?_
        | refine gm_33 ?_ rfl ?_ ?_
        | refine gm_40 ?_ rfl ?_ ?_
        | refine gm_42 ?_ rfl ?_ ?_
        | refine md_up ?_ rfl rfl
        | refine md_tr ?_ (by assumption) ?_
        | refine gm_tr ?_ (by assumption) ?_
        | refine gm_put ?_ ?_ rfl
        | refine mi_up ?_ rfl
        | exact gm_i (by assumption)
        | exact md_i (by assumption)
        | exact sb_id
        | exact sb_T_s
        | exact sb_T_Q
        | exact sb_T_M
        | exact sb_R_M
        | exact sb_L_M
        | exact mo_l
        | exact mo1_sub
        | exact mo1_one sb_T_s
        | exact mo1_one mo_l
        | exact mo1_one sb_T_Q
        | exact mo1_one (mo1_one sb_T_s)
        | exact mo1_one (mo1_one sb_id)
        | exact fun k j h => sb_T_Q k j (mo_l k j h)
        | exact fun k j h => mo_l k j (mo_l k j h)
        | exact fun k j h => sb_T_s k j (mo_l k j h)
        | ((with_reducible refine (?_ : am_AW _ _ _ _ _ 44 _ _ _)); refine ih _ _ _  ?_ ?_ ?_)
        | refine And.intro (fun h => absurd h (by decide)) (fun _ => ?_)
        | refine And.intro (fun _ => ?_) (fun h => absurd (by decide) h)
        | refine And.intro (fun _ => ?_) (fun _ => ?_)
        | refine And.intro ?_ ?_
      all_goals (first | (with_reducible assumption) | decide | omega | assumption | (simp only [am_c] at * <;> omega))
  have lp44' : ∀ (w x i : Int) , 3 ≤ i → i ≤ 100 → am_AW l 0 (fun _ => 0) 210 Q 44 [some (.inr (.inr 83)), some (.inl a), some (.inl w), some (.inl x), some (.inl i)] [] ν := fun w x i  hv0 hv1 => lp44 ((100 - i) + 1).toNat w x i  hv0 hv1 (by omega)
  refine am_go (ct := fun pc => Nat.beq pc 44) am_oX7_teams 300 ?_
  conv => whnf
  repeat' first
    | (refine (?_ : am_wp _ _ _ _ _ _ _ _ _ _ _ _); conv => whnf)
    | (refine (?_ : am_sw _ _ _ _); conv => whnf)
    | refine And.intro trivial ?_
    | exact trivial
    | (with_reducible assumption)
    | ((with_reducible refine (?_ : _ ∧ _)); first | (with_reducible first | refine am_jn am_q1 ?_ | refine am_jn am_q2 ?_ | refine am_jn am_q3 ?_ | refine am_jn am_q4 ?_ | refine am_jn am_q6 ?_ | refine am_jn am_q9 ?_ | refine am_jn am_p1 ?_ | refine am_jy am_p0 ?_ | refine am_kn am_q1 ?_ | refine am_kn am_q2 ?_ | refine am_kn am_q3 ?_ | refine am_kn am_q4 ?_ | refine am_kn am_q6 ?_ | refine am_kn am_q9 ?_ | refine am_kn am_p1 ?_ | refine am_ky am_p0 ?_) | refine And.intro (fun h => absurd h (by decide)) (fun _ => ?_) | refine And.intro (fun _ => ?_) (fun h => absurd (by decide) h) | refine And.intro (fun _ => ?_) (fun _ => ?_) | refine And.intro ?_ ?_)
    | refine k _ _ ?_
    | ((with_reducible refine (?_ : am_Does _ 143 _ _ _)); refine m_isIn _ _ _ (fun _ _ => ?_) (fun _ => ?_))
    | ((with_reducible refine (?_ : am_Does _ 140 _ _ _)); refine m_no _ (gm_rf (by repeat' first | assumption | exact gm_i (by assumption) | exact md_i (by assumption) | refine mi_up ?_ rfl | refine mi_100 ?_ ?_ ?_ | (simp only [am_c] at * <;> omega))) ?_ ?_ (fun _ _ _ _ => ?_))
    | ((with_reducible refine (?_ : am_Does _ 209 _ _ _)); refine m_apartBy _ ?_  (fun _ => ?_))
    | exact gm_rf hS
    | refine gm_up ?_ rfl rfl
    | refine gm_up ?_ mo1_self rfl
    | refine gm_up ?_ mo1_in rfl
    | refine gm_100 ?_ rfl ?_ ?_
    | refine gm_14 ?_ rfl ?_ ?_
    | refine gm_15 ?_ rfl ?_ ?_
    | refine gm_16 ?_ rfl ?_ ?_
    | refine gm_21 ?_ rfl ?_ ?_
    | refine gm_33 ?_ rfl ?_ ?_
    | refine gm_40 ?_ rfl ?_ ?_
    | refine gm_42 ?_ rfl ?_ ?_
    | refine md_up ?_ rfl rfl
    | refine md_tr ?_ (by assumption) ?_
    | refine gm_tr ?_ (by assumption) ?_
    | refine gm_put ?_ ?_ rfl
    | refine mi_up ?_ rfl
    | exact gm_i (by assumption)
    | exact md_i (by assumption)
    | exact sb_id
    | exact sb_T_s
    | exact sb_T_Q
    | exact sb_T_M
    | exact sb_R_M
    | exact sb_L_M
    | exact mo_l
    | exact mo1_sub
    | exact mo1_one sb_T_s
    | exact mo1_one mo_l
    | exact mo1_one sb_T_Q
    | exact mo1_one (mo1_one sb_T_s)
    | exact mo1_one (mo1_one sb_id)
    | exact fun k j h => sb_T_Q k j (mo_l k j h)
    | exact fun k j h => mo_l k j (mo_l k j h)
    | exact fun k j h => sb_T_s k j (mo_l k j h)
    | ((with_reducible refine (?_ : am_AW _ _ _ _ _ 44 _ _ _)); refine lp44' _ _ _  ?_ ?_)
    | refine And.intro (fun h => absurd h (by decide)) (fun _ => ?_)
    | refine And.intro (fun _ => ?_) (fun h => absurd (by decide) h)
    | refine And.intro (fun _ => ?_) (fun _ => ?_)
    | refine And.intro ?_ ?_
  all_goals (first | (with_reducible assumption) | decide | omega | assumption | (simp only [am_c] at * <;> omega))
theorem m_longer {l : Launch} {ν : am_N} {Q : Option am_V → am_N → Prop} (a : Int) (hS : mi ν) (ha0 : -2147483648 ≤ a) (ha1 : a ≤ 2147483647)  (k : ∀ (r : Int) (μ' : am_N), gm ms ν μ' → Q (some (.inl r)) μ') : am_Does l 211 [.inr (.inr 83), .inl a] ν Q := by
  refine am_Does_of (Nat.le_of_ble_eq_true rfl) (Nat.le_of_ble_eq_true rfl) (Nat.le_of_ble_eq_true rfl) ?_
  have hb := mi_all hS
  have lp28 : ∀ (m : Nat) (w f : Int) (μ : am_N) , gm (mo1 ms 83 10) ν μ → 20 ≤ μ 83 10 → μ 83 10 ≤ 201 → 0 ≤ am_c a → am_c a < 4 → w = ν 83 10 → 201 - μ 83 10 < (m : Int) → am_AW l 0 (fun _ => 0) 211 Q 28 [some (.inr (.inr 83)), some (.inl a), some (.inl w), some (.inl f)] [] μ := by
    intro m
    induction m with
    | zero =>
      intro w f μ hv0 hv1 hv2 hv3 hv4 hv5 hm
      have hb := mi_all hv0.1
      exfalso
      omega
    | succ m ih =>
      intro w f μ hv0 hv1 hv2 hv3 hv4 hv5 hm
      have hb := mi_all hv0.1
      refine am_go (ct := fun pc => Nat.beq pc 28) am_oX7_longer 300 ?_
      conv => whnf
      repeat' first
        | (refine (?_ : am_wp _ _ _ _ _ _ _ _ _ _ _ _); conv => whnf)
        | (refine (?_ : am_sw _ _ _ _); conv => whnf)
        | refine And.intro trivial ?_
        | exact trivial
        | (with_reducible assumption)
        | ((with_reducible refine (?_ : _ ∧ _)); first | (with_reducible first | refine am_jn am_q1 ?_ | refine am_jn am_q2 ?_ | refine am_jn am_q3 ?_ | refine am_jn am_q4 ?_ | refine am_jn am_q6 ?_ | refine am_jn am_q9 ?_ | refine am_jn am_p1 ?_ | refine am_jy am_p0 ?_ | refine am_kn am_q1 ?_ | refine am_kn am_q2 ?_ | refine am_kn am_q3 ?_ | refine am_kn am_q4 ?_ | refine am_kn am_q6 ?_ | refine am_kn am_q9 ?_ | refine am_kn am_p1 ?_ | refine am_ky am_p0 ?_) | refine And.intro (fun h => absurd h (by decide)) (fun _ => ?_) | refine And.intro (fun _ => ?_) (fun h => absurd (by decide) h) | refine And.intro (fun _ => ?_) (fun _ => ?_) | refine And.intro ?_ ?_)
        | refine k _ _ ?_
        | ((with_reducible refine (?_ : am_Does _ 146 _ _ _)); refine m_isRunner _ ?_ (fun _ _ _ => ?_) (fun _ => ?_))
        | ((with_reducible refine (?_ : am_Does _ 140 _ _ _)); refine m_no _ (gm_rf (by repeat' first | assumption | exact gm_i (by assumption) | exact md_i (by assumption) | refine mi_up ?_ rfl | refine mi_100 ?_ ?_ ?_ | (simp only [am_c] at * <;> omega))) ?_ ?_ (fun _ _ _ _ => ?_))
        | ((with_reducible refine (?_ : am_Does _ 182 _ _ _)); refine m_findFirstsE (by repeat' first | assumption | exact gm_i (by assumption) | exact md_i (by assumption) | refine mi_up ?_ rfl | refine mi_100 ?_ ?_ ?_ | (simp only [am_c] at * <;> omega)) (fun _ _ _ _ => ?_))
        | ((with_reducible refine (?_ : am_Does _ 169 _ _ _)); refine m_races ?_)
        | exact gm_rf hS
        | refine gm_up ?_ rfl rfl
        | refine gm_up ?_ mo1_self rfl
        | refine gm_up ?_ mo1_in rfl
        | refine gm_100 ?_ rfl ?_ ?_
        | refine gm_14 ?_ rfl ?_ ?_
        | refine gm_15 ?_ rfl ?_ ?_
        | refine gm_16 ?_ rfl ?_ ?_
        | refine gm_21 ?_ rfl ?_ ?_
        | refine gm_33 ?_ rfl ?_ ?_
        | refine gm_40 ?_ rfl ?_ ?_
        | refine gm_42 ?_ rfl ?_ ?_
        | refine md_up ?_ rfl rfl
        | refine md_tr ?_ (by assumption) ?_
        | refine gm_tr ?_ (by assumption) ?_
        | refine gm_put ?_ ?_ rfl
        | refine mi_up ?_ rfl
        | exact gm_i (by assumption)
        | exact md_i (by assumption)
        | exact sb_id
        | exact sb_T_s
        | exact sb_T_Q
        | exact sb_T_M
        | exact sb_R_M
        | exact sb_L_M
        | exact mo_l
        | exact mo1_sub
        | exact mo1_one sb_T_s
        | exact mo1_one mo_l
        | exact mo1_one sb_T_Q
        | exact mo1_one (mo1_one sb_T_s)
        | exact mo1_one (mo1_one sb_id)
        | exact fun k j h => sb_T_Q k j (mo_l k j h)
        | exact fun k j h => mo_l k j (mo_l k j h)
        | exact fun k j h => sb_T_s k j (mo_l k j h)
        | ((with_reducible refine (?_ : am_AW _ _ _ _ _ 28 _ _ _)); refine ih _ _ _ ?_ ?_ ?_ ?_ ?_ ?_ ?_)
        | refine And.intro (fun h => absurd h (by decide)) (fun _ => ?_)
        | refine And.intro (fun _ => ?_) (fun h => absurd (by decide) h)
        | refine And.intro (fun _ => ?_) (fun _ => ?_)
        | refine And.intro ?_ ?_
      all_goals (first | (with_reducible assumption) | decide | omega | assumption | rfl | (simp only [am_c] at * <;> omega) | (simp only [am_c, am_up] at * <;> omega) | (simp [am_c, am_up] at * <;> omega))
  have lp28' : ∀ (w f : Int) (μ : am_N) , gm (mo1 ms 83 10) ν μ → 20 ≤ μ 83 10 → μ 83 10 ≤ 201 → 0 ≤ am_c a → am_c a < 4 → w = ν 83 10 → am_AW l 0 (fun _ => 0) 211 Q 28 [some (.inr (.inr 83)), some (.inl a), some (.inl w), some (.inl f)] [] μ := fun w f μ hv0 hv1 hv2 hv3 hv4 hv5 => lp28 ((201 - μ 83 10) + 1).toNat w f μ hv0 hv1 hv2 hv3 hv4 hv5 (by omega)
  refine am_go (ct := fun pc => Nat.beq pc 28) am_oX7_longer 300 ?_
  conv => whnf
  repeat' first
    | (refine (?_ : am_wp _ _ _ _ _ _ _ _ _ _ _ _); conv => whnf)
    | (refine (?_ : am_sw _ _ _ _); conv => whnf)
    | refine And.intro trivial ?_
    | exact trivial
    | (with_reducible assumption)
    | ((with_reducible refine (?_ : _ ∧ _)); first | (with_reducible first | refine am_jn am_q1 ?_ | refine am_jn am_q2 ?_ | refine am_jn am_q3 ?_ | refine am_jn am_q4 ?_ | refine am_jn am_q6 ?_ | refine am_jn am_q9 ?_ | refine am_jn am_p1 ?_ | refine am_jy am_p0 ?_ | refine am_kn am_q1 ?_ | refine am_kn am_q2 ?_ | refine am_kn am_q3 ?_ | refine am_kn am_q4 ?_ | refine am_kn am_q6 ?_ | refine am_kn am_q9 ?_ | refine am_kn am_p1 ?_ | refine am_ky am_p0 ?_) | refine And.intro (fun h => absurd h (by decide)) (fun _ => ?_) | refine And.intro (fun _ => ?_) (fun h => absurd (by decide) h) | refine And.intro (fun _ => ?_) (fun _ => ?_) | refine And.intro ?_ ?_)
    | refine k _ _ ?_
    | ((with_reducible refine (?_ : am_Does _ 146 _ _ _)); refine m_isRunner _ ?_ (fun _ _ _ => ?_) (fun _ => ?_))
    | ((with_reducible refine (?_ : am_Does _ 140 _ _ _)); refine m_no _ (gm_rf (by repeat' first | assumption | exact gm_i (by assumption) | exact md_i (by assumption) | refine mi_up ?_ rfl | refine mi_100 ?_ ?_ ?_ | (simp only [am_c] at * <;> omega))) ?_ ?_ (fun _ _ _ _ => ?_))
    | ((with_reducible refine (?_ : am_Does _ 182 _ _ _)); refine m_findFirstsE (by repeat' first | assumption | exact gm_i (by assumption) | exact md_i (by assumption) | refine mi_up ?_ rfl | refine mi_100 ?_ ?_ ?_ | (simp only [am_c] at * <;> omega)) (fun _ _ _ _ => ?_))
    | ((with_reducible refine (?_ : am_Does _ 169 _ _ _)); refine m_races ?_)
    | exact gm_rf hS
    | refine gm_up ?_ rfl rfl
    | refine gm_up ?_ mo1_self rfl
    | refine gm_up ?_ mo1_in rfl
    | refine gm_100 ?_ rfl ?_ ?_
    | refine gm_14 ?_ rfl ?_ ?_
    | refine gm_15 ?_ rfl ?_ ?_
    | refine gm_16 ?_ rfl ?_ ?_
    | refine gm_21 ?_ rfl ?_ ?_
    | refine gm_33 ?_ rfl ?_ ?_
    | refine gm_40 ?_ rfl ?_ ?_
    | refine gm_42 ?_ rfl ?_ ?_
    | refine md_up ?_ rfl rfl
    | refine md_tr ?_ (by assumption) ?_
    | refine gm_tr ?_ (by assumption) ?_
    | refine gm_put ?_ ?_ rfl
    | refine mi_up ?_ rfl
    | exact gm_i (by assumption)
    | exact md_i (by assumption)
    | exact sb_id
    | exact sb_T_s
    | exact sb_T_Q
    | exact sb_T_M
    | exact sb_R_M
    | exact sb_L_M
    | exact mo_l
    | exact mo1_sub
    | exact mo1_one sb_T_s
    | exact mo1_one mo_l
    | exact mo1_one sb_T_Q
    | exact mo1_one (mo1_one sb_T_s)
    | exact mo1_one (mo1_one sb_id)
    | exact fun k j h => sb_T_Q k j (mo_l k j h)
    | exact fun k j h => mo_l k j (mo_l k j h)
    | exact fun k j h => sb_T_s k j (mo_l k j h)
    | ((with_reducible refine (?_ : am_AW _ _ _ _ _ 28 _ _ _)); refine lp28' _ _ _ ?_ ?_ ?_ ?_ ?_ ?_)
    | refine And.intro (fun h => absurd h (by decide)) (fun _ => ?_)
    | refine And.intro (fun _ => ?_) (fun h => absurd (by decide) h)
    | refine And.intro (fun _ => ?_) (fun _ => ?_)
    | refine And.intro ?_ ?_
  all_goals (first | (with_reducible assumption) | decide | omega | assumption | rfl | (simp only [am_c] at * <;> omega) | (simp only [am_c, am_up] at * <;> omega) | (simp [am_c, am_up] at * <;> omega))
theorem m_let {l : Launch} {ν : am_N} {Q : Option am_V → am_N → Prop}  (hS : mi ν)   (k : ∀ (r : Int) (μ' : am_N), gm ms ν μ' → Q (some (.inl r)) μ') : am_Does l 212 [.inr (.inr 83)] ν Q := by
  refine am_Does_of (Nat.le_of_ble_eq_true rfl) (Nat.le_of_ble_eq_true rfl) (Nat.le_of_ble_eq_true rfl) ?_
  have hb := mi_all hS
  have lp29 : ∀ (m : Nat) (f s i : Int) (o4 : Option am_V) (μ : am_N) , gm ms ν μ → 0 ≤ i → i ≤ 4 → 4 - i < (m : Int) → am_AW l 0 (fun _ => 0) 212 Q 29 [some (.inr (.inr 83)), some (.inl f), some (.inl s), some (.inl i), o4] [] μ := by
    intro m
    induction m with
    | zero =>
      intro f s i o4 μ hv0 hv1 hv2 hm
      have hb := mi_all hv0.1
      exfalso
      omega
    | succ m ih =>
      intro f s i o4 μ hv0 hv1 hv2 hm
      have hb := mi_all hv0.1
      have eo : μ 85 (am_c i).toNat = ν 85 (am_c i).toNat := hv0.2 85 _ rfl
      refine am_go (ct := fun pc => Nat.beq pc 29) am_oX7_let 300 ?_
      conv => whnf
      repeat' first
        | (refine (?_ : am_wp _ _ _ _ _ _ _ _ _ _ _ _); conv => whnf)
        | (refine (?_ : am_sw _ _ _ _); conv => whnf)
        | refine And.intro trivial ?_
        | exact trivial
        | (with_reducible assumption)
        | ((with_reducible refine (?_ : _ ∧ _)); first | (with_reducible first | refine am_jn am_q1 ?_ | refine am_jn am_q2 ?_ | refine am_jn am_q3 ?_ | refine am_jn am_q4 ?_ | refine am_jn am_q6 ?_ | refine am_jn am_q9 ?_ | refine am_jn am_p1 ?_ | refine am_jy am_p0 ?_ | refine am_kn am_q1 ?_ | refine am_kn am_q2 ?_ | refine am_kn am_q3 ?_ | refine am_kn am_q4 ?_ | refine am_kn am_q6 ?_ | refine am_kn am_q9 ?_ | refine am_kn am_p1 ?_ | refine am_ky am_p0 ?_) | refine And.intro (fun h => absurd h (by decide)) (fun _ => ?_) | refine And.intro (fun _ => ?_) (fun h => absurd (by decide) h) | refine And.intro (fun _ => ?_) (fun _ => ?_) | refine And.intro ?_ ?_)
        | refine k _ _ ?_
        | ((with_reducible refine (?_ : am_Does _ 140 _ _ _)); refine m_no _ (gm_rf (by repeat' first | assumption | exact gm_i (by assumption) | exact md_i (by assumption) | refine mi_up ?_ rfl | refine mi_100 ?_ ?_ ?_ | (simp only [am_c] at * <;> omega))) ?_ ?_ (fun _ _ _ _ => ?_))
        | ((with_reducible refine (?_ : am_Does _ 166 _ _ _)); refine m_takesTimes  (gm_rf (by repeat' first | assumption | exact gm_i (by assumption) | exact md_i (by assumption) | refine mi_up ?_ rfl | refine mi_100 ?_ ?_ ?_ | (simp only [am_c] at * <;> omega)))  (fun _ _ _ _ _ => ?_))
        | exact gm_rf hS
        | refine gm_up ?_ rfl rfl
        | refine gm_up ?_ mo1_self rfl
        | refine gm_up ?_ mo1_in rfl
        | refine gm_100 ?_ rfl ?_ ?_
        | refine gm_14 ?_ rfl ?_ ?_
        | refine gm_15 ?_ rfl ?_ ?_
        | refine gm_16 ?_ rfl ?_ ?_
        | refine gm_21 ?_ rfl ?_ ?_
        | refine gm_33 ?_ rfl ?_ ?_
        | refine gm_40 ?_ rfl ?_ ?_
        | refine gm_42 ?_ rfl ?_ ?_
        | refine md_up ?_ rfl rfl
        | refine md_tr ?_ (by assumption) ?_
        | refine gm_tr ?_ (by assumption) ?_
        | refine gm_put ?_ ?_ rfl
        | refine mi_up ?_ rfl
        | exact gm_i (by assumption)
        | exact md_i (by assumption)
        | exact sb_id
        | exact sb_T_s
        | exact sb_T_Q
        | exact sb_T_M
        | exact sb_R_M
        | exact sb_L_M
        | exact mo_l
        | exact mo1_sub
        | exact mo1_one sb_T_s
        | exact mo1_one mo_l
        | exact mo1_one sb_T_Q
        | exact mo1_one (mo1_one sb_T_s)
        | exact mo1_one (mo1_one sb_id)
        | exact fun k j h => sb_T_Q k j (mo_l k j h)
        | exact fun k j h => mo_l k j (mo_l k j h)
        | exact fun k j h => sb_T_s k j (mo_l k j h)
        | ((with_reducible refine (?_ : am_AW _ _ _ _ _ 29 _ _ _)); refine ih _ _ _ _ _ ?_ ?_ ?_ ?_)
        | refine And.intro (fun h => absurd h (by decide)) (fun _ => ?_)
        | refine And.intro (fun _ => ?_) (fun h => absurd (by decide) h)
        | refine And.intro (fun _ => ?_) (fun _ => ?_)
        | refine And.intro ?_ ?_
      all_goals (first | (with_reducible assumption) | decide | omega | assumption | rfl | (simp only [am_c] at * <;> omega) | (simp only [am_c, am_up] at * <;> omega) | (simp [am_c, am_up] at * <;> omega))
  have lp29' : ∀ (f s i : Int) (o4 : Option am_V) (μ : am_N) , gm ms ν μ → 0 ≤ i → i ≤ 4 → am_AW l 0 (fun _ => 0) 212 Q 29 [some (.inr (.inr 83)), some (.inl f), some (.inl s), some (.inl i), o4] [] μ := fun f s i o4 μ hv0 hv1 hv2 => lp29 ((4 - i) + 1).toNat f s i o4 μ hv0 hv1 hv2 (by omega)
  refine am_go (ct := fun pc => Nat.beq pc 29) am_oX7_let 300 ?_
  conv => whnf
  repeat' first
    | (refine (?_ : am_wp _ _ _ _ _ _ _ _ _ _ _ _); conv => whnf)
    | (refine (?_ : am_sw _ _ _ _); conv => whnf)
    | refine And.intro trivial ?_
    | exact trivial
    | (with_reducible assumption)
    | ((with_reducible refine (?_ : _ ∧ _)); first | (with_reducible first | refine am_jn am_q1 ?_ | refine am_jn am_q2 ?_ | refine am_jn am_q3 ?_ | refine am_jn am_q4 ?_ | refine am_jn am_q6 ?_ | refine am_jn am_q9 ?_ | refine am_jn am_p1 ?_ | refine am_jy am_p0 ?_ | refine am_kn am_q1 ?_ | refine am_kn am_q2 ?_ | refine am_kn am_q3 ?_ | refine am_kn am_q4 ?_ | refine am_kn am_q6 ?_ | refine am_kn am_q9 ?_ | refine am_kn am_p1 ?_ | refine am_ky am_p0 ?_) | refine And.intro (fun h => absurd h (by decide)) (fun _ => ?_) | refine And.intro (fun _ => ?_) (fun h => absurd (by decide) h) | refine And.intro (fun _ => ?_) (fun _ => ?_) | refine And.intro ?_ ?_)
    | refine k _ _ ?_
    | ((with_reducible refine (?_ : am_Does _ 140 _ _ _)); refine m_no _ (gm_rf (by repeat' first | assumption | exact gm_i (by assumption) | exact md_i (by assumption) | refine mi_up ?_ rfl | refine mi_100 ?_ ?_ ?_ | (simp only [am_c] at * <;> omega))) ?_ ?_ (fun _ _ _ _ => ?_))
    | ((with_reducible refine (?_ : am_Does _ 166 _ _ _)); refine m_takesTimes  (gm_rf (by repeat' first | assumption | exact gm_i (by assumption) | exact md_i (by assumption) | refine mi_up ?_ rfl | refine mi_100 ?_ ?_ ?_ | (simp only [am_c] at * <;> omega)))  (fun _ _ _ _ _ => ?_))
    | exact gm_rf hS
    | refine gm_up ?_ rfl rfl
    | refine gm_up ?_ mo1_self rfl
    | refine gm_up ?_ mo1_in rfl
    | refine gm_100 ?_ rfl ?_ ?_
    | refine gm_14 ?_ rfl ?_ ?_
    | refine gm_15 ?_ rfl ?_ ?_
    | refine gm_16 ?_ rfl ?_ ?_
    | refine gm_21 ?_ rfl ?_ ?_
    | refine gm_33 ?_ rfl ?_ ?_
    | refine gm_40 ?_ rfl ?_ ?_
    | refine gm_42 ?_ rfl ?_ ?_
    | refine md_up ?_ rfl rfl
    | refine md_tr ?_ (by assumption) ?_
    | refine gm_tr ?_ (by assumption) ?_
    | refine gm_put ?_ ?_ rfl
    | refine mi_up ?_ rfl
    | exact gm_i (by assumption)
    | exact md_i (by assumption)
    | exact sb_id
    | exact sb_T_s
    | exact sb_T_Q
    | exact sb_T_M
    | exact sb_R_M
    | exact sb_L_M
    | exact mo_l
    | exact mo1_sub
    | exact mo1_one sb_T_s
    | exact mo1_one mo_l
    | exact mo1_one sb_T_Q
    | exact mo1_one (mo1_one sb_T_s)
    | exact mo1_one (mo1_one sb_id)
    | exact fun k j h => sb_T_Q k j (mo_l k j h)
    | exact fun k j h => mo_l k j (mo_l k j h)
    | exact fun k j h => sb_T_s k j (mo_l k j h)
    | ((with_reducible refine (?_ : am_AW _ _ _ _ _ 29 _ _ _)); refine lp29' _ _ _ _ _ ?_ ?_ ?_)
    | refine And.intro (fun h => absurd h (by decide)) (fun _ => ?_)
    | refine And.intro (fun _ => ?_) (fun h => absurd (by decide) h)
    | refine And.intro (fun _ => ?_) (fun _ => ?_)
    | refine And.intro ?_ ?_
  all_goals (first | (with_reducible assumption) | decide | omega | assumption | rfl | (simp only [am_c] at * <;> omega) | (simp only [am_c, am_up] at * <;> omega) | (simp [am_c, am_up] at * <;> omega))
theorem m_bags {l : Launch} {ν : am_N} {Q : Option am_V → am_N → Prop} (a b c : Int) (hS : mi ν) (ha0 : -2147483648 ≤ a) (ha1 : a ≤ 2147483647) (hb0 : -2147483648 ≤ b) (hb1 : b ≤ 2147483647) (hc0 : -2147483648 ≤ c) (hc1 : c ≤ 2147483647)  (k : ∀ (r : Int) (μ' : am_N), gm ms ν μ' → Q (some (.inl r)) μ') : am_Does l 216 [.inr (.inr 83), .inl a, .inl b, .inl c] ν Q := by
  refine am_Does_of (Nat.le_of_ble_eq_true rfl) (Nat.le_of_ble_eq_true rfl) (Nat.le_of_ble_eq_true rfl) ?_
  have hb := mi_all hS
  have lp48 : ∀ (m : Nat) (w x i : Int) , 1 ≤ i → i ≤ 100 → 0 ≤ am_c a → am_c a < 4 → 0 ≤ am_c b → am_c b < 4 → 100 - i < (m : Int) → am_AW l 0 (fun _ => 0) 216 Q 48 [some (.inr (.inr 83)), some (.inl a), some (.inl b), some (.inl c), some (.inl w), some (.inl x), some (.inl i)] [] ν := by
    intro m
    induction m with
    | zero =>
      intro w x i  hv0 hv1 hv2 hv3 hv4 hv5 hm
      exfalso
      omega
    | succ m ih =>
      intro w x i  hv0 hv1 hv2 hv3 hv4 hv5 hm
      have h16 : ∀ n : Int, 0 ≤ n → n ≤ 6 → am_c (am_shl 1 n) ≤ 64 := fun n h0 h1 => by rcases (show n = 0 ∨ n = 1 ∨ n = 2 ∨ n = 3 ∨ n = 4 ∨ n = 5 ∨ n = 6 by omega) with rfl | rfl | rfl | rfl | rfl | rfl | rfl <;> decide
      have h15 := h16 (ν 83 15) (by omega) (by omega)
      refine am_go (ct := fun pc => Nat.beq pc 48) am_oX7_bags 300 ?_
      conv => whnf
      repeat' first
        | (refine (?_ : am_wp _ _ _ _ _ _ _ _ _ _ _ _); conv => whnf)
        | (refine (?_ : am_sw _ _ _ _); conv => whnf)
        | refine And.intro trivial ?_
        | exact trivial
        | (with_reducible assumption)
        | ((with_reducible refine (?_ : _ ∧ _)); first | (with_reducible first | refine am_jn am_q1 ?_ | refine am_jn am_q2 ?_ | refine am_jn am_q3 ?_ | refine am_jn am_q4 ?_ | refine am_jn am_q6 ?_ | refine am_jn am_q9 ?_ | refine am_jn am_p1 ?_ | refine am_jy am_p0 ?_ | refine am_kn am_q1 ?_ | refine am_kn am_q2 ?_ | refine am_kn am_q3 ?_ | refine am_kn am_q4 ?_ | refine am_kn am_q6 ?_ | refine am_kn am_q9 ?_ | refine am_kn am_p1 ?_ | refine am_ky am_p0 ?_) | refine And.intro (fun h => absurd h (by decide)) (fun _ => ?_) | refine And.intro (fun _ => ?_) (fun h => absurd (by decide) h) | refine And.intro (fun _ => ?_) (fun _ => ?_) | refine And.intro ?_ ?_)
        | refine k _ _ ?_
        | ((with_reducible refine (?_ : am_Does _ 147 _ _ _)); refine m_areTwo _ _ ?_ (fun _ _ _ _ _ => ?_) ?_)
        | ((with_reducible refine (?_ : am_Does _ 143 _ _ _)); refine m_isIn _ _ _ (fun _ _ => ?_) (fun _ => ?_))
        | ((with_reducible refine (?_ : am_Does _ 140 _ _ _)); refine m_no _ (gm_rf (by repeat' first | assumption | exact gm_i (by assumption) | exact md_i (by assumption) | refine mi_up ?_ rfl | refine mi_100 ?_ ?_ ?_ | (simp only [am_c] at * <;> omega))) ?_ ?_ (fun _ _ _ _ => ?_))
        | ((with_reducible refine (?_ : am_Does _ 215 _ _ _)); refine m_bagsFar _ _ _ ?_ ?_ ?_ ?_ ?_ (fun _ => ?_))
        | exact gm_rf hS
        | refine gm_up ?_ rfl rfl
        | refine gm_up ?_ mo1_self rfl
        | refine gm_up ?_ mo1_in rfl
        | refine gm_100 ?_ rfl ?_ ?_
        | refine gm_14 ?_ rfl ?_ ?_
        | refine gm_15 ?_ rfl ?_ ?_
        | refine gm_16 ?_ rfl ?_ ?_
        | refine gm_21 ?_ rfl ?_ ?_
        | refine gm_33 ?_ rfl ?_ ?_
        | refine gm_40 ?_ rfl ?_ ?_
        | refine gm_42 ?_ rfl ?_ ?_
        | refine md_up ?_ rfl rfl
        | refine md_tr ?_ (by assumption) ?_
        | refine gm_tr ?_ (by assumption) ?_
        | refine gm_put ?_ ?_ rfl
        | refine mi_up ?_ rfl
        | exact gm_i (by assumption)
        | exact md_i (by assumption)
        | exact sb_id
        | exact sb_T_s
        | exact sb_T_Q
        | exact sb_T_M
        | exact sb_R_M
        | exact sb_L_M
        | exact mo_l
        | exact mo1_sub
        | exact mo1_one sb_T_s
        | exact mo1_one mo_l
        | exact mo1_one sb_T_Q
        | exact mo1_one (mo1_one sb_T_s)
        | exact mo1_one (mo1_one sb_id)
        | exact fun k j h => sb_T_Q k j (mo_l k j h)
        | exact fun k j h => mo_l k j (mo_l k j h)
        | exact fun k j h => sb_T_s k j (mo_l k j h)
        | ((with_reducible refine (?_ : am_AW _ _ _ _ _ 48 _ _ _)); refine ih _ _ _  ?_ ?_ ?_ ?_ ?_ ?_ ?_)
        | refine And.intro (fun h => absurd h (by decide)) (fun _ => ?_)
        | refine And.intro (fun _ => ?_) (fun h => absurd (by decide) h)
        | refine And.intro (fun _ => ?_) (fun _ => ?_)
        | refine And.intro ?_ ?_
      all_goals (first | (with_reducible assumption) | decide | omega | assumption | rfl | (simp only [am_c] at * <;> omega) | (simp only [am_c, am_up] at * <;> omega) | (simp [am_c, am_up] at * <;> omega))
  have lp48' : ∀ (w x i : Int) , 1 ≤ i → i ≤ 100 → 0 ≤ am_c a → am_c a < 4 → 0 ≤ am_c b → am_c b < 4 → am_AW l 0 (fun _ => 0) 216 Q 48 [some (.inr (.inr 83)), some (.inl a), some (.inl b), some (.inl c), some (.inl w), some (.inl x), some (.inl i)] [] ν := fun w x i  hv0 hv1 hv2 hv3 hv4 hv5 => lp48 ((100 - i) + 1).toNat w x i  hv0 hv1 hv2 hv3 hv4 hv5 (by omega)
  refine am_go (ct := fun pc => Nat.beq pc 48) am_oX7_bags 300 ?_
  conv => whnf
  repeat' first
    | (refine (?_ : am_wp _ _ _ _ _ _ _ _ _ _ _ _); conv => whnf)
    | (refine (?_ : am_sw _ _ _ _); conv => whnf)
    | refine And.intro trivial ?_
    | exact trivial
    | (with_reducible assumption)
    | ((with_reducible refine (?_ : _ ∧ _)); first | (with_reducible first | refine am_jn am_q1 ?_ | refine am_jn am_q2 ?_ | refine am_jn am_q3 ?_ | refine am_jn am_q4 ?_ | refine am_jn am_q6 ?_ | refine am_jn am_q9 ?_ | refine am_jn am_p1 ?_ | refine am_jy am_p0 ?_ | refine am_kn am_q1 ?_ | refine am_kn am_q2 ?_ | refine am_kn am_q3 ?_ | refine am_kn am_q4 ?_ | refine am_kn am_q6 ?_ | refine am_kn am_q9 ?_ | refine am_kn am_p1 ?_ | refine am_ky am_p0 ?_) | refine And.intro (fun h => absurd h (by decide)) (fun _ => ?_) | refine And.intro (fun _ => ?_) (fun h => absurd (by decide) h) | refine And.intro (fun _ => ?_) (fun _ => ?_) | refine And.intro ?_ ?_)
    | refine k _ _ ?_
    | ((with_reducible refine (?_ : am_Does _ 147 _ _ _)); refine m_areTwo _ _ ?_ (fun _ _ _ _ _ => ?_) ?_)
    | ((with_reducible refine (?_ : am_Does _ 143 _ _ _)); refine m_isIn _ _ _ (fun _ _ => ?_) (fun _ => ?_))
    | ((with_reducible refine (?_ : am_Does _ 140 _ _ _)); refine m_no _ (gm_rf (by repeat' first | assumption | exact gm_i (by assumption) | exact md_i (by assumption) | refine mi_up ?_ rfl | refine mi_100 ?_ ?_ ?_ | (simp only [am_c] at * <;> omega))) ?_ ?_ (fun _ _ _ _ => ?_))
    | ((with_reducible refine (?_ : am_Does _ 215 _ _ _)); refine m_bagsFar _ _ _ ?_ ?_ ?_ ?_ ?_ (fun _ => ?_))
    | exact gm_rf hS
    | refine gm_up ?_ rfl rfl
    | refine gm_up ?_ mo1_self rfl
    | refine gm_up ?_ mo1_in rfl
    | refine gm_100 ?_ rfl ?_ ?_
    | refine gm_14 ?_ rfl ?_ ?_
    | refine gm_15 ?_ rfl ?_ ?_
    | refine gm_16 ?_ rfl ?_ ?_
    | refine gm_21 ?_ rfl ?_ ?_
    | refine gm_33 ?_ rfl ?_ ?_
    | refine gm_40 ?_ rfl ?_ ?_
    | refine gm_42 ?_ rfl ?_ ?_
    | refine md_up ?_ rfl rfl
    | refine md_tr ?_ (by assumption) ?_
    | refine gm_tr ?_ (by assumption) ?_
    | refine gm_put ?_ ?_ rfl
    | refine mi_up ?_ rfl
    | exact gm_i (by assumption)
    | exact md_i (by assumption)
    | exact sb_id
    | exact sb_T_s
    | exact sb_T_Q
    | exact sb_T_M
    | exact sb_R_M
    | exact sb_L_M
    | exact mo_l
    | exact mo1_sub
    | exact mo1_one sb_T_s
    | exact mo1_one mo_l
    | exact mo1_one sb_T_Q
    | exact mo1_one (mo1_one sb_T_s)
    | exact mo1_one (mo1_one sb_id)
    | exact fun k j h => sb_T_Q k j (mo_l k j h)
    | exact fun k j h => mo_l k j (mo_l k j h)
    | exact fun k j h => sb_T_s k j (mo_l k j h)
    | ((with_reducible refine (?_ : am_AW _ _ _ _ _ 48 _ _ _)); refine lp48' _ _ _  ?_ ?_ ?_ ?_ ?_ ?_)
    | refine And.intro (fun h => absurd h (by decide)) (fun _ => ?_)
    | refine And.intro (fun _ => ?_) (fun h => absurd (by decide) h)
    | refine And.intro (fun _ => ?_) (fun _ => ?_)
    | refine And.intro ?_ ?_
  all_goals (first | (with_reducible assumption) | decide | omega | assumption | rfl | (simp only [am_c] at * <;> omega) | (simp only [am_c, am_up] at * <;> omega) | (simp [am_c, am_up] at * <;> omega))
theorem m_ahead {l : Launch} {ν : am_N} {Q : Option am_V → am_N → Prop} (a b : Int) (hS : mi ν) (ha0 : -2147483648 ≤ a) (ha1 : a ≤ 2147483647) (hb0 : -2147483648 ≤ b) (hb1 : b ≤ 2147483647)  (k : ∀ (r : Int) (μ' : am_N), gm ms ν μ' → Q (some (.inl r)) μ') : am_Does l 217 [.inr (.inr 83), .inl a, .inl b] ν Q := by
  refine am_Does_of (Nat.le_of_ble_eq_true rfl) (Nat.le_of_ble_eq_true rfl) (Nat.le_of_ble_eq_true rfl) ?_
  have hb := mi_all hS
  refine am_go (ct := fun _ => false) am_oX7_ahead 300 ?_
  conv => whnf
  repeat' first
    | (refine (?_ : am_wp _ _ _ _ _ _ _ _ _ _ _ _); conv => whnf)
    | (refine (?_ : am_sw _ _ _ _); conv => whnf)
    | refine And.intro trivial ?_
    | exact trivial
    | (with_reducible assumption)
    | ((with_reducible refine (?_ : _ ∧ _)); first | (with_reducible first | refine am_jn am_q1 ?_ | refine am_jn am_q2 ?_ | refine am_jn am_q3 ?_ | refine am_jn am_q4 ?_ | refine am_jn am_q6 ?_ | refine am_jn am_q9 ?_ | refine am_jn am_p1 ?_ | refine am_jy am_p0 ?_ | refine am_kn am_q1 ?_ | refine am_kn am_q2 ?_ | refine am_kn am_q3 ?_ | refine am_kn am_q4 ?_ | refine am_kn am_q6 ?_ | refine am_kn am_q9 ?_ | refine am_kn am_p1 ?_ | refine am_ky am_p0 ?_) | refine And.intro (fun h => absurd h (by decide)) (fun _ => ?_) | refine And.intro (fun _ => ?_) (fun h => absurd (by decide) h) | refine And.intro (fun _ => ?_) (fun _ => ?_) | refine And.intro ?_ ?_)
    | refine k _ _ ?_
    | ((with_reducible refine (?_ : am_Does _ 147 _ _ _)); refine m_areTwo _ _ ?_ (fun _ _ _ _ _ => ?_) ?_)
    | ((with_reducible refine (?_ : am_Does _ 194 _ _ _)); refine m_aheadOf _ _ ?_ ?_ ?_ ?_ ?_ (fun _ => ?_))
    | ((with_reducible refine (?_ : am_Does _ 140 _ _ _)); refine m_no _ (gm_rf (by repeat' first | assumption | exact gm_i (by assumption) | exact md_i (by assumption) | refine mi_up ?_ rfl | refine mi_100 ?_ ?_ ?_ | (simp only [am_c] at * <;> omega))) ?_ ?_ (fun _ _ _ _ => ?_))
    | exact gm_rf hS
    | refine gm_up ?_ rfl rfl
    | refine gm_up ?_ mo1_self rfl
    | refine gm_up ?_ mo1_in rfl
    | refine gm_100 ?_ rfl ?_ ?_
    | refine gm_14 ?_ rfl ?_ ?_
    | refine gm_15 ?_ rfl ?_ ?_
    | refine gm_16 ?_ rfl ?_ ?_
    | refine gm_21 ?_ rfl ?_ ?_
    | refine gm_33 ?_ rfl ?_ ?_
    | refine gm_40 ?_ rfl ?_ ?_
    | refine gm_42 ?_ rfl ?_ ?_
    | refine md_up ?_ rfl rfl
    | refine md_tr ?_ (by assumption) ?_
    | refine gm_tr ?_ (by assumption) ?_
    | refine gm_put ?_ ?_ rfl
    | refine mi_up ?_ rfl
    | exact gm_i (by assumption)
    | exact md_i (by assumption)
    | exact sb_id
    | exact sb_T_s
    | exact sb_T_Q
    | exact sb_T_M
    | exact sb_R_M
    | exact sb_L_M
    | exact mo_l
    | exact mo1_sub
    | exact mo1_one sb_T_s
    | exact mo1_one mo_l
    | exact mo1_one sb_T_Q
    | exact mo1_one (mo1_one sb_T_s)
    | exact mo1_one (mo1_one sb_id)
    | exact fun k j h => sb_T_Q k j (mo_l k j h)
    | exact fun k j h => mo_l k j (mo_l k j h)
    | exact fun k j h => sb_T_s k j (mo_l k j h)
    | refine And.intro (fun h => absurd h (by decide)) (fun _ => ?_)
    | refine And.intro (fun _ => ?_) (fun h => absurd (by decide) h)
    | refine And.intro (fun _ => ?_) (fun _ => ?_)
    | refine And.intro ?_ ?_
  all_goals (first | (with_reducible assumption) | decide | omega | assumption | rfl | (simp only [am_c] at * <;> omega) | (simp only [am_c, am_up] at * <;> omega) | (simp [am_c, am_up] at * <;> omega))
/-! contracts: the model's public questions, the second half (weak) -/
theorem m_cup {l : Launch} {ν : am_N} {Q : Option am_V → am_N → Prop} (a b c : Int) (hS : mi ν) (ha0 : -2147483648 ≤ a) (ha1 : a ≤ 2147483647) (hb0 : -2147483648 ≤ b) (hb1 : b ≤ 2147483647) (hc0 : -2147483648 ≤ c) (hc1 : c ≤ 2147483647)  (k : ∀ (r : Int) (μ' : am_N), gm ms ν μ' → Q (some (.inr (.inl r))) μ') : am_Does l 220 [.inr (.inr 83), .inl a, .inl b, .inl c] ν Q := by
  refine am_Does_of (Nat.le_of_ble_eq_true rfl) (Nat.le_of_ble_eq_true rfl) (Nat.le_of_ble_eq_true rfl) ?_
  have hb := mi_all hS
  refine am_go (ct := fun _ => false) am_oX7_cup 300 ?_
  conv => whnf
  repeat' first
    | (refine (?_ : am_wp _ _ _ _ _ _ _ _ _ _ _ _); conv => whnf)
    | (refine (?_ : am_sw _ _ _ _); conv => whnf)
    | refine And.intro trivial ?_
    | exact trivial
    | (with_reducible assumption)
    | ((with_reducible refine (?_ : _ ∧ _)); first | (with_reducible first | refine am_jn am_q1 ?_ | refine am_jn am_q2 ?_ | refine am_jn am_q3 ?_ | refine am_jn am_q4 ?_ | refine am_jn am_q6 ?_ | refine am_jn am_q9 ?_ | refine am_jn am_p1 ?_ | refine am_jy am_p0 ?_ | refine am_kn am_q1 ?_ | refine am_kn am_q2 ?_ | refine am_kn am_q3 ?_ | refine am_kn am_q4 ?_ | refine am_kn am_q6 ?_ | refine am_kn am_q9 ?_ | refine am_kn am_p1 ?_ | refine am_ky am_p0 ?_) | refine And.intro (fun h => absurd h (by decide)) (fun _ => ?_) | refine And.intro (fun _ => ?_) (fun h => absurd (by decide) h) | refine And.intro (fun _ => ?_) (fun _ => ?_) | refine And.intro ?_ ?_)
    | refine k _ _ ?_
    | ((with_reducible refine (?_ : am_Does _ 146 _ _ _)); refine m_isRunner _ ?_ (fun _ _ _ => ?_) (fun _ => ?_))
    | ((with_reducible refine (?_ : am_Does _ 143 _ _ _)); refine m_isIn _ _ _ (fun _ _ => ?_) (fun _ => ?_))
    | ((with_reducible refine (?_ : am_Does _ 142 _ _ _)); refine m_lowest _ (gm_rf (by repeat' first | assumption | exact gm_i (by assumption) | exact md_i (by assumption) | refine mi_up ?_ rfl | refine mi_100 ?_ ?_ ?_ | (simp only [am_c] at * <;> omega))) ?_ ?_ (fun _ _ _ => ?_))
    | ((with_reducible refine (?_ : am_Does _ 219 _ _ _)); refine m_cupParts _ _ ?_ ?_ ?_ ?_ ?_ (fun _ => ?_))
    | ((with_reducible refine (?_ : am_Does _ 185 _ _ _)); refine m_partOf _ _ _ ?_ (fun _ => ?_))
    | exact gm_rf hS
    | refine gm_up ?_ rfl rfl
    | refine gm_up ?_ mo1_self rfl
    | refine gm_up ?_ mo1_in rfl
    | refine gm_100 ?_ rfl ?_ ?_
    | refine gm_14 ?_ rfl ?_ ?_
    | refine gm_15 ?_ rfl ?_ ?_
    | refine gm_16 ?_ rfl ?_ ?_
    | refine gm_21 ?_ rfl ?_ ?_
    | refine gm_33 ?_ rfl ?_ ?_
    | refine gm_40 ?_ rfl ?_ ?_
    | refine gm_42 ?_ rfl ?_ ?_
    | refine md_up ?_ rfl rfl
    | refine md_tr ?_ (by assumption) ?_
    | refine gm_tr ?_ (by assumption) ?_
    | refine gm_put ?_ ?_ rfl
    | refine mi_up ?_ rfl
    | exact gm_i (by assumption)
    | exact md_i (by assumption)
    | exact sb_id
    | exact sb_T_s
    | exact sb_T_Q
    | exact sb_T_M
    | exact sb_R_M
    | exact sb_L_M
    | exact mo_l
    | exact mo1_sub
    | exact mo1_one sb_T_s
    | exact mo1_one mo_l
    | exact mo1_one sb_T_Q
    | exact mo1_one (mo1_one sb_T_s)
    | exact mo1_one (mo1_one sb_id)
    | exact fun k j h => sb_T_Q k j (mo_l k j h)
    | exact fun k j h => mo_l k j (mo_l k j h)
    | exact fun k j h => sb_T_s k j (mo_l k j h)
    | refine And.intro (fun h => absurd h (by decide)) (fun _ => ?_)
    | refine And.intro (fun _ => ?_) (fun h => absurd (by decide) h)
    | refine And.intro (fun _ => ?_) (fun _ => ?_)
    | refine And.intro ?_ ?_
  all_goals (first | assumption | decide | exact am_rc (by omega) (by omega) | exact hrc | exact am_c3l (by assumption) (by assumption) | exact am_c3h (by assumption) (by assumption) | (intro h; rw [show (4096 : Int) = 4096 from rfl] at h; revert h; decide) | omega | rfl | (simp only [am_c] at * <;> omega) | (simp only [am_c, am_up] at * <;> omega) | (simp [am_c, am_up] at * <;> omega))
theorem m_bracket {l : Launch} {ν : am_N} {Q : Option am_V → am_N → Prop} (a : Int) (hS : mi ν) (ha0 : -2147483648 ≤ a) (ha1 : a ≤ 2147483647)  (k : ∀ (r : Int) (μ' : am_N), gm ms ν μ' → Q (some (.inl r)) μ') : am_Does l 221 [.inr (.inr 83), .inl a] ν Q := by
  refine am_Does_of (Nat.le_of_ble_eq_true rfl) (Nat.le_of_ble_eq_true rfl) (Nat.le_of_ble_eq_true rfl) ?_
  have hb := mi_all hS
  have lp42 : ∀ (m : Nat) (w x i : Int) , 1 ≤ i → i ≤ 3 → 0 ≤ x → x ≤ 2 → 0 ≤ a → a ≤ 3 → 3 - i < (m : Int) → am_AW l 0 (fun _ => 0) 221 Q 42 [some (.inr (.inr 83)), some (.inl a), some (.inl w), some (.inl x), some (.inl i)] [] ν := by
    intro m
    induction m with
    | zero =>
      intro w x i  hv0 hv1 hv2 hv3 hv4 hv5 hm
      exfalso
      omega
    | succ m ih =>
      intro w x i  hv0 hv1 hv2 hv3 hv4 hv5 hm
      refine am_go (ct := fun pc => Nat.beq pc 42) am_oX7_bracket 300 ?_
      conv => whnf
      repeat' first
        | (refine (?_ : am_wp _ _ _ _ _ _ _ _ _ _ _ _); conv => whnf)
        | (refine (?_ : am_sw _ _ _ _); conv => whnf)
        | refine And.intro trivial ?_
        | exact trivial
        | (with_reducible assumption)
        | ((with_reducible refine (?_ : _ ∧ _)); first | (with_reducible first | refine am_jn am_q1 ?_ | refine am_jn am_q2 ?_ | refine am_jn am_q3 ?_ | refine am_jn am_q4 ?_ | refine am_jn am_q6 ?_ | refine am_jn am_q9 ?_ | refine am_jn am_p1 ?_ | refine am_jy am_p0 ?_ | refine am_kn am_q1 ?_ | refine am_kn am_q2 ?_ | refine am_kn am_q3 ?_ | refine am_kn am_q4 ?_ | refine am_kn am_q6 ?_ | refine am_kn am_q9 ?_ | refine am_kn am_p1 ?_ | refine am_ky am_p0 ?_) | refine And.intro (fun h => absurd h (by decide)) (fun _ => ?_) | refine And.intro (fun _ => ?_) (fun h => absurd (by decide) h) | refine And.intro (fun _ => ?_) (fun _ => ?_) | refine And.intro ?_ ?_)
        | refine k _ _ ?_
        | ((with_reducible refine (?_ : am_Does _ 146 _ _ _)); refine m_isRunner _ ?_ (fun _ _ _ => ?_) (fun _ => ?_))
        | ((with_reducible refine (?_ : am_Does _ 140 _ _ _)); refine m_no _ (gm_rf (by repeat' first | assumption | exact gm_i (by assumption) | exact md_i (by assumption) | refine mi_up ?_ rfl | refine mi_100 ?_ ?_ ?_ | (simp only [am_c] at * <;> omega))) ?_ ?_ (fun _ _ _ _ => ?_))
        | ((with_reducible refine (?_ : am_Does _ 219 _ _ _)); refine m_cupParts _ _ ?_ ?_ ?_ ?_ ?_ (fun _ => ?_))
        | exact gm_rf hS
        | refine gm_up ?_ rfl rfl
        | refine gm_up ?_ mo1_self rfl
        | refine gm_up ?_ mo1_in rfl
        | refine gm_100 ?_ rfl ?_ ?_
        | refine gm_14 ?_ rfl ?_ ?_
        | refine gm_15 ?_ rfl ?_ ?_
        | refine gm_16 ?_ rfl ?_ ?_
        | refine gm_21 ?_ rfl ?_ ?_
        | refine gm_33 ?_ rfl ?_ ?_
        | refine gm_40 ?_ rfl ?_ ?_
        | refine gm_42 ?_ rfl ?_ ?_
        | refine md_up ?_ rfl rfl
        | refine md_tr ?_ (by assumption) ?_
        | refine gm_tr ?_ (by assumption) ?_
        | refine gm_put ?_ ?_ rfl
        | refine mi_up ?_ rfl
        | exact gm_i (by assumption)
        | exact md_i (by assumption)
        | exact sb_id
        | exact sb_T_s
        | exact sb_T_Q
        | exact sb_T_M
        | exact sb_R_M
        | exact sb_L_M
        | exact mo_l
        | exact mo1_sub
        | exact mo1_one sb_T_s
        | exact mo1_one mo_l
        | exact mo1_one sb_T_Q
        | exact mo1_one (mo1_one sb_T_s)
        | exact mo1_one (mo1_one sb_id)
        | exact fun k j h => sb_T_Q k j (mo_l k j h)
        | exact fun k j h => mo_l k j (mo_l k j h)
        | exact fun k j h => sb_T_s k j (mo_l k j h)
        | ((with_reducible refine (?_ : am_AW _ _ _ _ _ 42 _ _ _)); refine ih _ _ _  ?_ ?_ ?_ ?_ ?_ ?_ ?_)
        | refine And.intro (fun h => absurd h (by decide)) (fun _ => ?_)
        | refine And.intro (fun _ => ?_) (fun h => absurd (by decide) h)
        | refine And.intro (fun _ => ?_) (fun _ => ?_)
        | refine And.intro ?_ ?_
      all_goals (first | (with_reducible assumption) | decide | omega | assumption | rfl | (simp only [am_c] at * <;> omega) | (simp only [am_c, am_up] at * <;> omega) | (simp [am_c, am_up] at * <;> omega))
  have lp42' : ∀ (w x i : Int) , 1 ≤ i → i ≤ 3 → 0 ≤ x → x ≤ 2 → 0 ≤ a → a ≤ 3 → am_AW l 0 (fun _ => 0) 221 Q 42 [some (.inr (.inr 83)), some (.inl a), some (.inl w), some (.inl x), some (.inl i)] [] ν := fun w x i  hv0 hv1 hv2 hv3 hv4 hv5 => lp42 ((3 - i) + 1).toNat w x i  hv0 hv1 hv2 hv3 hv4 hv5 (by omega)
  refine am_go (ct := fun pc => Nat.beq pc 42) am_oX7_bracket 300 ?_
  conv => whnf
  repeat' first
    | (refine (?_ : am_wp _ _ _ _ _ _ _ _ _ _ _ _); conv => whnf)
    | (refine (?_ : am_sw _ _ _ _); conv => whnf)
    | refine And.intro trivial ?_
    | exact trivial
    | (with_reducible assumption)
    | ((with_reducible refine (?_ : _ ∧ _)); first | (with_reducible first | refine am_jn am_q1 ?_ | refine am_jn am_q2 ?_ | refine am_jn am_q3 ?_ | refine am_jn am_q4 ?_ | refine am_jn am_q6 ?_ | refine am_jn am_q9 ?_ | refine am_jn am_p1 ?_ | refine am_jy am_p0 ?_ | refine am_kn am_q1 ?_ | refine am_kn am_q2 ?_ | refine am_kn am_q3 ?_ | refine am_kn am_q4 ?_ | refine am_kn am_q6 ?_ | refine am_kn am_q9 ?_ | refine am_kn am_p1 ?_ | refine am_ky am_p0 ?_) | refine And.intro (fun h => absurd h (by decide)) (fun _ => ?_) | refine And.intro (fun _ => ?_) (fun h => absurd (by decide) h) | refine And.intro (fun _ => ?_) (fun _ => ?_) | refine And.intro ?_ ?_)
    | refine k _ _ ?_
    | ((with_reducible refine (?_ : am_Does _ 146 _ _ _)); refine m_isRunner _ ?_ (fun _ _ _ => ?_) (fun _ => ?_))
    | ((with_reducible refine (?_ : am_Does _ 140 _ _ _)); refine m_no _ (gm_rf (by repeat' first | assumption | exact gm_i (by assumption) | exact md_i (by assumption) | refine mi_up ?_ rfl | refine mi_100 ?_ ?_ ?_ | (simp only [am_c] at * <;> omega))) ?_ ?_ (fun _ _ _ _ => ?_))
    | ((with_reducible refine (?_ : am_Does _ 219 _ _ _)); refine m_cupParts _ _ ?_ ?_ ?_ ?_ ?_ (fun _ => ?_))
    | exact gm_rf hS
    | refine gm_up ?_ rfl rfl
    | refine gm_up ?_ mo1_self rfl
    | refine gm_up ?_ mo1_in rfl
    | refine gm_100 ?_ rfl ?_ ?_
    | refine gm_14 ?_ rfl ?_ ?_
    | refine gm_15 ?_ rfl ?_ ?_
    | refine gm_16 ?_ rfl ?_ ?_
    | refine gm_21 ?_ rfl ?_ ?_
    | refine gm_33 ?_ rfl ?_ ?_
    | refine gm_40 ?_ rfl ?_ ?_
    | refine gm_42 ?_ rfl ?_ ?_
    | refine md_up ?_ rfl rfl
    | refine md_tr ?_ (by assumption) ?_
    | refine gm_tr ?_ (by assumption) ?_
    | refine gm_put ?_ ?_ rfl
    | refine mi_up ?_ rfl
    | exact gm_i (by assumption)
    | exact md_i (by assumption)
    | exact sb_id
    | exact sb_T_s
    | exact sb_T_Q
    | exact sb_T_M
    | exact sb_R_M
    | exact sb_L_M
    | exact mo_l
    | exact mo1_sub
    | exact mo1_one sb_T_s
    | exact mo1_one mo_l
    | exact mo1_one sb_T_Q
    | exact mo1_one (mo1_one sb_T_s)
    | exact mo1_one (mo1_one sb_id)
    | exact fun k j h => sb_T_Q k j (mo_l k j h)
    | exact fun k j h => mo_l k j (mo_l k j h)
    | exact fun k j h => sb_T_s k j (mo_l k j h)
    | ((with_reducible refine (?_ : am_AW _ _ _ _ _ 42 _ _ _)); refine lp42' _ _ _  ?_ ?_ ?_ ?_ ?_ ?_)
    | refine And.intro (fun h => absurd h (by decide)) (fun _ => ?_)
    | refine And.intro (fun _ => ?_) (fun h => absurd (by decide) h)
    | refine And.intro (fun _ => ?_) (fun _ => ?_)
    | refine And.intro ?_ ?_
  all_goals (first | (with_reducible assumption) | decide | omega | assumption | rfl | (simp only [am_c] at * <;> omega) | (simp only [am_c, am_up] at * <;> omega) | (simp [am_c, am_up] at * <;> omega))
theorem m_league {l : Launch} {ν : am_N} {Q : Option am_V → am_N → Prop} (a b : Int) (hS : mi ν) (ha0 : -2147483648 ≤ a) (ha1 : a ≤ 2147483647) (hb0 : -2147483648 ≤ b) (hb1 : b ≤ 2147483647)  (k : ∀ (r : Int) (μ' : am_N), gm ms ν μ' → Q (some (.inr (.inl r))) μ') : am_Does l 223 [.inr (.inr 83), .inl a, .inl b] ν Q := by
  refine am_Does_of (Nat.le_of_ble_eq_true rfl) (Nat.le_of_ble_eq_true rfl) (Nat.le_of_ble_eq_true rfl) ?_
  have hb := mi_all hS
  refine am_go (ct := fun _ => false) am_oX7_league 300 ?_
  conv => whnf
  repeat' first
    | (refine (?_ : am_wp _ _ _ _ _ _ _ _ _ _ _ _); conv => whnf)
    | (refine (?_ : am_sw _ _ _ _); conv => whnf)
    | refine And.intro trivial ?_
    | exact trivial
    | (with_reducible assumption)
    | ((with_reducible refine (?_ : _ ∧ _)); first | (with_reducible first | refine am_jn am_q1 ?_ | refine am_jn am_q2 ?_ | refine am_jn am_q3 ?_ | refine am_jn am_q4 ?_ | refine am_jn am_q6 ?_ | refine am_jn am_q9 ?_ | refine am_jn am_p1 ?_ | refine am_jy am_p0 ?_ | refine am_kn am_q1 ?_ | refine am_kn am_q2 ?_ | refine am_kn am_q3 ?_ | refine am_kn am_q4 ?_ | refine am_kn am_q6 ?_ | refine am_kn am_q9 ?_ | refine am_kn am_p1 ?_ | refine am_ky am_p0 ?_) | refine And.intro (fun h => absurd h (by decide)) (fun _ => ?_) | refine And.intro (fun _ => ?_) (fun h => absurd (by decide) h) | refine And.intro (fun _ => ?_) (fun _ => ?_) | refine And.intro ?_ ?_)
    | refine k _ _ ?_
    | ((with_reducible refine (?_ : am_Does _ 146 _ _ _)); refine m_isRunner _ ?_ (fun _ _ _ => ?_) (fun _ => ?_))
    | ((with_reducible refine (?_ : am_Does _ 143 _ _ _)); refine m_isIn _ _ _ (fun _ _ => ?_) (fun _ => ?_))
    | ((with_reducible refine (?_ : am_Does _ 142 _ _ _)); refine m_lowest _ (gm_rf (by repeat' first | assumption | exact gm_i (by assumption) | exact md_i (by assumption) | refine mi_up ?_ rfl | refine mi_100 ?_ ?_ ?_ | (simp only [am_c] at * <;> omega))) ?_ ?_ (fun _ _ _ => ?_))
    | ((with_reducible refine (?_ : am_Does _ 222 _ _ _)); refine m_leaguePoints _ ?_ ?_ ?_ (fun _ => ?_))
    | ((with_reducible refine (?_ : am_Does _ 185 _ _ _)); refine m_partOf _ _ _ ?_ (fun _ => ?_))
    | exact gm_rf hS
    | refine gm_up ?_ rfl rfl
    | refine gm_up ?_ mo1_self rfl
    | refine gm_up ?_ mo1_in rfl
    | refine gm_100 ?_ rfl ?_ ?_
    | refine gm_14 ?_ rfl ?_ ?_
    | refine gm_15 ?_ rfl ?_ ?_
    | refine gm_16 ?_ rfl ?_ ?_
    | refine gm_21 ?_ rfl ?_ ?_
    | refine gm_33 ?_ rfl ?_ ?_
    | refine gm_40 ?_ rfl ?_ ?_
    | refine gm_42 ?_ rfl ?_ ?_
    | refine md_up ?_ rfl rfl
    | refine md_tr ?_ (by assumption) ?_
    | refine gm_tr ?_ (by assumption) ?_
    | refine gm_put ?_ ?_ rfl
    | refine mi_up ?_ rfl
    | exact gm_i (by assumption)
    | exact md_i (by assumption)
    | exact sb_id
    | exact sb_T_s
    | exact sb_T_Q
    | exact sb_T_M
    | exact sb_R_M
    | exact sb_L_M
    | exact mo_l
    | exact mo1_sub
    | exact mo1_one sb_T_s
    | exact mo1_one mo_l
    | exact mo1_one sb_T_Q
    | exact mo1_one (mo1_one sb_T_s)
    | exact mo1_one (mo1_one sb_id)
    | exact fun k j h => sb_T_Q k j (mo_l k j h)
    | exact fun k j h => mo_l k j (mo_l k j h)
    | exact fun k j h => sb_T_s k j (mo_l k j h)
    | refine And.intro (fun h => absurd h (by decide)) (fun _ => ?_)
    | refine And.intro (fun _ => ?_) (fun h => absurd (by decide) h)
    | refine And.intro (fun _ => ?_) (fun _ => ?_)
    | refine And.intro ?_ ?_
  all_goals (first | assumption | decide | exact am_rc (by omega) (by omega) | exact hrc | exact am_c3l (by assumption) (by assumption) | exact am_c3h (by assumption) (by assumption) | (intro h; rw [show (16 : Int) = 16 from rfl] at h; revert h; decide) | omega | rfl | (simp only [am_c] at * <;> omega) | (simp only [am_c, am_up] at * <;> omega) | (simp [am_c, am_up] at * <;> omega))
theorem m_ranks {l : Launch} {ν : am_N} {Q : Option am_V → am_N → Prop}  (hS : mi ν)   (k : ∀ (r : Int) (μ' : am_N), gm ms ν μ' → Q (some (.inl r)) μ') : am_Does l 224 [.inr (.inr 83)] ν Q := by
  refine am_Does_of (Nat.le_of_ble_eq_true rfl) (Nat.le_of_ble_eq_true rfl) (Nat.le_of_ble_eq_true rfl) ?_
  have hb := mi_all hS
  have lp2 : ∀ (m : Nat) (i : Int) (μ : am_N) , gm ms ν μ → 0 ≤ i → i ≤ 4 → 4 - i < (m : Int) → am_AW l 0 (fun _ => 0) 224 Q 2 [some (.inr (.inr 83)), some (.inl i)] [] μ := by
    intro m
    induction m with
    | zero =>
      intro i μ hv0 hv1 hv2 hm
      have hb := mi_all hv0.1
      exfalso
      omega
    | succ m ih =>
      intro i μ hv0 hv1 hv2 hm
      have hb := mi_all hv0.1
      refine am_go (ct := fun pc => Nat.beq pc 2) am_oX7_ranks 300 ?_
      conv => whnf
      repeat' first
        | (refine (?_ : am_wp _ _ _ _ _ _ _ _ _ _ _ _); conv => whnf)
        | (refine (?_ : am_sw _ _ _ _); conv => whnf)
        | refine And.intro trivial ?_
        | exact trivial
        | (with_reducible assumption)
        | ((with_reducible refine (?_ : _ ∧ _)); first | (with_reducible first | refine am_jn am_q1 ?_ | refine am_jn am_q2 ?_ | refine am_jn am_q3 ?_ | refine am_jn am_q4 ?_ | refine am_jn am_q6 ?_ | refine am_jn am_q9 ?_ | refine am_jn am_p1 ?_ | refine am_jy am_p0 ?_ | refine am_kn am_q1 ?_ | refine am_kn am_q2 ?_ | refine am_kn am_q3 ?_ | refine am_kn am_q4 ?_ | refine am_kn am_q6 ?_ | refine am_kn am_q9 ?_ | refine am_kn am_p1 ?_ | refine am_ky am_p0 ?_) | refine And.intro (fun h => absurd h (by decide)) (fun _ => ?_) | refine And.intro (fun _ => ?_) (fun h => absurd (by decide) h) | refine And.intro (fun _ => ?_) (fun _ => ?_) | refine And.intro ?_ ?_)
        | refine k _ _ ?_
        | ((with_reducible refine (?_ : am_Does _ 222 _ _ _)); refine m_leaguePoints _ ?_ ?_ ?_ (fun _ => ?_))
        | ((with_reducible refine (?_ : am_Does _ 165 _ _ _)); refine m_sorts  (gm_rf (by repeat' first | assumption | exact gm_i (by assumption) | exact md_i (by assumption) | refine mi_up ?_ rfl | refine mi_100 ?_ ?_ ?_ | (simp only [am_c] at * <;> omega)))  (fun _ _ _ _ _ => ?_))
        | ((with_reducible refine (?_ : am_Does _ 178 _ _ _)); refine m_digits  ?_  (fun _ => ?_))
        | exact gm_rf hS
        | refine gm_up ?_ rfl rfl
        | refine gm_up ?_ mo1_self rfl
        | refine gm_up ?_ mo1_in rfl
        | refine gm_100 ?_ rfl ?_ ?_
        | refine gm_14 ?_ rfl ?_ ?_
        | refine gm_15 ?_ rfl ?_ ?_
        | refine gm_16 ?_ rfl ?_ ?_
        | refine gm_21 ?_ rfl ?_ ?_
        | refine gm_33 ?_ rfl ?_ ?_
        | refine gm_40 ?_ rfl ?_ ?_
        | refine gm_42 ?_ rfl ?_ ?_
        | refine md_up ?_ rfl rfl
        | refine md_tr ?_ (by assumption) ?_
        | refine gm_tr ?_ (by assumption) ?_
        | refine gm_put ?_ ?_ rfl
        | refine mi_up ?_ rfl
        | exact gm_i (by assumption)
        | exact md_i (by assumption)
        | exact sb_id
        | exact sb_T_s
        | exact sb_T_Q
        | exact sb_T_M
        | exact sb_R_M
        | exact sb_L_M
        | exact mo_l
        | exact mo1_sub
        | exact mo1_one sb_T_s
        | exact mo1_one mo_l
        | exact mo1_one sb_T_Q
        | exact mo1_one (mo1_one sb_T_s)
        | exact mo1_one (mo1_one sb_id)
        | exact fun k j h => sb_T_Q k j (mo_l k j h)
        | exact fun k j h => mo_l k j (mo_l k j h)
        | exact fun k j h => sb_T_s k j (mo_l k j h)
        | ((with_reducible refine (?_ : am_AW _ _ _ _ _ 2 _ _ _)); refine ih _ _ ?_ ?_ ?_ ?_)
        | refine And.intro (fun h => absurd h (by decide)) (fun _ => ?_)
        | refine And.intro (fun _ => ?_) (fun h => absurd (by decide) h)
        | refine And.intro (fun _ => ?_) (fun _ => ?_)
        | refine And.intro ?_ ?_
      all_goals (first | (with_reducible assumption) | decide | omega | assumption | rfl | (simp only [am_c] at * <;> omega) | (simp only [am_c, am_up] at * <;> omega) | (simp [am_c, am_up] at * <;> omega))
  have lp2' : ∀ (i : Int) (μ : am_N) , gm ms ν μ → 0 ≤ i → i ≤ 4 → am_AW l 0 (fun _ => 0) 224 Q 2 [some (.inr (.inr 83)), some (.inl i)] [] μ := fun i μ hv0 hv1 hv2 => lp2 ((4 - i) + 1).toNat i μ hv0 hv1 hv2 (by omega)
  refine am_go (ct := fun pc => Nat.beq pc 2) am_oX7_ranks 300 ?_
  conv => whnf
  repeat' first
    | (refine (?_ : am_wp _ _ _ _ _ _ _ _ _ _ _ _); conv => whnf)
    | (refine (?_ : am_sw _ _ _ _); conv => whnf)
    | refine And.intro trivial ?_
    | exact trivial
    | (with_reducible assumption)
    | ((with_reducible refine (?_ : _ ∧ _)); first | (with_reducible first | refine am_jn am_q1 ?_ | refine am_jn am_q2 ?_ | refine am_jn am_q3 ?_ | refine am_jn am_q4 ?_ | refine am_jn am_q6 ?_ | refine am_jn am_q9 ?_ | refine am_jn am_p1 ?_ | refine am_jy am_p0 ?_ | refine am_kn am_q1 ?_ | refine am_kn am_q2 ?_ | refine am_kn am_q3 ?_ | refine am_kn am_q4 ?_ | refine am_kn am_q6 ?_ | refine am_kn am_q9 ?_ | refine am_kn am_p1 ?_ | refine am_ky am_p0 ?_) | refine And.intro (fun h => absurd h (by decide)) (fun _ => ?_) | refine And.intro (fun _ => ?_) (fun h => absurd (by decide) h) | refine And.intro (fun _ => ?_) (fun _ => ?_) | refine And.intro ?_ ?_)
    | refine k _ _ ?_
    | ((with_reducible refine (?_ : am_Does _ 222 _ _ _)); refine m_leaguePoints _ ?_ ?_ ?_ (fun _ => ?_))
    | ((with_reducible refine (?_ : am_Does _ 165 _ _ _)); refine m_sorts  (gm_rf (by repeat' first | assumption | exact gm_i (by assumption) | exact md_i (by assumption) | refine mi_up ?_ rfl | refine mi_100 ?_ ?_ ?_ | (simp only [am_c] at * <;> omega)))  (fun _ _ _ _ _ => ?_))
    | ((with_reducible refine (?_ : am_Does _ 178 _ _ _)); refine m_digits  ?_  (fun _ => ?_))
    | exact gm_rf hS
    | refine gm_up ?_ rfl rfl
    | refine gm_up ?_ mo1_self rfl
    | refine gm_up ?_ mo1_in rfl
    | refine gm_100 ?_ rfl ?_ ?_
    | refine gm_14 ?_ rfl ?_ ?_
    | refine gm_15 ?_ rfl ?_ ?_
    | refine gm_16 ?_ rfl ?_ ?_
    | refine gm_21 ?_ rfl ?_ ?_
    | refine gm_33 ?_ rfl ?_ ?_
    | refine gm_40 ?_ rfl ?_ ?_
    | refine gm_42 ?_ rfl ?_ ?_
    | refine md_up ?_ rfl rfl
    | refine md_tr ?_ (by assumption) ?_
    | refine gm_tr ?_ (by assumption) ?_
    | refine gm_put ?_ ?_ rfl
    | refine mi_up ?_ rfl
    | exact gm_i (by assumption)
    | exact md_i (by assumption)
    | exact sb_id
    | exact sb_T_s
    | exact sb_T_Q
    | exact sb_T_M
    | exact sb_R_M
    | exact sb_L_M
    | exact mo_l
    | exact mo1_sub
    | exact mo1_one sb_T_s
    | exact mo1_one mo_l
    | exact mo1_one sb_T_Q
    | exact mo1_one (mo1_one sb_T_s)
    | exact mo1_one (mo1_one sb_id)
    | exact fun k j h => sb_T_Q k j (mo_l k j h)
    | exact fun k j h => mo_l k j (mo_l k j h)
    | exact fun k j h => sb_T_s k j (mo_l k j h)
    | ((with_reducible refine (?_ : am_AW _ _ _ _ _ 2 _ _ _)); refine lp2' _ _ ?_ ?_ ?_)
    | refine And.intro (fun h => absurd h (by decide)) (fun _ => ?_)
    | refine And.intro (fun _ => ?_) (fun h => absurd (by decide) h)
    | refine And.intro (fun _ => ?_) (fun _ => ?_)
    | refine And.intro ?_ ?_
  all_goals (first | (with_reducible assumption) | decide | omega | assumption | rfl | (simp only [am_c] at * <;> omega) | (simp only [am_c, am_up] at * <;> omega) | (simp [am_c, am_up] at * <;> omega))
theorem m_worthOfPair {l : Launch} {ν : am_N} {Q : Option am_V → am_N → Prop} (a b p : Int) (hS : mi ν)  (ha0 : 0 ≤ am_c a) (ha1 : am_c a < 4) (hb0 : 0 ≤ am_c b) (hb1 : am_c b < 4) (k : ∀ (r : Int) (μ' : am_N), gm ms ν μ' → Q (some (.inl r)) μ') : am_Does l 225 [.inr (.inr 83), .inl a, .inl b, .inl p] ν Q := by
  refine am_Does_of (Nat.le_of_ble_eq_true rfl) (Nat.le_of_ble_eq_true rfl) (Nat.le_of_ble_eq_true rfl) ?_
  have hb := mi_all hS
  have lp206 : ∀ (t u v z f g x y : Int) (μ : am_N), gm (mo1 (mo1 ms 89 (am_c g).toNat) 89 (am_c f).toNat) ν μ → 0 ≤ am_c f → am_c f < 4 → 0 ≤ am_c g → am_c g < 4 → x = ν 89 (am_c f).toNat → y = ν 89 (am_c g).toNat → am_AW l 0 (fun _ => 0) 225 Q 206 [some (.inr (.inr 83)), some (.inl a), some (.inl b), some (.inl p), some (.inl t), some (.inl u), some (.inl v), some (.inl z), some (.inl f), some (.inl g), some (.inl x), some (.inl y)] [] μ := by
    intro t u v z f g x y μ hv0 hv1 hv2 hv3 hv4 hv5 hv6
    have hb := mi_all hv0.1
    have e11 : μ 83 11 = ν 83 11 := hv0.2 83 11 rfl
    refine am_go (ct := fun pc => Nat.beq pc 206 || Nat.beq pc 110 || Nat.beq pc 60 || Nat.beq pc 23) am_oX7_worthOfPair 300 ?_
    conv => whnf
    repeat' first
      | (refine (?_ : am_wp _ _ _ _ _ _ _ _ _ _ _ _); conv => whnf)
      | (refine (?_ : am_sw _ _ _ _); conv => whnf)
      | refine And.intro trivial ?_
      | exact trivial
      | (with_reducible assumption)
      | ((with_reducible refine (?_ : _ ∧ _)); first | (with_reducible first | refine am_jn am_q1 ?_ | refine am_jn am_q2 ?_ | refine am_jn am_q3 ?_ | refine am_jn am_q4 ?_ | refine am_jn am_q6 ?_ | refine am_jn am_q9 ?_ | refine am_jn am_p1 ?_ | refine am_jy am_p0 ?_ | refine am_kn am_q1 ?_ | refine am_kn am_q2 ?_ | refine am_kn am_q3 ?_ | refine am_kn am_q4 ?_ | refine am_kn am_q6 ?_ | refine am_kn am_q9 ?_ | refine am_kn am_p1 ?_ | refine am_ky am_p0 ?_) | refine And.intro (fun h => absurd h (by decide)) (fun _ => ?_) | refine And.intro (fun _ => ?_) (fun h => absurd (by decide) h) | refine And.intro (fun _ => ?_) (fun _ => ?_) | refine And.intro ?_ ?_)
      | refine k _ _ ?_
      | ((with_reducible refine (?_ : am_Does _ 164 _ _ _)); refine m_timeOf _ ?_ ?_ ?_ (fun _ => ?_))
      | ((with_reducible refine (?_ : am_Does _ 193 _ _ _)); refine m_aheadBy _ _ _ _ ?_ ?_ ?_ ?_ ?_ (fun _ => ?_))
      | ((with_reducible refine (?_ : am_Does _ 170 _ _ _)); refine m_held _   (fun _ => ?_))
      | ((with_reducible refine (?_ : am_Does _ 194 _ _ _)); refine m_aheadOf _ _ ?_ ?_ ?_ ?_ ?_ (fun _ => ?_))
      | exact gm_rf hS
      | refine gm_up ?_ rfl rfl
      | refine gm_up ?_ mo1_self rfl
      | refine gm_up ?_ mo1_in rfl
      | refine gm_100 ?_ rfl ?_ ?_
      | refine gm_14 ?_ rfl ?_ ?_
      | refine gm_15 ?_ rfl ?_ ?_
      | refine gm_16 ?_ rfl ?_ ?_
      | refine gm_21 ?_ rfl ?_ ?_
      | refine gm_33 ?_ rfl ?_ ?_
      | refine gm_40 ?_ rfl ?_ ?_
      | refine gm_42 ?_ rfl ?_ ?_
      | refine md_up ?_ rfl rfl
      | refine md_tr ?_ (by assumption) ?_
      | refine gm_tr ?_ (by assumption) ?_
      | refine gm_put ?_ ?_ rfl
      | refine mi_up ?_ rfl
      | exact gm_i (by assumption)
      | exact md_i (by assumption)
      | exact sb_id
      | exact sb_T_s
      | exact sb_T_Q
      | exact sb_T_M
      | exact sb_R_M
      | exact sb_L_M
      | exact mo_l
      | exact mo1_sub
      | exact mo1_one sb_T_s
      | exact mo1_one mo_l
      | exact mo1_one sb_T_Q
      | exact mo1_one (mo1_one sb_T_s)
      | exact mo1_one (mo1_one sb_id)
      | exact fun k j h => sb_T_Q k j (mo_l k j h)
      | exact fun k j h => mo_l k j (mo_l k j h)
      | exact fun k j h => sb_T_s k j (mo_l k j h)
      | refine And.intro (fun h => absurd h (by decide)) (fun _ => ?_)
      | refine And.intro (fun _ => ?_) (fun h => absurd (by decide) h)
      | refine And.intro (fun _ => ?_) (fun _ => ?_)
      | refine And.intro ?_ ?_
    all_goals (first | (with_reducible assumption) | decide | omega | assumption | rfl | (simp only [am_c] at * <;> omega) | (simp only [am_c, am_up] at * <;> omega) | (simp [am_c, am_up] at * <;> omega))
  have lp110 : ∀ (t u v z f g : Int), 0 ≤ am_c f → am_c f < 4 → 0 ≤ am_c g → am_c g < 4 → am_AW l 0 (fun _ => 0) 225 Q 110 [some (.inr (.inr 83)), some (.inl a), some (.inl b), some (.inl p), some (.inl t), some (.inl u), some (.inl v), some (.inl z), some (.inl f), some (.inl g), none, none] [] ν := by
    intro t u v z f g  hv0 hv1 hv2 hv3
    refine am_go (ct := fun pc => Nat.beq pc 206 || Nat.beq pc 110 || Nat.beq pc 60 || Nat.beq pc 23) am_oX7_worthOfPair 300 ?_
    conv => whnf
    repeat' first
      | (refine (?_ : am_wp _ _ _ _ _ _ _ _ _ _ _ _); conv => whnf)
      | (refine (?_ : am_sw _ _ _ _); conv => whnf)
      | refine And.intro trivial ?_
      | exact trivial
      | (with_reducible assumption)
      | ((with_reducible refine (?_ : _ ∧ _)); first | (with_reducible first | refine am_jn am_q1 ?_ | refine am_jn am_q2 ?_ | refine am_jn am_q3 ?_ | refine am_jn am_q4 ?_ | refine am_jn am_q6 ?_ | refine am_jn am_q9 ?_ | refine am_jn am_p1 ?_ | refine am_jy am_p0 ?_ | refine am_kn am_q1 ?_ | refine am_kn am_q2 ?_ | refine am_kn am_q3 ?_ | refine am_kn am_q4 ?_ | refine am_kn am_q6 ?_ | refine am_kn am_q9 ?_ | refine am_kn am_p1 ?_ | refine am_ky am_p0 ?_) | refine And.intro (fun h => absurd h (by decide)) (fun _ => ?_) | refine And.intro (fun _ => ?_) (fun h => absurd (by decide) h) | refine And.intro (fun _ => ?_) (fun _ => ?_) | refine And.intro ?_ ?_)
      | refine k _ _ ?_
      | ((with_reducible refine (?_ : am_Does _ 164 _ _ _)); refine m_timeOf _ ?_ ?_ ?_ (fun _ => ?_))
      | ((with_reducible refine (?_ : am_Does _ 193 _ _ _)); refine m_aheadBy _ _ _ _ ?_ ?_ ?_ ?_ ?_ (fun _ => ?_))
      | ((with_reducible refine (?_ : am_Does _ 170 _ _ _)); refine m_held _   (fun _ => ?_))
      | ((with_reducible refine (?_ : am_Does _ 194 _ _ _)); refine m_aheadOf _ _ ?_ ?_ ?_ ?_ ?_ (fun _ => ?_))
      | exact gm_rf hS
      | refine gm_up ?_ rfl rfl
      | refine gm_up ?_ mo1_self rfl
      | refine gm_up ?_ mo1_in rfl
      | refine gm_100 ?_ rfl ?_ ?_
      | refine gm_14 ?_ rfl ?_ ?_
      | refine gm_15 ?_ rfl ?_ ?_
      | refine gm_16 ?_ rfl ?_ ?_
      | refine gm_21 ?_ rfl ?_ ?_
      | refine gm_33 ?_ rfl ?_ ?_
      | refine gm_40 ?_ rfl ?_ ?_
      | refine gm_42 ?_ rfl ?_ ?_
      | refine md_up ?_ rfl rfl
      | refine md_tr ?_ (by assumption) ?_
      | refine gm_tr ?_ (by assumption) ?_
      | refine gm_put ?_ ?_ rfl
      | refine mi_up ?_ rfl
      | exact gm_i (by assumption)
      | exact md_i (by assumption)
      | exact sb_id
      | exact sb_T_s
      | exact sb_T_Q
      | exact sb_T_M
      | exact sb_R_M
      | exact sb_L_M
      | exact mo_l
      | exact mo1_sub
      | exact mo1_one sb_T_s
      | exact mo1_one mo_l
      | exact mo1_one sb_T_Q
      | exact mo1_one (mo1_one sb_T_s)
      | exact mo1_one (mo1_one sb_id)
      | exact fun k j h => sb_T_Q k j (mo_l k j h)
      | exact fun k j h => mo_l k j (mo_l k j h)
      | exact fun k j h => sb_T_s k j (mo_l k j h)
      | ((with_reducible refine (?_ : am_AW _ _ _ _ _ 206 _ _ _)); refine lp206 _ _ _ _ _ _ _ _ _ ?_ ?_ ?_ ?_ ?_ ?_ ?_)
      | refine And.intro (fun h => absurd h (by decide)) (fun _ => ?_)
      | refine And.intro (fun _ => ?_) (fun h => absurd (by decide) h)
      | refine And.intro (fun _ => ?_) (fun _ => ?_)
      | refine And.intro ?_ ?_
    all_goals (first | (with_reducible assumption) | decide | omega | assumption | rfl | (simp only [am_c] at * <;> omega) | (simp only [am_c, am_up] at * <;> omega) | (simp [am_c, am_up] at * <;> omega))
  have lp60 : ∀ (t u v : Int), am_AW l 0 (fun _ => 0) 225 Q 60 [some (.inr (.inr 83)), some (.inl a), some (.inl b), some (.inl p), some (.inl t), some (.inl u), some (.inl v), none, none, none, none, none] [] ν := by
    intro t u v  
    refine am_go (ct := fun pc => Nat.beq pc 206 || Nat.beq pc 110 || Nat.beq pc 60 || Nat.beq pc 23) am_oX7_worthOfPair 300 ?_
    conv => whnf
    repeat' first
      | (refine (?_ : am_wp _ _ _ _ _ _ _ _ _ _ _ _); conv => whnf)
      | (refine (?_ : am_sw _ _ _ _); conv => whnf)
      | refine And.intro trivial ?_
      | exact trivial
      | (with_reducible assumption)
      | ((with_reducible refine (?_ : _ ∧ _)); first | (with_reducible first | refine am_jn am_q1 ?_ | refine am_jn am_q2 ?_ | refine am_jn am_q3 ?_ | refine am_jn am_q4 ?_ | refine am_jn am_q6 ?_ | refine am_jn am_q9 ?_ | refine am_jn am_p1 ?_ | refine am_jy am_p0 ?_ | refine am_kn am_q1 ?_ | refine am_kn am_q2 ?_ | refine am_kn am_q3 ?_ | refine am_kn am_q4 ?_ | refine am_kn am_q6 ?_ | refine am_kn am_q9 ?_ | refine am_kn am_p1 ?_ | refine am_ky am_p0 ?_) | refine And.intro (fun h => absurd h (by decide)) (fun _ => ?_) | refine And.intro (fun _ => ?_) (fun h => absurd (by decide) h) | refine And.intro (fun _ => ?_) (fun _ => ?_) | refine And.intro ?_ ?_)
      | refine k _ _ ?_
      | ((with_reducible refine (?_ : am_Does _ 164 _ _ _)); refine m_timeOf _ ?_ ?_ ?_ (fun _ => ?_))
      | ((with_reducible refine (?_ : am_Does _ 193 _ _ _)); refine m_aheadBy _ _ _ _ ?_ ?_ ?_ ?_ ?_ (fun _ => ?_))
      | ((with_reducible refine (?_ : am_Does _ 170 _ _ _)); refine m_held _   (fun _ => ?_))
      | ((with_reducible refine (?_ : am_Does _ 194 _ _ _)); refine m_aheadOf _ _ ?_ ?_ ?_ ?_ ?_ (fun _ => ?_))
      | exact gm_rf hS
      | refine gm_up ?_ rfl rfl
      | refine gm_up ?_ mo1_self rfl
      | refine gm_up ?_ mo1_in rfl
      | refine gm_100 ?_ rfl ?_ ?_
      | refine gm_14 ?_ rfl ?_ ?_
      | refine gm_15 ?_ rfl ?_ ?_
      | refine gm_16 ?_ rfl ?_ ?_
      | refine gm_21 ?_ rfl ?_ ?_
      | refine gm_33 ?_ rfl ?_ ?_
      | refine gm_40 ?_ rfl ?_ ?_
      | refine gm_42 ?_ rfl ?_ ?_
      | refine md_up ?_ rfl rfl
      | refine md_tr ?_ (by assumption) ?_
      | refine gm_tr ?_ (by assumption) ?_
      | refine gm_put ?_ ?_ rfl
      | refine mi_up ?_ rfl
      | exact gm_i (by assumption)
      | exact md_i (by assumption)
      | exact sb_id
      | exact sb_T_s
      | exact sb_T_Q
      | exact sb_T_M
      | exact sb_R_M
      | exact sb_L_M
      | exact mo_l
      | exact mo1_sub
      | exact mo1_one sb_T_s
      | exact mo1_one mo_l
      | exact mo1_one sb_T_Q
      | exact mo1_one (mo1_one sb_T_s)
      | exact mo1_one (mo1_one sb_id)
      | exact fun k j h => sb_T_Q k j (mo_l k j h)
      | exact fun k j h => mo_l k j (mo_l k j h)
      | exact fun k j h => sb_T_s k j (mo_l k j h)
      | ((with_reducible refine (?_ : am_AW _ _ _ _ _ 110 _ _ _)); refine lp110 _ _ _ _ _ _  ?_ ?_ ?_ ?_)
      | ((with_reducible refine (?_ : am_AW _ _ _ _ _ 206 _ _ _)); refine lp206 _ _ _ _ _ _ _ _ _ ?_ ?_ ?_ ?_ ?_ ?_ ?_)
      | refine And.intro (fun h => absurd h (by decide)) (fun _ => ?_)
      | refine And.intro (fun _ => ?_) (fun h => absurd (by decide) h)
      | refine And.intro (fun _ => ?_) (fun _ => ?_)
      | refine And.intro ?_ ?_
    all_goals (first | (with_reducible assumption) | decide | omega | assumption | rfl | (simp only [am_c] at * <;> omega) | (simp only [am_c, am_up] at * <;> omega) | (simp [am_c, am_up] at * <;> omega))
  have lp23 : ∀ (t : Int), am_AW l 0 (fun _ => 0) 225 Q 23 [some (.inr (.inr 83)), some (.inl a), some (.inl b), some (.inl p), some (.inl t), none, none, none, none, none, none, none] [] ν := by
    intro t  
    refine am_go (ct := fun pc => Nat.beq pc 206 || Nat.beq pc 110 || Nat.beq pc 60 || Nat.beq pc 23) am_oX7_worthOfPair 300 ?_
    conv => whnf
    repeat' first
      | (refine (?_ : am_wp _ _ _ _ _ _ _ _ _ _ _ _); conv => whnf)
      | (refine (?_ : am_sw _ _ _ _); conv => whnf)
      | refine And.intro trivial ?_
      | exact trivial
      | (with_reducible assumption)
      | ((with_reducible refine (?_ : _ ∧ _)); first | (with_reducible first | refine am_jn am_q1 ?_ | refine am_jn am_q2 ?_ | refine am_jn am_q3 ?_ | refine am_jn am_q4 ?_ | refine am_jn am_q6 ?_ | refine am_jn am_q9 ?_ | refine am_jn am_p1 ?_ | refine am_jy am_p0 ?_ | refine am_kn am_q1 ?_ | refine am_kn am_q2 ?_ | refine am_kn am_q3 ?_ | refine am_kn am_q4 ?_ | refine am_kn am_q6 ?_ | refine am_kn am_q9 ?_ | refine am_kn am_p1 ?_ | refine am_ky am_p0 ?_) | refine And.intro (fun h => absurd h (by decide)) (fun _ => ?_) | refine And.intro (fun _ => ?_) (fun h => absurd (by decide) h) | refine And.intro (fun _ => ?_) (fun _ => ?_) | refine And.intro ?_ ?_)
      | refine k _ _ ?_
      | ((with_reducible refine (?_ : am_Does _ 164 _ _ _)); refine m_timeOf _ ?_ ?_ ?_ (fun _ => ?_))
      | ((with_reducible refine (?_ : am_Does _ 193 _ _ _)); refine m_aheadBy _ _ _ _ ?_ ?_ ?_ ?_ ?_ (fun _ => ?_))
      | ((with_reducible refine (?_ : am_Does _ 170 _ _ _)); refine m_held _   (fun _ => ?_))
      | ((with_reducible refine (?_ : am_Does _ 194 _ _ _)); refine m_aheadOf _ _ ?_ ?_ ?_ ?_ ?_ (fun _ => ?_))
      | exact gm_rf hS
      | refine gm_up ?_ rfl rfl
      | refine gm_up ?_ mo1_self rfl
      | refine gm_up ?_ mo1_in rfl
      | refine gm_100 ?_ rfl ?_ ?_
      | refine gm_14 ?_ rfl ?_ ?_
      | refine gm_15 ?_ rfl ?_ ?_
      | refine gm_16 ?_ rfl ?_ ?_
      | refine gm_21 ?_ rfl ?_ ?_
      | refine gm_33 ?_ rfl ?_ ?_
      | refine gm_40 ?_ rfl ?_ ?_
      | refine gm_42 ?_ rfl ?_ ?_
      | refine md_up ?_ rfl rfl
      | refine md_tr ?_ (by assumption) ?_
      | refine gm_tr ?_ (by assumption) ?_
      | refine gm_put ?_ ?_ rfl
      | refine mi_up ?_ rfl
      | exact gm_i (by assumption)
      | exact md_i (by assumption)
      | exact sb_id
      | exact sb_T_s
      | exact sb_T_Q
      | exact sb_T_M
      | exact sb_R_M
      | exact sb_L_M
      | exact mo_l
      | exact mo1_sub
      | exact mo1_one sb_T_s
      | exact mo1_one mo_l
      | exact mo1_one sb_T_Q
      | exact mo1_one (mo1_one sb_T_s)
      | exact mo1_one (mo1_one sb_id)
      | exact fun k j h => sb_T_Q k j (mo_l k j h)
      | exact fun k j h => mo_l k j (mo_l k j h)
      | exact fun k j h => sb_T_s k j (mo_l k j h)
      | ((with_reducible refine (?_ : am_AW _ _ _ _ _ 60 _ _ _)); refine lp60 _ _ _  )
      | ((with_reducible refine (?_ : am_AW _ _ _ _ _ 110 _ _ _)); refine lp110 _ _ _ _ _ _  ?_ ?_ ?_ ?_)
      | ((with_reducible refine (?_ : am_AW _ _ _ _ _ 206 _ _ _)); refine lp206 _ _ _ _ _ _ _ _ _ ?_ ?_ ?_ ?_ ?_ ?_ ?_)
      | refine And.intro (fun h => absurd h (by decide)) (fun _ => ?_)
      | refine And.intro (fun _ => ?_) (fun h => absurd (by decide) h)
      | refine And.intro (fun _ => ?_) (fun _ => ?_)
      | refine And.intro ?_ ?_
    all_goals (first | (with_reducible assumption) | decide | omega | assumption | rfl | (simp only [am_c] at * <;> omega) | (simp only [am_c, am_up] at * <;> omega) | (simp [am_c, am_up] at * <;> omega))
  refine am_go (ct := fun pc => Nat.beq pc 206 || Nat.beq pc 110 || Nat.beq pc 60 || Nat.beq pc 23) am_oX7_worthOfPair 300 ?_
  conv => whnf
  repeat' first
    | (refine (?_ : am_wp _ _ _ _ _ _ _ _ _ _ _ _); conv => whnf)
    | (refine (?_ : am_sw _ _ _ _); conv => whnf)
    | refine And.intro trivial ?_
    | exact trivial
    | (with_reducible assumption)
    | ((with_reducible refine (?_ : _ ∧ _)); first | (with_reducible first | refine am_jn am_q1 ?_ | refine am_jn am_q2 ?_ | refine am_jn am_q3 ?_ | refine am_jn am_q4 ?_ | refine am_jn am_q6 ?_ | refine am_jn am_q9 ?_ | refine am_jn am_p1 ?_ | refine am_jy am_p0 ?_ | refine am_kn am_q1 ?_ | refine am_kn am_q2 ?_ | refine am_kn am_q3 ?_ | refine am_kn am_q4 ?_ | refine am_kn am_q6 ?_ | refine am_kn am_q9 ?_ | refine am_kn am_p1 ?_ | refine am_ky am_p0 ?_) | refine And.intro (fun h => absurd h (by decide)) (fun _ => ?_) | refine And.intro (fun _ => ?_) (fun h => absurd (by decide) h) | refine And.intro (fun _ => ?_) (fun _ => ?_) | refine And.intro ?_ ?_)
    | refine k _ _ ?_
    | ((with_reducible refine (?_ : am_Does _ 164 _ _ _)); refine m_timeOf _ ?_ ?_ ?_ (fun _ => ?_))
    | ((with_reducible refine (?_ : am_Does _ 193 _ _ _)); refine m_aheadBy _ _ _ _ ?_ ?_ ?_ ?_ ?_ (fun _ => ?_))
    | ((with_reducible refine (?_ : am_Does _ 170 _ _ _)); refine m_held _   (fun _ => ?_))
    | ((with_reducible refine (?_ : am_Does _ 194 _ _ _)); refine m_aheadOf _ _ ?_ ?_ ?_ ?_ ?_ (fun _ => ?_))
    | exact gm_rf hS
    | refine gm_up ?_ rfl rfl
    | refine gm_up ?_ mo1_self rfl
    | refine gm_up ?_ mo1_in rfl
    | refine gm_100 ?_ rfl ?_ ?_
    | refine gm_14 ?_ rfl ?_ ?_
    | refine gm_15 ?_ rfl ?_ ?_
    | refine gm_16 ?_ rfl ?_ ?_
    | refine gm_21 ?_ rfl ?_ ?_
    | refine gm_33 ?_ rfl ?_ ?_
    | refine gm_40 ?_ rfl ?_ ?_
    | refine gm_42 ?_ rfl ?_ ?_
    | refine md_up ?_ rfl rfl
    | refine md_tr ?_ (by assumption) ?_
    | refine gm_tr ?_ (by assumption) ?_
    | refine gm_put ?_ ?_ rfl
    | refine mi_up ?_ rfl
    | exact gm_i (by assumption)
    | exact md_i (by assumption)
    | exact sb_id
    | exact sb_T_s
    | exact sb_T_Q
    | exact sb_T_M
    | exact sb_R_M
    | exact sb_L_M
    | exact mo_l
    | exact mo1_sub
    | exact mo1_one sb_T_s
    | exact mo1_one mo_l
    | exact mo1_one sb_T_Q
    | exact mo1_one (mo1_one sb_T_s)
    | exact mo1_one (mo1_one sb_id)
    | exact fun k j h => sb_T_Q k j (mo_l k j h)
    | exact fun k j h => mo_l k j (mo_l k j h)
    | exact fun k j h => sb_T_s k j (mo_l k j h)
    | ((with_reducible refine (?_ : am_AW _ _ _ _ _ 23 _ _ _)); refine lp23 _  )
    | ((with_reducible refine (?_ : am_AW _ _ _ _ _ 60 _ _ _)); refine lp60 _ _ _  )
    | ((with_reducible refine (?_ : am_AW _ _ _ _ _ 110 _ _ _)); refine lp110 _ _ _ _ _ _  ?_ ?_ ?_ ?_)
    | ((with_reducible refine (?_ : am_AW _ _ _ _ _ 206 _ _ _)); refine lp206 _ _ _ _ _ _ _ _ _ ?_ ?_ ?_ ?_ ?_ ?_ ?_)
    | refine And.intro (fun h => absurd h (by decide)) (fun _ => ?_)
    | refine And.intro (fun _ => ?_) (fun h => absurd (by decide) h)
    | refine And.intro (fun _ => ?_) (fun _ => ?_)
    | refine And.intro ?_ ?_
  all_goals (first | (with_reducible assumption) | decide | omega | assumption | rfl | (simp only [am_c] at * <;> omega) | (simp only [am_c, am_up] at * <;> omega) | (simp [am_c, am_up] at * <;> omega))
/-! contracts: the model's public questions, the second half (weak) -/
theorem m_hold {l : Launch} {ν : am_N} {Q : Option am_V → am_N → Prop} (a b : Int) (hS : mi ν) (ha0 : -2147483648 ≤ a) (ha1 : a ≤ 2147483647) (hb0 : -2147483648 ≤ b) (hb1 : b ≤ 2147483647)  (k : ∀ (r : Int) (μ' : am_N), gm ms ν μ' → Q (some (.inl r)) μ') : am_Does l 226 [.inr (.inr 83), .inl a, .inl b] ν Q := by
  refine am_Does_of (Nat.le_of_ble_eq_true rfl) (Nat.le_of_ble_eq_true rfl) (Nat.le_of_ble_eq_true rfl) ?_
  have hb := mi_all hS
  have lp45 : ∀ (v i : Int) (o5 : Option am_V) (μ : am_N), gm ms ν μ → 0 ≤ i → i ≤ 3 → 0 ≤ am_c a → am_c a < 4 → 0 ≤ am_c b → am_c b < 4 → (∀ (o4 o5 : Option am_V) (μ : am_N), gm ms ν μ → am_AW l 0 (fun _ => 0) 226 Q 17 [some (.inr (.inr 83)), some (.inl a), some (.inl b), some (.inl (i + 1)), o4, o5] [] μ) → am_AW l 0 (fun _ => 0) 226 Q 45 [some (.inr (.inr 83)), some (.inl a), some (.inl b), some (.inl i), some (.inl v), o5] [] μ := by
    intro v i o5 μ hv0 hv1 hv2 hv3 hv4 hv5 hv6 hv7
    have hb := mi_all hv0.1
    have ei9 : am_c i = i := am_cR (by omega) (by omega)
    have e49 : am_c 4 = 4 := rfl
    refine am_go (ct := fun pc => Nat.beq pc 45 || Nat.beq pc 17) am_oX7_hold 300 ?_
    conv => whnf
    repeat' first
      | (refine (?_ : am_wp _ _ _ _ _ _ _ _ _ _ _ _); conv => whnf)
      | (refine (?_ : am_sw _ _ _ _); conv => whnf)
      | refine And.intro trivial ?_
      | exact trivial
      | (with_reducible assumption)
      | refine hv7 _ _ _ ?_
      | ((with_reducible refine (?_ : _ ∧ _)); first | (with_reducible first | refine am_jn am_q1 ?_ | refine am_jn am_q2 ?_ | refine am_jn am_q3 ?_ | refine am_jn am_q4 ?_ | refine am_jn am_q6 ?_ | refine am_jn am_q9 ?_ | refine am_jn am_p1 ?_ | refine am_jy am_p0 ?_ | refine am_kn am_q1 ?_ | refine am_kn am_q2 ?_ | refine am_kn am_q3 ?_ | refine am_kn am_q4 ?_ | refine am_kn am_q6 ?_ | refine am_kn am_q9 ?_ | refine am_kn am_p1 ?_ | refine am_ky am_p0 ?_) | refine And.intro (fun h => absurd h (by decide)) (fun _ => ?_) | refine And.intro (fun _ => ?_) (fun h => absurd (by decide) h) | refine And.intro (fun _ => ?_) (fun _ => ?_) | refine And.intro ?_ ?_)
      | refine k _ _ ?_
      | ((with_reducible refine (?_ : am_Does _ 147 _ _ _)); refine m_areTwo _ _ ?_ (fun _ _ _ _ _ => ?_) ?_)
      | ((with_reducible refine (?_ : am_Does _ 140 _ _ _)); refine m_no _ (gm_rf (by repeat' first | assumption | exact gm_i (by assumption) | exact md_i (by assumption) | refine mi_up ?_ rfl | refine mi_100 ?_ ?_ ?_ | (simp only [am_c] at * <;> omega))) ?_ ?_ (fun _ _ _ _ => ?_))
      | ((with_reducible refine (?_ : am_Does _ 225 _ _ _)); refine m_worthOfPair _ _ _ (by repeat' first | assumption | exact gm_i (by assumption) | exact md_i (by assumption) | refine mi_up ?_ rfl | refine mi_100 ?_ ?_ ?_ | (simp only [am_c] at * <;> omega)) ?_ ?_ ?_ ?_ (fun _ _ _ => ?_))
      | exact gm_rf hS
      | refine gm_up ?_ rfl rfl
      | refine gm_up ?_ mo1_self rfl
      | refine gm_up ?_ mo1_in rfl
      | refine gm_100 ?_ rfl ?_ ?_
      | refine gm_14 ?_ rfl ?_ ?_
      | refine gm_15 ?_ rfl ?_ ?_
      | refine gm_16 ?_ rfl ?_ ?_
      | refine gm_21 ?_ rfl ?_ ?_
      | refine gm_33 ?_ rfl ?_ ?_
      | refine gm_40 ?_ rfl ?_ ?_
      | refine gm_42 ?_ rfl ?_ ?_
      | refine md_up ?_ rfl rfl
      | refine md_tr ?_ (by assumption) ?_
      | refine gm_tr ?_ (by assumption) ?_
      | refine gm_put ?_ ?_ rfl
      | refine mi_up ?_ rfl
      | exact gm_i (by assumption)
      | exact md_i (by assumption)
      | exact sb_id
      | exact sb_T_s
      | exact sb_T_Q
      | exact sb_T_M
      | exact sb_R_M
      | exact sb_L_M
      | exact mo_l
      | exact mo1_sub
      | exact mo1_one sb_T_s
      | exact mo1_one mo_l
      | exact mo1_one sb_T_Q
      | exact mo1_one (mo1_one sb_T_s)
      | exact mo1_one (mo1_one sb_id)
      | exact fun k j h => sb_T_Q k j (mo_l k j h)
      | exact fun k j h => mo_l k j (mo_l k j h)
      | exact fun k j h => sb_T_s k j (mo_l k j h)
      | refine And.intro (fun h => absurd h (by decide)) (fun _ => ?_)
      | refine And.intro (fun _ => ?_) (fun h => absurd (by decide) h)
      | refine And.intro (fun _ => ?_) (fun _ => ?_)
      | refine And.intro ?_ ?_
    all_goals (first | (with_reducible assumption) | decide | omega | assumption | rfl | (simp only [am_c] at * <;> omega) | (simp only [am_c, am_up] at * <;> omega) | (simp [am_c, am_up] at * <;> omega))
  have lp17 : ∀ (m : Nat) (i : Int) (o4 o5 : Option am_V) (μ : am_N) , gm ms ν μ → 0 ≤ i → i ≤ 4 → 0 ≤ am_c a → am_c a < 4 → 0 ≤ am_c b → am_c b < 4 → 4 - i < (m : Int) → am_AW l 0 (fun _ => 0) 226 Q 17 [some (.inr (.inr 83)), some (.inl a), some (.inl b), some (.inl i), o4, o5] [] μ := by
    intro m
    induction m with
    | zero =>
      intro i o4 o5 μ hv0 hv1 hv2 hv3 hv4 hv5 hv6 hm
      have hb := mi_all hv0.1
      exfalso
      omega
    | succ m ih =>
      intro i o4 o5 μ hv0 hv1 hv2 hv3 hv4 hv5 hv6 hm
      have hb := mi_all hv0.1
      have ei9 : am_c i = i := am_cR (by omega) (by omega)
      have e49 : am_c 4 = 4 := rfl
      refine am_go (ct := fun pc => Nat.beq pc 45 || Nat.beq pc 17) am_oX7_hold 300 ?_
      conv => whnf
      repeat' first
        | (refine (?_ : am_wp _ _ _ _ _ _ _ _ _ _ _ _); conv => whnf)
        | (refine (?_ : am_sw _ _ _ _); conv => whnf)
        | refine And.intro trivial ?_
        | exact trivial
        | (with_reducible assumption)
        | (refine fun _ _ _ _ => ih _ _ _ _ ?_ ?_ ?_ ?_ ?_ ?_ ?_ ?_)
        | ((with_reducible refine (?_ : _ ∧ _)); first | (with_reducible first | refine am_jn am_q1 ?_ | refine am_jn am_q2 ?_ | refine am_jn am_q3 ?_ | refine am_jn am_q4 ?_ | refine am_jn am_q6 ?_ | refine am_jn am_q9 ?_ | refine am_jn am_p1 ?_ | refine am_jy am_p0 ?_ | refine am_kn am_q1 ?_ | refine am_kn am_q2 ?_ | refine am_kn am_q3 ?_ | refine am_kn am_q4 ?_ | refine am_kn am_q6 ?_ | refine am_kn am_q9 ?_ | refine am_kn am_p1 ?_ | refine am_ky am_p0 ?_) | refine And.intro (fun h => absurd h (by decide)) (fun _ => ?_) | refine And.intro (fun _ => ?_) (fun h => absurd (by decide) h) | refine And.intro (fun _ => ?_) (fun _ => ?_) | refine And.intro ?_ ?_)
        | refine k _ _ ?_
        | ((with_reducible refine (?_ : am_Does _ 147 _ _ _)); refine m_areTwo _ _ ?_ (fun _ _ _ _ _ => ?_) ?_)
        | ((with_reducible refine (?_ : am_Does _ 140 _ _ _)); refine m_no _ (gm_rf (by repeat' first | assumption | exact gm_i (by assumption) | exact md_i (by assumption) | refine mi_up ?_ rfl | refine mi_100 ?_ ?_ ?_ | (simp only [am_c] at * <;> omega))) ?_ ?_ (fun _ _ _ _ => ?_))
        | ((with_reducible refine (?_ : am_Does _ 225 _ _ _)); refine m_worthOfPair _ _ _ (by repeat' first | assumption | exact gm_i (by assumption) | exact md_i (by assumption) | refine mi_up ?_ rfl | refine mi_100 ?_ ?_ ?_ | (simp only [am_c] at * <;> omega)) ?_ ?_ ?_ ?_ (fun _ _ _ => ?_))
        | exact gm_rf hS
        | refine gm_up ?_ rfl rfl
        | refine gm_up ?_ mo1_self rfl
        | refine gm_up ?_ mo1_in rfl
        | refine gm_100 ?_ rfl ?_ ?_
        | refine gm_14 ?_ rfl ?_ ?_
        | refine gm_15 ?_ rfl ?_ ?_
        | refine gm_16 ?_ rfl ?_ ?_
        | refine gm_21 ?_ rfl ?_ ?_
        | refine gm_33 ?_ rfl ?_ ?_
        | refine gm_40 ?_ rfl ?_ ?_
        | refine gm_42 ?_ rfl ?_ ?_
        | refine md_up ?_ rfl rfl
        | refine md_tr ?_ (by assumption) ?_
        | refine gm_tr ?_ (by assumption) ?_
        | refine gm_put ?_ ?_ rfl
        | refine mi_up ?_ rfl
        | exact gm_i (by assumption)
        | exact md_i (by assumption)
        | exact sb_id
        | exact sb_T_s
        | exact sb_T_Q
        | exact sb_T_M
        | exact sb_R_M
        | exact sb_L_M
        | exact mo_l
        | exact mo1_sub
        | exact mo1_one sb_T_s
        | exact mo1_one mo_l
        | exact mo1_one sb_T_Q
        | exact mo1_one (mo1_one sb_T_s)
        | exact mo1_one (mo1_one sb_id)
        | exact fun k j h => sb_T_Q k j (mo_l k j h)
        | exact fun k j h => mo_l k j (mo_l k j h)
        | exact fun k j h => sb_T_s k j (mo_l k j h)
        | ((with_reducible refine (?_ : am_AW _ _ _ _ _ 17 _ _ _)); refine ih _ _ _ _ ?_ ?_ ?_ ?_ ?_ ?_ ?_ ?_)
        | ((with_reducible refine (?_ : am_AW _ _ _ _ _ 45 _ _ _)); refine lp45 _ _ _ _ ?_ ?_ ?_ ?_ ?_ ?_ ?_ ?_)
        | refine And.intro (fun h => absurd h (by decide)) (fun _ => ?_)
        | refine And.intro (fun _ => ?_) (fun h => absurd (by decide) h)
        | refine And.intro (fun _ => ?_) (fun _ => ?_)
        | refine And.intro ?_ ?_
      all_goals (first | (with_reducible assumption) | decide | omega | assumption | rfl | (simp only [am_c] at * <;> omega) | (simp only [am_c, am_up] at * <;> omega) | (simp [am_c, am_up] at * <;> omega))
  have lp17' : ∀ (i : Int) (o4 o5 : Option am_V) (μ : am_N) , gm ms ν μ → 0 ≤ i → i ≤ 4 → 0 ≤ am_c a → am_c a < 4 → 0 ≤ am_c b → am_c b < 4 → am_AW l 0 (fun _ => 0) 226 Q 17 [some (.inr (.inr 83)), some (.inl a), some (.inl b), some (.inl i), o4, o5] [] μ := fun i o4 o5 μ hv0 hv1 hv2 hv3 hv4 hv5 hv6 => lp17 ((4 - i) + 1).toNat i o4 o5 μ hv0 hv1 hv2 hv3 hv4 hv5 hv6 (by omega)
  refine am_go (ct := fun pc => Nat.beq pc 45 || Nat.beq pc 17) am_oX7_hold 300 ?_
  conv => whnf
  repeat' first
    | (refine (?_ : am_wp _ _ _ _ _ _ _ _ _ _ _ _); conv => whnf)
    | (refine (?_ : am_sw _ _ _ _); conv => whnf)
    | refine And.intro trivial ?_
    | exact trivial
    | (with_reducible assumption)
    | ((with_reducible refine (?_ : _ ∧ _)); first | (with_reducible first | refine am_jn am_q1 ?_ | refine am_jn am_q2 ?_ | refine am_jn am_q3 ?_ | refine am_jn am_q4 ?_ | refine am_jn am_q6 ?_ | refine am_jn am_q9 ?_ | refine am_jn am_p1 ?_ | refine am_jy am_p0 ?_ | refine am_kn am_q1 ?_ | refine am_kn am_q2 ?_ | refine am_kn am_q3 ?_ | refine am_kn am_q4 ?_ | refine am_kn am_q6 ?_ | refine am_kn am_q9 ?_ | refine am_kn am_p1 ?_ | refine am_ky am_p0 ?_) | refine And.intro (fun h => absurd h (by decide)) (fun _ => ?_) | refine And.intro (fun _ => ?_) (fun h => absurd (by decide) h) | refine And.intro (fun _ => ?_) (fun _ => ?_) | refine And.intro ?_ ?_)
    | refine k _ _ ?_
    | ((with_reducible refine (?_ : am_Does _ 147 _ _ _)); refine m_areTwo _ _ ?_ (fun _ _ _ _ _ => ?_) ?_)
    | ((with_reducible refine (?_ : am_Does _ 140 _ _ _)); refine m_no _ (gm_rf (by repeat' first | assumption | exact gm_i (by assumption) | exact md_i (by assumption) | refine mi_up ?_ rfl | refine mi_100 ?_ ?_ ?_ | (simp only [am_c] at * <;> omega))) ?_ ?_ (fun _ _ _ _ => ?_))
    | ((with_reducible refine (?_ : am_Does _ 225 _ _ _)); refine m_worthOfPair _ _ _ (by repeat' first | assumption | exact gm_i (by assumption) | exact md_i (by assumption) | refine mi_up ?_ rfl | refine mi_100 ?_ ?_ ?_ | (simp only [am_c] at * <;> omega)) ?_ ?_ ?_ ?_ (fun _ _ _ => ?_))
    | exact gm_rf hS
    | refine gm_up ?_ rfl rfl
    | refine gm_up ?_ mo1_self rfl
    | refine gm_up ?_ mo1_in rfl
    | refine gm_100 ?_ rfl ?_ ?_
    | refine gm_14 ?_ rfl ?_ ?_
    | refine gm_15 ?_ rfl ?_ ?_
    | refine gm_16 ?_ rfl ?_ ?_
    | refine gm_21 ?_ rfl ?_ ?_
    | refine gm_33 ?_ rfl ?_ ?_
    | refine gm_40 ?_ rfl ?_ ?_
    | refine gm_42 ?_ rfl ?_ ?_
    | refine md_up ?_ rfl rfl
    | refine md_tr ?_ (by assumption) ?_
    | refine gm_tr ?_ (by assumption) ?_
    | refine gm_put ?_ ?_ rfl
    | refine mi_up ?_ rfl
    | exact gm_i (by assumption)
    | exact md_i (by assumption)
    | exact sb_id
    | exact sb_T_s
    | exact sb_T_Q
    | exact sb_T_M
    | exact sb_R_M
    | exact sb_L_M
    | exact mo_l
    | exact mo1_sub
    | exact mo1_one sb_T_s
    | exact mo1_one mo_l
    | exact mo1_one sb_T_Q
    | exact mo1_one (mo1_one sb_T_s)
    | exact mo1_one (mo1_one sb_id)
    | exact fun k j h => sb_T_Q k j (mo_l k j h)
    | exact fun k j h => mo_l k j (mo_l k j h)
    | exact fun k j h => sb_T_s k j (mo_l k j h)
    | ((with_reducible refine (?_ : am_AW _ _ _ _ _ 17 _ _ _)); refine lp17' _ _ _ _ ?_ ?_ ?_ ?_ ?_ ?_ ?_)
    | ((with_reducible refine (?_ : am_AW _ _ _ _ _ 45 _ _ _)); refine lp45 _ _ _ _ ?_ ?_ ?_ ?_ ?_ ?_ ?_ ?_)
    | refine And.intro (fun h => absurd h (by decide)) (fun _ => ?_)
    | refine And.intro (fun _ => ?_) (fun h => absurd (by decide) h)
    | refine And.intro (fun _ => ?_) (fun _ => ?_)
    | refine And.intro ?_ ?_
  all_goals (first | (with_reducible assumption) | decide | omega | assumption | rfl | (simp only [am_c] at * <;> omega) | (simp only [am_c, am_up] at * <;> omega) | (simp [am_c, am_up] at * <;> omega))
/-! contracts: the model's public questions, the second half (weak) -/
theorem m_legs {l : Launch} {ν : am_N} {Q : Option am_V → am_N → Prop} (a b c d : Int) (hS : mi ν) (ha0 : -2147483648 ≤ a) (ha1 : a ≤ 2147483647) (hb0 : -2147483648 ≤ b) (hb1 : b ≤ 2147483647) (hc0 : -2147483648 ≤ c) (hc1 : c ≤ 2147483647) (hd0 : -2147483648 ≤ d) (hd1 : d ≤ 2147483647)  (k : ∀ (r : Int) (μ' : am_N), gm ms ν μ' → Q (some (.inl r)) μ') : am_Does l 228 [.inr (.inr 83), .inl a, .inl b, .inl c, .inl d] ν Q := by
  refine am_Does_of (Nat.le_of_ble_eq_true rfl) (Nat.le_of_ble_eq_true rfl) (Nat.le_of_ble_eq_true rfl) ?_
  have hb := mi_all hS
  refine am_go (ct := fun _ => false) am_oX7_legs 300 ?_
  conv => whnf
  repeat' first
    | (refine (?_ : am_wp _ _ _ _ _ _ _ _ _ _ _ _); conv => whnf)
    | (refine (?_ : am_sw _ _ _ _); conv => whnf)
    | refine And.intro trivial ?_
    | exact trivial
    | (with_reducible assumption)
    | ((with_reducible refine (?_ : _ ∧ _)); first | (with_reducible first | refine am_jn am_q1 ?_ | refine am_jn am_q2 ?_ | refine am_jn am_q3 ?_ | refine am_jn am_q4 ?_ | refine am_jn am_q6 ?_ | refine am_jn am_q9 ?_ | refine am_jn am_p1 ?_ | refine am_jy am_p0 ?_ | refine am_kn am_q1 ?_ | refine am_kn am_q2 ?_ | refine am_kn am_q3 ?_ | refine am_kn am_q4 ?_ | refine am_kn am_q6 ?_ | refine am_kn am_q9 ?_ | refine am_kn am_p1 ?_ | refine am_ky am_p0 ?_) | refine And.intro (fun h => absurd h (by decide)) (fun _ => ?_) | refine And.intro (fun _ => ?_) (fun h => absurd (by decide) h) | refine And.intro (fun _ => ?_) (fun _ => ?_) | refine And.intro ?_ ?_)
    | refine k _ _ ?_
    | ((with_reducible refine (?_ : am_Does _ 147 _ _ _)); refine m_areTwo _ _ ?_ (fun _ _ _ _ _ => ?_) ?_)
    | ((with_reducible refine (?_ : am_Does _ 144 _ _ _)); refine m_bound _ _ _ (fun _ => ?_) (fun _ _ => ?_) (fun _ _ => ?_))
    | ((with_reducible refine (?_ : am_Does _ 143 _ _ _)); refine m_isIn _ _ _ (fun _ _ => ?_) (fun _ => ?_))
    | ((with_reducible refine (?_ : am_Does _ 140 _ _ _)); refine m_no _ (gm_rf (by repeat' first | assumption | exact gm_i (by assumption) | exact md_i (by assumption) | refine mi_up ?_ rfl | refine mi_100 ?_ ?_ ?_ | (simp only [am_c] at * <;> omega))) ?_ ?_ (fun _ _ _ _ => ?_))
    | ((with_reducible refine (?_ : am_Does _ 227 _ _ _)); refine m_legsBy _ _ _ ?_ ?_ ?_ ?_ ?_ (fun _ => ?_))
    | exact gm_rf hS
    | refine gm_up ?_ rfl rfl
    | refine gm_up ?_ mo1_self rfl
    | refine gm_up ?_ mo1_in rfl
    | refine gm_100 ?_ rfl ?_ ?_
    | refine gm_14 ?_ rfl ?_ ?_
    | refine gm_15 ?_ rfl ?_ ?_
    | refine gm_16 ?_ rfl ?_ ?_
    | refine gm_21 ?_ rfl ?_ ?_
    | refine gm_33 ?_ rfl ?_ ?_
    | refine gm_40 ?_ rfl ?_ ?_
    | refine gm_42 ?_ rfl ?_ ?_
    | refine md_up ?_ rfl rfl
    | refine md_tr ?_ (by assumption) ?_
    | refine gm_tr ?_ (by assumption) ?_
    | refine gm_put ?_ ?_ rfl
    | refine mi_up ?_ rfl
    | exact gm_i (by assumption)
    | exact md_i (by assumption)
    | exact sb_id
    | exact sb_T_s
    | exact sb_T_Q
    | exact sb_T_M
    | exact sb_R_M
    | exact sb_L_M
    | exact mo_l
    | exact mo1_sub
    | exact mo1_one sb_T_s
    | exact mo1_one mo_l
    | exact mo1_one sb_T_Q
    | exact mo1_one (mo1_one sb_T_s)
    | exact mo1_one (mo1_one sb_id)
    | exact fun k j h => sb_T_Q k j (mo_l k j h)
    | exact fun k j h => mo_l k j (mo_l k j h)
    | exact fun k j h => sb_T_s k j (mo_l k j h)
    | refine And.intro (fun h => absurd h (by decide)) (fun _ => ?_)
    | refine And.intro (fun _ => ?_) (fun h => absurd (by decide) h)
    | refine And.intro (fun _ => ?_) (fun _ => ?_)
    | refine And.intro ?_ ?_
  all_goals (first | (with_reducible assumption) | decide | omega | assumption | rfl | (simp only [am_c] at * <;> omega) | (simp only [am_c, am_up] at * <;> omega) | (simp [am_c, am_up] at * <;> omega))
theorem m_bestBetE {l : Launch} {ν : am_N} {Q : Option am_V → am_N → Prop} (hS : mi ν) (k : ∀ (r : Int) (μ' : am_N), gm mT ν μ' → 0 ≤ r → r ≤ 3 → μ' 83 14 = ν 83 14 → Q (some (.inl r)) μ') : am_Does l 230 [.inr (.inr 83)] ν Q := m_bestBet (gm_rf hS) (fun r μ' h h1 h2 => k r μ' h h1 h2 (h.2 83 14 rfl))
theorem m_bet {l : Launch} {ν : am_N} {Q : Option am_V → am_N → Prop}  (hS : mi ν)   (k : ∀ (r : Int) (μ' : am_N), gm ms ν μ' → Q (some (.inl r)) μ') : am_Does l 231 [.inr (.inr 83)] ν Q := by
  refine am_Does_of (Nat.le_of_ble_eq_true rfl) (Nat.le_of_ble_eq_true rfl) (Nat.le_of_ble_eq_true rfl) ?_
  have hb := mi_all hS
  refine am_go (ct := fun _ => false) am_oX7_bet 300 ?_
  conv => whnf
  repeat' first
    | (refine (?_ : am_wp _ _ _ _ _ _ _ _ _ _ _ _); conv => whnf)
    | (refine (?_ : am_sw _ _ _ _); conv => whnf)
    | refine And.intro trivial ?_
    | exact trivial
    | (with_reducible assumption)
    | ((with_reducible refine (?_ : _ ∧ _)); first | (with_reducible first | refine am_jn am_q1 ?_ | refine am_jn am_q2 ?_ | refine am_jn am_q3 ?_ | refine am_jn am_q4 ?_ | refine am_jn am_q6 ?_ | refine am_jn am_q9 ?_ | refine am_jn am_p1 ?_ | refine am_jy am_p0 ?_ | refine am_kn am_q1 ?_ | refine am_kn am_q2 ?_ | refine am_kn am_q3 ?_ | refine am_kn am_q4 ?_ | refine am_kn am_q6 ?_ | refine am_kn am_q9 ?_ | refine am_kn am_p1 ?_ | refine am_ky am_p0 ?_) | refine And.intro (fun h => absurd h (by decide)) (fun _ => ?_) | refine And.intro (fun _ => ?_) (fun h => absurd (by decide) h) | refine And.intro (fun _ => ?_) (fun _ => ?_) | refine And.intro ?_ ?_)
    | refine k _ _ ?_
    | ((with_reducible refine (?_ : am_Does _ 229 _ _ _)); refine m_areBets  ?_  (fun _ => ?_))
    | ((with_reducible refine (?_ : am_Does _ 230 _ _ _)); refine m_bestBetE (by repeat' first | assumption | exact gm_i (by assumption) | exact md_i (by assumption) | refine mi_up ?_ rfl | refine mi_100 ?_ ?_ ?_ | (simp only [am_c] at * <;> omega)) (fun _ _ _ _ _ _ => ?_))
    | ((with_reducible refine (?_ : am_Does _ 140 _ _ _)); refine m_no _ (gm_rf (by repeat' first | assumption | exact gm_i (by assumption) | exact md_i (by assumption) | refine mi_up ?_ rfl | refine mi_100 ?_ ?_ ?_ | (simp only [am_c] at * <;> omega))) ?_ ?_ (fun _ _ _ _ => ?_))
    | exact gm_rf hS
    | refine gm_up ?_ rfl rfl
    | refine gm_up ?_ mo1_self rfl
    | refine gm_up ?_ mo1_in rfl
    | refine gm_100 ?_ rfl ?_ ?_
    | refine gm_14 ?_ rfl ?_ ?_
    | refine gm_15 ?_ rfl ?_ ?_
    | refine gm_16 ?_ rfl ?_ ?_
    | refine gm_21 ?_ rfl ?_ ?_
    | refine gm_33 ?_ rfl ?_ ?_
    | refine gm_40 ?_ rfl ?_ ?_
    | refine gm_42 ?_ rfl ?_ ?_
    | refine md_up ?_ rfl rfl
    | refine md_tr ?_ (by assumption) ?_
    | refine gm_tr ?_ (by assumption) ?_
    | refine gm_put ?_ ?_ rfl
    | refine mi_up ?_ rfl
    | exact gm_i (by assumption)
    | exact md_i (by assumption)
    | exact sb_id
    | exact sb_T_s
    | exact sb_T_Q
    | exact sb_T_M
    | exact sb_R_M
    | exact sb_L_M
    | exact mo_l
    | exact mo1_sub
    | exact mo1_one sb_T_s
    | exact mo1_one mo_l
    | exact mo1_one sb_T_Q
    | exact mo1_one (mo1_one sb_T_s)
    | exact mo1_one (mo1_one sb_id)
    | exact fun k j h => sb_T_Q k j (mo_l k j h)
    | exact fun k j h => mo_l k j (mo_l k j h)
    | exact fun k j h => sb_T_s k j (mo_l k j h)
    | refine And.intro (fun h => absurd h (by decide)) (fun _ => ?_)
    | refine And.intro (fun _ => ?_) (fun h => absurd (by decide) h)
    | refine And.intro (fun _ => ?_) (fun _ => ?_)
    | refine And.intro ?_ ?_
  all_goals (first | (with_reducible assumption) | decide | omega | assumption | rfl | (simp only [am_c] at * <;> omega) | (simp only [am_c, am_up] at * <;> omega) | (simp [am_c, am_up] at * <;> omega))
theorem m_bets {l : Launch} {ν : am_N} {Q : Option am_V → am_N → Prop} (a : Int) (hS : mi ν) (ha0 : -2147483648 ≤ a) (ha1 : a ≤ 2147483647)  (k : ∀ (r : Int) (μ' : am_N), gm ms ν μ' → Q (some (.inr (.inl r))) μ') : am_Does l 232 [.inr (.inr 83), .inl a] ν Q := by
  refine am_Does_of (Nat.le_of_ble_eq_true rfl) (Nat.le_of_ble_eq_true rfl) (Nat.le_of_ble_eq_true rfl) ?_
  have hb := mi_all hS
  refine am_go (ct := fun _ => false) am_oX7_bets 300 ?_
  conv => whnf
  repeat' first
    | (refine (?_ : am_wp _ _ _ _ _ _ _ _ _ _ _ _); conv => whnf)
    | (refine (?_ : am_sw _ _ _ _); conv => whnf)
    | refine And.intro trivial ?_
    | exact trivial
    | (with_reducible assumption)
    | ((with_reducible refine (?_ : _ ∧ _)); first | (with_reducible first | refine am_jn am_q1 ?_ | refine am_jn am_q2 ?_ | refine am_jn am_q3 ?_ | refine am_jn am_q4 ?_ | refine am_jn am_q6 ?_ | refine am_jn am_q9 ?_ | refine am_jn am_p1 ?_ | refine am_jy am_p0 ?_ | refine am_kn am_q1 ?_ | refine am_kn am_q2 ?_ | refine am_kn am_q3 ?_ | refine am_kn am_q4 ?_ | refine am_kn am_q6 ?_ | refine am_kn am_q9 ?_ | refine am_kn am_p1 ?_ | refine am_ky am_p0 ?_) | refine And.intro (fun h => absurd h (by decide)) (fun _ => ?_) | refine And.intro (fun _ => ?_) (fun h => absurd (by decide) h) | refine And.intro (fun _ => ?_) (fun _ => ?_) | refine And.intro ?_ ?_)
    | refine k _ _ ?_
    | ((with_reducible refine (?_ : am_Does _ 229 _ _ _)); refine m_areBets  ?_  (fun _ => ?_))
    | ((with_reducible refine (?_ : am_Does _ 143 _ _ _)); refine m_isIn _ _ _ (fun _ _ => ?_) (fun _ => ?_))
    | ((with_reducible refine (?_ : am_Does _ 142 _ _ _)); refine m_lowest _ (gm_rf (by repeat' first | assumption | exact gm_i (by assumption) | exact md_i (by assumption) | refine mi_up ?_ rfl | refine mi_100 ?_ ?_ ?_ | (simp only [am_c] at * <;> omega))) ?_ ?_ (fun _ _ _ => ?_))
    | ((with_reducible refine (?_ : am_Does _ 230 _ _ _)); refine m_bestBetE (by repeat' first | assumption | exact gm_i (by assumption) | exact md_i (by assumption) | refine mi_up ?_ rfl | refine mi_100 ?_ ?_ ?_ | (simp only [am_c] at * <;> omega)) (fun _ _ _ _ _ _ => ?_))
    | ((with_reducible refine (?_ : am_Does _ 169 _ _ _)); refine m_races ?_)
    | ((with_reducible refine (?_ : am_Does _ 185 _ _ _)); refine m_partOf _ _ _ ?_ (fun _ => ?_))
    | exact gm_rf hS
    | refine gm_up ?_ rfl rfl
    | refine gm_up ?_ mo1_self rfl
    | refine gm_up ?_ mo1_in rfl
    | refine gm_100 ?_ rfl ?_ ?_
    | refine gm_14 ?_ rfl ?_ ?_
    | refine gm_15 ?_ rfl ?_ ?_
    | refine gm_16 ?_ rfl ?_ ?_
    | refine gm_21 ?_ rfl ?_ ?_
    | refine gm_33 ?_ rfl ?_ ?_
    | refine gm_40 ?_ rfl ?_ ?_
    | refine gm_42 ?_ rfl ?_ ?_
    | refine md_up ?_ rfl rfl
    | refine md_tr ?_ (by assumption) ?_
    | refine gm_tr ?_ (by assumption) ?_
    | refine gm_put ?_ ?_ rfl
    | refine mi_up ?_ rfl
    | exact gm_i (by assumption)
    | exact md_i (by assumption)
    | exact sb_id
    | exact sb_T_s
    | exact sb_T_Q
    | exact sb_T_M
    | exact sb_R_M
    | exact sb_L_M
    | exact mo_l
    | exact mo1_sub
    | exact mo1_one sb_T_s
    | exact mo1_one mo_l
    | exact mo1_one sb_T_Q
    | exact mo1_one (mo1_one sb_T_s)
    | exact mo1_one (mo1_one sb_id)
    | exact fun k j h => sb_T_Q k j (mo_l k j h)
    | exact fun k j h => mo_l k j (mo_l k j h)
    | exact fun k j h => sb_T_s k j (mo_l k j h)
    | refine And.intro (fun h => absurd h (by decide)) (fun _ => ?_)
    | refine And.intro (fun _ => ?_) (fun h => absurd (by decide) h)
    | refine And.intro (fun _ => ?_) (fun _ => ?_)
    | refine And.intro ?_ ?_
  all_goals (first | assumption | decide | exact am_rc (by omega) (by omega) | exact hrc | exact am_c3l (by assumption) (by assumption) | exact am_c3h (by assumption) (by assumption) | (intro h; rw [show (4096 : Int) = 4096 from rfl] at h; revert h; decide) | omega | rfl | (simp only [am_c] at * <;> omega) | (simp only [am_c, am_up] at * <;> omega) | (simp [am_c, am_up] at * <;> omega))
theorem m_tried {l : Launch} {ν : am_N} {Q : Option am_V → am_N → Prop} (a b : Int) (hS : mi ν) (ha0 : -2147483648 ≤ a) (ha1 : a ≤ 2147483647) (hb0 : -2147483648 ≤ b) (hb1 : b ≤ 2147483647)  (k : ∀ (r : Int) (μ' : am_N), gm mQ ν μ' → Q (some (.inl r)) μ') : am_Does l 238 [.inr (.inr 83), .inl a, .inl b] ν Q := by
  refine am_Does_of (Nat.le_of_ble_eq_true rfl) (Nat.le_of_ble_eq_true rfl) (Nat.le_of_ble_eq_true rfl) ?_
  have hb := mi_all hS
  refine am_go (ct := fun _ => false) am_oX7_tried 300 ?_
  conv => whnf
  repeat' first
    | (refine (?_ : am_wp _ _ _ _ _ _ _ _ _ _ _ _); conv => whnf)
    | (refine (?_ : am_sw _ _ _ _); conv => whnf)
    | refine And.intro trivial ?_
    | exact trivial
    | (with_reducible assumption)
    | ((with_reducible refine (?_ : _ ∧ _)); first | (with_reducible first | refine am_jn am_q1 ?_ | refine am_jn am_q2 ?_ | refine am_jn am_q3 ?_ | refine am_jn am_q4 ?_ | refine am_jn am_q6 ?_ | refine am_jn am_q9 ?_ | refine am_jn am_p1 ?_ | refine am_jy am_p0 ?_ | refine am_kn am_q1 ?_ | refine am_kn am_q2 ?_ | refine am_kn am_q3 ?_ | refine am_kn am_q4 ?_ | refine am_kn am_q6 ?_ | refine am_kn am_q9 ?_ | refine am_kn am_p1 ?_ | refine am_ky am_p0 ?_) | refine And.intro (fun h => absurd h (by decide)) (fun _ => ?_) | refine And.intro (fun _ => ?_) (fun h => absurd (by decide) h) | refine And.intro (fun _ => ?_) (fun _ => ?_) | refine And.intro ?_ ?_)
    | refine k _ _ ?_
    | ((with_reducible refine (?_ : am_Does _ 144 _ _ _)); refine m_bound _ _ _ (fun _ => ?_) (fun _ _ => ?_) (fun _ _ => ?_))
    | ((with_reducible refine (?_ : am_Does _ 143 _ _ _)); refine m_isIn _ _ _ (fun _ _ => ?_) (fun _ => ?_))
    | ((with_reducible refine (?_ : am_Does _ 140 _ _ _)); refine m_no _ (gm_rf (by repeat' first | assumption | exact gm_i (by assumption) | exact md_i (by assumption) | refine mi_up ?_ rfl | refine mi_100 ?_ ?_ ?_ | (simp only [am_c] at * <;> omega))) ?_ ?_ (fun _ _ _ _ => ?_))
    | ((with_reducible refine (?_ : am_Does _ 237 _ _ _)); refine m_gapsByHabit _ (by repeat' first | assumption | exact gm_i (by assumption) | exact md_i (by assumption) | refine mi_up ?_ rfl | refine mi_100 ?_ ?_ ?_ | (simp only [am_c] at * <;> omega)) ?_ ?_ ?_ (fun _ _ _ _ => ?_))
    | ((with_reducible refine (?_ : am_Does _ 203 _ _ _)); refine m_gapsBy _ _ (by repeat' first | assumption | exact gm_i (by assumption) | exact md_i (by assumption) | refine mi_up ?_ rfl | refine mi_100 ?_ ?_ ?_ | (simp only [am_c] at * <;> omega)) ?_ ?_ ?_ (fun _ _ _ _ => ?_))
    | exact gm_rf hS
    | refine gm_up ?_ rfl rfl
    | refine gm_up ?_ mo1_self rfl
    | refine gm_up ?_ mo1_in rfl
    | refine gm_100 ?_ rfl ?_ ?_
    | refine gm_14 ?_ rfl ?_ ?_
    | refine gm_15 ?_ rfl ?_ ?_
    | refine gm_16 ?_ rfl ?_ ?_
    | refine gm_21 ?_ rfl ?_ ?_
    | refine gm_33 ?_ rfl ?_ ?_
    | refine gm_40 ?_ rfl ?_ ?_
    | refine gm_42 ?_ rfl ?_ ?_
    | refine md_up ?_ rfl rfl
    | refine md_tr ?_ (by assumption) ?_
    | refine gm_tr ?_ (by assumption) ?_
    | refine gm_put ?_ ?_ rfl
    | refine mi_up ?_ rfl
    | exact gm_i (by assumption)
    | exact md_i (by assumption)
    | exact sb_id
    | exact sb_T_s
    | exact sb_T_Q
    | exact sb_T_M
    | exact sb_R_M
    | exact sb_L_M
    | exact mo_l
    | exact mo1_sub
    | exact mo1_one sb_T_s
    | exact mo1_one mo_l
    | exact mo1_one sb_T_Q
    | exact mo1_one (mo1_one sb_T_s)
    | exact mo1_one (mo1_one sb_id)
    | exact fun k j h => sb_T_Q k j (mo_l k j h)
    | exact fun k j h => mo_l k j (mo_l k j h)
    | exact fun k j h => sb_T_s k j (mo_l k j h)
    | refine And.intro (fun h => absurd h (by decide)) (fun _ => ?_)
    | refine And.intro (fun _ => ?_) (fun h => absurd (by decide) h)
    | refine And.intro (fun _ => ?_) (fun _ => ?_)
    | refine And.intro ?_ ?_
  all_goals (first | (with_reducible assumption) | decide | omega | assumption | rfl | (simp only [am_c] at * <;> omega) | (simp only [am_c, am_up] at * <;> omega) | (simp [am_c, am_up] at * <;> omega))
theorem m_had {l : Launch} {ν : am_N} {Q : Option am_V → am_N → Prop} (a b c d : Int) (hS : mi ν) (ha0 : -2147483648 ≤ a) (ha1 : a ≤ 2147483647) (hb0 : -2147483648 ≤ b) (hb1 : b ≤ 2147483647) (hc0 : -2147483648 ≤ c) (hc1 : c ≤ 2147483647) (hd0 : -2147483648 ≤ d) (hd1 : d ≤ 2147483647)  (k : ∀ (r : Int) (μ' : am_N), gm mQ ν μ' → Q (some (.inl r)) μ') : am_Does l 239 [.inr (.inr 83), .inl a, .inl b, .inl c, .inl d] ν Q := by
  refine am_Does_of (Nat.le_of_ble_eq_true rfl) (Nat.le_of_ble_eq_true rfl) (Nat.le_of_ble_eq_true rfl) ?_
  have hb := mi_all hS
  have lp89 : ∀ (m : Nat) (w d0 x y i : Int) (μ : am_N) , gm (mo1 mQ 89 (am_c a).toNat) ν μ → 0 ≤ i → i ≤ 100 → 0 ≤ am_c a → am_c a < 4 → 0 ≤ b → b ≤ 60 → 1 ≤ μ 83 14 → d0 = ν 89 (am_c a).toNat → 100 - i < (m : Int) → am_AW l 0 (fun _ => 0) 239 Q 89 [some (.inr (.inr 83)), some (.inl a), some (.inl b), some (.inl c), some (.inl d), some (.inl w), some (.inl d0), some (.inl x), some (.inl y), some (.inl i)] [] μ := by
    intro m
    induction m with
    | zero =>
      intro w d0 x y i μ hv0 hv1 hv2 hv3 hv4 hv5 hv6 hv7 hv8 hm
      have hb := mi_all hv0.1
      exfalso
      omega
    | succ m ih =>
      intro w d0 x y i μ hv0 hv1 hv2 hv3 hv4 hv5 hv6 hv7 hv8 hm
      have hb := mi_all hv0.1
      refine am_go (ct := fun pc => Nat.beq pc 89 || Nat.beq pc 71) am_oX7_had 300 ?_
      conv => whnf
      repeat' first
        | (refine (?_ : am_wp _ _ _ _ _ _ _ _ _ _ _ _); conv => whnf)
        | (refine (?_ : am_sw _ _ _ _); conv => whnf)
        | refine And.intro trivial ?_
        | exact trivial
        | (with_reducible assumption)
        | ((with_reducible refine (?_ : _ ∧ _)); first | (with_reducible first | refine am_jn am_q1 ?_ | refine am_jn am_q2 ?_ | refine am_jn am_q3 ?_ | refine am_jn am_q4 ?_ | refine am_jn am_q6 ?_ | refine am_jn am_q9 ?_ | refine am_jn am_p1 ?_ | refine am_jy am_p0 ?_ | refine am_kn am_q1 ?_ | refine am_kn am_q2 ?_ | refine am_kn am_q3 ?_ | refine am_kn am_q4 ?_ | refine am_kn am_q6 ?_ | refine am_kn am_q9 ?_ | refine am_kn am_p1 ?_ | refine am_ky am_p0 ?_) | refine And.intro (fun h => absurd h (by decide)) (fun _ => ?_) | refine And.intro (fun _ => ?_) (fun h => absurd (by decide) h) | refine And.intro (fun _ => ?_) (fun _ => ?_) | refine And.intro ?_ ?_)
        | refine k _ _ ?_
        | ((with_reducible refine (?_ : am_Does _ 146 _ _ _)); refine m_isRunner _ ?_ (fun _ _ _ => ?_) (fun _ => ?_))
        | ((with_reducible refine (?_ : am_Does _ 143 _ _ _)); refine m_isIn _ _ _ (fun _ _ => ?_) (fun _ => ?_))
        | ((with_reducible refine (?_ : am_Does _ 140 _ _ _)); refine m_no _ (gm_rf (by repeat' first | assumption | exact gm_i (by assumption) | exact md_i (by assumption) | refine mi_up ?_ rfl | refine mi_100 ?_ ?_ ?_ | (simp only [am_c] at * <;> omega))) ?_ ?_ (fun _ _ _ _ => ?_))
        | ((with_reducible refine (?_ : am_Does _ 199 _ _ _)); refine m_goesOn _ _ (by repeat' first | assumption | exact gm_i (by assumption) | exact md_i (by assumption) | refine mi_up ?_ rfl | refine mi_100 ?_ ?_ ?_ | (simp only [am_c] at * <;> omega)) ?_ ?_ ?_ ?_ ?_ (fun _ _ _ => ?_))
        | exact gm_rf hS
        | refine gm_up ?_ rfl rfl
        | refine gm_up ?_ mo1_self rfl
        | refine gm_up ?_ mo1_in rfl
        | refine gm_100 ?_ rfl ?_ ?_
        | refine gm_14 ?_ rfl ?_ ?_
        | refine gm_15 ?_ rfl ?_ ?_
        | refine gm_16 ?_ rfl ?_ ?_
        | refine gm_21 ?_ rfl ?_ ?_
        | refine gm_33 ?_ rfl ?_ ?_
        | refine gm_40 ?_ rfl ?_ ?_
        | refine gm_42 ?_ rfl ?_ ?_
        | refine md_up ?_ rfl rfl
        | refine md_tr ?_ (by assumption) ?_
        | refine gm_tr ?_ (by assumption) ?_
        | refine gm_put ?_ ?_ rfl
        | refine mi_up ?_ rfl
        | exact gm_i (by assumption)
        | exact md_i (by assumption)
        | exact sb_id
        | exact sb_T_s
        | exact sb_T_Q
        | exact sb_T_M
        | exact sb_R_M
        | exact sb_L_M
        | exact mo_l
        | exact mo1_sub
        | exact mo1_one sb_T_s
        | exact mo1_one mo_l
        | exact mo1_one sb_T_Q
        | exact mo1_one (mo1_one sb_T_s)
        | exact mo1_one (mo1_one sb_id)
        | exact fun k j h => sb_T_Q k j (mo_l k j h)
        | exact fun k j h => mo_l k j (mo_l k j h)
        | exact fun k j h => sb_T_s k j (mo_l k j h)
        | ((with_reducible refine (?_ : am_AW _ _ _ _ _ 89 _ _ _)); refine ih _ _ _ _ _ _ ?_ ?_ ?_ ?_ ?_ ?_ ?_ ?_ ?_ ?_)
        | refine And.intro (fun h => absurd h (by decide)) (fun _ => ?_)
        | refine And.intro (fun _ => ?_) (fun h => absurd (by decide) h)
        | refine And.intro (fun _ => ?_) (fun _ => ?_)
        | refine And.intro ?_ ?_
      all_goals (first | (with_reducible assumption) | decide | omega | assumption | rfl | (simp only [am_c] at * <;> omega) | (simp only [am_c, am_up] at * <;> omega) | (simp [am_c, am_up] at * <;> omega))
  have lp89' : ∀ (w d0 x y i : Int) (μ : am_N) , gm (mo1 mQ 89 (am_c a).toNat) ν μ → 0 ≤ i → i ≤ 100 → 0 ≤ am_c a → am_c a < 4 → 0 ≤ b → b ≤ 60 → 1 ≤ μ 83 14 → d0 = ν 89 (am_c a).toNat → am_AW l 0 (fun _ => 0) 239 Q 89 [some (.inr (.inr 83)), some (.inl a), some (.inl b), some (.inl c), some (.inl d), some (.inl w), some (.inl d0), some (.inl x), some (.inl y), some (.inl i)] [] μ := fun w d0 x y i μ hv0 hv1 hv2 hv3 hv4 hv5 hv6 hv7 hv8 => lp89 ((100 - i) + 1).toNat w d0 x y i μ hv0 hv1 hv2 hv3 hv4 hv5 hv6 hv7 hv8 (by omega)
  have lp71 : ∀ (w : Int), 0 ≤ am_c a → am_c a < 4 → 0 ≤ b → b ≤ 60 → 1 ≤ ν 83 14 → am_AW l 0 (fun _ => 0) 239 Q 71 [some (.inr (.inr 83)), some (.inl a), some (.inl b), some (.inl c), some (.inl d), some (.inl w), none, none, none, none] [] ν := by
    intro w  hv0 hv1 hv2 hv3 hv4
    refine am_go (ct := fun pc => Nat.beq pc 89 || Nat.beq pc 71) am_oX7_had 300 ?_
    conv => whnf
    repeat' first
      | (refine (?_ : am_wp _ _ _ _ _ _ _ _ _ _ _ _); conv => whnf)
      | (refine (?_ : am_sw _ _ _ _); conv => whnf)
      | refine And.intro trivial ?_
      | exact trivial
      | (with_reducible assumption)
      | ((with_reducible refine (?_ : _ ∧ _)); first | (with_reducible first | refine am_jn am_q1 ?_ | refine am_jn am_q2 ?_ | refine am_jn am_q3 ?_ | refine am_jn am_q4 ?_ | refine am_jn am_q6 ?_ | refine am_jn am_q9 ?_ | refine am_jn am_p1 ?_ | refine am_jy am_p0 ?_ | refine am_kn am_q1 ?_ | refine am_kn am_q2 ?_ | refine am_kn am_q3 ?_ | refine am_kn am_q4 ?_ | refine am_kn am_q6 ?_ | refine am_kn am_q9 ?_ | refine am_kn am_p1 ?_ | refine am_ky am_p0 ?_) | refine And.intro (fun h => absurd h (by decide)) (fun _ => ?_) | refine And.intro (fun _ => ?_) (fun h => absurd (by decide) h) | refine And.intro (fun _ => ?_) (fun _ => ?_) | refine And.intro ?_ ?_)
      | refine k _ _ ?_
      | ((with_reducible refine (?_ : am_Does _ 146 _ _ _)); refine m_isRunner _ ?_ (fun _ _ _ => ?_) (fun _ => ?_))
      | ((with_reducible refine (?_ : am_Does _ 143 _ _ _)); refine m_isIn _ _ _ (fun _ _ => ?_) (fun _ => ?_))
      | ((with_reducible refine (?_ : am_Does _ 140 _ _ _)); refine m_no _ (gm_rf (by repeat' first | assumption | exact gm_i (by assumption) | exact md_i (by assumption) | refine mi_up ?_ rfl | refine mi_100 ?_ ?_ ?_ | (simp only [am_c] at * <;> omega))) ?_ ?_ (fun _ _ _ _ => ?_))
      | ((with_reducible refine (?_ : am_Does _ 199 _ _ _)); refine m_goesOn _ _ (by repeat' first | assumption | exact gm_i (by assumption) | exact md_i (by assumption) | refine mi_up ?_ rfl | refine mi_100 ?_ ?_ ?_ | (simp only [am_c] at * <;> omega)) ?_ ?_ ?_ ?_ ?_ (fun _ _ _ => ?_))
      | exact gm_rf hS
      | refine gm_up ?_ rfl rfl
      | refine gm_up ?_ mo1_self rfl
      | refine gm_up ?_ mo1_in rfl
      | refine gm_100 ?_ rfl ?_ ?_
      | refine gm_14 ?_ rfl ?_ ?_
      | refine gm_15 ?_ rfl ?_ ?_
      | refine gm_16 ?_ rfl ?_ ?_
      | refine gm_21 ?_ rfl ?_ ?_
      | refine gm_33 ?_ rfl ?_ ?_
      | refine gm_40 ?_ rfl ?_ ?_
      | refine gm_42 ?_ rfl ?_ ?_
      | refine md_up ?_ rfl rfl
      | refine md_tr ?_ (by assumption) ?_
      | refine gm_tr ?_ (by assumption) ?_
      | refine gm_put ?_ ?_ rfl
      | refine mi_up ?_ rfl
      | exact gm_i (by assumption)
      | exact md_i (by assumption)
      | exact sb_id
      | exact sb_T_s
      | exact sb_T_Q
      | exact sb_T_M
      | exact sb_R_M
      | exact sb_L_M
      | exact mo_l
      | exact mo1_sub
      | exact mo1_one sb_T_s
      | exact mo1_one mo_l
      | exact mo1_one sb_T_Q
      | exact mo1_one (mo1_one sb_T_s)
      | exact mo1_one (mo1_one sb_id)
      | exact fun k j h => sb_T_Q k j (mo_l k j h)
      | exact fun k j h => mo_l k j (mo_l k j h)
      | exact fun k j h => sb_T_s k j (mo_l k j h)
      | ((with_reducible refine (?_ : am_AW _ _ _ _ _ 89 _ _ _)); refine lp89' _ _ _ _ _ _ ?_ ?_ ?_ ?_ ?_ ?_ ?_ ?_ ?_)
      | refine And.intro (fun h => absurd h (by decide)) (fun _ => ?_)
      | refine And.intro (fun _ => ?_) (fun h => absurd (by decide) h)
      | refine And.intro (fun _ => ?_) (fun _ => ?_)
      | refine And.intro ?_ ?_
    all_goals (first | (with_reducible assumption) | decide | omega | assumption | rfl | (simp only [am_c] at * <;> omega) | (simp only [am_c, am_up] at * <;> omega) | (simp [am_c, am_up] at * <;> omega))
  refine am_go (ct := fun pc => Nat.beq pc 89 || Nat.beq pc 71) am_oX7_had 300 ?_
  conv => whnf
  repeat' first
    | (refine (?_ : am_wp _ _ _ _ _ _ _ _ _ _ _ _); conv => whnf)
    | (refine (?_ : am_sw _ _ _ _); conv => whnf)
    | refine And.intro trivial ?_
    | exact trivial
    | (with_reducible assumption)
    | ((with_reducible refine (?_ : _ ∧ _)); first | (with_reducible first | refine am_jn am_q1 ?_ | refine am_jn am_q2 ?_ | refine am_jn am_q3 ?_ | refine am_jn am_q4 ?_ | refine am_jn am_q6 ?_ | refine am_jn am_q9 ?_ | refine am_jn am_p1 ?_ | refine am_jy am_p0 ?_ | refine am_kn am_q1 ?_ | refine am_kn am_q2 ?_ | refine am_kn am_q3 ?_ | refine am_kn am_q4 ?_ | refine am_kn am_q6 ?_ | refine am_kn am_q9 ?_ | refine am_kn am_p1 ?_ | refine am_ky am_p0 ?_) | refine And.intro (fun h => absurd h (by decide)) (fun _ => ?_) | refine And.intro (fun _ => ?_) (fun h => absurd (by decide) h) | refine And.intro (fun _ => ?_) (fun _ => ?_) | refine And.intro ?_ ?_)
    | refine k _ _ ?_
    | ((with_reducible refine (?_ : am_Does _ 146 _ _ _)); refine m_isRunner _ ?_ (fun _ _ _ => ?_) (fun _ => ?_))
    | ((with_reducible refine (?_ : am_Does _ 143 _ _ _)); refine m_isIn _ _ _ (fun _ _ => ?_) (fun _ => ?_))
    | ((with_reducible refine (?_ : am_Does _ 140 _ _ _)); refine m_no _ (gm_rf (by repeat' first | assumption | exact gm_i (by assumption) | exact md_i (by assumption) | refine mi_up ?_ rfl | refine mi_100 ?_ ?_ ?_ | (simp only [am_c] at * <;> omega))) ?_ ?_ (fun _ _ _ _ => ?_))
    | ((with_reducible refine (?_ : am_Does _ 199 _ _ _)); refine m_goesOn _ _ (by repeat' first | assumption | exact gm_i (by assumption) | exact md_i (by assumption) | refine mi_up ?_ rfl | refine mi_100 ?_ ?_ ?_ | (simp only [am_c] at * <;> omega)) ?_ ?_ ?_ ?_ ?_ (fun _ _ _ => ?_))
    | exact gm_rf hS
    | refine gm_up ?_ rfl rfl
    | refine gm_up ?_ mo1_self rfl
    | refine gm_up ?_ mo1_in rfl
    | refine gm_100 ?_ rfl ?_ ?_
    | refine gm_14 ?_ rfl ?_ ?_
    | refine gm_15 ?_ rfl ?_ ?_
    | refine gm_16 ?_ rfl ?_ ?_
    | refine gm_21 ?_ rfl ?_ ?_
    | refine gm_33 ?_ rfl ?_ ?_
    | refine gm_40 ?_ rfl ?_ ?_
    | refine gm_42 ?_ rfl ?_ ?_
    | refine md_up ?_ rfl rfl
    | refine md_tr ?_ (by assumption) ?_
    | refine gm_tr ?_ (by assumption) ?_
    | refine gm_put ?_ ?_ rfl
    | refine mi_up ?_ rfl
    | exact gm_i (by assumption)
    | exact md_i (by assumption)
    | exact sb_id
    | exact sb_T_s
    | exact sb_T_Q
    | exact sb_T_M
    | exact sb_R_M
    | exact sb_L_M
    | exact mo_l
    | exact mo1_sub
    | exact mo1_one sb_T_s
    | exact mo1_one mo_l
    | exact mo1_one sb_T_Q
    | exact mo1_one (mo1_one sb_T_s)
    | exact mo1_one (mo1_one sb_id)
    | exact fun k j h => sb_T_Q k j (mo_l k j h)
    | exact fun k j h => mo_l k j (mo_l k j h)
    | exact fun k j h => sb_T_s k j (mo_l k j h)
    | ((with_reducible refine (?_ : am_AW _ _ _ _ _ 71 _ _ _)); refine lp71 _  ?_ ?_ ?_ ?_ ?_)
    | ((with_reducible refine (?_ : am_AW _ _ _ _ _ 89 _ _ _)); refine lp89' _ _ _ _ _ _ ?_ ?_ ?_ ?_ ?_ ?_ ?_ ?_ ?_)
    | refine And.intro (fun h => absurd h (by decide)) (fun _ => ?_)
    | refine And.intro (fun _ => ?_) (fun h => absurd (by decide) h)
    | refine And.intro (fun _ => ?_) (fun _ => ?_)
    | refine And.intro ?_ ?_
  all_goals (first | (with_reducible assumption) | decide | omega | assumption | rfl | (simp only [am_c] at * <;> omega) | (simp only [am_c, am_up] at * <;> omega) | (simp [am_c, am_up] at * <;> omega))
theorem m_hasTimes {l : Launch} {ν : am_N} {Q : Option am_V → am_N → Prop} (r : Int) (hS : mi ν)  (hr0 : 0 ≤ am_c r) (hr1 : am_c r < 4) (k : ∀ (r : Int) (μ' : am_N), gm ms ν μ' → (r = 0 ∨ r = 1) → Q (some (.inl r)) μ') : am_Does l 242 [.inr (.inr 83), .inl r] ν Q := by
  refine am_Does_of (Nat.le_of_ble_eq_true rfl) (Nat.le_of_ble_eq_true rfl) (Nat.le_of_ble_eq_true rfl) ?_
  have hb := mi_all hS
  have lp10 : ∀ (m : Nat) (s w i : Int) (μ : am_N) , gm (mo1 ms 83 11) ν μ → 0 ≤ i → i ≤ 6 → (s = 0 ∨ s = 1) → w = ν 83 11 → 6 - i < (m : Int) → am_AW l 0 (fun _ => 0) 242 Q 10 [some (.inr (.inr 83)), some (.inl r), some (.inl s), some (.inl w), some (.inl i)] [] μ := by
    intro m
    induction m with
    | zero =>
      intro s w i μ hv0 hv1 hv2 hv3 hv4 hm
      have hb := mi_all hv0.1
      exfalso
      omega
    | succ m ih =>
      intro s w i μ hv0 hv1 hv2 hv3 hv4 hm
      have hb := mi_all hv0.1
      refine am_go (ct := fun pc => Nat.beq pc 10) am_oX7_hasTimes 300 ?_
      conv => whnf
      repeat' first
        | (refine (?_ : am_wp _ _ _ _ _ _ _ _ _ _ _ _); conv => whnf)
        | (refine (?_ : am_sw _ _ _ _); conv => whnf)
        | refine And.intro trivial ?_
        | exact trivial
        | (with_reducible assumption)
        | ((with_reducible refine (?_ : _ ∧ _)); first | (with_reducible first | refine am_jn am_q1 ?_ | refine am_jn am_q2 ?_ | refine am_jn am_q3 ?_ | refine am_jn am_q4 ?_ | refine am_jn am_q6 ?_ | refine am_jn am_q9 ?_ | refine am_jn am_p1 ?_ | refine am_jy am_p0 ?_ | refine am_kn am_q1 ?_ | refine am_kn am_q2 ?_ | refine am_kn am_q3 ?_ | refine am_kn am_q4 ?_ | refine am_kn am_q6 ?_ | refine am_kn am_q9 ?_ | refine am_kn am_p1 ?_ | refine am_ky am_p0 ?_) | refine And.intro (fun h => absurd h (by decide)) (fun _ => ?_) | refine And.intro (fun _ => ?_) (fun h => absurd (by decide) h) | refine And.intro (fun _ => ?_) (fun _ => ?_) | refine And.intro ?_ ?_)
        | refine k _ _ ?_ ?_
        | ((with_reducible refine (?_ : am_Does _ 164 _ _ _)); refine m_timeOf _ ?_ ?_ ?_ (fun _ => ?_))
        | exact gm_rf hS
        | refine gm_up ?_ rfl rfl
        | refine gm_up ?_ mo1_self rfl
        | refine gm_up ?_ mo1_in rfl
        | refine gm_100 ?_ rfl ?_ ?_
        | refine gm_14 ?_ rfl ?_ ?_
        | refine gm_15 ?_ rfl ?_ ?_
        | refine gm_16 ?_ rfl ?_ ?_
        | refine gm_21 ?_ rfl ?_ ?_
        | refine gm_33 ?_ rfl ?_ ?_
        | refine gm_40 ?_ rfl ?_ ?_
        | refine gm_42 ?_ rfl ?_ ?_
        | refine md_up ?_ rfl rfl
        | refine md_tr ?_ (by assumption) ?_
        | refine gm_tr ?_ (by assumption) ?_
        | refine gm_put ?_ ?_ rfl
        | refine mi_up ?_ rfl
        | exact gm_i (by assumption)
        | exact md_i (by assumption)
        | exact sb_id
        | exact sb_T_s
        | exact sb_T_Q
        | exact sb_T_M
        | exact sb_R_M
        | exact sb_L_M
        | exact mo_l
        | exact mo1_sub
        | exact mo1_one sb_T_s
        | exact mo1_one mo_l
        | exact mo1_one sb_T_Q
        | exact mo1_one (mo1_one sb_T_s)
        | exact mo1_one (mo1_one sb_id)
        | exact fun k j h => sb_T_Q k j (mo_l k j h)
        | exact fun k j h => mo_l k j (mo_l k j h)
        | exact fun k j h => sb_T_s k j (mo_l k j h)
        | ((with_reducible refine (?_ : am_AW _ _ _ _ _ 10 _ _ _)); refine ih _ _ _ _ ?_ ?_ ?_ ?_ ?_ ?_)
        | refine And.intro (fun h => absurd h (by decide)) (fun _ => ?_)
        | refine And.intro (fun _ => ?_) (fun h => absurd (by decide) h)
        | refine And.intro (fun _ => ?_) (fun _ => ?_)
        | refine And.intro ?_ ?_
      all_goals (first | (with_reducible assumption) | decide | omega | assumption | rfl | (simp only [am_c] at * <;> omega) | (simp only [am_c, am_up] at * <;> omega) | (simp [am_c, am_up] at * <;> omega))
  have lp10' : ∀ (s w i : Int) (μ : am_N) , gm (mo1 ms 83 11) ν μ → 0 ≤ i → i ≤ 6 → (s = 0 ∨ s = 1) → w = ν 83 11 → am_AW l 0 (fun _ => 0) 242 Q 10 [some (.inr (.inr 83)), some (.inl r), some (.inl s), some (.inl w), some (.inl i)] [] μ := fun s w i μ hv0 hv1 hv2 hv3 hv4 => lp10 ((6 - i) + 1).toNat s w i μ hv0 hv1 hv2 hv3 hv4 (by omega)
  refine am_go (ct := fun pc => Nat.beq pc 10) am_oX7_hasTimes 300 ?_
  conv => whnf
  repeat' first
    | (refine (?_ : am_wp _ _ _ _ _ _ _ _ _ _ _ _); conv => whnf)
    | (refine (?_ : am_sw _ _ _ _); conv => whnf)
    | refine And.intro trivial ?_
    | exact trivial
    | (with_reducible assumption)
    | ((with_reducible refine (?_ : _ ∧ _)); first | (with_reducible first | refine am_jn am_q1 ?_ | refine am_jn am_q2 ?_ | refine am_jn am_q3 ?_ | refine am_jn am_q4 ?_ | refine am_jn am_q6 ?_ | refine am_jn am_q9 ?_ | refine am_jn am_p1 ?_ | refine am_jy am_p0 ?_ | refine am_kn am_q1 ?_ | refine am_kn am_q2 ?_ | refine am_kn am_q3 ?_ | refine am_kn am_q4 ?_ | refine am_kn am_q6 ?_ | refine am_kn am_q9 ?_ | refine am_kn am_p1 ?_ | refine am_ky am_p0 ?_) | refine And.intro (fun h => absurd h (by decide)) (fun _ => ?_) | refine And.intro (fun _ => ?_) (fun h => absurd (by decide) h) | refine And.intro (fun _ => ?_) (fun _ => ?_) | refine And.intro ?_ ?_)
    | refine k _ _ ?_ ?_
    | ((with_reducible refine (?_ : am_Does _ 164 _ _ _)); refine m_timeOf _ ?_ ?_ ?_ (fun _ => ?_))
    | exact gm_rf hS
    | refine gm_up ?_ rfl rfl
    | refine gm_up ?_ mo1_self rfl
    | refine gm_up ?_ mo1_in rfl
    | refine gm_100 ?_ rfl ?_ ?_
    | refine gm_14 ?_ rfl ?_ ?_
    | refine gm_15 ?_ rfl ?_ ?_
    | refine gm_16 ?_ rfl ?_ ?_
    | refine gm_21 ?_ rfl ?_ ?_
    | refine gm_33 ?_ rfl ?_ ?_
    | refine gm_40 ?_ rfl ?_ ?_
    | refine gm_42 ?_ rfl ?_ ?_
    | refine md_up ?_ rfl rfl
    | refine md_tr ?_ (by assumption) ?_
    | refine gm_tr ?_ (by assumption) ?_
    | refine gm_put ?_ ?_ rfl
    | refine mi_up ?_ rfl
    | exact gm_i (by assumption)
    | exact md_i (by assumption)
    | exact sb_id
    | exact sb_T_s
    | exact sb_T_Q
    | exact sb_T_M
    | exact sb_R_M
    | exact sb_L_M
    | exact mo_l
    | exact mo1_sub
    | exact mo1_one sb_T_s
    | exact mo1_one mo_l
    | exact mo1_one sb_T_Q
    | exact mo1_one (mo1_one sb_T_s)
    | exact mo1_one (mo1_one sb_id)
    | exact fun k j h => sb_T_Q k j (mo_l k j h)
    | exact fun k j h => mo_l k j (mo_l k j h)
    | exact fun k j h => sb_T_s k j (mo_l k j h)
    | ((with_reducible refine (?_ : am_AW _ _ _ _ _ 10 _ _ _)); refine lp10' _ _ _ _ ?_ ?_ ?_ ?_ ?_)
    | refine And.intro (fun h => absurd h (by decide)) (fun _ => ?_)
    | refine And.intro (fun _ => ?_) (fun h => absurd (by decide) h)
    | refine And.intro (fun _ => ?_) (fun _ => ?_)
    | refine And.intro ?_ ?_
  all_goals (first | (with_reducible assumption) | decide | omega | assumption | rfl | (simp only [am_c] at * <;> omega) | (simp only [am_c, am_up] at * <;> omega) | (simp [am_c, am_up] at * <;> omega))
