/-! contracts: the model's public questions, the second half (weak) -/
set_option maxHeartbeats 4000000 in
theorem m_seeds {l : Launch} {ν : am_N} {Q : Option am_V → am_N → Prop} (a b c d : Int) (hS : mi ν) (ha0 : -2147483648 ≤ a) (ha1 : a ≤ 2147483647) (hb0 : -2147483648 ≤ b) (hb1 : b ≤ 2147483647) (hc0 : -2147483648 ≤ c) (hc1 : c ≤ 2147483647) (hd0 : -2147483648 ≤ d) (hd1 : d ≤ 2147483647)  (k : ∀ (r : Int) (μ' : am_N), gm mQ ν μ' → Q (some (.inl r)) μ') : am_Does l 249 [.inr (.inr 83), .inl a, .inl b, .inl c, .inl d] ν Q := by
  refine am_Does_of (Nat.le_of_ble_eq_true rfl) (Nat.le_of_ble_eq_true rfl) (Nat.le_of_ble_eq_true rfl) ?_
  have hb := mi_all hS
  have lp79 : ∀ (m : Nat) (w z u v j i : Int) (μ : am_N) , MD mQ ν μ → 0 ≤ i → i ≤ 4 → 1 ≤ μ 83 14 → 0 ≤ j → j < b → (∀ (z u v : Int) (o10 : Option am_V) (μ : am_N), MD mQ ν μ → 1 ≤ μ 83 14 → am_AW l 0 (fun _ => 0) 249 Q 70 [some (.inr (.inr 83)), some (.inl a), some (.inl b), some (.inl c), some (.inl d), some (.inl w), some (.inl z), some (.inl u), some (.inl v), some (.inl (j + 1)), o10] [] μ) → 4 - i < (m : Int) → am_AW l 0 (fun _ => 0) 249 Q 79 [some (.inr (.inr 83)), some (.inl a), some (.inl b), some (.inl c), some (.inl d), some (.inl w), some (.inl z), some (.inl u), some (.inl v), some (.inl j), some (.inl i)] [] μ := by
    intro m
    induction m with
    | zero =>
      intro w z u v j i μ hv0 hv1 hv2 hv3 hv4 hv5 hv6 hm
      have hb := mi_all (md_i hv0)
      exfalso
      omega
    | succ m ih =>
      intro w z u v j i μ hv0 hv1 hv2 hv3 hv4 hv5 hv6 hm
      have hb := mi_all (md_i hv0)
      have ei9 : am_c i = i := am_cR (by omega) (by omega)
      have ec9 : am_c (μ 83 14) = μ 83 14 := am_cR (by omega) (by omega)
      have ej9 : am_c j = j := am_cR (by omega) (by omega)
      refine am_go (ct := fun pc => Nat.beq pc 79 || Nat.beq pc 70 || Nat.beq pc 52) am_oX7_seeds 300 ?_
      conv => whnf
      repeat' first
        | (refine (?_ : am_wp _ _ _ _ _ _ _ _ _ _ _ _); conv => whnf)
        | (refine (?_ : am_sw _ _ _ _); conv => whnf)
        | refine And.intro trivial ?_
        | exact trivial
        | assumption
        | refine hv6 _ _ _ _ _ ?_ ?_
        | refine k _ _ ?_
        | refine m_keepM (A := mQ) (ν := ν) ?_ (fun _ _ _ _ _ => ?_)
        | refine m_comeM (A := mQ) (ν := ν) ?_ (by first | exact sb_id | exact mo_l | exact mo1_sub) rfl (fun _ _ _ => ?_)
        | refine m_isRunner _ ?_ (fun _ _ _ => ?_) (fun _ => ?_)
        | refine m_bound _ _ _ (fun _ => ?_) (fun _ _ => ?_) (fun _ _ => ?_)
        | refine m_isIn _ _ _ (fun _ _ => ?_) (fun _ => ?_)
        | refine m_no _ (gm_rf (by repeat' first | assumption | exact gm_i (by assumption) | exact md_i (by assumption) | refine mi_up ?_ rfl | refine mi_100 ?_ ?_ ?_ | (simp only [am_c] at * <;> omega))) ?_ ?_ (fun _ _ _ _ => ?_)
        | refine m_partTime _ _ ?_ ?_ ?_ (fun _ => ?_)
        | refine m_sorts  (gm_rf (by repeat' first | assumption | exact gm_i (by assumption) | exact md_i (by assumption) | refine mi_up ?_ rfl | refine mi_100 ?_ ?_ ?_ | (simp only [am_c] at * <;> omega)))  (fun _ _ _ _ _ => ?_)
        | refine m_gap  ?_  (fun _ => ?_)
        | refine m_mendsE (by repeat' first | assumption | exact gm_i (by assumption) | exact md_i (by assumption) | refine mi_up ?_ rfl | refine mi_100 ?_ ?_ ?_ | (simp only [am_c] at * <;> omega)) ?_ (fun _ _ _ => ?_)
        | exact gm_rf hS
        | refine gm_up ?_ rfl rfl
        | refine gm_up ?_ mo1_self rfl
        | refine gm_up ?_ mo1_in rfl
        | refine gm_100 ?_ rfl ?_ ?_
        | refine gm_14 ?_ rfl ?_ ?_
        | refine gm_15 ?_ rfl ?_ ?_
        | refine gm_16 ?_ rfl ?_ ?_
        | refine gm_21 ?_ rfl ?_ ?_
        | refine gm_33 ?_ rfl ?_ ?_
        | refine gm_40 ?_ rfl ?_ ?_
        | refine gm_42 ?_ rfl ?_ ?_
        | refine md_up ?_ rfl rfl
        | refine md_tr ?_ (by assumption) ?_
        | refine gm_tr ?_ (by assumption) ?_
        | refine gm_put ?_ ?_ rfl
        | refine mi_up ?_ rfl
        | exact gm_i (by assumption)
        | exact md_i (by assumption)
        | exact sb_id
        | exact sb_T_s
        | exact sb_T_Q
        | exact sb_T_M
        | exact sb_R_M
        | exact sb_L_M
        | exact mo_l
        | exact mo1_sub
        | exact mo1_one sb_T_s
        | exact mo1_one mo_l
        | exact mo1_one sb_T_Q
        | exact mo1_one (mo1_one sb_T_s)
        | exact mo1_one (mo1_one sb_id)
        | exact fun k j h => sb_T_Q k j (mo_l k j h)
        | exact fun k j h => mo_l k j (mo_l k j h)
        | exact fun k j h => sb_T_s k j (mo_l k j h)
        | refine ih _ _ _ _ _ _ _ ?_ ?_ ?_ ?_ ?_ ?_ ?_ ?_
        | refine And.intro (fun h => absurd h (by decide)) (fun _ => ?_)
        | refine And.intro (fun _ => ?_) (fun h => absurd (by decide) h)
        | refine And.intro (fun _ => ?_) (fun _ => ?_)
        | refine And.intro ?_ ?_
      all_goals (first | assumption | decide | omega | rfl | (simp only [am_c] at * <;> omega) | (simp only [am_c, am_up] at * <;> omega) | (simp [am_c, am_up] at * <;> omega))
  have lp79' : ∀ (w z u v j i : Int) (μ : am_N) , MD mQ ν μ → 0 ≤ i → i ≤ 4 → 1 ≤ μ 83 14 → 0 ≤ j → j < b → (∀ (z u v : Int) (o10 : Option am_V) (μ : am_N), MD mQ ν μ → 1 ≤ μ 83 14 → am_AW l 0 (fun _ => 0) 249 Q 70 [some (.inr (.inr 83)), some (.inl a), some (.inl b), some (.inl c), some (.inl d), some (.inl w), some (.inl z), some (.inl u), some (.inl v), some (.inl (j + 1)), o10] [] μ) → am_AW l 0 (fun _ => 0) 249 Q 79 [some (.inr (.inr 83)), some (.inl a), some (.inl b), some (.inl c), some (.inl d), some (.inl w), some (.inl z), some (.inl u), some (.inl v), some (.inl j), some (.inl i)] [] μ := fun w z u v j i μ hv0 hv1 hv2 hv3 hv4 hv5 hv6 => lp79 ((4 - i) + 1).toNat w z u v j i μ hv0 hv1 hv2 hv3 hv4 hv5 hv6 (by omega)
  have lp70 : ∀ (m : Nat) (w z u v j : Int) (o10 : Option am_V) (μ : am_N) , MD mQ ν μ → 0 ≤ j → j ≤ b → b ≤ 20 → 1 ≤ μ 83 14 → b - j < (m : Int) → am_AW l 0 (fun _ => 0) 249 Q 70 [some (.inr (.inr 83)), some (.inl a), some (.inl b), some (.inl c), some (.inl d), some (.inl w), some (.inl z), some (.inl u), some (.inl v), some (.inl j), o10] [] μ := by
    intro m
    induction m with
    | zero =>
      intro w z u v j o10 μ hv0 hv1 hv2 hv3 hv4 hm
      have hb := mi_all (md_i hv0)
      exfalso
      omega
    | succ m ih =>
      intro w z u v j o10 μ hv0 hv1 hv2 hv3 hv4 hm
      have hb := mi_all (md_i hv0)
      have ej9 : am_c j = j := am_cR (by omega) (by omega)
      have eb9 : am_c b = b := am_cR (by omega) (by omega)
      refine am_go (ct := fun pc => Nat.beq pc 79 || Nat.beq pc 70 || Nat.beq pc 52) am_oX7_seeds 300 ?_
      conv => whnf
      repeat' first
        | (refine (?_ : am_wp _ _ _ _ _ _ _ _ _ _ _ _); conv => whnf)
        | (refine (?_ : am_sw _ _ _ _); conv => whnf)
        | refine And.intro trivial ?_
        | exact trivial
        | assumption
        | (refine fun _ _ _ _ _ _ _ => ih _ _ _ _ _ _ _ ?_ ?_ ?_ ?_ ?_ ?_)
        | refine k _ _ ?_
        | refine m_keepM (A := mQ) (ν := ν) ?_ (fun _ _ _ _ _ => ?_)
        | refine m_comeM (A := mQ) (ν := ν) ?_ (by first | exact sb_id | exact mo_l | exact mo1_sub) rfl (fun _ _ _ => ?_)
        | refine m_isRunner _ ?_ (fun _ _ _ => ?_) (fun _ => ?_)
        | refine m_bound _ _ _ (fun _ => ?_) (fun _ _ => ?_) (fun _ _ => ?_)
        | refine m_isIn _ _ _ (fun _ _ => ?_) (fun _ => ?_)
        | refine m_no _ (gm_rf (by repeat' first | assumption | exact gm_i (by assumption) | exact md_i (by assumption) | refine mi_up ?_ rfl | refine mi_100 ?_ ?_ ?_ | (simp only [am_c] at * <;> omega))) ?_ ?_ (fun _ _ _ _ => ?_)
        | refine m_partTime _ _ ?_ ?_ ?_ (fun _ => ?_)
        | refine m_sorts  (gm_rf (by repeat' first | assumption | exact gm_i (by assumption) | exact md_i (by assumption) | refine mi_up ?_ rfl | refine mi_100 ?_ ?_ ?_ | (simp only [am_c] at * <;> omega)))  (fun _ _ _ _ _ => ?_)
        | refine m_gap  ?_  (fun _ => ?_)
        | refine m_mendsE (by repeat' first | assumption | exact gm_i (by assumption) | exact md_i (by assumption) | refine mi_up ?_ rfl | refine mi_100 ?_ ?_ ?_ | (simp only [am_c] at * <;> omega)) ?_ (fun _ _ _ => ?_)
        | exact gm_rf hS
        | refine gm_up ?_ rfl rfl
        | refine gm_up ?_ mo1_self rfl
        | refine gm_up ?_ mo1_in rfl
        | refine gm_100 ?_ rfl ?_ ?_
        | refine gm_14 ?_ rfl ?_ ?_
        | refine gm_15 ?_ rfl ?_ ?_
        | refine gm_16 ?_ rfl ?_ ?_
        | refine gm_21 ?_ rfl ?_ ?_
        | refine gm_33 ?_ rfl ?_ ?_
        | refine gm_40 ?_ rfl ?_ ?_
        | refine gm_42 ?_ rfl ?_ ?_
        | refine md_up ?_ rfl rfl
        | refine md_tr ?_ (by assumption) ?_
        | refine gm_tr ?_ (by assumption) ?_
        | refine gm_put ?_ ?_ rfl
        | refine mi_up ?_ rfl
        | exact gm_i (by assumption)
        | exact md_i (by assumption)
        | exact sb_id
        | exact sb_T_s
        | exact sb_T_Q
        | exact sb_T_M
        | exact sb_R_M
        | exact sb_L_M
        | exact mo_l
        | exact mo1_sub
        | exact mo1_one sb_T_s
        | exact mo1_one mo_l
        | exact mo1_one sb_T_Q
        | exact mo1_one (mo1_one sb_T_s)
        | exact mo1_one (mo1_one sb_id)
        | exact fun k j h => sb_T_Q k j (mo_l k j h)
        | exact fun k j h => mo_l k j (mo_l k j h)
        | exact fun k j h => sb_T_s k j (mo_l k j h)
        | refine ih _ _ _ _ _ _ _ ?_ ?_ ?_ ?_ ?_ ?_
        | refine lp79' _ _ _ _ _ _ _ ?_ ?_ ?_ ?_ ?_ ?_ ?_
        | refine And.intro (fun h => absurd h (by decide)) (fun _ => ?_)
        | refine And.intro (fun _ => ?_) (fun h => absurd (by decide) h)
        | refine And.intro (fun _ => ?_) (fun _ => ?_)
        | refine And.intro ?_ ?_
      all_goals (first | assumption | decide | omega | rfl | (simp only [am_c] at * <;> omega) | (simp only [am_c, am_up] at * <;> omega) | (simp [am_c, am_up] at * <;> omega))
  have lp70' : ∀ (w z u v j : Int) (o10 : Option am_V) (μ : am_N) , MD mQ ν μ → 0 ≤ j → j ≤ b → b ≤ 20 → 1 ≤ μ 83 14 → am_AW l 0 (fun _ => 0) 249 Q 70 [some (.inr (.inr 83)), some (.inl a), some (.inl b), some (.inl c), some (.inl d), some (.inl w), some (.inl z), some (.inl u), some (.inl v), some (.inl j), o10] [] μ := fun w z u v j o10 μ hv0 hv1 hv2 hv3 hv4 => lp70 ((b - j) + 1).toNat w z u v j o10 μ hv0 hv1 hv2 hv3 hv4 (by omega)
  have lp52 : ∀ (w : Int), b ≤ 20 → 1 ≤ b → 1 ≤ ν 83 14 → am_AW l 0 (fun _ => 0) 249 Q 52 [some (.inr (.inr 83)), some (.inl a), some (.inl b), some (.inl c), some (.inl d), some (.inl w), none, none, none, none, none] [] ν := by
    intro w  hv0 hv1 hv2
    refine am_go (ct := fun pc => Nat.beq pc 79 || Nat.beq pc 70 || Nat.beq pc 52) am_oX7_seeds 300 ?_
    conv => whnf
    repeat' first
      | (refine (?_ : am_wp _ _ _ _ _ _ _ _ _ _ _ _); conv => whnf)
      | (refine (?_ : am_sw _ _ _ _); conv => whnf)
      | refine And.intro trivial ?_
      | exact trivial
      | assumption
      | refine k _ _ ?_
      | refine m_keepM (A := mQ) (ν := ν) ?_ (fun _ _ _ _ _ => ?_)
      | refine m_comeM (A := mQ) (ν := ν) ?_ (by first | exact sb_id | exact mo_l | exact mo1_sub) rfl (fun _ _ _ => ?_)
      | refine m_isRunner _ ?_ (fun _ _ _ => ?_) (fun _ => ?_)
      | refine m_bound _ _ _ (fun _ => ?_) (fun _ _ => ?_) (fun _ _ => ?_)
      | refine m_isIn _ _ _ (fun _ _ => ?_) (fun _ => ?_)
      | refine m_no _ (gm_rf (by repeat' first | assumption | exact gm_i (by assumption) | exact md_i (by assumption) | refine mi_up ?_ rfl | refine mi_100 ?_ ?_ ?_ | (simp only [am_c] at * <;> omega))) ?_ ?_ (fun _ _ _ _ => ?_)
      | refine m_partTime _ _ ?_ ?_ ?_ (fun _ => ?_)
      | refine m_sorts  (gm_rf (by repeat' first | assumption | exact gm_i (by assumption) | exact md_i (by assumption) | refine mi_up ?_ rfl | refine mi_100 ?_ ?_ ?_ | (simp only [am_c] at * <;> omega)))  (fun _ _ _ _ _ => ?_)
      | refine m_gap  ?_  (fun _ => ?_)
      | refine m_mendsE (by repeat' first | assumption | exact gm_i (by assumption) | exact md_i (by assumption) | refine mi_up ?_ rfl | refine mi_100 ?_ ?_ ?_ | (simp only [am_c] at * <;> omega)) ?_ (fun _ _ _ => ?_)
      | exact gm_rf hS
      | refine gm_up ?_ rfl rfl
      | refine gm_up ?_ mo1_self rfl
      | refine gm_up ?_ mo1_in rfl
      | refine gm_100 ?_ rfl ?_ ?_
      | refine gm_14 ?_ rfl ?_ ?_
      | refine gm_15 ?_ rfl ?_ ?_
      | refine gm_16 ?_ rfl ?_ ?_
      | refine gm_21 ?_ rfl ?_ ?_
      | refine gm_33 ?_ rfl ?_ ?_
      | refine gm_40 ?_ rfl ?_ ?_
      | refine gm_42 ?_ rfl ?_ ?_
      | refine md_up ?_ rfl rfl
      | refine md_tr ?_ (by assumption) ?_
      | refine gm_tr ?_ (by assumption) ?_
      | refine gm_put ?_ ?_ rfl
      | refine mi_up ?_ rfl
      | exact gm_i (by assumption)
      | exact md_i (by assumption)
      | exact sb_id
      | exact sb_T_s
      | exact sb_T_Q
      | exact sb_T_M
      | exact sb_R_M
      | exact sb_L_M
      | exact mo_l
      | exact mo1_sub
      | exact mo1_one sb_T_s
      | exact mo1_one mo_l
      | exact mo1_one sb_T_Q
      | exact mo1_one (mo1_one sb_T_s)
      | exact mo1_one (mo1_one sb_id)
      | exact fun k j h => sb_T_Q k j (mo_l k j h)
      | exact fun k j h => mo_l k j (mo_l k j h)
      | exact fun k j h => sb_T_s k j (mo_l k j h)
      | refine lp70' _ _ _ _ _ _ _ ?_ ?_ ?_ ?_ ?_
      | refine lp79' _ _ _ _ _ _ _ ?_ ?_ ?_ ?_ ?_ ?_ ?_
      | refine And.intro (fun h => absurd h (by decide)) (fun _ => ?_)
      | refine And.intro (fun _ => ?_) (fun h => absurd (by decide) h)
      | refine And.intro (fun _ => ?_) (fun _ => ?_)
      | refine And.intro ?_ ?_
    all_goals (first | assumption | decide | omega | rfl | (simp only [am_c] at * <;> omega) | (simp only [am_c, am_up] at * <;> omega) | (simp [am_c, am_up] at * <;> omega))
  refine am_go (ct := fun pc => Nat.beq pc 79 || Nat.beq pc 70 || Nat.beq pc 52) am_oX7_seeds 300 ?_
  conv => whnf
  repeat' first
    | (refine (?_ : am_wp _ _ _ _ _ _ _ _ _ _ _ _); conv => whnf)
    | (refine (?_ : am_sw _ _ _ _); conv => whnf)
    | refine And.intro trivial ?_
    | exact trivial
    | assumption
    | refine k _ _ ?_
    | refine m_keepM (A := mQ) (ν := ν) ?_ (fun _ _ _ _ _ => ?_)
    | refine m_comeM (A := mQ) (ν := ν) ?_ (by first | exact sb_id | exact mo_l | exact mo1_sub) rfl (fun _ _ _ => ?_)
    | refine m_isRunner _ ?_ (fun _ _ _ => ?_) (fun _ => ?_)
    | refine m_bound _ _ _ (fun _ => ?_) (fun _ _ => ?_) (fun _ _ => ?_)
    | refine m_isIn _ _ _ (fun _ _ => ?_) (fun _ => ?_)
    | refine m_no _ (gm_rf (by repeat' first | assumption | exact gm_i (by assumption) | exact md_i (by assumption) | refine mi_up ?_ rfl | refine mi_100 ?_ ?_ ?_ | (simp only [am_c] at * <;> omega))) ?_ ?_ (fun _ _ _ _ => ?_)
    | refine m_partTime _ _ ?_ ?_ ?_ (fun _ => ?_)
    | refine m_sorts  (gm_rf (by repeat' first | assumption | exact gm_i (by assumption) | exact md_i (by assumption) | refine mi_up ?_ rfl | refine mi_100 ?_ ?_ ?_ | (simp only [am_c] at * <;> omega)))  (fun _ _ _ _ _ => ?_)
    | refine m_gap  ?_  (fun _ => ?_)
    | refine m_mendsE (by repeat' first | assumption | exact gm_i (by assumption) | exact md_i (by assumption) | refine mi_up ?_ rfl | refine mi_100 ?_ ?_ ?_ | (simp only [am_c] at * <;> omega)) ?_ (fun _ _ _ => ?_)
    | exact gm_rf hS
    | refine gm_up ?_ rfl rfl
    | refine gm_up ?_ mo1_self rfl
    | refine gm_up ?_ mo1_in rfl
    | refine gm_100 ?_ rfl ?_ ?_
    | refine gm_14 ?_ rfl ?_ ?_
    | refine gm_15 ?_ rfl ?_ ?_
    | refine gm_16 ?_ rfl ?_ ?_
    | refine gm_21 ?_ rfl ?_ ?_
    | refine gm_33 ?_ rfl ?_ ?_
    | refine gm_40 ?_ rfl ?_ ?_
    | refine gm_42 ?_ rfl ?_ ?_
    | refine md_up ?_ rfl rfl
    | refine md_tr ?_ (by assumption) ?_
    | refine gm_tr ?_ (by assumption) ?_
    | refine gm_put ?_ ?_ rfl
    | refine mi_up ?_ rfl
    | exact gm_i (by assumption)
    | exact md_i (by assumption)
    | exact sb_id
    | exact sb_T_s
    | exact sb_T_Q
    | exact sb_T_M
    | exact sb_R_M
    | exact sb_L_M
    | exact mo_l
    | exact mo1_sub
    | exact mo1_one sb_T_s
    | exact mo1_one mo_l
    | exact mo1_one sb_T_Q
    | exact mo1_one (mo1_one sb_T_s)
    | exact mo1_one (mo1_one sb_id)
    | exact fun k j h => sb_T_Q k j (mo_l k j h)
    | exact fun k j h => mo_l k j (mo_l k j h)
    | exact fun k j h => sb_T_s k j (mo_l k j h)
    | refine lp52 _  ?_ ?_ ?_
    | refine lp70' _ _ _ _ _ _ _ ?_ ?_ ?_ ?_ ?_
    | refine lp79' _ _ _ _ _ _ _ ?_ ?_ ?_ ?_ ?_ ?_ ?_
    | refine And.intro (fun h => absurd h (by decide)) (fun _ => ?_)
    | refine And.intro (fun _ => ?_) (fun h => absurd (by decide) h)
    | refine And.intro (fun _ => ?_) (fun _ => ?_)
    | refine And.intro ?_ ?_
  all_goals (first | assumption | decide | omega | rfl | (simp only [am_c] at * <;> omega) | (simp only [am_c, am_up] at * <;> omega) | (simp [am_c, am_up] at * <;> omega))
