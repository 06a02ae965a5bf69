/-! contracts: the model's public questions (weak) -/
theorem m_even {l : Launch} {ν : am_N} {Q : Option am_V → am_N → Prop} (a b : Int) (hS : mi ν) (ha0 : -2147483648 ≤ a) (ha1 : a ≤ 2147483647) (hb0 : -2147483648 ≤ b) (hb1 : b ≤ 2147483647)  (k : ∀ (r : Int) (μ' : am_N), gm ms ν μ' → Q (some (.inl r)) μ') : am_Does l 195 [.inr (.inr 83), .inl a, .inl b] ν Q := by
  refine am_Does_of (Nat.le_of_ble_eq_true rfl) (Nat.le_of_ble_eq_true rfl) (Nat.le_of_ble_eq_true rfl) ?_
  have hb := mi_all hS
  have lp32 : ∀ (m : Nat) (d x y i : Int) (o8 : Option am_V) (μ : am_N) , gm (mo1 ms 89 (am_c b).toNat) ν μ → 0 ≤ i → i ≤ 100 → 0 ≤ am_c a → am_c a < 4 → 0 ≤ am_c b → am_c b < 4 → d = ν 89 (am_c b).toNat → 100 - i < (m : Int) → am_AW l 0 (fun _ => 0) 195 Q 32 [some (.inr (.inr 83)), some (.inl a), some (.inl b), some (.inl d), some (.inl x), some (.inl y), some (.inl i), o8] [] μ := by
    intro m
    induction m with
    | zero =>
      intro d x y i o8 μ hv0 hv1 hv2 hv3 hv4 hv5 hv6 hv7 hm
      have hb := mi_all hv0.1
      exfalso
      omega
    | succ m ih =>
      intro d x y i o8 μ hv0 hv1 hv2 hv3 hv4 hv5 hv6 hv7 hm
      have hb := mi_all hv0.1
      refine am_go (ct := fun pc => Nat.beq pc 32) am_oX7_even 300 ?_
      conv => whnf
      repeat' first
        | (refine (?_ : am_wp _ _ _ _ _ _ _ _ _ _ _ _); conv => whnf)
        | (refine (?_ : am_sw _ _ _ _); conv => whnf)
        | refine And.intro trivial ?_
        | exact trivial
        | assumption
        | refine k _ _ ?_
        | refine m_areTwo _ _ ?_ (fun _ _ _ _ _ => ?_) ?_
        | refine m_no _ (gm_rf (by repeat' first | assumption | exact gm_i (by assumption) | exact md_i (by assumption) | refine mi_up ?_ rfl | refine mi_100 ?_ ?_ ?_ | (simp only [am_c] at * <;> omega))) ?_ ?_ (fun _ _ _ _ => ?_)
        | refine m_aheadOf _ _ ?_ ?_ ?_ ?_ ?_ (fun _ => ?_)
        | exact gm_rf hS
        | refine gm_up ?_ rfl rfl
        | refine gm_up ?_ mo1_self rfl
        | refine gm_up ?_ mo1_in rfl
        | refine gm_100 ?_ rfl ?_ ?_
        | refine gm_14 ?_ rfl ?_ ?_
        | refine gm_15 ?_ rfl ?_ ?_
        | refine gm_16 ?_ rfl ?_ ?_
        | refine gm_21 ?_ rfl ?_ ?_
        | refine gm_33 ?_ rfl ?_ ?_
        | refine gm_40 ?_ rfl ?_ ?_
        | refine gm_42 ?_ rfl ?_ ?_
        | refine md_up ?_ rfl rfl
        | refine md_tr ?_ (by assumption) ?_
        | refine gm_tr ?_ (by assumption) ?_
        | refine gm_put ?_ ?_ rfl
        | refine mi_up ?_ rfl
        | exact gm_i (by assumption)
        | exact md_i (by assumption)
        | exact sb_id
        | exact sb_T_s
        | exact sb_T_Q
        | exact sb_T_M
        | exact sb_R_M
        | exact sb_L_M
        | exact mo_l
        | exact mo1_sub
        | exact mo1_one sb_T_s
        | exact mo1_one mo_l
        | exact mo1_one sb_T_Q
        | exact mo1_one (mo1_one sb_T_s)
        | exact mo1_one (mo1_one sb_id)
        | exact fun k j h => sb_T_Q k j (mo_l k j h)
        | exact fun k j h => mo_l k j (mo_l k j h)
        | exact fun k j h => sb_T_s k j (mo_l k j h)
        | refine ih _ _ _ _ _ _ ?_ ?_ ?_ ?_ ?_ ?_ ?_ ?_ ?_
        | refine And.intro (fun h => absurd h (by decide)) (fun _ => ?_)
        | refine And.intro (fun _ => ?_) (fun h => absurd (by decide) h)
        | refine And.intro (fun _ => ?_) (fun _ => ?_)
        | refine And.intro ?_ ?_
      all_goals (first | assumption | decide | omega | rfl | (simp only [am_c] at * <;> omega) | (simp only [am_c, am_up] at * <;> omega) | (simp [am_c, am_up] at * <;> omega))
  have lp32' : ∀ (d x y i : Int) (o8 : Option am_V) (μ : am_N) , gm (mo1 ms 89 (am_c b).toNat) ν μ → 0 ≤ i → i ≤ 100 → 0 ≤ am_c a → am_c a < 4 → 0 ≤ am_c b → am_c b < 4 → d = ν 89 (am_c b).toNat → am_AW l 0 (fun _ => 0) 195 Q 32 [some (.inr (.inr 83)), some (.inl a), some (.inl b), some (.inl d), some (.inl x), some (.inl y), some (.inl i), o8] [] μ := fun d x y i o8 μ hv0 hv1 hv2 hv3 hv4 hv5 hv6 hv7 => lp32 ((100 - i) + 1).toNat d x y i o8 μ hv0 hv1 hv2 hv3 hv4 hv5 hv6 hv7 (by omega)
  refine am_go (ct := fun pc => Nat.beq pc 32) am_oX7_even 300 ?_
  conv => whnf
  repeat' first
    | (refine (?_ : am_wp _ _ _ _ _ _ _ _ _ _ _ _); conv => whnf)
    | (refine (?_ : am_sw _ _ _ _); conv => whnf)
    | refine And.intro trivial ?_
    | exact trivial
    | assumption
    | refine k _ _ ?_
    | refine m_areTwo _ _ ?_ (fun _ _ _ _ _ => ?_) ?_
    | refine m_no _ (gm_rf (by repeat' first | assumption | exact gm_i (by assumption) | exact md_i (by assumption) | refine mi_up ?_ rfl | refine mi_100 ?_ ?_ ?_ | (simp only [am_c] at * <;> omega))) ?_ ?_ (fun _ _ _ _ => ?_)
    | refine m_aheadOf _ _ ?_ ?_ ?_ ?_ ?_ (fun _ => ?_)
    | exact gm_rf hS
    | refine gm_up ?_ rfl rfl
    | refine gm_up ?_ mo1_self rfl
    | refine gm_up ?_ mo1_in rfl
    | refine gm_100 ?_ rfl ?_ ?_
    | refine gm_14 ?_ rfl ?_ ?_
    | refine gm_15 ?_ rfl ?_ ?_
    | refine gm_16 ?_ rfl ?_ ?_
    | refine gm_21 ?_ rfl ?_ ?_
    | refine gm_33 ?_ rfl ?_ ?_
    | refine gm_40 ?_ rfl ?_ ?_
    | refine gm_42 ?_ rfl ?_ ?_
    | refine md_up ?_ rfl rfl
    | refine md_tr ?_ (by assumption) ?_
    | refine gm_tr ?_ (by assumption) ?_
    | refine gm_put ?_ ?_ rfl
    | refine mi_up ?_ rfl
    | exact gm_i (by assumption)
    | exact md_i (by assumption)
    | exact sb_id
    | exact sb_T_s
    | exact sb_T_Q
    | exact sb_T_M
    | exact sb_R_M
    | exact sb_L_M
    | exact mo_l
    | exact mo1_sub
    | exact mo1_one sb_T_s
    | exact mo1_one mo_l
    | exact mo1_one sb_T_Q
    | exact mo1_one (mo1_one sb_T_s)
    | exact mo1_one (mo1_one sb_id)
    | exact fun k j h => sb_T_Q k j (mo_l k j h)
    | exact fun k j h => mo_l k j (mo_l k j h)
    | exact fun k j h => sb_T_s k j (mo_l k j h)
    | refine lp32' _ _ _ _ _ _ ?_ ?_ ?_ ?_ ?_ ?_ ?_ ?_
    | refine And.intro (fun h => absurd h (by decide)) (fun _ => ?_)
    | refine And.intro (fun _ => ?_) (fun h => absurd (by decide) h)
    | refine And.intro (fun _ => ?_) (fun _ => ?_)
    | refine And.intro ?_ ?_
  all_goals (first | assumption | decide | omega | rfl | (simp only [am_c] at * <;> omega) | (simp only [am_c, am_up] at * <;> omega) | (simp [am_c, am_up] at * <;> omega))
theorem m_starts {l : Launch} {ν : am_N} {Q : Option am_V → am_N → Prop} (a b : Int) (hS : mi ν) (ha0 : -2147483648 ≤ a) (ha1 : a ≤ 2147483647) (hb0 : -2147483648 ≤ b) (hb1 : b ≤ 2147483647)  (k : ∀ (r : Int) (μ' : am_N), gm mQ ν μ' → Q (some (.inl r)) μ') : am_Does l 197 [.inr (.inr 83), .inl a, .inl b] ν Q := by
  refine am_Does_of (Nat.le_of_ble_eq_true rfl) (Nat.le_of_ble_eq_true rfl) (Nat.le_of_ble_eq_true rfl) ?_
  have hb := mi_all hS
  have lp104 : ∀ (m : Nat) (w e q i : Int) (μ : am_N) , gm mQ ν μ → 1 ≤ e → e ≤ 20 → i ≤ 3 → -1 ≤ i → 0 ≤ am_c b → i + 2 < (m : Int) → am_AW l 0 (fun _ => 0) 197 Q 104 [some (.inr (.inr 83)), some (.inl a), some (.inl b), some (.inl w), some (.inl e), some (.inl q), some (.inl i)] [] μ := by
    intro m
    induction m with
    | zero =>
      intro w e q i μ hv0 hv1 hv2 hv3 hv4 hv5 hm
      have hb := mi_all hv0.1
      exfalso
      omega
    | succ m ih =>
      intro w e q i μ hv0 hv1 hv2 hv3 hv4 hv5 hm
      have hb := mi_all hv0.1
      refine am_go (ct := fun pc => Nat.beq pc 104 || Nat.beq pc 82) am_oX7_starts 300 ?_
      conv => whnf
      repeat' first
        | (refine (?_ : am_wp _ _ _ _ _ _ _ _ _ _ _ _); conv => whnf)
        | (refine (?_ : am_sw _ _ _ _); conv => whnf)
        | refine And.intro trivial ?_
        | exact trivial
        | assumption
        | refine k _ _ ?_
        | refine m_keepM (A := mQ) (ν := ν) ?_ (fun _ _ _ _ _ => ?_)
        | refine m_comeM (A := mQ) (ν := ν) ?_ (by first | exact sb_id | exact mo_l | exact mo1_sub) rfl (fun _ _ _ => ?_)
        | refine m_isIn _ _ _ (fun _ _ => ?_) (fun _ => ?_)
        | refine m_no _ (gm_rf (by repeat' first | assumption | exact gm_i (by assumption) | exact md_i (by assumption) | refine mi_up ?_ rfl | refine mi_100 ?_ ?_ ?_ | (simp only [am_c] at * <;> omega))) ?_ ?_ (fun _ _ _ _ => ?_)
        | refine m_findStarts _ (by repeat' first | assumption | exact gm_i (by assumption) | exact md_i (by assumption) | refine mi_up ?_ rfl | refine mi_100 ?_ ?_ ?_ | (simp only [am_c] at * <;> omega)) ?_ ?_ (fun _ _ => ?_)
        | exact gm_rf hS
        | refine gm_up ?_ rfl rfl
        | refine gm_up ?_ mo1_self rfl
        | refine gm_up ?_ mo1_in rfl
        | refine gm_100 ?_ rfl ?_ ?_
        | refine gm_14 ?_ rfl ?_ ?_
        | refine gm_15 ?_ rfl ?_ ?_
        | refine gm_16 ?_ rfl ?_ ?_
        | refine gm_21 ?_ rfl ?_ ?_
        | refine gm_33 ?_ rfl ?_ ?_
        | refine gm_40 ?_ rfl ?_ ?_
        | refine gm_42 ?_ rfl ?_ ?_
        | refine md_up ?_ rfl rfl
        | refine md_tr ?_ (by assumption) ?_
        | refine gm_tr ?_ (by assumption) ?_
        | refine gm_put ?_ ?_ rfl
        | refine mi_up ?_ rfl
        | exact gm_i (by assumption)
        | exact md_i (by assumption)
        | exact sb_id
        | exact sb_T_s
        | exact sb_T_Q
        | exact sb_T_M
        | exact sb_R_M
        | exact sb_L_M
        | exact mo_l
        | exact mo1_sub
        | exact mo1_one sb_T_s
        | exact mo1_one mo_l
        | exact mo1_one sb_T_Q
        | exact mo1_one (mo1_one sb_T_s)
        | exact mo1_one (mo1_one sb_id)
        | exact fun k j h => sb_T_Q k j (mo_l k j h)
        | exact fun k j h => mo_l k j (mo_l k j h)
        | exact fun k j h => sb_T_s k j (mo_l k j h)
        | refine ih _ _ _ _ _ ?_ ?_ ?_ ?_ ?_ ?_ ?_
        | refine And.intro (fun h => absurd h (by decide)) (fun _ => ?_)
        | refine And.intro (fun _ => ?_) (fun h => absurd (by decide) h)
        | refine And.intro (fun _ => ?_) (fun _ => ?_)
        | refine And.intro ?_ ?_
      all_goals (first | assumption | decide | (intro z; have he := am_each (s := am_c a) (by simp only [am_c] at *; omega) (by simp only [am_c] at *; omega); simp only [show am_c 99 = 99 from rfl] at z; simp only [am_c] at *; omega) | omega | rfl | (simp only [am_c] at * <;> omega) | (simp only [am_c, am_up] at * <;> omega) | (simp [am_c, am_up] at * <;> omega))
  have lp104' : ∀ (w e q i : Int) (μ : am_N) , gm mQ ν μ → 1 ≤ e → e ≤ 20 → i ≤ 3 → -1 ≤ i → 0 ≤ am_c b → am_AW l 0 (fun _ => 0) 197 Q 104 [some (.inr (.inr 83)), some (.inl a), some (.inl b), some (.inl w), some (.inl e), some (.inl q), some (.inl i)] [] μ := fun w e q i μ hv0 hv1 hv2 hv3 hv4 hv5 => lp104 ((i + 2) + 1).toNat w e q i μ hv0 hv1 hv2 hv3 hv4 hv5 (by omega)
  have lp82 : ∀ (w : Int) (μ : am_N), gm mQ ν μ → 5 ≤ am_c a → am_c a ≤ 50 → 0 ≤ am_c b → am_AW l 0 (fun _ => 0) 197 Q 82 [some (.inr (.inr 83)), some (.inl a), some (.inl b), some (.inl w), none, none, none] [] μ := by
    intro w μ hv0 hv1 hv2 hv3
    have hb := mi_all hv0.1
    have he := am_each (s := am_c a) (by assumption) (by assumption)
    have h9 : am_c 99 = 99 := rfl
    refine am_go (ct := fun pc => Nat.beq pc 104 || Nat.beq pc 82) am_oX7_starts 300 ?_
    conv => whnf
    repeat' first
      | (refine (?_ : am_wp _ _ _ _ _ _ _ _ _ _ _ _); conv => whnf)
      | (refine (?_ : am_sw _ _ _ _); conv => whnf)
      | refine And.intro trivial ?_
      | exact trivial
      | assumption
      | refine k _ _ ?_
      | refine m_keepM (A := mQ) (ν := ν) ?_ (fun _ _ _ _ _ => ?_)
      | refine m_comeM (A := mQ) (ν := ν) ?_ (by first | exact sb_id | exact mo_l | exact mo1_sub) rfl (fun _ _ _ => ?_)
      | refine m_isIn _ _ _ (fun _ _ => ?_) (fun _ => ?_)
      | refine m_no _ (gm_rf (by repeat' first | assumption | exact gm_i (by assumption) | exact md_i (by assumption) | refine mi_up ?_ rfl | refine mi_100 ?_ ?_ ?_ | (simp only [am_c] at * <;> omega))) ?_ ?_ (fun _ _ _ _ => ?_)
      | refine m_findStarts _ (by repeat' first | assumption | exact gm_i (by assumption) | exact md_i (by assumption) | refine mi_up ?_ rfl | refine mi_100 ?_ ?_ ?_ | (simp only [am_c] at * <;> omega)) ?_ ?_ (fun _ _ => ?_)
      | exact gm_rf hS
      | refine gm_up ?_ rfl rfl
      | refine gm_up ?_ mo1_self rfl
      | refine gm_up ?_ mo1_in rfl
      | refine gm_100 ?_ rfl ?_ ?_
      | refine gm_14 ?_ rfl ?_ ?_
      | refine gm_15 ?_ rfl ?_ ?_
      | refine gm_16 ?_ rfl ?_ ?_
      | refine gm_21 ?_ rfl ?_ ?_
      | refine gm_33 ?_ rfl ?_ ?_
      | refine gm_40 ?_ rfl ?_ ?_
      | refine gm_42 ?_ rfl ?_ ?_
      | refine md_up ?_ rfl rfl
      | refine md_tr ?_ (by assumption) ?_
      | refine gm_tr ?_ (by assumption) ?_
      | refine gm_put ?_ ?_ rfl
      | refine mi_up ?_ rfl
      | exact gm_i (by assumption)
      | exact md_i (by assumption)
      | exact sb_id
      | exact sb_T_s
      | exact sb_T_Q
      | exact sb_T_M
      | exact sb_R_M
      | exact sb_L_M
      | exact mo_l
      | exact mo1_sub
      | exact mo1_one sb_T_s
      | exact mo1_one mo_l
      | exact mo1_one sb_T_Q
      | exact mo1_one (mo1_one sb_T_s)
      | exact mo1_one (mo1_one sb_id)
      | exact fun k j h => sb_T_Q k j (mo_l k j h)
      | exact fun k j h => mo_l k j (mo_l k j h)
      | exact fun k j h => sb_T_s k j (mo_l k j h)
      | refine lp104' _ _ _ _ _ ?_ ?_ ?_ ?_ ?_ ?_
      | refine And.intro (fun h => absurd h (by decide)) (fun _ => ?_)
      | refine And.intro (fun _ => ?_) (fun h => absurd (by decide) h)
      | refine And.intro (fun _ => ?_) (fun _ => ?_)
      | refine And.intro ?_ ?_
    all_goals (first | assumption | decide | omega | (rw [h9]; omega) | (simp only [h9, am_c] at * <;> omega))
  refine am_go (ct := fun pc => Nat.beq pc 104 || Nat.beq pc 82) am_oX7_starts 300 ?_
  conv => whnf
  repeat' first
    | (refine (?_ : am_wp _ _ _ _ _ _ _ _ _ _ _ _); conv => whnf)
    | (refine (?_ : am_sw _ _ _ _); conv => whnf)
    | refine And.intro trivial ?_
    | exact trivial
    | assumption
    | refine k _ _ ?_
    | refine m_keepM (A := mQ) (ν := ν) ?_ (fun _ _ _ _ _ => ?_)
    | refine m_comeM (A := mQ) (ν := ν) ?_ (by first | exact sb_id | exact mo_l | exact mo1_sub) rfl (fun _ _ _ => ?_)
    | refine m_isIn _ _ _ (fun _ _ => ?_) (fun _ => ?_)
    | refine m_no _ (gm_rf (by repeat' first | assumption | exact gm_i (by assumption) | exact md_i (by assumption) | refine mi_up ?_ rfl | refine mi_100 ?_ ?_ ?_ | (simp only [am_c] at * <;> omega))) ?_ ?_ (fun _ _ _ _ => ?_)
    | refine m_findStarts _ (by repeat' first | assumption | exact gm_i (by assumption) | exact md_i (by assumption) | refine mi_up ?_ rfl | refine mi_100 ?_ ?_ ?_ | (simp only [am_c] at * <;> omega)) ?_ ?_ (fun _ _ => ?_)
    | exact gm_rf hS
    | refine gm_up ?_ rfl rfl
    | refine gm_up ?_ mo1_self rfl
    | refine gm_up ?_ mo1_in rfl
    | refine gm_100 ?_ rfl ?_ ?_
    | refine gm_14 ?_ rfl ?_ ?_
    | refine gm_15 ?_ rfl ?_ ?_
    | refine gm_16 ?_ rfl ?_ ?_
    | refine gm_21 ?_ rfl ?_ ?_
    | refine gm_33 ?_ rfl ?_ ?_
    | refine gm_40 ?_ rfl ?_ ?_
    | refine gm_42 ?_ rfl ?_ ?_
    | refine md_up ?_ rfl rfl
    | refine md_tr ?_ (by assumption) ?_
    | refine gm_tr ?_ (by assumption) ?_
    | refine gm_put ?_ ?_ rfl
    | refine mi_up ?_ rfl
    | exact gm_i (by assumption)
    | exact md_i (by assumption)
    | exact sb_id
    | exact sb_T_s
    | exact sb_T_Q
    | exact sb_T_M
    | exact sb_R_M
    | exact sb_L_M
    | exact mo_l
    | exact mo1_sub
    | exact mo1_one sb_T_s
    | exact mo1_one mo_l
    | exact mo1_one sb_T_Q
    | exact mo1_one (mo1_one sb_T_s)
    | exact mo1_one (mo1_one sb_id)
    | exact fun k j h => sb_T_Q k j (mo_l k j h)
    | exact fun k j h => mo_l k j (mo_l k j h)
    | exact fun k j h => sb_T_s k j (mo_l k j h)
    | refine lp82 _ _ ?_ ?_ ?_ ?_
    | refine lp104' _ _ _ _ _ ?_ ?_ ?_ ?_ ?_ ?_
    | refine And.intro (fun h => absurd h (by decide)) (fun _ => ?_)
    | refine And.intro (fun _ => ?_) (fun h => absurd (by decide) h)
    | refine And.intro (fun _ => ?_) (fun _ => ?_)
    | refine And.intro ?_ ?_
  all_goals (first | assumption | decide | (intro z; have he := am_each (s := am_c a) (by simp only [am_c] at *; omega) (by simp only [am_c] at *; omega); simp only [show am_c 99 = 99 from rfl] at z; simp only [am_c] at *; omega) | omega | rfl | (simp only [am_c] at * <;> omega) | (simp only [am_c, am_up] at * <;> omega) | (simp [am_c, am_up] at * <;> omega))
