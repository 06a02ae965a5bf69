/-! contracts: the model's image, restore, lane (weak; bags and clauses exactly) -/
def mL2 (k j : Nat) : Bool := Nat.beq k 83 && (Nat.beq j 21 || Nat.beq j 33)
abbrev mLN : Nat → Nat → Bool := mo (mo mQ mM1) mL2
theorem sb_LN_Q : ∀ k j, mLN k j = false → mQ k j = false := fun k j h => mo_l k j (mo_l k j h)
theorem sb_LN_s : ∀ k j, mLN k j = false → ms k j = false := fun k j h => mo_l k j (sb_LN_Q k j h)
theorem sb_LN_M : ∀ k j, mLN k j = false → mM k j = false := fun k j h => Bool.or_eq_false_iff.mpr ⟨sb_LN_s k j h, mo_r k j (mo_l k j h)⟩
theorem m_comeL {l : Launch} {A : Nat → Nat → Bool} {ν μ : am_N} {Q : Option am_V → am_N → Prop} (h : MD A ν μ) (hA : ∀ k j, A k j = false → mQ k j = false) (k : ∀ μ', gm A ν μ' → μ' 83 21 = μ 83 21 → Q none μ') : am_Does l 159 [.inr (.inr 83), .inl 1, .inl 0] μ Q := m_come1 (fun μ' hk _ e _ => k μ' (md_back h hk hA) e)
theorem m_comesE {l : Launch} {ν : am_N} {Q : Option am_V → am_N → Prop} (i : Int) (hS : mi ν) (hi0 : 0 ≤ i) (hi1 : i ≤ 47) (k : ∀ (r : Int) (μ' : am_N), gm mL ν μ' → (r = 0 ∨ r = 1) → μ' 83 21 = ν 83 21 → μ' 83 23 = ν 83 23 → Q (some (.inl r)) μ') : am_Does l 155 [.inr (.inr 83), .inl i] ν Q := m_comes i (gm_rf hS) hi0 hi1 (fun r μ' h hr => k r μ' h hr (h.2 83 21 rfl) (h.2 83 23 rfl))
theorem m_noE {l : Launch} {ν : am_N} {Q : Option am_V → am_N → Prop} (w : Int) (hS : mi ν) (h0 : -6 ≤ w) (h1 : w ≤ -1) (k : ∀ (r : Int) (μ' : am_N), gm ms ν μ' → r = w → μ' 83 15 = ν 83 15 → μ' 83 16 = ν 83 16 → Q (some (.inl r)) μ') : am_Does l 140 [.inr (.inr 83), .inl w] ν Q := m_no w (gm_rf hS) h0 h1 (fun r μ' h hr => k r μ' h hr (h.2 83 15 rfl) (h.2 83 16 rfl))
theorem KPs0_gm {ν μ : am_N} (h : mi ν) (hk : KPs 0 ν μ) : gm mI ν μ := by
  have e : ∀ p q, ¬ (p = 98 ∧ 0 ≤ q ∧ q < 0 + 45) → ¬ (p = 83 ∧ (q = 26 ∨ q = 27)) → μ p q = ν p q := hk.2
  have k1 := hk.1 83 14 44 rfl
  have k2 := hk.1 83 15 38 rfl
  have k3 := hk.1 83 16 39 rfl
  simp only [Nat.zero_add] at k1 k2 k3
  refine ⟨?_, fun p q hpq => e p q ?_ ?_⟩
  · unfold mi at h ⊢
    rw [e 83 14 (by omega) (by omega), e 83 15 (by omega) (by omega), e 83 16 (by omega) (by omega), e 83 21 (by omega) (by omega), e 83 33 (by omega) (by omega), e 83 40 (by omega) (by omega), e 83 42 (by omega) (by omega), k1, k2, k3]
    refine ⟨h.1, h.2.1, h.2.2.1, h.2.2.2.1, h.2.2.2.2.1, h.2.2.2.2.2.1, h.2.2.2.2.2.2.1, h.1, h.2.1, h.2.2.1, fun p hp => ?_⟩
    rw [e 100 p (by omega) (by omega)]
    exact h.2.2.2.2.2.2.2.2.2.2 p hp
  · rintro ⟨rfl, -, z⟩
    have z2 : Nat.blt q 60 = true := Nat.ble_eq.mpr (show q + 1 ≤ 60 by omega)
    simp only [mo, mI1, Bool.or_eq_false_iff, Bool.and_eq_false_iff] at hpq
    rcases hpq.2.1 with y | y
    · cases y
    · rw [z2] at y; cases y
  · rintro ⟨rfl, rfl | rfl⟩ <;> cases hpq
theorem KPl0_gm {ν μ : am_N} (h : mi ν) (hk : KPl 0 ν μ) : gm mX ν μ := by
  have k1 := hk.1 83 14 44 rfl
  have k2 := hk.1 83 15 38 rfl
  have k3 := hk.1 83 16 39 rfl
  simp only [Nat.zero_add] at k1 k2 k3
  have e := hk.2
  refine ⟨?_, fun p q hpq => e p q ?_ ?_⟩
  · unfold mi at h ⊢
    rw [k1, k2, k3, e 83 21 rfl (by omega), e 83 33 rfl (by omega), e 83 40 rfl (by omega), e 83 42 rfl (by omega), e 98 44 rfl (by omega), e 98 38 rfl (by omega), e 98 39 rfl (by omega)]
    refine ⟨h.2.2.2.2.2.2.2.1, h.2.2.2.2.2.2.2.2.1, h.2.2.2.2.2.2.2.2.2.1, h.2.2.2.1, h.2.2.2.2.1, h.2.2.2.2.2.1, h.2.2.2.2.2.2.1, h.2.2.2.2.2.2.2.1, h.2.2.2.2.2.2.2.2.1, h.2.2.2.2.2.2.2.2.2.1, fun p hp => ?_⟩
    rw [e 100 p (by unfold kp_at; rw [if_neg (by omega), if_neg (by omega), if_neg (by omega), if_neg (by omega), if_neg (by omega), if_neg (by omega)]) (by omega)]
    exact h.2.2.2.2.2.2.2.2.2.2 p hp
  · cases ho : kp_at p q with
    | none => rfl
    | some o =>
      exfalso
      have ha : ((85 ≤ p ∧ p ≤ 93) ∨ (p = 83 ∧ (10 ≤ q ∧ q ≤ 16))) := by
        unfold kp_at at ho
        repeat' split at ho
        all_goals first | cases ho; done | omega
      have hb := mo_r p q hpq
      simp only [mX1, Bool.or_eq_false_iff, Bool.and_eq_false_iff] at hb
      rcases ha with ⟨a1, a2⟩ | ⟨rfl, a1, a2⟩
      · rcases hb.1 with y | y
        · rw [Nat.ble_eq.mpr a1] at y; cases y
        · rw [Nat.ble_eq.mpr a2] at y; cases y
      · rcases hb.2 with y | ⟨y | y, -⟩
        · cases y
        · rw [Nat.ble_eq.mpr a1] at y; cases y
        · rw [Nat.ble_eq.mpr a2] at y; cases y
  · rintro ⟨rfl, rfl | rfl⟩ <;> cases hpq
theorem m_keep0E {l : Launch} {μ : am_N} {Q : Option am_V → am_N → Prop} (h : mi μ) (k : ∀ μ', gm mI μ μ' → μ' 98 38 = μ 83 15 → μ' 98 39 = μ 83 16 → μ' 83 25 = μ 83 25 → Q none μ') : am_Does l 159 [.inr (.inr 83), .inl 0, .inl 1] μ Q := m_keep0 (fun μ' hk _ _ _ => k μ' (KPs0_gm h hk) (hk.1 83 15 38 rfl) (hk.1 83 16 39 rfl) (hk.2 83 25 (by omega) (by omega)))
theorem m_come0E {l : Launch} {μ : am_N} {Q : Option am_V → am_N → Prop} (h : mi μ) (k : ∀ μ', gm mX μ μ' → μ' 83 15 = μ 98 38 → μ' 83 16 = μ 98 39 → Q none μ') : am_Does l 159 [.inr (.inr 83), .inl 0, .inl 0] μ Q := m_come0 (fun μ' hk _ _ _ => k μ' (KPl0_gm h hk) (hk.1 83 15 38 rfl) (hk.1 83 16 39 rfl))
theorem m_image {l : Launch} {ν : am_N} {Q : Option am_V → am_N → Prop}  (hS : mi ν)   (k : ∀ (r : Int) (μ' : am_N), gm mI ν μ' → μ' 98 38 = ν 83 15 → μ' 98 39 = ν 83 16 → μ' 83 25 = 1 → Q (some (.inl r)) μ') : am_Does l 160 [.inr (.inr 83)] ν Q := by
  refine am_Does_of (Nat.le_of_ble_eq_true rfl) (Nat.le_of_ble_eq_true rfl) (Nat.le_of_ble_eq_true rfl) ?_
  have hb := mi_all hS
  refine am_go (ct := fun _ => false) am_oX7_image 300 ?_
  conv => whnf
  repeat' first
    | (refine (?_ : am_wp _ _ _ _ _ _ _ _ _ _ _ _); conv => whnf)
    | (refine (?_ : am_sw _ _ _ _); conv => whnf)
    | refine And.intro trivial ?_
    | exact trivial
    | assumption
    | refine k _ _ ?_ ?_ ?_ ?_
    | refine m_keep0E (by repeat' first | assumption | exact gm_i (by assumption) | exact md_i (by assumption) | refine mi_up ?_ rfl | refine mi_100 ?_ ?_ ?_ | (simp only [am_c] at * <;> omega)) (fun _ _ _ _ _ => ?_)
    | exact sb_R_KR
    | exact sb_T_KR
    | exact sb_T_K
    | exact fun k j h => mo_l k j (mo_l k j h)
    | exact mo_l
    | exact gm_rf hS
    | refine gm_up ?_ rfl rfl
    | refine gm_up ?_ mo1_self rfl
    | refine gm_up ?_ mo1_in rfl
    | refine gm_100 ?_ rfl ?_ ?_
    | refine gm_14 ?_ rfl ?_ ?_
    | refine gm_15 ?_ rfl ?_ ?_
    | refine gm_16 ?_ rfl ?_ ?_
    | refine gm_21 ?_ rfl ?_ ?_
    | refine gm_33 ?_ rfl ?_ ?_
    | refine gm_40 ?_ rfl ?_ ?_
    | refine gm_42 ?_ rfl ?_ ?_
    | refine md_up ?_ rfl rfl
    | refine md_tr ?_ (by assumption) ?_
    | refine gm_tr ?_ (by assumption) ?_
    | refine gm_put ?_ ?_ rfl
    | refine mi_up ?_ rfl
    | exact gm_i (by assumption)
    | exact md_i (by assumption)
    | exact sb_id
    | exact sb_T_s
    | exact sb_T_Q
    | exact sb_T_M
    | exact sb_R_M
    | exact sb_L_M
    | exact mo_l
    | exact mo1_sub
    | exact mo1_one sb_T_s
    | exact mo1_one mo_l
    | exact mo1_one sb_T_Q
    | exact mo1_one (mo1_one sb_T_s)
    | exact mo1_one (mo1_one sb_id)
    | exact fun k j h => sb_T_Q k j (mo_l k j h)
    | exact fun k j h => mo_l k j (mo_l k j h)
    | exact fun k j h => sb_T_s k j (mo_l k j h)
    | refine And.intro (fun h => absurd h (by decide)) (fun _ => ?_)
    | refine And.intro (fun _ => ?_) (fun h => absurd (by decide) h)
    | refine And.intro (fun _ => ?_) (fun _ => ?_)
    | refine And.intro ?_ ?_
  all_goals (first | assumption | decide | omega | rfl | (simp only [am_c] at * <;> omega) | (simp only [am_c, am_up] at * <;> omega) | (simp [am_c, am_up] at * <;> omega))
theorem m_restore {l : Launch} {ν : am_N} {Q : Option am_V → am_N → Prop}  (hS : mi ν)   (k : ∀ (r : Int) (μ' : am_N), gm mX ν μ' → ((am_c (ν 83 25) = 0 ∧ μ' 83 15 = ν 83 15 ∧ μ' 83 16 = ν 83 16) ∨ (¬ am_c (ν 83 25) = 0 ∧ μ' 83 15 = ν 98 38 ∧ μ' 83 16 = ν 98 39)) → Q (some (.inl r)) μ') : am_Does l 161 [.inr (.inr 83)] ν Q := by
  refine am_Does_of (Nat.le_of_ble_eq_true rfl) (Nat.le_of_ble_eq_true rfl) (Nat.le_of_ble_eq_true rfl) ?_
  have hb := mi_all hS
  refine am_go (ct := fun _ => false) am_oX7_restore 300 ?_
  conv => whnf
  repeat' first
    | (refine (?_ : am_wp _ _ _ _ _ _ _ _ _ _ _ _); conv => whnf)
    | (refine (?_ : am_sw _ _ _ _); conv => whnf)
    | refine And.intro trivial ?_
    | exact trivial
    | assumption
    | refine k _ _ ?_ ?_
    | refine m_come0E (by repeat' first | assumption | exact gm_i (by assumption) | exact md_i (by assumption) | refine mi_up ?_ rfl | refine mi_100 ?_ ?_ ?_ | (simp only [am_c] at * <;> omega)) (fun _ _ _ _ => ?_)
    | exact sb_R_KR
    | exact sb_T_KR
    | exact sb_T_K
    | exact fun k j h => mo_l k j (mo_l k j h)
    | exact mo_l
    | refine m_noE _ (by repeat' first | assumption | exact gm_i (by assumption) | exact md_i (by assumption) | refine mi_up ?_ rfl | refine mi_100 ?_ ?_ ?_ | (simp only [am_c] at * <;> omega)) ?_ ?_ (fun _ _ _ _ _ _ => ?_)
    | exact gm_rf hS
    | refine gm_up ?_ rfl rfl
    | refine gm_up ?_ mo1_self rfl
    | refine gm_up ?_ mo1_in rfl
    | refine gm_100 ?_ rfl ?_ ?_
    | refine gm_14 ?_ rfl ?_ ?_
    | refine gm_15 ?_ rfl ?_ ?_
    | refine gm_16 ?_ rfl ?_ ?_
    | refine gm_21 ?_ rfl ?_ ?_
    | refine gm_33 ?_ rfl ?_ ?_
    | refine gm_40 ?_ rfl ?_ ?_
    | refine gm_42 ?_ rfl ?_ ?_
    | refine md_up ?_ rfl rfl
    | refine md_tr ?_ (by assumption) ?_
    | refine gm_tr ?_ (by assumption) ?_
    | refine gm_put ?_ ?_ rfl
    | refine mi_up ?_ rfl
    | exact gm_i (by assumption)
    | exact md_i (by assumption)
    | exact sb_id
    | exact sb_T_s
    | exact sb_T_Q
    | exact sb_T_M
    | exact sb_R_M
    | exact sb_L_M
    | exact mo_l
    | exact mo1_sub
    | exact mo1_one sb_T_s
    | exact mo1_one mo_l
    | exact mo1_one sb_T_Q
    | exact mo1_one (mo1_one sb_T_s)
    | exact mo1_one (mo1_one sb_id)
    | exact fun k j h => sb_T_Q k j (mo_l k j h)
    | exact fun k j h => mo_l k j (mo_l k j h)
    | exact fun k j h => sb_T_s k j (mo_l k j h)
    | refine And.intro (fun h => absurd h (by decide)) (fun _ => ?_)
    | refine And.intro (fun _ => ?_) (fun h => absurd (by decide) h)
    | refine And.intro (fun _ => ?_) (fun _ => ?_)
    | refine And.intro ?_ ?_
  all_goals (first | assumption | decide | omega | rfl | (simp [am_up] at * <;> omega))
theorem m_lane {l : Launch} {ν : am_N} {Q : Option am_V → am_N → Prop}  (hS : mi ν)   (k : ∀ (r : Int) (μ' : am_N), gm mLN ν μ' → μ' 83 21 = 0 → Q (some (.inl r)) μ') : am_Does l 156 [.inr (.inr 83)] ν Q := by
  refine am_Does_of (Nat.le_of_ble_eq_true rfl) (Nat.le_of_ble_eq_true rfl) (Nat.le_of_ble_eq_true rfl) ?_
  have hb := mi_all hS
  have lp86 : ∀ (m : Nat) (g i : Int) (μ : am_N) , MD mLN ν μ → 0 ≤ i → i ≤ 48 → 0 ≤ μ 83 23 → μ 83 23 ≤ 48 → μ 83 21 = 0 → 48 - i < (m : Int) → am_AW l 0 (fun _ => 0) 156 Q 86 [some (.inr (.inr 83)), some (.inl g), some (.inl i)] [] μ := by
    intro m
    induction m with
    | zero =>
      intro g i μ hv0 hv1 hv2 hv3 hv4 hv5 hm
      have hb := mi_all (md_i hv0)
      exfalso
      omega
    | succ m ih =>
      intro g i μ hv0 hv1 hv2 hv3 hv4 hv5 hm
      have hb := mi_all (md_i hv0)
      refine am_go (ct := fun pc => Nat.beq pc 86 || Nat.beq pc 60 || Nat.beq pc 12) am_oX7_lane 300 ?_
      conv => whnf
      repeat' first
        | (refine (?_ : am_wp _ _ _ _ _ _ _ _ _ _ _ _); conv => whnf)
        | (refine (?_ : am_sw _ _ _ _); conv => whnf)
        | refine And.intro trivial ?_
        | exact trivial
        | assumption
        | refine k _ _ ?_ ?_
        | refine m_keepM (A := mLN) (ν := ν) ?_ (fun _ _ _ _ _ => ?_)
        | refine m_comeL (A := mLN) (ν := ν) ?_ sb_LN_Q (fun _ _ _ => ?_)
        | refine gm_sub (by assumption : gm ms _ _) sb_LN_s
        | refine md_out (by assumption) sb_LN_Q sb_LN_M
        | refine m_statement  (gm_rf (by repeat' first | assumption | exact gm_i (by assumption) | exact md_i (by assumption) | refine mi_up ?_ rfl | refine mi_100 ?_ ?_ ?_ | (simp only [am_c] at * <;> omega))) ?_ ?_ ?_ ?_ ?_ ?_ (fun _ _ _ _ _ _ _ _ _ => ?_)
        | refine m_comesE _ (by repeat' first | assumption | exact gm_i (by assumption) | exact md_i (by assumption) | refine mi_up ?_ rfl | refine mi_100 ?_ ?_ ?_ | (simp only [am_c] at * <;> omega)) ?_ ?_ (fun _ _ _ _ _ _ => ?_)
        | exact gm_rf hS
        | refine gm_up ?_ rfl rfl
        | refine gm_up ?_ mo1_self rfl
        | refine gm_up ?_ mo1_in rfl
        | refine gm_100 ?_ rfl ?_ ?_
        | refine gm_14 ?_ rfl ?_ ?_
        | refine gm_15 ?_ rfl ?_ ?_
        | refine gm_16 ?_ rfl ?_ ?_
        | refine gm_21 ?_ rfl ?_ ?_
        | refine gm_33 ?_ rfl ?_ ?_
        | refine gm_40 ?_ rfl ?_ ?_
        | refine gm_42 ?_ rfl ?_ ?_
        | refine md_up ?_ rfl rfl
        | refine md_tr ?_ (by assumption) ?_
        | refine gm_tr ?_ (by assumption) ?_
        | refine gm_put ?_ ?_ rfl
        | refine mi_up ?_ rfl
        | exact gm_i (by assumption)
        | exact md_i (by assumption)
        | exact sb_id
        | exact sb_T_s
        | exact sb_T_Q
        | exact sb_T_M
        | exact sb_R_M
        | exact sb_L_M
        | exact mo_l
        | exact mo1_sub
        | exact mo1_one sb_T_s
        | exact mo1_one mo_l
        | exact mo1_one sb_T_Q
        | exact mo1_one (mo1_one sb_T_s)
        | exact mo1_one (mo1_one sb_id)
        | exact fun k j h => sb_T_Q k j (mo_l k j h)
        | exact fun k j h => mo_l k j (mo_l k j h)
        | exact fun k j h => sb_T_s k j (mo_l k j h)
        | refine ih _ _ _ ?_ ?_ ?_ ?_ ?_ ?_ ?_
        | refine And.intro (fun h => absurd h (by decide)) (fun _ => ?_)
        | refine And.intro (fun _ => ?_) (fun h => absurd (by decide) h)
        | refine And.intro (fun _ => ?_) (fun _ => ?_)
        | refine And.intro ?_ ?_
      all_goals (first | assumption | decide | omega | rfl | (simp only [am_c] at * <;> omega) | (simp only [am_c, am_up] at * <;> omega) | (simp [am_c, am_up] at * <;> omega))
  have lp86' : ∀ (g i : Int) (μ : am_N) , MD mLN ν μ → 0 ≤ i → i ≤ 48 → 0 ≤ μ 83 23 → μ 83 23 ≤ 48 → μ 83 21 = 0 → am_AW l 0 (fun _ => 0) 156 Q 86 [some (.inr (.inr 83)), some (.inl g), some (.inl i)] [] μ := fun g i μ hv0 hv1 hv2 hv3 hv4 hv5 => lp86 ((48 - i) + 1).toNat g i μ hv0 hv1 hv2 hv3 hv4 hv5 (by omega)
  have lp60 : ∀ (g : Int) (μ : am_N), gm ms ν μ → 0 ≤ μ 83 23 → 2 * μ 83 23 ≤ μ 83 22 → μ 83 22 ≤ 96 → am_AW l 0 (fun _ => 0) 156 Q 60 [some (.inr (.inr 83)), some (.inl g), none] [] μ := by
    intro g μ hv0 hv1 hv2 hv3
    have hb := mi_all hv0.1
    refine am_go (ct := fun pc => Nat.beq pc 86 || Nat.beq pc 60 || Nat.beq pc 12) am_oX7_lane 300 ?_
    conv => whnf
    repeat' first
      | (refine (?_ : am_wp _ _ _ _ _ _ _ _ _ _ _ _); conv => whnf)
      | (refine (?_ : am_sw _ _ _ _); conv => whnf)
      | refine And.intro trivial ?_
      | exact trivial
      | assumption
      | refine k _ _ ?_ ?_
      | refine m_keepM (A := mLN) (ν := ν) ?_ (fun _ _ _ _ _ => ?_)
      | refine m_comeL (A := mLN) (ν := ν) ?_ sb_LN_Q (fun _ _ _ => ?_)
      | refine gm_sub (by assumption : gm ms _ _) sb_LN_s
      | refine md_out (by assumption) sb_LN_Q sb_LN_M
      | refine m_statement  (gm_rf (by repeat' first | assumption | exact gm_i (by assumption) | exact md_i (by assumption) | refine mi_up ?_ rfl | refine mi_100 ?_ ?_ ?_ | (simp only [am_c] at * <;> omega))) ?_ ?_ ?_ ?_ ?_ ?_ (fun _ _ _ _ _ _ _ _ _ => ?_)
      | refine m_comesE _ (by repeat' first | assumption | exact gm_i (by assumption) | exact md_i (by assumption) | refine mi_up ?_ rfl | refine mi_100 ?_ ?_ ?_ | (simp only [am_c] at * <;> omega)) ?_ ?_ (fun _ _ _ _ _ _ => ?_)
      | exact gm_rf hS
      | refine gm_up ?_ rfl rfl
      | refine gm_up ?_ mo1_self rfl
      | refine gm_up ?_ mo1_in rfl
      | refine gm_100 ?_ rfl ?_ ?_
      | refine gm_14 ?_ rfl ?_ ?_
      | refine gm_15 ?_ rfl ?_ ?_
      | refine gm_16 ?_ rfl ?_ ?_
      | refine gm_21 ?_ rfl ?_ ?_
      | refine gm_33 ?_ rfl ?_ ?_
      | refine gm_40 ?_ rfl ?_ ?_
      | refine gm_42 ?_ rfl ?_ ?_
      | refine md_up ?_ rfl rfl
      | refine md_tr ?_ (by assumption) ?_
      | refine gm_tr ?_ (by assumption) ?_
      | refine gm_put ?_ ?_ rfl
      | refine mi_up ?_ rfl
      | exact gm_i (by assumption)
      | exact md_i (by assumption)
      | exact sb_id
      | exact sb_T_s
      | exact sb_T_Q
      | exact sb_T_M
      | exact sb_R_M
      | exact sb_L_M
      | exact mo_l
      | exact mo1_sub
      | exact mo1_one sb_T_s
      | exact mo1_one mo_l
      | exact mo1_one sb_T_Q
      | exact mo1_one (mo1_one sb_T_s)
      | exact mo1_one (mo1_one sb_id)
      | exact fun k j h => sb_T_Q k j (mo_l k j h)
      | exact fun k j h => mo_l k j (mo_l k j h)
      | exact fun k j h => sb_T_s k j (mo_l k j h)
      | refine lp86' _ _ _ ?_ ?_ ?_ ?_ ?_ ?_
      | refine And.intro (fun h => absurd h (by decide)) (fun _ => ?_)
      | refine And.intro (fun _ => ?_) (fun h => absurd (by decide) h)
      | refine And.intro (fun _ => ?_) (fun _ => ?_)
      | refine And.intro ?_ ?_
    all_goals (first | assumption | decide | omega | rfl | (simp only [am_c] at * <;> omega) | (simp only [am_c, am_up] at * <;> omega) | (simp [am_c, am_up] at * <;> omega))
  have lp12 : ∀ (m : Nat) (g : Int) (μ : am_N) , gm ms ν μ → 0 ≤ g → g ≤ 1 → 0 ≤ μ 83 23 → 2 * μ 83 23 ≤ μ 83 22 → μ 83 22 ≤ μ 83 21 → μ 83 21 = ν 83 21 → μ 83 21 - μ 83 22 + g < (m : Int) → am_AW l 0 (fun _ => 0) 156 Q 12 [some (.inr (.inr 83)), some (.inl g), none] [] μ := by
    intro m
    induction m with
    | zero =>
      intro g μ hv0 hv1 hv2 hv3 hv4 hv5 hv6 hm
      have hb := mi_all hv0.1
      exfalso
      omega
    | succ m ih =>
      intro g μ hv0 hv1 hv2 hv3 hv4 hv5 hv6 hm
      have hb := mi_all hv0.1
      refine am_go (ct := fun pc => Nat.beq pc 86 || Nat.beq pc 60 || Nat.beq pc 12) am_oX7_lane 300 ?_
      conv => whnf
      repeat' first
        | (refine (?_ : am_wp _ _ _ _ _ _ _ _ _ _ _ _); conv => whnf)
        | (refine (?_ : am_sw _ _ _ _); conv => whnf)
        | refine And.intro trivial ?_
        | exact trivial
        | assumption
        | refine k _ _ ?_ ?_
        | refine m_keepM (A := mLN) (ν := ν) ?_ (fun _ _ _ _ _ => ?_)
        | refine m_comeL (A := mLN) (ν := ν) ?_ sb_LN_Q (fun _ _ _ => ?_)
        | refine gm_sub (by assumption : gm ms _ _) sb_LN_s
        | refine md_out (by assumption) sb_LN_Q sb_LN_M
        | refine m_statement  (gm_rf (by repeat' first | assumption | exact gm_i (by assumption) | exact md_i (by assumption) | refine mi_up ?_ rfl | refine mi_100 ?_ ?_ ?_ | (simp only [am_c] at * <;> omega))) ?_ ?_ ?_ ?_ ?_ ?_ (fun _ _ _ _ _ _ _ _ _ => ?_)
        | refine m_comesE _ (by repeat' first | assumption | exact gm_i (by assumption) | exact md_i (by assumption) | refine mi_up ?_ rfl | refine mi_100 ?_ ?_ ?_ | (simp only [am_c] at * <;> omega)) ?_ ?_ (fun _ _ _ _ _ _ => ?_)
        | exact gm_rf hS
        | refine gm_up ?_ rfl rfl
        | refine gm_up ?_ mo1_self rfl
        | refine gm_up ?_ mo1_in rfl
        | refine gm_100 ?_ rfl ?_ ?_
        | refine gm_14 ?_ rfl ?_ ?_
        | refine gm_15 ?_ rfl ?_ ?_
        | refine gm_16 ?_ rfl ?_ ?_
        | refine gm_21 ?_ rfl ?_ ?_
        | refine gm_33 ?_ rfl ?_ ?_
        | refine gm_40 ?_ rfl ?_ ?_
        | refine gm_42 ?_ rfl ?_ ?_
        | refine md_up ?_ rfl rfl
        | refine md_tr ?_ (by assumption) ?_
        | refine gm_tr ?_ (by assumption) ?_
        | refine gm_put ?_ ?_ rfl
        | refine mi_up ?_ rfl
        | exact gm_i (by assumption)
        | exact md_i (by assumption)
        | exact sb_id
        | exact sb_T_s
        | exact sb_T_Q
        | exact sb_T_M
        | exact sb_R_M
        | exact sb_L_M
        | exact mo_l
        | exact mo1_sub
        | exact mo1_one sb_T_s
        | exact mo1_one mo_l
        | exact mo1_one sb_T_Q
        | exact mo1_one (mo1_one sb_T_s)
        | exact mo1_one (mo1_one sb_id)
        | exact fun k j h => sb_T_Q k j (mo_l k j h)
        | exact fun k j h => mo_l k j (mo_l k j h)
        | exact fun k j h => sb_T_s k j (mo_l k j h)
        | refine ih _ _ ?_ ?_ ?_ ?_ ?_ ?_ ?_ ?_
        | refine lp60 _ _ ?_ ?_ ?_ ?_
        | refine lp86' _ _ _ ?_ ?_ ?_ ?_ ?_ ?_
        | refine And.intro (fun h => absurd h (by decide)) (fun _ => ?_)
        | refine And.intro (fun _ => ?_) (fun h => absurd (by decide) h)
        | refine And.intro (fun _ => ?_) (fun _ => ?_)
        | refine And.intro ?_ ?_
      all_goals (first | assumption | decide | omega | rfl | (simp only [am_c] at * <;> omega) | (simp only [am_c, am_up] at * <;> omega) | (simp [am_c, am_up] at * <;> omega))
  have lp12' : ∀ (g : Int) (μ : am_N) , gm ms ν μ → 0 ≤ g → g ≤ 1 → 0 ≤ μ 83 23 → 2 * μ 83 23 ≤ μ 83 22 → μ 83 22 ≤ μ 83 21 → μ 83 21 = ν 83 21 → am_AW l 0 (fun _ => 0) 156 Q 12 [some (.inr (.inr 83)), some (.inl g), none] [] μ := fun g μ hv0 hv1 hv2 hv3 hv4 hv5 hv6 => lp12 ((μ 83 21 - μ 83 22 + g) + 1).toNat g μ hv0 hv1 hv2 hv3 hv4 hv5 hv6 (by omega)
  refine am_go (ct := fun pc => Nat.beq pc 86 || Nat.beq pc 60 || Nat.beq pc 12) am_oX7_lane 300 ?_
  conv => whnf
  repeat' first
    | (refine (?_ : am_wp _ _ _ _ _ _ _ _ _ _ _ _); conv => whnf)
    | (refine (?_ : am_sw _ _ _ _); conv => whnf)
    | refine And.intro trivial ?_
    | exact trivial
    | assumption
    | refine k _ _ ?_ ?_
    | refine m_keepM (A := mLN) (ν := ν) ?_ (fun _ _ _ _ _ => ?_)
    | refine m_comeL (A := mLN) (ν := ν) ?_ sb_LN_Q (fun _ _ _ => ?_)
    | refine gm_sub (by assumption : gm ms _ _) sb_LN_s
    | refine md_out (by assumption) sb_LN_Q sb_LN_M
    | refine m_statement  (gm_rf (by repeat' first | assumption | exact gm_i (by assumption) | exact md_i (by assumption) | refine mi_up ?_ rfl | refine mi_100 ?_ ?_ ?_ | (simp only [am_c] at * <;> omega))) ?_ ?_ ?_ ?_ ?_ ?_ (fun _ _ _ _ _ _ _ _ _ => ?_)
    | refine m_comesE _ (by repeat' first | assumption | exact gm_i (by assumption) | exact md_i (by assumption) | refine mi_up ?_ rfl | refine mi_100 ?_ ?_ ?_ | (simp only [am_c] at * <;> omega)) ?_ ?_ (fun _ _ _ _ _ _ => ?_)
    | exact gm_rf hS
    | refine gm_up ?_ rfl rfl
    | refine gm_up ?_ mo1_self rfl
    | refine gm_up ?_ mo1_in rfl
    | refine gm_100 ?_ rfl ?_ ?_
    | refine gm_14 ?_ rfl ?_ ?_
    | refine gm_15 ?_ rfl ?_ ?_
    | refine gm_16 ?_ rfl ?_ ?_
    | refine gm_21 ?_ rfl ?_ ?_
    | refine gm_33 ?_ rfl ?_ ?_
    | refine gm_40 ?_ rfl ?_ ?_
    | refine gm_42 ?_ rfl ?_ ?_
    | refine md_up ?_ rfl rfl
    | refine md_tr ?_ (by assumption) ?_
    | refine gm_tr ?_ (by assumption) ?_
    | refine gm_put ?_ ?_ rfl
    | refine mi_up ?_ rfl
    | exact gm_i (by assumption)
    | exact md_i (by assumption)
    | exact sb_id
    | exact sb_T_s
    | exact sb_T_Q
    | exact sb_T_M
    | exact sb_R_M
    | exact sb_L_M
    | exact mo_l
    | exact mo1_sub
    | exact mo1_one sb_T_s
    | exact mo1_one mo_l
    | exact mo1_one sb_T_Q
    | exact mo1_one (mo1_one sb_T_s)
    | exact mo1_one (mo1_one sb_id)
    | exact fun k j h => sb_T_Q k j (mo_l k j h)
    | exact fun k j h => mo_l k j (mo_l k j h)
    | exact fun k j h => sb_T_s k j (mo_l k j h)
    | refine lp12' _ _ ?_ ?_ ?_ ?_ ?_ ?_ ?_
    | refine lp60 _ _ ?_ ?_ ?_ ?_
    | refine lp86' _ _ _ ?_ ?_ ?_ ?_ ?_ ?_
    | refine And.intro (fun h => absurd h (by decide)) (fun _ => ?_)
    | refine And.intro (fun _ => ?_) (fun h => absurd (by decide) h)
    | refine And.intro (fun _ => ?_) (fun _ => ?_)
    | refine And.intro ?_ ?_
  all_goals (first | assumption | decide | omega | rfl | (simp only [am_c] at * <;> omega) | (simp only [am_c, am_up] at * <;> omega) | (simp [am_c, am_up] at * <;> omega))
