/-! races in mind and the model's public methods: words -/
theorem mo_l {A B : Nat → Nat → Bool} : ∀ k j, mo A B k j = false → A k j = false := fun _ _ h => (Bool.or_eq_false_iff.mp h).1
theorem mo_r {A B : Nat → Nat → Bool} : ∀ k j, mo A B k j = false → B k j = false := fun _ _ h => (Bool.or_eq_false_iff.mp h).2
theorem sb_id {A : Nat → Nat → Bool} : ∀ k j, A k j = false → A k j = false := fun _ _ h => h
theorem sb_T_s : ∀ k j, ms k j = false → mT k j = false := fun _ _ h => (Bool.or_eq_false_iff.mp h).1
theorem sb_T_Q : ∀ k j, mQ k j = false → mT k j = false := fun k j h => sb_T_s k j (mo_l k j h)
theorem sb_T_M : ∀ k j, mM k j = false → mT k j = false := fun k j h => sb_T_s k j (mo_l k j h)
theorem sb_R_M : ∀ k j, mM k j = false → mAR k j = false := fun k j h => by
  have h1 := sb_T_M k j h
  have h2 := mo_r k j h
  simp only [mM1, mR, mo, Bool.or_eq_false_iff, Bool.and_eq_false_iff] at h1 h2 ⊢
  refine ⟨h1, ?_, ?_, ?_⟩
  · cases q : Nat.beq k 89 with
    | false => rfl
    | true => have e := Nat.eq_of_beq_eq_true q; subst e; rcases h2.1 with z | z <;> cases z
  · cases q : Nat.beq k 90 with
    | false => rfl
    | true => have e := Nat.eq_of_beq_eq_true q; subst e; rcases h2.1 with z | z <;> cases z
  · cases q : Nat.beq j 11 with
    | false => exact Or.inr rfl
    | true => have e := Nat.eq_of_beq_eq_true q; subst e; rcases h2.2 with z | z | z <;> first | exact Or.inl z | cases z
theorem sb_L_M : ∀ k j, mM k j = false → mL k j = false := fun k j h => by
  refine Bool.or_eq_false_iff.mpr ⟨sb_R_M k j h, ?_⟩
  have h2 := mo_r k j h
  simp only [mM1, mL1, Bool.or_eq_false_iff, Bool.and_eq_false_iff] at h2 ⊢
  refine ⟨?_, ?_⟩
  · rcases h2.1 with z | z
    · exact Or.inl z
    · refine Or.inr ?_
      cases q : Nat.ble k 88 with
      | false => rfl
      | true => have e := Nat.ble_eq.mp q; rw [Nat.ble_eq.mpr (show k ≤ 90 by omega)] at z; cases z
  · rcases h2.2 with z | z | z
    · exact Or.inl z
    · refine Or.inr ?_
      have ne : ∀ c, 10 ≤ c → Nat.beq j c = false := fun c hc => by
        cases q : Nat.beq j c with
        | false => rfl
        | true => have e := Nat.eq_of_beq_eq_true q; rw [e, Nat.ble_eq.mpr hc] at z; cases z
      exact ⟨ne 10 (by decide), ne 12 (by decide), ne 13 (by decide), ne 14 (by decide)⟩
    · refine Or.inr ?_
      have ne : ∀ c, c ≤ 14 → Nat.beq j c = false := fun c hc => by
        cases q : Nat.beq j c with
        | false => rfl
        | true => have e := Nat.eq_of_beq_eq_true q; rw [e, Nat.ble_eq.mpr hc] at z; cases z
      exact ⟨ne 10 (by decide), ne 12 (by decide), ne 13 (by decide), ne 14 (by decide)⟩
theorem mo1_in {A : Nat → Nat → Bool} {a b c d : Nat} : mo1 (mo1 A a b) c d a b = true := by simp [mo1]
theorem m_keepM {l : Launch} {A : Nat → Nat → Bool} {ν μ : am_N} {Q : Option am_V → am_N → Prop} (h : gm A ν μ) (k : ∀ μ', MD A ν μ' → μ' 83 14 = μ 83 14 → μ' 83 21 = μ 83 21 → μ' 83 23 = μ 83 23 → Q none μ') : am_Does l 159 [.inr (.inr 83), .inl 1, .inl 1] μ Q := m_keep1 (fun μ' hk => k μ' (md_start h hk))
theorem m_comeM {l : Launch} {A : Nat → Nat → Bool} {ν μ : am_N} {Q : Option am_V → am_N → Prop} (h : MD A ν μ) (hA : ∀ k j, A k j = false → mQ k j = false) (h14 : A 83 14 = false) (k : ∀ μ', gm A ν μ' → μ' 83 14 = ν 83 14 → Q none μ') : am_Does l 159 [.inr (.inr 83), .inl 1, .inl 0] μ Q := m_come1 (fun μ' hk _ _ _ => k μ' (md_back h hk hA) ((md_back h hk hA).2 83 14 h14))
theorem m_runsE {l : Launch} {ν : am_N} {Q : Option am_V → am_N → Prop} (hS : mi ν) (h1 : 1 ≤ ν 83 14) (k : ∀ (r : Int) (μ' : am_N), gm mAR ν μ' → μ' 83 14 = ν 83 14 → Q (some (.inl r)) μ') : am_Does l 172 [.inr (.inr 83)] ν Q := m_runs (gm_rf hS) h1 (fun r μ' h => k r μ' h (h.2 83 14 rfl))
theorem m_mendsE {l : Launch} {ν : am_N} {Q : Option am_V → am_N → Prop} (hS : mi ν) (h1 : 1 ≤ ν 83 14) (k : ∀ (μ' : am_N), gm mAR ν μ' → μ' 83 14 = ν 83 14 → Q none μ') : am_Does l 171 [.inr (.inr 83)] ν Q := m_mends (gm_rf hS) h1 (fun μ' h => k μ' h (h.2 83 14 rfl))
theorem m_findFirstsE {l : Launch} {ν : am_N} {Q : Option am_V → am_N → Prop} (hS : mi ν) (k : ∀ (μ' : am_N), gm mT ν μ' → μ' 83 14 = ν 83 14 → μ' 83 10 = ν 83 10 → Q none μ') : am_Does l 182 [.inr (.inr 83)] ν Q := m_findFirsts (gm_rf hS) (fun μ' h => k μ' h (h.2 83 14 rfl) (h.2 83 10 rfl))
theorem m_unevenE {l : Launch} {ν : am_N} {Q : Option am_V → am_N → Prop} (hS : mi ν) (k : ∀ (r : Int) (μ' : am_N), gm mT ν μ' → μ' 83 14 = ν 83 14 → Q (some (.inl r)) μ') : am_Does l 183 [.inr (.inr 83)] ν Q := m_uneven (gm_rf hS) (fun r μ' h => k r μ' h (h.2 83 14 rfl))
theorem am_tm {i n : Int} (h0 : 0 ≤ i) (hn : 0 < n) : 0 ≤ i.tmod n ∧ i.tmod n < n := ⟨Int.tmod_nonneg _ h0, Int.tmod_lt_of_pos _ hn⟩
theorem am_td {i n c : Int} (h0 : 0 ≤ i) (hn : 0 < n) (h : i < c * n) : 0 ≤ i.tdiv n ∧ i.tdiv n < c := by
  rw [Int.tdiv_eq_ediv_of_nonneg h0]
  exact ⟨Int.ediv_nonneg h0 (Int.le_of_lt hn), Int.ediv_lt_of_lt_mul hn h⟩
theorem am_eachn : ∀ n : Nat, n < 51 → 5 ≤ n → 0 ≤ (99 : Int).tdiv (n : Int) ∧ (99 : Int).tdiv (n : Int) ≤ 19 := by decide +kernel
theorem am_each {s : Int} (h0 : 5 ≤ s) (h1 : s ≤ 50) : 0 ≤ (99 : Int).tdiv s ∧ (99 : Int).tdiv s ≤ 19 := by
  obtain ⟨n, rfl⟩ := Int.eq_ofNat_of_zero_le (show 0 ≤ s by omega)
  exact am_eachn n (by omega) (by omega)
theorem am_rc {n : Int} (h0 : 0 ≤ n) (h1 : n ≤ 4) : am_d (am_c (am_shl 1 (2 * n))) ≠ 0 := by
  rcases (show n = 0 ∨ n = 1 ∨ n = 2 ∨ n = 3 ∨ n = 4 by omega) with rfl | rfl | rfl | rfl | rfl <;> decide
theorem am_p16 {c n : Int} (h0 : 0 ≤ c) (h1 : c ≤ 4) (h2 : 0 ≤ n) (h3 : n ≤ 4) : 0 ≤ c * n ∧ c * n ≤ 16 := ⟨Int.mul_nonneg h0 h2, by
  have h := Int.mul_le_mul h1 h3 h2 (by decide)
  omega⟩
theorem am_dd (z : Int) : am_d (am_d z) = am_d z := by unfold am_d; omega
theorem am_drn {x y : Int} (hy : am_d y ≠ 0) : (am_d ((am_d x).tmod (am_d y))).natAbs < (am_d y).natAbs := by
  have hx : -9223372036854775808 ≤ am_d x ∧ am_d x ≤ 9223372036854775807 := by unfold am_d; omega
  have hy2 : -9223372036854775808 ≤ am_d y ∧ am_d y ≤ 9223372036854775807 := by unfold am_d; omega
  have e : ((am_d x).tmod (am_d y)).natAbs = (am_d x).natAbs % (am_d y).natAbs := Int.natAbs_tmod _ _
  have h : (am_d x).natAbs % (am_d y).natAbs < (am_d y).natAbs := Nat.mod_lt _ (by omega)
  have g : am_d ((am_d x).tmod (am_d y)) = (am_d x).tmod (am_d y) := by
    generalize (am_d x).tmod (am_d y) = w at e ⊢
    unfold am_d
    omega
  rw [g, e]
  exact h
theorem m_goesOn {l : Launch} {ν : am_N} {Q : Option am_V → am_N → Prop} (n r : Int) (hS : mi ν)  (hn0 : 0 ≤ n) (hn1 : n ≤ 60) (hr0 : 0 ≤ am_c r) (hr1 : am_c r < 4) (h1 : 1 ≤ ν 83 14) (k : ∀ μ' : am_N, gm mQ ν μ' → μ' 83 14 = ν 83 14 → Q none μ') : am_Does l 199 [.inr (.inr 83), .inl n, .inl r] ν Q := by
  refine am_Does_of (Nat.le_of_ble_eq_true rfl) (Nat.le_of_ble_eq_true rfl) (Nat.le_of_ble_eq_true rfl) ?_
  have hb := mi_all hS
  have lp8 : ∀ (m : Nat) (i : Int) (μ : am_N) , MD mQ ν μ → 0 ≤ i → i ≤ n → 1 ≤ μ 83 14 → n - i < (m : Int) → am_AW l 0 (fun _ => 0) 199 Q 8 [some (.inr (.inr 83)), some (.inl n), some (.inl r), some (.inl i)] [] μ := by
    intro m
    induction m with
    | zero =>
      intro i μ hv0 hv1 hv2 hv3 hm
      have hb := mi_all (md_i hv0)
      exfalso
      omega
    | succ m ih =>
      intro i μ hv0 hv1 hv2 hv3 hm
      have hb := mi_all (md_i hv0)
      refine am_go (ct := fun pc => Nat.beq pc 8) am_oX7_goesOn 300 ?_
      conv => whnf
      repeat' first
        | (refine (?_ : am_wp _ _ _ _ _ _ _ _ _ _ _ _); conv => whnf)
        | (refine (?_ : am_sw _ _ _ _); conv => whnf)
        | refine And.intro trivial ?_
        | exact trivial
        | assumption
        | refine k _ ?_ ?_
        | refine m_keepM (A := mQ) (ν := ν) ?_ (fun _ _ _ _ _ => ?_)
        | refine m_comeM (A := mQ) (ν := ν) ?_ (by first | exact sb_id | exact mo_l | exact mo1_sub) rfl (fun _ _ _ => ?_)
        | refine m_runsE (by repeat' first | assumption | exact gm_i (by assumption) | exact md_i (by assumption) | refine mi_up ?_ rfl | refine mi_100 ?_ ?_ ?_ | (simp only [am_c] at * <;> omega)) ?_ (fun _ _ _ _ => ?_)
        | exact gm_rf hS
        | refine gm_up ?_ rfl rfl
        | refine gm_up ?_ mo1_self rfl
        | refine gm_up ?_ mo1_in rfl
        | refine gm_100 ?_ rfl ?_ ?_
        | refine gm_14 ?_ rfl ?_ ?_
        | refine gm_15 ?_ rfl ?_ ?_
        | refine gm_16 ?_ rfl ?_ ?_
        | refine gm_21 ?_ rfl ?_ ?_
        | refine gm_33 ?_ rfl ?_ ?_
        | refine gm_40 ?_ rfl ?_ ?_
        | refine gm_42 ?_ rfl ?_ ?_
        | refine md_up ?_ rfl rfl
        | refine md_tr ?_ (by assumption) ?_
        | refine gm_tr ?_ (by assumption) ?_
        | refine gm_put ?_ ?_ rfl
        | refine mi_up ?_ rfl
        | exact gm_i (by assumption)
        | exact md_i (by assumption)
        | exact sb_id
        | exact sb_T_s
        | exact sb_T_Q
        | exact sb_T_M
        | exact sb_R_M
        | exact sb_L_M
        | exact mo_l
        | exact mo1_sub
        | exact mo1_one sb_T_s
        | exact mo1_one mo_l
        | exact mo1_one sb_T_Q
        | exact mo1_one (mo1_one sb_T_s)
        | exact mo1_one (mo1_one sb_id)
        | exact fun k j h => sb_T_Q k j (mo_l k j h)
        | exact fun k j h => mo_l k j (mo_l k j h)
        | exact fun k j h => sb_T_s k j (mo_l k j h)
        | refine ih _ _ ?_ ?_ ?_ ?_ ?_
        | refine And.intro (fun h => absurd h (by decide)) (fun _ => ?_)
        | refine And.intro (fun _ => ?_) (fun h => absurd (by decide) h)
        | refine And.intro (fun _ => ?_) (fun _ => ?_)
        | refine And.intro ?_ ?_
      all_goals (first | assumption | decide | omega | rfl | (simp only [am_c] at * <;> omega) | (simp only [am_c, am_up] at * <;> omega) | (simp [am_c, am_up] at * <;> omega))
  have lp8' : ∀ (i : Int) (μ : am_N) , MD mQ ν μ → 0 ≤ i → i ≤ n → 1 ≤ μ 83 14 → am_AW l 0 (fun _ => 0) 199 Q 8 [some (.inr (.inr 83)), some (.inl n), some (.inl r), some (.inl i)] [] μ := fun i μ hv0 hv1 hv2 hv3 => lp8 ((n - i) + 1).toNat i μ hv0 hv1 hv2 hv3 (by omega)
  refine am_go (ct := fun pc => Nat.beq pc 8) am_oX7_goesOn 300 ?_
  conv => whnf
  repeat' first
    | (refine (?_ : am_wp _ _ _ _ _ _ _ _ _ _ _ _); conv => whnf)
    | (refine (?_ : am_sw _ _ _ _); conv => whnf)
    | refine And.intro trivial ?_
    | exact trivial
    | assumption
    | refine k _ ?_ ?_
    | refine m_keepM (A := mQ) (ν := ν) ?_ (fun _ _ _ _ _ => ?_)
    | refine m_comeM (A := mQ) (ν := ν) ?_ (by first | exact sb_id | exact mo_l | exact mo1_sub) rfl (fun _ _ _ => ?_)
    | refine m_runsE (by repeat' first | assumption | exact gm_i (by assumption) | exact md_i (by assumption) | refine mi_up ?_ rfl | refine mi_100 ?_ ?_ ?_ | (simp only [am_c] at * <;> omega)) ?_ (fun _ _ _ _ => ?_)
    | exact gm_rf hS
    | refine gm_up ?_ rfl rfl
    | refine gm_up ?_ mo1_self rfl
    | refine gm_up ?_ mo1_in rfl
    | refine gm_100 ?_ rfl ?_ ?_
    | refine gm_14 ?_ rfl ?_ ?_
    | refine gm_15 ?_ rfl ?_ ?_
    | refine gm_16 ?_ rfl ?_ ?_
    | refine gm_21 ?_ rfl ?_ ?_
    | refine gm_33 ?_ rfl ?_ ?_
    | refine gm_40 ?_ rfl ?_ ?_
    | refine gm_42 ?_ rfl ?_ ?_
    | refine md_up ?_ rfl rfl
    | refine md_tr ?_ (by assumption) ?_
    | refine gm_tr ?_ (by assumption) ?_
    | refine gm_put ?_ ?_ rfl
    | refine mi_up ?_ rfl
    | exact gm_i (by assumption)
    | exact md_i (by assumption)
    | exact sb_id
    | exact sb_T_s
    | exact sb_T_Q
    | exact sb_T_M
    | exact sb_R_M
    | exact sb_L_M
    | exact mo_l
    | exact mo1_sub
    | exact mo1_one sb_T_s
    | exact mo1_one mo_l
    | exact mo1_one sb_T_Q
    | exact mo1_one (mo1_one sb_T_s)
    | exact mo1_one (mo1_one sb_id)
    | exact fun k j h => sb_T_Q k j (mo_l k j h)
    | exact fun k j h => mo_l k j (mo_l k j h)
    | exact fun k j h => sb_T_s k j (mo_l k j h)
    | refine lp8' _ _ ?_ ?_ ?_ ?_
    | refine And.intro (fun h => absurd h (by decide)) (fun _ => ?_)
    | refine And.intro (fun _ => ?_) (fun h => absurd (by decide) h)
    | refine And.intro (fun _ => ?_) (fun _ => ?_)
    | refine And.intro ?_ ?_
  all_goals (first | assumption | decide | omega | rfl | (simp only [am_c] at * <;> omega) | (simp only [am_c, am_up] at * <;> omega) | (simp [am_c, am_up] at * <;> omega))
theorem m_gapsBy {l : Launch} {ν : am_N} {Q : Option am_V → am_N → Prop} (b n : Int) (hS : mi ν)  (hn0 : 0 ≤ n) (hn1 : n ≤ 60) (h1 : 1 ≤ ν 83 14) (k : ∀ (r : Int) (μ' : am_N), gm mQ ν μ' → μ' 83 14 = ν 83 14 → Q (some (.inl r)) μ') : am_Does l 203 [.inr (.inr 83), .inl b, .inl n] ν Q := by
  refine am_Does_of (Nat.le_of_ble_eq_true rfl) (Nat.le_of_ble_eq_true rfl) (Nat.le_of_ble_eq_true rfl) ?_
  have hb := mi_all hS
  have lp16 : ∀ (m : Nat) (s i : Int) (μ : am_N) , MD mQ ν μ → 0 ≤ i → i ≤ n → 1 ≤ μ 83 14 → n - i < (m : Int) → am_AW l 0 (fun _ => 0) 203 Q 16 [some (.inr (.inr 83)), some (.inl b), some (.inl n), some (.inl s), some (.inl i)] [] μ := by
    intro m
    induction m with
    | zero =>
      intro s i μ hv0 hv1 hv2 hv3 hm
      have hb := mi_all (md_i hv0)
      exfalso
      omega
    | succ m ih =>
      intro s i μ hv0 hv1 hv2 hv3 hm
      have hb := mi_all (md_i hv0)
      refine am_go (ct := fun pc => Nat.beq pc 16) am_oX7_gapsBy 300 ?_
      conv => whnf
      repeat' first
        | (refine (?_ : am_wp _ _ _ _ _ _ _ _ _ _ _ _); conv => whnf)
        | (refine (?_ : am_sw _ _ _ _); conv => whnf)
        | refine And.intro trivial ?_
        | exact trivial
        | assumption
        | refine k _ _ ?_ ?_
        | refine m_keepM (A := mQ) (ν := ν) ?_ (fun _ _ _ _ _ => ?_)
        | refine m_comeM (A := mQ) (ν := ν) ?_ (by first | exact sb_id | exact mo_l | exact mo1_sub) rfl (fun _ _ _ => ?_)
        | refine m_takesTimes  (gm_rf (by repeat' first | assumption | exact gm_i (by assumption) | exact md_i (by assumption) | refine mi_up ?_ rfl | refine mi_100 ?_ ?_ ?_ | (simp only [am_c] at * <;> omega)))  (fun _ _ _ _ _ => ?_)
        | refine m_gap  ?_  (fun _ => ?_)
        | refine m_mendsE (by repeat' first | assumption | exact gm_i (by assumption) | exact md_i (by assumption) | refine mi_up ?_ rfl | refine mi_100 ?_ ?_ ?_ | (simp only [am_c] at * <;> omega)) ?_ (fun _ _ _ => ?_)
        | exact gm_rf hS
        | refine gm_up ?_ rfl rfl
        | refine gm_up ?_ mo1_self rfl
        | refine gm_up ?_ mo1_in rfl
        | refine gm_100 ?_ rfl ?_ ?_
        | refine gm_14 ?_ rfl ?_ ?_
        | refine gm_15 ?_ rfl ?_ ?_
        | refine gm_16 ?_ rfl ?_ ?_
        | refine gm_21 ?_ rfl ?_ ?_
        | refine gm_33 ?_ rfl ?_ ?_
        | refine gm_40 ?_ rfl ?_ ?_
        | refine gm_42 ?_ rfl ?_ ?_
        | refine md_up ?_ rfl rfl
        | refine md_tr ?_ (by assumption) ?_
        | refine gm_tr ?_ (by assumption) ?_
        | refine gm_put ?_ ?_ rfl
        | refine mi_up ?_ rfl
        | exact gm_i (by assumption)
        | exact md_i (by assumption)
        | exact sb_id
        | exact sb_T_s
        | exact sb_T_Q
        | exact sb_T_M
        | exact sb_R_M
        | exact sb_L_M
        | exact mo_l
        | exact mo1_sub
        | exact mo1_one sb_T_s
        | exact mo1_one mo_l
        | exact mo1_one sb_T_Q
        | exact mo1_one (mo1_one sb_T_s)
        | exact mo1_one (mo1_one sb_id)
        | exact fun k j h => sb_T_Q k j (mo_l k j h)
        | exact fun k j h => mo_l k j (mo_l k j h)
        | exact fun k j h => sb_T_s k j (mo_l k j h)
        | refine ih _ _ _ ?_ ?_ ?_ ?_ ?_
        | refine And.intro (fun h => absurd h (by decide)) (fun _ => ?_)
        | refine And.intro (fun _ => ?_) (fun h => absurd (by decide) h)
        | refine And.intro (fun _ => ?_) (fun _ => ?_)
        | refine And.intro ?_ ?_
      all_goals (first | assumption | decide | omega | rfl | (simp only [am_c] at * <;> omega) | (simp only [am_c, am_up] at * <;> omega) | (simp [am_c, am_up] at * <;> omega))
  have lp16' : ∀ (s i : Int) (μ : am_N) , MD mQ ν μ → 0 ≤ i → i ≤ n → 1 ≤ μ 83 14 → am_AW l 0 (fun _ => 0) 203 Q 16 [some (.inr (.inr 83)), some (.inl b), some (.inl n), some (.inl s), some (.inl i)] [] μ := fun s i μ hv0 hv1 hv2 hv3 => lp16 ((n - i) + 1).toNat s i μ hv0 hv1 hv2 hv3 (by omega)
  refine am_go (ct := fun pc => Nat.beq pc 16) am_oX7_gapsBy 300 ?_
  conv => whnf
  repeat' first
    | (refine (?_ : am_wp _ _ _ _ _ _ _ _ _ _ _ _); conv => whnf)
    | (refine (?_ : am_sw _ _ _ _); conv => whnf)
    | refine And.intro trivial ?_
    | exact trivial
    | assumption
    | refine k _ _ ?_ ?_
    | refine m_keepM (A := mQ) (ν := ν) ?_ (fun _ _ _ _ _ => ?_)
    | refine m_comeM (A := mQ) (ν := ν) ?_ (by first | exact sb_id | exact mo_l | exact mo1_sub) rfl (fun _ _ _ => ?_)
    | refine m_takesTimes  (gm_rf (by repeat' first | assumption | exact gm_i (by assumption) | exact md_i (by assumption) | refine mi_up ?_ rfl | refine mi_100 ?_ ?_ ?_ | (simp only [am_c] at * <;> omega)))  (fun _ _ _ _ _ => ?_)
    | refine m_gap  ?_  (fun _ => ?_)
    | refine m_mendsE (by repeat' first | assumption | exact gm_i (by assumption) | exact md_i (by assumption) | refine mi_up ?_ rfl | refine mi_100 ?_ ?_ ?_ | (simp only [am_c] at * <;> omega)) ?_ (fun _ _ _ => ?_)
    | exact gm_rf hS
    | refine gm_up ?_ rfl rfl
    | refine gm_up ?_ mo1_self rfl
    | refine gm_up ?_ mo1_in rfl
    | refine gm_100 ?_ rfl ?_ ?_
    | refine gm_14 ?_ rfl ?_ ?_
    | refine gm_15 ?_ rfl ?_ ?_
    | refine gm_16 ?_ rfl ?_ ?_
    | refine gm_21 ?_ rfl ?_ ?_
    | refine gm_33 ?_ rfl ?_ ?_
    | refine gm_40 ?_ rfl ?_ ?_
    | refine gm_42 ?_ rfl ?_ ?_
    | refine md_up ?_ rfl rfl
    | refine md_tr ?_ (by assumption) ?_
    | refine gm_tr ?_ (by assumption) ?_
    | refine gm_put ?_ ?_ rfl
    | refine mi_up ?_ rfl
    | exact gm_i (by assumption)
    | exact md_i (by assumption)
    | exact sb_id
    | exact sb_T_s
    | exact sb_T_Q
    | exact sb_T_M
    | exact sb_R_M
    | exact sb_L_M
    | exact mo_l
    | exact mo1_sub
    | exact mo1_one sb_T_s
    | exact mo1_one mo_l
    | exact mo1_one sb_T_Q
    | exact mo1_one (mo1_one sb_T_s)
    | exact mo1_one (mo1_one sb_id)
    | exact fun k j h => sb_T_Q k j (mo_l k j h)
    | exact fun k j h => mo_l k j (mo_l k j h)
    | exact fun k j h => sb_T_s k j (mo_l k j h)
    | refine lp16' _ _ _ ?_ ?_ ?_ ?_
    | refine And.intro (fun h => absurd h (by decide)) (fun _ => ?_)
    | refine And.intro (fun _ => ?_) (fun h => absurd (by decide) h)
    | refine And.intro (fun _ => ?_) (fun _ => ?_)
    | refine And.intro ?_ ?_
  all_goals (first | assumption | decide | omega | rfl | (simp only [am_c] at * <;> omega) | (simp only [am_c, am_up] at * <;> omega) | (simp [am_c, am_up] at * <;> omega))
theorem m_findStarts {l : Launch} {ν : am_N} {Q : Option am_V → am_N → Prop} (s : Int) (hS : mi ν)  (hs0 : 5 ≤ s) (hs1 : s ≤ 50) (k : ∀ μ' : am_N, gm mM ν μ' → Q none μ') : am_Does l 196 [.inr (.inr 83), .inl s] ν Q := by
  refine am_Does_of (Nat.le_of_ble_eq_true rfl) (Nat.le_of_ble_eq_true rfl) (Nat.le_of_ble_eq_true rfl) ?_
  have hb := mi_all hS
  have he := am_each hs0 hs1
  have hs : am_c s = s := am_cR (by omega) (by omega)
  have h9 : am_c 99 = 99 := rfl
  have lp64 : ∀ (m : Nat) (e a q x i : Int) (μ : am_N) , gm mM ν μ → 1 ≤ e → e ≤ 20 → -1 ≤ i → i ≤ 3 → (∀ (o5 o6 : Option am_V) (μ : am_N), gm mM ν μ → am_AW l 0 (fun _ => 0) 196 Q 46 [some (.inr (.inr 83)), some (.inl s), some (.inl e), some (.inl a), some (.inl (q + 1)), o5, o6] [] μ) → i + 1 < (m : Int) → am_AW l 0 (fun _ => 0) 196 Q 64 [some (.inr (.inr 83)), some (.inl s), some (.inl e), some (.inl a), some (.inl q), some (.inl x), some (.inl i)] [] μ := by
    intro m
    induction m with
    | zero =>
      intro e a q x i μ hv0 hv1 hv2 hv3 hv4 hv5 hm
      have hb := mi_all hv0.1
      exfalso
      omega
    | succ m ih =>
      intro e a q x i μ hv0 hv1 hv2 hv3 hv4 hv5 hm
      have hb := mi_all hv0.1
      refine am_go (ct := fun pc => Nat.beq pc 64 || Nat.beq pc 46 || Nat.beq pc 12) am_oX7_findStarts 300 ?_
      conv => whnf
      repeat' first
        | (refine (?_ : am_wp _ _ _ _ _ _ _ _ _ _ _ _); conv => whnf)
        | (refine (?_ : am_sw _ _ _ _); conv => whnf)
        | refine And.intro trivial ?_
        | exact trivial
        | assumption
        | refine hv5 _ _ _ ?_
        | refine k _ ?_
        | refine m_unevenE (by repeat' first | assumption | exact gm_i (by assumption) | exact md_i (by assumption) | refine mi_up ?_ rfl | refine mi_100 ?_ ?_ ?_ | (simp only [am_c] at * <;> omega)) (fun _ _ _ _ => ?_)
        | exact gm_rf hS
        | refine gm_up ?_ rfl rfl
        | refine gm_up ?_ mo1_self rfl
        | refine gm_up ?_ mo1_in rfl
        | refine gm_100 ?_ rfl ?_ ?_
        | refine gm_14 ?_ rfl ?_ ?_
        | refine gm_15 ?_ rfl ?_ ?_
        | refine gm_16 ?_ rfl ?_ ?_
        | refine gm_21 ?_ rfl ?_ ?_
        | refine gm_33 ?_ rfl ?_ ?_
        | refine gm_40 ?_ rfl ?_ ?_
        | refine gm_42 ?_ rfl ?_ ?_
        | refine md_up ?_ rfl rfl
        | refine md_tr ?_ (by assumption) ?_
        | refine gm_tr ?_ (by assumption) ?_
        | refine gm_put ?_ ?_ rfl
        | refine mi_up ?_ rfl
        | exact gm_i (by assumption)
        | exact md_i (by assumption)
        | exact sb_id
        | exact sb_T_s
        | exact sb_T_Q
        | exact sb_T_M
        | exact sb_R_M
        | exact sb_L_M
        | exact mo_l
        | exact mo1_sub
        | exact mo1_one sb_T_s
        | exact mo1_one mo_l
        | exact mo1_one sb_T_Q
        | exact mo1_one (mo1_one sb_T_s)
        | exact mo1_one (mo1_one sb_id)
        | exact fun k j h => sb_T_Q k j (mo_l k j h)
        | exact fun k j h => mo_l k j (mo_l k j h)
        | exact fun k j h => sb_T_s k j (mo_l k j h)
        | refine ih _ _ _ _ _ _ ?_ ?_ ?_ ?_ ?_ ?_ ?_
        | refine And.intro (fun h => absurd h (by decide)) (fun _ => ?_)
        | refine And.intro (fun _ => ?_) (fun h => absurd (by decide) h)
        | refine And.intro (fun _ => ?_) (fun _ => ?_)
        | refine And.intro ?_ ?_
      all_goals (first | assumption | decide | exact gm_rf hS | (rw [hs, h9]; omega) | omega | rfl | (simp only [am_c] at * <;> omega) | (simp only [am_c, am_up] at * <;> omega) | (simp [am_c, am_up] at * <;> omega))
  have lp64' : ∀ (e a q x i : Int) (μ : am_N) , gm mM ν μ → 1 ≤ e → e ≤ 20 → -1 ≤ i → i ≤ 3 → (∀ (o5 o6 : Option am_V) (μ : am_N), gm mM ν μ → am_AW l 0 (fun _ => 0) 196 Q 46 [some (.inr (.inr 83)), some (.inl s), some (.inl e), some (.inl a), some (.inl (q + 1)), o5, o6] [] μ) → am_AW l 0 (fun _ => 0) 196 Q 64 [some (.inr (.inr 83)), some (.inl s), some (.inl e), some (.inl a), some (.inl q), some (.inl x), some (.inl i)] [] μ := fun e a q x i μ hv0 hv1 hv2 hv3 hv4 hv5 => lp64 ((i + 1) + 1).toNat e a q x i μ hv0 hv1 hv2 hv3 hv4 hv5 (by omega)
  have lp46 : ∀ (m : Nat) (e a q : Int) (o5 o6 : Option am_V) (μ : am_N) , gm mM ν μ → 1 ≤ e → e ≤ 20 → 0 ≤ q → (q ≤ am_c a ∨ q = 0) → max (am_c a - q) 0 < (m : Int) → am_AW l 0 (fun _ => 0) 196 Q 46 [some (.inr (.inr 83)), some (.inl s), some (.inl e), some (.inl a), some (.inl q), o5, o6] [] μ := by
    intro m
    induction m with
    | zero =>
      intro e a q o5 o6 μ hv0 hv1 hv2 hv3 hv4 hm
      have hb := mi_all hv0.1
      exfalso
      omega
    | succ m ih =>
      intro e a q o5 o6 μ hv0 hv1 hv2 hv3 hv4 hm
      have hb := mi_all hv0.1
      have ha9 := am_cb a
      have hk9 : am_c q = q := am_cR (by omega) (by omega)
      refine am_go (ct := fun pc => Nat.beq pc 64 || Nat.beq pc 46 || Nat.beq pc 12) am_oX7_findStarts 300 ?_
      conv => whnf
      repeat' first
        | (refine (?_ : am_wp _ _ _ _ _ _ _ _ _ _ _ _); conv => whnf)
        | (refine (?_ : am_sw _ _ _ _); conv => whnf)
        | refine And.intro trivial ?_
        | exact trivial
        | assumption
        | (refine fun _ _ _ _ => ih _ _ _ _ _ _ ?_ ?_ ?_ ?_ ?_ ?_)
        | refine k _ ?_
        | refine m_unevenE (by repeat' first | assumption | exact gm_i (by assumption) | exact md_i (by assumption) | refine mi_up ?_ rfl | refine mi_100 ?_ ?_ ?_ | (simp only [am_c] at * <;> omega)) (fun _ _ _ _ => ?_)
        | exact gm_rf hS
        | refine gm_up ?_ rfl rfl
        | refine gm_up ?_ mo1_self rfl
        | refine gm_up ?_ mo1_in rfl
        | refine gm_100 ?_ rfl ?_ ?_
        | refine gm_14 ?_ rfl ?_ ?_
        | refine gm_15 ?_ rfl ?_ ?_
        | refine gm_16 ?_ rfl ?_ ?_
        | refine gm_21 ?_ rfl ?_ ?_
        | refine gm_33 ?_ rfl ?_ ?_
        | refine gm_40 ?_ rfl ?_ ?_
        | refine gm_42 ?_ rfl ?_ ?_
        | refine md_up ?_ rfl rfl
        | refine md_tr ?_ (by assumption) ?_
        | refine gm_tr ?_ (by assumption) ?_
        | refine gm_put ?_ ?_ rfl
        | refine mi_up ?_ rfl
        | exact gm_i (by assumption)
        | exact md_i (by assumption)
        | exact sb_id
        | exact sb_T_s
        | exact sb_T_Q
        | exact sb_T_M
        | exact sb_R_M
        | exact sb_L_M
        | exact mo_l
        | exact mo1_sub
        | exact mo1_one sb_T_s
        | exact mo1_one mo_l
        | exact mo1_one sb_T_Q
        | exact mo1_one (mo1_one sb_T_s)
        | exact mo1_one (mo1_one sb_id)
        | exact fun k j h => sb_T_Q k j (mo_l k j h)
        | exact fun k j h => mo_l k j (mo_l k j h)
        | exact fun k j h => sb_T_s k j (mo_l k j h)
        | refine ih _ _ _ _ _ _ ?_ ?_ ?_ ?_ ?_ ?_
        | refine lp64' _ _ _ _ _ _ ?_ ?_ ?_ ?_ ?_ ?_
        | refine And.intro (fun h => absurd h (by decide)) (fun _ => ?_)
        | refine And.intro (fun _ => ?_) (fun h => absurd (by decide) h)
        | refine And.intro (fun _ => ?_) (fun _ => ?_)
        | refine And.intro ?_ ?_
      all_goals (first | assumption | decide | exact gm_rf hS | (rw [hs, h9]; omega) | omega | rfl | (simp only [am_c] at * <;> omega) | (simp only [am_c, am_up] at * <;> omega) | (simp [am_c, am_up] at * <;> omega))
  have lp46' : ∀ (e a q : Int) (o5 o6 : Option am_V) (μ : am_N) , gm mM ν μ → 1 ≤ e → e ≤ 20 → 0 ≤ q → (q ≤ am_c a ∨ q = 0) → am_AW l 0 (fun _ => 0) 196 Q 46 [some (.inr (.inr 83)), some (.inl s), some (.inl e), some (.inl a), some (.inl q), o5, o6] [] μ := fun e a q o5 o6 μ hv0 hv1 hv2 hv3 hv4 => lp46 ((max (am_c a - q) 0) + 1).toNat e a q o5 o6 μ hv0 hv1 hv2 hv3 hv4 (by omega)
  have lp12 : ∀ (m : Nat) (e a i : Int) (μ : am_N) , gm mM ν μ → 1 ≤ e → e ≤ 20 → 0 ≤ i → i ≤ 4 → 4 - i < (m : Int) → am_AW l 0 (fun _ => 0) 196 Q 12 [some (.inr (.inr 83)), some (.inl s), some (.inl e), some (.inl a), some (.inl i), none, none] [] μ := by
    intro m
    induction m with
    | zero =>
      intro e a i μ hv0 hv1 hv2 hv3 hv4 hm
      have hb := mi_all hv0.1
      exfalso
      omega
    | succ m ih =>
      intro e a i μ hv0 hv1 hv2 hv3 hv4 hm
      have hb := mi_all hv0.1
      refine am_go (ct := fun pc => Nat.beq pc 64 || Nat.beq pc 46 || Nat.beq pc 12) am_oX7_findStarts 300 ?_
      conv => whnf
      repeat' first
        | (refine (?_ : am_wp _ _ _ _ _ _ _ _ _ _ _ _); conv => whnf)
        | (refine (?_ : am_sw _ _ _ _); conv => whnf)
        | refine And.intro trivial ?_
        | exact trivial
        | assumption
        | refine k _ ?_
        | refine m_unevenE (by repeat' first | assumption | exact gm_i (by assumption) | exact md_i (by assumption) | refine mi_up ?_ rfl | refine mi_100 ?_ ?_ ?_ | (simp only [am_c] at * <;> omega)) (fun _ _ _ _ => ?_)
        | exact gm_rf hS
        | refine gm_up ?_ rfl rfl
        | refine gm_up ?_ mo1_self rfl
        | refine gm_up ?_ mo1_in rfl
        | refine gm_100 ?_ rfl ?_ ?_
        | refine gm_14 ?_ rfl ?_ ?_
        | refine gm_15 ?_ rfl ?_ ?_
        | refine gm_16 ?_ rfl ?_ ?_
        | refine gm_21 ?_ rfl ?_ ?_
        | refine gm_33 ?_ rfl ?_ ?_
        | refine gm_40 ?_ rfl ?_ ?_
        | refine gm_42 ?_ rfl ?_ ?_
        | refine md_up ?_ rfl rfl
        | refine md_tr ?_ (by assumption) ?_
        | refine gm_tr ?_ (by assumption) ?_
        | refine gm_put ?_ ?_ rfl
        | refine mi_up ?_ rfl
        | exact gm_i (by assumption)
        | exact md_i (by assumption)
        | exact sb_id
        | exact sb_T_s
        | exact sb_T_Q
        | exact sb_T_M
        | exact sb_R_M
        | exact sb_L_M
        | exact mo_l
        | exact mo1_sub
        | exact mo1_one sb_T_s
        | exact mo1_one mo_l
        | exact mo1_one sb_T_Q
        | exact mo1_one (mo1_one sb_T_s)
        | exact mo1_one (mo1_one sb_id)
        | exact fun k j h => sb_T_Q k j (mo_l k j h)
        | exact fun k j h => mo_l k j (mo_l k j h)
        | exact fun k j h => sb_T_s k j (mo_l k j h)
        | refine ih _ _ _ _ ?_ ?_ ?_ ?_ ?_ ?_
        | refine lp46' _ _ _ _ _ _ ?_ ?_ ?_ ?_ ?_
        | refine lp64' _ _ _ _ _ _ ?_ ?_ ?_ ?_ ?_ ?_
        | refine And.intro (fun h => absurd h (by decide)) (fun _ => ?_)
        | refine And.intro (fun _ => ?_) (fun h => absurd (by decide) h)
        | refine And.intro (fun _ => ?_) (fun _ => ?_)
        | refine And.intro ?_ ?_
      all_goals (first | assumption | decide | exact gm_rf hS | (rw [hs, h9]; omega) | omega | rfl | (simp only [am_c] at * <;> omega) | (simp only [am_c, am_up] at * <;> omega) | (simp [am_c, am_up] at * <;> omega))
  have lp12' : ∀ (e a i : Int) (μ : am_N) , gm mM ν μ → 1 ≤ e → e ≤ 20 → 0 ≤ i → i ≤ 4 → am_AW l 0 (fun _ => 0) 196 Q 12 [some (.inr (.inr 83)), some (.inl s), some (.inl e), some (.inl a), some (.inl i), none, none] [] μ := fun e a i μ hv0 hv1 hv2 hv3 hv4 => lp12 ((4 - i) + 1).toNat e a i μ hv0 hv1 hv2 hv3 hv4 (by omega)
  refine am_go (ct := fun pc => Nat.beq pc 64 || Nat.beq pc 46 || Nat.beq pc 12) am_oX7_findStarts 300 ?_
  conv => whnf
  repeat' first
    | (refine (?_ : am_wp _ _ _ _ _ _ _ _ _ _ _ _); conv => whnf)
    | (refine (?_ : am_sw _ _ _ _); conv => whnf)
    | refine And.intro trivial ?_
    | exact trivial
    | assumption
    | refine k _ ?_
    | refine m_unevenE (by repeat' first | assumption | exact gm_i (by assumption) | exact md_i (by assumption) | refine mi_up ?_ rfl | refine mi_100 ?_ ?_ ?_ | (simp only [am_c] at * <;> omega)) (fun _ _ _ _ => ?_)
    | exact gm_rf hS
    | refine gm_up ?_ rfl rfl
    | refine gm_up ?_ mo1_self rfl
    | refine gm_up ?_ mo1_in rfl
    | refine gm_100 ?_ rfl ?_ ?_
    | refine gm_14 ?_ rfl ?_ ?_
    | refine gm_15 ?_ rfl ?_ ?_
    | refine gm_16 ?_ rfl ?_ ?_
    | refine gm_21 ?_ rfl ?_ ?_
    | refine gm_33 ?_ rfl ?_ ?_
    | refine gm_40 ?_ rfl ?_ ?_
    | refine gm_42 ?_ rfl ?_ ?_
    | refine md_up ?_ rfl rfl
    | refine md_tr ?_ (by assumption) ?_
    | refine gm_tr ?_ (by assumption) ?_
    | refine gm_put ?_ ?_ rfl
    | refine mi_up ?_ rfl
    | exact gm_i (by assumption)
    | exact md_i (by assumption)
    | exact sb_id
    | exact sb_T_s
    | exact sb_T_Q
    | exact sb_T_M
    | exact sb_R_M
    | exact sb_L_M
    | exact mo_l
    | exact mo1_sub
    | exact mo1_one sb_T_s
    | exact mo1_one mo_l
    | exact mo1_one sb_T_Q
    | exact mo1_one (mo1_one sb_T_s)
    | exact mo1_one (mo1_one sb_id)
    | exact fun k j h => sb_T_Q k j (mo_l k j h)
    | exact fun k j h => mo_l k j (mo_l k j h)
    | exact fun k j h => sb_T_s k j (mo_l k j h)
    | refine lp12' _ _ _ _ ?_ ?_ ?_ ?_ ?_
    | refine lp46' _ _ _ _ _ _ ?_ ?_ ?_ ?_ ?_
    | refine lp64' _ _ _ _ _ _ ?_ ?_ ?_ ?_ ?_ ?_
    | refine And.intro (fun h => absurd h (by decide)) (fun _ => ?_)
    | refine And.intro (fun _ => ?_) (fun h => absurd (by decide) h)
    | refine And.intro (fun _ => ?_) (fun _ => ?_)
    | refine And.intro ?_ ?_
  all_goals (first | assumption | decide | exact gm_rf hS | (rw [hs, h9]; omega) | omega | rfl | (simp only [am_c] at * <;> omega) | (simp only [am_c, am_up] at * <;> omega) | (simp [am_c, am_up] at * <;> omega))
theorem m_wrongAt {l : Launch} {ν : am_N} {Q : Option am_V → am_N → Prop}  (hS : mi ν)   (k : ∀ (r : Int) (μ' : am_N), gm mQ ν μ' → μ' 83 14 = ν 83 14 → Q (some (.inl r)) μ') : am_Does l 245 [.inr (.inr 83)] ν Q := by
  refine am_Does_of (Nat.le_of_ble_eq_true rfl) (Nat.le_of_ble_eq_true rfl) (Nat.le_of_ble_eq_true rfl) ?_
  have hb := mi_all hS
  have lp11 : ∀ (m : Nat) (f i : Int) (μ : am_N) , MD mQ ν μ → 0 ≤ i → i ≤ 12 → 12 - i < (m : Int) → am_AW l 0 (fun _ => 0) 245 Q 11 [some (.inr (.inr 83)), some (.inl f), some (.inl i)] [] μ := by
    intro m
    induction m with
    | zero =>
      intro f i μ hv0 hv1 hv2 hm
      have hb := mi_all (md_i hv0)
      exfalso
      omega
    | succ m ih =>
      intro f i μ hv0 hv1 hv2 hm
      have hb := mi_all (md_i hv0)
      refine am_go (ct := fun pc => Nat.beq pc 11) am_oX7_wrongAt 300 ?_
      conv => whnf
      repeat' first
        | (refine (?_ : am_wp _ _ _ _ _ _ _ _ _ _ _ _); conv => whnf)
        | (refine (?_ : am_sw _ _ _ _); conv => whnf)
        | refine And.intro trivial ?_
        | exact trivial
        | assumption
        | refine k _ _ ?_ ?_
        | refine m_keepM (A := mQ) (ν := ν) ?_ (fun _ _ _ _ _ => ?_)
        | refine m_comeM (A := mQ) (ν := ν) ?_ (by first | exact sb_id | exact mo_l | exact mo1_sub) rfl (fun _ _ _ => ?_)
        | refine m_runsE (by repeat' first | assumption | exact gm_i (by assumption) | exact md_i (by assumption) | refine mi_up ?_ rfl | refine mi_100 ?_ ?_ ?_ | (simp only [am_c] at * <;> omega)) ?_ (fun _ _ _ _ => ?_)
        | exact gm_rf hS
        | refine gm_up ?_ rfl rfl
        | refine gm_up ?_ mo1_self rfl
        | refine gm_up ?_ mo1_in rfl
        | refine gm_100 ?_ rfl ?_ ?_
        | refine gm_14 ?_ rfl ?_ ?_
        | refine gm_15 ?_ rfl ?_ ?_
        | refine gm_16 ?_ rfl ?_ ?_
        | refine gm_21 ?_ rfl ?_ ?_
        | refine gm_33 ?_ rfl ?_ ?_
        | refine gm_40 ?_ rfl ?_ ?_
        | refine gm_42 ?_ rfl ?_ ?_
        | refine md_up ?_ rfl rfl
        | refine md_tr ?_ (by assumption) ?_
        | refine gm_tr ?_ (by assumption) ?_
        | refine gm_put ?_ ?_ rfl
        | refine mi_up ?_ rfl
        | exact gm_i (by assumption)
        | exact md_i (by assumption)
        | exact sb_id
        | exact sb_T_s
        | exact sb_T_Q
        | exact sb_T_M
        | exact sb_R_M
        | exact sb_L_M
        | exact mo_l
        | exact mo1_sub
        | exact mo1_one sb_T_s
        | exact mo1_one mo_l
        | exact mo1_one sb_T_Q
        | exact mo1_one (mo1_one sb_T_s)
        | exact mo1_one (mo1_one sb_id)
        | exact fun k j h => sb_T_Q k j (mo_l k j h)
        | exact fun k j h => mo_l k j (mo_l k j h)
        | exact fun k j h => sb_T_s k j (mo_l k j h)
        | refine ih _ _ _ ?_ ?_ ?_ ?_
        | refine And.intro (fun h => absurd h (by decide)) (fun _ => ?_)
        | refine And.intro (fun _ => ?_) (fun h => absurd (by decide) h)
        | refine And.intro (fun _ => ?_) (fun _ => ?_)
        | refine And.intro ?_ ?_
      all_goals (first | assumption | decide | omega | rfl | (simp only [am_c] at * <;> omega) | (simp only [am_c, am_up] at * <;> omega) | (simp [am_c, am_up] at * <;> omega))
  have lp11' : ∀ (f i : Int) (μ : am_N) , MD mQ ν μ → 0 ≤ i → i ≤ 12 → am_AW l 0 (fun _ => 0) 245 Q 11 [some (.inr (.inr 83)), some (.inl f), some (.inl i)] [] μ := fun f i μ hv0 hv1 hv2 => lp11 ((12 - i) + 1).toNat f i μ hv0 hv1 hv2 (by omega)
  refine am_go (ct := fun pc => Nat.beq pc 11) am_oX7_wrongAt 300 ?_
  conv => whnf
  repeat' first
    | (refine (?_ : am_wp _ _ _ _ _ _ _ _ _ _ _ _); conv => whnf)
    | (refine (?_ : am_sw _ _ _ _); conv => whnf)
    | refine And.intro trivial ?_
    | exact trivial
    | assumption
    | refine k _ _ ?_ ?_
    | refine m_keepM (A := mQ) (ν := ν) ?_ (fun _ _ _ _ _ => ?_)
    | refine m_comeM (A := mQ) (ν := ν) ?_ (by first | exact sb_id | exact mo_l | exact mo1_sub) rfl (fun _ _ _ => ?_)
    | refine m_runsE (by repeat' first | assumption | exact gm_i (by assumption) | exact md_i (by assumption) | refine mi_up ?_ rfl | refine mi_100 ?_ ?_ ?_ | (simp only [am_c] at * <;> omega)) ?_ (fun _ _ _ _ => ?_)
    | exact gm_rf hS
    | refine gm_up ?_ rfl rfl
    | refine gm_up ?_ mo1_self rfl
    | refine gm_up ?_ mo1_in rfl
    | refine gm_100 ?_ rfl ?_ ?_
    | refine gm_14 ?_ rfl ?_ ?_
    | refine gm_15 ?_ rfl ?_ ?_
    | refine gm_16 ?_ rfl ?_ ?_
    | refine gm_21 ?_ rfl ?_ ?_
    | refine gm_33 ?_ rfl ?_ ?_
    | refine gm_40 ?_ rfl ?_ ?_
    | refine gm_42 ?_ rfl ?_ ?_
    | refine md_up ?_ rfl rfl
    | refine md_tr ?_ (by assumption) ?_
    | refine gm_tr ?_ (by assumption) ?_
    | refine gm_put ?_ ?_ rfl
    | refine mi_up ?_ rfl
    | exact gm_i (by assumption)
    | exact md_i (by assumption)
    | exact sb_id
    | exact sb_T_s
    | exact sb_T_Q
    | exact sb_T_M
    | exact sb_R_M
    | exact sb_L_M
    | exact mo_l
    | exact mo1_sub
    | exact mo1_one sb_T_s
    | exact mo1_one mo_l
    | exact mo1_one sb_T_Q
    | exact mo1_one (mo1_one sb_T_s)
    | exact mo1_one (mo1_one sb_id)
    | exact fun k j h => sb_T_Q k j (mo_l k j h)
    | exact fun k j h => mo_l k j (mo_l k j h)
    | exact fun k j h => sb_T_s k j (mo_l k j h)
    | refine lp11' _ _ _ ?_ ?_ ?_
    | refine And.intro (fun h => absurd h (by decide)) (fun _ => ?_)
    | refine And.intro (fun _ => ?_) (fun h => absurd (by decide) h)
    | refine And.intro (fun _ => ?_) (fun _ => ?_)
    | refine And.intro ?_ ?_
  all_goals (first | assumption | decide | omega | rfl | (simp only [am_c] at * <;> omega) | (simp only [am_c, am_up] at * <;> omega) | (simp [am_c, am_up] at * <;> omega))
theorem m_mendsByHabit {l : Launch} {ν : am_N} {Q : Option am_V → am_N → Prop}  (hS : mi ν)  (h1 : 1 ≤ ν 83 14) (k : ∀ μ' : am_N, gm mAR ν μ' → Q none μ') : am_Does l 236 [.inr (.inr 83)] ν Q := by
  refine am_Does_of (Nat.le_of_ble_eq_true rfl) (Nat.le_of_ble_eq_true rfl) (Nat.le_of_ble_eq_true rfl) ?_
  have hb := mi_all hS
  have lp2 : ∀ (m : Nat) (i : Int) (o2 : Option am_V) (μ : am_N) , gm mAR ν μ → 0 ≤ i → i ≤ 16 → 1 ≤ μ 83 14 → 16 - i < (m : Int) → am_AW l 0 (fun _ => 0) 236 Q 2 [some (.inr (.inr 83)), some (.inl i), o2] [] μ := by
    intro m
    induction m with
    | zero =>
      intro i o2 μ hv0 hv1 hv2 hv3 hm
      have hb := mi_all hv0.1
      exfalso
      omega
    | succ m ih =>
      intro i o2 μ hv0 hv1 hv2 hv3 hm
      have hb := mi_all hv0.1
      have ec : am_c (μ 83 14) = μ 83 14 := am_cR (by omega) (by omega)
      have ei : am_c i = i := am_cR (by omega) (by omega)
      have hp := am_p16 (c := μ 83 16) (n := μ 83 14) (by omega) (by omega) (by omega) (by omega)
      have ep : am_c (μ 83 16 * μ 83 14) = μ 83 16 * μ 83 14 := am_cR (by omega) (by omega)
      have hm9 := am_tm (i := i) (n := μ 83 14) (by omega) (by omega)
      have hd9 := fun q => am_td (i := i) (n := μ 83 14) (c := μ 83 16) (by omega) (by omega) q
      refine am_go (ct := fun pc => Nat.beq pc 2) am_oX7_mendsByHabit 300 ?_
      conv => whnf
      repeat' first
        | (refine (?_ : am_wp _ _ _ _ _ _ _ _ _ _ _ _); conv => whnf)
        | (refine (?_ : am_sw _ _ _ _); conv => whnf)
        | refine And.intro trivial ?_
        | exact trivial
        | assumption
        | refine k _ ?_
        | refine m_isWhom _ _ ?_ ?_ (fun _ => ?_)
        | refine m_held _   (fun _ => ?_)
        | exact gm_rf hS
        | refine gm_up ?_ rfl rfl
        | refine gm_up ?_ mo1_self rfl
        | refine gm_up ?_ mo1_in rfl
        | refine gm_100 ?_ rfl ?_ ?_
        | refine gm_14 ?_ rfl ?_ ?_
        | refine gm_15 ?_ rfl ?_ ?_
        | refine gm_16 ?_ rfl ?_ ?_
        | refine gm_21 ?_ rfl ?_ ?_
        | refine gm_33 ?_ rfl ?_ ?_
        | refine gm_40 ?_ rfl ?_ ?_
        | refine gm_42 ?_ rfl ?_ ?_
        | refine md_up ?_ rfl rfl
        | refine md_tr ?_ (by assumption) ?_
        | refine gm_tr ?_ (by assumption) ?_
        | refine gm_put ?_ ?_ rfl
        | refine mi_up ?_ rfl
        | exact gm_i (by assumption)
        | exact md_i (by assumption)
        | exact sb_id
        | exact sb_T_s
        | exact sb_T_Q
        | exact sb_T_M
        | exact sb_R_M
        | exact sb_L_M
        | exact mo_l
        | exact mo1_sub
        | exact mo1_one sb_T_s
        | exact mo1_one mo_l
        | exact mo1_one sb_T_Q
        | exact mo1_one (mo1_one sb_T_s)
        | exact mo1_one (mo1_one sb_id)
        | exact fun k j h => sb_T_Q k j (mo_l k j h)
        | exact fun k j h => mo_l k j (mo_l k j h)
        | exact fun k j h => sb_T_s k j (mo_l k j h)
        | refine ih _ _ _ ?_ ?_ ?_ ?_ ?_
        | refine And.intro (fun h => absurd h (by decide)) (fun _ => ?_)
        | refine And.intro (fun _ => ?_) (fun h => absurd (by decide) h)
        | refine And.intro (fun _ => ?_) (fun _ => ?_)
        | refine And.intro ?_ ?_
      all_goals (first | assumption | decide | omega | (simp only [ec, ei, ep] at * <;> omega) | (simp only [ec, ei, ep] at *; have hd := hd9 (by assumption); simp only [am_c] at * <;> omega) | (simp only [ec, ei, ep] at *; have hd := hd9 (by omega); simp only [am_c] at * <;> omega) | (simp only [ec, ei, am_c] at * <;> omega))
  have lp2' : ∀ (i : Int) (o2 : Option am_V) (μ : am_N) , gm mAR ν μ → 0 ≤ i → i ≤ 16 → 1 ≤ μ 83 14 → am_AW l 0 (fun _ => 0) 236 Q 2 [some (.inr (.inr 83)), some (.inl i), o2] [] μ := fun i o2 μ hv0 hv1 hv2 hv3 => lp2 ((16 - i) + 1).toNat i o2 μ hv0 hv1 hv2 hv3 (by omega)
  refine am_go (ct := fun pc => Nat.beq pc 2) am_oX7_mendsByHabit 300 ?_
  conv => whnf
  repeat' first
    | (refine (?_ : am_wp _ _ _ _ _ _ _ _ _ _ _ _); conv => whnf)
    | (refine (?_ : am_sw _ _ _ _); conv => whnf)
    | refine And.intro trivial ?_
    | exact trivial
    | assumption
    | refine k _ ?_
    | refine m_isWhom _ _ ?_ ?_ (fun _ => ?_)
    | refine m_held _   (fun _ => ?_)
    | exact gm_rf hS
    | refine gm_up ?_ rfl rfl
    | refine gm_up ?_ mo1_self rfl
    | refine gm_up ?_ mo1_in rfl
    | refine gm_100 ?_ rfl ?_ ?_
    | refine gm_14 ?_ rfl ?_ ?_
    | refine gm_15 ?_ rfl ?_ ?_
    | refine gm_16 ?_ rfl ?_ ?_
    | refine gm_21 ?_ rfl ?_ ?_
    | refine gm_33 ?_ rfl ?_ ?_
    | refine gm_40 ?_ rfl ?_ ?_
    | refine gm_42 ?_ rfl ?_ ?_
    | refine md_up ?_ rfl rfl
    | refine md_tr ?_ (by assumption) ?_
    | refine gm_tr ?_ (by assumption) ?_
    | refine gm_put ?_ ?_ rfl
    | refine mi_up ?_ rfl
    | exact gm_i (by assumption)
    | exact md_i (by assumption)
    | exact sb_id
    | exact sb_T_s
    | exact sb_T_Q
    | exact sb_T_M
    | exact sb_R_M
    | exact sb_L_M
    | exact mo_l
    | exact mo1_sub
    | exact mo1_one sb_T_s
    | exact mo1_one mo_l
    | exact mo1_one sb_T_Q
    | exact mo1_one (mo1_one sb_T_s)
    | exact mo1_one (mo1_one sb_id)
    | exact fun k j h => sb_T_Q k j (mo_l k j h)
    | exact fun k j h => mo_l k j (mo_l k j h)
    | exact fun k j h => sb_T_s k j (mo_l k j h)
    | refine lp2' _ _ _ ?_ ?_ ?_ ?_
    | refine And.intro (fun h => absurd h (by decide)) (fun _ => ?_)
    | refine And.intro (fun _ => ?_) (fun h => absurd (by decide) h)
    | refine And.intro (fun _ => ?_) (fun _ => ?_)
    | refine And.intro ?_ ?_
  all_goals (first | assumption | decide | omega | rfl | (simp only [am_c] at * <;> omega) | (simp only [am_c, am_up] at * <;> omega) | (simp [am_c, am_up] at * <;> omega))
theorem m_mendsByHabitE {l : Launch} {ν : am_N} {Q : Option am_V → am_N → Prop} (hS : mi ν) (h1 : 1 ≤ ν 83 14) (k : ∀ (μ' : am_N), gm mAR ν μ' → μ' 83 14 = ν 83 14 → Q none μ') : am_Does l 236 [.inr (.inr 83)] ν Q := m_mendsByHabit hS h1 (fun μ' h => k μ' h (h.2 83 14 rfl))
theorem m_gapsByHabit {l : Launch} {ν : am_N} {Q : Option am_V → am_N → Prop} (n : Int) (hS : mi ν)  (hn0 : 0 ≤ n) (hn1 : n ≤ 60) (h1 : 1 ≤ ν 83 14) (k : ∀ (r : Int) (μ' : am_N), gm mQ ν μ' → μ' 83 14 = ν 83 14 → Q (some (.inl r)) μ') : am_Does l 237 [.inr (.inr 83), .inl n] ν Q := by
  refine am_Does_of (Nat.le_of_ble_eq_true rfl) (Nat.le_of_ble_eq_true rfl) (Nat.le_of_ble_eq_true rfl) ?_
  have hb := mi_all hS
  have lp10 : ∀ (m : Nat) (s i : Int) (μ : am_N) , MD mQ ν μ → 0 ≤ i → i ≤ n → 1 ≤ μ 83 14 → n - i < (m : Int) → am_AW l 0 (fun _ => 0) 237 Q 10 [some (.inr (.inr 83)), some (.inl n), some (.inl s), some (.inl i)] [] μ := by
    intro m
    induction m with
    | zero =>
      intro s i μ hv0 hv1 hv2 hv3 hm
      have hb := mi_all (md_i hv0)
      exfalso
      omega
    | succ m ih =>
      intro s i μ hv0 hv1 hv2 hv3 hm
      have hb := mi_all (md_i hv0)
      refine am_go (ct := fun pc => Nat.beq pc 10) am_oX7_gapsByHabit 300 ?_
      conv => whnf
      repeat' first
        | (refine (?_ : am_wp _ _ _ _ _ _ _ _ _ _ _ _); conv => whnf)
        | (refine (?_ : am_sw _ _ _ _); conv => whnf)
        | refine And.intro trivial ?_
        | exact trivial
        | assumption
        | refine k _ _ ?_ ?_
        | refine m_keepM (A := mQ) (ν := ν) ?_ (fun _ _ _ _ _ => ?_)
        | refine m_comeM (A := mQ) (ν := ν) ?_ (by first | exact sb_id | exact mo_l | exact mo1_sub) rfl (fun _ _ _ => ?_)
        | refine m_takesTimes  (gm_rf (by repeat' first | assumption | exact gm_i (by assumption) | exact md_i (by assumption) | refine mi_up ?_ rfl | refine mi_100 ?_ ?_ ?_ | (simp only [am_c] at * <;> omega)))  (fun _ _ _ _ _ => ?_)
        | refine m_gap  ?_  (fun _ => ?_)
        | refine m_mendsByHabitE (by repeat' first | assumption | exact gm_i (by assumption) | exact md_i (by assumption) | refine mi_up ?_ rfl | refine mi_100 ?_ ?_ ?_ | (simp only [am_c] at * <;> omega)) ?_ (fun _ _ _ => ?_)
        | exact gm_rf hS
        | refine gm_up ?_ rfl rfl
        | refine gm_up ?_ mo1_self rfl
        | refine gm_up ?_ mo1_in rfl
        | refine gm_100 ?_ rfl ?_ ?_
        | refine gm_14 ?_ rfl ?_ ?_
        | refine gm_15 ?_ rfl ?_ ?_
        | refine gm_16 ?_ rfl ?_ ?_
        | refine gm_21 ?_ rfl ?_ ?_
        | refine gm_33 ?_ rfl ?_ ?_
        | refine gm_40 ?_ rfl ?_ ?_
        | refine gm_42 ?_ rfl ?_ ?_
        | refine md_up ?_ rfl rfl
        | refine md_tr ?_ (by assumption) ?_
        | refine gm_tr ?_ (by assumption) ?_
        | refine gm_put ?_ ?_ rfl
        | refine mi_up ?_ rfl
        | exact gm_i (by assumption)
        | exact md_i (by assumption)
        | exact sb_id
        | exact sb_T_s
        | exact sb_T_Q
        | exact sb_T_M
        | exact sb_R_M
        | exact sb_L_M
        | exact mo_l
        | exact mo1_sub
        | exact mo1_one sb_T_s
        | exact mo1_one mo_l
        | exact mo1_one sb_T_Q
        | exact mo1_one (mo1_one sb_T_s)
        | exact mo1_one (mo1_one sb_id)
        | exact fun k j h => sb_T_Q k j (mo_l k j h)
        | exact fun k j h => mo_l k j (mo_l k j h)
        | exact fun k j h => sb_T_s k j (mo_l k j h)
        | refine ih _ _ _ ?_ ?_ ?_ ?_ ?_
        | refine And.intro (fun h => absurd h (by decide)) (fun _ => ?_)
        | refine And.intro (fun _ => ?_) (fun h => absurd (by decide) h)
        | refine And.intro (fun _ => ?_) (fun _ => ?_)
        | refine And.intro ?_ ?_
      all_goals (first | assumption | decide | omega | rfl | (simp only [am_c] at * <;> omega) | (simp only [am_c, am_up] at * <;> omega) | (simp [am_c, am_up] at * <;> omega))
  have lp10' : ∀ (s i : Int) (μ : am_N) , MD mQ ν μ → 0 ≤ i → i ≤ n → 1 ≤ μ 83 14 → am_AW l 0 (fun _ => 0) 237 Q 10 [some (.inr (.inr 83)), some (.inl n), some (.inl s), some (.inl i)] [] μ := fun s i μ hv0 hv1 hv2 hv3 => lp10 ((n - i) + 1).toNat s i μ hv0 hv1 hv2 hv3 (by omega)
  refine am_go (ct := fun pc => Nat.beq pc 10) am_oX7_gapsByHabit 300 ?_
  conv => whnf
  repeat' first
    | (refine (?_ : am_wp _ _ _ _ _ _ _ _ _ _ _ _); conv => whnf)
    | (refine (?_ : am_sw _ _ _ _); conv => whnf)
    | refine And.intro trivial ?_
    | exact trivial
    | assumption
    | refine k _ _ ?_ ?_
    | refine m_keepM (A := mQ) (ν := ν) ?_ (fun _ _ _ _ _ => ?_)
    | refine m_comeM (A := mQ) (ν := ν) ?_ (by first | exact sb_id | exact mo_l | exact mo1_sub) rfl (fun _ _ _ => ?_)
    | refine m_takesTimes  (gm_rf (by repeat' first | assumption | exact gm_i (by assumption) | exact md_i (by assumption) | refine mi_up ?_ rfl | refine mi_100 ?_ ?_ ?_ | (simp only [am_c] at * <;> omega)))  (fun _ _ _ _ _ => ?_)
    | refine m_gap  ?_  (fun _ => ?_)
    | refine m_mendsByHabitE (by repeat' first | assumption | exact gm_i (by assumption) | exact md_i (by assumption) | refine mi_up ?_ rfl | refine mi_100 ?_ ?_ ?_ | (simp only [am_c] at * <;> omega)) ?_ (fun _ _ _ => ?_)
    | exact gm_rf hS
    | refine gm_up ?_ rfl rfl
    | refine gm_up ?_ mo1_self rfl
    | refine gm_up ?_ mo1_in rfl
    | refine gm_100 ?_ rfl ?_ ?_
    | refine gm_14 ?_ rfl ?_ ?_
    | refine gm_15 ?_ rfl ?_ ?_
    | refine gm_16 ?_ rfl ?_ ?_
    | refine gm_21 ?_ rfl ?_ ?_
    | refine gm_33 ?_ rfl ?_ ?_
    | refine gm_40 ?_ rfl ?_ ?_
    | refine gm_42 ?_ rfl ?_ ?_
    | refine md_up ?_ rfl rfl
    | refine md_tr ?_ (by assumption) ?_
    | refine gm_tr ?_ (by assumption) ?_
    | refine gm_put ?_ ?_ rfl
    | refine mi_up ?_ rfl
    | exact gm_i (by assumption)
    | exact md_i (by assumption)
    | exact sb_id
    | exact sb_T_s
    | exact sb_T_Q
    | exact sb_T_M
    | exact sb_R_M
    | exact sb_L_M
    | exact mo_l
    | exact mo1_sub
    | exact mo1_one sb_T_s
    | exact mo1_one mo_l
    | exact mo1_one sb_T_Q
    | exact mo1_one (mo1_one sb_T_s)
    | exact mo1_one (mo1_one sb_id)
    | exact fun k j h => sb_T_Q k j (mo_l k j h)
    | exact fun k j h => mo_l k j (mo_l k j h)
    | exact fun k j h => sb_T_s k j (mo_l k j h)
    | refine lp10' _ _ _ ?_ ?_ ?_ ?_
    | refine And.intro (fun h => absurd h (by decide)) (fun _ => ?_)
    | refine And.intro (fun _ => ?_) (fun h => absurd (by decide) h)
    | refine And.intro (fun _ => ?_) (fun _ => ?_)
    | refine And.intro ?_ ?_
  all_goals (first | assumption | decide | omega | rfl | (simp only [am_c] at * <;> omega) | (simp only [am_c, am_up] at * <;> omega) | (simp [am_c, am_up] at * <;> omega))
