/-! contracts: the model's changes (weak; its rows exactly) -/
/-- runs that can be taken back -/
def mK1 (k j : Nat) : Bool := Nat.beq k 101 || (Nat.beq k 102 || (Nat.beq k 103 || (Nat.beq k 83 && Nat.beq j 33)))
abbrev mK : Nat → Nat → Bool := mo ms mK1
abbrev mKR : Nat → Nat → Bool := mo mK mR
def mX1 (k j : Nat) : Bool := Nat.ble 85 k && Nat.ble k 93 || (Nat.beq k 83 && ((Nat.ble 10 j && Nat.ble j 16) || Nat.beq j 33))
/-- what start, kind, set, restore may change -/
abbrev mX : Nat → Nat → Bool := mo ms mX1
def mI1 (k j : Nat) : Bool := (Nat.beq k 98 && Nat.blt j 60) || (Nat.beq k 83 && Nat.beq j 25)
abbrev mI : Nat → Nat → Bool := mo ms mI1
def m1o (k' j' k j : Nat) : Bool := Nat.beq k k' || (Nat.beq k 83 && Nat.beq j j')
theorem sb_T_K : ∀ k j, mK k j = false → mT k j = false := fun k j h => sb_T_s k j (mo_l k j h)
theorem sb_T_KR : ∀ k j, mKR k j = false → mT k j = false := fun k j h => sb_T_K k j (mo_l k j h)
theorem sb_R_KR : ∀ k j, mKR k j = false → mAR k j = false := fun k j h => Bool.or_eq_false_iff.mpr ⟨sb_T_KR k j h, mo_r k j h⟩
theorem m_keepsRun {l : Launch} {ν : am_N} {Q : Option am_V → am_N → Prop}  (hS : mi ν)   (k : ∀ μ' : am_N, gm mK ν μ' → Q none μ') : am_Does l 179 [.inr (.inr 83)] ν Q := by
  refine am_Does_of (Nat.le_of_ble_eq_true rfl) (Nat.le_of_ble_eq_true rfl) (Nat.le_of_ble_eq_true rfl) ?_
  have hb := mi_all hS
  have lp95 : ∀ (m : Nat) (i : Int) (o2 : Option am_V) (μ : am_N) , gm mK ν μ → 0 ≤ i → i ≤ 4 → 4 - i < (m : Int) → am_AW l 0 (fun _ => 0) 179 Q 95 [some (.inr (.inr 83)), some (.inl i), o2] [] μ := by
    intro m
    induction m with
    | zero =>
      intro i o2 μ hv0 hv1 hv2 hm
      have hb := mi_all hv0.1
      exfalso
      omega
    | succ m ih =>
      intro i o2 μ hv0 hv1 hv2 hm
      have hb := mi_all hv0.1
      refine am_go (ct := fun pc => Nat.beq pc 95 || Nat.beq pc 22 || Nat.beq pc 2) am_oX7_keepsRun 300 ?_
      conv => whnf
      repeat' first
        | (refine (?_ : am_wp _ _ _ _ _ _ _ _ _ _ _ _); conv => whnf)
        | (refine (?_ : am_sw _ _ _ _); conv => whnf)
        | refine And.intro trivial ?_
        | exact trivial
        | assumption
        | refine k _ ?_
        | exact gm_rf hS
        | refine gm_up ?_ rfl rfl
        | refine gm_up ?_ mo1_self rfl
        | refine gm_up ?_ mo1_in rfl
        | refine gm_100 ?_ rfl ?_ ?_
        | refine gm_14 ?_ rfl ?_ ?_
        | refine gm_15 ?_ rfl ?_ ?_
        | refine gm_16 ?_ rfl ?_ ?_
        | refine gm_21 ?_ rfl ?_ ?_
        | refine gm_33 ?_ rfl ?_ ?_
        | refine gm_40 ?_ rfl ?_ ?_
        | refine gm_42 ?_ rfl ?_ ?_
        | refine md_up ?_ rfl rfl
        | refine md_tr ?_ (by assumption) ?_
        | refine gm_tr ?_ (by assumption) ?_
        | refine gm_put ?_ ?_ rfl
        | refine mi_up ?_ rfl
        | exact gm_i (by assumption)
        | exact md_i (by assumption)
        | exact sb_id
        | exact sb_T_s
        | exact sb_T_Q
        | exact sb_T_M
        | exact sb_R_M
        | exact sb_L_M
        | exact mo_l
        | exact mo1_sub
        | exact mo1_one sb_T_s
        | exact mo1_one mo_l
        | exact mo1_one sb_T_Q
        | exact mo1_one (mo1_one sb_T_s)
        | exact mo1_one (mo1_one sb_id)
        | exact fun k j h => sb_T_Q k j (mo_l k j h)
        | exact fun k j h => mo_l k j (mo_l k j h)
        | exact fun k j h => sb_T_s k j (mo_l k j h)
        | refine ih _ _ _ ?_ ?_ ?_ ?_
        | refine And.intro (fun h => absurd h (by decide)) (fun _ => ?_)
        | refine And.intro (fun _ => ?_) (fun h => absurd (by decide) h)
        | refine And.intro (fun _ => ?_) (fun _ => ?_)
        | refine And.intro ?_ ?_
      all_goals (first | assumption | decide | omega | rfl | (simp only [am_c] at * <;> omega) | (simp only [am_c, am_up] at * <;> omega) | (simp [am_c, am_up] at * <;> omega))
  have lp95' : ∀ (i : Int) (o2 : Option am_V) (μ : am_N) , gm mK ν μ → 0 ≤ i → i ≤ 4 → am_AW l 0 (fun _ => 0) 179 Q 95 [some (.inr (.inr 83)), some (.inl i), o2] [] μ := fun i o2 μ hv0 hv1 hv2 => lp95 ((4 - i) + 1).toNat i o2 μ hv0 hv1 hv2 (by omega)
  have lp22 : ∀ (m : Nat) (c i : Int) (μ : am_N) , gm mK ν μ → 1 ≤ c → c ≤ 5 → 0 ≤ i → i ≤ 4 → (∀ (o2 : Option am_V) (μ : am_N), gm mK ν μ → am_AW l 0 (fun _ => 0) 179 Q 2 [some (.inr (.inr 83)), some (.inl (c + -1)), o2] [] μ) → 4 - i < (m : Int) → am_AW l 0 (fun _ => 0) 179 Q 22 [some (.inr (.inr 83)), some (.inl c), some (.inl i)] [] μ := by
    intro m
    induction m with
    | zero =>
      intro c i μ hv0 hv1 hv2 hv3 hv4 hv5 hm
      have hb := mi_all hv0.1
      exfalso
      omega
    | succ m ih =>
      intro c i μ hv0 hv1 hv2 hv3 hv4 hv5 hm
      have hb := mi_all hv0.1
      refine am_go (ct := fun pc => Nat.beq pc 95 || Nat.beq pc 22 || Nat.beq pc 2) am_oX7_keepsRun 300 ?_
      conv => whnf
      repeat' first
        | (refine (?_ : am_wp _ _ _ _ _ _ _ _ _ _ _ _); conv => whnf)
        | (refine (?_ : am_sw _ _ _ _); conv => whnf)
        | refine And.intro trivial ?_
        | exact trivial
        | assumption
        | refine hv5 _ _ ?_
        | refine k _ ?_
        | exact gm_rf hS
        | refine gm_up ?_ rfl rfl
        | refine gm_up ?_ mo1_self rfl
        | refine gm_up ?_ mo1_in rfl
        | refine gm_100 ?_ rfl ?_ ?_
        | refine gm_14 ?_ rfl ?_ ?_
        | refine gm_15 ?_ rfl ?_ ?_
        | refine gm_16 ?_ rfl ?_ ?_
        | refine gm_21 ?_ rfl ?_ ?_
        | refine gm_33 ?_ rfl ?_ ?_
        | refine gm_40 ?_ rfl ?_ ?_
        | refine gm_42 ?_ rfl ?_ ?_
        | refine md_up ?_ rfl rfl
        | refine md_tr ?_ (by assumption) ?_
        | refine gm_tr ?_ (by assumption) ?_
        | refine gm_put ?_ ?_ rfl
        | refine mi_up ?_ rfl
        | exact gm_i (by assumption)
        | exact md_i (by assumption)
        | exact sb_id
        | exact sb_T_s
        | exact sb_T_Q
        | exact sb_T_M
        | exact sb_R_M
        | exact sb_L_M
        | exact mo_l
        | exact mo1_sub
        | exact mo1_one sb_T_s
        | exact mo1_one mo_l
        | exact mo1_one sb_T_Q
        | exact mo1_one (mo1_one sb_T_s)
        | exact mo1_one (mo1_one sb_id)
        | exact fun k j h => sb_T_Q k j (mo_l k j h)
        | exact fun k j h => mo_l k j (mo_l k j h)
        | exact fun k j h => sb_T_s k j (mo_l k j h)
        | refine ih _ _ _ ?_ ?_ ?_ ?_ ?_ ?_ ?_
        | refine lp95' _ _ _ ?_ ?_ ?_
        | refine And.intro (fun h => absurd h (by decide)) (fun _ => ?_)
        | refine And.intro (fun _ => ?_) (fun h => absurd (by decide) h)
        | refine And.intro (fun _ => ?_) (fun _ => ?_)
        | refine And.intro ?_ ?_
      all_goals (first | assumption | decide | omega | rfl | (simp only [am_c] at * <;> omega) | (simp only [am_c, am_up] at * <;> omega) | (simp [am_c, am_up] at * <;> omega))
  have lp22' : ∀ (c i : Int) (μ : am_N) , gm mK ν μ → 1 ≤ c → c ≤ 5 → 0 ≤ i → i ≤ 4 → (∀ (o2 : Option am_V) (μ : am_N), gm mK ν μ → am_AW l 0 (fun _ => 0) 179 Q 2 [some (.inr (.inr 83)), some (.inl (c + -1)), o2] [] μ) → am_AW l 0 (fun _ => 0) 179 Q 22 [some (.inr (.inr 83)), some (.inl c), some (.inl i)] [] μ := fun c i μ hv0 hv1 hv2 hv3 hv4 hv5 => lp22 ((4 - i) + 1).toNat c i μ hv0 hv1 hv2 hv3 hv4 hv5 (by omega)
  have lp2 : ∀ (m : Nat) (c : Int) (o2 : Option am_V) (μ : am_N) , gm mK ν μ → 0 ≤ c → c ≤ 5 → c < (m : Int) → am_AW l 0 (fun _ => 0) 179 Q 2 [some (.inr (.inr 83)), some (.inl c), o2] [] μ := by
    intro m
    induction m with
    | zero =>
      intro c o2 μ hv0 hv1 hv2 hm
      have hb := mi_all hv0.1
      exfalso
      omega
    | succ m ih =>
      intro c o2 μ hv0 hv1 hv2 hm
      have hb := mi_all hv0.1
      refine am_go (ct := fun pc => Nat.beq pc 95 || Nat.beq pc 22 || Nat.beq pc 2) am_oX7_keepsRun 300 ?_
      conv => whnf
      repeat' first
        | (refine (?_ : am_wp _ _ _ _ _ _ _ _ _ _ _ _); conv => whnf)
        | (refine (?_ : am_sw _ _ _ _); conv => whnf)
        | refine And.intro trivial ?_
        | exact trivial
        | assumption
        | (refine fun _ _ _ => ih _ _ _ ?_ ?_ ?_ ?_)
        | refine k _ ?_
        | exact gm_rf hS
        | refine gm_up ?_ rfl rfl
        | refine gm_up ?_ mo1_self rfl
        | refine gm_up ?_ mo1_in rfl
        | refine gm_100 ?_ rfl ?_ ?_
        | refine gm_14 ?_ rfl ?_ ?_
        | refine gm_15 ?_ rfl ?_ ?_
        | refine gm_16 ?_ rfl ?_ ?_
        | refine gm_21 ?_ rfl ?_ ?_
        | refine gm_33 ?_ rfl ?_ ?_
        | refine gm_40 ?_ rfl ?_ ?_
        | refine gm_42 ?_ rfl ?_ ?_
        | refine md_up ?_ rfl rfl
        | refine md_tr ?_ (by assumption) ?_
        | refine gm_tr ?_ (by assumption) ?_
        | refine gm_put ?_ ?_ rfl
        | refine mi_up ?_ rfl
        | exact gm_i (by assumption)
        | exact md_i (by assumption)
        | exact sb_id
        | exact sb_T_s
        | exact sb_T_Q
        | exact sb_T_M
        | exact sb_R_M
        | exact sb_L_M
        | exact mo_l
        | exact mo1_sub
        | exact mo1_one sb_T_s
        | exact mo1_one mo_l
        | exact mo1_one sb_T_Q
        | exact mo1_one (mo1_one sb_T_s)
        | exact mo1_one (mo1_one sb_id)
        | exact fun k j h => sb_T_Q k j (mo_l k j h)
        | exact fun k j h => mo_l k j (mo_l k j h)
        | exact fun k j h => sb_T_s k j (mo_l k j h)
        | refine ih _ _ _ ?_ ?_ ?_ ?_
        | refine lp22' _ _ _ ?_ ?_ ?_ ?_ ?_ ?_
        | refine lp95' _ _ _ ?_ ?_ ?_
        | refine And.intro (fun h => absurd h (by decide)) (fun _ => ?_)
        | refine And.intro (fun _ => ?_) (fun h => absurd (by decide) h)
        | refine And.intro (fun _ => ?_) (fun _ => ?_)
        | refine And.intro ?_ ?_
      all_goals (first | assumption | decide | omega | rfl | (simp only [am_c] at * <;> omega) | (simp only [am_c, am_up] at * <;> omega) | (simp [am_c, am_up] at * <;> omega))
  have lp2' : ∀ (c : Int) (o2 : Option am_V) (μ : am_N) , gm mK ν μ → 0 ≤ c → c ≤ 5 → am_AW l 0 (fun _ => 0) 179 Q 2 [some (.inr (.inr 83)), some (.inl c), o2] [] μ := fun c o2 μ hv0 hv1 hv2 => lp2 ((c) + 1).toNat c o2 μ hv0 hv1 hv2 (by omega)
  refine am_go (ct := fun pc => Nat.beq pc 95 || Nat.beq pc 22 || Nat.beq pc 2) am_oX7_keepsRun 300 ?_
  conv => whnf
  repeat' first
    | (refine (?_ : am_wp _ _ _ _ _ _ _ _ _ _ _ _); conv => whnf)
    | (refine (?_ : am_sw _ _ _ _); conv => whnf)
    | refine And.intro trivial ?_
    | exact trivial
    | assumption
    | refine k _ ?_
    | exact gm_rf hS
    | refine gm_up ?_ rfl rfl
    | refine gm_up ?_ mo1_self rfl
    | refine gm_up ?_ mo1_in rfl
    | refine gm_100 ?_ rfl ?_ ?_
    | refine gm_14 ?_ rfl ?_ ?_
    | refine gm_15 ?_ rfl ?_ ?_
    | refine gm_16 ?_ rfl ?_ ?_
    | refine gm_21 ?_ rfl ?_ ?_
    | refine gm_33 ?_ rfl ?_ ?_
    | refine gm_40 ?_ rfl ?_ ?_
    | refine gm_42 ?_ rfl ?_ ?_
    | refine md_up ?_ rfl rfl
    | refine md_tr ?_ (by assumption) ?_
    | refine gm_tr ?_ (by assumption) ?_
    | refine gm_put ?_ ?_ rfl
    | refine mi_up ?_ rfl
    | exact gm_i (by assumption)
    | exact md_i (by assumption)
    | exact sb_id
    | exact sb_T_s
    | exact sb_T_Q
    | exact sb_T_M
    | exact sb_R_M
    | exact sb_L_M
    | exact mo_l
    | exact mo1_sub
    | exact mo1_one sb_T_s
    | exact mo1_one mo_l
    | exact mo1_one sb_T_Q
    | exact mo1_one (mo1_one sb_T_s)
    | exact mo1_one (mo1_one sb_id)
    | exact fun k j h => sb_T_Q k j (mo_l k j h)
    | exact fun k j h => mo_l k j (mo_l k j h)
    | exact fun k j h => sb_T_s k j (mo_l k j h)
    | refine lp2' _ _ _ ?_ ?_ ?_
    | refine lp22' _ _ _ ?_ ?_ ?_ ?_ ?_ ?_
    | refine lp95' _ _ _ ?_ ?_ ?_
    | refine And.intro (fun h => absurd h (by decide)) (fun _ => ?_)
    | refine And.intro (fun _ => ?_) (fun h => absurd (by decide) h)
    | refine And.intro (fun _ => ?_) (fun _ => ?_)
    | refine And.intro ?_ ?_
  all_goals (first | assumption | decide | omega | rfl | (simp only [am_c] at * <;> omega) | (simp only [am_c, am_up] at * <;> omega) | (simp [am_c, am_up] at * <;> omega))
theorem m_keepsRunE {l : Launch} {ν : am_N} {Q : Option am_V → am_N → Prop} (hS : mi ν) (k : ∀ (μ' : am_N), gm mK ν μ' → μ' 83 14 = ν 83 14 → Q none μ') : am_Does l 179 [.inr (.inr 83)] ν Q := m_keepsRun hS (fun μ' h => k μ' h (h.2 83 14 rfl))
theorem m_run {l : Launch} {ν : am_N} {Q : Option am_V → am_N → Prop}  (hS : mi ν)   (k : ∀ (r : Int) (μ' : am_N), gm mKR ν μ' → Q (some (.inl r)) μ') : am_Does l 177 [.inr (.inr 83)] ν Q := by
  refine am_Does_of (Nat.le_of_ble_eq_true rfl) (Nat.le_of_ble_eq_true rfl) (Nat.le_of_ble_eq_true rfl) ?_
  have hb := mi_all hS
  refine am_go (ct := fun _ => false) am_oX7_run 300 ?_
  conv => whnf
  repeat' first
    | (refine (?_ : am_wp _ _ _ _ _ _ _ _ _ _ _ _); conv => whnf)
    | (refine (?_ : am_sw _ _ _ _); conv => whnf)
    | refine And.intro trivial ?_
    | exact trivial
    | assumption
    | refine k _ _ ?_
    | exact sb_R_KR
    | exact sb_T_KR
    | exact sb_T_K
    | exact fun k j h => mo_l k j (mo_l k j h)
    | exact mo_l
    | refine m_no _ (gm_rf (by repeat' first | assumption | exact gm_i (by assumption) | exact md_i (by assumption) | refine mi_up ?_ rfl | refine mi_100 ?_ ?_ ?_ | (simp only [am_c] at * <;> omega))) ?_ ?_ (fun _ _ _ _ => ?_)
    | refine m_keepsRunE (by repeat' first | assumption | exact gm_i (by assumption) | exact md_i (by assumption) | refine mi_up ?_ rfl | refine mi_100 ?_ ?_ ?_ | (simp only [am_c] at * <;> omega)) (fun _ _ _ => ?_)
    | refine m_runsE (by repeat' first | assumption | exact gm_i (by assumption) | exact md_i (by assumption) | refine mi_up ?_ rfl | refine mi_100 ?_ ?_ ?_ | (simp only [am_c] at * <;> omega)) ?_ (fun _ _ _ _ => ?_)
    | exact gm_rf hS
    | refine gm_up ?_ rfl rfl
    | refine gm_up ?_ mo1_self rfl
    | refine gm_up ?_ mo1_in rfl
    | refine gm_100 ?_ rfl ?_ ?_
    | refine gm_14 ?_ rfl ?_ ?_
    | refine gm_15 ?_ rfl ?_ ?_
    | refine gm_16 ?_ rfl ?_ ?_
    | refine gm_21 ?_ rfl ?_ ?_
    | refine gm_33 ?_ rfl ?_ ?_
    | refine gm_40 ?_ rfl ?_ ?_
    | refine gm_42 ?_ rfl ?_ ?_
    | refine md_up ?_ rfl rfl
    | refine md_tr ?_ (by assumption) ?_
    | refine gm_tr ?_ (by assumption) ?_
    | refine gm_put ?_ ?_ rfl
    | refine mi_up ?_ rfl
    | exact gm_i (by assumption)
    | exact md_i (by assumption)
    | exact sb_id
    | exact sb_T_s
    | exact sb_T_Q
    | exact sb_T_M
    | exact sb_R_M
    | exact sb_L_M
    | exact mo_l
    | exact mo1_sub
    | exact mo1_one sb_T_s
    | exact mo1_one mo_l
    | exact mo1_one sb_T_Q
    | exact mo1_one (mo1_one sb_T_s)
    | exact mo1_one (mo1_one sb_id)
    | exact fun k j h => sb_T_Q k j (mo_l k j h)
    | exact fun k j h => mo_l k j (mo_l k j h)
    | exact fun k j h => sb_T_s k j (mo_l k j h)
    | refine And.intro (fun h => absurd h (by decide)) (fun _ => ?_)
    | refine And.intro (fun _ => ?_) (fun h => absurd (by decide) h)
    | refine And.intro (fun _ => ?_) (fun _ => ?_)
    | refine And.intro ?_ ?_
  all_goals (first | assumption | decide | omega | rfl | (simp only [am_c] at * <;> omega) | (simp only [am_c, am_up] at * <;> omega) | (simp [am_c, am_up] at * <;> omega))
theorem m_back {l : Launch} {ν : am_N} {Q : Option am_V → am_N → Prop}  (hS : mi ν)   (k : ∀ (r : Int) (μ' : am_N), gm mKR ν μ' → Q (some (.inl r)) μ') : am_Does l 180 [.inr (.inr 83)] ν Q := by
  refine am_Does_of (Nat.le_of_ble_eq_true rfl) (Nat.le_of_ble_eq_true rfl) (Nat.le_of_ble_eq_true rfl) ?_
  have hb := mi_all hS
  have lp84 : ∀ (m : Nat) (c i : Int) (μ : am_N) , gm mKR ν μ → 0 ≤ c → c ≤ 4 → 0 ≤ i → i ≤ 4 → (∀ (o2 : Option am_V) (μ : am_N), gm mKR ν μ → 1 ≤ μ 83 33 → am_AW l 0 (fun _ => 0) 180 Q 63 [some (.inr (.inr 83)), some (.inl (c + 1)), o2] [] μ) → 1 ≤ μ 83 33 → 4 - i < (m : Int) → am_AW l 0 (fun _ => 0) 180 Q 84 [some (.inr (.inr 83)), some (.inl c), some (.inl i)] [] μ := by
    intro m
    induction m with
    | zero =>
      intro c i μ hv0 hv1 hv2 hv3 hv4 hv5 hv6 hm
      have hb := mi_all hv0.1
      exfalso
      omega
    | succ m ih =>
      intro c i μ hv0 hv1 hv2 hv3 hv4 hv5 hv6 hm
      have hb := mi_all hv0.1
      refine am_go (ct := fun pc => Nat.beq pc 84 || Nat.beq pc 63 || Nat.beq pc 26) am_oX7_back 300 ?_
      conv => whnf
      repeat' first
        | (refine (?_ : am_wp _ _ _ _ _ _ _ _ _ _ _ _); conv => whnf)
        | (refine (?_ : am_sw _ _ _ _); conv => whnf)
        | refine And.intro trivial ?_
        | exact trivial
        | assumption
        | refine hv5 _ _ ?_ ?_
        | refine k _ _ ?_
        | exact sb_R_KR
        | exact sb_T_KR
        | exact sb_T_K
        | exact fun k j h => mo_l k j (mo_l k j h)
        | exact mo_l
        | refine m_no _ (gm_rf (by repeat' first | assumption | exact gm_i (by assumption) | exact md_i (by assumption) | refine mi_up ?_ rfl | refine mi_100 ?_ ?_ ?_ | (simp only [am_c] at * <;> omega))) ?_ ?_ (fun _ _ _ _ => ?_)
        | exact gm_rf hS
        | refine gm_up ?_ rfl rfl
        | refine gm_up ?_ mo1_self rfl
        | refine gm_up ?_ mo1_in rfl
        | refine gm_100 ?_ rfl ?_ ?_
        | refine gm_14 ?_ rfl ?_ ?_
        | refine gm_15 ?_ rfl ?_ ?_
        | refine gm_16 ?_ rfl ?_ ?_
        | refine gm_21 ?_ rfl ?_ ?_
        | refine gm_33 ?_ rfl ?_ ?_
        | refine gm_40 ?_ rfl ?_ ?_
        | refine gm_42 ?_ rfl ?_ ?_
        | refine md_up ?_ rfl rfl
        | refine md_tr ?_ (by assumption) ?_
        | refine gm_tr ?_ (by assumption) ?_
        | refine gm_put ?_ ?_ rfl
        | refine mi_up ?_ rfl
        | exact gm_i (by assumption)
        | exact md_i (by assumption)
        | exact sb_id
        | exact sb_T_s
        | exact sb_T_Q
        | exact sb_T_M
        | exact sb_R_M
        | exact sb_L_M
        | exact mo_l
        | exact mo1_sub
        | exact mo1_one sb_T_s
        | exact mo1_one mo_l
        | exact mo1_one sb_T_Q
        | exact mo1_one (mo1_one sb_T_s)
        | exact mo1_one (mo1_one sb_id)
        | exact fun k j h => sb_T_Q k j (mo_l k j h)
        | exact fun k j h => mo_l k j (mo_l k j h)
        | exact fun k j h => sb_T_s k j (mo_l k j h)
        | refine ih _ _ _ ?_ ?_ ?_ ?_ ?_ ?_ ?_ ?_
        | refine And.intro (fun h => absurd h (by decide)) (fun _ => ?_)
        | refine And.intro (fun _ => ?_) (fun h => absurd (by decide) h)
        | refine And.intro (fun _ => ?_) (fun _ => ?_)
        | refine And.intro ?_ ?_
      all_goals (first | assumption | decide | omega | rfl | (simp only [am_c] at * <;> omega) | (simp only [am_c, am_up] at * <;> omega) | (simp [am_c, am_up] at * <;> omega))
  have lp84' : ∀ (c i : Int) (μ : am_N) , gm mKR ν μ → 0 ≤ c → c ≤ 4 → 0 ≤ i → i ≤ 4 → (∀ (o2 : Option am_V) (μ : am_N), gm mKR ν μ → 1 ≤ μ 83 33 → am_AW l 0 (fun _ => 0) 180 Q 63 [some (.inr (.inr 83)), some (.inl (c + 1)), o2] [] μ) → 1 ≤ μ 83 33 → am_AW l 0 (fun _ => 0) 180 Q 84 [some (.inr (.inr 83)), some (.inl c), some (.inl i)] [] μ := fun c i μ hv0 hv1 hv2 hv3 hv4 hv5 hv6 => lp84 ((4 - i) + 1).toNat c i μ hv0 hv1 hv2 hv3 hv4 hv5 hv6 (by omega)
  have lp63 : ∀ (m : Nat) (c : Int) (o2 : Option am_V) (μ : am_N) , gm mKR ν μ → 0 ≤ c → c ≤ 5 → 1 ≤ μ 83 33 → 5 - c < (m : Int) → am_AW l 0 (fun _ => 0) 180 Q 63 [some (.inr (.inr 83)), some (.inl c), o2] [] μ := by
    intro m
    induction m with
    | zero =>
      intro c o2 μ hv0 hv1 hv2 hv3 hm
      have hb := mi_all hv0.1
      exfalso
      omega
    | succ m ih =>
      intro c o2 μ hv0 hv1 hv2 hv3 hm
      have hb := mi_all hv0.1
      refine am_go (ct := fun pc => Nat.beq pc 84 || Nat.beq pc 63 || Nat.beq pc 26) am_oX7_back 300 ?_
      conv => whnf
      repeat' first
        | (refine (?_ : am_wp _ _ _ _ _ _ _ _ _ _ _ _); conv => whnf)
        | (refine (?_ : am_sw _ _ _ _); conv => whnf)
        | refine And.intro trivial ?_
        | exact trivial
        | assumption
        | (refine fun _ _ _ _ => ih _ _ _ ?_ ?_ ?_ ?_ ?_)
        | refine k _ _ ?_
        | exact sb_R_KR
        | exact sb_T_KR
        | exact sb_T_K
        | exact fun k j h => mo_l k j (mo_l k j h)
        | exact mo_l
        | refine m_no _ (gm_rf (by repeat' first | assumption | exact gm_i (by assumption) | exact md_i (by assumption) | refine mi_up ?_ rfl | refine mi_100 ?_ ?_ ?_ | (simp only [am_c] at * <;> omega))) ?_ ?_ (fun _ _ _ _ => ?_)
        | exact gm_rf hS
        | refine gm_up ?_ rfl rfl
        | refine gm_up ?_ mo1_self rfl
        | refine gm_up ?_ mo1_in rfl
        | refine gm_100 ?_ rfl ?_ ?_
        | refine gm_14 ?_ rfl ?_ ?_
        | refine gm_15 ?_ rfl ?_ ?_
        | refine gm_16 ?_ rfl ?_ ?_
        | refine gm_21 ?_ rfl ?_ ?_
        | refine gm_33 ?_ rfl ?_ ?_
        | refine gm_40 ?_ rfl ?_ ?_
        | refine gm_42 ?_ rfl ?_ ?_
        | refine md_up ?_ rfl rfl
        | refine md_tr ?_ (by assumption) ?_
        | refine gm_tr ?_ (by assumption) ?_
        | refine gm_put ?_ ?_ rfl
        | refine mi_up ?_ rfl
        | exact gm_i (by assumption)
        | exact md_i (by assumption)
        | exact sb_id
        | exact sb_T_s
        | exact sb_T_Q
        | exact sb_T_M
        | exact sb_R_M
        | exact sb_L_M
        | exact mo_l
        | exact mo1_sub
        | exact mo1_one sb_T_s
        | exact mo1_one mo_l
        | exact mo1_one sb_T_Q
        | exact mo1_one (mo1_one sb_T_s)
        | exact mo1_one (mo1_one sb_id)
        | exact fun k j h => sb_T_Q k j (mo_l k j h)
        | exact fun k j h => mo_l k j (mo_l k j h)
        | exact fun k j h => sb_T_s k j (mo_l k j h)
        | refine ih _ _ _ ?_ ?_ ?_ ?_ ?_
        | refine lp84' _ _ _ ?_ ?_ ?_ ?_ ?_ ?_ ?_
        | refine And.intro (fun h => absurd h (by decide)) (fun _ => ?_)
        | refine And.intro (fun _ => ?_) (fun h => absurd (by decide) h)
        | refine And.intro (fun _ => ?_) (fun _ => ?_)
        | refine And.intro ?_ ?_
      all_goals (first | assumption | decide | omega | rfl | (simp only [am_c] at * <;> omega) | (simp only [am_c, am_up] at * <;> omega) | (simp [am_c, am_up] at * <;> omega))
  have lp63' : ∀ (c : Int) (o2 : Option am_V) (μ : am_N) , gm mKR ν μ → 0 ≤ c → c ≤ 5 → 1 ≤ μ 83 33 → am_AW l 0 (fun _ => 0) 180 Q 63 [some (.inr (.inr 83)), some (.inl c), o2] [] μ := fun c o2 μ hv0 hv1 hv2 hv3 => lp63 ((5 - c) + 1).toNat c o2 μ hv0 hv1 hv2 hv3 (by omega)
  have lp26 : ∀ (m : Nat) (i : Int) (μ : am_N) , gm mKR ν μ → 0 ≤ i → i ≤ 4 → 1 ≤ μ 83 33 → 4 - i < (m : Int) → am_AW l 0 (fun _ => 0) 180 Q 26 [some (.inr (.inr 83)), some (.inl i), none] [] μ := by
    intro m
    induction m with
    | zero =>
      intro i μ hv0 hv1 hv2 hv3 hm
      have hb := mi_all hv0.1
      exfalso
      omega
    | succ m ih =>
      intro i μ hv0 hv1 hv2 hv3 hm
      have hb := mi_all hv0.1
      refine am_go (ct := fun pc => Nat.beq pc 84 || Nat.beq pc 63 || Nat.beq pc 26) am_oX7_back 300 ?_
      conv => whnf
      repeat' first
        | (refine (?_ : am_wp _ _ _ _ _ _ _ _ _ _ _ _); conv => whnf)
        | (refine (?_ : am_sw _ _ _ _); conv => whnf)
        | refine And.intro trivial ?_
        | exact trivial
        | assumption
        | refine k _ _ ?_
        | exact sb_R_KR
        | exact sb_T_KR
        | exact sb_T_K
        | exact fun k j h => mo_l k j (mo_l k j h)
        | exact mo_l
        | refine m_no _ (gm_rf (by repeat' first | assumption | exact gm_i (by assumption) | exact md_i (by assumption) | refine mi_up ?_ rfl | refine mi_100 ?_ ?_ ?_ | (simp only [am_c] at * <;> omega))) ?_ ?_ (fun _ _ _ _ => ?_)
        | exact gm_rf hS
        | refine gm_up ?_ rfl rfl
        | refine gm_up ?_ mo1_self rfl
        | refine gm_up ?_ mo1_in rfl
        | refine gm_100 ?_ rfl ?_ ?_
        | refine gm_14 ?_ rfl ?_ ?_
        | refine gm_15 ?_ rfl ?_ ?_
        | refine gm_16 ?_ rfl ?_ ?_
        | refine gm_21 ?_ rfl ?_ ?_
        | refine gm_33 ?_ rfl ?_ ?_
        | refine gm_40 ?_ rfl ?_ ?_
        | refine gm_42 ?_ rfl ?_ ?_
        | refine md_up ?_ rfl rfl
        | refine md_tr ?_ (by assumption) ?_
        | refine gm_tr ?_ (by assumption) ?_
        | refine gm_put ?_ ?_ rfl
        | refine mi_up ?_ rfl
        | exact gm_i (by assumption)
        | exact md_i (by assumption)
        | exact sb_id
        | exact sb_T_s
        | exact sb_T_Q
        | exact sb_T_M
        | exact sb_R_M
        | exact sb_L_M
        | exact mo_l
        | exact mo1_sub
        | exact mo1_one sb_T_s
        | exact mo1_one mo_l
        | exact mo1_one sb_T_Q
        | exact mo1_one (mo1_one sb_T_s)
        | exact mo1_one (mo1_one sb_id)
        | exact fun k j h => sb_T_Q k j (mo_l k j h)
        | exact fun k j h => mo_l k j (mo_l k j h)
        | exact fun k j h => sb_T_s k j (mo_l k j h)
        | refine ih _ _ ?_ ?_ ?_ ?_ ?_
        | refine lp63' _ _ _ ?_ ?_ ?_ ?_
        | refine lp84' _ _ _ ?_ ?_ ?_ ?_ ?_ ?_ ?_
        | refine And.intro (fun h => absurd h (by decide)) (fun _ => ?_)
        | refine And.intro (fun _ => ?_) (fun h => absurd (by decide) h)
        | refine And.intro (fun _ => ?_) (fun _ => ?_)
        | refine And.intro ?_ ?_
      all_goals (first | assumption | decide | omega | rfl | (simp only [am_c] at * <;> omega) | (simp only [am_c, am_up] at * <;> omega) | (simp [am_c, am_up] at * <;> omega))
  have lp26' : ∀ (i : Int) (μ : am_N) , gm mKR ν μ → 0 ≤ i → i ≤ 4 → 1 ≤ μ 83 33 → am_AW l 0 (fun _ => 0) 180 Q 26 [some (.inr (.inr 83)), some (.inl i), none] [] μ := fun i μ hv0 hv1 hv2 hv3 => lp26 ((4 - i) + 1).toNat i μ hv0 hv1 hv2 hv3 (by omega)
  refine am_go (ct := fun pc => Nat.beq pc 84 || Nat.beq pc 63 || Nat.beq pc 26) am_oX7_back 300 ?_
  conv => whnf
  repeat' first
    | (refine (?_ : am_wp _ _ _ _ _ _ _ _ _ _ _ _); conv => whnf)
    | (refine (?_ : am_sw _ _ _ _); conv => whnf)
    | refine And.intro trivial ?_
    | exact trivial
    | assumption
    | refine k _ _ ?_
    | exact sb_R_KR
    | exact sb_T_KR
    | exact sb_T_K
    | exact fun k j h => mo_l k j (mo_l k j h)
    | exact mo_l
    | refine m_no _ (gm_rf (by repeat' first | assumption | exact gm_i (by assumption) | exact md_i (by assumption) | refine mi_up ?_ rfl | refine mi_100 ?_ ?_ ?_ | (simp only [am_c] at * <;> omega))) ?_ ?_ (fun _ _ _ _ => ?_)
    | exact gm_rf hS
    | refine gm_up ?_ rfl rfl
    | refine gm_up ?_ mo1_self rfl
    | refine gm_up ?_ mo1_in rfl
    | refine gm_100 ?_ rfl ?_ ?_
    | refine gm_14 ?_ rfl ?_ ?_
    | refine gm_15 ?_ rfl ?_ ?_
    | refine gm_16 ?_ rfl ?_ ?_
    | refine gm_21 ?_ rfl ?_ ?_
    | refine gm_33 ?_ rfl ?_ ?_
    | refine gm_40 ?_ rfl ?_ ?_
    | refine gm_42 ?_ rfl ?_ ?_
    | refine md_up ?_ rfl rfl
    | refine md_tr ?_ (by assumption) ?_
    | refine gm_tr ?_ (by assumption) ?_
    | refine gm_put ?_ ?_ rfl
    | refine mi_up ?_ rfl
    | exact gm_i (by assumption)
    | exact md_i (by assumption)
    | exact sb_id
    | exact sb_T_s
    | exact sb_T_Q
    | exact sb_T_M
    | exact sb_R_M
    | exact sb_L_M
    | exact mo_l
    | exact mo1_sub
    | exact mo1_one sb_T_s
    | exact mo1_one mo_l
    | exact mo1_one sb_T_Q
    | exact mo1_one (mo1_one sb_T_s)
    | exact mo1_one (mo1_one sb_id)
    | exact fun k j h => sb_T_Q k j (mo_l k j h)
    | exact fun k j h => mo_l k j (mo_l k j h)
    | exact fun k j h => sb_T_s k j (mo_l k j h)
    | refine lp26' _ _ ?_ ?_ ?_ ?_
    | refine lp63' _ _ _ ?_ ?_ ?_ ?_
    | refine lp84' _ _ _ ?_ ?_ ?_ ?_ ?_ ?_ ?_
    | refine And.intro (fun h => absurd h (by decide)) (fun _ => ?_)
    | refine And.intro (fun _ => ?_) (fun h => absurd (by decide) h)
    | refine And.intro (fun _ => ?_) (fun _ => ?_)
    | refine And.intro ?_ ?_
  all_goals (first | assumption | decide | omega | rfl | (simp only [am_c] at * <;> omega) | (simp only [am_c, am_up] at * <;> omega) | (simp [am_c, am_up] at * <;> omega))
theorem m_start {l : Launch} {ν : am_N} {Q : Option am_V → am_N → Prop} (a b : Int) (hS : mi ν) (ha0 : -2147483648 ≤ a) (ha1 : a ≤ 2147483647) (hb0 : -2147483648 ≤ b) (hb1 : b ≤ 2147483647)  (k : ∀ (r : Int) (μ' : am_N), gm mX ν μ' → Q (some (.inl r)) μ') : am_Does l 174 [.inr (.inr 83), .inl a, .inl b] ν Q := by
  refine am_Does_of (Nat.le_of_ble_eq_true rfl) (Nat.le_of_ble_eq_true rfl) (Nat.le_of_ble_eq_true rfl) ?_
  have hb := mi_all hS
  refine am_go (ct := fun _ => false) am_oX7_start 300 ?_
  conv => whnf
  repeat' first
    | (refine (?_ : am_wp _ _ _ _ _ _ _ _ _ _ _ _); conv => whnf)
    | (refine (?_ : am_sw _ _ _ _); conv => whnf)
    | refine And.intro trivial ?_
    | exact trivial
    | assumption
    | refine k _ _ ?_
    | exact sb_R_KR
    | exact sb_T_KR
    | exact sb_T_K
    | exact fun k j h => mo_l k j (mo_l k j h)
    | exact mo_l
    | refine m_isRunner _ ?_ (fun _ _ _ => ?_) (fun _ => ?_)
    | refine m_bound _ _ _ (fun _ => ?_) (fun _ _ => ?_) (fun _ _ => ?_)
    | refine m_no _ (gm_rf (by repeat' first | assumption | exact gm_i (by assumption) | exact md_i (by assumption) | refine mi_up ?_ rfl | refine mi_100 ?_ ?_ ?_ | (simp only [am_c] at * <;> omega))) ?_ ?_ (fun _ _ _ _ => ?_)
    | exact gm_rf hS
    | refine gm_up ?_ rfl rfl
    | refine gm_up ?_ mo1_self rfl
    | refine gm_up ?_ mo1_in rfl
    | refine gm_100 ?_ rfl ?_ ?_
    | refine gm_14 ?_ rfl ?_ ?_
    | refine gm_15 ?_ rfl ?_ ?_
    | refine gm_16 ?_ rfl ?_ ?_
    | refine gm_21 ?_ rfl ?_ ?_
    | refine gm_33 ?_ rfl ?_ ?_
    | refine gm_40 ?_ rfl ?_ ?_
    | refine gm_42 ?_ rfl ?_ ?_
    | refine md_up ?_ rfl rfl
    | refine md_tr ?_ (by assumption) ?_
    | refine gm_tr ?_ (by assumption) ?_
    | refine gm_put ?_ ?_ rfl
    | refine mi_up ?_ rfl
    | exact gm_i (by assumption)
    | exact md_i (by assumption)
    | exact sb_id
    | exact sb_T_s
    | exact sb_T_Q
    | exact sb_T_M
    | exact sb_R_M
    | exact sb_L_M
    | exact mo_l
    | exact mo1_sub
    | exact mo1_one sb_T_s
    | exact mo1_one mo_l
    | exact mo1_one sb_T_Q
    | exact mo1_one (mo1_one sb_T_s)
    | exact mo1_one (mo1_one sb_id)
    | exact fun k j h => sb_T_Q k j (mo_l k j h)
    | exact fun k j h => mo_l k j (mo_l k j h)
    | exact fun k j h => sb_T_s k j (mo_l k j h)
    | refine And.intro (fun h => absurd h (by decide)) (fun _ => ?_)
    | refine And.intro (fun _ => ?_) (fun h => absurd (by decide) h)
    | refine And.intro (fun _ => ?_) (fun _ => ?_)
    | refine And.intro ?_ ?_
  all_goals (first | assumption | decide | omega | rfl | (simp only [am_c] at * <;> omega) | (simp only [am_c, am_up] at * <;> omega) | (simp [am_c, am_up] at * <;> omega))
theorem m_kind {l : Launch} {ν : am_N} {Q : Option am_V → am_N → Prop} (a b c : Int) (hS : mi ν) (ha0 : -2147483648 ≤ a) (ha1 : a ≤ 2147483647) (hb0 : -2147483648 ≤ b) (hb1 : b ≤ 2147483647) (hc0 : -2147483648 ≤ c) (hc1 : c ≤ 2147483647)  (k : ∀ (r : Int) (μ' : am_N), gm mX ν μ' → Q (some (.inl r)) μ') : am_Does l 175 [.inr (.inr 83), .inl a, .inl b, .inl c] ν Q := by
  refine am_Does_of (Nat.le_of_ble_eq_true rfl) (Nat.le_of_ble_eq_true rfl) (Nat.le_of_ble_eq_true rfl) ?_
  have hb := mi_all hS
  refine am_go (ct := fun _ => false) am_oX7_kind 300 ?_
  conv => whnf
  repeat' first
    | (refine (?_ : am_wp _ _ _ _ _ _ _ _ _ _ _ _); conv => whnf)
    | (refine (?_ : am_sw _ _ _ _); conv => whnf)
    | refine And.intro trivial ?_
    | exact trivial
    | assumption
    | refine k _ _ ?_
    | exact sb_R_KR
    | exact sb_T_KR
    | exact sb_T_K
    | exact fun k j h => mo_l k j (mo_l k j h)
    | exact mo_l
    | refine m_isRunner _ ?_ (fun _ _ _ => ?_) (fun _ => ?_)
    | refine m_isIn _ _ _ (fun _ _ => ?_) (fun _ => ?_)
    | refine m_bound _ _ _ (fun _ => ?_) (fun _ _ => ?_) (fun _ _ => ?_)
    | refine m_no _ (gm_rf (by repeat' first | assumption | exact gm_i (by assumption) | exact md_i (by assumption) | refine mi_up ?_ rfl | refine mi_100 ?_ ?_ ?_ | (simp only [am_c] at * <;> omega))) ?_ ?_ (fun _ _ _ _ => ?_)
    | exact gm_rf hS
    | refine gm_up ?_ rfl rfl
    | refine gm_up ?_ mo1_self rfl
    | refine gm_up ?_ mo1_in rfl
    | refine gm_100 ?_ rfl ?_ ?_
    | refine gm_14 ?_ rfl ?_ ?_
    | refine gm_15 ?_ rfl ?_ ?_
    | refine gm_16 ?_ rfl ?_ ?_
    | refine gm_21 ?_ rfl ?_ ?_
    | refine gm_33 ?_ rfl ?_ ?_
    | refine gm_40 ?_ rfl ?_ ?_
    | refine gm_42 ?_ rfl ?_ ?_
    | refine md_up ?_ rfl rfl
    | refine md_tr ?_ (by assumption) ?_
    | refine gm_tr ?_ (by assumption) ?_
    | refine gm_put ?_ ?_ rfl
    | refine mi_up ?_ rfl
    | exact gm_i (by assumption)
    | exact md_i (by assumption)
    | exact sb_id
    | exact sb_T_s
    | exact sb_T_Q
    | exact sb_T_M
    | exact sb_R_M
    | exact sb_L_M
    | exact mo_l
    | exact mo1_sub
    | exact mo1_one sb_T_s
    | exact mo1_one mo_l
    | exact mo1_one sb_T_Q
    | exact mo1_one (mo1_one sb_T_s)
    | exact mo1_one (mo1_one sb_id)
    | exact fun k j h => sb_T_Q k j (mo_l k j h)
    | exact fun k j h => mo_l k j (mo_l k j h)
    | exact fun k j h => sb_T_s k j (mo_l k j h)
    | refine And.intro (fun h => absurd h (by decide)) (fun _ => ?_)
    | refine And.intro (fun _ => ?_) (fun h => absurd (by decide) h)
    | refine And.intro (fun _ => ?_) (fun _ => ?_)
    | refine And.intro ?_ ?_
  all_goals (first | assumption | decide | omega | rfl | (simp only [am_c] at * <;> omega) | (simp only [am_c, am_up] at * <;> omega) | (simp [am_c, am_up] at * <;> omega))
theorem m_set {l : Launch} {ν : am_N} {Q : Option am_V → am_N → Prop} (a b : Int) (hS : mi ν) (ha0 : -2147483648 ≤ a) (ha1 : a ≤ 2147483647) (hb0 : -2147483648 ≤ b) (hb1 : b ≤ 2147483647)  (k : ∀ (r : Int) (μ' : am_N), gm mX ν μ' → Q (some (.inl r)) μ') : am_Does l 176 [.inr (.inr 83), .inl a, .inl b] ν Q := by
  refine am_Does_of (Nat.le_of_ble_eq_true rfl) (Nat.le_of_ble_eq_true rfl) (Nat.le_of_ble_eq_true rfl) ?_
  have hb := mi_all hS
  have lp154 : ∀ (w x : Int) (μ : am_N), gm mX ν μ → am_AW l 0 (fun _ => 0) 176 Q 154 [some (.inr (.inr 83)), some (.inl a), some (.inl b), some (.inl w), some (.inl x)] [] μ := by
    intro w x μ hv0
    have hb := mi_all hv0.1
    refine am_go (ct := fun pc => Nat.beq pc 154 || Nat.beq pc 121 || Nat.beq pc 70) am_oX7_set 300 ?_
    conv => whnf
    repeat' first
      | (refine (?_ : am_wp _ _ _ _ _ _ _ _ _ _ _ _); conv => whnf)
      | (refine (?_ : am_sw _ _ _ _); conv => whnf)
      | refine And.intro trivial ?_
      | exact trivial
      | assumption
      | refine k _ _ ?_
      | exact sb_R_KR
      | exact sb_T_KR
      | exact sb_T_K
      | exact fun k j h => mo_l k j (mo_l k j h)
      | exact mo_l
      | refine m_isIn _ _ _ (fun _ _ => ?_) (fun _ => ?_)
      | refine m_bound _ _ _ (fun _ => ?_) (fun _ _ => ?_) (fun _ _ => ?_)
      | refine m_no _ (gm_rf (by repeat' first | assumption | exact gm_i (by assumption) | exact md_i (by assumption) | refine mi_up ?_ rfl | refine mi_100 ?_ ?_ ?_ | (simp only [am_c] at * <;> omega))) ?_ ?_ (fun _ _ _ _ => ?_)
      | exact gm_rf hS
      | refine gm_up ?_ rfl rfl
      | refine gm_up ?_ mo1_self rfl
      | refine gm_up ?_ mo1_in rfl
      | refine gm_100 ?_ rfl ?_ ?_
      | refine gm_14 ?_ rfl ?_ ?_
      | refine gm_15 ?_ rfl ?_ ?_
      | refine gm_16 ?_ rfl ?_ ?_
      | refine gm_21 ?_ rfl ?_ ?_
      | refine gm_33 ?_ rfl ?_ ?_
      | refine gm_40 ?_ rfl ?_ ?_
      | refine gm_42 ?_ rfl ?_ ?_
      | refine md_up ?_ rfl rfl
      | refine md_tr ?_ (by assumption) ?_
      | refine gm_tr ?_ (by assumption) ?_
      | refine gm_put ?_ ?_ rfl
      | refine mi_up ?_ rfl
      | exact gm_i (by assumption)
      | exact md_i (by assumption)
      | exact sb_id
      | exact sb_T_s
      | exact sb_T_Q
      | exact sb_T_M
      | exact sb_R_M
      | exact sb_L_M
      | exact mo_l
      | exact mo1_sub
      | exact mo1_one sb_T_s
      | exact mo1_one mo_l
      | exact mo1_one sb_T_Q
      | exact mo1_one (mo1_one sb_T_s)
      | exact mo1_one (mo1_one sb_id)
      | exact fun k j h => sb_T_Q k j (mo_l k j h)
      | exact fun k j h => mo_l k j (mo_l k j h)
      | exact fun k j h => sb_T_s k j (mo_l k j h)
      | refine And.intro (fun h => absurd h (by decide)) (fun _ => ?_)
      | refine And.intro (fun _ => ?_) (fun h => absurd (by decide) h)
      | refine And.intro (fun _ => ?_) (fun _ => ?_)
      | refine And.intro ?_ ?_
    all_goals (first | assumption | decide | omega | rfl | (simp only [am_c] at * <;> omega) | (simp only [am_c, am_up] at * <;> omega) | (simp [am_c, am_up] at * <;> omega))
  have lp121 : ∀ (w x : Int), am_AW l 0 (fun _ => 0) 176 Q 121 [some (.inr (.inr 83)), some (.inl a), some (.inl b), some (.inl w), some (.inl x)] [] ν := by
    intro w x  
    refine am_go (ct := fun pc => Nat.beq pc 154 || Nat.beq pc 121 || Nat.beq pc 70) am_oX7_set 300 ?_
    conv => whnf
    repeat' first
      | (refine (?_ : am_wp _ _ _ _ _ _ _ _ _ _ _ _); conv => whnf)
      | (refine (?_ : am_sw _ _ _ _); conv => whnf)
      | refine And.intro trivial ?_
      | exact trivial
      | assumption
      | refine k _ _ ?_
      | exact sb_R_KR
      | exact sb_T_KR
      | exact sb_T_K
      | exact fun k j h => mo_l k j (mo_l k j h)
      | exact mo_l
      | refine m_isIn _ _ _ (fun _ _ => ?_) (fun _ => ?_)
      | refine m_bound _ _ _ (fun _ => ?_) (fun _ _ => ?_) (fun _ _ => ?_)
      | refine m_no _ (gm_rf (by repeat' first | assumption | exact gm_i (by assumption) | exact md_i (by assumption) | refine mi_up ?_ rfl | refine mi_100 ?_ ?_ ?_ | (simp only [am_c] at * <;> omega))) ?_ ?_ (fun _ _ _ _ => ?_)
      | exact gm_rf hS
      | refine gm_up ?_ rfl rfl
      | refine gm_up ?_ mo1_self rfl
      | refine gm_up ?_ mo1_in rfl
      | refine gm_100 ?_ rfl ?_ ?_
      | refine gm_14 ?_ rfl ?_ ?_
      | refine gm_15 ?_ rfl ?_ ?_
      | refine gm_16 ?_ rfl ?_ ?_
      | refine gm_21 ?_ rfl ?_ ?_
      | refine gm_33 ?_ rfl ?_ ?_
      | refine gm_40 ?_ rfl ?_ ?_
      | refine gm_42 ?_ rfl ?_ ?_
      | refine md_up ?_ rfl rfl
      | refine md_tr ?_ (by assumption) ?_
      | refine gm_tr ?_ (by assumption) ?_
      | refine gm_put ?_ ?_ rfl
      | refine mi_up ?_ rfl
      | exact gm_i (by assumption)
      | exact md_i (by assumption)
      | exact sb_id
      | exact sb_T_s
      | exact sb_T_Q
      | exact sb_T_M
      | exact sb_R_M
      | exact sb_L_M
      | exact mo_l
      | exact mo1_sub
      | exact mo1_one sb_T_s
      | exact mo1_one mo_l
      | exact mo1_one sb_T_Q
      | exact mo1_one (mo1_one sb_T_s)
      | exact mo1_one (mo1_one sb_id)
      | exact fun k j h => sb_T_Q k j (mo_l k j h)
      | exact fun k j h => mo_l k j (mo_l k j h)
      | exact fun k j h => sb_T_s k j (mo_l k j h)
      | refine lp154 _ _ _ ?_
      | refine And.intro (fun h => absurd h (by decide)) (fun _ => ?_)
      | refine And.intro (fun _ => ?_) (fun h => absurd (by decide) h)
      | refine And.intro (fun _ => ?_) (fun _ => ?_)
      | refine And.intro ?_ ?_
    all_goals (first | assumption | decide | omega | rfl | (simp only [am_c] at * <;> omega) | (simp only [am_c, am_up] at * <;> omega) | (simp [am_c, am_up] at * <;> omega))
  have lp70 : ∀ (w : Int), (w = 0 ∨ w = -2 ∨ w = -4 ∨ w = -6) → am_AW l 0 (fun _ => 0) 176 Q 70 [some (.inr (.inr 83)), some (.inl a), some (.inl b), some (.inl w), none] [] ν := by
    intro w  hv0
    refine am_go (ct := fun pc => Nat.beq pc 154 || Nat.beq pc 121 || Nat.beq pc 70) am_oX7_set 300 ?_
    conv => whnf
    repeat' first
      | (refine (?_ : am_wp _ _ _ _ _ _ _ _ _ _ _ _); conv => whnf)
      | (refine (?_ : am_sw _ _ _ _); conv => whnf)
      | refine And.intro trivial ?_
      | exact trivial
      | assumption
      | refine k _ _ ?_
      | exact sb_R_KR
      | exact sb_T_KR
      | exact sb_T_K
      | exact fun k j h => mo_l k j (mo_l k j h)
      | exact mo_l
      | refine m_isIn _ _ _ (fun _ _ => ?_) (fun _ => ?_)
      | refine m_bound _ _ _ (fun _ => ?_) (fun _ _ => ?_) (fun _ _ => ?_)
      | refine m_no _ (gm_rf (by repeat' first | assumption | exact gm_i (by assumption) | exact md_i (by assumption) | refine mi_up ?_ rfl | refine mi_100 ?_ ?_ ?_ | (simp only [am_c] at * <;> omega))) ?_ ?_ (fun _ _ _ _ => ?_)
      | exact gm_rf hS
      | refine gm_up ?_ rfl rfl
      | refine gm_up ?_ mo1_self rfl
      | refine gm_up ?_ mo1_in rfl
      | refine gm_100 ?_ rfl ?_ ?_
      | refine gm_14 ?_ rfl ?_ ?_
      | refine gm_15 ?_ rfl ?_ ?_
      | refine gm_16 ?_ rfl ?_ ?_
      | refine gm_21 ?_ rfl ?_ ?_
      | refine gm_33 ?_ rfl ?_ ?_
      | refine gm_40 ?_ rfl ?_ ?_
      | refine gm_42 ?_ rfl ?_ ?_
      | refine md_up ?_ rfl rfl
      | refine md_tr ?_ (by assumption) ?_
      | refine gm_tr ?_ (by assumption) ?_
      | refine gm_put ?_ ?_ rfl
      | refine mi_up ?_ rfl
      | exact gm_i (by assumption)
      | exact md_i (by assumption)
      | exact sb_id
      | exact sb_T_s
      | exact sb_T_Q
      | exact sb_T_M
      | exact sb_R_M
      | exact sb_L_M
      | exact mo_l
      | exact mo1_sub
      | exact mo1_one sb_T_s
      | exact mo1_one mo_l
      | exact mo1_one sb_T_Q
      | exact mo1_one (mo1_one sb_T_s)
      | exact mo1_one (mo1_one sb_id)
      | exact fun k j h => sb_T_Q k j (mo_l k j h)
      | exact fun k j h => mo_l k j (mo_l k j h)
      | exact fun k j h => sb_T_s k j (mo_l k j h)
      | refine lp121 _ _  
      | refine lp154 _ _ _ ?_
      | refine And.intro (fun h => absurd h (by decide)) (fun _ => ?_)
      | refine And.intro (fun _ => ?_) (fun h => absurd (by decide) h)
      | refine And.intro (fun _ => ?_) (fun _ => ?_)
      | refine And.intro ?_ ?_
    all_goals (first | assumption | decide | omega | rfl | (simp only [am_c] at * <;> omega) | (simp only [am_c, am_up] at * <;> omega) | (simp [am_c, am_up] at * <;> omega))
  refine am_go (ct := fun pc => Nat.beq pc 154 || Nat.beq pc 121 || Nat.beq pc 70) am_oX7_set 300 ?_
  conv => whnf
  repeat' first
    | (refine (?_ : am_wp _ _ _ _ _ _ _ _ _ _ _ _); conv => whnf)
    | (refine (?_ : am_sw _ _ _ _); conv => whnf)
    | refine And.intro trivial ?_
    | exact trivial
    | assumption
    | refine k _ _ ?_
    | exact sb_R_KR
    | exact sb_T_KR
    | exact sb_T_K
    | exact fun k j h => mo_l k j (mo_l k j h)
    | exact mo_l
    | refine m_isIn _ _ _ (fun _ _ => ?_) (fun _ => ?_)
    | refine m_bound _ _ _ (fun _ => ?_) (fun _ _ => ?_) (fun _ _ => ?_)
    | refine m_no _ (gm_rf (by repeat' first | assumption | exact gm_i (by assumption) | exact md_i (by assumption) | refine mi_up ?_ rfl | refine mi_100 ?_ ?_ ?_ | (simp only [am_c] at * <;> omega))) ?_ ?_ (fun _ _ _ _ => ?_)
    | exact gm_rf hS
    | refine gm_up ?_ rfl rfl
    | refine gm_up ?_ mo1_self rfl
    | refine gm_up ?_ mo1_in rfl
    | refine gm_100 ?_ rfl ?_ ?_
    | refine gm_14 ?_ rfl ?_ ?_
    | refine gm_15 ?_ rfl ?_ ?_
    | refine gm_16 ?_ rfl ?_ ?_
    | refine gm_21 ?_ rfl ?_ ?_
    | refine gm_33 ?_ rfl ?_ ?_
    | refine gm_40 ?_ rfl ?_ ?_
    | refine gm_42 ?_ rfl ?_ ?_
    | refine md_up ?_ rfl rfl
    | refine md_tr ?_ (by assumption) ?_
    | refine gm_tr ?_ (by assumption) ?_
    | refine gm_put ?_ ?_ rfl
    | refine mi_up ?_ rfl
    | exact gm_i (by assumption)
    | exact md_i (by assumption)
    | exact sb_id
    | exact sb_T_s
    | exact sb_T_Q
    | exact sb_T_M
    | exact sb_R_M
    | exact sb_L_M
    | exact mo_l
    | exact mo1_sub
    | exact mo1_one sb_T_s
    | exact mo1_one mo_l
    | exact mo1_one sb_T_Q
    | exact mo1_one (mo1_one sb_T_s)
    | exact mo1_one (mo1_one sb_id)
    | exact fun k j h => sb_T_Q k j (mo_l k j h)
    | exact fun k j h => mo_l k j (mo_l k j h)
    | exact fun k j h => sb_T_s k j (mo_l k j h)
    | refine lp70 _  ?_
    | refine lp121 _ _  
    | refine lp154 _ _ _ ?_
    | refine And.intro (fun h => absurd h (by decide)) (fun _ => ?_)
    | refine And.intro (fun _ => ?_) (fun h => absurd (by decide) h)
    | refine And.intro (fun _ => ?_) (fun _ => ?_)
    | refine And.intro ?_ ?_
  all_goals (first | assumption | decide | omega | rfl | (simp only [am_c] at * <;> omega) | (simp only [am_c, am_up] at * <;> omega) | (simp [am_c, am_up] at * <;> omega))
theorem m_feed {l : Launch} {ν : am_N} {Q : Option am_V → am_N → Prop} (a : Int) (hS : mi ν) (ha0 : -2147483648 ≤ a) (ha1 : a ≤ 2147483647)  (k : ∀ (r : Int) (μ' : am_N), gm (mo ms (m1o 94 21)) ν μ' → ((am_c a < 0 ∧ r = -4 ∧ μ' 83 21 = ν 83 21) ∨ (0 ≤ am_c a ∧ (255 < am_c a ∨ ν 83 21 = 96) ∧ r = -6 ∧ μ' 83 21 = ν 83 21) ∨ (0 ≤ am_c a ∧ am_c a ≤ 255 ∧ ν 83 21 < 96 ∧ r = ν 83 21 + 1 ∧ μ' 83 21 = ν 83 21 + 1)) → Q (some (.inl r)) μ') : am_Does l 148 [.inr (.inr 83), .inl a] ν Q := by
  refine am_Does_of (Nat.le_of_ble_eq_true rfl) (Nat.le_of_ble_eq_true rfl) (Nat.le_of_ble_eq_true rfl) ?_
  have hb := mi_all hS
  refine am_go (ct := fun _ => false) am_oX7_feed 300 ?_
  conv => whnf
  repeat' first
    | (refine (?_ : am_wp _ _ _ _ _ _ _ _ _ _ _ _); conv => whnf)
    | (refine (?_ : am_sw _ _ _ _); conv => whnf)
    | refine And.intro trivial ?_
    | exact trivial
    | assumption
    | refine k _ _ ?_ ?_
    | exact sb_R_KR
    | exact sb_T_KR
    | exact sb_T_K
    | exact fun k j h => mo_l k j (mo_l k j h)
    | exact mo_l
    | refine m_bound _ _ _ (fun _ => ?_) (fun _ _ => ?_) (fun _ _ => ?_)
    | refine m_no _ (gm_rf (by repeat' first | assumption | exact gm_i (by assumption) | exact md_i (by assumption) | refine mi_up ?_ rfl | refine mi_100 ?_ ?_ ?_ | (simp only [am_c] at * <;> omega))) ?_ ?_ (fun _ _ _ _ => ?_)
    | exact gm_rf hS
    | refine gm_up ?_ rfl rfl
    | refine gm_up ?_ mo1_self rfl
    | refine gm_up ?_ mo1_in rfl
    | refine gm_100 ?_ rfl ?_ ?_
    | refine gm_14 ?_ rfl ?_ ?_
    | refine gm_15 ?_ rfl ?_ ?_
    | refine gm_16 ?_ rfl ?_ ?_
    | refine gm_21 ?_ rfl ?_ ?_
    | refine gm_33 ?_ rfl ?_ ?_
    | refine gm_40 ?_ rfl ?_ ?_
    | refine gm_42 ?_ rfl ?_ ?_
    | refine md_up ?_ rfl rfl
    | refine md_tr ?_ (by assumption) ?_
    | refine gm_tr ?_ (by assumption) ?_
    | refine gm_put ?_ ?_ rfl
    | refine mi_up ?_ rfl
    | exact gm_i (by assumption)
    | exact md_i (by assumption)
    | exact sb_id
    | exact sb_T_s
    | exact sb_T_Q
    | exact sb_T_M
    | exact sb_R_M
    | exact sb_L_M
    | exact mo_l
    | exact mo1_sub
    | exact mo1_one sb_T_s
    | exact mo1_one mo_l
    | exact mo1_one sb_T_Q
    | exact mo1_one (mo1_one sb_T_s)
    | exact mo1_one (mo1_one sb_id)
    | exact fun k j h => sb_T_Q k j (mo_l k j h)
    | exact fun k j h => mo_l k j (mo_l k j h)
    | exact fun k j h => sb_T_s k j (mo_l k j h)
    | refine And.intro (fun h => absurd h (by decide)) (fun _ => ?_)
    | refine And.intro (fun _ => ?_) (fun h => absurd (by decide) h)
    | refine And.intro (fun _ => ?_) (fun _ => ?_)
    | refine And.intro ?_ ?_
  all_goals (first | assumption | decide | omega | rfl | (have eq9 := (by assumption : gm ms _ _).2 83 21 rfl; simp [am_c, am_up] at * <;> omega) | (simp only [am_c] at * <;> omega) | (simp [am_c, am_up] at * <;> omega))
theorem m_row {l : Launch} {ν : am_N} {Q : Option am_V → am_N → Prop} (a : Int) (hS : mi ν) (ha0 : -2147483648 ≤ a) (ha1 : a ≤ 2147483647)  (k : ∀ (r : Int) (μ' : am_N), gm (mo ms (m1o 106 42)) ν μ' → ((am_c a < 0 ∧ r = -4 ∧ μ' 83 42 = ν 83 42) ∨ (0 ≤ am_c a ∧ (99 < am_c a ∨ ν 83 42 = 12) ∧ r = -6 ∧ μ' 83 42 = ν 83 42) ∨ (0 ≤ am_c a ∧ am_c a ≤ 99 ∧ ν 83 42 < 12 ∧ r = ν 83 42 + 1 ∧ μ' 83 42 = ν 83 42 + 1)) → Q (some (.inl r)) μ') : am_Does l 244 [.inr (.inr 83), .inl a] ν Q := by
  refine am_Does_of (Nat.le_of_ble_eq_true rfl) (Nat.le_of_ble_eq_true rfl) (Nat.le_of_ble_eq_true rfl) ?_
  have hb := mi_all hS
  refine am_go (ct := fun _ => false) am_oX7_row 300 ?_
  conv => whnf
  repeat' first
    | (refine (?_ : am_wp _ _ _ _ _ _ _ _ _ _ _ _); conv => whnf)
    | (refine (?_ : am_sw _ _ _ _); conv => whnf)
    | refine And.intro trivial ?_
    | exact trivial
    | assumption
    | refine k _ _ ?_ ?_
    | exact sb_R_KR
    | exact sb_T_KR
    | exact sb_T_K
    | exact fun k j h => mo_l k j (mo_l k j h)
    | exact mo_l
    | refine m_bound _ _ _ (fun _ => ?_) (fun _ _ => ?_) (fun _ _ => ?_)
    | refine m_no _ (gm_rf (by repeat' first | assumption | exact gm_i (by assumption) | exact md_i (by assumption) | refine mi_up ?_ rfl | refine mi_100 ?_ ?_ ?_ | (simp only [am_c] at * <;> omega))) ?_ ?_ (fun _ _ _ _ => ?_)
    | exact gm_rf hS
    | refine gm_up ?_ rfl rfl
    | refine gm_up ?_ mo1_self rfl
    | refine gm_up ?_ mo1_in rfl
    | refine gm_100 ?_ rfl ?_ ?_
    | refine gm_14 ?_ rfl ?_ ?_
    | refine gm_15 ?_ rfl ?_ ?_
    | refine gm_16 ?_ rfl ?_ ?_
    | refine gm_21 ?_ rfl ?_ ?_
    | refine gm_33 ?_ rfl ?_ ?_
    | refine gm_40 ?_ rfl ?_ ?_
    | refine gm_42 ?_ rfl ?_ ?_
    | refine md_up ?_ rfl rfl
    | refine md_tr ?_ (by assumption) ?_
    | refine gm_tr ?_ (by assumption) ?_
    | refine gm_put ?_ ?_ rfl
    | refine mi_up ?_ rfl
    | exact gm_i (by assumption)
    | exact md_i (by assumption)
    | exact sb_id
    | exact sb_T_s
    | exact sb_T_Q
    | exact sb_T_M
    | exact sb_R_M
    | exact sb_L_M
    | exact mo_l
    | exact mo1_sub
    | exact mo1_one sb_T_s
    | exact mo1_one mo_l
    | exact mo1_one sb_T_Q
    | exact mo1_one (mo1_one sb_T_s)
    | exact mo1_one (mo1_one sb_id)
    | exact fun k j h => sb_T_Q k j (mo_l k j h)
    | exact fun k j h => mo_l k j (mo_l k j h)
    | exact fun k j h => sb_T_s k j (mo_l k j h)
    | refine And.intro (fun h => absurd h (by decide)) (fun _ => ?_)
    | refine And.intro (fun _ => ?_) (fun h => absurd (by decide) h)
    | refine And.intro (fun _ => ?_) (fun _ => ?_)
    | refine And.intro ?_ ?_
  all_goals (first | assumption | decide | omega | rfl | (have eq9 := (by assumption : gm ms _ _).2 83 42 rfl; simp [am_c, am_up] at * <;> omega) | (simp only [am_c] at * <;> omega) | (simp [am_c, am_up] at * <;> omega))
theorem m_time {l : Launch} {ν : am_N} {Q : Option am_V → am_N → Prop} (a : Int) (hS : mi ν) (ha0 : -2147483648 ≤ a) (ha1 : a ≤ 2147483647)  (k : ∀ (r : Int) (μ' : am_N), gm (mo ms (m1o 105 40)) ν μ' → ((am_c a < 0 ∧ r = -4 ∧ μ' 83 40 = ν 83 40) ∨ (0 ≤ am_c a ∧ (999 < am_c a ∨ ν 83 40 = 6) ∧ r = -6 ∧ μ' 83 40 = ν 83 40) ∨ (0 ≤ am_c a ∧ am_c a ≤ 999 ∧ ν 83 40 < 6 ∧ r = ν 83 40 + 1 ∧ μ' 83 40 = ν 83 40 + 1)) → Q (some (.inl r)) μ') : am_Does l 240 [.inr (.inr 83), .inl a] ν Q := by
  refine am_Does_of (Nat.le_of_ble_eq_true rfl) (Nat.le_of_ble_eq_true rfl) (Nat.le_of_ble_eq_true rfl) ?_
  have hb := mi_all hS
  refine am_go (ct := fun _ => false) am_oX7_time 300 ?_
  conv => whnf
  repeat' first
    | (refine (?_ : am_wp _ _ _ _ _ _ _ _ _ _ _ _); conv => whnf)
    | (refine (?_ : am_sw _ _ _ _); conv => whnf)
    | refine And.intro trivial ?_
    | exact trivial
    | assumption
    | refine k _ _ ?_ ?_
    | exact sb_R_KR
    | exact sb_T_KR
    | exact sb_T_K
    | exact fun k j h => mo_l k j (mo_l k j h)
    | exact mo_l
    | refine m_bound _ _ _ (fun _ => ?_) (fun _ _ => ?_) (fun _ _ => ?_)
    | refine m_no _ (gm_rf (by repeat' first | assumption | exact gm_i (by assumption) | exact md_i (by assumption) | refine mi_up ?_ rfl | refine mi_100 ?_ ?_ ?_ | (simp only [am_c] at * <;> omega))) ?_ ?_ (fun _ _ _ _ => ?_)
    | exact gm_rf hS
    | refine gm_up ?_ rfl rfl
    | refine gm_up ?_ mo1_self rfl
    | refine gm_up ?_ mo1_in rfl
    | refine gm_100 ?_ rfl ?_ ?_
    | refine gm_14 ?_ rfl ?_ ?_
    | refine gm_15 ?_ rfl ?_ ?_
    | refine gm_16 ?_ rfl ?_ ?_
    | refine gm_21 ?_ rfl ?_ ?_
    | refine gm_33 ?_ rfl ?_ ?_
    | refine gm_40 ?_ rfl ?_ ?_
    | refine gm_42 ?_ rfl ?_ ?_
    | refine md_up ?_ rfl rfl
    | refine md_tr ?_ (by assumption) ?_
    | refine gm_tr ?_ (by assumption) ?_
    | refine gm_put ?_ ?_ rfl
    | refine mi_up ?_ rfl
    | exact gm_i (by assumption)
    | exact md_i (by assumption)
    | exact sb_id
    | exact sb_T_s
    | exact sb_T_Q
    | exact sb_T_M
    | exact sb_R_M
    | exact sb_L_M
    | exact mo_l
    | exact mo1_sub
    | exact mo1_one sb_T_s
    | exact mo1_one mo_l
    | exact mo1_one sb_T_Q
    | exact mo1_one (mo1_one sb_T_s)
    | exact mo1_one (mo1_one sb_id)
    | exact fun k j h => sb_T_Q k j (mo_l k j h)
    | exact fun k j h => mo_l k j (mo_l k j h)
    | exact fun k j h => sb_T_s k j (mo_l k j h)
    | refine And.intro (fun h => absurd h (by decide)) (fun _ => ?_)
    | refine And.intro (fun _ => ?_) (fun h => absurd (by decide) h)
    | refine And.intro (fun _ => ?_) (fun _ => ?_)
    | refine And.intro ?_ ?_
  all_goals (first | assumption | decide | omega | rfl | (have eq9 := (by assumption : gm ms _ _).2 83 40 rfl; simp [am_c, am_up] at * <;> omega) | (simp only [am_c] at * <;> omega) | (simp [am_c, am_up] at * <;> omega))
theorem m_bag {l : Launch} {ν : am_N} {Q : Option am_V → am_N → Prop} (a : Int) (hS : mi ν) (ha0 : -2147483648 ≤ a) (ha1 : a ≤ 2147483647)  (k : ∀ (r : Int) (μ' : am_N), gm (mo ms (m1o 91 15)) ν μ' → ((am_c a < 1 ∧ r = -4 ∧ μ' 83 15 = ν 83 15) ∨ (1 ≤ am_c a ∧ (9 < am_c a ∨ ν 83 15 = 6) ∧ r = -6 ∧ μ' 83 15 = ν 83 15) ∨ (1 ≤ am_c a ∧ am_c a ≤ 9 ∧ ν 83 15 < 6 ∧ r = ν 83 15 + 1 ∧ μ' 83 15 = ν 83 15 + 1)) → Q (some (.inl r)) μ') : am_Does l 213 [.inr (.inr 83), .inl a] ν Q := by
  refine am_Does_of (Nat.le_of_ble_eq_true rfl) (Nat.le_of_ble_eq_true rfl) (Nat.le_of_ble_eq_true rfl) ?_
  have hb := mi_all hS
  refine am_go (ct := fun _ => false) am_oX7_bag 300 ?_
  conv => whnf
  repeat' first
    | (refine (?_ : am_wp _ _ _ _ _ _ _ _ _ _ _ _); conv => whnf)
    | (refine (?_ : am_sw _ _ _ _); conv => whnf)
    | refine And.intro trivial ?_
    | exact trivial
    | assumption
    | refine k _ _ ?_ ?_
    | exact sb_R_KR
    | exact sb_T_KR
    | exact sb_T_K
    | exact fun k j h => mo_l k j (mo_l k j h)
    | exact mo_l
    | refine m_bound _ _ _ (fun _ => ?_) (fun _ _ => ?_) (fun _ _ => ?_)
    | refine m_no _ (gm_rf (by repeat' first | assumption | exact gm_i (by assumption) | exact md_i (by assumption) | refine mi_up ?_ rfl | refine mi_100 ?_ ?_ ?_ | (simp only [am_c] at * <;> omega))) ?_ ?_ (fun _ _ _ _ => ?_)
    | exact gm_rf hS
    | refine gm_up ?_ rfl rfl
    | refine gm_up ?_ mo1_self rfl
    | refine gm_up ?_ mo1_in rfl
    | refine gm_100 ?_ rfl ?_ ?_
    | refine gm_14 ?_ rfl ?_ ?_
    | refine gm_15 ?_ rfl ?_ ?_
    | refine gm_16 ?_ rfl ?_ ?_
    | refine gm_21 ?_ rfl ?_ ?_
    | refine gm_33 ?_ rfl ?_ ?_
    | refine gm_40 ?_ rfl ?_ ?_
    | refine gm_42 ?_ rfl ?_ ?_
    | refine md_up ?_ rfl rfl
    | refine md_tr ?_ (by assumption) ?_
    | refine gm_tr ?_ (by assumption) ?_
    | refine gm_put ?_ ?_ rfl
    | refine mi_up ?_ rfl
    | exact gm_i (by assumption)
    | exact md_i (by assumption)
    | exact sb_id
    | exact sb_T_s
    | exact sb_T_Q
    | exact sb_T_M
    | exact sb_R_M
    | exact sb_L_M
    | exact mo_l
    | exact mo1_sub
    | exact mo1_one sb_T_s
    | exact mo1_one mo_l
    | exact mo1_one sb_T_Q
    | exact mo1_one (mo1_one sb_T_s)
    | exact mo1_one (mo1_one sb_id)
    | exact fun k j h => sb_T_Q k j (mo_l k j h)
    | exact fun k j h => mo_l k j (mo_l k j h)
    | exact fun k j h => sb_T_s k j (mo_l k j h)
    | refine And.intro (fun h => absurd h (by decide)) (fun _ => ?_)
    | refine And.intro (fun _ => ?_) (fun h => absurd (by decide) h)
    | refine And.intro (fun _ => ?_) (fun _ => ?_)
    | refine And.intro ?_ ?_
  all_goals (first | assumption | decide | omega | rfl | (have eq9 := (by assumption : gm ms _ _).2 83 15 rfl; simp [am_c, am_up] at * <;> omega) | (simp only [am_c] at * <;> omega) | (simp [am_c, am_up] at * <;> omega))
theorem m_habit {l : Launch} {ν : am_N} {Q : Option am_V → am_N → Prop} (a b : Int) (hS : mi ν) (ha0 : -2147483648 ≤ a) (ha1 : a ≤ 2147483647) (hb0 : -2147483648 ≤ b) (hb1 : b ≤ 2147483647)  (k : ∀ (r : Int) (μ' : am_N), gm (mo ms (mo (m1o 92 16) (m1o 93 16))) ν μ' → Q (some (.inl r)) μ') : am_Does l 233 [.inr (.inr 83), .inl a, .inl b] ν Q := by
  refine am_Does_of (Nat.le_of_ble_eq_true rfl) (Nat.le_of_ble_eq_true rfl) (Nat.le_of_ble_eq_true rfl) ?_
  have hb := mi_all hS
  refine am_go (ct := fun _ => false) am_oX7_habit 300 ?_
  conv => whnf
  repeat' first
    | (refine (?_ : am_wp _ _ _ _ _ _ _ _ _ _ _ _); conv => whnf)
    | (refine (?_ : am_sw _ _ _ _); conv => whnf)
    | refine And.intro trivial ?_
    | exact trivial
    | assumption
    | refine k _ _ ?_
    | exact sb_R_KR
    | exact sb_T_KR
    | exact sb_T_K
    | exact fun k j h => mo_l k j (mo_l k j h)
    | exact mo_l
    | refine m_isIn _ _ _ (fun _ _ => ?_) (fun _ => ?_)
    | refine m_bound _ _ _ (fun _ => ?_) (fun _ _ => ?_) (fun _ _ => ?_)
    | refine m_no _ (gm_rf (by repeat' first | assumption | exact gm_i (by assumption) | exact md_i (by assumption) | refine mi_up ?_ rfl | refine mi_100 ?_ ?_ ?_ | (simp only [am_c] at * <;> omega))) ?_ ?_ (fun _ _ _ _ => ?_)
    | exact gm_rf hS
    | refine gm_up ?_ rfl rfl
    | refine gm_up ?_ mo1_self rfl
    | refine gm_up ?_ mo1_in rfl
    | refine gm_100 ?_ rfl ?_ ?_
    | refine gm_14 ?_ rfl ?_ ?_
    | refine gm_15 ?_ rfl ?_ ?_
    | refine gm_16 ?_ rfl ?_ ?_
    | refine gm_21 ?_ rfl ?_ ?_
    | refine gm_33 ?_ rfl ?_ ?_
    | refine gm_40 ?_ rfl ?_ ?_
    | refine gm_42 ?_ rfl ?_ ?_
    | refine md_up ?_ rfl rfl
    | refine md_tr ?_ (by assumption) ?_
    | refine gm_tr ?_ (by assumption) ?_
    | refine gm_put ?_ ?_ rfl
    | refine mi_up ?_ rfl
    | exact gm_i (by assumption)
    | exact md_i (by assumption)
    | exact sb_id
    | exact sb_T_s
    | exact sb_T_Q
    | exact sb_T_M
    | exact sb_R_M
    | exact sb_L_M
    | exact mo_l
    | exact mo1_sub
    | exact mo1_one sb_T_s
    | exact mo1_one mo_l
    | exact mo1_one sb_T_Q
    | exact mo1_one (mo1_one sb_T_s)
    | exact mo1_one (mo1_one sb_id)
    | exact fun k j h => sb_T_Q k j (mo_l k j h)
    | exact fun k j h => mo_l k j (mo_l k j h)
    | exact fun k j h => sb_T_s k j (mo_l k j h)
    | refine And.intro (fun h => absurd h (by decide)) (fun _ => ?_)
    | refine And.intro (fun _ => ?_) (fun h => absurd (by decide) h)
    | refine And.intro (fun _ => ?_) (fun _ => ?_)
    | refine And.intro ?_ ?_
  all_goals (first | assumption | decide | omega | rfl | (simp only [am_c] at * <;> omega) | (simp only [am_c, am_up] at * <;> omega) | (simp [am_c, am_up] at * <;> omega))
theorem m_clear {l : Launch} {ν : am_N} {Q : Option am_V → am_N → Prop}  (hS : mi ν)   (k : ∀ (r : Int) (μ' : am_N), gm (mo ms (m1o 83000 42)) ν μ' → r = ν 83 42 → μ' 83 42 = 0 → Q (some (.inl r)) μ') : am_Does l 248 [.inr (.inr 83)] ν Q := by
  refine am_Does_of (Nat.le_of_ble_eq_true rfl) (Nat.le_of_ble_eq_true rfl) (Nat.le_of_ble_eq_true rfl) ?_
  have hb := mi_all hS
  refine am_go (ct := fun _ => false) am_oX7_clear 300 ?_
  conv => whnf
  repeat' first
    | (refine (?_ : am_wp _ _ _ _ _ _ _ _ _ _ _ _); conv => whnf)
    | (refine (?_ : am_sw _ _ _ _); conv => whnf)
    | refine And.intro trivial ?_
    | exact trivial
    | assumption
    | refine k _ _ ?_ ?_ ?_
    | exact sb_R_KR
    | exact sb_T_KR
    | exact sb_T_K
    | exact fun k j h => mo_l k j (mo_l k j h)
    | exact mo_l
    | exact gm_rf hS
    | refine gm_up ?_ rfl rfl
    | refine gm_up ?_ mo1_self rfl
    | refine gm_up ?_ mo1_in rfl
    | refine gm_100 ?_ rfl ?_ ?_
    | refine gm_14 ?_ rfl ?_ ?_
    | refine gm_15 ?_ rfl ?_ ?_
    | refine gm_16 ?_ rfl ?_ ?_
    | refine gm_21 ?_ rfl ?_ ?_
    | refine gm_33 ?_ rfl ?_ ?_
    | refine gm_40 ?_ rfl ?_ ?_
    | refine gm_42 ?_ rfl ?_ ?_
    | refine md_up ?_ rfl rfl
    | refine md_tr ?_ (by assumption) ?_
    | refine gm_tr ?_ (by assumption) ?_
    | refine gm_put ?_ ?_ rfl
    | refine mi_up ?_ rfl
    | exact gm_i (by assumption)
    | exact md_i (by assumption)
    | exact sb_id
    | exact sb_T_s
    | exact sb_T_Q
    | exact sb_T_M
    | exact sb_R_M
    | exact sb_L_M
    | exact mo_l
    | exact mo1_sub
    | exact mo1_one sb_T_s
    | exact mo1_one mo_l
    | exact mo1_one sb_T_Q
    | exact mo1_one (mo1_one sb_T_s)
    | exact mo1_one (mo1_one sb_id)
    | exact fun k j h => sb_T_Q k j (mo_l k j h)
    | exact fun k j h => mo_l k j (mo_l k j h)
    | exact fun k j h => sb_T_s k j (mo_l k j h)
    | refine And.intro (fun h => absurd h (by decide)) (fun _ => ?_)
    | refine And.intro (fun _ => ?_) (fun h => absurd (by decide) h)
    | refine And.intro (fun _ => ?_) (fun _ => ?_)
    | refine And.intro ?_ ?_
  all_goals (first | assumption | decide | omega | rfl | (simp only [am_c] at * <;> omega) | (simp only [am_c, am_up] at * <;> omega) | (simp [am_c, am_up] at * <;> omega))
theorem m_wipe {l : Launch} {ν : am_N} {Q : Option am_V → am_N → Prop}  (hS : mi ν)   (k : ∀ (r : Int) (μ' : am_N), gm (mo ms (m1o 83000 40)) ν μ' → r = ν 83 40 → μ' 83 40 = 0 → Q (some (.inl r)) μ') : am_Does l 241 [.inr (.inr 83)] ν Q := by
  refine am_Does_of (Nat.le_of_ble_eq_true rfl) (Nat.le_of_ble_eq_true rfl) (Nat.le_of_ble_eq_true rfl) ?_
  have hb := mi_all hS
  refine am_go (ct := fun _ => false) am_oX7_wipe 300 ?_
  conv => whnf
  repeat' first
    | (refine (?_ : am_wp _ _ _ _ _ _ _ _ _ _ _ _); conv => whnf)
    | (refine (?_ : am_sw _ _ _ _); conv => whnf)
    | refine And.intro trivial ?_
    | exact trivial
    | assumption
    | refine k _ _ ?_ ?_ ?_
    | exact sb_R_KR
    | exact sb_T_KR
    | exact sb_T_K
    | exact fun k j h => mo_l k j (mo_l k j h)
    | exact mo_l
    | exact gm_rf hS
    | refine gm_up ?_ rfl rfl
    | refine gm_up ?_ mo1_self rfl
    | refine gm_up ?_ mo1_in rfl
    | refine gm_100 ?_ rfl ?_ ?_
    | refine gm_14 ?_ rfl ?_ ?_
    | refine gm_15 ?_ rfl ?_ ?_
    | refine gm_16 ?_ rfl ?_ ?_
    | refine gm_21 ?_ rfl ?_ ?_
    | refine gm_33 ?_ rfl ?_ ?_
    | refine gm_40 ?_ rfl ?_ ?_
    | refine gm_42 ?_ rfl ?_ ?_
    | refine md_up ?_ rfl rfl
    | refine md_tr ?_ (by assumption) ?_
    | refine gm_tr ?_ (by assumption) ?_
    | refine gm_put ?_ ?_ rfl
    | refine mi_up ?_ rfl
    | exact gm_i (by assumption)
    | exact md_i (by assumption)
    | exact sb_id
    | exact sb_T_s
    | exact sb_T_Q
    | exact sb_T_M
    | exact sb_R_M
    | exact sb_L_M
    | exact mo_l
    | exact mo1_sub
    | exact mo1_one sb_T_s
    | exact mo1_one mo_l
    | exact mo1_one sb_T_Q
    | exact mo1_one (mo1_one sb_T_s)
    | exact mo1_one (mo1_one sb_id)
    | exact fun k j h => sb_T_Q k j (mo_l k j h)
    | exact fun k j h => mo_l k j (mo_l k j h)
    | exact fun k j h => sb_T_s k j (mo_l k j h)
    | refine And.intro (fun h => absurd h (by decide)) (fun _ => ?_)
    | refine And.intro (fun _ => ?_) (fun h => absurd (by decide) h)
    | refine And.intro (fun _ => ?_) (fun _ => ?_)
    | refine And.intro ?_ ?_
  all_goals (first | assumption | decide | omega | rfl | (simp only [am_c] at * <;> omega) | (simp only [am_c, am_up] at * <;> omega) | (simp [am_c, am_up] at * <;> omega))
theorem m_empty {l : Launch} {ν : am_N} {Q : Option am_V → am_N → Prop}  (hS : mi ν)   (k : ∀ (r : Int) (μ' : am_N), gm (mo ms (m1o 83000 15)) ν μ' → r = ν 83 15 → μ' 83 15 = 0 → Q (some (.inl r)) μ') : am_Does l 214 [.inr (.inr 83)] ν Q := by
  refine am_Does_of (Nat.le_of_ble_eq_true rfl) (Nat.le_of_ble_eq_true rfl) (Nat.le_of_ble_eq_true rfl) ?_
  have hb := mi_all hS
  refine am_go (ct := fun _ => false) am_oX7_empty 300 ?_
  conv => whnf
  repeat' first
    | (refine (?_ : am_wp _ _ _ _ _ _ _ _ _ _ _ _); conv => whnf)
    | (refine (?_ : am_sw _ _ _ _); conv => whnf)
    | refine And.intro trivial ?_
    | exact trivial
    | assumption
    | refine k _ _ ?_ ?_ ?_
    | exact sb_R_KR
    | exact sb_T_KR
    | exact sb_T_K
    | exact fun k j h => mo_l k j (mo_l k j h)
    | exact mo_l
    | exact gm_rf hS
    | refine gm_up ?_ rfl rfl
    | refine gm_up ?_ mo1_self rfl
    | refine gm_up ?_ mo1_in rfl
    | refine gm_100 ?_ rfl ?_ ?_
    | refine gm_14 ?_ rfl ?_ ?_
    | refine gm_15 ?_ rfl ?_ ?_
    | refine gm_16 ?_ rfl ?_ ?_
    | refine gm_21 ?_ rfl ?_ ?_
    | refine gm_33 ?_ rfl ?_ ?_
    | refine gm_40 ?_ rfl ?_ ?_
    | refine gm_42 ?_ rfl ?_ ?_
    | refine md_up ?_ rfl rfl
    | refine md_tr ?_ (by assumption) ?_
    | refine gm_tr ?_ (by assumption) ?_
    | refine gm_put ?_ ?_ rfl
    | refine mi_up ?_ rfl
    | exact gm_i (by assumption)
    | exact md_i (by assumption)
    | exact sb_id
    | exact sb_T_s
    | exact sb_T_Q
    | exact sb_T_M
    | exact sb_R_M
    | exact sb_L_M
    | exact mo_l
    | exact mo1_sub
    | exact mo1_one sb_T_s
    | exact mo1_one mo_l
    | exact mo1_one sb_T_Q
    | exact mo1_one (mo1_one sb_T_s)
    | exact mo1_one (mo1_one sb_id)
    | exact fun k j h => sb_T_Q k j (mo_l k j h)
    | exact fun k j h => mo_l k j (mo_l k j h)
    | exact fun k j h => sb_T_s k j (mo_l k j h)
    | refine And.intro (fun h => absurd h (by decide)) (fun _ => ?_)
    | refine And.intro (fun _ => ?_) (fun h => absurd (by decide) h)
    | refine And.intro (fun _ => ?_) (fun _ => ?_)
    | refine And.intro ?_ ?_
  all_goals (first | assumption | decide | omega | rfl | (simp only [am_c] at * <;> omega) | (simp only [am_c, am_up] at * <;> omega) | (simp [am_c, am_up] at * <;> omega))
theorem m_forget {l : Launch} {ν : am_N} {Q : Option am_V → am_N → Prop}  (hS : mi ν)   (k : ∀ (r : Int) (μ' : am_N), gm (mo ms (m1o 83000 16)) ν μ' → r = ν 83 16 → μ' 83 16 = 0 → Q (some (.inl r)) μ') : am_Does l 234 [.inr (.inr 83)] ν Q := by
  refine am_Does_of (Nat.le_of_ble_eq_true rfl) (Nat.le_of_ble_eq_true rfl) (Nat.le_of_ble_eq_true rfl) ?_
  have hb := mi_all hS
  refine am_go (ct := fun _ => false) am_oX7_forget 300 ?_
  conv => whnf
  repeat' first
    | (refine (?_ : am_wp _ _ _ _ _ _ _ _ _ _ _ _); conv => whnf)
    | (refine (?_ : am_sw _ _ _ _); conv => whnf)
    | refine And.intro trivial ?_
    | exact trivial
    | assumption
    | refine k _ _ ?_ ?_ ?_
    | exact sb_R_KR
    | exact sb_T_KR
    | exact sb_T_K
    | exact fun k j h => mo_l k j (mo_l k j h)
    | exact mo_l
    | exact gm_rf hS
    | refine gm_up ?_ rfl rfl
    | refine gm_up ?_ mo1_self rfl
    | refine gm_up ?_ mo1_in rfl
    | refine gm_100 ?_ rfl ?_ ?_
    | refine gm_14 ?_ rfl ?_ ?_
    | refine gm_15 ?_ rfl ?_ ?_
    | refine gm_16 ?_ rfl ?_ ?_
    | refine gm_21 ?_ rfl ?_ ?_
    | refine gm_33 ?_ rfl ?_ ?_
    | refine gm_40 ?_ rfl ?_ ?_
    | refine gm_42 ?_ rfl ?_ ?_
    | refine md_up ?_ rfl rfl
    | refine md_tr ?_ (by assumption) ?_
    | refine gm_tr ?_ (by assumption) ?_
    | refine gm_put ?_ ?_ rfl
    | refine mi_up ?_ rfl
    | exact gm_i (by assumption)
    | exact md_i (by assumption)
    | exact sb_id
    | exact sb_T_s
    | exact sb_T_Q
    | exact sb_T_M
    | exact sb_R_M
    | exact sb_L_M
    | exact mo_l
    | exact mo1_sub
    | exact mo1_one sb_T_s
    | exact mo1_one mo_l
    | exact mo1_one sb_T_Q
    | exact mo1_one (mo1_one sb_T_s)
    | exact mo1_one (mo1_one sb_id)
    | exact fun k j h => sb_T_Q k j (mo_l k j h)
    | exact fun k j h => mo_l k j (mo_l k j h)
    | exact fun k j h => sb_T_s k j (mo_l k j h)
    | refine And.intro (fun h => absurd h (by decide)) (fun _ => ?_)
    | refine And.intro (fun _ => ?_) (fun h => absurd (by decide) h)
    | refine And.intro (fun _ => ?_) (fun _ => ?_)
    | refine And.intro ?_ ?_
  all_goals (first | assumption | decide | omega | rfl | (simp only [am_c] at * <;> omega) | (simp only [am_c, am_up] at * <;> omega) | (simp [am_c, am_up] at * <;> omega))
theorem m_judge {l : Launch} {ν : am_N} {Q : Option am_V → am_N → Prop}  (hS : mi ν)   (k : ∀ (r : Int) (μ' : am_N), gm (mo mQ (m1o 83000 42)) ν μ' → μ' 83 42 = 0 → Q (some (.inl r)) μ') : am_Does l 247 [.inr (.inr 83)] ν Q := by
  refine am_Does_of (Nat.le_of_ble_eq_true rfl) (Nat.le_of_ble_eq_true rfl) (Nat.le_of_ble_eq_true rfl) ?_
  have hb := mi_all hS
  refine am_go (ct := fun _ => false) am_oX7_judge 300 ?_
  conv => whnf
  repeat' first
    | (refine (?_ : am_wp _ _ _ _ _ _ _ _ _ _ _ _); conv => whnf)
    | (refine (?_ : am_sw _ _ _ _); conv => whnf)
    | refine And.intro trivial ?_
    | exact trivial
    | assumption
    | refine k _ _ ?_ ?_
    | exact fun k j h => mo_l k j h
    | exact sb_R_KR
    | exact sb_T_KR
    | exact sb_T_K
    | exact fun k j h => mo_l k j (mo_l k j h)
    | exact mo_l
    | refine m_wrongAt  (by repeat' first | assumption | exact gm_i (by assumption) | exact md_i (by assumption) | refine mi_up ?_ rfl | refine mi_100 ?_ ?_ ?_ | (simp only [am_c] at * <;> omega))  (fun _ _ _ _ => ?_)
    | exact gm_rf hS
    | refine gm_up ?_ rfl rfl
    | refine gm_up ?_ mo1_self rfl
    | refine gm_up ?_ mo1_in rfl
    | refine gm_100 ?_ rfl ?_ ?_
    | refine gm_14 ?_ rfl ?_ ?_
    | refine gm_15 ?_ rfl ?_ ?_
    | refine gm_16 ?_ rfl ?_ ?_
    | refine gm_21 ?_ rfl ?_ ?_
    | refine gm_33 ?_ rfl ?_ ?_
    | refine gm_40 ?_ rfl ?_ ?_
    | refine gm_42 ?_ rfl ?_ ?_
    | refine md_up ?_ rfl rfl
    | refine md_tr ?_ (by assumption) ?_
    | refine gm_tr ?_ (by assumption) ?_
    | refine gm_put ?_ ?_ rfl
    | refine mi_up ?_ rfl
    | exact gm_i (by assumption)
    | exact md_i (by assumption)
    | exact sb_id
    | exact sb_T_s
    | exact sb_T_Q
    | exact sb_T_M
    | exact sb_R_M
    | exact sb_L_M
    | exact mo_l
    | exact mo1_sub
    | exact mo1_one sb_T_s
    | exact mo1_one mo_l
    | exact mo1_one sb_T_Q
    | exact mo1_one (mo1_one sb_T_s)
    | exact mo1_one (mo1_one sb_id)
    | exact fun k j h => sb_T_Q k j (mo_l k j h)
    | exact fun k j h => mo_l k j (mo_l k j h)
    | exact fun k j h => sb_T_s k j (mo_l k j h)
    | refine And.intro (fun h => absurd h (by decide)) (fun _ => ?_)
    | refine And.intro (fun _ => ?_) (fun h => absurd (by decide) h)
    | refine And.intro (fun _ => ?_) (fun _ => ?_)
    | refine And.intro ?_ ?_
  all_goals (first | assumption | decide | omega | rfl | (simp only [am_c] at * <;> omega) | (simp only [am_c, am_up] at * <;> omega) | (simp [am_c, am_up] at * <;> omega))
