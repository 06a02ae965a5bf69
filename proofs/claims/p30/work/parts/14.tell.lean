/-! contracts: rows, the habit, the teller (weak) -/
theorem w_at_X3_36 {l : Launch} {μ : am_N} {Q : Option am_V → am_N → Prop} {ν : am_N} (i : Int) (hS : sx ν μ)  (k : ∀ r, Q (some (.inl r)) μ) : am_Does l 43 [.inr (.inr 36), .inl i] μ Q := by
  refine am_Does_of (Nat.le_of_ble_eq_true rfl) (Nat.le_of_ble_eq_true rfl) (Nat.le_of_ble_eq_true rfl) ?_
  have hb := sx_all hS
  refine am_go (ct := fun _ => false) am_oX3_at 300 ?_
  conv => whnf
  repeat' first
    | (refine (?_ : am_wp _ _ _ _ _ _ _ _ _ _ _ _); conv => whnf)
    | (refine (?_ : am_sw _ _ _ _); conv => whnf)
    | refine And.intro trivial ?_
    | exact trivial
    | assumption
    | exact k _
    | refine sx_up ?_ rfl
    | refine And.intro (fun h => absurd h (by decide)) (fun _ => ?_)
    | refine And.intro (fun _ => ?_) (fun h => absurd (by decide) h)
    | refine And.intro (fun _ => ?_) (fun _ => ?_)
    | refine And.intro ?_ ?_
  all_goals (first | assumption | decide | omega | (intros; omega) | (intros; simp only [am_c] at * <;> omega) | (simp only [am_c, am_up] at * <;> omega) | (simp [am_c, am_up] at * <;> omega))
theorem w_at_X3_44 {l : Launch} {μ : am_N} {Q : Option am_V → am_N → Prop} {ν : am_N} (i : Int) (hS : sx ν μ)  (k : ∀ r, Q (some (.inl r)) μ) : am_Does l 43 [.inr (.inr 44), .inl i] μ Q := by
  refine am_Does_of (Nat.le_of_ble_eq_true rfl) (Nat.le_of_ble_eq_true rfl) (Nat.le_of_ble_eq_true rfl) ?_
  have hb := sx_all hS
  refine am_go (ct := fun _ => false) am_oX3_at 300 ?_
  conv => whnf
  repeat' first
    | (refine (?_ : am_wp _ _ _ _ _ _ _ _ _ _ _ _); conv => whnf)
    | (refine (?_ : am_sw _ _ _ _); conv => whnf)
    | refine And.intro trivial ?_
    | exact trivial
    | assumption
    | exact k _
    | refine sx_up ?_ rfl
    | refine And.intro (fun h => absurd h (by decide)) (fun _ => ?_)
    | refine And.intro (fun _ => ?_) (fun h => absurd (by decide) h)
    | refine And.intro (fun _ => ?_) (fun _ => ?_)
    | refine And.intro ?_ ?_
  all_goals (first | assumption | decide | omega | (intros; omega) | (intros; simp only [am_c] at * <;> omega) | (simp only [am_c, am_up] at * <;> omega) | (simp [am_c, am_up] at * <;> omega))
theorem w_at_X3_46 {l : Launch} {μ : am_N} {Q : Option am_V → am_N → Prop} {ν : am_N} (i : Int) (hS : sx ν μ)  (k : ∀ r, Q (some (.inl r)) μ) : am_Does l 43 [.inr (.inr 46), .inl i] μ Q := by
  refine am_Does_of (Nat.le_of_ble_eq_true rfl) (Nat.le_of_ble_eq_true rfl) (Nat.le_of_ble_eq_true rfl) ?_
  have hb := sx_all hS
  refine am_go (ct := fun _ => false) am_oX3_at 300 ?_
  conv => whnf
  repeat' first
    | (refine (?_ : am_wp _ _ _ _ _ _ _ _ _ _ _ _); conv => whnf)
    | (refine (?_ : am_sw _ _ _ _); conv => whnf)
    | refine And.intro trivial ?_
    | exact trivial
    | assumption
    | exact k _
    | refine sx_up ?_ rfl
    | refine And.intro (fun h => absurd h (by decide)) (fun _ => ?_)
    | refine And.intro (fun _ => ?_) (fun h => absurd (by decide) h)
    | refine And.intro (fun _ => ?_) (fun _ => ?_)
    | refine And.intro ?_ ?_
  all_goals (first | assumption | decide | omega | (intros; omega) | (intros; simp only [am_c] at * <;> omega) | (simp only [am_c, am_up] at * <;> omega) | (simp [am_c, am_up] at * <;> omega))
theorem w_at_X3_48 {l : Launch} {μ : am_N} {Q : Option am_V → am_N → Prop} {ν : am_N} (i : Int) (hS : sx ν μ)  (k : ∀ r, Q (some (.inl r)) μ) : am_Does l 43 [.inr (.inr 48), .inl i] μ Q := by
  refine am_Does_of (Nat.le_of_ble_eq_true rfl) (Nat.le_of_ble_eq_true rfl) (Nat.le_of_ble_eq_true rfl) ?_
  have hb := sx_all hS
  refine am_go (ct := fun _ => false) am_oX3_at 300 ?_
  conv => whnf
  repeat' first
    | (refine (?_ : am_wp _ _ _ _ _ _ _ _ _ _ _ _); conv => whnf)
    | (refine (?_ : am_sw _ _ _ _); conv => whnf)
    | refine And.intro trivial ?_
    | exact trivial
    | assumption
    | exact k _
    | refine sx_up ?_ rfl
    | refine And.intro (fun h => absurd h (by decide)) (fun _ => ?_)
    | refine And.intro (fun _ => ?_) (fun h => absurd (by decide) h)
    | refine And.intro (fun _ => ?_) (fun _ => ?_)
    | refine And.intro ?_ ?_
  all_goals (first | assumption | decide | omega | (intros; omega) | (intros; simp only [am_c] at * <;> omega) | (simp only [am_c, am_up] at * <;> omega) | (simp [am_c, am_up] at * <;> omega))
theorem w_at_X3_50 {l : Launch} {μ : am_N} {Q : Option am_V → am_N → Prop} {ν : am_N} (i : Int) (hS : sx ν μ)  (k : ∀ r, Q (some (.inl r)) μ) : am_Does l 43 [.inr (.inr 50), .inl i] μ Q := by
  refine am_Does_of (Nat.le_of_ble_eq_true rfl) (Nat.le_of_ble_eq_true rfl) (Nat.le_of_ble_eq_true rfl) ?_
  have hb := sx_all hS
  refine am_go (ct := fun _ => false) am_oX3_at 300 ?_
  conv => whnf
  repeat' first
    | (refine (?_ : am_wp _ _ _ _ _ _ _ _ _ _ _ _); conv => whnf)
    | (refine (?_ : am_sw _ _ _ _); conv => whnf)
    | refine And.intro trivial ?_
    | exact trivial
    | assumption
    | exact k _
    | refine sx_up ?_ rfl
    | refine And.intro (fun h => absurd h (by decide)) (fun _ => ?_)
    | refine And.intro (fun _ => ?_) (fun h => absurd (by decide) h)
    | refine And.intro (fun _ => ?_) (fun _ => ?_)
    | refine And.intro ?_ ?_
  all_goals (first | assumption | decide | omega | (intros; omega) | (intros; simp only [am_c] at * <;> omega) | (simp only [am_c, am_up] at * <;> omega) | (simp [am_c, am_up] at * <;> omega))
theorem w_at_X3_53 {l : Launch} {μ : am_N} {Q : Option am_V → am_N → Prop} {ν : am_N} (i : Int) (hS : sx ν μ)  (k : ∀ r, Q (some (.inl r)) μ) : am_Does l 43 [.inr (.inr 53), .inl i] μ Q := by
  refine am_Does_of (Nat.le_of_ble_eq_true rfl) (Nat.le_of_ble_eq_true rfl) (Nat.le_of_ble_eq_true rfl) ?_
  have hb := sx_all hS
  refine am_go (ct := fun _ => false) am_oX3_at 300 ?_
  conv => whnf
  repeat' first
    | (refine (?_ : am_wp _ _ _ _ _ _ _ _ _ _ _ _); conv => whnf)
    | (refine (?_ : am_sw _ _ _ _); conv => whnf)
    | refine And.intro trivial ?_
    | exact trivial
    | assumption
    | exact k _
    | refine sx_up ?_ rfl
    | refine And.intro (fun h => absurd h (by decide)) (fun _ => ?_)
    | refine And.intro (fun _ => ?_) (fun h => absurd (by decide) h)
    | refine And.intro (fun _ => ?_) (fun _ => ?_)
    | refine And.intro ?_ ?_
  all_goals (first | assumption | decide | omega | (intros; omega) | (intros; simp only [am_c] at * <;> omega) | (simp only [am_c, am_up] at * <;> omega) | (simp [am_c, am_up] at * <;> omega))
theorem w_at_X3_55 {l : Launch} {μ : am_N} {Q : Option am_V → am_N → Prop} {ν : am_N} (i : Int) (hS : sx ν μ)  (k : ∀ r, Q (some (.inl r)) μ) : am_Does l 43 [.inr (.inr 55), .inl i] μ Q := by
  refine am_Does_of (Nat.le_of_ble_eq_true rfl) (Nat.le_of_ble_eq_true rfl) (Nat.le_of_ble_eq_true rfl) ?_
  have hb := sx_all hS
  refine am_go (ct := fun _ => false) am_oX3_at 300 ?_
  conv => whnf
  repeat' first
    | (refine (?_ : am_wp _ _ _ _ _ _ _ _ _ _ _ _); conv => whnf)
    | (refine (?_ : am_sw _ _ _ _); conv => whnf)
    | refine And.intro trivial ?_
    | exact trivial
    | assumption
    | exact k _
    | refine sx_up ?_ rfl
    | refine And.intro (fun h => absurd h (by decide)) (fun _ => ?_)
    | refine And.intro (fun _ => ?_) (fun h => absurd (by decide) h)
    | refine And.intro (fun _ => ?_) (fun _ => ?_)
    | refine And.intro ?_ ?_
  all_goals (first | assumption | decide | omega | (intros; omega) | (intros; simp only [am_c] at * <;> omega) | (simp only [am_c, am_up] at * <;> omega) | (simp [am_c, am_up] at * <;> omega))
theorem w_at_X3_58 {l : Launch} {μ : am_N} {Q : Option am_V → am_N → Prop} {ν : am_N} (i : Int) (hS : sx ν μ)  (k : ∀ r, Q (some (.inl r)) μ) : am_Does l 43 [.inr (.inr 58), .inl i] μ Q := by
  refine am_Does_of (Nat.le_of_ble_eq_true rfl) (Nat.le_of_ble_eq_true rfl) (Nat.le_of_ble_eq_true rfl) ?_
  have hb := sx_all hS
  refine am_go (ct := fun _ => false) am_oX3_at 300 ?_
  conv => whnf
  repeat' first
    | (refine (?_ : am_wp _ _ _ _ _ _ _ _ _ _ _ _); conv => whnf)
    | (refine (?_ : am_sw _ _ _ _); conv => whnf)
    | refine And.intro trivial ?_
    | exact trivial
    | assumption
    | exact k _
    | refine sx_up ?_ rfl
    | refine And.intro (fun h => absurd h (by decide)) (fun _ => ?_)
    | refine And.intro (fun _ => ?_) (fun h => absurd (by decide) h)
    | refine And.intro (fun _ => ?_) (fun _ => ?_)
    | refine And.intro ?_ ?_
  all_goals (first | assumption | decide | omega | (intros; omega) | (intros; simp only [am_c] at * <;> omega) | (simp only [am_c, am_up] at * <;> omega) | (simp [am_c, am_up] at * <;> omega))
theorem w_at_X3_60 {l : Launch} {μ : am_N} {Q : Option am_V → am_N → Prop} {ν : am_N} (i : Int) (hS : sx ν μ)  (k : ∀ r, Q (some (.inl r)) μ) : am_Does l 43 [.inr (.inr 60), .inl i] μ Q := by
  refine am_Does_of (Nat.le_of_ble_eq_true rfl) (Nat.le_of_ble_eq_true rfl) (Nat.le_of_ble_eq_true rfl) ?_
  have hb := sx_all hS
  refine am_go (ct := fun _ => false) am_oX3_at 300 ?_
  conv => whnf
  repeat' first
    | (refine (?_ : am_wp _ _ _ _ _ _ _ _ _ _ _ _); conv => whnf)
    | (refine (?_ : am_sw _ _ _ _); conv => whnf)
    | refine And.intro trivial ?_
    | exact trivial
    | assumption
    | exact k _
    | refine sx_up ?_ rfl
    | refine And.intro (fun h => absurd h (by decide)) (fun _ => ?_)
    | refine And.intro (fun _ => ?_) (fun h => absurd (by decide) h)
    | refine And.intro (fun _ => ?_) (fun _ => ?_)
    | refine And.intro ?_ ?_
  all_goals (first | assumption | decide | omega | (intros; omega) | (intros; simp only [am_c] at * <;> omega) | (simp only [am_c, am_up] at * <;> omega) | (simp [am_c, am_up] at * <;> omega))
theorem w_means_X1 {l : Launch} {μ : am_N} {Q : Option am_V → am_N → Prop} {ν : am_N} (a b c : Int) (hS : sx ν μ) (hb1 : b = 0 ∨ b = 1) (hc1 : c = 0 ∨ c = 1) (k : ∀ r, Q (some (.inl r)) μ) : am_Does l 20 [.inl a, .inl b, .inl c] μ Q := by
  refine am_Does_of (Nat.le_of_ble_eq_true rfl) (Nat.le_of_ble_eq_true rfl) (Nat.le_of_ble_eq_true rfl) ?_
  have hb := sx_all hS
  refine am_go (ct := fun _ => false) am_oX1_means 300 ?_
  conv => whnf
  repeat' first
    | (refine (?_ : am_wp _ _ _ _ _ _ _ _ _ _ _ _); conv => whnf)
    | (refine (?_ : am_sw _ _ _ _); conv => whnf)
    | refine And.intro trivial ?_
    | exact trivial
    | assumption
    | exact k _
    | refine sx_up ?_ rfl
    | refine And.intro (fun h => absurd h (by decide)) (fun _ => ?_)
    | refine And.intro (fun _ => ?_) (fun h => absurd (by decide) h)
    | refine And.intro (fun _ => ?_) (fun _ => ?_)
    | refine And.intro ?_ ?_
  all_goals (first | assumption | decide | omega | (intros; omega) | (intros; simp only [am_c] at * <;> omega) | (simp only [am_c, am_up] at * <;> omega) | (simp [am_c, am_up] at * <;> omega))
theorem w_mend_X1 {l : Launch} {μ : am_N} {Q : Option am_V → am_N → Prop} {ν : am_N}  (hS : sx ν μ)  (k : ∀ μ', sx ν μ' → Q none μ') : am_Does l 19 [.inr (.inr 52), .inr (.inr 8), .inr (.inr 29)] μ Q := by
  refine am_Does_of (Nat.le_of_ble_eq_true rfl) (Nat.le_of_ble_eq_true rfl) (Nat.le_of_ble_eq_true rfl) ?_
  have hb := sx_all hS
  have lp16 : ∀ (m : Nat) (c i : Int) (μ : am_N) , sx ν μ → 0 ≤ i → i ≤ 4 → (∀ (o4 : Option am_V) (μ : am_N), sx ν μ → am_AW l 0 (fun _ => 0) 19 Q 2 [some (.inr (.inr 52)), some (.inr (.inr 8)), some (.inr (.inr 29)), some (.inl (c + 1)), o4] [] μ) → 4 - i < (m : Int) → am_AW l 0 (fun _ => 0) 19 Q 16 [some (.inr (.inr 52)), some (.inr (.inr 8)), some (.inr (.inr 29)), some (.inl c), some (.inl i)] [] μ := by
    intro m
    induction m with
    | zero =>
      intro c i μ hv0 hv1 hv2 hv3 hm
      have hb := sx_all hv0
      exfalso
      omega
    | succ m ih =>
      intro c i μ hv0 hv1 hv2 hv3 hm
      have hb := sx_all hv0
      refine am_go (ct := fun pc => Nat.beq pc 16 || Nat.beq pc 2) am_oX1_mend 300 ?_
      conv => whnf
      repeat' first
        | (refine (?_ : am_wp _ _ _ _ _ _ _ _ _ _ _ _); conv => whnf)
        | (refine (?_ : am_sw _ _ _ _); conv => whnf)
        | refine And.intro trivial ?_
        | exact trivial
        | assumption
        | refine hv3 _ _ ?_
        | refine k _ ?_
        | refine sx_up ?_ rfl
        | refine w_at_X3_36 (ν := ν) _ ?_  (fun _ => ?_)
        | refine w_at_X3_44 (ν := ν) _ ?_  (fun _ => ?_)
        | refine w_at_X3_46 (ν := ν) _ ?_  (fun _ => ?_)
        | refine w_at_X3_48 (ν := ν) _ ?_  (fun _ => ?_)
        | refine w_at_X3_50 (ν := ν) _ ?_  (fun _ => ?_)
        | refine w_at_X3_53 (ν := ν) _ ?_  (fun _ => ?_)
        | refine w_at_X3_55 (ν := ν) _ ?_  (fun _ => ?_)
        | refine w_at_X3_58 (ν := ν) _ ?_  (fun _ => ?_)
        | refine w_at_X3_60 (ν := ν) _ ?_  (fun _ => ?_)
        | refine w_first_X2_29 (ν := ν)  ?_  (fun _ => ?_)
        | refine w_first_X2_38 (ν := ν)  ?_  (fun _ => ?_)
        | refine w_last_X2_29 (ν := ν)  ?_  (fun _ => ?_)
        | refine w_last_X2_38 (ν := ν)  ?_  (fun _ => ?_)
        | refine w_means_X1 (ν := ν) _ _ _ ?_ ?_ ?_ (fun _ => ?_)
        | refine w_more_X0_8 (ν := ν) _ _ ?_  (fun _ _ => ?_)
        | refine w_more_X0_15 (ν := ν) _ _ ?_  (fun _ _ => ?_)
        | refine ih _ _ _ ?_ ?_ ?_ ?_ ?_
        | refine And.intro (fun h => absurd h (by decide)) (fun _ => ?_)
        | refine And.intro (fun _ => ?_) (fun h => absurd (by decide) h)
        | refine And.intro (fun _ => ?_) (fun _ => ?_)
        | refine And.intro ?_ ?_
      all_goals (first | assumption | decide | omega | (intros; omega) | (intros; simp only [am_c] at * <;> omega) | (simp only [am_c, am_up] at * <;> omega) | (simp [am_c, am_up] at * <;> omega))
  have lp16' : ∀ (c i : Int) (μ : am_N) , sx ν μ → 0 ≤ i → i ≤ 4 → (∀ (o4 : Option am_V) (μ : am_N), sx ν μ → am_AW l 0 (fun _ => 0) 19 Q 2 [some (.inr (.inr 52)), some (.inr (.inr 8)), some (.inr (.inr 29)), some (.inl (c + 1)), o4] [] μ) → am_AW l 0 (fun _ => 0) 19 Q 16 [some (.inr (.inr 52)), some (.inr (.inr 8)), some (.inr (.inr 29)), some (.inl c), some (.inl i)] [] μ := fun c i μ hv0 hv1 hv2 hv3 => lp16 ((4 - i) + 1).toNat c i μ hv0 hv1 hv2 hv3 (by omega)
  have lp2 : ∀ (m : Nat) (c : Int) (o4 : Option am_V) (μ : am_N) , sx ν μ → 0 ≤ c → c ≤ 4 → 4 - c < (m : Int) → am_AW l 0 (fun _ => 0) 19 Q 2 [some (.inr (.inr 52)), some (.inr (.inr 8)), some (.inr (.inr 29)), some (.inl c), o4] [] μ := by
    intro m
    induction m with
    | zero =>
      intro c o4 μ hv0 hv1 hv2 hm
      have hb := sx_all hv0
      exfalso
      omega
    | succ m ih =>
      intro c o4 μ hv0 hv1 hv2 hm
      have hb := sx_all hv0
      refine am_go (ct := fun pc => Nat.beq pc 16 || Nat.beq pc 2) am_oX1_mend 300 ?_
      conv => whnf
      repeat' first
        | (refine (?_ : am_wp _ _ _ _ _ _ _ _ _ _ _ _); conv => whnf)
        | (refine (?_ : am_sw _ _ _ _); conv => whnf)
        | refine And.intro trivial ?_
        | exact trivial
        | assumption
        | (refine fun _ _ _ => ih _ _ _ ?_ ?_ ?_ ?_)
        | refine k _ ?_
        | refine sx_up ?_ rfl
        | refine w_at_X3_36 (ν := ν) _ ?_  (fun _ => ?_)
        | refine w_at_X3_44 (ν := ν) _ ?_  (fun _ => ?_)
        | refine w_at_X3_46 (ν := ν) _ ?_  (fun _ => ?_)
        | refine w_at_X3_48 (ν := ν) _ ?_  (fun _ => ?_)
        | refine w_at_X3_50 (ν := ν) _ ?_  (fun _ => ?_)
        | refine w_at_X3_53 (ν := ν) _ ?_  (fun _ => ?_)
        | refine w_at_X3_55 (ν := ν) _ ?_  (fun _ => ?_)
        | refine w_at_X3_58 (ν := ν) _ ?_  (fun _ => ?_)
        | refine w_at_X3_60 (ν := ν) _ ?_  (fun _ => ?_)
        | refine w_first_X2_29 (ν := ν)  ?_  (fun _ => ?_)
        | refine w_first_X2_38 (ν := ν)  ?_  (fun _ => ?_)
        | refine w_last_X2_29 (ν := ν)  ?_  (fun _ => ?_)
        | refine w_last_X2_38 (ν := ν)  ?_  (fun _ => ?_)
        | refine w_means_X1 (ν := ν) _ _ _ ?_ ?_ ?_ (fun _ => ?_)
        | refine w_more_X0_8 (ν := ν) _ _ ?_  (fun _ _ => ?_)
        | refine w_more_X0_15 (ν := ν) _ _ ?_  (fun _ _ => ?_)
        | refine ih _ _ _ ?_ ?_ ?_ ?_
        | refine lp16' _ _ _ ?_ ?_ ?_ ?_
        | refine And.intro (fun h => absurd h (by decide)) (fun _ => ?_)
        | refine And.intro (fun _ => ?_) (fun h => absurd (by decide) h)
        | refine And.intro (fun _ => ?_) (fun _ => ?_)
        | refine And.intro ?_ ?_
      all_goals (first | assumption | decide | omega | (intros; omega) | (intros; simp only [am_c] at * <;> omega) | (simp only [am_c, am_up] at * <;> omega) | (simp [am_c, am_up] at * <;> omega))
  have lp2' : ∀ (c : Int) (o4 : Option am_V) (μ : am_N) , sx ν μ → 0 ≤ c → c ≤ 4 → am_AW l 0 (fun _ => 0) 19 Q 2 [some (.inr (.inr 52)), some (.inr (.inr 8)), some (.inr (.inr 29)), some (.inl c), o4] [] μ := fun c o4 μ hv0 hv1 hv2 => lp2 ((4 - c) + 1).toNat c o4 μ hv0 hv1 hv2 (by omega)
  refine am_go (ct := fun pc => Nat.beq pc 16 || Nat.beq pc 2) am_oX1_mend 300 ?_
  conv => whnf
  repeat' first
    | (refine (?_ : am_wp _ _ _ _ _ _ _ _ _ _ _ _); conv => whnf)
    | (refine (?_ : am_sw _ _ _ _); conv => whnf)
    | refine And.intro trivial ?_
    | exact trivial
    | assumption
    | refine k _ ?_
    | refine sx_up ?_ rfl
    | refine w_at_X3_36 (ν := ν) _ ?_  (fun _ => ?_)
    | refine w_at_X3_44 (ν := ν) _ ?_  (fun _ => ?_)
    | refine w_at_X3_46 (ν := ν) _ ?_  (fun _ => ?_)
    | refine w_at_X3_48 (ν := ν) _ ?_  (fun _ => ?_)
    | refine w_at_X3_50 (ν := ν) _ ?_  (fun _ => ?_)
    | refine w_at_X3_53 (ν := ν) _ ?_  (fun _ => ?_)
    | refine w_at_X3_55 (ν := ν) _ ?_  (fun _ => ?_)
    | refine w_at_X3_58 (ν := ν) _ ?_  (fun _ => ?_)
    | refine w_at_X3_60 (ν := ν) _ ?_  (fun _ => ?_)
    | refine w_first_X2_29 (ν := ν)  ?_  (fun _ => ?_)
    | refine w_first_X2_38 (ν := ν)  ?_  (fun _ => ?_)
    | refine w_last_X2_29 (ν := ν)  ?_  (fun _ => ?_)
    | refine w_last_X2_38 (ν := ν)  ?_  (fun _ => ?_)
    | refine w_means_X1 (ν := ν) _ _ _ ?_ ?_ ?_ (fun _ => ?_)
    | refine w_more_X0_8 (ν := ν) _ _ ?_  (fun _ _ => ?_)
    | refine w_more_X0_15 (ν := ν) _ _ ?_  (fun _ _ => ?_)
    | refine lp2' _ _ _ ?_ ?_ ?_
    | refine lp16' _ _ _ ?_ ?_ ?_ ?_
    | refine And.intro (fun h => absurd h (by decide)) (fun _ => ?_)
    | refine And.intro (fun _ => ?_) (fun h => absurd (by decide) h)
    | refine And.intro (fun _ => ?_) (fun _ => ?_)
    | refine And.intro ?_ ?_
  all_goals (first | assumption | decide | omega | (intros; omega) | (intros; simp only [am_c] at * <;> omega) | (simp only [am_c, am_up] at * <;> omega) | (simp [am_c, am_up] at * <;> omega))
theorem w_at36 {l : Launch} {μ : am_N} {Q : Option am_V → am_N → Prop} {ν : am_N} (i : Int) (hS : sx ν μ) (k1 : 0 ≤ am_c i → am_c i < 96 → ∀ r, Q (some (.inl r)) μ) (k2 : Q (some (.inl (-1))) μ) : am_Does l 43 [.inr (.inr 36), .inl i] μ Q := by
  refine am_Does_of (Nat.le_of_ble_eq_true rfl) (Nat.le_of_ble_eq_true rfl) (Nat.le_of_ble_eq_true rfl) ?_
  have hb := sx_all hS
  refine am_go (ct := fun _ => false) am_oX3_at 300 ?_
  conv => whnf
  repeat' first
    | (refine (?_ : am_wp _ _ _ _ _ _ _ _ _ _ _ _); conv => whnf)
    | (refine (?_ : am_sw _ _ _ _); conv => whnf)
    | refine And.intro trivial ?_
    | exact trivial
    | assumption
    | refine k1 ?_ ?_ _
    | exact k2
    | refine And.intro (fun h => absurd h (by decide)) (fun _ => ?_)
    | refine And.intro (fun _ => ?_) (fun h => absurd (by decide) h)
    | refine And.intro (fun _ => ?_) (fun _ => ?_)
    | refine And.intro ?_ ?_
  all_goals (first | assumption | decide | omega | (intros; omega) | (intros; simp only [am_c] at * <;> omega) | (simp only [am_c, am_up] at * <;> omega) | (simp [am_c, am_up] at * <;> omega))
theorem w_mostDigits_X5 {l : Launch} {μ : am_N} {Q : Option am_V → am_N → Prop} {ν : am_N} (c : Int) (hS : sx ν μ)  (k : ∀ r : Int, -1 ≤ r → r ≤ 8 → (am_c c = -1 → r = -1) → Q (some (.inl r)) μ) : am_Does l 53 [.inl c] μ Q := by
  refine am_Does_of (Nat.le_of_ble_eq_true rfl) (Nat.le_of_ble_eq_true rfl) (Nat.le_of_ble_eq_true rfl) ?_
  have hb := sx_all hS
  refine am_go (ct := fun _ => false) am_oX5_mostDigits 300 ?_
  conv => whnf
  repeat' first
    | (refine (?_ : am_wp _ _ _ _ _ _ _ _ _ _ _ _); conv => whnf)
    | (refine (?_ : am_sw _ _ _ _); conv => whnf)
    | refine And.intro trivial ?_
    | exact trivial
    | assumption
    | refine k _ ?_ ?_ ?_
    | refine sx_up ?_ rfl
    | refine And.intro (fun h => absurd h (by decide)) (fun _ => ?_)
    | refine And.intro (fun _ => ?_) (fun h => absurd (by decide) h)
    | refine And.intro (fun _ => ?_) (fun _ => ?_)
    | refine And.intro ?_ ?_
  all_goals (first | assumption | decide | omega | (intros; omega) | (intros; simp only [am_c] at * <;> omega) | (simp only [am_c, am_up] at * <;> omega) | (simp [am_c, am_up] at * <;> omega))
theorem w_digit_X5 {l : Launch} {μ : am_N} {Q : Option am_V → am_N → Prop} {ν : am_N} (p : Int) (hS : sx ν μ)  (k : ∀ r, Q (some (.inl r)) μ) : am_Does l 54 [.inr (.inr 35), .inl p] μ Q := by
  refine am_Does_of (Nat.le_of_ble_eq_true rfl) (Nat.le_of_ble_eq_true rfl) (Nat.le_of_ble_eq_true rfl) ?_
  have hb := sx_all hS
  refine am_go (ct := fun _ => false) am_oX5_digit 300 ?_
  conv => whnf
  repeat' first
    | (refine (?_ : am_wp _ _ _ _ _ _ _ _ _ _ _ _); conv => whnf)
    | (refine (?_ : am_sw _ _ _ _); conv => whnf)
    | refine And.intro trivial ?_
    | exact trivial
    | assumption
    | exact k _
    | refine sx_up ?_ rfl
    | refine w_at_X3_44 (ν := ν) _ ?_  (fun _ => ?_)
    | refine w_at_X3_46 (ν := ν) _ ?_  (fun _ => ?_)
    | refine w_at_X3_48 (ν := ν) _ ?_  (fun _ => ?_)
    | refine w_at_X3_50 (ν := ν) _ ?_  (fun _ => ?_)
    | refine w_at_X3_53 (ν := ν) _ ?_  (fun _ => ?_)
    | refine w_at_X3_55 (ν := ν) _ ?_  (fun _ => ?_)
    | refine w_at_X3_58 (ν := ν) _ ?_  (fun _ => ?_)
    | refine w_at_X3_60 (ν := ν) _ ?_  (fun _ => ?_)
    | refine w_at36 (ν := ν) _ ?_ (fun _ _ _ => ?_) ?_
    | refine And.intro (fun h => absurd h (by decide)) (fun _ => ?_)
    | refine And.intro (fun _ => ?_) (fun h => absurd (by decide) h)
    | refine And.intro (fun _ => ?_) (fun _ => ?_)
    | refine And.intro ?_ ?_
  all_goals (first | assumption | decide | omega | (intros; omega) | (intros; simp only [am_c] at * <;> omega) | (simp only [am_c, am_up] at * <;> omega) | (simp [am_c, am_up] at * <;> omega))
theorem w_two_X5 {l : Launch} {μ : am_N} {Q : Option am_V → am_N → Prop} {ν : am_N} (p : Int) (hS : sx ν μ)  (k : ∀ r, Q (some (.inl r)) μ) : am_Does l 55 [.inr (.inr 35), .inl p] μ Q := by
  refine am_Does_of (Nat.le_of_ble_eq_true rfl) (Nat.le_of_ble_eq_true rfl) (Nat.le_of_ble_eq_true rfl) ?_
  have hb := sx_all hS
  refine am_go (ct := fun _ => false) am_oX5_two 300 ?_
  conv => whnf
  repeat' first
    | (refine (?_ : am_wp _ _ _ _ _ _ _ _ _ _ _ _); conv => whnf)
    | (refine (?_ : am_sw _ _ _ _); conv => whnf)
    | refine And.intro trivial ?_
    | exact trivial
    | assumption
    | exact k _
    | refine sx_up ?_ rfl
    | refine w_digit_X5 (ν := ν) _ ?_  (fun _ => ?_)
    | refine And.intro (fun h => absurd h (by decide)) (fun _ => ?_)
    | refine And.intro (fun _ => ?_) (fun h => absurd (by decide) h)
    | refine And.intro (fun _ => ?_) (fun _ => ?_)
    | refine And.intro ?_ ?_
  all_goals (first | assumption | decide | omega | (intros; omega) | (intros; simp only [am_c] at * <;> omega) | (simp only [am_c, am_up] at * <;> omega) | (simp [am_c, am_up] at * <;> omega))
theorem w_behind_X5 {l : Launch} {μ : am_N} {Q : Option am_V → am_N → Prop} {ν : am_N} (a : Int) (hS : sx ν μ) (ha0 : -110 ≤ a) (ha1 : a ≤ 96) (k : ∀ r : Int, -110 ≤ r → r ≤ 110 → Q (some (.inl r)) μ) : am_Does l 52 [.inr (.inr 35), .inl a] μ Q := by
  refine am_Does_of (Nat.le_of_ble_eq_true rfl) (Nat.le_of_ble_eq_true rfl) (Nat.le_of_ble_eq_true rfl) ?_
  have hb := sx_all hS
  have lp71 : ∀ (most least p i : Int), -1 ≤ a → p ≤ a + 9 → a + 1 ≤ p → am_AW l 0 (fun _ => 0) 52 Q 71 [some (.inr (.inr 35)), some (.inl a), some (.inl most), some (.inl least), some (.inl p), some (.inl i)] [] μ := by
    intro most least p i  hv0 hv1 hv2
    refine am_go (ct := fun pc => Nat.beq pc 71 || Nat.beq pc 47) am_oX5_behind 300 ?_
    conv => whnf
    repeat' first
      | (refine (?_ : am_wp _ _ _ _ _ _ _ _ _ _ _ _); conv => whnf)
      | (refine (?_ : am_sw _ _ _ _); conv => whnf)
      | refine And.intro trivial ?_
      | exact trivial
      | assumption
      | refine k _ ?_ ?_
      | refine sx_up ?_ rfl
      | refine w_at_X3_44 (ν := ν) _ ?_  (fun _ => ?_)
      | refine w_at_X3_46 (ν := ν) _ ?_  (fun _ => ?_)
      | refine w_at_X3_48 (ν := ν) _ ?_  (fun _ => ?_)
      | refine w_at_X3_50 (ν := ν) _ ?_  (fun _ => ?_)
      | refine w_at_X3_53 (ν := ν) _ ?_  (fun _ => ?_)
      | refine w_at_X3_55 (ν := ν) _ ?_  (fun _ => ?_)
      | refine w_at_X3_58 (ν := ν) _ ?_  (fun _ => ?_)
      | refine w_at_X3_60 (ν := ν) _ ?_  (fun _ => ?_)
      | refine w_at36 (ν := ν) _ ?_ (fun _ _ _ => ?_) ?_
      | refine w_mostDigits_X5 (ν := ν) _ ?_  (fun _ _ _ _ => ?_)
      | refine w_digit_X5 (ν := ν) _ ?_  (fun _ => ?_)
      | refine And.intro (fun h => absurd h (by decide)) (fun _ => ?_)
      | refine And.intro (fun _ => ?_) (fun h => absurd (by decide) h)
      | refine And.intro (fun _ => ?_) (fun _ => ?_)
      | refine And.intro ?_ ?_
    all_goals (first | assumption | decide | omega | (intros; omega) | (intros; simp only [am_c] at * <;> omega) | (simp only [am_c, am_up] at * <;> omega) | (simp [am_c, am_up] at * <;> omega))
  have lp47 : ∀ (m : Nat) (most least p i : Int) , -1 ≤ a → -1 ≤ most → most ≤ 8 → 0 ≤ i → p ≤ a + 1 + i → a + 1 ≤ p → (i ≤ 8) → 9 - i < (m : Int) → am_AW l 0 (fun _ => 0) 52 Q 47 [some (.inr (.inr 35)), some (.inl a), some (.inl most), some (.inl least), some (.inl p), some (.inl i)] [] μ := by
    intro m
    induction m with
    | zero =>
      intro most least p i  hv0 hv1 hv2 hv3 hv4 hv5 hv6 hm
      exfalso
      omega
    | succ m ih =>
      intro most least p i  hv0 hv1 hv2 hv3 hv4 hv5 hv6 hm
      refine am_go (ct := fun pc => Nat.beq pc 71 || Nat.beq pc 47) am_oX5_behind 300 ?_
      conv => whnf
      repeat' first
        | (refine (?_ : am_wp _ _ _ _ _ _ _ _ _ _ _ _); conv => whnf)
        | (refine (?_ : am_sw _ _ _ _); conv => whnf)
        | refine And.intro trivial ?_
        | exact trivial
        | assumption
        | refine k _ ?_ ?_
        | refine sx_up ?_ rfl
        | refine w_at_X3_44 (ν := ν) _ ?_  (fun _ => ?_)
        | refine w_at_X3_46 (ν := ν) _ ?_  (fun _ => ?_)
        | refine w_at_X3_48 (ν := ν) _ ?_  (fun _ => ?_)
        | refine w_at_X3_50 (ν := ν) _ ?_  (fun _ => ?_)
        | refine w_at_X3_53 (ν := ν) _ ?_  (fun _ => ?_)
        | refine w_at_X3_55 (ν := ν) _ ?_  (fun _ => ?_)
        | refine w_at_X3_58 (ν := ν) _ ?_  (fun _ => ?_)
        | refine w_at_X3_60 (ν := ν) _ ?_  (fun _ => ?_)
        | refine w_at36 (ν := ν) _ ?_ (fun _ _ _ => ?_) ?_
        | refine w_mostDigits_X5 (ν := ν) _ ?_  (fun _ _ _ _ => ?_)
        | refine w_digit_X5 (ν := ν) _ ?_  (fun _ => ?_)
        | refine ih _ _ _ _  ?_ ?_ ?_ ?_ ?_ ?_ ?_ ?_
        | refine lp71 _ _ _ _  ?_ ?_ ?_
        | refine And.intro (fun h => absurd h (by decide)) (fun _ => ?_)
        | refine And.intro (fun _ => ?_) (fun h => absurd (by decide) h)
        | refine And.intro (fun _ => ?_) (fun _ => ?_)
        | refine And.intro ?_ ?_
      all_goals (first | assumption | decide | omega | (intros; omega) | (intros; simp only [am_c] at * <;> omega) | (simp only [am_c, am_up] at * <;> omega) | (simp [am_c, am_up] at * <;> omega))
  have lp47' : ∀ (most least p i : Int) , -1 ≤ a → -1 ≤ most → most ≤ 8 → 0 ≤ i → p ≤ a + 1 + i → a + 1 ≤ p → (i ≤ 8) → am_AW l 0 (fun _ => 0) 52 Q 47 [some (.inr (.inr 35)), some (.inl a), some (.inl most), some (.inl least), some (.inl p), some (.inl i)] [] μ := fun most least p i  hv0 hv1 hv2 hv3 hv4 hv5 hv6 => lp47 ((9 - i) + 1).toNat most least p i  hv0 hv1 hv2 hv3 hv4 hv5 hv6 (by omega)
  refine am_go (ct := fun pc => Nat.beq pc 71 || Nat.beq pc 47) am_oX5_behind 300 ?_
  conv => whnf
  repeat' first
    | (refine (?_ : am_wp _ _ _ _ _ _ _ _ _ _ _ _); conv => whnf)
    | (refine (?_ : am_sw _ _ _ _); conv => whnf)
    | refine And.intro trivial ?_
    | exact trivial
    | assumption
    | refine k _ ?_ ?_
    | refine sx_up ?_ rfl
    | refine w_at_X3_44 (ν := ν) _ ?_  (fun _ => ?_)
    | refine w_at_X3_46 (ν := ν) _ ?_  (fun _ => ?_)
    | refine w_at_X3_48 (ν := ν) _ ?_  (fun _ => ?_)
    | refine w_at_X3_50 (ν := ν) _ ?_  (fun _ => ?_)
    | refine w_at_X3_53 (ν := ν) _ ?_  (fun _ => ?_)
    | refine w_at_X3_55 (ν := ν) _ ?_  (fun _ => ?_)
    | refine w_at_X3_58 (ν := ν) _ ?_  (fun _ => ?_)
    | refine w_at_X3_60 (ν := ν) _ ?_  (fun _ => ?_)
    | refine w_at36 (ν := ν) _ ?_ (fun _ _ _ => ?_) ?_
    | refine w_mostDigits_X5 (ν := ν) _ ?_  (fun _ _ _ _ => ?_)
    | refine w_digit_X5 (ν := ν) _ ?_  (fun _ => ?_)
    | refine lp47' _ _ _ _  ?_ ?_ ?_ ?_ ?_ ?_ ?_
    | refine lp71 _ _ _ _  ?_ ?_ ?_
    | refine And.intro (fun h => absurd h (by decide)) (fun _ => ?_)
    | refine And.intro (fun _ => ?_) (fun h => absurd (by decide) h)
    | refine And.intro (fun _ => ?_) (fun _ => ?_)
    | refine And.intro ?_ ?_
  all_goals (first | assumption | decide | omega | (intros; omega) | (intros; simp only [am_c] at * <;> omega) | (simp only [am_c, am_up] at * <;> omega) | (simp [am_c, am_up] at * <;> omega))
theorem w_wayComes_X5 {l : Launch} {μ : am_N} {Q : Option am_V → am_N → Prop} {ν : am_N} (a : Int) (hS : sx ν μ) (ha0 : 0 ≤ a) (ha1 : a < 96) (k : ∀ r μ', sx ν μ' → (r = 0 ∨ r = 1) → Q (some (.inl r)) μ') : am_Does l 57 [.inr (.inr 35), .inr (.inr 8), .inl a] μ Q := by
  refine am_Does_of (Nat.le_of_ble_eq_true rfl) (Nat.le_of_ble_eq_true rfl) (Nat.le_of_ble_eq_true rfl) ?_
  have hb := sx_all hS
  have lp7 : ∀ (m : Nat) (v p : Int) (μ : am_N) , sx ν μ → a + 1 ≤ p → p ≤ a + 4 → a + 4 - p < (m : Int) → am_AW l 0 (fun _ => 0) 57 Q 7 [some (.inr (.inr 35)), some (.inr (.inr 8)), some (.inl a), some (.inl v), some (.inl p)] [] μ := by
    intro m
    induction m with
    | zero =>
      intro v p μ hv0 hv1 hv2 hm
      have hb := sx_all hv0
      exfalso
      omega
    | succ m ih =>
      intro v p μ hv0 hv1 hv2 hm
      have hb := sx_all hv0
      refine am_go (ct := fun pc => Nat.beq pc 7) am_oX5_wayComes 300 ?_
      conv => whnf
      repeat' first
        | (refine (?_ : am_wp _ _ _ _ _ _ _ _ _ _ _ _); conv => whnf)
        | (refine (?_ : am_sw _ _ _ _); conv => whnf)
        | refine And.intro trivial ?_
        | exact trivial
        | assumption
        | refine k _ _ ?_ ?_
        | refine sx_up ?_ rfl
        | refine w_digit_X5 (ν := ν) _ ?_  (fun _ => ?_)
        | refine ih _ _ _ ?_ ?_ ?_ ?_
        | refine And.intro (fun h => absurd h (by decide)) (fun _ => ?_)
        | refine And.intro (fun _ => ?_) (fun h => absurd (by decide) h)
        | refine And.intro (fun _ => ?_) (fun _ => ?_)
        | refine And.intro ?_ ?_
      all_goals (first | assumption | decide | omega | (intros; omega) | (intros; simp only [am_c] at * <;> omega) | (simp only [am_c, am_up] at * <;> omega) | (simp [am_c, am_up] at * <;> omega))
  have lp7' : ∀ (v p : Int) (μ : am_N) , sx ν μ → a + 1 ≤ p → p ≤ a + 4 → am_AW l 0 (fun _ => 0) 57 Q 7 [some (.inr (.inr 35)), some (.inr (.inr 8)), some (.inl a), some (.inl v), some (.inl p)] [] μ := fun v p μ hv0 hv1 hv2 => lp7 ((a + 4 - p) + 1).toNat v p μ hv0 hv1 hv2 (by omega)
  refine am_go (ct := fun pc => Nat.beq pc 7) am_oX5_wayComes 300 ?_
  conv => whnf
  repeat' first
    | (refine (?_ : am_wp _ _ _ _ _ _ _ _ _ _ _ _); conv => whnf)
    | (refine (?_ : am_sw _ _ _ _); conv => whnf)
    | refine And.intro trivial ?_
    | exact trivial
    | assumption
    | refine k _ _ ?_ ?_
    | refine sx_up ?_ rfl
    | refine w_digit_X5 (ν := ν) _ ?_  (fun _ => ?_)
    | refine lp7' _ _ _ ?_ ?_ ?_
    | refine And.intro (fun h => absurd h (by decide)) (fun _ => ?_)
    | refine And.intro (fun _ => ?_) (fun h => absurd (by decide) h)
    | refine And.intro (fun _ => ?_) (fun _ => ?_)
    | refine And.intro ?_ ?_
  all_goals (first | assumption | decide | omega | (intros; omega) | (intros; simp only [am_c] at * <;> omega) | (simp only [am_c, am_up] at * <;> omega) | (simp [am_c, am_up] at * <;> omega))
theorem w_runnerComes_X5 {l : Launch} {μ : am_N} {Q : Option am_V → am_N → Prop} {ν : am_N} (a : Int) (hS : sx ν μ)  (k : ∀ r μ', sx ν μ' → (r = 0 ∨ r = 1) → Q (some (.inl r)) μ') : am_Does l 58 [.inr (.inr 35), .inr (.inr 8), .inl a] μ Q := by
  refine am_Does_of (Nat.le_of_ble_eq_true rfl) (Nat.le_of_ble_eq_true rfl) (Nat.le_of_ble_eq_true rfl) ?_
  have hb := sx_all hS
  refine am_go (ct := fun _ => false) am_oX5_runnerComes 300 ?_
  conv => whnf
  repeat' first
    | (refine (?_ : am_wp _ _ _ _ _ _ _ _ _ _ _ _); conv => whnf)
    | (refine (?_ : am_sw _ _ _ _); conv => whnf)
    | refine And.intro trivial ?_
    | exact trivial
    | assumption
    | refine k _ _ ?_ ?_
    | refine sx_c8 ?_ ?_
    | refine sx_up ?_ rfl
    | refine w_digit_X5 (ν := ν) _ ?_  (fun _ => ?_)
    | refine w_two_X5 (ν := ν) _ ?_  (fun _ => ?_)
    | refine And.intro (fun h => absurd h (by decide)) (fun _ => ?_)
    | refine And.intro (fun _ => ?_) (fun h => absurd (by decide) h)
    | refine And.intro (fun _ => ?_) (fun _ => ?_)
    | refine And.intro ?_ ?_
  all_goals (first | assumption | decide | omega | (intros; omega) | (intros; simp only [am_c] at * <;> omega) | (simp only [am_c, am_up] at * <;> omega) | (simp [am_c, am_up] at * <;> omega))
theorem w_ruleComes_X5 {l : Launch} {μ : am_N} {Q : Option am_V → am_N → Prop} {ν : am_N} (a : Int) (hS : sx ν μ)  (k : ∀ r μ', sx ν μ' → (r = 0 ∨ r = 1) → Q (some (.inl r)) μ') : am_Does l 59 [.inr (.inr 35), .inr (.inr 8), .inl a] μ Q := by
  refine am_Does_of (Nat.le_of_ble_eq_true rfl) (Nat.le_of_ble_eq_true rfl) (Nat.le_of_ble_eq_true rfl) ?_
  have hb := sx_all hS
  refine am_go (ct := fun _ => false) am_oX5_ruleComes 300 ?_
  conv => whnf
  repeat' first
    | (refine (?_ : am_wp _ _ _ _ _ _ _ _ _ _ _ _); conv => whnf)
    | (refine (?_ : am_sw _ _ _ _); conv => whnf)
    | refine And.intro trivial ?_
    | exact trivial
    | assumption
    | refine k _ _ ?_ ?_
    | refine sx_up ?_ rfl
    | refine w_digit_X5 (ν := ν) _ ?_  (fun _ => ?_)
    | refine And.intro (fun h => absurd h (by decide)) (fun _ => ?_)
    | refine And.intro (fun _ => ?_) (fun h => absurd (by decide) h)
    | refine And.intro (fun _ => ?_) (fun _ => ?_)
    | refine And.intro ?_ ?_
  all_goals (first | assumption | decide | omega | (intros; omega) | (intros; simp only [am_c] at * <;> omega) | (simp only [am_c, am_up] at * <;> omega) | (simp [am_c, am_up] at * <;> omega))
theorem w_startComes_X5 {l : Launch} {μ : am_N} {Q : Option am_V → am_N → Prop} {ν : am_N} (a : Int) (hS : sx ν μ)  (k : ∀ r μ', sx ν μ' → (r = 0 ∨ r = 1) → Q (some (.inl r)) μ') : am_Does l 60 [.inr (.inr 35), .inr (.inr 8), .inl a] μ Q := by
  refine am_Does_of (Nat.le_of_ble_eq_true rfl) (Nat.le_of_ble_eq_true rfl) (Nat.le_of_ble_eq_true rfl) ?_
  have hb := sx_all hS
  refine am_go (ct := fun _ => false) am_oX5_startComes 300 ?_
  conv => whnf
  repeat' first
    | (refine (?_ : am_wp _ _ _ _ _ _ _ _ _ _ _ _); conv => whnf)
    | (refine (?_ : am_sw _ _ _ _); conv => whnf)
    | refine And.intro trivial ?_
    | exact trivial
    | assumption
    | refine k _ _ ?_ ?_
    | refine sx_up ?_ rfl
    | refine w_digit_X5 (ν := ν) _ ?_  (fun _ => ?_)
    | refine w_has_X0_1 (ν := ν) _ ?_ (fun _ _ _ => ?_) (fun _ => ?_)
    | refine w_has_X0_8 (ν := ν) _ ?_ (fun _ _ _ => ?_) (fun _ => ?_)
    | refine w_has_X0_15 (ν := ν) _ ?_ (fun _ _ _ => ?_) (fun _ => ?_)
    | refine w_two_X5 (ν := ν) _ ?_  (fun _ => ?_)
    | refine And.intro (fun h => absurd h (by decide)) (fun _ => ?_)
    | refine And.intro (fun _ => ?_) (fun h => absurd (by decide) h)
    | refine And.intro (fun _ => ?_) (fun _ => ?_)
    | refine And.intro ?_ ?_
  all_goals (first | assumption | decide | omega | (intros; omega) | (intros; simp only [am_c] at * <;> omega) | (simp only [am_c, am_up] at * <;> omega) | (simp [am_c, am_up] at * <;> omega))
theorem w_comes_X5 {l : Launch} {μ : am_N} {Q : Option am_V → am_N → Prop} {ν : am_N} (a : Int) (hS : sx ν μ) (ha0 : -110 ≤ a) (ha1 : a < 96) (k : ∀ r μ', sx ν μ' → Q (some (.inl r)) μ') : am_Does l 56 [.inr (.inr 35), .inr (.inr 8), .inl a] μ Q := by
  refine am_Does_of (Nat.le_of_ble_eq_true rfl) (Nat.le_of_ble_eq_true rfl) (Nat.le_of_ble_eq_true rfl) ?_
  have hb := sx_all hS
  refine am_go (ct := fun _ => false) am_oX5_comes 300 ?_
  conv => whnf
  repeat' first
    | (refine (?_ : am_wp _ _ _ _ _ _ _ _ _ _ _ _); conv => whnf)
    | (refine (?_ : am_sw _ _ _ _); conv => whnf)
    | refine And.intro trivial ?_
    | exact trivial
    | assumption
    | refine k _ _ ?_
    | refine sx_up ?_ rfl
    | refine w_at_X3_44 (ν := ν) _ ?_  (fun _ => ?_)
    | refine w_at_X3_46 (ν := ν) _ ?_  (fun _ => ?_)
    | refine w_at_X3_48 (ν := ν) _ ?_  (fun _ => ?_)
    | refine w_at_X3_50 (ν := ν) _ ?_  (fun _ => ?_)
    | refine w_at_X3_53 (ν := ν) _ ?_  (fun _ => ?_)
    | refine w_at_X3_55 (ν := ν) _ ?_  (fun _ => ?_)
    | refine w_at_X3_58 (ν := ν) _ ?_  (fun _ => ?_)
    | refine w_at_X3_60 (ν := ν) _ ?_  (fun _ => ?_)
    | refine w_at36 (ν := ν) _ ?_ (fun _ _ _ => ?_) ?_
    | refine w_wayComes_X5 (ν := ν) _ ?_ ?_ ?_ (fun _ _ _ _ => ?_)
    | refine w_runnerComes_X5 (ν := ν) _ ?_  (fun _ _ _ _ => ?_)
    | refine w_ruleComes_X5 (ν := ν) _ ?_  (fun _ _ _ _ => ?_)
    | refine w_startComes_X5 (ν := ν) _ ?_  (fun _ _ _ _ => ?_)
    | refine w_goOn_X2_38_8 (ν := ν)  ?_  (fun _ _ _ => ?_)
    | refine w_goOn_X2_29_8 (ν := ν)  ?_  (fun _ _ _ => ?_)
    | refine And.intro (fun h => absurd h (by decide)) (fun _ => ?_)
    | refine And.intro (fun _ => ?_) (fun h => absurd (by decide) h)
    | refine And.intro (fun _ => ?_) (fun _ => ?_)
    | refine And.intro ?_ ?_
  all_goals (first | assumption | decide | omega | (intros; omega) | (intros; simp only [am_c] at * <;> omega) | (simp only [am_c, am_up] at * <;> omega) | (simp [am_c, am_up] at * <;> omega))
theorem w_firstFault_X5 {l : Launch} {μ : am_N} {Q : Option am_V → am_N → Prop} {ν : am_N}  (hS : sx ν μ)  (k : ∀ r, Q (some (.inl r)) μ) : am_Does l 51 [.inr (.inr 35)] μ Q := by
  refine am_Does_of (Nat.le_of_ble_eq_true rfl) (Nat.le_of_ble_eq_true rfl) (Nat.le_of_ble_eq_true rfl) ?_
  have hb := sx_all hS
  have lp16 : ∀ (m : Nat) (a i : Int) (o3 : Option am_V) , -110 ≤ a → a ≤ 110 → 0 ≤ i → i ≤ 96 → 97 - i < (m : Int) → am_AW l 0 (fun _ => 0) 51 Q 16 [some (.inr (.inr 35)), some (.inl a), some (.inl i), o3] [] μ := by
    intro m
    induction m with
    | zero =>
      intro a i o3  hv0 hv1 hv2 hv3 hm
      exfalso
      omega
    | succ m ih =>
      intro a i o3  hv0 hv1 hv2 hv3 hm
      refine am_go (ct := fun pc => Nat.beq pc 16) am_oX5_firstFault 300 ?_
      conv => whnf
      repeat' first
        | (refine (?_ : am_wp _ _ _ _ _ _ _ _ _ _ _ _); conv => whnf)
        | (refine (?_ : am_sw _ _ _ _); conv => whnf)
        | refine And.intro trivial ?_
        | exact trivial
        | assumption
        | exact k _
        | refine sx_up ?_ rfl
        | refine w_behind_X5 (ν := ν) _ ?_ ?_ ?_ (fun _ _ _ => ?_)
        | refine ih _ _ _  ?_ ?_ ?_ ?_ ?_
        | refine And.intro (fun h => absurd h (by decide)) (fun _ => ?_)
        | refine And.intro (fun _ => ?_) (fun h => absurd (by decide) h)
        | refine And.intro (fun _ => ?_) (fun _ => ?_)
        | refine And.intro ?_ ?_
      all_goals (first | assumption | decide | omega | (intros; omega) | (intros; simp only [am_c] at * <;> omega) | (simp only [am_c, am_up] at * <;> omega) | (simp [am_c, am_up] at * <;> omega))
  have lp16' : ∀ (a i : Int) (o3 : Option am_V) , -110 ≤ a → a ≤ 110 → 0 ≤ i → i ≤ 96 → am_AW l 0 (fun _ => 0) 51 Q 16 [some (.inr (.inr 35)), some (.inl a), some (.inl i), o3] [] μ := fun a i o3  hv0 hv1 hv2 hv3 => lp16 ((97 - i) + 1).toNat a i o3  hv0 hv1 hv2 hv3 (by omega)
  refine am_go (ct := fun pc => Nat.beq pc 16) am_oX5_firstFault 300 ?_
  conv => whnf
  repeat' first
    | (refine (?_ : am_wp _ _ _ _ _ _ _ _ _ _ _ _); conv => whnf)
    | (refine (?_ : am_sw _ _ _ _); conv => whnf)
    | refine And.intro trivial ?_
    | exact trivial
    | assumption
    | exact k _
    | refine sx_up ?_ rfl
    | refine w_behind_X5 (ν := ν) _ ?_ ?_ ?_ (fun _ _ _ => ?_)
    | refine lp16' _ _ _  ?_ ?_ ?_ ?_
    | refine And.intro (fun h => absurd h (by decide)) (fun _ => ?_)
    | refine And.intro (fun _ => ?_) (fun h => absurd (by decide) h)
    | refine And.intro (fun _ => ?_) (fun _ => ?_)
    | refine And.intro ?_ ?_
  all_goals (first | assumption | decide | omega | (intros; omega) | (intros; simp only [am_c] at * <;> omega) | (simp only [am_c, am_up] at * <;> omega) | (simp [am_c, am_up] at * <;> omega))
theorem w_tell_X5 {l : Launch} {μ : am_N} {Q : Option am_V → am_N → Prop} {ν : am_N}  (hS : sx ν μ)  (k : ∀ r μ', sx ν μ' → Q (some (.inl r)) μ') : am_Does l 50 [.inr (.inr 35), .inr (.inr 8)] μ Q := by
  refine am_Does_of (Nat.le_of_ble_eq_true rfl) (Nat.le_of_ble_eq_true rfl) (Nat.le_of_ble_eq_true rfl) ?_
  have hb := sx_all hS
  have lp23 : ∀ (m : Nat) (f a q i : Int) (μ : am_N) , sx ν μ → -110 ≤ a → a ≤ 110 → 0 ≤ i → i ≤ 96 → 97 - i < (m : Int) → am_AW l 0 (fun _ => 0) 50 Q 23 [some (.inr (.inr 35)), some (.inr (.inr 8)), some (.inl f), some (.inl a), some (.inl q), some (.inl i)] [] μ := by
    intro m
    induction m with
    | zero =>
      intro f a q i μ hv0 hv1 hv2 hv3 hv4 hm
      have hb := sx_all hv0
      exfalso
      omega
    | succ m ih =>
      intro f a q i μ hv0 hv1 hv2 hv3 hv4 hm
      have hb := sx_all hv0
      refine am_go (ct := fun pc => Nat.beq pc 23) am_oX5_tell 300 ?_
      conv => whnf
      repeat' first
        | (refine (?_ : am_wp _ _ _ _ _ _ _ _ _ _ _ _); conv => whnf)
        | (refine (?_ : am_sw _ _ _ _); conv => whnf)
        | refine And.intro trivial ?_
        | exact trivial
        | assumption
        | refine k _ _ ?_
        | refine sx_up ?_ rfl
        | refine w_firstFault_X5 (ν := ν)  ?_  (fun _ => ?_)
        | refine w_comes_X5 (ν := ν) _ ?_ ?_ ?_ (fun _ _ _ => ?_)
        | refine w_behind_X5 (ν := ν) _ ?_ ?_ ?_ (fun _ _ _ => ?_)
        | refine ih _ _ _ _ _ ?_ ?_ ?_ ?_ ?_ ?_
        | refine And.intro (fun h => absurd h (by decide)) (fun _ => ?_)
        | refine And.intro (fun _ => ?_) (fun h => absurd (by decide) h)
        | refine And.intro (fun _ => ?_) (fun _ => ?_)
        | refine And.intro ?_ ?_
      all_goals (first | assumption | decide | omega | (intros; omega) | (intros; simp only [am_c] at * <;> omega) | (simp only [am_c, am_up] at * <;> omega) | (simp [am_c, am_up] at * <;> omega))
  have lp23' : ∀ (f a q i : Int) (μ : am_N) , sx ν μ → -110 ≤ a → a ≤ 110 → 0 ≤ i → i ≤ 96 → am_AW l 0 (fun _ => 0) 50 Q 23 [some (.inr (.inr 35)), some (.inr (.inr 8)), some (.inl f), some (.inl a), some (.inl q), some (.inl i)] [] μ := fun f a q i μ hv0 hv1 hv2 hv3 hv4 => lp23 ((97 - i) + 1).toNat f a q i μ hv0 hv1 hv2 hv3 hv4 (by omega)
  refine am_go (ct := fun pc => Nat.beq pc 23) am_oX5_tell 300 ?_
  conv => whnf
  repeat' first
    | (refine (?_ : am_wp _ _ _ _ _ _ _ _ _ _ _ _); conv => whnf)
    | (refine (?_ : am_sw _ _ _ _); conv => whnf)
    | refine And.intro trivial ?_
    | exact trivial
    | assumption
    | refine k _ _ ?_
    | refine sx_up ?_ rfl
    | refine w_firstFault_X5 (ν := ν)  ?_  (fun _ => ?_)
    | refine w_comes_X5 (ν := ν) _ ?_ ?_ ?_ (fun _ _ _ => ?_)
    | refine w_behind_X5 (ν := ν) _ ?_ ?_ ?_ (fun _ _ _ => ?_)
    | refine lp23' _ _ _ _ _ ?_ ?_ ?_ ?_ ?_
    | refine And.intro (fun h => absurd h (by decide)) (fun _ => ?_)
    | refine And.intro (fun _ => ?_) (fun h => absurd (by decide) h)
    | refine And.intro (fun _ => ?_) (fun _ => ?_)
    | refine And.intro ?_ ?_
  all_goals (first | assumption | decide | omega | (intros; omega) | (intros; simp only [am_c] at * <;> omega) | (simp only [am_c, am_up] at * <;> omega) | (simp [am_c, am_up] at * <;> omega))
