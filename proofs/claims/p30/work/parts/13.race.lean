theorem w_first_X2_29 {l : Launch} {μ : am_N} {Q : Option am_V → am_N → Prop} {ν : am_N}  (hS : sx ν μ)  (k : ∀ r, Q (some (.inl r)) μ) : am_Does l 37 [.inr (.inr 29)] μ Q := by
  refine am_Does_of (Nat.le_of_ble_eq_true rfl) (Nat.le_of_ble_eq_true rfl) (Nat.le_of_ble_eq_true rfl) ?_
  have hb := sx_all hS
  refine am_go (ct := fun _ => false) am_oX2_first 300 ?_
  conv => whnf
  repeat' first
    | (refine (?_ : am_wp _ _ _ _ _ _ _ _ _ _ _ _); conv => whnf)
    | (refine (?_ : am_sw _ _ _ _); conv => whnf)
    | refine And.intro trivial ?_
    | exact trivial
    | (with_reducible assumption)
    | ((with_reducible refine (?_ : _ ∧ _)); first | (with_reducible first | refine am_jn am_q1 ?_ | refine am_jn am_q2 ?_ | refine am_jn am_q3 ?_ | refine am_jn am_q4 ?_ | refine am_jn am_q6 ?_ | refine am_jn am_q9 ?_ | refine am_jn am_p1 ?_ | refine am_jy am_p0 ?_ | refine am_kn am_q1 ?_ | refine am_kn am_q2 ?_ | refine am_kn am_q3 ?_ | refine am_kn am_q4 ?_ | refine am_kn am_q6 ?_ | refine am_kn am_q9 ?_ | refine am_kn am_p1 ?_ | refine am_ky am_p0 ?_) | refine And.intro (fun h => absurd h (by decide)) (fun _ => ?_) | refine And.intro (fun _ => ?_) (fun h => absurd (by decide) h) | refine And.intro (fun _ => ?_) (fun _ => ?_) | refine And.intro ?_ ?_)
    | exact k _
    | refine sx_up ?_ rfl
    | refine And.intro (fun h => absurd h (by decide)) (fun _ => ?_)
    | refine And.intro (fun _ => ?_) (fun h => absurd (by decide) h)
    | refine And.intro (fun _ => ?_) (fun _ => ?_)
    | refine And.intro ?_ ?_
  all_goals (first | (with_reducible assumption) | omega | assumption | (simp only [am_c, am_up] at *; omega) | (simp [am_c, am_up] at *; omega))
theorem w_last_X2_29 {l : Launch} {μ : am_N} {Q : Option am_V → am_N → Prop} {ν : am_N}  (hS : sx ν μ)  (k : ∀ r, Q (some (.inl r)) μ) : am_Does l 38 [.inr (.inr 29)] μ Q := by
  refine am_Does_of (Nat.le_of_ble_eq_true rfl) (Nat.le_of_ble_eq_true rfl) (Nat.le_of_ble_eq_true rfl) ?_
  have hb := sx_all hS
  refine am_go (ct := fun _ => false) am_oX2_last 300 ?_
  conv => whnf
  repeat' first
    | (refine (?_ : am_wp _ _ _ _ _ _ _ _ _ _ _ _); conv => whnf)
    | (refine (?_ : am_sw _ _ _ _); conv => whnf)
    | refine And.intro trivial ?_
    | exact trivial
    | (with_reducible assumption)
    | ((with_reducible refine (?_ : _ ∧ _)); first | (with_reducible first | refine am_jn am_q1 ?_ | refine am_jn am_q2 ?_ | refine am_jn am_q3 ?_ | refine am_jn am_q4 ?_ | refine am_jn am_q6 ?_ | refine am_jn am_q9 ?_ | refine am_jn am_p1 ?_ | refine am_jy am_p0 ?_ | refine am_kn am_q1 ?_ | refine am_kn am_q2 ?_ | refine am_kn am_q3 ?_ | refine am_kn am_q4 ?_ | refine am_kn am_q6 ?_ | refine am_kn am_q9 ?_ | refine am_kn am_p1 ?_ | refine am_ky am_p0 ?_) | refine And.intro (fun h => absurd h (by decide)) (fun _ => ?_) | refine And.intro (fun _ => ?_) (fun h => absurd (by decide) h) | refine And.intro (fun _ => ?_) (fun _ => ?_) | refine And.intro ?_ ?_)
    | exact k _
    | refine sx_up ?_ rfl
    | refine And.intro (fun h => absurd h (by decide)) (fun _ => ?_)
    | refine And.intro (fun _ => ?_) (fun h => absurd (by decide) h)
    | refine And.intro (fun _ => ?_) (fun _ => ?_)
    | refine And.intro ?_ ?_
  all_goals (first | (with_reducible assumption) | omega | assumption | (simp only [am_c, am_up] at *; omega) | (simp [am_c, am_up] at *; omega))
theorem w_line_X2_29 {l : Launch} {μ : am_N} {Q : Option am_V → am_N → Prop} {ν : am_N}  (hS : sx ν μ)  (k : ∀ μ', sx ν μ' → Q none μ') : am_Does l 36 [.inr (.inr 29)] μ Q := by
  refine am_Does_of (Nat.le_of_ble_eq_true rfl) (Nat.le_of_ble_eq_true rfl) (Nat.le_of_ble_eq_true rfl) ?_
  have hb := sx_all hS
  have lp14 : ∀ (m : Nat) (i p j : Int) (μ : am_N) , sx ν μ → 0 ≤ i → i < μ 29 0 → 0 ≤ p → p ≤ j → 0 ≤ j → j ≤ μ 29 0 → (i < j → p ≤ j - 1) → (∀ (o2 o3 : Option am_V) (μ : am_N), sx ν μ → i + 1 ≤ μ 29 0 → am_AW l 0 (fun _ => 0) 36 Q 2 [some (.inr (.inr 29)), some (.inl (i + 1)), o2, o3] [] μ) → 4 - j < (m : Int) → am_AW l 0 (fun _ => 0) 36 Q 14 [some (.inr (.inr 29)), some (.inl i), some (.inl p), some (.inl j)] [] μ := by
    intro m
    induction m with
    | zero =>
      intro i p j μ hv0 hv1 hv2 hv3 hv4 hv5 hv6 hv7 hv8 hm
      have hb := sx_all hv0
      exfalso
      omega
    | succ m ih =>
      intro i p j μ hv0 hv1 hv2 hv3 hv4 hv5 hv6 hv7 hv8 hm
      have hb := sx_all hv0
      by_cases hij : j = i
      · subst hij
        refine am_go (ct := fun pc => Nat.beq pc 14 || Nat.beq pc 2) am_oX2_line 300 ?_
        conv => whnf
        repeat' first
          | (refine (?_ : am_wp _ _ _ _ _ _ _ _ _ _ _ _); conv => whnf)
          | (refine (?_ : am_sw _ _ _ _); conv => whnf)
          | refine And.intro trivial ?_
          | exact trivial
          | (with_reducible assumption)
          | exact hv8
          | ((with_reducible refine (?_ : _ ∧ _)); first | (with_reducible first | refine am_jn am_q1 ?_ | refine am_jn am_q2 ?_ | refine am_jn am_q3 ?_ | refine am_jn am_q4 ?_ | refine am_jn am_q6 ?_ | refine am_jn am_q9 ?_ | refine am_jn am_p1 ?_ | refine am_jy am_p0 ?_ | refine am_kn am_q1 ?_ | refine am_kn am_q2 ?_ | refine am_kn am_q3 ?_ | refine am_kn am_q4 ?_ | refine am_kn am_q6 ?_ | refine am_kn am_q9 ?_ | refine am_kn am_p1 ?_ | refine am_ky am_p0 ?_) | refine And.intro (fun h => absurd h (by decide)) (fun _ => ?_) | refine And.intro (fun _ => ?_) (fun h => absurd (by decide) h) | refine And.intro (fun _ => ?_) (fun _ => ?_) | refine And.intro ?_ ?_)
          | ((with_reducible refine (?_ : am_AW _ _ _ _ _ 14 _ _ _)); refine ih _ _ _ _ ?_ ?_ ?_ ?_ ?_ ?_ ?_ ?_ ?_ ?_)
          | refine And.intro (fun h => absurd h (by decide)) (fun _ => ?_)
          | refine And.intro (fun _ => ?_) (fun h => absurd (by decide) h)
          | refine And.intro (fun _ => ?_) (fun _ => ?_)
          | refine And.intro ?_ ?_
        all_goals (first | (with_reducible assumption) | omega | assumption | (simp only [am_c, am_up] at *; omega) | (simp [am_c, am_up] at *; omega))
      refine am_go (ct := fun pc => Nat.beq pc 14 || Nat.beq pc 2) am_oX2_line 300 ?_
      conv => whnf
      repeat' first
        | (refine (?_ : am_wp _ _ _ _ _ _ _ _ _ _ _ _); conv => whnf)
        | (refine (?_ : am_sw _ _ _ _); conv => whnf)
        | refine And.intro trivial ?_
        | exact trivial
        | (with_reducible assumption)
        | refine hv8 _ _ _ ?_ ?_
        | refine sx_34 ?_ ?_ ?_
        | ((with_reducible refine (?_ : _ ∧ _)); first | (with_reducible first | refine am_jn am_q1 ?_ | refine am_jn am_q2 ?_ | refine am_jn am_q3 ?_ | refine am_jn am_q4 ?_ | refine am_jn am_q6 ?_ | refine am_jn am_q9 ?_ | refine am_jn am_p1 ?_ | refine am_jy am_p0 ?_ | refine am_kn am_q1 ?_ | refine am_kn am_q2 ?_ | refine am_kn am_q3 ?_ | refine am_kn am_q4 ?_ | refine am_kn am_q6 ?_ | refine am_kn am_q9 ?_ | refine am_kn am_p1 ?_ | refine am_ky am_p0 ?_) | refine And.intro (fun h => absurd h (by decide)) (fun _ => ?_) | refine And.intro (fun _ => ?_) (fun h => absurd (by decide) h) | refine And.intro (fun _ => ?_) (fun _ => ?_) | refine And.intro ?_ ?_)
        | refine k _ ?_
        | refine sx_up ?_ rfl
        | ((with_reducible refine (?_ : am_AW _ _ _ _ _ 14 _ _ _)); refine ih _ _ _ _ ?_ ?_ ?_ ?_ ?_ ?_ ?_ ?_ ?_ ?_)
        | refine And.intro (fun h => absurd h (by decide)) (fun _ => ?_)
        | refine And.intro (fun _ => ?_) (fun h => absurd (by decide) h)
        | refine And.intro (fun _ => ?_) (fun _ => ?_)
        | refine And.intro ?_ ?_
      all_goals (first | (with_reducible assumption) | omega | assumption | (simp only [am_c, am_up] at *; omega) | (simp [am_c, am_up] at *; omega))
  have lp14' : ∀ (i p j : Int) (μ : am_N) , sx ν μ → 0 ≤ i → i < μ 29 0 → 0 ≤ p → p ≤ j → 0 ≤ j → j ≤ μ 29 0 → (i < j → p ≤ j - 1) → (∀ (o2 o3 : Option am_V) (μ : am_N), sx ν μ → i + 1 ≤ μ 29 0 → am_AW l 0 (fun _ => 0) 36 Q 2 [some (.inr (.inr 29)), some (.inl (i + 1)), o2, o3] [] μ) → am_AW l 0 (fun _ => 0) 36 Q 14 [some (.inr (.inr 29)), some (.inl i), some (.inl p), some (.inl j)] [] μ := fun i p j μ hv0 hv1 hv2 hv3 hv4 hv5 hv6 hv7 hv8 => lp14 ((4 - j) + 1).toNat i p j μ hv0 hv1 hv2 hv3 hv4 hv5 hv6 hv7 hv8 (by omega)
  have lp2 : ∀ (m : Nat) (i : Int) (o2 o3 : Option am_V) (μ : am_N) , sx ν μ → 0 ≤ i → i ≤ μ 29 0 → 4 - i < (m : Int) → am_AW l 0 (fun _ => 0) 36 Q 2 [some (.inr (.inr 29)), some (.inl i), o2, o3] [] μ := by
    intro m
    induction m with
    | zero =>
      intro i o2 o3 μ hv0 hv1 hv2 hm
      have hb := sx_all hv0
      exfalso
      omega
    | succ m ih =>
      intro i o2 o3 μ hv0 hv1 hv2 hm
      have hb := sx_all hv0
      refine am_go (ct := fun pc => Nat.beq pc 14 || Nat.beq pc 2) am_oX2_line 300 ?_
      conv => whnf
      repeat' first
        | (refine (?_ : am_wp _ _ _ _ _ _ _ _ _ _ _ _); conv => whnf)
        | (refine (?_ : am_sw _ _ _ _); conv => whnf)
        | refine And.intro trivial ?_
        | exact trivial
        | (with_reducible assumption)
        | (refine fun _ _ _ _ _ => ih _ _ _ _ ?_ ?_ ?_ ?_)
        | refine sx_34 ?_ ?_ ?_
        | ((with_reducible refine (?_ : _ ∧ _)); first | (with_reducible first | refine am_jn am_q1 ?_ | refine am_jn am_q2 ?_ | refine am_jn am_q3 ?_ | refine am_jn am_q4 ?_ | refine am_jn am_q6 ?_ | refine am_jn am_q9 ?_ | refine am_jn am_p1 ?_ | refine am_jy am_p0 ?_ | refine am_kn am_q1 ?_ | refine am_kn am_q2 ?_ | refine am_kn am_q3 ?_ | refine am_kn am_q4 ?_ | refine am_kn am_q6 ?_ | refine am_kn am_q9 ?_ | refine am_kn am_p1 ?_ | refine am_ky am_p0 ?_) | refine And.intro (fun h => absurd h (by decide)) (fun _ => ?_) | refine And.intro (fun _ => ?_) (fun h => absurd (by decide) h) | refine And.intro (fun _ => ?_) (fun _ => ?_) | refine And.intro ?_ ?_)
        | refine k _ ?_
        | refine sx_up ?_ rfl
        | ((with_reducible refine (?_ : am_AW _ _ _ _ _ 2 _ _ _)); refine ih _ _ _ _ ?_ ?_ ?_ ?_)
        | ((with_reducible refine (?_ : am_AW _ _ _ _ _ 14 _ _ _)); refine lp14' _ _ _ _ ?_ ?_ ?_ ?_ ?_ ?_ ?_ ?_ ?_)
        | refine And.intro (fun h => absurd h (by decide)) (fun _ => ?_)
        | refine And.intro (fun _ => ?_) (fun h => absurd (by decide) h)
        | refine And.intro (fun _ => ?_) (fun _ => ?_)
        | refine And.intro ?_ ?_
      all_goals (first | (with_reducible assumption) | omega | assumption | (simp only [am_c, am_up] at *; omega) | (simp [am_c, am_up] at *; omega))
  have lp2' : ∀ (i : Int) (o2 o3 : Option am_V) (μ : am_N) , sx ν μ → 0 ≤ i → i ≤ μ 29 0 → am_AW l 0 (fun _ => 0) 36 Q 2 [some (.inr (.inr 29)), some (.inl i), o2, o3] [] μ := fun i o2 o3 μ hv0 hv1 hv2 => lp2 ((4 - i) + 1).toNat i o2 o3 μ hv0 hv1 hv2 (by omega)
  refine am_go (ct := fun pc => Nat.beq pc 14 || Nat.beq pc 2) am_oX2_line 300 ?_
  conv => whnf
  repeat' first
    | (refine (?_ : am_wp _ _ _ _ _ _ _ _ _ _ _ _); conv => whnf)
    | (refine (?_ : am_sw _ _ _ _); conv => whnf)
    | refine And.intro trivial ?_
    | exact trivial
    | (with_reducible assumption)
    | refine sx_34 ?_ ?_ ?_
    | ((with_reducible refine (?_ : _ ∧ _)); first | (with_reducible first | refine am_jn am_q1 ?_ | refine am_jn am_q2 ?_ | refine am_jn am_q3 ?_ | refine am_jn am_q4 ?_ | refine am_jn am_q6 ?_ | refine am_jn am_q9 ?_ | refine am_jn am_p1 ?_ | refine am_jy am_p0 ?_ | refine am_kn am_q1 ?_ | refine am_kn am_q2 ?_ | refine am_kn am_q3 ?_ | refine am_kn am_q4 ?_ | refine am_kn am_q6 ?_ | refine am_kn am_q9 ?_ | refine am_kn am_p1 ?_ | refine am_ky am_p0 ?_) | refine And.intro (fun h => absurd h (by decide)) (fun _ => ?_) | refine And.intro (fun _ => ?_) (fun h => absurd (by decide) h) | refine And.intro (fun _ => ?_) (fun _ => ?_) | refine And.intro ?_ ?_)
    | refine k _ ?_
    | refine sx_up ?_ rfl
    | ((with_reducible refine (?_ : am_AW _ _ _ _ _ 2 _ _ _)); refine lp2' _ _ _ _ ?_ ?_ ?_)
    | ((with_reducible refine (?_ : am_AW _ _ _ _ _ 14 _ _ _)); refine lp14' _ _ _ _ ?_ ?_ ?_ ?_ ?_ ?_ ?_ ?_ ?_)
    | refine And.intro (fun h => absurd h (by decide)) (fun _ => ?_)
    | refine And.intro (fun _ => ?_) (fun h => absurd (by decide) h)
    | refine And.intro (fun _ => ?_) (fun _ => ?_)
    | refine And.intro ?_ ?_
  all_goals (first | (with_reducible assumption) | omega | assumption | (simp only [am_c, am_up] at *; omega) | (simp [am_c, am_up] at *; omega))
theorem w_asRule_X2_29_1 {l : Launch} {μ : am_N} {Q : Option am_V → am_N → Prop} {ν : am_N}  (hS : sx ν μ)  (k : ∀ μ', sx ν μ' → Q none μ') : am_Does l 33 [.inr (.inr 29), .inr (.inr 1)] μ Q := by
  refine am_Does_of (Nat.le_of_ble_eq_true rfl) (Nat.le_of_ble_eq_true rfl) (Nat.le_of_ble_eq_true rfl) ?_
  have hb := sx_all hS
  have lp10 : ∀ (m : Nat) (i : Int) (μ : am_N) , sx ν μ → 0 ≤ i → i ≤ 4 → 4 - i < (m : Int) → am_AW l 0 (fun _ => 0) 33 Q 10 [some (.inr (.inr 29)), some (.inr (.inr 1)), some (.inl i)] [] μ := by
    intro m
    induction m with
    | zero =>
      intro i μ hv0 hv1 hv2 hm
      have hb := sx_all hv0
      exfalso
      omega
    | succ m ih =>
      intro i μ hv0 hv1 hv2 hm
      have hb := sx_all hv0
      refine am_go (ct := fun pc => Nat.beq pc 10) am_oX2_asRule 300 ?_
      conv => whnf
      repeat' first
        | (refine (?_ : am_wp _ _ _ _ _ _ _ _ _ _ _ _); conv => whnf)
        | (refine (?_ : am_sw _ _ _ _); conv => whnf)
        | refine And.intro trivial ?_
        | exact trivial
        | (with_reducible assumption)
        | refine sx_c29 ?_ ?_
        | exact (sx_all (ν := ν) (by assumption)).1
        | ((with_reducible refine (?_ : _ ∧ _)); first | (with_reducible first | refine am_jn am_q1 ?_ | refine am_jn am_q2 ?_ | refine am_jn am_q3 ?_ | refine am_jn am_q4 ?_ | refine am_jn am_q6 ?_ | refine am_jn am_q9 ?_ | refine am_jn am_p1 ?_ | refine am_jy am_p0 ?_ | refine am_kn am_q1 ?_ | refine am_kn am_q2 ?_ | refine am_kn am_q3 ?_ | refine am_kn am_q4 ?_ | refine am_kn am_q6 ?_ | refine am_kn am_q9 ?_ | refine am_kn am_p1 ?_ | refine am_ky am_p0 ?_) | refine And.intro (fun h => absurd h (by decide)) (fun _ => ?_) | refine And.intro (fun _ => ?_) (fun h => absurd (by decide) h) | refine And.intro (fun _ => ?_) (fun _ => ?_) | refine And.intro ?_ ?_)
        | refine k _ ?_
        | refine sx_up ?_ rfl
        | ((with_reducible refine (?_ : am_Does _ 8 _ _ _)); first | ((with_reducible refine (?_ : am_Does _ 8 (Sum.inr (Sum.inr 1) :: _) _ _)); refine w_tenths_X0_1 (ν := ν) _ ?_  (fun _ => ?_)) | ((with_reducible refine (?_ : am_Does _ 8 (Sum.inr (Sum.inr 8) :: _) _ _)); refine w_tenths_X0_8 (ν := ν) _ ?_  (fun _ => ?_)) | ((with_reducible refine (?_ : am_Does _ 8 (Sum.inr (Sum.inr 15) :: _) _ _)); refine w_tenths_X0_15 (ν := ν) _ ?_  (fun _ => ?_)) | refine w_tenths_X0_1 (ν := ν) _ ?_  (fun _ => ?_) | refine w_tenths_X0_8 (ν := ν) _ ?_  (fun _ => ?_) | refine w_tenths_X0_15 (ν := ν) _ ?_  (fun _ => ?_))
        | ((with_reducible refine (?_ : am_Does _ 36 _ _ _)); refine w_line_X2_29 (ν := ν)  ?_  (fun _ _ => ?_))
        | ((with_reducible refine (?_ : am_AW _ _ _ _ _ 10 _ _ _)); refine ih _ _ ?_ ?_ ?_ ?_)
        | refine And.intro (fun h => absurd h (by decide)) (fun _ => ?_)
        | refine And.intro (fun _ => ?_) (fun h => absurd (by decide) h)
        | refine And.intro (fun _ => ?_) (fun _ => ?_)
        | refine And.intro ?_ ?_
      all_goals (first | (with_reducible assumption) | omega | assumption | (simp only [am_c, am_up] at *; omega) | (simp [am_c, am_up] at *; omega))
  have lp10' : ∀ (i : Int) (μ : am_N) , sx ν μ → 0 ≤ i → i ≤ 4 → am_AW l 0 (fun _ => 0) 33 Q 10 [some (.inr (.inr 29)), some (.inr (.inr 1)), some (.inl i)] [] μ := fun i μ hv0 hv1 hv2 => lp10 ((4 - i) + 1).toNat i μ hv0 hv1 hv2 (by omega)
  refine am_go (ct := fun pc => Nat.beq pc 10) am_oX2_asRule 300 ?_
  conv => whnf
  repeat' first
    | (refine (?_ : am_wp _ _ _ _ _ _ _ _ _ _ _ _); conv => whnf)
    | (refine (?_ : am_sw _ _ _ _); conv => whnf)
    | refine And.intro trivial ?_
    | exact trivial
    | (with_reducible assumption)
    | refine sx_c29 ?_ ?_
    | exact (sx_all (ν := ν) (by assumption)).1
    | ((with_reducible refine (?_ : _ ∧ _)); first | (with_reducible first | refine am_jn am_q1 ?_ | refine am_jn am_q2 ?_ | refine am_jn am_q3 ?_ | refine am_jn am_q4 ?_ | refine am_jn am_q6 ?_ | refine am_jn am_q9 ?_ | refine am_jn am_p1 ?_ | refine am_jy am_p0 ?_ | refine am_kn am_q1 ?_ | refine am_kn am_q2 ?_ | refine am_kn am_q3 ?_ | refine am_kn am_q4 ?_ | refine am_kn am_q6 ?_ | refine am_kn am_q9 ?_ | refine am_kn am_p1 ?_ | refine am_ky am_p0 ?_) | refine And.intro (fun h => absurd h (by decide)) (fun _ => ?_) | refine And.intro (fun _ => ?_) (fun h => absurd (by decide) h) | refine And.intro (fun _ => ?_) (fun _ => ?_) | refine And.intro ?_ ?_)
    | refine k _ ?_
    | refine sx_up ?_ rfl
    | ((with_reducible refine (?_ : am_Does _ 8 _ _ _)); first | ((with_reducible refine (?_ : am_Does _ 8 (Sum.inr (Sum.inr 1) :: _) _ _)); refine w_tenths_X0_1 (ν := ν) _ ?_  (fun _ => ?_)) | ((with_reducible refine (?_ : am_Does _ 8 (Sum.inr (Sum.inr 8) :: _) _ _)); refine w_tenths_X0_8 (ν := ν) _ ?_  (fun _ => ?_)) | ((with_reducible refine (?_ : am_Does _ 8 (Sum.inr (Sum.inr 15) :: _) _ _)); refine w_tenths_X0_15 (ν := ν) _ ?_  (fun _ => ?_)) | refine w_tenths_X0_1 (ν := ν) _ ?_  (fun _ => ?_) | refine w_tenths_X0_8 (ν := ν) _ ?_  (fun _ => ?_) | refine w_tenths_X0_15 (ν := ν) _ ?_  (fun _ => ?_))
    | ((with_reducible refine (?_ : am_Does _ 36 _ _ _)); refine w_line_X2_29 (ν := ν)  ?_  (fun _ _ => ?_))
    | ((with_reducible refine (?_ : am_AW _ _ _ _ _ 10 _ _ _)); refine lp10' _ _ ?_ ?_ ?_)
    | refine And.intro (fun h => absurd h (by decide)) (fun _ => ?_)
    | refine And.intro (fun _ => ?_) (fun h => absurd (by decide) h)
    | refine And.intro (fun _ => ?_) (fun _ => ?_)
    | refine And.intro ?_ ?_
  all_goals (first | (with_reducible assumption) | omega | assumption | (simp only [am_c, am_up] at *; omega) | (simp [am_c, am_up] at *; omega))
theorem w_asRule_X2_29_8 {l : Launch} {μ : am_N} {Q : Option am_V → am_N → Prop} {ν : am_N}  (hS : sx ν μ)  (k : ∀ μ', sx ν μ' → Q none μ') : am_Does l 33 [.inr (.inr 29), .inr (.inr 8)] μ Q := by
  refine am_Does_of (Nat.le_of_ble_eq_true rfl) (Nat.le_of_ble_eq_true rfl) (Nat.le_of_ble_eq_true rfl) ?_
  have hb := sx_all hS
  have lp10 : ∀ (m : Nat) (i : Int) (μ : am_N) , sx ν μ → 0 ≤ i → i ≤ 4 → 4 - i < (m : Int) → am_AW l 0 (fun _ => 0) 33 Q 10 [some (.inr (.inr 29)), some (.inr (.inr 8)), some (.inl i)] [] μ := by
    intro m
    induction m with
    | zero =>
      intro i μ hv0 hv1 hv2 hm
      have hb := sx_all hv0
      exfalso
      omega
    | succ m ih =>
      intro i μ hv0 hv1 hv2 hm
      have hb := sx_all hv0
      refine am_go (ct := fun pc => Nat.beq pc 10) am_oX2_asRule 300 ?_
      conv => whnf
      repeat' first
        | (refine (?_ : am_wp _ _ _ _ _ _ _ _ _ _ _ _); conv => whnf)
        | (refine (?_ : am_sw _ _ _ _); conv => whnf)
        | refine And.intro trivial ?_
        | exact trivial
        | (with_reducible assumption)
        | refine sx_c29 ?_ ?_
        | exact (sx_all (ν := ν) (by assumption)).2.1
        | ((with_reducible refine (?_ : _ ∧ _)); first | (with_reducible first | refine am_jn am_q1 ?_ | refine am_jn am_q2 ?_ | refine am_jn am_q3 ?_ | refine am_jn am_q4 ?_ | refine am_jn am_q6 ?_ | refine am_jn am_q9 ?_ | refine am_jn am_p1 ?_ | refine am_jy am_p0 ?_ | refine am_kn am_q1 ?_ | refine am_kn am_q2 ?_ | refine am_kn am_q3 ?_ | refine am_kn am_q4 ?_ | refine am_kn am_q6 ?_ | refine am_kn am_q9 ?_ | refine am_kn am_p1 ?_ | refine am_ky am_p0 ?_) | refine And.intro (fun h => absurd h (by decide)) (fun _ => ?_) | refine And.intro (fun _ => ?_) (fun h => absurd (by decide) h) | refine And.intro (fun _ => ?_) (fun _ => ?_) | refine And.intro ?_ ?_)
        | refine k _ ?_
        | refine sx_up ?_ rfl
        | ((with_reducible refine (?_ : am_Does _ 8 _ _ _)); first | ((with_reducible refine (?_ : am_Does _ 8 (Sum.inr (Sum.inr 1) :: _) _ _)); refine w_tenths_X0_1 (ν := ν) _ ?_  (fun _ => ?_)) | ((with_reducible refine (?_ : am_Does _ 8 (Sum.inr (Sum.inr 8) :: _) _ _)); refine w_tenths_X0_8 (ν := ν) _ ?_  (fun _ => ?_)) | ((with_reducible refine (?_ : am_Does _ 8 (Sum.inr (Sum.inr 15) :: _) _ _)); refine w_tenths_X0_15 (ν := ν) _ ?_  (fun _ => ?_)) | refine w_tenths_X0_1 (ν := ν) _ ?_  (fun _ => ?_) | refine w_tenths_X0_8 (ν := ν) _ ?_  (fun _ => ?_) | refine w_tenths_X0_15 (ν := ν) _ ?_  (fun _ => ?_))
        | ((with_reducible refine (?_ : am_Does _ 36 _ _ _)); refine w_line_X2_29 (ν := ν)  ?_  (fun _ _ => ?_))
        | ((with_reducible refine (?_ : am_AW _ _ _ _ _ 10 _ _ _)); refine ih _ _ ?_ ?_ ?_ ?_)
        | refine And.intro (fun h => absurd h (by decide)) (fun _ => ?_)
        | refine And.intro (fun _ => ?_) (fun h => absurd (by decide) h)
        | refine And.intro (fun _ => ?_) (fun _ => ?_)
        | refine And.intro ?_ ?_
      all_goals (first | (with_reducible assumption) | omega | assumption | (simp only [am_c, am_up] at *; omega) | (simp [am_c, am_up] at *; omega))
  have lp10' : ∀ (i : Int) (μ : am_N) , sx ν μ → 0 ≤ i → i ≤ 4 → am_AW l 0 (fun _ => 0) 33 Q 10 [some (.inr (.inr 29)), some (.inr (.inr 8)), some (.inl i)] [] μ := fun i μ hv0 hv1 hv2 => lp10 ((4 - i) + 1).toNat i μ hv0 hv1 hv2 (by omega)
  refine am_go (ct := fun pc => Nat.beq pc 10) am_oX2_asRule 300 ?_
  conv => whnf
  repeat' first
    | (refine (?_ : am_wp _ _ _ _ _ _ _ _ _ _ _ _); conv => whnf)
    | (refine (?_ : am_sw _ _ _ _); conv => whnf)
    | refine And.intro trivial ?_
    | exact trivial
    | (with_reducible assumption)
    | refine sx_c29 ?_ ?_
    | exact (sx_all (ν := ν) (by assumption)).2.1
    | ((with_reducible refine (?_ : _ ∧ _)); first | (with_reducible first | refine am_jn am_q1 ?_ | refine am_jn am_q2 ?_ | refine am_jn am_q3 ?_ | refine am_jn am_q4 ?_ | refine am_jn am_q6 ?_ | refine am_jn am_q9 ?_ | refine am_jn am_p1 ?_ | refine am_jy am_p0 ?_ | refine am_kn am_q1 ?_ | refine am_kn am_q2 ?_ | refine am_kn am_q3 ?_ | refine am_kn am_q4 ?_ | refine am_kn am_q6 ?_ | refine am_kn am_q9 ?_ | refine am_kn am_p1 ?_ | refine am_ky am_p0 ?_) | refine And.intro (fun h => absurd h (by decide)) (fun _ => ?_) | refine And.intro (fun _ => ?_) (fun h => absurd (by decide) h) | refine And.intro (fun _ => ?_) (fun _ => ?_) | refine And.intro ?_ ?_)
    | refine k _ ?_
    | refine sx_up ?_ rfl
    | ((with_reducible refine (?_ : am_Does _ 8 _ _ _)); first | ((with_reducible refine (?_ : am_Does _ 8 (Sum.inr (Sum.inr 1) :: _) _ _)); refine w_tenths_X0_1 (ν := ν) _ ?_  (fun _ => ?_)) | ((with_reducible refine (?_ : am_Does _ 8 (Sum.inr (Sum.inr 8) :: _) _ _)); refine w_tenths_X0_8 (ν := ν) _ ?_  (fun _ => ?_)) | ((with_reducible refine (?_ : am_Does _ 8 (Sum.inr (Sum.inr 15) :: _) _ _)); refine w_tenths_X0_15 (ν := ν) _ ?_  (fun _ => ?_)) | refine w_tenths_X0_1 (ν := ν) _ ?_  (fun _ => ?_) | refine w_tenths_X0_8 (ν := ν) _ ?_  (fun _ => ?_) | refine w_tenths_X0_15 (ν := ν) _ ?_  (fun _ => ?_))
    | ((with_reducible refine (?_ : am_Does _ 36 _ _ _)); refine w_line_X2_29 (ν := ν)  ?_  (fun _ _ => ?_))
    | ((with_reducible refine (?_ : am_AW _ _ _ _ _ 10 _ _ _)); refine lp10' _ _ ?_ ?_ ?_)
    | refine And.intro (fun h => absurd h (by decide)) (fun _ => ?_)
    | refine And.intro (fun _ => ?_) (fun h => absurd (by decide) h)
    | refine And.intro (fun _ => ?_) (fun _ => ?_)
    | refine And.intro ?_ ?_
  all_goals (first | (with_reducible assumption) | omega | assumption | (simp only [am_c, am_up] at *; omega) | (simp [am_c, am_up] at *; omega))
theorem w_asRule_X2_29_15 {l : Launch} {μ : am_N} {Q : Option am_V → am_N → Prop} {ν : am_N}  (hS : sx ν μ)  (k : ∀ μ', sx ν μ' → Q none μ') : am_Does l 33 [.inr (.inr 29), .inr (.inr 15)] μ Q := by
  refine am_Does_of (Nat.le_of_ble_eq_true rfl) (Nat.le_of_ble_eq_true rfl) (Nat.le_of_ble_eq_true rfl) ?_
  have hb := sx_all hS
  have lp10 : ∀ (m : Nat) (i : Int) (μ : am_N) , sx ν μ → 0 ≤ i → i ≤ 4 → 4 - i < (m : Int) → am_AW l 0 (fun _ => 0) 33 Q 10 [some (.inr (.inr 29)), some (.inr (.inr 15)), some (.inl i)] [] μ := by
    intro m
    induction m with
    | zero =>
      intro i μ hv0 hv1 hv2 hm
      have hb := sx_all hv0
      exfalso
      omega
    | succ m ih =>
      intro i μ hv0 hv1 hv2 hm
      have hb := sx_all hv0
      refine am_go (ct := fun pc => Nat.beq pc 10) am_oX2_asRule 300 ?_
      conv => whnf
      repeat' first
        | (refine (?_ : am_wp _ _ _ _ _ _ _ _ _ _ _ _); conv => whnf)
        | (refine (?_ : am_sw _ _ _ _); conv => whnf)
        | refine And.intro trivial ?_
        | exact trivial
        | (with_reducible assumption)
        | refine sx_c29 ?_ ?_
        | exact (sx_all (ν := ν) (by assumption)).2.2.1
        | ((with_reducible refine (?_ : _ ∧ _)); first | (with_reducible first | refine am_jn am_q1 ?_ | refine am_jn am_q2 ?_ | refine am_jn am_q3 ?_ | refine am_jn am_q4 ?_ | refine am_jn am_q6 ?_ | refine am_jn am_q9 ?_ | refine am_jn am_p1 ?_ | refine am_jy am_p0 ?_ | refine am_kn am_q1 ?_ | refine am_kn am_q2 ?_ | refine am_kn am_q3 ?_ | refine am_kn am_q4 ?_ | refine am_kn am_q6 ?_ | refine am_kn am_q9 ?_ | refine am_kn am_p1 ?_ | refine am_ky am_p0 ?_) | refine And.intro (fun h => absurd h (by decide)) (fun _ => ?_) | refine And.intro (fun _ => ?_) (fun h => absurd (by decide) h) | refine And.intro (fun _ => ?_) (fun _ => ?_) | refine And.intro ?_ ?_)
        | refine k _ ?_
        | refine sx_up ?_ rfl
        | ((with_reducible refine (?_ : am_Does _ 8 _ _ _)); first | ((with_reducible refine (?_ : am_Does _ 8 (Sum.inr (Sum.inr 1) :: _) _ _)); refine w_tenths_X0_1 (ν := ν) _ ?_  (fun _ => ?_)) | ((with_reducible refine (?_ : am_Does _ 8 (Sum.inr (Sum.inr 8) :: _) _ _)); refine w_tenths_X0_8 (ν := ν) _ ?_  (fun _ => ?_)) | ((with_reducible refine (?_ : am_Does _ 8 (Sum.inr (Sum.inr 15) :: _) _ _)); refine w_tenths_X0_15 (ν := ν) _ ?_  (fun _ => ?_)) | refine w_tenths_X0_1 (ν := ν) _ ?_  (fun _ => ?_) | refine w_tenths_X0_8 (ν := ν) _ ?_  (fun _ => ?_) | refine w_tenths_X0_15 (ν := ν) _ ?_  (fun _ => ?_))
        | ((with_reducible refine (?_ : am_Does _ 36 _ _ _)); refine w_line_X2_29 (ν := ν)  ?_  (fun _ _ => ?_))
        | ((with_reducible refine (?_ : am_AW _ _ _ _ _ 10 _ _ _)); refine ih _ _ ?_ ?_ ?_ ?_)
        | refine And.intro (fun h => absurd h (by decide)) (fun _ => ?_)
        | refine And.intro (fun _ => ?_) (fun h => absurd (by decide) h)
        | refine And.intro (fun _ => ?_) (fun _ => ?_)
        | refine And.intro ?_ ?_
      all_goals (first | (with_reducible assumption) | omega | assumption | (simp only [am_c, am_up] at *; omega) | (simp [am_c, am_up] at *; omega))
  have lp10' : ∀ (i : Int) (μ : am_N) , sx ν μ → 0 ≤ i → i ≤ 4 → am_AW l 0 (fun _ => 0) 33 Q 10 [some (.inr (.inr 29)), some (.inr (.inr 15)), some (.inl i)] [] μ := fun i μ hv0 hv1 hv2 => lp10 ((4 - i) + 1).toNat i μ hv0 hv1 hv2 (by omega)
  refine am_go (ct := fun pc => Nat.beq pc 10) am_oX2_asRule 300 ?_
  conv => whnf
  repeat' first
    | (refine (?_ : am_wp _ _ _ _ _ _ _ _ _ _ _ _); conv => whnf)
    | (refine (?_ : am_sw _ _ _ _); conv => whnf)
    | refine And.intro trivial ?_
    | exact trivial
    | (with_reducible assumption)
    | refine sx_c29 ?_ ?_
    | exact (sx_all (ν := ν) (by assumption)).2.2.1
    | ((with_reducible refine (?_ : _ ∧ _)); first | (with_reducible first | refine am_jn am_q1 ?_ | refine am_jn am_q2 ?_ | refine am_jn am_q3 ?_ | refine am_jn am_q4 ?_ | refine am_jn am_q6 ?_ | refine am_jn am_q9 ?_ | refine am_jn am_p1 ?_ | refine am_jy am_p0 ?_ | refine am_kn am_q1 ?_ | refine am_kn am_q2 ?_ | refine am_kn am_q3 ?_ | refine am_kn am_q4 ?_ | refine am_kn am_q6 ?_ | refine am_kn am_q9 ?_ | refine am_kn am_p1 ?_ | refine am_ky am_p0 ?_) | refine And.intro (fun h => absurd h (by decide)) (fun _ => ?_) | refine And.intro (fun _ => ?_) (fun h => absurd (by decide) h) | refine And.intro (fun _ => ?_) (fun _ => ?_) | refine And.intro ?_ ?_)
    | refine k _ ?_
    | refine sx_up ?_ rfl
    | ((with_reducible refine (?_ : am_Does _ 8 _ _ _)); first | ((with_reducible refine (?_ : am_Does _ 8 (Sum.inr (Sum.inr 1) :: _) _ _)); refine w_tenths_X0_1 (ν := ν) _ ?_  (fun _ => ?_)) | ((with_reducible refine (?_ : am_Does _ 8 (Sum.inr (Sum.inr 8) :: _) _ _)); refine w_tenths_X0_8 (ν := ν) _ ?_  (fun _ => ?_)) | ((with_reducible refine (?_ : am_Does _ 8 (Sum.inr (Sum.inr 15) :: _) _ _)); refine w_tenths_X0_15 (ν := ν) _ ?_  (fun _ => ?_)) | refine w_tenths_X0_1 (ν := ν) _ ?_  (fun _ => ?_) | refine w_tenths_X0_8 (ν := ν) _ ?_  (fun _ => ?_) | refine w_tenths_X0_15 (ν := ν) _ ?_  (fun _ => ?_))
    | ((with_reducible refine (?_ : am_Does _ 36 _ _ _)); refine w_line_X2_29 (ν := ν)  ?_  (fun _ _ => ?_))
    | ((with_reducible refine (?_ : am_AW _ _ _ _ _ 10 _ _ _)); refine lp10' _ _ ?_ ?_ ?_)
    | refine And.intro (fun h => absurd h (by decide)) (fun _ => ?_)
    | refine And.intro (fun _ => ?_) (fun h => absurd (by decide) h)
    | refine And.intro (fun _ => ?_) (fun _ => ?_)
    | refine And.intro ?_ ?_
  all_goals (first | (with_reducible assumption) | omega | assumption | (simp only [am_c, am_up] at *; omega) | (simp [am_c, am_up] at *; omega))
theorem w_first_X2_38 {l : Launch} {μ : am_N} {Q : Option am_V → am_N → Prop} {ν : am_N}  (hS : sx ν μ)  (k : ∀ r, Q (some (.inl r)) μ) : am_Does l 37 [.inr (.inr 38)] μ Q := by
  refine am_Does_of (Nat.le_of_ble_eq_true rfl) (Nat.le_of_ble_eq_true rfl) (Nat.le_of_ble_eq_true rfl) ?_
  have hb := sx_all hS
  refine am_go (ct := fun _ => false) am_oX2_first 300 ?_
  conv => whnf
  repeat' first
    | (refine (?_ : am_wp _ _ _ _ _ _ _ _ _ _ _ _); conv => whnf)
    | (refine (?_ : am_sw _ _ _ _); conv => whnf)
    | refine And.intro trivial ?_
    | exact trivial
    | (with_reducible assumption)
    | ((with_reducible refine (?_ : _ ∧ _)); first | (with_reducible first | refine am_jn am_q1 ?_ | refine am_jn am_q2 ?_ | refine am_jn am_q3 ?_ | refine am_jn am_q4 ?_ | refine am_jn am_q6 ?_ | refine am_jn am_q9 ?_ | refine am_jn am_p1 ?_ | refine am_jy am_p0 ?_ | refine am_kn am_q1 ?_ | refine am_kn am_q2 ?_ | refine am_kn am_q3 ?_ | refine am_kn am_q4 ?_ | refine am_kn am_q6 ?_ | refine am_kn am_q9 ?_ | refine am_kn am_p1 ?_ | refine am_ky am_p0 ?_) | refine And.intro (fun h => absurd h (by decide)) (fun _ => ?_) | refine And.intro (fun _ => ?_) (fun h => absurd (by decide) h) | refine And.intro (fun _ => ?_) (fun _ => ?_) | refine And.intro ?_ ?_)
    | exact k _
    | refine sx_up ?_ rfl
    | refine And.intro (fun h => absurd h (by decide)) (fun _ => ?_)
    | refine And.intro (fun _ => ?_) (fun h => absurd (by decide) h)
    | refine And.intro (fun _ => ?_) (fun _ => ?_)
    | refine And.intro ?_ ?_
  all_goals (first | (with_reducible assumption) | omega | assumption | (simp only [am_c, am_up] at *; omega) | (simp [am_c, am_up] at *; omega))
theorem w_last_X2_38 {l : Launch} {μ : am_N} {Q : Option am_V → am_N → Prop} {ν : am_N}  (hS : sx ν μ)  (k : ∀ r, Q (some (.inl r)) μ) : am_Does l 38 [.inr (.inr 38)] μ Q := by
  refine am_Does_of (Nat.le_of_ble_eq_true rfl) (Nat.le_of_ble_eq_true rfl) (Nat.le_of_ble_eq_true rfl) ?_
  have hb := sx_all hS
  refine am_go (ct := fun _ => false) am_oX2_last 300 ?_
  conv => whnf
  repeat' first
    | (refine (?_ : am_wp _ _ _ _ _ _ _ _ _ _ _ _); conv => whnf)
    | (refine (?_ : am_sw _ _ _ _); conv => whnf)
    | refine And.intro trivial ?_
    | exact trivial
    | (with_reducible assumption)
    | ((with_reducible refine (?_ : _ ∧ _)); first | (with_reducible first | refine am_jn am_q1 ?_ | refine am_jn am_q2 ?_ | refine am_jn am_q3 ?_ | refine am_jn am_q4 ?_ | refine am_jn am_q6 ?_ | refine am_jn am_q9 ?_ | refine am_jn am_p1 ?_ | refine am_jy am_p0 ?_ | refine am_kn am_q1 ?_ | refine am_kn am_q2 ?_ | refine am_kn am_q3 ?_ | refine am_kn am_q4 ?_ | refine am_kn am_q6 ?_ | refine am_kn am_q9 ?_ | refine am_kn am_p1 ?_ | refine am_ky am_p0 ?_) | refine And.intro (fun h => absurd h (by decide)) (fun _ => ?_) | refine And.intro (fun _ => ?_) (fun h => absurd (by decide) h) | refine And.intro (fun _ => ?_) (fun _ => ?_) | refine And.intro ?_ ?_)
    | exact k _
    | refine sx_up ?_ rfl
    | refine And.intro (fun h => absurd h (by decide)) (fun _ => ?_)
    | refine And.intro (fun _ => ?_) (fun h => absurd (by decide) h)
    | refine And.intro (fun _ => ?_) (fun _ => ?_)
    | refine And.intro ?_ ?_
  all_goals (first | (with_reducible assumption) | omega | assumption | (simp only [am_c, am_up] at *; omega) | (simp [am_c, am_up] at *; omega))
theorem w_line_X2_38 {l : Launch} {μ : am_N} {Q : Option am_V → am_N → Prop} {ν : am_N}  (hS : sx ν μ)  (k : ∀ μ', sx ν μ' → Q none μ') : am_Does l 36 [.inr (.inr 38)] μ Q := by
  refine am_Does_of (Nat.le_of_ble_eq_true rfl) (Nat.le_of_ble_eq_true rfl) (Nat.le_of_ble_eq_true rfl) ?_
  have hb := sx_all hS
  have lp14 : ∀ (m : Nat) (i p j : Int) (μ : am_N) , sx ν μ → 0 ≤ i → i < μ 38 0 → 0 ≤ p → p ≤ j → 0 ≤ j → j ≤ μ 38 0 → (i < j → p ≤ j - 1) → (∀ (o2 o3 : Option am_V) (μ : am_N), sx ν μ → i + 1 ≤ μ 38 0 → am_AW l 0 (fun _ => 0) 36 Q 2 [some (.inr (.inr 38)), some (.inl (i + 1)), o2, o3] [] μ) → 4 - j < (m : Int) → am_AW l 0 (fun _ => 0) 36 Q 14 [some (.inr (.inr 38)), some (.inl i), some (.inl p), some (.inl j)] [] μ := by
    intro m
    induction m with
    | zero =>
      intro i p j μ hv0 hv1 hv2 hv3 hv4 hv5 hv6 hv7 hv8 hm
      have hb := sx_all hv0
      exfalso
      omega
    | succ m ih =>
      intro i p j μ hv0 hv1 hv2 hv3 hv4 hv5 hv6 hv7 hv8 hm
      have hb := sx_all hv0
      by_cases hij : j = i
      · subst hij
        refine am_go (ct := fun pc => Nat.beq pc 14 || Nat.beq pc 2) am_oX2_line 300 ?_
        conv => whnf
        repeat' first
          | (refine (?_ : am_wp _ _ _ _ _ _ _ _ _ _ _ _); conv => whnf)
          | (refine (?_ : am_sw _ _ _ _); conv => whnf)
          | refine And.intro trivial ?_
          | exact trivial
          | (with_reducible assumption)
          | exact hv8
          | ((with_reducible refine (?_ : _ ∧ _)); first | (with_reducible first | refine am_jn am_q1 ?_ | refine am_jn am_q2 ?_ | refine am_jn am_q3 ?_ | refine am_jn am_q4 ?_ | refine am_jn am_q6 ?_ | refine am_jn am_q9 ?_ | refine am_jn am_p1 ?_ | refine am_jy am_p0 ?_ | refine am_kn am_q1 ?_ | refine am_kn am_q2 ?_ | refine am_kn am_q3 ?_ | refine am_kn am_q4 ?_ | refine am_kn am_q6 ?_ | refine am_kn am_q9 ?_ | refine am_kn am_p1 ?_ | refine am_ky am_p0 ?_) | refine And.intro (fun h => absurd h (by decide)) (fun _ => ?_) | refine And.intro (fun _ => ?_) (fun h => absurd (by decide) h) | refine And.intro (fun _ => ?_) (fun _ => ?_) | refine And.intro ?_ ?_)
          | ((with_reducible refine (?_ : am_AW _ _ _ _ _ 14 _ _ _)); refine ih _ _ _ _ ?_ ?_ ?_ ?_ ?_ ?_ ?_ ?_ ?_ ?_)
          | refine And.intro (fun h => absurd h (by decide)) (fun _ => ?_)
          | refine And.intro (fun _ => ?_) (fun h => absurd (by decide) h)
          | refine And.intro (fun _ => ?_) (fun _ => ?_)
          | refine And.intro ?_ ?_
        all_goals (first | (with_reducible assumption) | omega | assumption | (simp only [am_c, am_up] at *; omega) | (simp [am_c, am_up] at *; omega))
      refine am_go (ct := fun pc => Nat.beq pc 14 || Nat.beq pc 2) am_oX2_line 300 ?_
      conv => whnf
      repeat' first
        | (refine (?_ : am_wp _ _ _ _ _ _ _ _ _ _ _ _); conv => whnf)
        | (refine (?_ : am_sw _ _ _ _); conv => whnf)
        | refine And.intro trivial ?_
        | exact trivial
        | (with_reducible assumption)
        | refine hv8 _ _ _ ?_ ?_
        | refine sx_43 ?_ ?_ ?_
        | ((with_reducible refine (?_ : _ ∧ _)); first | (with_reducible first | refine am_jn am_q1 ?_ | refine am_jn am_q2 ?_ | refine am_jn am_q3 ?_ | refine am_jn am_q4 ?_ | refine am_jn am_q6 ?_ | refine am_jn am_q9 ?_ | refine am_jn am_p1 ?_ | refine am_jy am_p0 ?_ | refine am_kn am_q1 ?_ | refine am_kn am_q2 ?_ | refine am_kn am_q3 ?_ | refine am_kn am_q4 ?_ | refine am_kn am_q6 ?_ | refine am_kn am_q9 ?_ | refine am_kn am_p1 ?_ | refine am_ky am_p0 ?_) | refine And.intro (fun h => absurd h (by decide)) (fun _ => ?_) | refine And.intro (fun _ => ?_) (fun h => absurd (by decide) h) | refine And.intro (fun _ => ?_) (fun _ => ?_) | refine And.intro ?_ ?_)
        | refine k _ ?_
        | refine sx_up ?_ rfl
        | ((with_reducible refine (?_ : am_AW _ _ _ _ _ 14 _ _ _)); refine ih _ _ _ _ ?_ ?_ ?_ ?_ ?_ ?_ ?_ ?_ ?_ ?_)
        | refine And.intro (fun h => absurd h (by decide)) (fun _ => ?_)
        | refine And.intro (fun _ => ?_) (fun h => absurd (by decide) h)
        | refine And.intro (fun _ => ?_) (fun _ => ?_)
        | refine And.intro ?_ ?_
      all_goals (first | (with_reducible assumption) | omega | assumption | (simp only [am_c, am_up] at *; omega) | (simp [am_c, am_up] at *; omega))
  have lp14' : ∀ (i p j : Int) (μ : am_N) , sx ν μ → 0 ≤ i → i < μ 38 0 → 0 ≤ p → p ≤ j → 0 ≤ j → j ≤ μ 38 0 → (i < j → p ≤ j - 1) → (∀ (o2 o3 : Option am_V) (μ : am_N), sx ν μ → i + 1 ≤ μ 38 0 → am_AW l 0 (fun _ => 0) 36 Q 2 [some (.inr (.inr 38)), some (.inl (i + 1)), o2, o3] [] μ) → am_AW l 0 (fun _ => 0) 36 Q 14 [some (.inr (.inr 38)), some (.inl i), some (.inl p), some (.inl j)] [] μ := fun i p j μ hv0 hv1 hv2 hv3 hv4 hv5 hv6 hv7 hv8 => lp14 ((4 - j) + 1).toNat i p j μ hv0 hv1 hv2 hv3 hv4 hv5 hv6 hv7 hv8 (by omega)
  have lp2 : ∀ (m : Nat) (i : Int) (o2 o3 : Option am_V) (μ : am_N) , sx ν μ → 0 ≤ i → i ≤ μ 38 0 → 4 - i < (m : Int) → am_AW l 0 (fun _ => 0) 36 Q 2 [some (.inr (.inr 38)), some (.inl i), o2, o3] [] μ := by
    intro m
    induction m with
    | zero =>
      intro i o2 o3 μ hv0 hv1 hv2 hm
      have hb := sx_all hv0
      exfalso
      omega
    | succ m ih =>
      intro i o2 o3 μ hv0 hv1 hv2 hm
      have hb := sx_all hv0
      refine am_go (ct := fun pc => Nat.beq pc 14 || Nat.beq pc 2) am_oX2_line 300 ?_
      conv => whnf
      repeat' first
        | (refine (?_ : am_wp _ _ _ _ _ _ _ _ _ _ _ _); conv => whnf)
        | (refine (?_ : am_sw _ _ _ _); conv => whnf)
        | refine And.intro trivial ?_
        | exact trivial
        | (with_reducible assumption)
        | (refine fun _ _ _ _ _ => ih _ _ _ _ ?_ ?_ ?_ ?_)
        | refine sx_43 ?_ ?_ ?_
        | ((with_reducible refine (?_ : _ ∧ _)); first | (with_reducible first | refine am_jn am_q1 ?_ | refine am_jn am_q2 ?_ | refine am_jn am_q3 ?_ | refine am_jn am_q4 ?_ | refine am_jn am_q6 ?_ | refine am_jn am_q9 ?_ | refine am_jn am_p1 ?_ | refine am_jy am_p0 ?_ | refine am_kn am_q1 ?_ | refine am_kn am_q2 ?_ | refine am_kn am_q3 ?_ | refine am_kn am_q4 ?_ | refine am_kn am_q6 ?_ | refine am_kn am_q9 ?_ | refine am_kn am_p1 ?_ | refine am_ky am_p0 ?_) | refine And.intro (fun h => absurd h (by decide)) (fun _ => ?_) | refine And.intro (fun _ => ?_) (fun h => absurd (by decide) h) | refine And.intro (fun _ => ?_) (fun _ => ?_) | refine And.intro ?_ ?_)
        | refine k _ ?_
        | refine sx_up ?_ rfl
        | ((with_reducible refine (?_ : am_AW _ _ _ _ _ 2 _ _ _)); refine ih _ _ _ _ ?_ ?_ ?_ ?_)
        | ((with_reducible refine (?_ : am_AW _ _ _ _ _ 14 _ _ _)); refine lp14' _ _ _ _ ?_ ?_ ?_ ?_ ?_ ?_ ?_ ?_ ?_)
        | refine And.intro (fun h => absurd h (by decide)) (fun _ => ?_)
        | refine And.intro (fun _ => ?_) (fun h => absurd (by decide) h)
        | refine And.intro (fun _ => ?_) (fun _ => ?_)
        | refine And.intro ?_ ?_
      all_goals (first | (with_reducible assumption) | omega | assumption | (simp only [am_c, am_up] at *; omega) | (simp [am_c, am_up] at *; omega))
  have lp2' : ∀ (i : Int) (o2 o3 : Option am_V) (μ : am_N) , sx ν μ → 0 ≤ i → i ≤ μ 38 0 → am_AW l 0 (fun _ => 0) 36 Q 2 [some (.inr (.inr 38)), some (.inl i), o2, o3] [] μ := fun i o2 o3 μ hv0 hv1 hv2 => lp2 ((4 - i) + 1).toNat i o2 o3 μ hv0 hv1 hv2 (by omega)
  refine am_go (ct := fun pc => Nat.beq pc 14 || Nat.beq pc 2) am_oX2_line 300 ?_
  conv => whnf
  repeat' first
    | (refine (?_ : am_wp _ _ _ _ _ _ _ _ _ _ _ _); conv => whnf)
    | (refine (?_ : am_sw _ _ _ _); conv => whnf)
    | refine And.intro trivial ?_
    | exact trivial
    | (with_reducible assumption)
    | refine sx_43 ?_ ?_ ?_
    | ((with_reducible refine (?_ : _ ∧ _)); first | (with_reducible first | refine am_jn am_q1 ?_ | refine am_jn am_q2 ?_ | refine am_jn am_q3 ?_ | refine am_jn am_q4 ?_ | refine am_jn am_q6 ?_ | refine am_jn am_q9 ?_ | refine am_jn am_p1 ?_ | refine am_jy am_p0 ?_ | refine am_kn am_q1 ?_ | refine am_kn am_q2 ?_ | refine am_kn am_q3 ?_ | refine am_kn am_q4 ?_ | refine am_kn am_q6 ?_ | refine am_kn am_q9 ?_ | refine am_kn am_p1 ?_ | refine am_ky am_p0 ?_) | refine And.intro (fun h => absurd h (by decide)) (fun _ => ?_) | refine And.intro (fun _ => ?_) (fun h => absurd (by decide) h) | refine And.intro (fun _ => ?_) (fun _ => ?_) | refine And.intro ?_ ?_)
    | refine k _ ?_
    | refine sx_up ?_ rfl
    | ((with_reducible refine (?_ : am_AW _ _ _ _ _ 2 _ _ _)); refine lp2' _ _ _ _ ?_ ?_ ?_)
    | ((with_reducible refine (?_ : am_AW _ _ _ _ _ 14 _ _ _)); refine lp14' _ _ _ _ ?_ ?_ ?_ ?_ ?_ ?_ ?_ ?_ ?_)
    | refine And.intro (fun h => absurd h (by decide)) (fun _ => ?_)
    | refine And.intro (fun _ => ?_) (fun h => absurd (by decide) h)
    | refine And.intro (fun _ => ?_) (fun _ => ?_)
    | refine And.intro ?_ ?_
  all_goals (first | (with_reducible assumption) | omega | assumption | (simp only [am_c, am_up] at *; omega) | (simp [am_c, am_up] at *; omega))
theorem w_asRule_X2_38_8 {l : Launch} {μ : am_N} {Q : Option am_V → am_N → Prop} {ν : am_N}  (hS : sx ν μ)  (k : ∀ μ', sx ν μ' → Q none μ') : am_Does l 33 [.inr (.inr 38), .inr (.inr 8)] μ Q := by
  refine am_Does_of (Nat.le_of_ble_eq_true rfl) (Nat.le_of_ble_eq_true rfl) (Nat.le_of_ble_eq_true rfl) ?_
  have hb := sx_all hS
  have lp10 : ∀ (m : Nat) (i : Int) (μ : am_N) , sx ν μ → 0 ≤ i → i ≤ 4 → 4 - i < (m : Int) → am_AW l 0 (fun _ => 0) 33 Q 10 [some (.inr (.inr 38)), some (.inr (.inr 8)), some (.inl i)] [] μ := by
    intro m
    induction m with
    | zero =>
      intro i μ hv0 hv1 hv2 hm
      have hb := sx_all hv0
      exfalso
      omega
    | succ m ih =>
      intro i μ hv0 hv1 hv2 hm
      have hb := sx_all hv0
      refine am_go (ct := fun pc => Nat.beq pc 10) am_oX2_asRule 300 ?_
      conv => whnf
      repeat' first
        | (refine (?_ : am_wp _ _ _ _ _ _ _ _ _ _ _ _); conv => whnf)
        | (refine (?_ : am_sw _ _ _ _); conv => whnf)
        | refine And.intro trivial ?_
        | exact trivial
        | (with_reducible assumption)
        | refine sx_c38 ?_ ?_
        | exact (sx_all (ν := ν) (by assumption)).2.1
        | ((with_reducible refine (?_ : _ ∧ _)); first | (with_reducible first | refine am_jn am_q1 ?_ | refine am_jn am_q2 ?_ | refine am_jn am_q3 ?_ | refine am_jn am_q4 ?_ | refine am_jn am_q6 ?_ | refine am_jn am_q9 ?_ | refine am_jn am_p1 ?_ | refine am_jy am_p0 ?_ | refine am_kn am_q1 ?_ | refine am_kn am_q2 ?_ | refine am_kn am_q3 ?_ | refine am_kn am_q4 ?_ | refine am_kn am_q6 ?_ | refine am_kn am_q9 ?_ | refine am_kn am_p1 ?_ | refine am_ky am_p0 ?_) | refine And.intro (fun h => absurd h (by decide)) (fun _ => ?_) | refine And.intro (fun _ => ?_) (fun h => absurd (by decide) h) | refine And.intro (fun _ => ?_) (fun _ => ?_) | refine And.intro ?_ ?_)
        | refine k _ ?_
        | refine sx_up ?_ rfl
        | ((with_reducible refine (?_ : am_Does _ 8 _ _ _)); first | ((with_reducible refine (?_ : am_Does _ 8 (Sum.inr (Sum.inr 1) :: _) _ _)); refine w_tenths_X0_1 (ν := ν) _ ?_  (fun _ => ?_)) | ((with_reducible refine (?_ : am_Does _ 8 (Sum.inr (Sum.inr 8) :: _) _ _)); refine w_tenths_X0_8 (ν := ν) _ ?_  (fun _ => ?_)) | ((with_reducible refine (?_ : am_Does _ 8 (Sum.inr (Sum.inr 15) :: _) _ _)); refine w_tenths_X0_15 (ν := ν) _ ?_  (fun _ => ?_)) | refine w_tenths_X0_1 (ν := ν) _ ?_  (fun _ => ?_) | refine w_tenths_X0_8 (ν := ν) _ ?_  (fun _ => ?_) | refine w_tenths_X0_15 (ν := ν) _ ?_  (fun _ => ?_))
        | ((with_reducible refine (?_ : am_Does _ 36 _ _ _)); first | ((with_reducible refine (?_ : am_Does _ 36 (Sum.inr (Sum.inr 29) :: _) _ _)); refine w_line_X2_29 (ν := ν)  ?_  (fun _ _ => ?_)) | ((with_reducible refine (?_ : am_Does _ 36 (Sum.inr (Sum.inr 38) :: _) _ _)); refine w_line_X2_38 (ν := ν)  ?_  (fun _ _ => ?_)) | refine w_line_X2_29 (ν := ν)  ?_  (fun _ _ => ?_) | refine w_line_X2_38 (ν := ν)  ?_  (fun _ _ => ?_))
        | ((with_reducible refine (?_ : am_AW _ _ _ _ _ 10 _ _ _)); refine ih _ _ ?_ ?_ ?_ ?_)
        | refine And.intro (fun h => absurd h (by decide)) (fun _ => ?_)
        | refine And.intro (fun _ => ?_) (fun h => absurd (by decide) h)
        | refine And.intro (fun _ => ?_) (fun _ => ?_)
        | refine And.intro ?_ ?_
      all_goals (first | (with_reducible assumption) | omega | assumption | (simp only [am_c, am_up] at *; omega) | (simp [am_c, am_up] at *; omega))
  have lp10' : ∀ (i : Int) (μ : am_N) , sx ν μ → 0 ≤ i → i ≤ 4 → am_AW l 0 (fun _ => 0) 33 Q 10 [some (.inr (.inr 38)), some (.inr (.inr 8)), some (.inl i)] [] μ := fun i μ hv0 hv1 hv2 => lp10 ((4 - i) + 1).toNat i μ hv0 hv1 hv2 (by omega)
  refine am_go (ct := fun pc => Nat.beq pc 10) am_oX2_asRule 300 ?_
  conv => whnf
  repeat' first
    | (refine (?_ : am_wp _ _ _ _ _ _ _ _ _ _ _ _); conv => whnf)
    | (refine (?_ : am_sw _ _ _ _); conv => whnf)
    | refine And.intro trivial ?_
    | exact trivial
    | (with_reducible assumption)
    | refine sx_c38 ?_ ?_
    | exact (sx_all (ν := ν) (by assumption)).2.1
    | ((with_reducible refine (?_ : _ ∧ _)); first | (with_reducible first | refine am_jn am_q1 ?_ | refine am_jn am_q2 ?_ | refine am_jn am_q3 ?_ | refine am_jn am_q4 ?_ | refine am_jn am_q6 ?_ | refine am_jn am_q9 ?_ | refine am_jn am_p1 ?_ | refine am_jy am_p0 ?_ | refine am_kn am_q1 ?_ | refine am_kn am_q2 ?_ | refine am_kn am_q3 ?_ | refine am_kn am_q4 ?_ | refine am_kn am_q6 ?_ | refine am_kn am_q9 ?_ | refine am_kn am_p1 ?_ | refine am_ky am_p0 ?_) | refine And.intro (fun h => absurd h (by decide)) (fun _ => ?_) | refine And.intro (fun _ => ?_) (fun h => absurd (by decide) h) | refine And.intro (fun _ => ?_) (fun _ => ?_) | refine And.intro ?_ ?_)
    | refine k _ ?_
    | refine sx_up ?_ rfl
    | ((with_reducible refine (?_ : am_Does _ 8 _ _ _)); first | ((with_reducible refine (?_ : am_Does _ 8 (Sum.inr (Sum.inr 1) :: _) _ _)); refine w_tenths_X0_1 (ν := ν) _ ?_  (fun _ => ?_)) | ((with_reducible refine (?_ : am_Does _ 8 (Sum.inr (Sum.inr 8) :: _) _ _)); refine w_tenths_X0_8 (ν := ν) _ ?_  (fun _ => ?_)) | ((with_reducible refine (?_ : am_Does _ 8 (Sum.inr (Sum.inr 15) :: _) _ _)); refine w_tenths_X0_15 (ν := ν) _ ?_  (fun _ => ?_)) | refine w_tenths_X0_1 (ν := ν) _ ?_  (fun _ => ?_) | refine w_tenths_X0_8 (ν := ν) _ ?_  (fun _ => ?_) | refine w_tenths_X0_15 (ν := ν) _ ?_  (fun _ => ?_))
    | ((with_reducible refine (?_ : am_Does _ 36 _ _ _)); first | ((with_reducible refine (?_ : am_Does _ 36 (Sum.inr (Sum.inr 29) :: _) _ _)); refine w_line_X2_29 (ν := ν)  ?_  (fun _ _ => ?_)) | ((with_reducible refine (?_ : am_Does _ 36 (Sum.inr (Sum.inr 38) :: _) _ _)); refine w_line_X2_38 (ν := ν)  ?_  (fun _ _ => ?_)) | refine w_line_X2_29 (ν := ν)  ?_  (fun _ _ => ?_) | refine w_line_X2_38 (ν := ν)  ?_  (fun _ _ => ?_))
    | ((with_reducible refine (?_ : am_AW _ _ _ _ _ 10 _ _ _)); refine lp10' _ _ ?_ ?_ ?_)
    | refine And.intro (fun h => absurd h (by decide)) (fun _ => ?_)
    | refine And.intro (fun _ => ?_) (fun h => absurd (by decide) h)
    | refine And.intro (fun _ => ?_) (fun _ => ?_)
    | refine And.intro ?_ ?_
  all_goals (first | (with_reducible assumption) | omega | assumption | (simp only [am_c, am_up] at *; omega) | (simp [am_c, am_up] at *; omega))
theorem w_behind_X2_38_8 {l : Launch} {μ : am_N} {Q : Option am_V → am_N → Prop} {ν : am_N}  (hS : sx ν μ)  (k : ∀ μ', sx ν μ' → Q none μ') : am_Does l 35 [.inr (.inr 38), .inr (.inr 8)] μ Q := by
  refine am_Does_of (Nat.le_of_ble_eq_true rfl) (Nat.le_of_ble_eq_true rfl) (Nat.le_of_ble_eq_true rfl) ?_
  have hb := sx_all hS
  refine am_go (ct := fun _ => false) am_oX2_behind 300 ?_
  conv => whnf
  repeat' first
    | (refine (?_ : am_wp _ _ _ _ _ _ _ _ _ _ _ _); conv => whnf)
    | (refine (?_ : am_sw _ _ _ _); conv => whnf)
    | refine And.intro trivial ?_
    | exact trivial
    | (with_reducible assumption)
    | ((with_reducible refine (?_ : _ ∧ _)); first | (with_reducible first | refine am_jn am_q1 ?_ | refine am_jn am_q2 ?_ | refine am_jn am_q3 ?_ | refine am_jn am_q4 ?_ | refine am_jn am_q6 ?_ | refine am_jn am_q9 ?_ | refine am_jn am_p1 ?_ | refine am_jy am_p0 ?_ | refine am_kn am_q1 ?_ | refine am_kn am_q2 ?_ | refine am_kn am_q3 ?_ | refine am_kn am_q4 ?_ | refine am_kn am_q6 ?_ | refine am_kn am_q9 ?_ | refine am_kn am_p1 ?_ | refine am_ky am_p0 ?_) | refine And.intro (fun h => absurd h (by decide)) (fun _ => ?_) | refine And.intro (fun _ => ?_) (fun h => absurd (by decide) h) | refine And.intro (fun _ => ?_) (fun _ => ?_) | refine And.intro ?_ ?_)
    | refine k _ ?_
    | refine sx_up ?_ rfl
    | ((with_reducible refine (?_ : am_Does _ 37 _ _ _)); first | ((with_reducible refine (?_ : am_Does _ 37 (Sum.inr (Sum.inr 29) :: _) _ _)); refine w_first_X2_29 (ν := ν)  ?_  (fun _ => ?_)) | ((with_reducible refine (?_ : am_Does _ 37 (Sum.inr (Sum.inr 38) :: _) _ _)); refine w_first_X2_38 (ν := ν)  ?_  (fun _ => ?_)) | refine w_first_X2_29 (ν := ν)  ?_  (fun _ => ?_) | refine w_first_X2_38 (ν := ν)  ?_  (fun _ => ?_))
    | ((with_reducible refine (?_ : am_Does _ 38 _ _ _)); first | ((with_reducible refine (?_ : am_Does _ 38 (Sum.inr (Sum.inr 29) :: _) _ _)); refine w_last_X2_29 (ν := ν)  ?_  (fun _ => ?_)) | ((with_reducible refine (?_ : am_Does _ 38 (Sum.inr (Sum.inr 38) :: _) _ _)); refine w_last_X2_38 (ν := ν)  ?_  (fun _ => ?_)) | refine w_last_X2_29 (ν := ν)  ?_  (fun _ => ?_) | refine w_last_X2_38 (ν := ν)  ?_  (fun _ => ?_))
    | ((with_reducible refine (?_ : am_Does _ 12 _ _ _)); first | ((with_reducible refine (?_ : am_Does _ 12 (Sum.inr (Sum.inr 8) :: _) _ _)); refine w_mend_X0_8 (ν := ν) _ _ ?_  (fun _ _ => ?_)) | ((with_reducible refine (?_ : am_Does _ 12 (Sum.inr (Sum.inr 15) :: _) _ _)); refine w_mend_X0_15 (ν := ν) _ _ ?_  (fun _ _ => ?_)) | refine w_mend_X0_8 (ν := ν) _ _ ?_  (fun _ _ => ?_) | refine w_mend_X0_15 (ν := ν) _ _ ?_  (fun _ _ => ?_))
    | refine And.intro (fun h => absurd h (by decide)) (fun _ => ?_)
    | refine And.intro (fun _ => ?_) (fun h => absurd (by decide) h)
    | refine And.intro (fun _ => ?_) (fun _ => ?_)
    | refine And.intro ?_ ?_
  all_goals (first | (with_reducible assumption) | omega | assumption | (simp only [am_c, am_up] at *; omega) | (simp [am_c, am_up] at *; omega))
theorem w_goOn_X2_38_8 {l : Launch} {μ : am_N} {Q : Option am_V → am_N → Prop} {ν : am_N}  (hS : sx ν μ)  (k : ∀ r μ', sx ν μ' → Q (some (.inl r)) μ') : am_Does l 34 [.inr (.inr 38), .inr (.inr 8)] μ Q := by
  refine am_Does_of (Nat.le_of_ble_eq_true rfl) (Nat.le_of_ble_eq_true rfl) (Nat.le_of_ble_eq_true rfl) ?_
  have hb := sx_all hS
  refine am_go (ct := fun _ => false) am_oX2_goOn 300 ?_
  conv => whnf
  repeat' first
    | (refine (?_ : am_wp _ _ _ _ _ _ _ _ _ _ _ _); conv => whnf)
    | (refine (?_ : am_sw _ _ _ _); conv => whnf)
    | refine And.intro trivial ?_
    | exact trivial
    | (with_reducible assumption)
    | ((with_reducible refine (?_ : _ ∧ _)); first | (with_reducible first | refine am_jn am_q1 ?_ | refine am_jn am_q2 ?_ | refine am_jn am_q3 ?_ | refine am_jn am_q4 ?_ | refine am_jn am_q6 ?_ | refine am_jn am_q9 ?_ | refine am_jn am_p1 ?_ | refine am_jy am_p0 ?_ | refine am_kn am_q1 ?_ | refine am_kn am_q2 ?_ | refine am_kn am_q3 ?_ | refine am_kn am_q4 ?_ | refine am_kn am_q6 ?_ | refine am_kn am_q9 ?_ | refine am_kn am_p1 ?_ | refine am_ky am_p0 ?_) | refine And.intro (fun h => absurd h (by decide)) (fun _ => ?_) | refine And.intro (fun _ => ?_) (fun h => absurd (by decide) h) | refine And.intro (fun _ => ?_) (fun _ => ?_) | refine And.intro ?_ ?_)
    | refine k _ _ ?_
    | refine sx_up ?_ rfl
    | ((with_reducible refine (?_ : am_Does _ 33 _ _ _)); first | ((with_reducible refine (?_ : am_Does _ 33 (Sum.inr (Sum.inr 29) :: Sum.inr (Sum.inr 1) :: _) _ _)); refine w_asRule_X2_29_1 (ν := ν)  ?_  (fun _ _ => ?_)) | ((with_reducible refine (?_ : am_Does _ 33 (Sum.inr (Sum.inr 29) :: Sum.inr (Sum.inr 8) :: _) _ _)); refine w_asRule_X2_29_8 (ν := ν)  ?_  (fun _ _ => ?_)) | ((with_reducible refine (?_ : am_Does _ 33 (Sum.inr (Sum.inr 29) :: Sum.inr (Sum.inr 15) :: _) _ _)); refine w_asRule_X2_29_15 (ν := ν)  ?_  (fun _ _ => ?_)) | ((with_reducible refine (?_ : am_Does _ 33 (Sum.inr (Sum.inr 38) :: Sum.inr (Sum.inr 8) :: _) _ _)); refine w_asRule_X2_38_8 (ν := ν)  ?_  (fun _ _ => ?_)) | refine w_asRule_X2_29_1 (ν := ν)  ?_  (fun _ _ => ?_) | refine w_asRule_X2_29_8 (ν := ν)  ?_  (fun _ _ => ?_) | refine w_asRule_X2_29_15 (ν := ν)  ?_  (fun _ _ => ?_) | refine w_asRule_X2_38_8 (ν := ν)  ?_  (fun _ _ => ?_))
    | ((with_reducible refine (?_ : am_Does _ 37 _ _ _)); first | ((with_reducible refine (?_ : am_Does _ 37 (Sum.inr (Sum.inr 29) :: _) _ _)); refine w_first_X2_29 (ν := ν)  ?_  (fun _ => ?_)) | ((with_reducible refine (?_ : am_Does _ 37 (Sum.inr (Sum.inr 38) :: _) _ _)); refine w_first_X2_38 (ν := ν)  ?_  (fun _ => ?_)) | refine w_first_X2_29 (ν := ν)  ?_  (fun _ => ?_) | refine w_first_X2_38 (ν := ν)  ?_  (fun _ => ?_))
    | ((with_reducible refine (?_ : am_Does _ 1 _ _ _)); first | ((with_reducible refine (?_ : am_Does _ 1 (Sum.inr (Sum.inr 1) :: _) _ _)); refine w_has_X0_1 (ν := ν) _ ?_ (fun _ _ _ => ?_) (fun _ => ?_)) | ((with_reducible refine (?_ : am_Does _ 1 (Sum.inr (Sum.inr 8) :: _) _ _)); refine w_has_X0_8 (ν := ν) _ ?_ (fun _ _ _ => ?_) (fun _ => ?_)) | ((with_reducible refine (?_ : am_Does _ 1 (Sum.inr (Sum.inr 15) :: _) _ _)); refine w_has_X0_15 (ν := ν) _ ?_ (fun _ _ _ => ?_) (fun _ => ?_)) | refine w_has_X0_1 (ν := ν) _ ?_ (fun _ _ _ => ?_) (fun _ => ?_) | refine w_has_X0_8 (ν := ν) _ ?_ (fun _ _ _ => ?_) (fun _ => ?_) | refine w_has_X0_15 (ν := ν) _ ?_ (fun _ _ _ => ?_) (fun _ => ?_))
    | ((with_reducible refine (?_ : am_Does _ 35 _ _ _)); refine w_behind_X2_38_8 (ν := ν)  ?_  (fun _ _ => ?_))
    | refine And.intro (fun h => absurd h (by decide)) (fun _ => ?_)
    | refine And.intro (fun _ => ?_) (fun h => absurd (by decide) h)
    | refine And.intro (fun _ => ?_) (fun _ => ?_)
    | refine And.intro ?_ ?_
  all_goals (first | (with_reducible assumption) | omega | assumption | (simp only [am_c, am_up] at *; omega) | (simp [am_c, am_up] at *; omega))
theorem w_put_X2_29 {l : Launch} {μ : am_N} {Q : Option am_V → am_N → Prop} {ν : am_N} (i t s : Int) (hS : sx ν μ)  (k : ∀ μ', sx ν μ' → Q none μ') : am_Does l 22 [.inr (.inr 29), .inl i, .inl t, .inl s] μ Q := by
  refine am_Does_of (Nat.le_of_ble_eq_true rfl) (Nat.le_of_ble_eq_true rfl) (Nat.le_of_ble_eq_true rfl) ?_
  have hb := sx_all hS
  refine am_go (ct := fun _ => false) am_oX2_put 300 ?_
  conv => whnf
  repeat' first
    | (refine (?_ : am_wp _ _ _ _ _ _ _ _ _ _ _ _); conv => whnf)
    | (refine (?_ : am_sw _ _ _ _); conv => whnf)
    | refine And.intro trivial ?_
    | exact trivial
    | (with_reducible assumption)
    | ((with_reducible refine (?_ : _ ∧ _)); first | (with_reducible first | refine am_jn am_q1 ?_ | refine am_jn am_q2 ?_ | refine am_jn am_q3 ?_ | refine am_jn am_q4 ?_ | refine am_jn am_q6 ?_ | refine am_jn am_q9 ?_ | refine am_jn am_p1 ?_ | refine am_jy am_p0 ?_ | refine am_kn am_q1 ?_ | refine am_kn am_q2 ?_ | refine am_kn am_q3 ?_ | refine am_kn am_q4 ?_ | refine am_kn am_q6 ?_ | refine am_kn am_q9 ?_ | refine am_kn am_p1 ?_ | refine am_ky am_p0 ?_) | refine And.intro (fun h => absurd h (by decide)) (fun _ => ?_) | refine And.intro (fun _ => ?_) (fun h => absurd (by decide) h) | refine And.intro (fun _ => ?_) (fun _ => ?_) | refine And.intro ?_ ?_)
    | refine k _ ?_
    | refine sx_up ?_ rfl
    | refine And.intro (fun h => absurd h (by decide)) (fun _ => ?_)
    | refine And.intro (fun _ => ?_) (fun h => absurd (by decide) h)
    | refine And.intro (fun _ => ?_) (fun _ => ?_)
    | refine And.intro ?_ ?_
  all_goals (first | (with_reducible assumption) | omega | assumption | (simp only [am_c, am_up] at *; omega) | (simp [am_c, am_up] at *; omega))
theorem w_draw_X2_29_1 {l : Launch} {μ : am_N} {Q : Option am_V → am_N → Prop} {ν : am_N}  (hS : sx ν μ)  (k : ∀ μ', sx ν μ' → Q none μ') : am_Does l 21 [.inr (.inr 29), .inr (.inr 1)] μ Q := by
  refine am_Does_of (Nat.le_of_ble_eq_true rfl) (Nat.le_of_ble_eq_true rfl) (Nat.le_of_ble_eq_true rfl) ?_
  have hb := sx_all hS
  have lp10 : ∀ (m : Nat) (i : Int) (μ : am_N) , sx ν μ → 0 ≤ i → i ≤ 4 → 4 - i < (m : Int) → am_AW l 0 (fun _ => 0) 21 Q 10 [some (.inr (.inr 29)), some (.inr (.inr 1)), some (.inl i)] [] μ := by
    intro m
    induction m with
    | zero =>
      intro i μ hv0 hv1 hv2 hm
      have hb := sx_all hv0
      exfalso
      omega
    | succ m ih =>
      intro i μ hv0 hv1 hv2 hm
      have hb := sx_all hv0
      refine am_go (ct := fun pc => Nat.beq pc 10) am_oX2_draw 300 ?_
      conv => whnf
      repeat' first
        | (refine (?_ : am_wp _ _ _ _ _ _ _ _ _ _ _ _); conv => whnf)
        | (refine (?_ : am_sw _ _ _ _); conv => whnf)
        | refine And.intro trivial ?_
        | exact trivial
        | (with_reducible assumption)
        | refine sx_c29 ?_ ?_
        | exact (sx_all (ν := ν) (by assumption)).1
        | ((with_reducible refine (?_ : _ ∧ _)); first | (with_reducible first | refine am_jn am_q1 ?_ | refine am_jn am_q2 ?_ | refine am_jn am_q3 ?_ | refine am_jn am_q4 ?_ | refine am_jn am_q6 ?_ | refine am_jn am_q9 ?_ | refine am_jn am_p1 ?_ | refine am_jy am_p0 ?_ | refine am_kn am_q1 ?_ | refine am_kn am_q2 ?_ | refine am_kn am_q3 ?_ | refine am_kn am_q4 ?_ | refine am_kn am_q6 ?_ | refine am_kn am_q9 ?_ | refine am_kn am_p1 ?_ | refine am_ky am_p0 ?_) | refine And.intro (fun h => absurd h (by decide)) (fun _ => ?_) | refine And.intro (fun _ => ?_) (fun h => absurd (by decide) h) | refine And.intro (fun _ => ?_) (fun _ => ?_) | refine And.intro ?_ ?_)
        | refine k _ ?_
        | refine sx_up ?_ rfl
        | ((with_reducible refine (?_ : am_Does _ 8 _ _ _)); first | ((with_reducible refine (?_ : am_Does _ 8 (Sum.inr (Sum.inr 1) :: _) _ _)); refine w_tenths_X0_1 (ν := ν) _ ?_  (fun _ => ?_)) | ((with_reducible refine (?_ : am_Does _ 8 (Sum.inr (Sum.inr 8) :: _) _ _)); refine w_tenths_X0_8 (ν := ν) _ ?_  (fun _ => ?_)) | ((with_reducible refine (?_ : am_Does _ 8 (Sum.inr (Sum.inr 15) :: _) _ _)); refine w_tenths_X0_15 (ν := ν) _ ?_  (fun _ => ?_)) | refine w_tenths_X0_1 (ν := ν) _ ?_  (fun _ => ?_) | refine w_tenths_X0_8 (ν := ν) _ ?_  (fun _ => ?_) | refine w_tenths_X0_15 (ν := ν) _ ?_  (fun _ => ?_))
        | ((with_reducible refine (?_ : am_Does _ 22 _ _ _)); refine w_put_X2_29 (ν := ν) _ _ _ ?_  (fun _ _ => ?_))
        | ((with_reducible refine (?_ : am_AW _ _ _ _ _ 10 _ _ _)); refine ih _ _ ?_ ?_ ?_ ?_)
        | refine And.intro (fun h => absurd h (by decide)) (fun _ => ?_)
        | refine And.intro (fun _ => ?_) (fun h => absurd (by decide) h)
        | refine And.intro (fun _ => ?_) (fun _ => ?_)
        | refine And.intro ?_ ?_
      all_goals (first | (with_reducible assumption) | omega | assumption | (simp only [am_c, am_up] at *; omega) | (simp [am_c, am_up] at *; omega))
  have lp10' : ∀ (i : Int) (μ : am_N) , sx ν μ → 0 ≤ i → i ≤ 4 → am_AW l 0 (fun _ => 0) 21 Q 10 [some (.inr (.inr 29)), some (.inr (.inr 1)), some (.inl i)] [] μ := fun i μ hv0 hv1 hv2 => lp10 ((4 - i) + 1).toNat i μ hv0 hv1 hv2 (by omega)
  refine am_go (ct := fun pc => Nat.beq pc 10) am_oX2_draw 300 ?_
  conv => whnf
  repeat' first
    | (refine (?_ : am_wp _ _ _ _ _ _ _ _ _ _ _ _); conv => whnf)
    | (refine (?_ : am_sw _ _ _ _); conv => whnf)
    | refine And.intro trivial ?_
    | exact trivial
    | (with_reducible assumption)
    | refine sx_c29 ?_ ?_
    | exact (sx_all (ν := ν) (by assumption)).1
    | ((with_reducible refine (?_ : _ ∧ _)); first | (with_reducible first | refine am_jn am_q1 ?_ | refine am_jn am_q2 ?_ | refine am_jn am_q3 ?_ | refine am_jn am_q4 ?_ | refine am_jn am_q6 ?_ | refine am_jn am_q9 ?_ | refine am_jn am_p1 ?_ | refine am_jy am_p0 ?_ | refine am_kn am_q1 ?_ | refine am_kn am_q2 ?_ | refine am_kn am_q3 ?_ | refine am_kn am_q4 ?_ | refine am_kn am_q6 ?_ | refine am_kn am_q9 ?_ | refine am_kn am_p1 ?_ | refine am_ky am_p0 ?_) | refine And.intro (fun h => absurd h (by decide)) (fun _ => ?_) | refine And.intro (fun _ => ?_) (fun h => absurd (by decide) h) | refine And.intro (fun _ => ?_) (fun _ => ?_) | refine And.intro ?_ ?_)
    | refine k _ ?_
    | refine sx_up ?_ rfl
    | ((with_reducible refine (?_ : am_Does _ 8 _ _ _)); first | ((with_reducible refine (?_ : am_Does _ 8 (Sum.inr (Sum.inr 1) :: _) _ _)); refine w_tenths_X0_1 (ν := ν) _ ?_  (fun _ => ?_)) | ((with_reducible refine (?_ : am_Does _ 8 (Sum.inr (Sum.inr 8) :: _) _ _)); refine w_tenths_X0_8 (ν := ν) _ ?_  (fun _ => ?_)) | ((with_reducible refine (?_ : am_Does _ 8 (Sum.inr (Sum.inr 15) :: _) _ _)); refine w_tenths_X0_15 (ν := ν) _ ?_  (fun _ => ?_)) | refine w_tenths_X0_1 (ν := ν) _ ?_  (fun _ => ?_) | refine w_tenths_X0_8 (ν := ν) _ ?_  (fun _ => ?_) | refine w_tenths_X0_15 (ν := ν) _ ?_  (fun _ => ?_))
    | ((with_reducible refine (?_ : am_Does _ 22 _ _ _)); refine w_put_X2_29 (ν := ν) _ _ _ ?_  (fun _ _ => ?_))
    | ((with_reducible refine (?_ : am_AW _ _ _ _ _ 10 _ _ _)); refine lp10' _ _ ?_ ?_ ?_)
    | refine And.intro (fun h => absurd h (by decide)) (fun _ => ?_)
    | refine And.intro (fun _ => ?_) (fun h => absurd (by decide) h)
    | refine And.intro (fun _ => ?_) (fun _ => ?_)
    | refine And.intro ?_ ?_
  all_goals (first | (with_reducible assumption) | omega | assumption | (simp only [am_c, am_up] at *; omega) | (simp [am_c, am_up] at *; omega))
theorem w_draw_X2_29_8 {l : Launch} {μ : am_N} {Q : Option am_V → am_N → Prop} {ν : am_N}  (hS : sx ν μ)  (k : ∀ μ', sx ν μ' → Q none μ') : am_Does l 21 [.inr (.inr 29), .inr (.inr 8)] μ Q := by
  refine am_Does_of (Nat.le_of_ble_eq_true rfl) (Nat.le_of_ble_eq_true rfl) (Nat.le_of_ble_eq_true rfl) ?_
  have hb := sx_all hS
  have lp10 : ∀ (m : Nat) (i : Int) (μ : am_N) , sx ν μ → 0 ≤ i → i ≤ 4 → 4 - i < (m : Int) → am_AW l 0 (fun _ => 0) 21 Q 10 [some (.inr (.inr 29)), some (.inr (.inr 8)), some (.inl i)] [] μ := by
    intro m
    induction m with
    | zero =>
      intro i μ hv0 hv1 hv2 hm
      have hb := sx_all hv0
      exfalso
      omega
    | succ m ih =>
      intro i μ hv0 hv1 hv2 hm
      have hb := sx_all hv0
      refine am_go (ct := fun pc => Nat.beq pc 10) am_oX2_draw 300 ?_
      conv => whnf
      repeat' first
        | (refine (?_ : am_wp _ _ _ _ _ _ _ _ _ _ _ _); conv => whnf)
        | (refine (?_ : am_sw _ _ _ _); conv => whnf)
        | refine And.intro trivial ?_
        | exact trivial
        | (with_reducible assumption)
        | refine sx_c29 ?_ ?_
        | exact (sx_all (ν := ν) (by assumption)).2.1
        | ((with_reducible refine (?_ : _ ∧ _)); first | (with_reducible first | refine am_jn am_q1 ?_ | refine am_jn am_q2 ?_ | refine am_jn am_q3 ?_ | refine am_jn am_q4 ?_ | refine am_jn am_q6 ?_ | refine am_jn am_q9 ?_ | refine am_jn am_p1 ?_ | refine am_jy am_p0 ?_ | refine am_kn am_q1 ?_ | refine am_kn am_q2 ?_ | refine am_kn am_q3 ?_ | refine am_kn am_q4 ?_ | refine am_kn am_q6 ?_ | refine am_kn am_q9 ?_ | refine am_kn am_p1 ?_ | refine am_ky am_p0 ?_) | refine And.intro (fun h => absurd h (by decide)) (fun _ => ?_) | refine And.intro (fun _ => ?_) (fun h => absurd (by decide) h) | refine And.intro (fun _ => ?_) (fun _ => ?_) | refine And.intro ?_ ?_)
        | refine k _ ?_
        | refine sx_up ?_ rfl
        | ((with_reducible refine (?_ : am_Does _ 8 _ _ _)); first | ((with_reducible refine (?_ : am_Does _ 8 (Sum.inr (Sum.inr 1) :: _) _ _)); refine w_tenths_X0_1 (ν := ν) _ ?_  (fun _ => ?_)) | ((with_reducible refine (?_ : am_Does _ 8 (Sum.inr (Sum.inr 8) :: _) _ _)); refine w_tenths_X0_8 (ν := ν) _ ?_  (fun _ => ?_)) | ((with_reducible refine (?_ : am_Does _ 8 (Sum.inr (Sum.inr 15) :: _) _ _)); refine w_tenths_X0_15 (ν := ν) _ ?_  (fun _ => ?_)) | refine w_tenths_X0_1 (ν := ν) _ ?_  (fun _ => ?_) | refine w_tenths_X0_8 (ν := ν) _ ?_  (fun _ => ?_) | refine w_tenths_X0_15 (ν := ν) _ ?_  (fun _ => ?_))
        | ((with_reducible refine (?_ : am_Does _ 22 _ _ _)); refine w_put_X2_29 (ν := ν) _ _ _ ?_  (fun _ _ => ?_))
        | ((with_reducible refine (?_ : am_AW _ _ _ _ _ 10 _ _ _)); refine ih _ _ ?_ ?_ ?_ ?_)
        | refine And.intro (fun h => absurd h (by decide)) (fun _ => ?_)
        | refine And.intro (fun _ => ?_) (fun h => absurd (by decide) h)
        | refine And.intro (fun _ => ?_) (fun _ => ?_)
        | refine And.intro ?_ ?_
      all_goals (first | (with_reducible assumption) | omega | assumption | (simp only [am_c, am_up] at *; omega) | (simp [am_c, am_up] at *; omega))
  have lp10' : ∀ (i : Int) (μ : am_N) , sx ν μ → 0 ≤ i → i ≤ 4 → am_AW l 0 (fun _ => 0) 21 Q 10 [some (.inr (.inr 29)), some (.inr (.inr 8)), some (.inl i)] [] μ := fun i μ hv0 hv1 hv2 => lp10 ((4 - i) + 1).toNat i μ hv0 hv1 hv2 (by omega)
  refine am_go (ct := fun pc => Nat.beq pc 10) am_oX2_draw 300 ?_
  conv => whnf
  repeat' first
    | (refine (?_ : am_wp _ _ _ _ _ _ _ _ _ _ _ _); conv => whnf)
    | (refine (?_ : am_sw _ _ _ _); conv => whnf)
    | refine And.intro trivial ?_
    | exact trivial
    | (with_reducible assumption)
    | refine sx_c29 ?_ ?_
    | exact (sx_all (ν := ν) (by assumption)).2.1
    | ((with_reducible refine (?_ : _ ∧ _)); first | (with_reducible first | refine am_jn am_q1 ?_ | refine am_jn am_q2 ?_ | refine am_jn am_q3 ?_ | refine am_jn am_q4 ?_ | refine am_jn am_q6 ?_ | refine am_jn am_q9 ?_ | refine am_jn am_p1 ?_ | refine am_jy am_p0 ?_ | refine am_kn am_q1 ?_ | refine am_kn am_q2 ?_ | refine am_kn am_q3 ?_ | refine am_kn am_q4 ?_ | refine am_kn am_q6 ?_ | refine am_kn am_q9 ?_ | refine am_kn am_p1 ?_ | refine am_ky am_p0 ?_) | refine And.intro (fun h => absurd h (by decide)) (fun _ => ?_) | refine And.intro (fun _ => ?_) (fun h => absurd (by decide) h) | refine And.intro (fun _ => ?_) (fun _ => ?_) | refine And.intro ?_ ?_)
    | refine k _ ?_
    | refine sx_up ?_ rfl
    | ((with_reducible refine (?_ : am_Does _ 8 _ _ _)); first | ((with_reducible refine (?_ : am_Does _ 8 (Sum.inr (Sum.inr 1) :: _) _ _)); refine w_tenths_X0_1 (ν := ν) _ ?_  (fun _ => ?_)) | ((with_reducible refine (?_ : am_Does _ 8 (Sum.inr (Sum.inr 8) :: _) _ _)); refine w_tenths_X0_8 (ν := ν) _ ?_  (fun _ => ?_)) | ((with_reducible refine (?_ : am_Does _ 8 (Sum.inr (Sum.inr 15) :: _) _ _)); refine w_tenths_X0_15 (ν := ν) _ ?_  (fun _ => ?_)) | refine w_tenths_X0_1 (ν := ν) _ ?_  (fun _ => ?_) | refine w_tenths_X0_8 (ν := ν) _ ?_  (fun _ => ?_) | refine w_tenths_X0_15 (ν := ν) _ ?_  (fun _ => ?_))
    | ((with_reducible refine (?_ : am_Does _ 22 _ _ _)); refine w_put_X2_29 (ν := ν) _ _ _ ?_  (fun _ _ => ?_))
    | ((with_reducible refine (?_ : am_AW _ _ _ _ _ 10 _ _ _)); refine lp10' _ _ ?_ ?_ ?_)
    | refine And.intro (fun h => absurd h (by decide)) (fun _ => ?_)
    | refine And.intro (fun _ => ?_) (fun h => absurd (by decide) h)
    | refine And.intro (fun _ => ?_) (fun _ => ?_)
    | refine And.intro ?_ ?_
  all_goals (first | (with_reducible assumption) | omega | assumption | (simp only [am_c, am_up] at *; omega) | (simp [am_c, am_up] at *; omega))
theorem w_draw_X2_29_15 {l : Launch} {μ : am_N} {Q : Option am_V → am_N → Prop} {ν : am_N}  (hS : sx ν μ)  (k : ∀ μ', sx ν μ' → Q none μ') : am_Does l 21 [.inr (.inr 29), .inr (.inr 15)] μ Q := by
  refine am_Does_of (Nat.le_of_ble_eq_true rfl) (Nat.le_of_ble_eq_true rfl) (Nat.le_of_ble_eq_true rfl) ?_
  have hb := sx_all hS
  have lp10 : ∀ (m : Nat) (i : Int) (μ : am_N) , sx ν μ → 0 ≤ i → i ≤ 4 → 4 - i < (m : Int) → am_AW l 0 (fun _ => 0) 21 Q 10 [some (.inr (.inr 29)), some (.inr (.inr 15)), some (.inl i)] [] μ := by
    intro m
    induction m with
    | zero =>
      intro i μ hv0 hv1 hv2 hm
      have hb := sx_all hv0
      exfalso
      omega
    | succ m ih =>
      intro i μ hv0 hv1 hv2 hm
      have hb := sx_all hv0
      refine am_go (ct := fun pc => Nat.beq pc 10) am_oX2_draw 300 ?_
      conv => whnf
      repeat' first
        | (refine (?_ : am_wp _ _ _ _ _ _ _ _ _ _ _ _); conv => whnf)
        | (refine (?_ : am_sw _ _ _ _); conv => whnf)
        | refine And.intro trivial ?_
        | exact trivial
        | (with_reducible assumption)
        | refine sx_c29 ?_ ?_
        | exact (sx_all (ν := ν) (by assumption)).2.2.1
        | ((with_reducible refine (?_ : _ ∧ _)); first | (with_reducible first | refine am_jn am_q1 ?_ | refine am_jn am_q2 ?_ | refine am_jn am_q3 ?_ | refine am_jn am_q4 ?_ | refine am_jn am_q6 ?_ | refine am_jn am_q9 ?_ | refine am_jn am_p1 ?_ | refine am_jy am_p0 ?_ | refine am_kn am_q1 ?_ | refine am_kn am_q2 ?_ | refine am_kn am_q3 ?_ | refine am_kn am_q4 ?_ | refine am_kn am_q6 ?_ | refine am_kn am_q9 ?_ | refine am_kn am_p1 ?_ | refine am_ky am_p0 ?_) | refine And.intro (fun h => absurd h (by decide)) (fun _ => ?_) | refine And.intro (fun _ => ?_) (fun h => absurd (by decide) h) | refine And.intro (fun _ => ?_) (fun _ => ?_) | refine And.intro ?_ ?_)
        | refine k _ ?_
        | refine sx_up ?_ rfl
        | ((with_reducible refine (?_ : am_Does _ 8 _ _ _)); first | ((with_reducible refine (?_ : am_Does _ 8 (Sum.inr (Sum.inr 1) :: _) _ _)); refine w_tenths_X0_1 (ν := ν) _ ?_  (fun _ => ?_)) | ((with_reducible refine (?_ : am_Does _ 8 (Sum.inr (Sum.inr 8) :: _) _ _)); refine w_tenths_X0_8 (ν := ν) _ ?_  (fun _ => ?_)) | ((with_reducible refine (?_ : am_Does _ 8 (Sum.inr (Sum.inr 15) :: _) _ _)); refine w_tenths_X0_15 (ν := ν) _ ?_  (fun _ => ?_)) | refine w_tenths_X0_1 (ν := ν) _ ?_  (fun _ => ?_) | refine w_tenths_X0_8 (ν := ν) _ ?_  (fun _ => ?_) | refine w_tenths_X0_15 (ν := ν) _ ?_  (fun _ => ?_))
        | ((with_reducible refine (?_ : am_Does _ 22 _ _ _)); refine w_put_X2_29 (ν := ν) _ _ _ ?_  (fun _ _ => ?_))
        | ((with_reducible refine (?_ : am_AW _ _ _ _ _ 10 _ _ _)); refine ih _ _ ?_ ?_ ?_ ?_)
        | refine And.intro (fun h => absurd h (by decide)) (fun _ => ?_)
        | refine And.intro (fun _ => ?_) (fun h => absurd (by decide) h)
        | refine And.intro (fun _ => ?_) (fun _ => ?_)
        | refine And.intro ?_ ?_
      all_goals (first | (with_reducible assumption) | omega | assumption | (simp only [am_c, am_up] at *; omega) | (simp [am_c, am_up] at *; omega))
  have lp10' : ∀ (i : Int) (μ : am_N) , sx ν μ → 0 ≤ i → i ≤ 4 → am_AW l 0 (fun _ => 0) 21 Q 10 [some (.inr (.inr 29)), some (.inr (.inr 15)), some (.inl i)] [] μ := fun i μ hv0 hv1 hv2 => lp10 ((4 - i) + 1).toNat i μ hv0 hv1 hv2 (by omega)
  refine am_go (ct := fun pc => Nat.beq pc 10) am_oX2_draw 300 ?_
  conv => whnf
  repeat' first
    | (refine (?_ : am_wp _ _ _ _ _ _ _ _ _ _ _ _); conv => whnf)
    | (refine (?_ : am_sw _ _ _ _); conv => whnf)
    | refine And.intro trivial ?_
    | exact trivial
    | (with_reducible assumption)
    | refine sx_c29 ?_ ?_
    | exact (sx_all (ν := ν) (by assumption)).2.2.1
    | ((with_reducible refine (?_ : _ ∧ _)); first | (with_reducible first | refine am_jn am_q1 ?_ | refine am_jn am_q2 ?_ | refine am_jn am_q3 ?_ | refine am_jn am_q4 ?_ | refine am_jn am_q6 ?_ | refine am_jn am_q9 ?_ | refine am_jn am_p1 ?_ | refine am_jy am_p0 ?_ | refine am_kn am_q1 ?_ | refine am_kn am_q2 ?_ | refine am_kn am_q3 ?_ | refine am_kn am_q4 ?_ | refine am_kn am_q6 ?_ | refine am_kn am_q9 ?_ | refine am_kn am_p1 ?_ | refine am_ky am_p0 ?_) | refine And.intro (fun h => absurd h (by decide)) (fun _ => ?_) | refine And.intro (fun _ => ?_) (fun h => absurd (by decide) h) | refine And.intro (fun _ => ?_) (fun _ => ?_) | refine And.intro ?_ ?_)
    | refine k _ ?_
    | refine sx_up ?_ rfl
    | ((with_reducible refine (?_ : am_Does _ 8 _ _ _)); first | ((with_reducible refine (?_ : am_Does _ 8 (Sum.inr (Sum.inr 1) :: _) _ _)); refine w_tenths_X0_1 (ν := ν) _ ?_  (fun _ => ?_)) | ((with_reducible refine (?_ : am_Does _ 8 (Sum.inr (Sum.inr 8) :: _) _ _)); refine w_tenths_X0_8 (ν := ν) _ ?_  (fun _ => ?_)) | ((with_reducible refine (?_ : am_Does _ 8 (Sum.inr (Sum.inr 15) :: _) _ _)); refine w_tenths_X0_15 (ν := ν) _ ?_  (fun _ => ?_)) | refine w_tenths_X0_1 (ν := ν) _ ?_  (fun _ => ?_) | refine w_tenths_X0_8 (ν := ν) _ ?_  (fun _ => ?_) | refine w_tenths_X0_15 (ν := ν) _ ?_  (fun _ => ?_))
    | ((with_reducible refine (?_ : am_Does _ 22 _ _ _)); refine w_put_X2_29 (ν := ν) _ _ _ ?_  (fun _ _ => ?_))
    | ((with_reducible refine (?_ : am_AW _ _ _ _ _ 10 _ _ _)); refine lp10' _ _ ?_ ?_ ?_)
    | refine And.intro (fun h => absurd h (by decide)) (fun _ => ?_)
    | refine And.intro (fun _ => ?_) (fun h => absurd (by decide) h)
    | refine And.intro (fun _ => ?_) (fun _ => ?_)
    | refine And.intro ?_ ?_
  all_goals (first | (with_reducible assumption) | omega | assumption | (simp only [am_c, am_up] at *; omega) | (simp [am_c, am_up] at *; omega))
theorem w_allWays_X2_29 {l : Launch} {μ : am_N} {Q : Option am_V → am_N → Prop} {ν : am_N}  (hS : sx ν μ)  (k : ∀ r, Q (some (.inl r)) μ) : am_Does l 23 [.inr (.inr 29)] μ Q := by
  refine am_Does_of (Nat.le_of_ble_eq_true rfl) (Nat.le_of_ble_eq_true rfl) (Nat.le_of_ble_eq_true rfl) ?_
  have hb := sx_all hS
  refine am_go (ct := fun _ => false) am_oX2_allWays 300 ?_
  conv => whnf
  repeat' first
    | (refine (?_ : am_wp _ _ _ _ _ _ _ _ _ _ _ _); conv => whnf)
    | (refine (?_ : am_sw _ _ _ _); conv => whnf)
    | refine And.intro trivial ?_
    | exact trivial
    | (with_reducible assumption)
    | ((with_reducible refine (?_ : _ ∧ _)); first | (with_reducible first | refine am_jn am_q1 ?_ | refine am_jn am_q2 ?_ | refine am_jn am_q3 ?_ | refine am_jn am_q4 ?_ | refine am_jn am_q6 ?_ | refine am_jn am_q9 ?_ | refine am_jn am_p1 ?_ | refine am_jy am_p0 ?_ | refine am_kn am_q1 ?_ | refine am_kn am_q2 ?_ | refine am_kn am_q3 ?_ | refine am_kn am_q4 ?_ | refine am_kn am_q6 ?_ | refine am_kn am_q9 ?_ | refine am_kn am_p1 ?_ | refine am_ky am_p0 ?_) | refine And.intro (fun h => absurd h (by decide)) (fun _ => ?_) | refine And.intro (fun _ => ?_) (fun h => absurd (by decide) h) | refine And.intro (fun _ => ?_) (fun _ => ?_) | refine And.intro ?_ ?_)
    | exact k _
    | refine sx_up ?_ rfl
    | refine And.intro (fun h => absurd h (by decide)) (fun _ => ?_)
    | refine And.intro (fun _ => ?_) (fun h => absurd (by decide) h)
    | refine And.intro (fun _ => ?_) (fun _ => ?_)
    | refine And.intro ?_ ?_
  all_goals (first | (with_reducible assumption) | omega | assumption | (simp only [am_c, am_up] at *; omega) | (simp [am_c, am_up] at *; omega))
theorem w_quarters_X2_29 {l : Launch} {μ : am_N} {Q : Option am_V → am_N → Prop} {ν : am_N} (j t : Int) (hS : sx ν μ) (hj0 : 0 ≤ j) (hj1 : j < 4) (k : ∀ r, Q (some (.inl r)) μ) : am_Does l 26 [.inr (.inr 29), .inl j, .inl t] μ Q := by
  refine am_Does_of (Nat.le_of_ble_eq_true rfl) (Nat.le_of_ble_eq_true rfl) (Nat.le_of_ble_eq_true rfl) ?_
  have hb := sx_all hS
  refine am_go (ct := fun _ => false) am_oX2_quarters 300 ?_
  conv => whnf
  repeat' first
    | (refine (?_ : am_wp _ _ _ _ _ _ _ _ _ _ _ _); conv => whnf)
    | (refine (?_ : am_sw _ _ _ _); conv => whnf)
    | refine And.intro trivial ?_
    | exact trivial
    | (with_reducible assumption)
    | ((with_reducible refine (?_ : _ ∧ _)); first | (with_reducible first | refine am_jn am_q1 ?_ | refine am_jn am_q2 ?_ | refine am_jn am_q3 ?_ | refine am_jn am_q4 ?_ | refine am_jn am_q6 ?_ | refine am_jn am_q9 ?_ | refine am_jn am_p1 ?_ | refine am_jy am_p0 ?_ | refine am_kn am_q1 ?_ | refine am_kn am_q2 ?_ | refine am_kn am_q3 ?_ | refine am_kn am_q4 ?_ | refine am_kn am_q6 ?_ | refine am_kn am_q9 ?_ | refine am_kn am_p1 ?_ | refine am_ky am_p0 ?_) | refine And.intro (fun h => absurd h (by decide)) (fun _ => ?_) | refine And.intro (fun _ => ?_) (fun h => absurd (by decide) h) | refine And.intro (fun _ => ?_) (fun _ => ?_) | refine And.intro ?_ ?_)
    | exact k _
    | refine sx_up ?_ rfl
    | refine And.intro (fun h => absurd h (by decide)) (fun _ => ?_)
    | refine And.intro (fun _ => ?_) (fun h => absurd (by decide) h)
    | refine And.intro (fun _ => ?_) (fun _ => ?_)
    | refine And.intro ?_ ?_
  all_goals (first | (with_reducible assumption) | omega | assumption | (simp only [am_c, am_up] at *; omega) | (simp [am_c, am_up] at *; omega))
theorem w_waysAt_X2_29 {l : Launch} {μ : am_N} {Q : Option am_V → am_N → Prop} {ν : am_N} (i t : Int) (hS : sx ν μ)  (k : ∀ r, Q (some (.inl r)) μ) : am_Does l 25 [.inr (.inr 29), .inl i, .inl t] μ Q := by
  refine am_Does_of (Nat.le_of_ble_eq_true rfl) (Nat.le_of_ble_eq_true rfl) (Nat.le_of_ble_eq_true rfl) ?_
  have hb := sx_all hS
  have lp5 : ∀ (m : Nat) (w j : Int) , 0 ≤ j → j ≤ 4 → 4 - j < (m : Int) → am_AW l 0 (fun _ => 0) 25 Q 5 [some (.inr (.inr 29)), some (.inl i), some (.inl t), some (.inl w), some (.inl j)] [] μ := by
    intro m
    induction m with
    | zero =>
      intro w j  hv0 hv1 hm
      exfalso
      omega
    | succ m ih =>
      intro w j  hv0 hv1 hm
      refine am_go (ct := fun pc => Nat.beq pc 5) am_oX2_waysAt 300 ?_
      conv => whnf
      repeat' first
        | (refine (?_ : am_wp _ _ _ _ _ _ _ _ _ _ _ _); conv => whnf)
        | (refine (?_ : am_sw _ _ _ _); conv => whnf)
        | refine And.intro trivial ?_
        | exact trivial
        | (with_reducible assumption)
        | ((with_reducible refine (?_ : _ ∧ _)); first | (with_reducible first | refine am_jn am_q1 ?_ | refine am_jn am_q2 ?_ | refine am_jn am_q3 ?_ | refine am_jn am_q4 ?_ | refine am_jn am_q6 ?_ | refine am_jn am_q9 ?_ | refine am_jn am_p1 ?_ | refine am_jy am_p0 ?_ | refine am_kn am_q1 ?_ | refine am_kn am_q2 ?_ | refine am_kn am_q3 ?_ | refine am_kn am_q4 ?_ | refine am_kn am_q6 ?_ | refine am_kn am_q9 ?_ | refine am_kn am_p1 ?_ | refine am_ky am_p0 ?_) | refine And.intro (fun h => absurd h (by decide)) (fun _ => ?_) | refine And.intro (fun _ => ?_) (fun h => absurd (by decide) h) | refine And.intro (fun _ => ?_) (fun _ => ?_) | refine And.intro ?_ ?_)
        | exact k _
        | refine sx_up ?_ rfl
        | ((with_reducible refine (?_ : am_Does _ 26 _ _ _)); refine w_quarters_X2_29 (ν := ν) _ _ ?_ ?_ ?_ (fun _ => ?_))
        | ((with_reducible refine (?_ : am_AW _ _ _ _ _ 5 _ _ _)); refine ih _ _  ?_ ?_ ?_)
        | refine And.intro (fun h => absurd h (by decide)) (fun _ => ?_)
        | refine And.intro (fun _ => ?_) (fun h => absurd (by decide) h)
        | refine And.intro (fun _ => ?_) (fun _ => ?_)
        | refine And.intro ?_ ?_
      all_goals (first | (with_reducible assumption) | omega | assumption | (simp only [am_c, am_up] at *; omega) | (simp [am_c, am_up] at *; omega))
  have lp5' : ∀ (w j : Int) , 0 ≤ j → j ≤ 4 → am_AW l 0 (fun _ => 0) 25 Q 5 [some (.inr (.inr 29)), some (.inl i), some (.inl t), some (.inl w), some (.inl j)] [] μ := fun w j  hv0 hv1 => lp5 ((4 - j) + 1).toNat w j  hv0 hv1 (by omega)
  refine am_go (ct := fun pc => Nat.beq pc 5) am_oX2_waysAt 300 ?_
  conv => whnf
  repeat' first
    | (refine (?_ : am_wp _ _ _ _ _ _ _ _ _ _ _ _); conv => whnf)
    | (refine (?_ : am_sw _ _ _ _); conv => whnf)
    | refine And.intro trivial ?_
    | exact trivial
    | (with_reducible assumption)
    | ((with_reducible refine (?_ : _ ∧ _)); first | (with_reducible first | refine am_jn am_q1 ?_ | refine am_jn am_q2 ?_ | refine am_jn am_q3 ?_ | refine am_jn am_q4 ?_ | refine am_jn am_q6 ?_ | refine am_jn am_q9 ?_ | refine am_jn am_p1 ?_ | refine am_jy am_p0 ?_ | refine am_kn am_q1 ?_ | refine am_kn am_q2 ?_ | refine am_kn am_q3 ?_ | refine am_kn am_q4 ?_ | refine am_kn am_q6 ?_ | refine am_kn am_q9 ?_ | refine am_kn am_p1 ?_ | refine am_ky am_p0 ?_) | refine And.intro (fun h => absurd h (by decide)) (fun _ => ?_) | refine And.intro (fun _ => ?_) (fun h => absurd (by decide) h) | refine And.intro (fun _ => ?_) (fun _ => ?_) | refine And.intro ?_ ?_)
    | exact k _
    | refine sx_up ?_ rfl
    | ((with_reducible refine (?_ : am_Does _ 26 _ _ _)); refine w_quarters_X2_29 (ν := ν) _ _ ?_ ?_ ?_ (fun _ => ?_))
    | ((with_reducible refine (?_ : am_AW _ _ _ _ _ 5 _ _ _)); refine lp5' _ _  ?_ ?_)
    | refine And.intro (fun h => absurd h (by decide)) (fun _ => ?_)
    | refine And.intro (fun _ => ?_) (fun h => absurd (by decide) h)
    | refine And.intro (fun _ => ?_) (fun _ => ?_)
    | refine And.intro ?_ ?_
  all_goals (first | (with_reducible assumption) | omega | assumption | (simp only [am_c, am_up] at *; omega) | (simp [am_c, am_up] at *; omega))
theorem w_ways_X2_29 {l : Launch} {μ : am_N} {Q : Option am_V → am_N → Prop} {ν : am_N} (i : Int) (hS : sx ν μ)  (k : ∀ r, Q (some (.inl r)) μ) : am_Does l 24 [.inr (.inr 29), .inl i] μ Q := by
  refine am_Does_of (Nat.le_of_ble_eq_true rfl) (Nat.le_of_ble_eq_true rfl) (Nat.le_of_ble_eq_true rfl) ?_
  have hb := sx_all hS
  refine am_go (ct := fun _ => false) am_oX2_ways 300 ?_
  conv => whnf
  repeat' first
    | (refine (?_ : am_wp _ _ _ _ _ _ _ _ _ _ _ _); conv => whnf)
    | (refine (?_ : am_sw _ _ _ _); conv => whnf)
    | refine And.intro trivial ?_
    | exact trivial
    | (with_reducible assumption)
    | ((with_reducible refine (?_ : _ ∧ _)); first | (with_reducible first | refine am_jn am_q1 ?_ | refine am_jn am_q2 ?_ | refine am_jn am_q3 ?_ | refine am_jn am_q4 ?_ | refine am_jn am_q6 ?_ | refine am_jn am_q9 ?_ | refine am_jn am_p1 ?_ | refine am_jy am_p0 ?_ | refine am_kn am_q1 ?_ | refine am_kn am_q2 ?_ | refine am_kn am_q3 ?_ | refine am_kn am_q4 ?_ | refine am_kn am_q6 ?_ | refine am_kn am_q9 ?_ | refine am_kn am_p1 ?_ | refine am_ky am_p0 ?_) | refine And.intro (fun h => absurd h (by decide)) (fun _ => ?_) | refine And.intro (fun _ => ?_) (fun h => absurd (by decide) h) | refine And.intro (fun _ => ?_) (fun _ => ?_) | refine And.intro ?_ ?_)
    | exact k _
    | refine sx_up ?_ rfl
    | ((with_reducible refine (?_ : am_Does _ 25 _ _ _)); refine w_waysAt_X2_29 (ν := ν) _ _ ?_  (fun _ => ?_))
    | refine And.intro (fun h => absurd h (by decide)) (fun _ => ?_)
    | refine And.intro (fun _ => ?_) (fun h => absurd (by decide) h)
    | refine And.intro (fun _ => ?_) (fun _ => ?_)
    | refine And.intro ?_ ?_
  all_goals (first | (with_reducible assumption) | omega | assumption | (simp only [am_c, am_up] at *; omega) | (simp [am_c, am_up] at *; omega))
theorem w_uneven_X2_29 {l : Launch} {μ : am_N} {Q : Option am_V → am_N → Prop} {ν : am_N}  (hS : sx ν μ)  (k : ∀ r, Q (some (.inl r)) μ) : am_Does l 27 [.inr (.inr 29)] μ Q := by
  refine am_Does_of (Nat.le_of_ble_eq_true rfl) (Nat.le_of_ble_eq_true rfl) (Nat.le_of_ble_eq_true rfl) ?_
  have hb := sx_all hS
  have lp9 : ∀ (m : Nat) (a b i : Int) (o4 : Option am_V) , 0 ≤ i → i ≤ 4 → 4 - i < (m : Int) → am_AW l 0 (fun _ => 0) 27 Q 9 [some (.inr (.inr 29)), some (.inl a), some (.inl b), some (.inl i), o4] [] μ := by
    intro m
    induction m with
    | zero =>
      intro a b i o4  hv0 hv1 hm
      exfalso
      omega
    | succ m ih =>
      intro a b i o4  hv0 hv1 hm
      refine am_go (ct := fun pc => Nat.beq pc 9) am_oX2_uneven 300 ?_
      conv => whnf
      repeat' first
        | (refine (?_ : am_wp _ _ _ _ _ _ _ _ _ _ _ _); conv => whnf)
        | (refine (?_ : am_sw _ _ _ _); conv => whnf)
        | refine And.intro trivial ?_
        | exact trivial
        | (with_reducible assumption)
        | ((with_reducible refine (?_ : _ ∧ _)); first | (with_reducible first | refine am_jn am_q1 ?_ | refine am_jn am_q2 ?_ | refine am_jn am_q3 ?_ | refine am_jn am_q4 ?_ | refine am_jn am_q6 ?_ | refine am_jn am_q9 ?_ | refine am_jn am_p1 ?_ | refine am_jy am_p0 ?_ | refine am_kn am_q1 ?_ | refine am_kn am_q2 ?_ | refine am_kn am_q3 ?_ | refine am_kn am_q4 ?_ | refine am_kn am_q6 ?_ | refine am_kn am_q9 ?_ | refine am_kn am_p1 ?_ | refine am_ky am_p0 ?_) | refine And.intro (fun h => absurd h (by decide)) (fun _ => ?_) | refine And.intro (fun _ => ?_) (fun h => absurd (by decide) h) | refine And.intro (fun _ => ?_) (fun _ => ?_) | refine And.intro ?_ ?_)
        | exact k _
        | refine sx_up ?_ rfl
        | ((with_reducible refine (?_ : am_Does _ 23 _ _ _)); refine w_allWays_X2_29 (ν := ν)  ?_  (fun _ => ?_))
        | ((with_reducible refine (?_ : am_Does _ 24 _ _ _)); refine w_ways_X2_29 (ν := ν) _ ?_  (fun _ => ?_))
        | ((with_reducible refine (?_ : am_AW _ _ _ _ _ 9 _ _ _)); refine ih _ _ _ _  ?_ ?_ ?_)
        | refine And.intro (fun h => absurd h (by decide)) (fun _ => ?_)
        | refine And.intro (fun _ => ?_) (fun h => absurd (by decide) h)
        | refine And.intro (fun _ => ?_) (fun _ => ?_)
        | refine And.intro ?_ ?_
      all_goals (first | (with_reducible assumption) | omega | assumption | (simp only [am_c, am_up] at *; omega) | (simp [am_c, am_up] at *; omega))
  have lp9' : ∀ (a b i : Int) (o4 : Option am_V) , 0 ≤ i → i ≤ 4 → am_AW l 0 (fun _ => 0) 27 Q 9 [some (.inr (.inr 29)), some (.inl a), some (.inl b), some (.inl i), o4] [] μ := fun a b i o4  hv0 hv1 => lp9 ((4 - i) + 1).toNat a b i o4  hv0 hv1 (by omega)
  refine am_go (ct := fun pc => Nat.beq pc 9) am_oX2_uneven 300 ?_
  conv => whnf
  repeat' first
    | (refine (?_ : am_wp _ _ _ _ _ _ _ _ _ _ _ _); conv => whnf)
    | (refine (?_ : am_sw _ _ _ _); conv => whnf)
    | refine And.intro trivial ?_
    | exact trivial
    | (with_reducible assumption)
    | ((with_reducible refine (?_ : _ ∧ _)); first | (with_reducible first | refine am_jn am_q1 ?_ | refine am_jn am_q2 ?_ | refine am_jn am_q3 ?_ | refine am_jn am_q4 ?_ | refine am_jn am_q6 ?_ | refine am_jn am_q9 ?_ | refine am_jn am_p1 ?_ | refine am_jy am_p0 ?_ | refine am_kn am_q1 ?_ | refine am_kn am_q2 ?_ | refine am_kn am_q3 ?_ | refine am_kn am_q4 ?_ | refine am_kn am_q6 ?_ | refine am_kn am_q9 ?_ | refine am_kn am_p1 ?_ | refine am_ky am_p0 ?_) | refine And.intro (fun h => absurd h (by decide)) (fun _ => ?_) | refine And.intro (fun _ => ?_) (fun h => absurd (by decide) h) | refine And.intro (fun _ => ?_) (fun _ => ?_) | refine And.intro ?_ ?_)
    | exact k _
    | refine sx_up ?_ rfl
    | ((with_reducible refine (?_ : am_Does _ 23 _ _ _)); refine w_allWays_X2_29 (ν := ν)  ?_  (fun _ => ?_))
    | ((with_reducible refine (?_ : am_Does _ 24 _ _ _)); refine w_ways_X2_29 (ν := ν) _ ?_  (fun _ => ?_))
    | ((with_reducible refine (?_ : am_AW _ _ _ _ _ 9 _ _ _)); refine lp9' _ _ _ _  ?_ ?_)
    | refine And.intro (fun h => absurd h (by decide)) (fun _ => ?_)
    | refine And.intro (fun _ => ?_) (fun h => absurd (by decide) h)
    | refine And.intro (fun _ => ?_) (fun _ => ?_)
    | refine And.intro ?_ ?_
  all_goals (first | (with_reducible assumption) | omega | assumption | (simp only [am_c, am_up] at *; omega) | (simp [am_c, am_up] at *; omega))
theorem w_outcomes_X2_29 {l : Launch} {μ : am_N} {Q : Option am_V → am_N → Prop} {ν : am_N}  (hS : sx ν μ)  (k : ∀ r, Q (some (.inl r)) μ) : am_Does l 28 [.inr (.inr 29)] μ Q := by
  refine am_Does_of (Nat.le_of_ble_eq_true rfl) (Nat.le_of_ble_eq_true rfl) (Nat.le_of_ble_eq_true rfl) ?_
  have hb := sx_all hS
  have lp4 : ∀ (m : Nat) (a i : Int) , 0 ≤ i → i ≤ 4 → 4 - i < (m : Int) → am_AW l 0 (fun _ => 0) 28 Q 4 [some (.inr (.inr 29)), some (.inl a), some (.inl i)] [] μ := by
    intro m
    induction m with
    | zero =>
      intro a i  hv0 hv1 hm
      exfalso
      omega
    | succ m ih =>
      intro a i  hv0 hv1 hm
      refine am_go (ct := fun pc => Nat.beq pc 4) am_oX2_outcomes 300 ?_
      conv => whnf
      repeat' first
        | (refine (?_ : am_wp _ _ _ _ _ _ _ _ _ _ _ _); conv => whnf)
        | (refine (?_ : am_sw _ _ _ _); conv => whnf)
        | refine And.intro trivial ?_
        | exact trivial
        | (with_reducible assumption)
        | ((with_reducible refine (?_ : _ ∧ _)); first | (with_reducible first | refine am_jn am_q1 ?_ | refine am_jn am_q2 ?_ | refine am_jn am_q3 ?_ | refine am_jn am_q4 ?_ | refine am_jn am_q6 ?_ | refine am_jn am_q9 ?_ | refine am_jn am_p1 ?_ | refine am_jy am_p0 ?_ | refine am_kn am_q1 ?_ | refine am_kn am_q2 ?_ | refine am_kn am_q3 ?_ | refine am_kn am_q4 ?_ | refine am_kn am_q6 ?_ | refine am_kn am_q9 ?_ | refine am_kn am_p1 ?_ | refine am_ky am_p0 ?_) | refine And.intro (fun h => absurd h (by decide)) (fun _ => ?_) | refine And.intro (fun _ => ?_) (fun h => absurd (by decide) h) | refine And.intro (fun _ => ?_) (fun _ => ?_) | refine And.intro ?_ ?_)
        | exact k _
        | refine sx_up ?_ rfl
        | ((with_reducible refine (?_ : am_AW _ _ _ _ _ 4 _ _ _)); refine ih _ _  ?_ ?_ ?_)
        | refine And.intro (fun h => absurd h (by decide)) (fun _ => ?_)
        | refine And.intro (fun _ => ?_) (fun h => absurd (by decide) h)
        | refine And.intro (fun _ => ?_) (fun _ => ?_)
        | refine And.intro ?_ ?_
      all_goals (first | (with_reducible assumption) | omega | assumption | (simp only [am_c, am_up] at *; omega) | (simp [am_c, am_up] at *; omega))
  have lp4' : ∀ (a i : Int) , 0 ≤ i → i ≤ 4 → am_AW l 0 (fun _ => 0) 28 Q 4 [some (.inr (.inr 29)), some (.inl a), some (.inl i)] [] μ := fun a i  hv0 hv1 => lp4 ((4 - i) + 1).toNat a i  hv0 hv1 (by omega)
  refine am_go (ct := fun pc => Nat.beq pc 4) am_oX2_outcomes 300 ?_
  conv => whnf
  repeat' first
    | (refine (?_ : am_wp _ _ _ _ _ _ _ _ _ _ _ _); conv => whnf)
    | (refine (?_ : am_sw _ _ _ _); conv => whnf)
    | refine And.intro trivial ?_
    | exact trivial
    | (with_reducible assumption)
    | ((with_reducible refine (?_ : _ ∧ _)); first | (with_reducible first | refine am_jn am_q1 ?_ | refine am_jn am_q2 ?_ | refine am_jn am_q3 ?_ | refine am_jn am_q4 ?_ | refine am_jn am_q6 ?_ | refine am_jn am_q9 ?_ | refine am_jn am_p1 ?_ | refine am_jy am_p0 ?_ | refine am_kn am_q1 ?_ | refine am_kn am_q2 ?_ | refine am_kn am_q3 ?_ | refine am_kn am_q4 ?_ | refine am_kn am_q6 ?_ | refine am_kn am_q9 ?_ | refine am_kn am_p1 ?_ | refine am_ky am_p0 ?_) | refine And.intro (fun h => absurd h (by decide)) (fun _ => ?_) | refine And.intro (fun _ => ?_) (fun h => absurd (by decide) h) | refine And.intro (fun _ => ?_) (fun _ => ?_) | refine And.intro ?_ ?_)
    | exact k _
    | refine sx_up ?_ rfl
    | ((with_reducible refine (?_ : am_AW _ _ _ _ _ 4 _ _ _)); refine lp4' _ _  ?_ ?_)
    | refine And.intro (fun h => absurd h (by decide)) (fun _ => ?_)
    | refine And.intro (fun _ => ?_) (fun h => absurd (by decide) h)
    | refine And.intro (fun _ => ?_) (fun _ => ?_)
    | refine And.intro ?_ ?_
  all_goals (first | (with_reducible assumption) | omega | assumption | (simp only [am_c, am_up] at *; omega) | (simp [am_c, am_up] at *; omega))
theorem w_deal_X2_29 {l : Launch} {μ : am_N} {Q : Option am_V → am_N → Prop} {ν : am_N} (c : Int) (hS : sx ν μ)  (k : ∀ r μ', sx ν μ' → Q (some (.inl r)) μ') : am_Does l 29 [.inr (.inr 29), .inl c] μ Q := by
  refine am_Does_of (Nat.le_of_ble_eq_true rfl) (Nat.le_of_ble_eq_true rfl) (Nat.le_of_ble_eq_true rfl) ?_
  have hb := sx_all hS
  have lp7 : ∀ (m : Nat) (a b i : Int) (o5 : Option am_V) (μ : am_N) , sx ν μ → 0 ≤ i → i ≤ 4 → 4 - i < (m : Int) → am_AW l 0 (fun _ => 0) 29 Q 7 [some (.inr (.inr 29)), some (.inl c), some (.inl a), some (.inl b), some (.inl i), o5] [] μ := by
    intro m
    induction m with
    | zero =>
      intro a b i o5 μ hv0 hv1 hv2 hm
      have hb := sx_all hv0
      exfalso
      omega
    | succ m ih =>
      intro a b i o5 μ hv0 hv1 hv2 hm
      have hb := sx_all hv0
      refine am_go (ct := fun pc => Nat.beq pc 7) am_oX2_deal 300 ?_
      conv => whnf
      repeat' first
        | (refine (?_ : am_wp _ _ _ _ _ _ _ _ _ _ _ _); conv => whnf)
        | (refine (?_ : am_sw _ _ _ _); conv => whnf)
        | refine And.intro trivial ?_
        | exact trivial
        | (with_reducible assumption)
        | ((with_reducible refine (?_ : _ ∧ _)); first | (with_reducible first | refine am_jn am_q1 ?_ | refine am_jn am_q2 ?_ | refine am_jn am_q3 ?_ | refine am_jn am_q4 ?_ | refine am_jn am_q6 ?_ | refine am_jn am_q9 ?_ | refine am_jn am_p1 ?_ | refine am_jy am_p0 ?_ | refine am_kn am_q1 ?_ | refine am_kn am_q2 ?_ | refine am_kn am_q3 ?_ | refine am_kn am_q4 ?_ | refine am_kn am_q6 ?_ | refine am_kn am_q9 ?_ | refine am_kn am_p1 ?_ | refine am_ky am_p0 ?_) | refine And.intro (fun h => absurd h (by decide)) (fun _ => ?_) | refine And.intro (fun _ => ?_) (fun h => absurd (by decide) h) | refine And.intro (fun _ => ?_) (fun _ => ?_) | refine And.intro ?_ ?_)
        | refine k _ _ ?_
        | refine sx_up ?_ rfl
        | ((with_reducible refine (?_ : am_Does _ 36 _ _ _)); first | ((with_reducible refine (?_ : am_Does _ 36 (Sum.inr (Sum.inr 29) :: _) _ _)); refine w_line_X2_29 (ν := ν)  ?_  (fun _ _ => ?_)) | ((with_reducible refine (?_ : am_Does _ 36 (Sum.inr (Sum.inr 38) :: _) _ _)); refine w_line_X2_38 (ν := ν)  ?_  (fun _ _ => ?_)) | refine w_line_X2_29 (ν := ν)  ?_  (fun _ _ => ?_) | refine w_line_X2_38 (ν := ν)  ?_  (fun _ _ => ?_))
        | ((with_reducible refine (?_ : am_AW _ _ _ _ _ 7 _ _ _)); refine ih _ _ _ _ _ ?_ ?_ ?_ ?_)
        | refine And.intro (fun h => absurd h (by decide)) (fun _ => ?_)
        | refine And.intro (fun _ => ?_) (fun h => absurd (by decide) h)
        | refine And.intro (fun _ => ?_) (fun _ => ?_)
        | refine And.intro ?_ ?_
      all_goals (first | (with_reducible assumption) | omega | assumption | (simp only [am_c, am_up] at *; omega) | (simp [am_c, am_up] at *; omega))
  have lp7' : ∀ (a b i : Int) (o5 : Option am_V) (μ : am_N) , sx ν μ → 0 ≤ i → i ≤ 4 → am_AW l 0 (fun _ => 0) 29 Q 7 [some (.inr (.inr 29)), some (.inl c), some (.inl a), some (.inl b), some (.inl i), o5] [] μ := fun a b i o5 μ hv0 hv1 hv2 => lp7 ((4 - i) + 1).toNat a b i o5 μ hv0 hv1 hv2 (by omega)
  refine am_go (ct := fun pc => Nat.beq pc 7) am_oX2_deal 300 ?_
  conv => whnf
  repeat' first
    | (refine (?_ : am_wp _ _ _ _ _ _ _ _ _ _ _ _); conv => whnf)
    | (refine (?_ : am_sw _ _ _ _); conv => whnf)
    | refine And.intro trivial ?_
    | exact trivial
    | (with_reducible assumption)
    | ((with_reducible refine (?_ : _ ∧ _)); first | (with_reducible first | refine am_jn am_q1 ?_ | refine am_jn am_q2 ?_ | refine am_jn am_q3 ?_ | refine am_jn am_q4 ?_ | refine am_jn am_q6 ?_ | refine am_jn am_q9 ?_ | refine am_jn am_p1 ?_ | refine am_jy am_p0 ?_ | refine am_kn am_q1 ?_ | refine am_kn am_q2 ?_ | refine am_kn am_q3 ?_ | refine am_kn am_q4 ?_ | refine am_kn am_q6 ?_ | refine am_kn am_q9 ?_ | refine am_kn am_p1 ?_ | refine am_ky am_p0 ?_) | refine And.intro (fun h => absurd h (by decide)) (fun _ => ?_) | refine And.intro (fun _ => ?_) (fun h => absurd (by decide) h) | refine And.intro (fun _ => ?_) (fun _ => ?_) | refine And.intro ?_ ?_)
    | refine k _ _ ?_
    | refine sx_up ?_ rfl
    | ((with_reducible refine (?_ : am_Does _ 36 _ _ _)); first | ((with_reducible refine (?_ : am_Does _ 36 (Sum.inr (Sum.inr 29) :: _) _ _)); refine w_line_X2_29 (ν := ν)  ?_  (fun _ _ => ?_)) | ((with_reducible refine (?_ : am_Does _ 36 (Sum.inr (Sum.inr 38) :: _) _ _)); refine w_line_X2_38 (ν := ν)  ?_  (fun _ _ => ?_)) | refine w_line_X2_29 (ν := ν)  ?_  (fun _ _ => ?_) | refine w_line_X2_38 (ν := ν)  ?_  (fun _ _ => ?_))
    | ((with_reducible refine (?_ : am_AW _ _ _ _ _ 7 _ _ _)); refine lp7' _ _ _ _ _ ?_ ?_ ?_)
    | refine And.intro (fun h => absurd h (by decide)) (fun _ => ?_)
    | refine And.intro (fun _ => ?_) (fun h => absurd (by decide) h)
    | refine And.intro (fun _ => ?_) (fun _ => ?_)
    | refine And.intro ?_ ?_
  all_goals (first | (with_reducible assumption) | omega | assumption | (simp only [am_c, am_up] at *; omega) | (simp [am_c, am_up] at *; omega))
theorem w_digits_X2_29 {l : Launch} {μ : am_N} {Q : Option am_V → am_N → Prop} {ν : am_N}  (hS : sx ν μ)  (k : ∀ r, Q (some (.inl r)) μ) : am_Does l 40 [.inr (.inr 29)] μ Q := by
  refine am_Does_of (Nat.le_of_ble_eq_true rfl) (Nat.le_of_ble_eq_true rfl) (Nat.le_of_ble_eq_true rfl) ?_
  have hb := sx_all hS
  have lp9 : ∀ (m : Nat) (a i : Int) , -1 ≤ i → i ≤ 3 → i + 1 < (m : Int) → am_AW l 0 (fun _ => 0) 40 Q 9 [some (.inr (.inr 29)), some (.inl a), some (.inl i)] [] μ := by
    intro m
    induction m with
    | zero =>
      intro a i  hv0 hv1 hm
      exfalso
      omega
    | succ m ih =>
      intro a i  hv0 hv1 hm
      refine am_go (ct := fun pc => Nat.beq pc 9) am_oX2_digits 300 ?_
      conv => whnf
      repeat' first
        | (refine (?_ : am_wp _ _ _ _ _ _ _ _ _ _ _ _); conv => whnf)
        | (refine (?_ : am_sw _ _ _ _); conv => whnf)
        | refine And.intro trivial ?_
        | exact trivial
        | (with_reducible assumption)
        | ((with_reducible refine (?_ : _ ∧ _)); first | (with_reducible first | refine am_jn am_q1 ?_ | refine am_jn am_q2 ?_ | refine am_jn am_q3 ?_ | refine am_jn am_q4 ?_ | refine am_jn am_q6 ?_ | refine am_jn am_q9 ?_ | refine am_jn am_p1 ?_ | refine am_jy am_p0 ?_ | refine am_kn am_q1 ?_ | refine am_kn am_q2 ?_ | refine am_kn am_q3 ?_ | refine am_kn am_q4 ?_ | refine am_kn am_q6 ?_ | refine am_kn am_q9 ?_ | refine am_kn am_p1 ?_ | refine am_ky am_p0 ?_) | refine And.intro (fun h => absurd h (by decide)) (fun _ => ?_) | refine And.intro (fun _ => ?_) (fun h => absurd (by decide) h) | refine And.intro (fun _ => ?_) (fun _ => ?_) | refine And.intro ?_ ?_)
        | exact k _
        | refine sx_up ?_ rfl
        | ((with_reducible refine (?_ : am_AW _ _ _ _ _ 9 _ _ _)); refine ih _ _  ?_ ?_ ?_)
        | refine And.intro (fun h => absurd h (by decide)) (fun _ => ?_)
        | refine And.intro (fun _ => ?_) (fun h => absurd (by decide) h)
        | refine And.intro (fun _ => ?_) (fun _ => ?_)
        | refine And.intro ?_ ?_
      all_goals (first | (with_reducible assumption) | omega | assumption | (simp only [am_c, am_up] at *; omega) | (simp [am_c, am_up] at *; omega))
  have lp9' : ∀ (a i : Int) , -1 ≤ i → i ≤ 3 → am_AW l 0 (fun _ => 0) 40 Q 9 [some (.inr (.inr 29)), some (.inl a), some (.inl i)] [] μ := fun a i  hv0 hv1 => lp9 ((i + 1) + 1).toNat a i  hv0 hv1 (by omega)
  refine am_go (ct := fun pc => Nat.beq pc 9) am_oX2_digits 300 ?_
  conv => whnf
  repeat' first
    | (refine (?_ : am_wp _ _ _ _ _ _ _ _ _ _ _ _); conv => whnf)
    | (refine (?_ : am_sw _ _ _ _); conv => whnf)
    | refine And.intro trivial ?_
    | exact trivial
    | (with_reducible assumption)
    | ((with_reducible refine (?_ : _ ∧ _)); first | (with_reducible first | refine am_jn am_q1 ?_ | refine am_jn am_q2 ?_ | refine am_jn am_q3 ?_ | refine am_jn am_q4 ?_ | refine am_jn am_q6 ?_ | refine am_jn am_q9 ?_ | refine am_jn am_p1 ?_ | refine am_jy am_p0 ?_ | refine am_kn am_q1 ?_ | refine am_kn am_q2 ?_ | refine am_kn am_q3 ?_ | refine am_kn am_q4 ?_ | refine am_kn am_q6 ?_ | refine am_kn am_q9 ?_ | refine am_kn am_p1 ?_ | refine am_ky am_p0 ?_) | refine And.intro (fun h => absurd h (by decide)) (fun _ => ?_) | refine And.intro (fun _ => ?_) (fun h => absurd (by decide) h) | refine And.intro (fun _ => ?_) (fun _ => ?_) | refine And.intro ?_ ?_)
    | exact k _
    | refine sx_up ?_ rfl
    | ((with_reducible refine (?_ : am_AW _ _ _ _ _ 9 _ _ _)); refine lp9' _ _  ?_ ?_)
    | refine And.intro (fun h => absurd h (by decide)) (fun _ => ?_)
    | refine And.intro (fun _ => ?_) (fun h => absurd (by decide) h)
    | refine And.intro (fun _ => ?_) (fun _ => ?_)
    | refine And.intro ?_ ?_
  all_goals (first | (with_reducible assumption) | omega | assumption | (simp only [am_c, am_up] at *; omega) | (simp [am_c, am_up] at *; omega))
theorem w_gap_X2_29 {l : Launch} {μ : am_N} {Q : Option am_V → am_N → Prop} {ν : am_N}  (hS : sx ν μ)  (k : ∀ r, Q (some (.inl r)) μ) : am_Does l 39 [.inr (.inr 29)] μ Q := by
  refine am_Does_of (Nat.le_of_ble_eq_true rfl) (Nat.le_of_ble_eq_true rfl) (Nat.le_of_ble_eq_true rfl) ?_
  have hb := sx_all hS
  have hp0 := sx_pl hS 0 (by decide)
  have hp1 := sx_pl hS 1 (by decide)
  refine am_go (ct := fun _ => false) am_oX2_gap 300 ?_
  conv => whnf
  repeat' first
    | (refine (?_ : am_wp _ _ _ _ _ _ _ _ _ _ _ _); conv => whnf)
    | (refine (?_ : am_sw _ _ _ _); conv => whnf)
    | refine And.intro trivial ?_
    | exact trivial
    | (with_reducible assumption)
    | ((with_reducible refine (?_ : _ ∧ _)); first | (with_reducible first | refine am_jn am_q1 ?_ | refine am_jn am_q2 ?_ | refine am_jn am_q3 ?_ | refine am_jn am_q4 ?_ | refine am_jn am_q6 ?_ | refine am_jn am_q9 ?_ | refine am_jn am_p1 ?_ | refine am_jy am_p0 ?_ | refine am_kn am_q1 ?_ | refine am_kn am_q2 ?_ | refine am_kn am_q3 ?_ | refine am_kn am_q4 ?_ | refine am_kn am_q6 ?_ | refine am_kn am_q9 ?_ | refine am_kn am_p1 ?_ | refine am_ky am_p0 ?_) | refine And.intro (fun h => absurd h (by decide)) (fun _ => ?_) | refine And.intro (fun _ => ?_) (fun h => absurd (by decide) h) | refine And.intro (fun _ => ?_) (fun _ => ?_) | refine And.intro ?_ ?_)
    | exact k _
    | refine sx_up ?_ rfl
    | refine And.intro (fun h => absurd h (by decide)) (fun _ => ?_)
    | refine And.intro (fun _ => ?_) (fun h => absurd (by decide) h)
    | refine And.intro (fun _ => ?_) (fun _ => ?_)
    | refine And.intro ?_ ?_
  all_goals (first | (with_reducible assumption) | omega | assumption | (simp only [am_c, am_up] at *; omega) | (simp [am_c, am_up] at *; omega))
theorem w_waysOf_X2_29 {l : Launch} {μ : am_N} {Q : Option am_V → am_N → Prop} {ν : am_N} (d : Int) (hS : sx ν μ)  (k : ∀ r μ', sx ν μ' → Q (some (.inl r)) μ') : am_Does l 30 [.inr (.inr 29), .inl d] μ Q := by
  refine am_Does_of (Nat.le_of_ble_eq_true rfl) (Nat.le_of_ble_eq_true rfl) (Nat.le_of_ble_eq_true rfl) ?_
  have hb := sx_all hS
  have lp10 : ∀ (m : Nat) (q s i : Int) (o5 : Option am_V) (μ : am_N) , sx ν μ → 0 ≤ i → (i ≤ am_c q ∨ i = 0) → max (am_c q - i) 0 < (m : Int) → am_AW l 0 (fun _ => 0) 30 Q 10 [some (.inr (.inr 29)), some (.inl d), some (.inl q), some (.inl s), some (.inl i), o5] [] μ := by
    intro m
    induction m with
    | zero =>
      intro q s i o5 μ hv0 hv1 hv2 hm
      have hb := sx_all hv0
      exfalso
      omega
    | succ m ih =>
      intro q s i o5 μ hv0 hv1 hv2 hm
      have hb := sx_all hv0
      refine am_go (ct := fun pc => Nat.beq pc 10) am_oX2_waysOf 300 ?_
      conv => whnf
      repeat' first
        | (refine (?_ : am_wp _ _ _ _ _ _ _ _ _ _ _ _); conv => whnf)
        | (refine (?_ : am_sw _ _ _ _); conv => whnf)
        | refine And.intro trivial ?_
        | exact trivial
        | (with_reducible assumption)
        | ((with_reducible refine (?_ : _ ∧ _)); first | (with_reducible first | refine am_jn am_q1 ?_ | refine am_jn am_q2 ?_ | refine am_jn am_q3 ?_ | refine am_jn am_q4 ?_ | refine am_jn am_q6 ?_ | refine am_jn am_q9 ?_ | refine am_jn am_p1 ?_ | refine am_jy am_p0 ?_ | refine am_kn am_q1 ?_ | refine am_kn am_q2 ?_ | refine am_kn am_q3 ?_ | refine am_kn am_q4 ?_ | refine am_kn am_q6 ?_ | refine am_kn am_q9 ?_ | refine am_kn am_p1 ?_ | refine am_ky am_p0 ?_) | refine And.intro (fun h => absurd h (by decide)) (fun _ => ?_) | refine And.intro (fun _ => ?_) (fun h => absurd (by decide) h) | refine And.intro (fun _ => ?_) (fun _ => ?_) | refine And.intro ?_ ?_)
        | refine k _ _ ?_
        | refine sx_up ?_ rfl
        | ((with_reducible refine (?_ : am_Does _ 28 _ _ _)); refine w_outcomes_X2_29 (ν := ν)  ?_  (fun _ => ?_))
        | ((with_reducible refine (?_ : am_Does _ 29 _ _ _)); refine w_deal_X2_29 (ν := ν) _ ?_  (fun _ _ _ => ?_))
        | ((with_reducible refine (?_ : am_Does _ 40 _ _ _)); refine w_digits_X2_29 (ν := ν)  ?_  (fun _ => ?_))
        | ((with_reducible refine (?_ : am_AW _ _ _ _ _ 10 _ _ _)); refine ih _ _ _ _ _ ?_ ?_ ?_ ?_)
        | refine And.intro (fun h => absurd h (by decide)) (fun _ => ?_)
        | refine And.intro (fun _ => ?_) (fun h => absurd (by decide) h)
        | refine And.intro (fun _ => ?_) (fun _ => ?_)
        | refine And.intro ?_ ?_
      all_goals (first | (with_reducible assumption) | omega | assumption | (simp only [am_c, am_up] at *; omega) | (simp [am_c, am_up] at *; omega))
  have lp10' : ∀ (q s i : Int) (o5 : Option am_V) (μ : am_N) , sx ν μ → 0 ≤ i → (i ≤ am_c q ∨ i = 0) → am_AW l 0 (fun _ => 0) 30 Q 10 [some (.inr (.inr 29)), some (.inl d), some (.inl q), some (.inl s), some (.inl i), o5] [] μ := fun q s i o5 μ hv0 hv1 hv2 => lp10 ((max (am_c q - i) 0) + 1).toNat q s i o5 μ hv0 hv1 hv2 (by omega)
  refine am_go (ct := fun pc => Nat.beq pc 10) am_oX2_waysOf 300 ?_
  conv => whnf
  repeat' first
    | (refine (?_ : am_wp _ _ _ _ _ _ _ _ _ _ _ _); conv => whnf)
    | (refine (?_ : am_sw _ _ _ _); conv => whnf)
    | refine And.intro trivial ?_
    | exact trivial
    | (with_reducible assumption)
    | ((with_reducible refine (?_ : _ ∧ _)); first | (with_reducible first | refine am_jn am_q1 ?_ | refine am_jn am_q2 ?_ | refine am_jn am_q3 ?_ | refine am_jn am_q4 ?_ | refine am_jn am_q6 ?_ | refine am_jn am_q9 ?_ | refine am_jn am_p1 ?_ | refine am_jy am_p0 ?_ | refine am_kn am_q1 ?_ | refine am_kn am_q2 ?_ | refine am_kn am_q3 ?_ | refine am_kn am_q4 ?_ | refine am_kn am_q6 ?_ | refine am_kn am_q9 ?_ | refine am_kn am_p1 ?_ | refine am_ky am_p0 ?_) | refine And.intro (fun h => absurd h (by decide)) (fun _ => ?_) | refine And.intro (fun _ => ?_) (fun h => absurd (by decide) h) | refine And.intro (fun _ => ?_) (fun _ => ?_) | refine And.intro ?_ ?_)
    | refine k _ _ ?_
    | refine sx_up ?_ rfl
    | ((with_reducible refine (?_ : am_Does _ 28 _ _ _)); refine w_outcomes_X2_29 (ν := ν)  ?_  (fun _ => ?_))
    | ((with_reducible refine (?_ : am_Does _ 29 _ _ _)); refine w_deal_X2_29 (ν := ν) _ ?_  (fun _ _ _ => ?_))
    | ((with_reducible refine (?_ : am_Does _ 40 _ _ _)); refine w_digits_X2_29 (ν := ν)  ?_  (fun _ => ?_))
    | ((with_reducible refine (?_ : am_AW _ _ _ _ _ 10 _ _ _)); refine lp10' _ _ _ _ _ ?_ ?_ ?_)
    | refine And.intro (fun h => absurd h (by decide)) (fun _ => ?_)
    | refine And.intro (fun _ => ?_) (fun h => absurd (by decide) h)
    | refine And.intro (fun _ => ?_) (fun _ => ?_)
    | refine And.intro ?_ ?_
  all_goals (first | (with_reducible assumption) | omega | assumption | (simp only [am_c, am_up] at *; omega) | (simp [am_c, am_up] at *; omega))
theorem w_gapInAllWays_X2_29 {l : Launch} {μ : am_N} {Q : Option am_V → am_N → Prop} {ν : am_N}  (hS : sx ν μ)  (k : ∀ r μ', sx ν μ' → Q (some (.inl r)) μ') : am_Does l 31 [.inr (.inr 29)] μ Q := by
  refine am_Does_of (Nat.le_of_ble_eq_true rfl) (Nat.le_of_ble_eq_true rfl) (Nat.le_of_ble_eq_true rfl) ?_
  have hb := sx_all hS
  have lp9 : ∀ (m : Nat) (q s i : Int) (o4 : Option am_V) (μ : am_N) , sx ν μ → 0 ≤ i → (i ≤ am_c q ∨ i = 0) → max (am_c q - i) 0 < (m : Int) → am_AW l 0 (fun _ => 0) 31 Q 9 [some (.inr (.inr 29)), some (.inl q), some (.inl s), some (.inl i), o4] [] μ := by
    intro m
    induction m with
    | zero =>
      intro q s i o4 μ hv0 hv1 hv2 hm
      have hb := sx_all hv0
      exfalso
      omega
    | succ m ih =>
      intro q s i o4 μ hv0 hv1 hv2 hm
      have hb := sx_all hv0
      refine am_go (ct := fun pc => Nat.beq pc 9) am_oX2_gapInAllWays 300 ?_
      conv => whnf
      repeat' first
        | (refine (?_ : am_wp _ _ _ _ _ _ _ _ _ _ _ _); conv => whnf)
        | (refine (?_ : am_sw _ _ _ _); conv => whnf)
        | refine And.intro trivial ?_
        | exact trivial
        | (with_reducible assumption)
        | ((with_reducible refine (?_ : _ ∧ _)); first | (with_reducible first | refine am_jn am_q1 ?_ | refine am_jn am_q2 ?_ | refine am_jn am_q3 ?_ | refine am_jn am_q4 ?_ | refine am_jn am_q6 ?_ | refine am_jn am_q9 ?_ | refine am_jn am_p1 ?_ | refine am_jy am_p0 ?_ | refine am_kn am_q1 ?_ | refine am_kn am_q2 ?_ | refine am_kn am_q3 ?_ | refine am_kn am_q4 ?_ | refine am_kn am_q6 ?_ | refine am_kn am_q9 ?_ | refine am_kn am_p1 ?_ | refine am_ky am_p0 ?_) | refine And.intro (fun h => absurd h (by decide)) (fun _ => ?_) | refine And.intro (fun _ => ?_) (fun h => absurd (by decide) h) | refine And.intro (fun _ => ?_) (fun _ => ?_) | refine And.intro ?_ ?_)
        | refine k _ _ ?_
        | refine sx_up ?_ rfl
        | ((with_reducible refine (?_ : am_Does _ 28 _ _ _)); refine w_outcomes_X2_29 (ν := ν)  ?_  (fun _ => ?_))
        | ((with_reducible refine (?_ : am_Does _ 29 _ _ _)); refine w_deal_X2_29 (ν := ν) _ ?_  (fun _ _ _ => ?_))
        | ((with_reducible refine (?_ : am_Does _ 39 _ _ _)); refine w_gap_X2_29 (ν := ν)  ?_  (fun _ => ?_))
        | ((with_reducible refine (?_ : am_AW _ _ _ _ _ 9 _ _ _)); refine ih _ _ _ _ _ ?_ ?_ ?_ ?_)
        | refine And.intro (fun h => absurd h (by decide)) (fun _ => ?_)
        | refine And.intro (fun _ => ?_) (fun h => absurd (by decide) h)
        | refine And.intro (fun _ => ?_) (fun _ => ?_)
        | refine And.intro ?_ ?_
      all_goals (first | (with_reducible assumption) | omega | assumption | (simp only [am_c, am_up] at *; omega) | (simp [am_c, am_up] at *; omega))
  have lp9' : ∀ (q s i : Int) (o4 : Option am_V) (μ : am_N) , sx ν μ → 0 ≤ i → (i ≤ am_c q ∨ i = 0) → am_AW l 0 (fun _ => 0) 31 Q 9 [some (.inr (.inr 29)), some (.inl q), some (.inl s), some (.inl i), o4] [] μ := fun q s i o4 μ hv0 hv1 hv2 => lp9 ((max (am_c q - i) 0) + 1).toNat q s i o4 μ hv0 hv1 hv2 (by omega)
  refine am_go (ct := fun pc => Nat.beq pc 9) am_oX2_gapInAllWays 300 ?_
  conv => whnf
  repeat' first
    | (refine (?_ : am_wp _ _ _ _ _ _ _ _ _ _ _ _); conv => whnf)
    | (refine (?_ : am_sw _ _ _ _); conv => whnf)
    | refine And.intro trivial ?_
    | exact trivial
    | (with_reducible assumption)
    | ((with_reducible refine (?_ : _ ∧ _)); first | (with_reducible first | refine am_jn am_q1 ?_ | refine am_jn am_q2 ?_ | refine am_jn am_q3 ?_ | refine am_jn am_q4 ?_ | refine am_jn am_q6 ?_ | refine am_jn am_q9 ?_ | refine am_jn am_p1 ?_ | refine am_jy am_p0 ?_ | refine am_kn am_q1 ?_ | refine am_kn am_q2 ?_ | refine am_kn am_q3 ?_ | refine am_kn am_q4 ?_ | refine am_kn am_q6 ?_ | refine am_kn am_q9 ?_ | refine am_kn am_p1 ?_ | refine am_ky am_p0 ?_) | refine And.intro (fun h => absurd h (by decide)) (fun _ => ?_) | refine And.intro (fun _ => ?_) (fun h => absurd (by decide) h) | refine And.intro (fun _ => ?_) (fun _ => ?_) | refine And.intro ?_ ?_)
    | refine k _ _ ?_
    | refine sx_up ?_ rfl
    | ((with_reducible refine (?_ : am_Does _ 28 _ _ _)); refine w_outcomes_X2_29 (ν := ν)  ?_  (fun _ => ?_))
    | ((with_reducible refine (?_ : am_Does _ 29 _ _ _)); refine w_deal_X2_29 (ν := ν) _ ?_  (fun _ _ _ => ?_))
    | ((with_reducible refine (?_ : am_Does _ 39 _ _ _)); refine w_gap_X2_29 (ν := ν)  ?_  (fun _ => ?_))
    | ((with_reducible refine (?_ : am_AW _ _ _ _ _ 9 _ _ _)); refine lp9' _ _ _ _ _ ?_ ?_ ?_)
    | refine And.intro (fun h => absurd h (by decide)) (fun _ => ?_)
    | refine And.intro (fun _ => ?_) (fun h => absurd (by decide) h)
    | refine And.intro (fun _ => ?_) (fun _ => ?_)
    | refine And.intro ?_ ?_
  all_goals (first | (with_reducible assumption) | omega | assumption | (simp only [am_c, am_up] at *; omega) | (simp [am_c, am_up] at *; omega))
theorem w_behind_X2_29_8 {l : Launch} {μ : am_N} {Q : Option am_V → am_N → Prop} {ν : am_N}  (hS : sx ν μ)  (k : ∀ μ', sx ν μ' → Q none μ') : am_Does l 35 [.inr (.inr 29), .inr (.inr 8)] μ Q := by
  refine am_Does_of (Nat.le_of_ble_eq_true rfl) (Nat.le_of_ble_eq_true rfl) (Nat.le_of_ble_eq_true rfl) ?_
  have hb := sx_all hS
  refine am_go (ct := fun _ => false) am_oX2_behind 300 ?_
  conv => whnf
  repeat' first
    | (refine (?_ : am_wp _ _ _ _ _ _ _ _ _ _ _ _); conv => whnf)
    | (refine (?_ : am_sw _ _ _ _); conv => whnf)
    | refine And.intro trivial ?_
    | exact trivial
    | (with_reducible assumption)
    | ((with_reducible refine (?_ : _ ∧ _)); first | (with_reducible first | refine am_jn am_q1 ?_ | refine am_jn am_q2 ?_ | refine am_jn am_q3 ?_ | refine am_jn am_q4 ?_ | refine am_jn am_q6 ?_ | refine am_jn am_q9 ?_ | refine am_jn am_p1 ?_ | refine am_jy am_p0 ?_ | refine am_kn am_q1 ?_ | refine am_kn am_q2 ?_ | refine am_kn am_q3 ?_ | refine am_kn am_q4 ?_ | refine am_kn am_q6 ?_ | refine am_kn am_q9 ?_ | refine am_kn am_p1 ?_ | refine am_ky am_p0 ?_) | refine And.intro (fun h => absurd h (by decide)) (fun _ => ?_) | refine And.intro (fun _ => ?_) (fun h => absurd (by decide) h) | refine And.intro (fun _ => ?_) (fun _ => ?_) | refine And.intro ?_ ?_)
    | refine k _ ?_
    | refine sx_up ?_ rfl
    | ((with_reducible refine (?_ : am_Does _ 37 _ _ _)); first | ((with_reducible refine (?_ : am_Does _ 37 (Sum.inr (Sum.inr 29) :: _) _ _)); refine w_first_X2_29 (ν := ν)  ?_  (fun _ => ?_)) | ((with_reducible refine (?_ : am_Does _ 37 (Sum.inr (Sum.inr 38) :: _) _ _)); refine w_first_X2_38 (ν := ν)  ?_  (fun _ => ?_)) | refine w_first_X2_29 (ν := ν)  ?_  (fun _ => ?_) | refine w_first_X2_38 (ν := ν)  ?_  (fun _ => ?_))
    | ((with_reducible refine (?_ : am_Does _ 38 _ _ _)); first | ((with_reducible refine (?_ : am_Does _ 38 (Sum.inr (Sum.inr 29) :: _) _ _)); refine w_last_X2_29 (ν := ν)  ?_  (fun _ => ?_)) | ((with_reducible refine (?_ : am_Does _ 38 (Sum.inr (Sum.inr 38) :: _) _ _)); refine w_last_X2_38 (ν := ν)  ?_  (fun _ => ?_)) | refine w_last_X2_29 (ν := ν)  ?_  (fun _ => ?_) | refine w_last_X2_38 (ν := ν)  ?_  (fun _ => ?_))
    | ((with_reducible refine (?_ : am_Does _ 12 _ _ _)); first | ((with_reducible refine (?_ : am_Does _ 12 (Sum.inr (Sum.inr 8) :: _) _ _)); refine w_mend_X0_8 (ν := ν) _ _ ?_  (fun _ _ => ?_)) | ((with_reducible refine (?_ : am_Does _ 12 (Sum.inr (Sum.inr 15) :: _) _ _)); refine w_mend_X0_15 (ν := ν) _ _ ?_  (fun _ _ => ?_)) | refine w_mend_X0_8 (ν := ν) _ _ ?_  (fun _ _ => ?_) | refine w_mend_X0_15 (ν := ν) _ _ ?_  (fun _ _ => ?_))
    | refine And.intro (fun h => absurd h (by decide)) (fun _ => ?_)
    | refine And.intro (fun _ => ?_) (fun h => absurd (by decide) h)
    | refine And.intro (fun _ => ?_) (fun _ => ?_)
    | refine And.intro ?_ ?_
  all_goals (first | (with_reducible assumption) | omega | assumption | (simp only [am_c, am_up] at *; omega) | (simp [am_c, am_up] at *; omega))
theorem w_behind_X2_29_15 {l : Launch} {μ : am_N} {Q : Option am_V → am_N → Prop} {ν : am_N}  (hS : sx ν μ)  (k : ∀ μ', sx ν μ' → Q none μ') : am_Does l 35 [.inr (.inr 29), .inr (.inr 15)] μ Q := by
  refine am_Does_of (Nat.le_of_ble_eq_true rfl) (Nat.le_of_ble_eq_true rfl) (Nat.le_of_ble_eq_true rfl) ?_
  have hb := sx_all hS
  refine am_go (ct := fun _ => false) am_oX2_behind 300 ?_
  conv => whnf
  repeat' first
    | (refine (?_ : am_wp _ _ _ _ _ _ _ _ _ _ _ _); conv => whnf)
    | (refine (?_ : am_sw _ _ _ _); conv => whnf)
    | refine And.intro trivial ?_
    | exact trivial
    | (with_reducible assumption)
    | ((with_reducible refine (?_ : _ ∧ _)); first | (with_reducible first | refine am_jn am_q1 ?_ | refine am_jn am_q2 ?_ | refine am_jn am_q3 ?_ | refine am_jn am_q4 ?_ | refine am_jn am_q6 ?_ | refine am_jn am_q9 ?_ | refine am_jn am_p1 ?_ | refine am_jy am_p0 ?_ | refine am_kn am_q1 ?_ | refine am_kn am_q2 ?_ | refine am_kn am_q3 ?_ | refine am_kn am_q4 ?_ | refine am_kn am_q6 ?_ | refine am_kn am_q9 ?_ | refine am_kn am_p1 ?_ | refine am_ky am_p0 ?_) | refine And.intro (fun h => absurd h (by decide)) (fun _ => ?_) | refine And.intro (fun _ => ?_) (fun h => absurd (by decide) h) | refine And.intro (fun _ => ?_) (fun _ => ?_) | refine And.intro ?_ ?_)
    | refine k _ ?_
    | refine sx_up ?_ rfl
    | ((with_reducible refine (?_ : am_Does _ 37 _ _ _)); first | ((with_reducible refine (?_ : am_Does _ 37 (Sum.inr (Sum.inr 29) :: _) _ _)); refine w_first_X2_29 (ν := ν)  ?_  (fun _ => ?_)) | ((with_reducible refine (?_ : am_Does _ 37 (Sum.inr (Sum.inr 38) :: _) _ _)); refine w_first_X2_38 (ν := ν)  ?_  (fun _ => ?_)) | refine w_first_X2_29 (ν := ν)  ?_  (fun _ => ?_) | refine w_first_X2_38 (ν := ν)  ?_  (fun _ => ?_))
    | ((with_reducible refine (?_ : am_Does _ 38 _ _ _)); first | ((with_reducible refine (?_ : am_Does _ 38 (Sum.inr (Sum.inr 29) :: _) _ _)); refine w_last_X2_29 (ν := ν)  ?_  (fun _ => ?_)) | ((with_reducible refine (?_ : am_Does _ 38 (Sum.inr (Sum.inr 38) :: _) _ _)); refine w_last_X2_38 (ν := ν)  ?_  (fun _ => ?_)) | refine w_last_X2_29 (ν := ν)  ?_  (fun _ => ?_) | refine w_last_X2_38 (ν := ν)  ?_  (fun _ => ?_))
    | ((with_reducible refine (?_ : am_Does _ 12 _ _ _)); first | ((with_reducible refine (?_ : am_Does _ 12 (Sum.inr (Sum.inr 8) :: _) _ _)); refine w_mend_X0_8 (ν := ν) _ _ ?_  (fun _ _ => ?_)) | ((with_reducible refine (?_ : am_Does _ 12 (Sum.inr (Sum.inr 15) :: _) _ _)); refine w_mend_X0_15 (ν := ν) _ _ ?_  (fun _ _ => ?_)) | refine w_mend_X0_8 (ν := ν) _ _ ?_  (fun _ _ => ?_) | refine w_mend_X0_15 (ν := ν) _ _ ?_  (fun _ _ => ?_))
    | refine And.intro (fun h => absurd h (by decide)) (fun _ => ?_)
    | refine And.intro (fun _ => ?_) (fun h => absurd (by decide) h)
    | refine And.intro (fun _ => ?_) (fun _ => ?_)
    | refine And.intro ?_ ?_
  all_goals (first | (with_reducible assumption) | omega | assumption | (simp only [am_c, am_up] at *; omega) | (simp [am_c, am_up] at *; omega))
theorem w_goOn_X2_29_8 {l : Launch} {μ : am_N} {Q : Option am_V → am_N → Prop} {ν : am_N}  (hS : sx ν μ)  (k : ∀ r μ', sx ν μ' → Q (some (.inl r)) μ') : am_Does l 34 [.inr (.inr 29), .inr (.inr 8)] μ Q := by
  refine am_Does_of (Nat.le_of_ble_eq_true rfl) (Nat.le_of_ble_eq_true rfl) (Nat.le_of_ble_eq_true rfl) ?_
  have hb := sx_all hS
  refine am_go (ct := fun _ => false) am_oX2_goOn 300 ?_
  conv => whnf
  repeat' first
    | (refine (?_ : am_wp _ _ _ _ _ _ _ _ _ _ _ _); conv => whnf)
    | (refine (?_ : am_sw _ _ _ _); conv => whnf)
    | refine And.intro trivial ?_
    | exact trivial
    | (with_reducible assumption)
    | ((with_reducible refine (?_ : _ ∧ _)); first | (with_reducible first | refine am_jn am_q1 ?_ | refine am_jn am_q2 ?_ | refine am_jn am_q3 ?_ | refine am_jn am_q4 ?_ | refine am_jn am_q6 ?_ | refine am_jn am_q9 ?_ | refine am_jn am_p1 ?_ | refine am_jy am_p0 ?_ | refine am_kn am_q1 ?_ | refine am_kn am_q2 ?_ | refine am_kn am_q3 ?_ | refine am_kn am_q4 ?_ | refine am_kn am_q6 ?_ | refine am_kn am_q9 ?_ | refine am_kn am_p1 ?_ | refine am_ky am_p0 ?_) | refine And.intro (fun h => absurd h (by decide)) (fun _ => ?_) | refine And.intro (fun _ => ?_) (fun h => absurd (by decide) h) | refine And.intro (fun _ => ?_) (fun _ => ?_) | refine And.intro ?_ ?_)
    | refine k _ _ ?_
    | refine sx_up ?_ rfl
    | ((with_reducible refine (?_ : am_Does _ 33 _ _ _)); first | ((with_reducible refine (?_ : am_Does _ 33 (Sum.inr (Sum.inr 29) :: Sum.inr (Sum.inr 1) :: _) _ _)); refine w_asRule_X2_29_1 (ν := ν)  ?_  (fun _ _ => ?_)) | ((with_reducible refine (?_ : am_Does _ 33 (Sum.inr (Sum.inr 29) :: Sum.inr (Sum.inr 8) :: _) _ _)); refine w_asRule_X2_29_8 (ν := ν)  ?_  (fun _ _ => ?_)) | ((with_reducible refine (?_ : am_Does _ 33 (Sum.inr (Sum.inr 29) :: Sum.inr (Sum.inr 15) :: _) _ _)); refine w_asRule_X2_29_15 (ν := ν)  ?_  (fun _ _ => ?_)) | ((with_reducible refine (?_ : am_Does _ 33 (Sum.inr (Sum.inr 38) :: Sum.inr (Sum.inr 8) :: _) _ _)); refine w_asRule_X2_38_8 (ν := ν)  ?_  (fun _ _ => ?_)) | refine w_asRule_X2_29_1 (ν := ν)  ?_  (fun _ _ => ?_) | refine w_asRule_X2_29_8 (ν := ν)  ?_  (fun _ _ => ?_) | refine w_asRule_X2_29_15 (ν := ν)  ?_  (fun _ _ => ?_) | refine w_asRule_X2_38_8 (ν := ν)  ?_  (fun _ _ => ?_))
    | ((with_reducible refine (?_ : am_Does _ 37 _ _ _)); first | ((with_reducible refine (?_ : am_Does _ 37 (Sum.inr (Sum.inr 29) :: _) _ _)); refine w_first_X2_29 (ν := ν)  ?_  (fun _ => ?_)) | ((with_reducible refine (?_ : am_Does _ 37 (Sum.inr (Sum.inr 38) :: _) _ _)); refine w_first_X2_38 (ν := ν)  ?_  (fun _ => ?_)) | refine w_first_X2_29 (ν := ν)  ?_  (fun _ => ?_) | refine w_first_X2_38 (ν := ν)  ?_  (fun _ => ?_))
    | ((with_reducible refine (?_ : am_Does _ 1 _ _ _)); first | ((with_reducible refine (?_ : am_Does _ 1 (Sum.inr (Sum.inr 1) :: _) _ _)); refine w_has_X0_1 (ν := ν) _ ?_ (fun _ _ _ => ?_) (fun _ => ?_)) | ((with_reducible refine (?_ : am_Does _ 1 (Sum.inr (Sum.inr 8) :: _) _ _)); refine w_has_X0_8 (ν := ν) _ ?_ (fun _ _ _ => ?_) (fun _ => ?_)) | ((with_reducible refine (?_ : am_Does _ 1 (Sum.inr (Sum.inr 15) :: _) _ _)); refine w_has_X0_15 (ν := ν) _ ?_ (fun _ _ _ => ?_) (fun _ => ?_)) | refine w_has_X0_1 (ν := ν) _ ?_ (fun _ _ _ => ?_) (fun _ => ?_) | refine w_has_X0_8 (ν := ν) _ ?_ (fun _ _ _ => ?_) (fun _ => ?_) | refine w_has_X0_15 (ν := ν) _ ?_ (fun _ _ _ => ?_) (fun _ => ?_))
    | ((with_reducible refine (?_ : am_Does _ 35 _ _ _)); first | ((with_reducible refine (?_ : am_Does _ 35 (Sum.inr (Sum.inr 38) :: Sum.inr (Sum.inr 8) :: _) _ _)); refine w_behind_X2_38_8 (ν := ν)  ?_  (fun _ _ => ?_)) | ((with_reducible refine (?_ : am_Does _ 35 (Sum.inr (Sum.inr 29) :: Sum.inr (Sum.inr 8) :: _) _ _)); refine w_behind_X2_29_8 (ν := ν)  ?_  (fun _ _ => ?_)) | ((with_reducible refine (?_ : am_Does _ 35 (Sum.inr (Sum.inr 29) :: Sum.inr (Sum.inr 15) :: _) _ _)); refine w_behind_X2_29_15 (ν := ν)  ?_  (fun _ _ => ?_)) | refine w_behind_X2_38_8 (ν := ν)  ?_  (fun _ _ => ?_) | refine w_behind_X2_29_8 (ν := ν)  ?_  (fun _ _ => ?_) | refine w_behind_X2_29_15 (ν := ν)  ?_  (fun _ _ => ?_))
    | refine And.intro (fun h => absurd h (by decide)) (fun _ => ?_)
    | refine And.intro (fun _ => ?_) (fun h => absurd (by decide) h)
    | refine And.intro (fun _ => ?_) (fun _ => ?_)
    | refine And.intro ?_ ?_
  all_goals (first | (with_reducible assumption) | omega | assumption | (simp only [am_c, am_up] at *; omega) | (simp [am_c, am_up] at *; omega))
/-! contracts: rows, the habit, the teller (weak) -/
theorem w_at_X3_36 {l : Launch} {μ : am_N} {Q : Option am_V → am_N → Prop} {ν : am_N} (i : Int) (hS : sx ν μ)  (k : ∀ r, Q (some (.inl r)) μ) : am_Does l 43 [.inr (.inr 36), .inl i] μ Q := by
  refine am_Does_of (Nat.le_of_ble_eq_true rfl) (Nat.le_of_ble_eq_true rfl) (Nat.le_of_ble_eq_true rfl) ?_
  have hb := sx_all hS
  refine am_go (ct := fun _ => false) am_oX3_at 300 ?_
  conv => whnf
  repeat' first
    | (refine (?_ : am_wp _ _ _ _ _ _ _ _ _ _ _ _); conv => whnf)
    | (refine (?_ : am_sw _ _ _ _); conv => whnf)
    | refine And.intro trivial ?_
    | exact trivial
    | (with_reducible assumption)
    | ((with_reducible refine (?_ : _ ∧ _)); first | (with_reducible first | refine am_jn am_q1 ?_ | refine am_jn am_q2 ?_ | refine am_jn am_q3 ?_ | refine am_jn am_q4 ?_ | refine am_jn am_q6 ?_ | refine am_jn am_q9 ?_ | refine am_jn am_p1 ?_ | refine am_jy am_p0 ?_ | refine am_kn am_q1 ?_ | refine am_kn am_q2 ?_ | refine am_kn am_q3 ?_ | refine am_kn am_q4 ?_ | refine am_kn am_q6 ?_ | refine am_kn am_q9 ?_ | refine am_kn am_p1 ?_ | refine am_ky am_p0 ?_) | refine And.intro (fun h => absurd h (by decide)) (fun _ => ?_) | refine And.intro (fun _ => ?_) (fun h => absurd (by decide) h) | refine And.intro (fun _ => ?_) (fun _ => ?_) | refine And.intro ?_ ?_)
    | exact k _
    | refine sx_up ?_ rfl
    | refine And.intro (fun h => absurd h (by decide)) (fun _ => ?_)
    | refine And.intro (fun _ => ?_) (fun h => absurd (by decide) h)
    | refine And.intro (fun _ => ?_) (fun _ => ?_)
    | refine And.intro ?_ ?_
  all_goals (first | (with_reducible assumption) | decide | omega | assumption | (intros; omega) | (intros; simp only [am_c] at * <;> omega) | (simp only [am_c, am_up] at * <;> omega) | (simp [am_c, am_up] at * <;> omega))
theorem w_at_X3_44 {l : Launch} {μ : am_N} {Q : Option am_V → am_N → Prop} {ν : am_N} (i : Int) (hS : sx ν μ)  (k : ∀ r, Q (some (.inl r)) μ) : am_Does l 43 [.inr (.inr 44), .inl i] μ Q := by
  refine am_Does_of (Nat.le_of_ble_eq_true rfl) (Nat.le_of_ble_eq_true rfl) (Nat.le_of_ble_eq_true rfl) ?_
  have hb := sx_all hS
  refine am_go (ct := fun _ => false) am_oX3_at 300 ?_
  conv => whnf
  repeat' first
    | (refine (?_ : am_wp _ _ _ _ _ _ _ _ _ _ _ _); conv => whnf)
    | (refine (?_ : am_sw _ _ _ _); conv => whnf)
    | refine And.intro trivial ?_
    | exact trivial
    | (with_reducible assumption)
    | ((with_reducible refine (?_ : _ ∧ _)); first | (with_reducible first | refine am_jn am_q1 ?_ | refine am_jn am_q2 ?_ | refine am_jn am_q3 ?_ | refine am_jn am_q4 ?_ | refine am_jn am_q6 ?_ | refine am_jn am_q9 ?_ | refine am_jn am_p1 ?_ | refine am_jy am_p0 ?_ | refine am_kn am_q1 ?_ | refine am_kn am_q2 ?_ | refine am_kn am_q3 ?_ | refine am_kn am_q4 ?_ | refine am_kn am_q6 ?_ | refine am_kn am_q9 ?_ | refine am_kn am_p1 ?_ | refine am_ky am_p0 ?_) | refine And.intro (fun h => absurd h (by decide)) (fun _ => ?_) | refine And.intro (fun _ => ?_) (fun h => absurd (by decide) h) | refine And.intro (fun _ => ?_) (fun _ => ?_) | refine And.intro ?_ ?_)
    | exact k _
    | refine sx_up ?_ rfl
    | refine And.intro (fun h => absurd h (by decide)) (fun _ => ?_)
    | refine And.intro (fun _ => ?_) (fun h => absurd (by decide) h)
    | refine And.intro (fun _ => ?_) (fun _ => ?_)
    | refine And.intro ?_ ?_
  all_goals (first | (with_reducible assumption) | decide | omega | assumption | (intros; omega) | (intros; simp only [am_c] at * <;> omega) | (simp only [am_c, am_up] at * <;> omega) | (simp [am_c, am_up] at * <;> omega))
theorem w_at_X3_46 {l : Launch} {μ : am_N} {Q : Option am_V → am_N → Prop} {ν : am_N} (i : Int) (hS : sx ν μ)  (k : ∀ r, Q (some (.inl r)) μ) : am_Does l 43 [.inr (.inr 46), .inl i] μ Q := by
  refine am_Does_of (Nat.le_of_ble_eq_true rfl) (Nat.le_of_ble_eq_true rfl) (Nat.le_of_ble_eq_true rfl) ?_
  have hb := sx_all hS
  refine am_go (ct := fun _ => false) am_oX3_at 300 ?_
  conv => whnf
  repeat' first
    | (refine (?_ : am_wp _ _ _ _ _ _ _ _ _ _ _ _); conv => whnf)
    | (refine (?_ : am_sw _ _ _ _); conv => whnf)
    | refine And.intro trivial ?_
    | exact trivial
    | (with_reducible assumption)
    | ((with_reducible refine (?_ : _ ∧ _)); first | (with_reducible first | refine am_jn am_q1 ?_ | refine am_jn am_q2 ?_ | refine am_jn am_q3 ?_ | refine am_jn am_q4 ?_ | refine am_jn am_q6 ?_ | refine am_jn am_q9 ?_ | refine am_jn am_p1 ?_ | refine am_jy am_p0 ?_ | refine am_kn am_q1 ?_ | refine am_kn am_q2 ?_ | refine am_kn am_q3 ?_ | refine am_kn am_q4 ?_ | refine am_kn am_q6 ?_ | refine am_kn am_q9 ?_ | refine am_kn am_p1 ?_ | refine am_ky am_p0 ?_) | refine And.intro (fun h => absurd h (by decide)) (fun _ => ?_) | refine And.intro (fun _ => ?_) (fun h => absurd (by decide) h) | refine And.intro (fun _ => ?_) (fun _ => ?_) | refine And.intro ?_ ?_)
    | exact k _
    | refine sx_up ?_ rfl
    | refine And.intro (fun h => absurd h (by decide)) (fun _ => ?_)
    | refine And.intro (fun _ => ?_) (fun h => absurd (by decide) h)
    | refine And.intro (fun _ => ?_) (fun _ => ?_)
    | refine And.intro ?_ ?_
  all_goals (first | (with_reducible assumption) | decide | omega | assumption | (intros; omega) | (intros; simp only [am_c] at * <;> omega) | (simp only [am_c, am_up] at * <;> omega) | (simp [am_c, am_up] at * <;> omega))
theorem w_at_X3_48 {l : Launch} {μ : am_N} {Q : Option am_V → am_N → Prop} {ν : am_N} (i : Int) (hS : sx ν μ)  (k : ∀ r, Q (some (.inl r)) μ) : am_Does l 43 [.inr (.inr 48), .inl i] μ Q := by
  refine am_Does_of (Nat.le_of_ble_eq_true rfl) (Nat.le_of_ble_eq_true rfl) (Nat.le_of_ble_eq_true rfl) ?_
  have hb := sx_all hS
  refine am_go (ct := fun _ => false) am_oX3_at 300 ?_
  conv => whnf
  repeat' first
    | (refine (?_ : am_wp _ _ _ _ _ _ _ _ _ _ _ _); conv => whnf)
    | (refine (?_ : am_sw _ _ _ _); conv => whnf)
    | refine And.intro trivial ?_
    | exact trivial
    | (with_reducible assumption)
    | ((with_reducible refine (?_ : _ ∧ _)); first | (with_reducible first | refine am_jn am_q1 ?_ | refine am_jn am_q2 ?_ | refine am_jn am_q3 ?_ | refine am_jn am_q4 ?_ | refine am_jn am_q6 ?_ | refine am_jn am_q9 ?_ | refine am_jn am_p1 ?_ | refine am_jy am_p0 ?_ | refine am_kn am_q1 ?_ | refine am_kn am_q2 ?_ | refine am_kn am_q3 ?_ | refine am_kn am_q4 ?_ | refine am_kn am_q6 ?_ | refine am_kn am_q9 ?_ | refine am_kn am_p1 ?_ | refine am_ky am_p0 ?_) | refine And.intro (fun h => absurd h (by decide)) (fun _ => ?_) | refine And.intro (fun _ => ?_) (fun h => absurd (by decide) h) | refine And.intro (fun _ => ?_) (fun _ => ?_) | refine And.intro ?_ ?_)
    | exact k _
    | refine sx_up ?_ rfl
    | refine And.intro (fun h => absurd h (by decide)) (fun _ => ?_)
    | refine And.intro (fun _ => ?_) (fun h => absurd (by decide) h)
    | refine And.intro (fun _ => ?_) (fun _ => ?_)
    | refine And.intro ?_ ?_
  all_goals (first | (with_reducible assumption) | decide | omega | assumption | (intros; omega) | (intros; simp only [am_c] at * <;> omega) | (simp only [am_c, am_up] at * <;> omega) | (simp [am_c, am_up] at * <;> omega))
theorem w_at_X3_50 {l : Launch} {μ : am_N} {Q : Option am_V → am_N → Prop} {ν : am_N} (i : Int) (hS : sx ν μ)  (k : ∀ r, Q (some (.inl r)) μ) : am_Does l 43 [.inr (.inr 50), .inl i] μ Q := by
  refine am_Does_of (Nat.le_of_ble_eq_true rfl) (Nat.le_of_ble_eq_true rfl) (Nat.le_of_ble_eq_true rfl) ?_
  have hb := sx_all hS
  refine am_go (ct := fun _ => false) am_oX3_at 300 ?_
  conv => whnf
  repeat' first
    | (refine (?_ : am_wp _ _ _ _ _ _ _ _ _ _ _ _); conv => whnf)
    | (refine (?_ : am_sw _ _ _ _); conv => whnf)
    | refine And.intro trivial ?_
    | exact trivial
    | (with_reducible assumption)
    | ((with_reducible refine (?_ : _ ∧ _)); first | (with_reducible first | refine am_jn am_q1 ?_ | refine am_jn am_q2 ?_ | refine am_jn am_q3 ?_ | refine am_jn am_q4 ?_ | refine am_jn am_q6 ?_ | refine am_jn am_q9 ?_ | refine am_jn am_p1 ?_ | refine am_jy am_p0 ?_ | refine am_kn am_q1 ?_ | refine am_kn am_q2 ?_ | refine am_kn am_q3 ?_ | refine am_kn am_q4 ?_ | refine am_kn am_q6 ?_ | refine am_kn am_q9 ?_ | refine am_kn am_p1 ?_ | refine am_ky am_p0 ?_) | refine And.intro (fun h => absurd h (by decide)) (fun _ => ?_) | refine And.intro (fun _ => ?_) (fun h => absurd (by decide) h) | refine And.intro (fun _ => ?_) (fun _ => ?_) | refine And.intro ?_ ?_)
    | exact k _
    | refine sx_up ?_ rfl
    | refine And.intro (fun h => absurd h (by decide)) (fun _ => ?_)
    | refine And.intro (fun _ => ?_) (fun h => absurd (by decide) h)
    | refine And.intro (fun _ => ?_) (fun _ => ?_)
    | refine And.intro ?_ ?_
  all_goals (first | (with_reducible assumption) | decide | omega | assumption | (intros; omega) | (intros; simp only [am_c] at * <;> omega) | (simp only [am_c, am_up] at * <;> omega) | (simp [am_c, am_up] at * <;> omega))
theorem w_at_X3_53 {l : Launch} {μ : am_N} {Q : Option am_V → am_N → Prop} {ν : am_N} (i : Int) (hS : sx ν μ)  (k : ∀ r, Q (some (.inl r)) μ) : am_Does l 43 [.inr (.inr 53), .inl i] μ Q := by
  refine am_Does_of (Nat.le_of_ble_eq_true rfl) (Nat.le_of_ble_eq_true rfl) (Nat.le_of_ble_eq_true rfl) ?_
  have hb := sx_all hS
  refine am_go (ct := fun _ => false) am_oX3_at 300 ?_
  conv => whnf
  repeat' first
    | (refine (?_ : am_wp _ _ _ _ _ _ _ _ _ _ _ _); conv => whnf)
    | (refine (?_ : am_sw _ _ _ _); conv => whnf)
    | refine And.intro trivial ?_
    | exact trivial
    | (with_reducible assumption)
    | ((with_reducible refine (?_ : _ ∧ _)); first | (with_reducible first | refine am_jn am_q1 ?_ | refine am_jn am_q2 ?_ | refine am_jn am_q3 ?_ | refine am_jn am_q4 ?_ | refine am_jn am_q6 ?_ | refine am_jn am_q9 ?_ | refine am_jn am_p1 ?_ | refine am_jy am_p0 ?_ | refine am_kn am_q1 ?_ | refine am_kn am_q2 ?_ | refine am_kn am_q3 ?_ | refine am_kn am_q4 ?_ | refine am_kn am_q6 ?_ | refine am_kn am_q9 ?_ | refine am_kn am_p1 ?_ | refine am_ky am_p0 ?_) | refine And.intro (fun h => absurd h (by decide)) (fun _ => ?_) | refine And.intro (fun _ => ?_) (fun h => absurd (by decide) h) | refine And.intro (fun _ => ?_) (fun _ => ?_) | refine And.intro ?_ ?_)
    | exact k _
    | refine sx_up ?_ rfl
    | refine And.intro (fun h => absurd h (by decide)) (fun _ => ?_)
    | refine And.intro (fun _ => ?_) (fun h => absurd (by decide) h)
    | refine And.intro (fun _ => ?_) (fun _ => ?_)
    | refine And.intro ?_ ?_
  all_goals (first | (with_reducible assumption) | decide | omega | assumption | (intros; omega) | (intros; simp only [am_c] at * <;> omega) | (simp only [am_c, am_up] at * <;> omega) | (simp [am_c, am_up] at * <;> omega))
theorem w_at_X3_55 {l : Launch} {μ : am_N} {Q : Option am_V → am_N → Prop} {ν : am_N} (i : Int) (hS : sx ν μ)  (k : ∀ r, Q (some (.inl r)) μ) : am_Does l 43 [.inr (.inr 55), .inl i] μ Q := by
  refine am_Does_of (Nat.le_of_ble_eq_true rfl) (Nat.le_of_ble_eq_true rfl) (Nat.le_of_ble_eq_true rfl) ?_
  have hb := sx_all hS
  refine am_go (ct := fun _ => false) am_oX3_at 300 ?_
  conv => whnf
  repeat' first
    | (refine (?_ : am_wp _ _ _ _ _ _ _ _ _ _ _ _); conv => whnf)
    | (refine (?_ : am_sw _ _ _ _); conv => whnf)
    | refine And.intro trivial ?_
    | exact trivial
    | (with_reducible assumption)
    | ((with_reducible refine (?_ : _ ∧ _)); first | (with_reducible first | refine am_jn am_q1 ?_ | refine am_jn am_q2 ?_ | refine am_jn am_q3 ?_ | refine am_jn am_q4 ?_ | refine am_jn am_q6 ?_ | refine am_jn am_q9 ?_ | refine am_jn am_p1 ?_ | refine am_jy am_p0 ?_ | refine am_kn am_q1 ?_ | refine am_kn am_q2 ?_ | refine am_kn am_q3 ?_ | refine am_kn am_q4 ?_ | refine am_kn am_q6 ?_ | refine am_kn am_q9 ?_ | refine am_kn am_p1 ?_ | refine am_ky am_p0 ?_) | refine And.intro (fun h => absurd h (by decide)) (fun _ => ?_) | refine And.intro (fun _ => ?_) (fun h => absurd (by decide) h) | refine And.intro (fun _ => ?_) (fun _ => ?_) | refine And.intro ?_ ?_)
    | exact k _
    | refine sx_up ?_ rfl
    | refine And.intro (fun h => absurd h (by decide)) (fun _ => ?_)
    | refine And.intro (fun _ => ?_) (fun h => absurd (by decide) h)
    | refine And.intro (fun _ => ?_) (fun _ => ?_)
    | refine And.intro ?_ ?_
  all_goals (first | (with_reducible assumption) | decide | omega | assumption | (intros; omega) | (intros; simp only [am_c] at * <;> omega) | (simp only [am_c, am_up] at * <;> omega) | (simp [am_c, am_up] at * <;> omega))
theorem w_at_X3_58 {l : Launch} {μ : am_N} {Q : Option am_V → am_N → Prop} {ν : am_N} (i : Int) (hS : sx ν μ)  (k : ∀ r, Q (some (.inl r)) μ) : am_Does l 43 [.inr (.inr 58), .inl i] μ Q := by
  refine am_Does_of (Nat.le_of_ble_eq_true rfl) (Nat.le_of_ble_eq_true rfl) (Nat.le_of_ble_eq_true rfl) ?_
  have hb := sx_all hS
  refine am_go (ct := fun _ => false) am_oX3_at 300 ?_
  conv => whnf
  repeat' first
    | (refine (?_ : am_wp _ _ _ _ _ _ _ _ _ _ _ _); conv => whnf)
    | (refine (?_ : am_sw _ _ _ _); conv => whnf)
    | refine And.intro trivial ?_
    | exact trivial
    | (with_reducible assumption)
    | ((with_reducible refine (?_ : _ ∧ _)); first | (with_reducible first | refine am_jn am_q1 ?_ | refine am_jn am_q2 ?_ | refine am_jn am_q3 ?_ | refine am_jn am_q4 ?_ | refine am_jn am_q6 ?_ | refine am_jn am_q9 ?_ | refine am_jn am_p1 ?_ | refine am_jy am_p0 ?_ | refine am_kn am_q1 ?_ | refine am_kn am_q2 ?_ | refine am_kn am_q3 ?_ | refine am_kn am_q4 ?_ | refine am_kn am_q6 ?_ | refine am_kn am_q9 ?_ | refine am_kn am_p1 ?_ | refine am_ky am_p0 ?_) | refine And.intro (fun h => absurd h (by decide)) (fun _ => ?_) | refine And.intro (fun _ => ?_) (fun h => absurd (by decide) h) | refine And.intro (fun _ => ?_) (fun _ => ?_) | refine And.intro ?_ ?_)
    | exact k _
    | refine sx_up ?_ rfl
    | refine And.intro (fun h => absurd h (by decide)) (fun _ => ?_)
    | refine And.intro (fun _ => ?_) (fun h => absurd (by decide) h)
    | refine And.intro (fun _ => ?_) (fun _ => ?_)
    | refine And.intro ?_ ?_
  all_goals (first | (with_reducible assumption) | decide | omega | assumption | (intros; omega) | (intros; simp only [am_c] at * <;> omega) | (simp only [am_c, am_up] at * <;> omega) | (simp [am_c, am_up] at * <;> omega))
theorem w_at_X3_60 {l : Launch} {μ : am_N} {Q : Option am_V → am_N → Prop} {ν : am_N} (i : Int) (hS : sx ν μ)  (k : ∀ r, Q (some (.inl r)) μ) : am_Does l 43 [.inr (.inr 60), .inl i] μ Q := by
  refine am_Does_of (Nat.le_of_ble_eq_true rfl) (Nat.le_of_ble_eq_true rfl) (Nat.le_of_ble_eq_true rfl) ?_
  have hb := sx_all hS
  refine am_go (ct := fun _ => false) am_oX3_at 300 ?_
  conv => whnf
  repeat' first
    | (refine (?_ : am_wp _ _ _ _ _ _ _ _ _ _ _ _); conv => whnf)
    | (refine (?_ : am_sw _ _ _ _); conv => whnf)
    | refine And.intro trivial ?_
    | exact trivial
    | (with_reducible assumption)
    | ((with_reducible refine (?_ : _ ∧ _)); first | (with_reducible first | refine am_jn am_q1 ?_ | refine am_jn am_q2 ?_ | refine am_jn am_q3 ?_ | refine am_jn am_q4 ?_ | refine am_jn am_q6 ?_ | refine am_jn am_q9 ?_ | refine am_jn am_p1 ?_ | refine am_jy am_p0 ?_ | refine am_kn am_q1 ?_ | refine am_kn am_q2 ?_ | refine am_kn am_q3 ?_ | refine am_kn am_q4 ?_ | refine am_kn am_q6 ?_ | refine am_kn am_q9 ?_ | refine am_kn am_p1 ?_ | refine am_ky am_p0 ?_) | refine And.intro (fun h => absurd h (by decide)) (fun _ => ?_) | refine And.intro (fun _ => ?_) (fun h => absurd (by decide) h) | refine And.intro (fun _ => ?_) (fun _ => ?_) | refine And.intro ?_ ?_)
    | exact k _
    | refine sx_up ?_ rfl
    | refine And.intro (fun h => absurd h (by decide)) (fun _ => ?_)
    | refine And.intro (fun _ => ?_) (fun h => absurd (by decide) h)
    | refine And.intro (fun _ => ?_) (fun _ => ?_)
    | refine And.intro ?_ ?_
  all_goals (first | (with_reducible assumption) | decide | omega | assumption | (intros; omega) | (intros; simp only [am_c] at * <;> omega) | (simp only [am_c, am_up] at * <;> omega) | (simp [am_c, am_up] at * <;> omega))
theorem w_means_X1 {l : Launch} {μ : am_N} {Q : Option am_V → am_N → Prop} {ν : am_N} (a b c : Int) (hS : sx ν μ) (hb1 : b = 0 ∨ b = 1) (hc1 : c = 0 ∨ c = 1) (k : ∀ r, Q (some (.inl r)) μ) : am_Does l 20 [.inl a, .inl b, .inl c] μ Q := by
  refine am_Does_of (Nat.le_of_ble_eq_true rfl) (Nat.le_of_ble_eq_true rfl) (Nat.le_of_ble_eq_true rfl) ?_
  have hb := sx_all hS
  refine am_go (ct := fun _ => false) am_oX1_means 300 ?_
  conv => whnf
  repeat' first
    | (refine (?_ : am_wp _ _ _ _ _ _ _ _ _ _ _ _); conv => whnf)
    | (refine (?_ : am_sw _ _ _ _); conv => whnf)
    | refine And.intro trivial ?_
    | exact trivial
    | (with_reducible assumption)
    | ((with_reducible refine (?_ : _ ∧ _)); first | (with_reducible first | refine am_jn am_q1 ?_ | refine am_jn am_q2 ?_ | refine am_jn am_q3 ?_ | refine am_jn am_q4 ?_ | refine am_jn am_q6 ?_ | refine am_jn am_q9 ?_ | refine am_jn am_p1 ?_ | refine am_jy am_p0 ?_ | refine am_kn am_q1 ?_ | refine am_kn am_q2 ?_ | refine am_kn am_q3 ?_ | refine am_kn am_q4 ?_ | refine am_kn am_q6 ?_ | refine am_kn am_q9 ?_ | refine am_kn am_p1 ?_ | refine am_ky am_p0 ?_) | refine And.intro (fun h => absurd h (by decide)) (fun _ => ?_) | refine And.intro (fun _ => ?_) (fun h => absurd (by decide) h) | refine And.intro (fun _ => ?_) (fun _ => ?_) | refine And.intro ?_ ?_)
    | exact k _
    | refine sx_up ?_ rfl
    | refine And.intro (fun h => absurd h (by decide)) (fun _ => ?_)
    | refine And.intro (fun _ => ?_) (fun h => absurd (by decide) h)
    | refine And.intro (fun _ => ?_) (fun _ => ?_)
    | refine And.intro ?_ ?_
  all_goals (first | (with_reducible assumption) | decide | omega | assumption | (intros; omega) | (intros; simp only [am_c] at * <;> omega) | (simp only [am_c, am_up] at * <;> omega) | (simp [am_c, am_up] at * <;> omega))
theorem w_mend_X1 {l : Launch} {μ : am_N} {Q : Option am_V → am_N → Prop} {ν : am_N}  (hS : sx ν μ)  (k : ∀ μ', sx ν μ' → Q none μ') : am_Does l 19 [.inr (.inr 52), .inr (.inr 8), .inr (.inr 29)] μ Q := by
  refine am_Does_of (Nat.le_of_ble_eq_true rfl) (Nat.le_of_ble_eq_true rfl) (Nat.le_of_ble_eq_true rfl) ?_
  have hb := sx_all hS
  have lp16 : ∀ (m : Nat) (c i : Int) (μ : am_N) , sx ν μ → 0 ≤ i → i ≤ 4 → (∀ (o4 : Option am_V) (μ : am_N), sx ν μ → am_AW l 0 (fun _ => 0) 19 Q 2 [some (.inr (.inr 52)), some (.inr (.inr 8)), some (.inr (.inr 29)), some (.inl (c + 1)), o4] [] μ) → 4 - i < (m : Int) → am_AW l 0 (fun _ => 0) 19 Q 16 [some (.inr (.inr 52)), some (.inr (.inr 8)), some (.inr (.inr 29)), some (.inl c), some (.inl i)] [] μ := by
    intro m
    induction m with
    | zero =>
      intro c i μ hv0 hv1 hv2 hv3 hm
      have hb := sx_all hv0
      exfalso
      omega
    | succ m ih =>
      intro c i μ hv0 hv1 hv2 hv3 hm
      have hb := sx_all hv0
      refine am_go (ct := fun pc => Nat.beq pc 16 || Nat.beq pc 2) am_oX1_mend 300 ?_
      conv => whnf
      repeat' first
        | (refine (?_ : am_wp _ _ _ _ _ _ _ _ _ _ _ _); conv => whnf)
        | (refine (?_ : am_sw _ _ _ _); conv => whnf)
        | refine And.intro trivial ?_
        | exact trivial
        | (with_reducible assumption)
        | refine hv3 _ _ ?_
        | ((with_reducible refine (?_ : _ ∧ _)); first | (with_reducible first | refine am_jn am_q1 ?_ | refine am_jn am_q2 ?_ | refine am_jn am_q3 ?_ | refine am_jn am_q4 ?_ | refine am_jn am_q6 ?_ | refine am_jn am_q9 ?_ | refine am_jn am_p1 ?_ | refine am_jy am_p0 ?_ | refine am_kn am_q1 ?_ | refine am_kn am_q2 ?_ | refine am_kn am_q3 ?_ | refine am_kn am_q4 ?_ | refine am_kn am_q6 ?_ | refine am_kn am_q9 ?_ | refine am_kn am_p1 ?_ | refine am_ky am_p0 ?_) | refine And.intro (fun h => absurd h (by decide)) (fun _ => ?_) | refine And.intro (fun _ => ?_) (fun h => absurd (by decide) h) | refine And.intro (fun _ => ?_) (fun _ => ?_) | refine And.intro ?_ ?_)
        | refine k _ ?_
        | refine sx_up ?_ rfl
        | ((with_reducible refine (?_ : am_Does _ 43 _ _ _)); first | ((with_reducible refine (?_ : am_Does _ 43 (Sum.inr (Sum.inr 36) :: _) _ _)); refine w_at_X3_36 (ν := ν) _ ?_  (fun _ => ?_)) | ((with_reducible refine (?_ : am_Does _ 43 (Sum.inr (Sum.inr 44) :: _) _ _)); refine w_at_X3_44 (ν := ν) _ ?_  (fun _ => ?_)) | ((with_reducible refine (?_ : am_Does _ 43 (Sum.inr (Sum.inr 46) :: _) _ _)); refine w_at_X3_46 (ν := ν) _ ?_  (fun _ => ?_)) | ((with_reducible refine (?_ : am_Does _ 43 (Sum.inr (Sum.inr 48) :: _) _ _)); refine w_at_X3_48 (ν := ν) _ ?_  (fun _ => ?_)) | ((with_reducible refine (?_ : am_Does _ 43 (Sum.inr (Sum.inr 50) :: _) _ _)); refine w_at_X3_50 (ν := ν) _ ?_  (fun _ => ?_)) | ((with_reducible refine (?_ : am_Does _ 43 (Sum.inr (Sum.inr 53) :: _) _ _)); refine w_at_X3_53 (ν := ν) _ ?_  (fun _ => ?_)) | ((with_reducible refine (?_ : am_Does _ 43 (Sum.inr (Sum.inr 55) :: _) _ _)); refine w_at_X3_55 (ν := ν) _ ?_  (fun _ => ?_)) | ((with_reducible refine (?_ : am_Does _ 43 (Sum.inr (Sum.inr 58) :: _) _ _)); refine w_at_X3_58 (ν := ν) _ ?_  (fun _ => ?_)) | ((with_reducible refine (?_ : am_Does _ 43 (Sum.inr (Sum.inr 60) :: _) _ _)); refine w_at_X3_60 (ν := ν) _ ?_  (fun _ => ?_)) | refine w_at_X3_36 (ν := ν) _ ?_  (fun _ => ?_) | refine w_at_X3_44 (ν := ν) _ ?_  (fun _ => ?_) | refine w_at_X3_46 (ν := ν) _ ?_  (fun _ => ?_) | refine w_at_X3_48 (ν := ν) _ ?_  (fun _ => ?_) | refine w_at_X3_50 (ν := ν) _ ?_  (fun _ => ?_) | refine w_at_X3_53 (ν := ν) _ ?_  (fun _ => ?_) | refine w_at_X3_55 (ν := ν) _ ?_  (fun _ => ?_) | refine w_at_X3_58 (ν := ν) _ ?_  (fun _ => ?_) | refine w_at_X3_60 (ν := ν) _ ?_  (fun _ => ?_))
        | ((with_reducible refine (?_ : am_Does _ 37 _ _ _)); first | ((with_reducible refine (?_ : am_Does _ 37 (Sum.inr (Sum.inr 29) :: _) _ _)); refine w_first_X2_29 (ν := ν)  ?_  (fun _ => ?_)) | ((with_reducible refine (?_ : am_Does _ 37 (Sum.inr (Sum.inr 38) :: _) _ _)); refine w_first_X2_38 (ν := ν)  ?_  (fun _ => ?_)) | refine w_first_X2_29 (ν := ν)  ?_  (fun _ => ?_) | refine w_first_X2_38 (ν := ν)  ?_  (fun _ => ?_))
        | ((with_reducible refine (?_ : am_Does _ 38 _ _ _)); first | ((with_reducible refine (?_ : am_Does _ 38 (Sum.inr (Sum.inr 29) :: _) _ _)); refine w_last_X2_29 (ν := ν)  ?_  (fun _ => ?_)) | ((with_reducible refine (?_ : am_Does _ 38 (Sum.inr (Sum.inr 38) :: _) _ _)); refine w_last_X2_38 (ν := ν)  ?_  (fun _ => ?_)) | refine w_last_X2_29 (ν := ν)  ?_  (fun _ => ?_) | refine w_last_X2_38 (ν := ν)  ?_  (fun _ => ?_))
        | ((with_reducible refine (?_ : am_Does _ 20 _ _ _)); refine w_means_X1 (ν := ν) _ _ _ ?_ ?_ ?_ (fun _ => ?_))
        | ((with_reducible refine (?_ : am_Does _ 11 _ _ _)); first | ((with_reducible refine (?_ : am_Does _ 11 (Sum.inr (Sum.inr 8) :: _) _ _)); refine w_more_X0_8 (ν := ν) _ _ ?_  (fun _ _ => ?_)) | ((with_reducible refine (?_ : am_Does _ 11 (Sum.inr (Sum.inr 15) :: _) _ _)); refine w_more_X0_15 (ν := ν) _ _ ?_  (fun _ _ => ?_)) | refine w_more_X0_8 (ν := ν) _ _ ?_  (fun _ _ => ?_) | refine w_more_X0_15 (ν := ν) _ _ ?_  (fun _ _ => ?_))
        | ((with_reducible refine (?_ : am_AW _ _ _ _ _ 16 _ _ _)); refine ih _ _ _ ?_ ?_ ?_ ?_ ?_)
        | refine And.intro (fun h => absurd h (by decide)) (fun _ => ?_)
        | refine And.intro (fun _ => ?_) (fun h => absurd (by decide) h)
        | refine And.intro (fun _ => ?_) (fun _ => ?_)
        | refine And.intro ?_ ?_
      all_goals (first | (with_reducible assumption) | decide | omega | assumption | (intros; omega) | (intros; simp only [am_c] at * <;> omega) | (simp only [am_c, am_up] at * <;> omega) | (simp [am_c, am_up] at * <;> omega))
  have lp16' : ∀ (c i : Int) (μ : am_N) , sx ν μ → 0 ≤ i → i ≤ 4 → (∀ (o4 : Option am_V) (μ : am_N), sx ν μ → am_AW l 0 (fun _ => 0) 19 Q 2 [some (.inr (.inr 52)), some (.inr (.inr 8)), some (.inr (.inr 29)), some (.inl (c + 1)), o4] [] μ) → am_AW l 0 (fun _ => 0) 19 Q 16 [some (.inr (.inr 52)), some (.inr (.inr 8)), some (.inr (.inr 29)), some (.inl c), some (.inl i)] [] μ := fun c i μ hv0 hv1 hv2 hv3 => lp16 ((4 - i) + 1).toNat c i μ hv0 hv1 hv2 hv3 (by omega)
  have lp2 : ∀ (m : Nat) (c : Int) (o4 : Option am_V) (μ : am_N) , sx ν μ → 0 ≤ c → c ≤ 4 → 4 - c < (m : Int) → am_AW l 0 (fun _ => 0) 19 Q 2 [some (.inr (.inr 52)), some (.inr (.inr 8)), some (.inr (.inr 29)), some (.inl c), o4] [] μ := by
    intro m
    induction m with
    | zero =>
      intro c o4 μ hv0 hv1 hv2 hm
      have hb := sx_all hv0
      exfalso
      omega
    | succ m ih =>
      intro c o4 μ hv0 hv1 hv2 hm
      have hb := sx_all hv0
      refine am_go (ct := fun pc => Nat.beq pc 16 || Nat.beq pc 2) am_oX1_mend 300 ?_
      conv => whnf
      repeat' first
        | (refine (?_ : am_wp _ _ _ _ _ _ _ _ _ _ _ _); conv => whnf)
        | (refine (?_ : am_sw _ _ _ _); conv => whnf)
        | refine And.intro trivial ?_
        | exact trivial
        | (with_reducible assumption)
        | (refine fun _ _ _ => ih _ _ _ ?_ ?_ ?_ ?_)
        | ((with_reducible refine (?_ : _ ∧ _)); first | (with_reducible first | refine am_jn am_q1 ?_ | refine am_jn am_q2 ?_ | refine am_jn am_q3 ?_ | refine am_jn am_q4 ?_ | refine am_jn am_q6 ?_ | refine am_jn am_q9 ?_ | refine am_jn am_p1 ?_ | refine am_jy am_p0 ?_ | refine am_kn am_q1 ?_ | refine am_kn am_q2 ?_ | refine am_kn am_q3 ?_ | refine am_kn am_q4 ?_ | refine am_kn am_q6 ?_ | refine am_kn am_q9 ?_ | refine am_kn am_p1 ?_ | refine am_ky am_p0 ?_) | refine And.intro (fun h => absurd h (by decide)) (fun _ => ?_) | refine And.intro (fun _ => ?_) (fun h => absurd (by decide) h) | refine And.intro (fun _ => ?_) (fun _ => ?_) | refine And.intro ?_ ?_)
        | refine k _ ?_
        | refine sx_up ?_ rfl
        | ((with_reducible refine (?_ : am_Does _ 43 _ _ _)); first | ((with_reducible refine (?_ : am_Does _ 43 (Sum.inr (Sum.inr 36) :: _) _ _)); refine w_at_X3_36 (ν := ν) _ ?_  (fun _ => ?_)) | ((with_reducible refine (?_ : am_Does _ 43 (Sum.inr (Sum.inr 44) :: _) _ _)); refine w_at_X3_44 (ν := ν) _ ?_  (fun _ => ?_)) | ((with_reducible refine (?_ : am_Does _ 43 (Sum.inr (Sum.inr 46) :: _) _ _)); refine w_at_X3_46 (ν := ν) _ ?_  (fun _ => ?_)) | ((with_reducible refine (?_ : am_Does _ 43 (Sum.inr (Sum.inr 48) :: _) _ _)); refine w_at_X3_48 (ν := ν) _ ?_  (fun _ => ?_)) | ((with_reducible refine (?_ : am_Does _ 43 (Sum.inr (Sum.inr 50) :: _) _ _)); refine w_at_X3_50 (ν := ν) _ ?_  (fun _ => ?_)) | ((with_reducible refine (?_ : am_Does _ 43 (Sum.inr (Sum.inr 53) :: _) _ _)); refine w_at_X3_53 (ν := ν) _ ?_  (fun _ => ?_)) | ((with_reducible refine (?_ : am_Does _ 43 (Sum.inr (Sum.inr 55) :: _) _ _)); refine w_at_X3_55 (ν := ν) _ ?_  (fun _ => ?_)) | ((with_reducible refine (?_ : am_Does _ 43 (Sum.inr (Sum.inr 58) :: _) _ _)); refine w_at_X3_58 (ν := ν) _ ?_  (fun _ => ?_)) | ((with_reducible refine (?_ : am_Does _ 43 (Sum.inr (Sum.inr 60) :: _) _ _)); refine w_at_X3_60 (ν := ν) _ ?_  (fun _ => ?_)) | refine w_at_X3_36 (ν := ν) _ ?_  (fun _ => ?_) | refine w_at_X3_44 (ν := ν) _ ?_  (fun _ => ?_) | refine w_at_X3_46 (ν := ν) _ ?_  (fun _ => ?_) | refine w_at_X3_48 (ν := ν) _ ?_  (fun _ => ?_) | refine w_at_X3_50 (ν := ν) _ ?_  (fun _ => ?_) | refine w_at_X3_53 (ν := ν) _ ?_  (fun _ => ?_) | refine w_at_X3_55 (ν := ν) _ ?_  (fun _ => ?_) | refine w_at_X3_58 (ν := ν) _ ?_  (fun _ => ?_) | refine w_at_X3_60 (ν := ν) _ ?_  (fun _ => ?_))
        | ((with_reducible refine (?_ : am_Does _ 37 _ _ _)); first | ((with_reducible refine (?_ : am_Does _ 37 (Sum.inr (Sum.inr 29) :: _) _ _)); refine w_first_X2_29 (ν := ν)  ?_  (fun _ => ?_)) | ((with_reducible refine (?_ : am_Does _ 37 (Sum.inr (Sum.inr 38) :: _) _ _)); refine w_first_X2_38 (ν := ν)  ?_  (fun _ => ?_)) | refine w_first_X2_29 (ν := ν)  ?_  (fun _ => ?_) | refine w_first_X2_38 (ν := ν)  ?_  (fun _ => ?_))
        | ((with_reducible refine (?_ : am_Does _ 38 _ _ _)); first | ((with_reducible refine (?_ : am_Does _ 38 (Sum.inr (Sum.inr 29) :: _) _ _)); refine w_last_X2_29 (ν := ν)  ?_  (fun _ => ?_)) | ((with_reducible refine (?_ : am_Does _ 38 (Sum.inr (Sum.inr 38) :: _) _ _)); refine w_last_X2_38 (ν := ν)  ?_  (fun _ => ?_)) | refine w_last_X2_29 (ν := ν)  ?_  (fun _ => ?_) | refine w_last_X2_38 (ν := ν)  ?_  (fun _ => ?_))
        | ((with_reducible refine (?_ : am_Does _ 20 _ _ _)); refine w_means_X1 (ν := ν) _ _ _ ?_ ?_ ?_ (fun _ => ?_))
        | ((with_reducible refine (?_ : am_Does _ 11 _ _ _)); first | ((with_reducible refine (?_ : am_Does _ 11 (Sum.inr (Sum.inr 8) :: _) _ _)); refine w_more_X0_8 (ν := ν) _ _ ?_  (fun _ _ => ?_)) | ((with_reducible refine (?_ : am_Does _ 11 (Sum.inr (Sum.inr 15) :: _) _ _)); refine w_more_X0_15 (ν := ν) _ _ ?_  (fun _ _ => ?_)) | refine w_more_X0_8 (ν := ν) _ _ ?_  (fun _ _ => ?_) | refine w_more_X0_15 (ν := ν) _ _ ?_  (fun _ _ => ?_))
        | ((with_reducible refine (?_ : am_AW _ _ _ _ _ 2 _ _ _)); refine ih _ _ _ ?_ ?_ ?_ ?_)
        | ((with_reducible refine (?_ : am_AW _ _ _ _ _ 16 _ _ _)); refine lp16' _ _ _ ?_ ?_ ?_ ?_)
        | refine And.intro (fun h => absurd h (by decide)) (fun _ => ?_)
        | refine And.intro (fun _ => ?_) (fun h => absurd (by decide) h)
        | refine And.intro (fun _ => ?_) (fun _ => ?_)
        | refine And.intro ?_ ?_
      all_goals (first | (with_reducible assumption) | decide | omega | assumption | (intros; omega) | (intros; simp only [am_c] at * <;> omega) | (simp only [am_c, am_up] at * <;> omega) | (simp [am_c, am_up] at * <;> omega))
  have lp2' : ∀ (c : Int) (o4 : Option am_V) (μ : am_N) , sx ν μ → 0 ≤ c → c ≤ 4 → am_AW l 0 (fun _ => 0) 19 Q 2 [some (.inr (.inr 52)), some (.inr (.inr 8)), some (.inr (.inr 29)), some (.inl c), o4] [] μ := fun c o4 μ hv0 hv1 hv2 => lp2 ((4 - c) + 1).toNat c o4 μ hv0 hv1 hv2 (by omega)
  refine am_go (ct := fun pc => Nat.beq pc 16 || Nat.beq pc 2) am_oX1_mend 300 ?_
  conv => whnf
  repeat' first
    | (refine (?_ : am_wp _ _ _ _ _ _ _ _ _ _ _ _); conv => whnf)
    | (refine (?_ : am_sw _ _ _ _); conv => whnf)
    | refine And.intro trivial ?_
    | exact trivial
    | (with_reducible assumption)
    | ((with_reducible refine (?_ : _ ∧ _)); first | (with_reducible first | refine am_jn am_q1 ?_ | refine am_jn am_q2 ?_ | refine am_jn am_q3 ?_ | refine am_jn am_q4 ?_ | refine am_jn am_q6 ?_ | refine am_jn am_q9 ?_ | refine am_jn am_p1 ?_ | refine am_jy am_p0 ?_ | refine am_kn am_q1 ?_ | refine am_kn am_q2 ?_ | refine am_kn am_q3 ?_ | refine am_kn am_q4 ?_ | refine am_kn am_q6 ?_ | refine am_kn am_q9 ?_ | refine am_kn am_p1 ?_ | refine am_ky am_p0 ?_) | refine And.intro (fun h => absurd h (by decide)) (fun _ => ?_) | refine And.intro (fun _ => ?_) (fun h => absurd (by decide) h) | refine And.intro (fun _ => ?_) (fun _ => ?_) | refine And.intro ?_ ?_)
    | refine k _ ?_
    | refine sx_up ?_ rfl
    | ((with_reducible refine (?_ : am_Does _ 43 _ _ _)); first | ((with_reducible refine (?_ : am_Does _ 43 (Sum.inr (Sum.inr 36) :: _) _ _)); refine w_at_X3_36 (ν := ν) _ ?_  (fun _ => ?_)) | ((with_reducible refine (?_ : am_Does _ 43 (Sum.inr (Sum.inr 44) :: _) _ _)); refine w_at_X3_44 (ν := ν) _ ?_  (fun _ => ?_)) | ((with_reducible refine (?_ : am_Does _ 43 (Sum.inr (Sum.inr 46) :: _) _ _)); refine w_at_X3_46 (ν := ν) _ ?_  (fun _ => ?_)) | ((with_reducible refine (?_ : am_Does _ 43 (Sum.inr (Sum.inr 48) :: _) _ _)); refine w_at_X3_48 (ν := ν) _ ?_  (fun _ => ?_)) | ((with_reducible refine (?_ : am_Does _ 43 (Sum.inr (Sum.inr 50) :: _) _ _)); refine w_at_X3_50 (ν := ν) _ ?_  (fun _ => ?_)) | ((with_reducible refine (?_ : am_Does _ 43 (Sum.inr (Sum.inr 53) :: _) _ _)); refine w_at_X3_53 (ν := ν) _ ?_  (fun _ => ?_)) | ((with_reducible refine (?_ : am_Does _ 43 (Sum.inr (Sum.inr 55) :: _) _ _)); refine w_at_X3_55 (ν := ν) _ ?_  (fun _ => ?_)) | ((with_reducible refine (?_ : am_Does _ 43 (Sum.inr (Sum.inr 58) :: _) _ _)); refine w_at_X3_58 (ν := ν) _ ?_  (fun _ => ?_)) | ((with_reducible refine (?_ : am_Does _ 43 (Sum.inr (Sum.inr 60) :: _) _ _)); refine w_at_X3_60 (ν := ν) _ ?_  (fun _ => ?_)) | refine w_at_X3_36 (ν := ν) _ ?_  (fun _ => ?_) | refine w_at_X3_44 (ν := ν) _ ?_  (fun _ => ?_) | refine w_at_X3_46 (ν := ν) _ ?_  (fun _ => ?_) | refine w_at_X3_48 (ν := ν) _ ?_  (fun _ => ?_) | refine w_at_X3_50 (ν := ν) _ ?_  (fun _ => ?_) | refine w_at_X3_53 (ν := ν) _ ?_  (fun _ => ?_) | refine w_at_X3_55 (ν := ν) _ ?_  (fun _ => ?_) | refine w_at_X3_58 (ν := ν) _ ?_  (fun _ => ?_) | refine w_at_X3_60 (ν := ν) _ ?_  (fun _ => ?_))
    | ((with_reducible refine (?_ : am_Does _ 37 _ _ _)); first | ((with_reducible refine (?_ : am_Does _ 37 (Sum.inr (Sum.inr 29) :: _) _ _)); refine w_first_X2_29 (ν := ν)  ?_  (fun _ => ?_)) | ((with_reducible refine (?_ : am_Does _ 37 (Sum.inr (Sum.inr 38) :: _) _ _)); refine w_first_X2_38 (ν := ν)  ?_  (fun _ => ?_)) | refine w_first_X2_29 (ν := ν)  ?_  (fun _ => ?_) | refine w_first_X2_38 (ν := ν)  ?_  (fun _ => ?_))
    | ((with_reducible refine (?_ : am_Does _ 38 _ _ _)); first | ((with_reducible refine (?_ : am_Does _ 38 (Sum.inr (Sum.inr 29) :: _) _ _)); refine w_last_X2_29 (ν := ν)  ?_  (fun _ => ?_)) | ((with_reducible refine (?_ : am_Does _ 38 (Sum.inr (Sum.inr 38) :: _) _ _)); refine w_last_X2_38 (ν := ν)  ?_  (fun _ => ?_)) | refine w_last_X2_29 (ν := ν)  ?_  (fun _ => ?_) | refine w_last_X2_38 (ν := ν)  ?_  (fun _ => ?_))
    | ((with_reducible refine (?_ : am_Does _ 20 _ _ _)); refine w_means_X1 (ν := ν) _ _ _ ?_ ?_ ?_ (fun _ => ?_))
    | ((with_reducible refine (?_ : am_Does _ 11 _ _ _)); first | ((with_reducible refine (?_ : am_Does _ 11 (Sum.inr (Sum.inr 8) :: _) _ _)); refine w_more_X0_8 (ν := ν) _ _ ?_  (fun _ _ => ?_)) | ((with_reducible refine (?_ : am_Does _ 11 (Sum.inr (Sum.inr 15) :: _) _ _)); refine w_more_X0_15 (ν := ν) _ _ ?_  (fun _ _ => ?_)) | refine w_more_X0_8 (ν := ν) _ _ ?_  (fun _ _ => ?_) | refine w_more_X0_15 (ν := ν) _ _ ?_  (fun _ _ => ?_))
    | ((with_reducible refine (?_ : am_AW _ _ _ _ _ 2 _ _ _)); refine lp2' _ _ _ ?_ ?_ ?_)
    | ((with_reducible refine (?_ : am_AW _ _ _ _ _ 16 _ _ _)); refine lp16' _ _ _ ?_ ?_ ?_ ?_)
    | refine And.intro (fun h => absurd h (by decide)) (fun _ => ?_)
    | refine And.intro (fun _ => ?_) (fun h => absurd (by decide) h)
    | refine And.intro (fun _ => ?_) (fun _ => ?_)
    | refine And.intro ?_ ?_
  all_goals (first | (with_reducible assumption) | decide | omega | assumption | (intros; omega) | (intros; simp only [am_c] at * <;> omega) | (simp only [am_c, am_up] at * <;> omega) | (simp [am_c, am_up] at * <;> omega))
theorem w_at36 {l : Launch} {μ : am_N} {Q : Option am_V → am_N → Prop} {ν : am_N} (i : Int) (hS : sx ν μ) (k1 : 0 ≤ am_c i → am_c i < 96 → ∀ r, Q (some (.inl r)) μ) (k2 : Q (some (.inl (-1))) μ) : am_Does l 43 [.inr (.inr 36), .inl i] μ Q := by
  refine am_Does_of (Nat.le_of_ble_eq_true rfl) (Nat.le_of_ble_eq_true rfl) (Nat.le_of_ble_eq_true rfl) ?_
  have hb := sx_all hS
  refine am_go (ct := fun _ => false) am_oX3_at 300 ?_
  conv => whnf
  repeat' first
    | (refine (?_ : am_wp _ _ _ _ _ _ _ _ _ _ _ _); conv => whnf)
    | (refine (?_ : am_sw _ _ _ _); conv => whnf)
    | refine And.intro trivial ?_
    | exact trivial
    | (with_reducible assumption)
    | exact k2
    | ((with_reducible refine (?_ : _ ∧ _)); first | (with_reducible first | refine am_jn am_q1 ?_ | refine am_jn am_q2 ?_ | refine am_jn am_q3 ?_ | refine am_jn am_q4 ?_ | refine am_jn am_q6 ?_ | refine am_jn am_q9 ?_ | refine am_jn am_p1 ?_ | refine am_jy am_p0 ?_ | refine am_kn am_q1 ?_ | refine am_kn am_q2 ?_ | refine am_kn am_q3 ?_ | refine am_kn am_q4 ?_ | refine am_kn am_q6 ?_ | refine am_kn am_q9 ?_ | refine am_kn am_p1 ?_ | refine am_ky am_p0 ?_) | refine And.intro (fun h => absurd h (by decide)) (fun _ => ?_) | refine And.intro (fun _ => ?_) (fun h => absurd (by decide) h) | refine And.intro (fun _ => ?_) (fun _ => ?_) | refine And.intro ?_ ?_)
    | refine k1 ?_ ?_ _
    | refine And.intro (fun h => absurd h (by decide)) (fun _ => ?_)
    | refine And.intro (fun _ => ?_) (fun h => absurd (by decide) h)
    | refine And.intro (fun _ => ?_) (fun _ => ?_)
    | refine And.intro ?_ ?_
  all_goals (first | (with_reducible assumption) | decide | omega | assumption | (intros; omega) | (intros; simp only [am_c] at * <;> omega) | (simp only [am_c, am_up] at * <;> omega) | (simp [am_c, am_up] at * <;> omega))
