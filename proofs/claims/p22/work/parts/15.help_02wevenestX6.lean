theorem w_evenest_X6 {l : Launch} {μ : am_N} {Q : Option am_V → am_N → Prop} {ν : am_N} (s mm : Int) (hS : sx ν μ) (hm0 : 1 ≤ mm) (hm1 : mm ≤ 20) (k : ∀ r μ', sx ν μ' → Q (some (.inl r)) μ') : am_Does l 123 [.inr (.inr 0), .inl s, .inl mm] μ Q := by
  refine am_Does_of (Nat.le_of_ble_eq_true rfl) (Nat.le_of_ble_eq_true rfl) (Nat.le_of_ble_eq_true rfl) ?_
  have hb := sx_all hS
  have lp111 : ∀ (m : Nat) (a b e c : Int) (o7 : Option am_V) (μ : am_N) , sx ν μ → 0 ≤ c → (c ≤ am_c a ∨ c = 0) → max (am_c a - c) 0 < (m : Int) → am_AW l 0 (fun _ => 0) 123 Q 111 [some (.inr (.inr 0)), some (.inl s), some (.inl mm), some (.inl a), some (.inl b), some (.inl e), some (.inl c), o7] [] μ := by
    intro m
    induction m with
    | zero =>
      intro a b e c o7 μ hv0 hv1 hv2 hm
      have hb := sx_all hv0
      exfalso
      omega
    | succ m ih =>
      intro a b e c o7 μ hv0 hv1 hv2 hm
      have hb := sx_all hv0
      refine am_go (ct := fun pc => Nat.beq pc 111 || Nat.beq pc 88 || Nat.beq pc 34 || Nat.beq pc 5) am_oX6_evenest 300 ?_
      conv => whnf
      repeat' first
        | (refine (?_ : am_wp _ _ _ _ _ _ _ _ _ _ _ _); conv => whnf)
        | (refine (?_ : am_sw _ _ _ _); conv => whnf)
        | refine And.intro trivial ?_
        | exact trivial
        | assumption
        | refine am_aa3 ?_ ?_ ?_ _
        | refine sx_c29 ?_ ?_
        | exact (sx_all (ν := ν) (by assumption)).1
        | ((with_reducible refine (?_ : _ ∧ _)); first | (with_reducible first | refine am_jn am_q1 ?_ | refine am_jn am_q2 ?_ | refine am_jn am_q3 ?_ | refine am_jn am_q4 ?_ | refine am_jn am_q6 ?_ | refine am_jn am_q9 ?_ | refine am_jn am_p1 ?_ | refine am_jy am_p0 ?_ | refine am_kn am_q1 ?_ | refine am_kn am_q2 ?_ | refine am_kn am_q3 ?_ | refine am_kn am_q4 ?_ | refine am_kn am_q6 ?_ | refine am_kn am_q9 ?_ | refine am_kn am_p1 ?_ | refine am_ky am_p0 ?_) | refine And.intro (fun h => absurd h (by decide)) (fun _ => ?_) | refine And.intro (fun _ => ?_) (fun h => absurd (by decide) h) | refine And.intro (fun _ => ?_) (fun _ => ?_) | refine And.intro ?_ ?_)
        | refine k _ _ ?_
        | refine sx_up ?_ rfl
        | ((with_reducible refine (?_ : am_Does _ 9 _ _ _)); refine w_tenthsFrom_X0_1 (ν := ν) _ _ ?_  (fun _ => ?_))
        | ((with_reducible refine (?_ : am_Does _ 124 _ _ _)); refine w_putStarts_X6 (ν := ν) _ _ ?_ ?_ ?_ (fun _ _ => ?_))
        | ((with_reducible refine (?_ : am_Does _ 27 _ _ _)); refine w_uneven_X2_29 (ν := ν)  ?_  (fun _ => ?_))
        | ((with_reducible refine (?_ : am_AW _ _ _ _ _ 111 _ _ _)); refine ih _ _ _ _ _ _ ?_ ?_ ?_ ?_)
        | refine And.intro (fun h => absurd h (by decide)) (fun _ => ?_)
        | refine And.intro (fun _ => ?_) (fun h => absurd (by decide) h)
        | refine And.intro (fun _ => ?_) (fun _ => ?_)
        | refine And.intro ?_ ?_
      all_goals (first | assumption | decide | omega | (intros; omega) | (intros; simp only [am_c] at * <;> omega) | (simp only [am_c, am_up] at * <;> omega) | (simp [am_c, am_up] at * <;> omega))
  have lp111' : ∀ (a b e c : Int) (o7 : Option am_V) (μ : am_N) , sx ν μ → 0 ≤ c → (c ≤ am_c a ∨ c = 0) → am_AW l 0 (fun _ => 0) 123 Q 111 [some (.inr (.inr 0)), some (.inl s), some (.inl mm), some (.inl a), some (.inl b), some (.inl e), some (.inl c), o7] [] μ := fun a b e c o7 μ hv0 hv1 hv2 => lp111 ((max (am_c a - c) 0) + 1).toNat a b e c o7 μ hv0 hv1 hv2 (by omega)
  have lp88 : ∀ (a b : Int) (o5 : Option am_V) (μ : am_N), sx ν μ → am_AW l 0 (fun _ => 0) 123 Q 88 [some (.inr (.inr 0)), some (.inl s), some (.inl mm), some (.inl a), some (.inl b), o5, none, none] [] μ := by
    intro a b o5 μ hv0
    refine am_go (ct := fun pc => Nat.beq pc 111 || Nat.beq pc 88 || Nat.beq pc 34 || Nat.beq pc 5) am_oX6_evenest 300 ?_
    conv => whnf
    repeat' first
      | (refine (?_ : am_wp _ _ _ _ _ _ _ _ _ _ _ _); conv => whnf)
      | (refine (?_ : am_sw _ _ _ _); conv => whnf)
      | refine And.intro trivial ?_
      | exact trivial
      | assumption
      | refine am_aa3 ?_ ?_ ?_ _
      | refine sx_c29 ?_ ?_
      | exact (sx_all (ν := ν) (by assumption)).1
      | ((with_reducible refine (?_ : _ ∧ _)); first | (with_reducible first | refine am_jn am_q1 ?_ | refine am_jn am_q2 ?_ | refine am_jn am_q3 ?_ | refine am_jn am_q4 ?_ | refine am_jn am_q6 ?_ | refine am_jn am_q9 ?_ | refine am_jn am_p1 ?_ | refine am_jy am_p0 ?_ | refine am_kn am_q1 ?_ | refine am_kn am_q2 ?_ | refine am_kn am_q3 ?_ | refine am_kn am_q4 ?_ | refine am_kn am_q6 ?_ | refine am_kn am_q9 ?_ | refine am_kn am_p1 ?_ | refine am_ky am_p0 ?_) | refine And.intro (fun h => absurd h (by decide)) (fun _ => ?_) | refine And.intro (fun _ => ?_) (fun h => absurd (by decide) h) | refine And.intro (fun _ => ?_) (fun _ => ?_) | refine And.intro ?_ ?_)
      | refine k _ _ ?_
      | refine sx_up ?_ rfl
      | ((with_reducible refine (?_ : am_Does _ 9 _ _ _)); refine w_tenthsFrom_X0_1 (ν := ν) _ _ ?_  (fun _ => ?_))
      | ((with_reducible refine (?_ : am_Does _ 124 _ _ _)); refine w_putStarts_X6 (ν := ν) _ _ ?_ ?_ ?_ (fun _ _ => ?_))
      | ((with_reducible refine (?_ : am_Does _ 27 _ _ _)); refine w_uneven_X2_29 (ν := ν)  ?_  (fun _ => ?_))
      | ((with_reducible refine (?_ : am_AW _ _ _ _ _ 111 _ _ _)); refine lp111' _ _ _ _ _ _ ?_ ?_ ?_)
      | refine And.intro (fun h => absurd h (by decide)) (fun _ => ?_)
      | refine And.intro (fun _ => ?_) (fun h => absurd (by decide) h)
      | refine And.intro (fun _ => ?_) (fun _ => ?_)
      | refine And.intro ?_ ?_
    all_goals (first | assumption | decide | omega | (intros; omega) | (intros; simp only [am_c] at * <;> omega) | (simp only [am_c, am_up] at * <;> omega) | (simp [am_c, am_up] at * <;> omega))
  have lp34 : ∀ (m : Nat) (a r k : Int) (μ : am_N) , sx ν μ → 0 ≤ r → r ≤ 2 → 0 ≤ k → k ≤ 20 → (∀ (o5 : Option am_V) (μ : am_N) (a : Int), sx ν μ → am_AW l 0 (fun _ => 0) 123 Q 5 [some (.inr (.inr 0)), some (.inl s), some (.inl mm), some (.inl a), some (.inl (r + 1)), o5, none, none] [] μ) → 20 - k < (m : Int) → am_AW l 0 (fun _ => 0) 123 Q 34 [some (.inr (.inr 0)), some (.inl s), some (.inl mm), some (.inl a), some (.inl r), some (.inl k), none, none] [] μ := by
    intro m
    induction m with
    | zero =>
      intro a r k μ hv0 hv1 hv2 hv3 hv4 hv5 hm
      have hb := sx_all hv0
      exfalso
      omega
    | succ m ih =>
      intro a r k μ hv0 hv1 hv2 hv3 hv4 hv5 hm
      have hb := sx_all hv0
      have cf_r : am_c r = r := am_cR (by omega) (by omega)
      have cf_k : am_c k = k := am_cR (by omega) (by omega)
      refine am_go (ct := fun pc => Nat.beq pc 111 || Nat.beq pc 88 || Nat.beq pc 34 || Nat.beq pc 5) am_oX6_evenest 300 ?_
      conv => whnf
      repeat' first
        | (refine (?_ : am_wp _ _ _ _ _ _ _ _ _ _ _ _); conv => whnf)
        | (refine (?_ : am_sw _ _ _ _); conv => whnf)
        | refine And.intro trivial ?_
        | exact trivial
        | assumption
        | refine hv5 _ _ _ ?_
        | refine am_aa3 ?_ ?_ ?_ _
        | refine sx_c29 ?_ ?_
        | exact (sx_all (ν := ν) (by assumption)).1
        | ((with_reducible refine (?_ : _ ∧ _)); first | (with_reducible first | refine am_jn am_q1 ?_ | refine am_jn am_q2 ?_ | refine am_jn am_q3 ?_ | refine am_jn am_q4 ?_ | refine am_jn am_q6 ?_ | refine am_jn am_q9 ?_ | refine am_jn am_p1 ?_ | refine am_jy am_p0 ?_ | refine am_kn am_q1 ?_ | refine am_kn am_q2 ?_ | refine am_kn am_q3 ?_ | refine am_kn am_q4 ?_ | refine am_kn am_q6 ?_ | refine am_kn am_q9 ?_ | refine am_kn am_p1 ?_ | refine am_ky am_p0 ?_) | refine And.intro (fun h => absurd h (by decide)) (fun _ => ?_) | refine And.intro (fun _ => ?_) (fun h => absurd (by decide) h) | refine And.intro (fun _ => ?_) (fun _ => ?_) | refine And.intro ?_ ?_)
        | refine k _ _ ?_
        | refine sx_up ?_ rfl
        | ((with_reducible refine (?_ : am_Does _ 9 _ _ _)); refine w_tenthsFrom_X0_1 (ν := ν) _ _ ?_  (fun _ => ?_))
        | ((with_reducible refine (?_ : am_Does _ 124 _ _ _)); refine w_putStarts_X6 (ν := ν) _ _ ?_ ?_ ?_ (fun _ _ => ?_))
        | ((with_reducible refine (?_ : am_Does _ 27 _ _ _)); refine w_uneven_X2_29 (ν := ν)  ?_  (fun _ => ?_))
        | ((with_reducible refine (?_ : am_AW _ _ _ _ _ 34 _ _ _)); refine ih _ _ _ _ ?_ ?_ ?_ ?_ ?_ ?_ ?_)
        | ((with_reducible refine (?_ : am_AW _ _ _ _ _ 88 _ _ _)); refine lp88 _ _ _ _ ?_)
        | ((with_reducible refine (?_ : am_AW _ _ _ _ _ 111 _ _ _)); refine lp111' _ _ _ _ _ _ ?_ ?_ ?_)
        | refine And.intro (fun h => absurd h (by decide)) (fun _ => ?_)
        | refine And.intro (fun _ => ?_) (fun h => absurd (by decide) h)
        | refine And.intro (fun _ => ?_) (fun _ => ?_)
        | refine And.intro ?_ ?_
      all_goals (first | assumption | decide | omega | (intros; omega) | (intros; simp only [am_c] at * <;> omega) | (simp only [am_c, am_up] at * <;> omega) | (simp [am_c, am_up] at * <;> omega))
  have lp34' : ∀ (a r k : Int) (μ : am_N) , sx ν μ → 0 ≤ r → r ≤ 2 → 0 ≤ k → k ≤ 20 → (∀ (o5 : Option am_V) (μ : am_N) (a : Int), sx ν μ → am_AW l 0 (fun _ => 0) 123 Q 5 [some (.inr (.inr 0)), some (.inl s), some (.inl mm), some (.inl a), some (.inl (r + 1)), o5, none, none] [] μ) → am_AW l 0 (fun _ => 0) 123 Q 34 [some (.inr (.inr 0)), some (.inl s), some (.inl mm), some (.inl a), some (.inl r), some (.inl k), none, none] [] μ := fun a r k μ hv0 hv1 hv2 hv3 hv4 hv5 => lp34 ((20 - k) + 1).toNat a r k μ hv0 hv1 hv2 hv3 hv4 hv5 (by omega)
  have lp5 : ∀ (m : Nat) (a r : Int) (o5 : Option am_V) (μ : am_N) , sx ν μ → 0 ≤ r → r ≤ 3 → 3 - r < (m : Int) → am_AW l 0 (fun _ => 0) 123 Q 5 [some (.inr (.inr 0)), some (.inl s), some (.inl mm), some (.inl a), some (.inl r), o5, none, none] [] μ := by
    intro m
    induction m with
    | zero =>
      intro a r o5 μ hv0 hv1 hv2 hm
      have hb := sx_all hv0
      exfalso
      omega
    | succ m ih =>
      intro a r o5 μ hv0 hv1 hv2 hm
      have hb := sx_all hv0
      have cf_r : am_c r = r := am_cR (by omega) (by omega)
      refine am_go (ct := fun pc => Nat.beq pc 111 || Nat.beq pc 88 || Nat.beq pc 34 || Nat.beq pc 5) am_oX6_evenest 300 ?_
      conv => whnf
      repeat' first
        | (refine (?_ : am_wp _ _ _ _ _ _ _ _ _ _ _ _); conv => whnf)
        | (refine (?_ : am_sw _ _ _ _); conv => whnf)
        | refine And.intro trivial ?_
        | exact trivial
        | assumption
        | (refine fun _ _ _ _ => ih _ _ _ _ ?_ ?_ ?_ ?_)
        | refine am_aa3 ?_ ?_ ?_ _
        | refine sx_c29 ?_ ?_
        | exact (sx_all (ν := ν) (by assumption)).1
        | ((with_reducible refine (?_ : _ ∧ _)); first | (with_reducible first | refine am_jn am_q1 ?_ | refine am_jn am_q2 ?_ | refine am_jn am_q3 ?_ | refine am_jn am_q4 ?_ | refine am_jn am_q6 ?_ | refine am_jn am_q9 ?_ | refine am_jn am_p1 ?_ | refine am_jy am_p0 ?_ | refine am_kn am_q1 ?_ | refine am_kn am_q2 ?_ | refine am_kn am_q3 ?_ | refine am_kn am_q4 ?_ | refine am_kn am_q6 ?_ | refine am_kn am_q9 ?_ | refine am_kn am_p1 ?_ | refine am_ky am_p0 ?_) | refine And.intro (fun h => absurd h (by decide)) (fun _ => ?_) | refine And.intro (fun _ => ?_) (fun h => absurd (by decide) h) | refine And.intro (fun _ => ?_) (fun _ => ?_) | refine And.intro ?_ ?_)
        | refine k _ _ ?_
        | refine sx_up ?_ rfl
        | ((with_reducible refine (?_ : am_Does _ 9 _ _ _)); refine w_tenthsFrom_X0_1 (ν := ν) _ _ ?_  (fun _ => ?_))
        | ((with_reducible refine (?_ : am_Does _ 124 _ _ _)); refine w_putStarts_X6 (ν := ν) _ _ ?_ ?_ ?_ (fun _ _ => ?_))
        | ((with_reducible refine (?_ : am_Does _ 27 _ _ _)); refine w_uneven_X2_29 (ν := ν)  ?_  (fun _ => ?_))
        | ((with_reducible refine (?_ : am_AW _ _ _ _ _ 5 _ _ _)); refine ih _ _ _ _ ?_ ?_ ?_ ?_)
        | ((with_reducible refine (?_ : am_AW _ _ _ _ _ 34 _ _ _)); refine lp34' _ _ _ _ ?_ ?_ ?_ ?_ ?_ ?_)
        | ((with_reducible refine (?_ : am_AW _ _ _ _ _ 88 _ _ _)); refine lp88 _ _ _ _ ?_)
        | ((with_reducible refine (?_ : am_AW _ _ _ _ _ 111 _ _ _)); refine lp111' _ _ _ _ _ _ ?_ ?_ ?_)
        | refine And.intro (fun h => absurd h (by decide)) (fun _ => ?_)
        | refine And.intro (fun _ => ?_) (fun h => absurd (by decide) h)
        | refine And.intro (fun _ => ?_) (fun _ => ?_)
        | refine And.intro ?_ ?_
      all_goals (first | assumption | decide | omega | (intros; omega) | (intros; simp only [am_c] at * <;> omega) | (simp only [am_c, am_up] at * <;> omega) | (simp [am_c, am_up] at * <;> omega))
  have lp5' : ∀ (a r : Int) (o5 : Option am_V) (μ : am_N) , sx ν μ → 0 ≤ r → r ≤ 3 → am_AW l 0 (fun _ => 0) 123 Q 5 [some (.inr (.inr 0)), some (.inl s), some (.inl mm), some (.inl a), some (.inl r), o5, none, none] [] μ := fun a r o5 μ hv0 hv1 hv2 => lp5 ((3 - r) + 1).toNat a r o5 μ hv0 hv1 hv2 (by omega)
  refine am_go (ct := fun pc => Nat.beq pc 111 || Nat.beq pc 88 || Nat.beq pc 34 || Nat.beq pc 5) am_oX6_evenest 300 ?_
  conv => whnf
  repeat' first
    | (refine (?_ : am_wp _ _ _ _ _ _ _ _ _ _ _ _); conv => whnf)
    | (refine (?_ : am_sw _ _ _ _); conv => whnf)
    | refine And.intro trivial ?_
    | exact trivial
    | assumption
    | refine am_aa3 ?_ ?_ ?_ _
    | refine sx_c29 ?_ ?_
    | exact (sx_all (ν := ν) (by assumption)).1
    | ((with_reducible refine (?_ : _ ∧ _)); first | (with_reducible first | refine am_jn am_q1 ?_ | refine am_jn am_q2 ?_ | refine am_jn am_q3 ?_ | refine am_jn am_q4 ?_ | refine am_jn am_q6 ?_ | refine am_jn am_q9 ?_ | refine am_jn am_p1 ?_ | refine am_jy am_p0 ?_ | refine am_kn am_q1 ?_ | refine am_kn am_q2 ?_ | refine am_kn am_q3 ?_ | refine am_kn am_q4 ?_ | refine am_kn am_q6 ?_ | refine am_kn am_q9 ?_ | refine am_kn am_p1 ?_ | refine am_ky am_p0 ?_) | refine And.intro (fun h => absurd h (by decide)) (fun _ => ?_) | refine And.intro (fun _ => ?_) (fun h => absurd (by decide) h) | refine And.intro (fun _ => ?_) (fun _ => ?_) | refine And.intro ?_ ?_)
    | refine k _ _ ?_
    | refine sx_up ?_ rfl
    | ((with_reducible refine (?_ : am_Does _ 9 _ _ _)); refine w_tenthsFrom_X0_1 (ν := ν) _ _ ?_  (fun _ => ?_))
    | ((with_reducible refine (?_ : am_Does _ 124 _ _ _)); refine w_putStarts_X6 (ν := ν) _ _ ?_ ?_ ?_ (fun _ _ => ?_))
    | ((with_reducible refine (?_ : am_Does _ 27 _ _ _)); refine w_uneven_X2_29 (ν := ν)  ?_  (fun _ => ?_))
    | ((with_reducible refine (?_ : am_AW _ _ _ _ _ 5 _ _ _)); refine lp5' _ _ _ _ ?_ ?_ ?_)
    | ((with_reducible refine (?_ : am_AW _ _ _ _ _ 34 _ _ _)); refine lp34' _ _ _ _ ?_ ?_ ?_ ?_ ?_ ?_)
    | ((with_reducible refine (?_ : am_AW _ _ _ _ _ 88 _ _ _)); refine lp88 _ _ _ _ ?_)
    | ((with_reducible refine (?_ : am_AW _ _ _ _ _ 111 _ _ _)); refine lp111' _ _ _ _ _ _ ?_ ?_ ?_)
    | refine And.intro (fun h => absurd h (by decide)) (fun _ => ?_)
    | refine And.intro (fun _ => ?_) (fun h => absurd (by decide) h)
    | refine And.intro (fun _ => ?_) (fun _ => ?_)
    | refine And.intro ?_ ?_
  all_goals (first | assumption | decide | omega | (intros; omega) | (intros; simp only [am_c] at * <;> omega) | (simp only [am_c, am_up] at * <;> omega) | (simp [am_c, am_up] at * <;> omega))
