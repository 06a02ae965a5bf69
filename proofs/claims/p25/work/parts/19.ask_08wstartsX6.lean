theorem w_starts_X6 {l : Launch} {μ : am_N} {Q : Option am_V → am_N → Prop} {ν : am_N} (a b : Int) (hS : sx ν μ) (ha0 : -2147483648 ≤ a) (ha1 : a ≤ 2147483647) (hb0 : -2147483648 ≤ b) (hb1 : b ≤ 2147483647) (k : ∀ r μ', sx ν μ' → Q (some (.inl r)) μ') : am_Does l 74 [.inr (.inr 0), .inl a, .inl b] μ Q := by
  refine am_Does_of (Nat.le_of_ble_eq_true rfl) (Nat.le_of_ble_eq_true rfl) (Nat.le_of_ble_eq_true rfl) ?_
  have hb := sx_all hS
  have t1 := am_t99 (am_c a)
  have lp97 : ∀ (m : Nat) (u v r : Int) (μ : am_N) , sx ν μ → 1 ≤ u → u ≤ 20 → -1 ≤ r → r ≤ 3 → 0 ≤ b → b ≤ 4 → r + 1 < (m : Int) → am_AW l 0 (fun _ => 0) 74 Q 97 [some (.inr (.inr 0)), some (.inl a), some (.inl b), some (.inl u), some (.inl v), some (.inl r)] [] μ := by
    intro m
    induction m with
    | zero =>
      intro u v r μ hv0 hv1 hv2 hv3 hv4 hv5 hv6 hm
      have hb := sx_all hv0
      exfalso
      omega
    | succ m ih =>
      intro u v r μ hv0 hv1 hv2 hv3 hv4 hv5 hv6 hm
      have hb := sx_all hv0
      refine am_go (ct := fun pc => Nat.beq pc 97 || Nat.beq pc 86) am_oX6_starts 300 ?_
      conv => whnf
      repeat' first
        | (refine (?_ : am_wp _ _ _ _ _ _ _ _ _ _ _ _); conv => whnf)
        | (refine (?_ : am_sw _ _ _ _); conv => whnf)
        | refine And.intro trivial ?_
        | exact trivial
        | assumption
        | ((with_reducible refine (?_ : _ ∧ _)); first | (with_reducible first | refine am_jn am_q1 ?_ | refine am_jn am_q2 ?_ | refine am_jn am_q3 ?_ | refine am_jn am_q4 ?_ | refine am_jn am_q6 ?_ | refine am_jn am_q9 ?_ | refine am_jn am_p1 ?_ | refine am_jy am_p0 ?_ | refine am_kn am_q1 ?_ | refine am_kn am_q2 ?_ | refine am_kn am_q3 ?_ | refine am_kn am_q4 ?_ | refine am_kn am_q6 ?_ | refine am_kn am_q9 ?_ | refine am_kn am_p1 ?_ | refine am_ky am_p0 ?_) | refine And.intro (fun h => absurd h (by decide)) (fun _ => ?_) | refine And.intro (fun _ => ?_) (fun h => absurd (by decide) h) | refine And.intro (fun _ => ?_) (fun _ => ?_) | refine And.intro ?_ ?_)
        | refine k _ _ ?_
        | refine sx_up ?_ rfl
        | ((with_reducible refine (?_ : am_Does _ 113 _ _ _)); refine w_refuse_X6 (ν := ν) _ ?_ ?_ ?_ (fun _ _ _ => ?_))
        | ((with_reducible refine (?_ : am_Does _ 123 _ _ _)); refine w_evenest_X6 (ν := ν) _ _ ?_ ?_ ?_ (fun _ _ _ => ?_))
        | ((with_reducible refine (?_ : am_AW _ _ _ _ _ 97 _ _ _)); refine ih _ _ _ _ ?_ ?_ ?_ ?_ ?_ ?_ ?_ ?_)
        | refine And.intro (fun h => absurd h (by decide)) (fun _ => ?_)
        | refine And.intro (fun _ => ?_) (fun h => absurd (by decide) h)
        | refine And.intro (fun _ => ?_) (fun _ => ?_)
        | refine And.intro ?_ ?_
      all_goals (first | assumption | decide | omega | (intros; omega) | (intros; simp only [am_c] at * <;> omega) | (simp only [am_c, am_up] at * <;> omega) | (simp [am_c, am_up] at * <;> omega))
  have lp97' : ∀ (u v r : Int) (μ : am_N) , sx ν μ → 1 ≤ u → u ≤ 20 → -1 ≤ r → r ≤ 3 → 0 ≤ b → b ≤ 4 → am_AW l 0 (fun _ => 0) 74 Q 97 [some (.inr (.inr 0)), some (.inl a), some (.inl b), some (.inl u), some (.inl v), some (.inl r)] [] μ := fun u v r μ hv0 hv1 hv2 hv3 hv4 hv5 hv6 => lp97 ((r + 1) + 1).toNat u v r μ hv0 hv1 hv2 hv3 hv4 hv5 hv6 (by omega)
  have lp86 : ∀ (u v : Int) (μ : am_N), sx ν μ → 1 ≤ u → u ≤ 20 → 0 ≤ b → b ≤ 4 → am_AW l 0 (fun _ => 0) 74 Q 86 [some (.inr (.inr 0)), some (.inl a), some (.inl b), some (.inl u), some (.inl v), none] [] μ := by
    intro u v μ hv0 hv1 hv2 hv3 hv4
    have hb := sx_all hv0
    refine am_go (ct := fun pc => Nat.beq pc 97 || Nat.beq pc 86) am_oX6_starts 300 ?_
    conv => whnf
    repeat' first
      | (refine (?_ : am_wp _ _ _ _ _ _ _ _ _ _ _ _); conv => whnf)
      | (refine (?_ : am_sw _ _ _ _); conv => whnf)
      | refine And.intro trivial ?_
      | exact trivial
      | assumption
      | ((with_reducible refine (?_ : _ ∧ _)); first | (with_reducible first | refine am_jn am_q1 ?_ | refine am_jn am_q2 ?_ | refine am_jn am_q3 ?_ | refine am_jn am_q4 ?_ | refine am_jn am_q6 ?_ | refine am_jn am_q9 ?_ | refine am_jn am_p1 ?_ | refine am_jy am_p0 ?_ | refine am_kn am_q1 ?_ | refine am_kn am_q2 ?_ | refine am_kn am_q3 ?_ | refine am_kn am_q4 ?_ | refine am_kn am_q6 ?_ | refine am_kn am_q9 ?_ | refine am_kn am_p1 ?_ | refine am_ky am_p0 ?_) | refine And.intro (fun h => absurd h (by decide)) (fun _ => ?_) | refine And.intro (fun _ => ?_) (fun h => absurd (by decide) h) | refine And.intro (fun _ => ?_) (fun _ => ?_) | refine And.intro ?_ ?_)
      | refine k _ _ ?_
      | refine sx_up ?_ rfl
      | ((with_reducible refine (?_ : am_Does _ 113 _ _ _)); refine w_refuse_X6 (ν := ν) _ ?_ ?_ ?_ (fun _ _ _ => ?_))
      | ((with_reducible refine (?_ : am_Does _ 123 _ _ _)); refine w_evenest_X6 (ν := ν) _ _ ?_ ?_ ?_ (fun _ _ _ => ?_))
      | ((with_reducible refine (?_ : am_AW _ _ _ _ _ 97 _ _ _)); refine lp97' _ _ _ _ ?_ ?_ ?_ ?_ ?_ ?_ ?_)
      | refine And.intro (fun h => absurd h (by decide)) (fun _ => ?_)
      | refine And.intro (fun _ => ?_) (fun h => absurd (by decide) h)
      | refine And.intro (fun _ => ?_) (fun _ => ?_)
      | refine And.intro ?_ ?_
    all_goals (first | assumption | decide | omega | (intros; omega) | (intros; simp only [am_c] at * <;> omega) | (simp only [am_c, am_up] at * <;> omega) | (simp [am_c, am_up] at * <;> omega))
  refine am_go (ct := fun pc => Nat.beq pc 97 || Nat.beq pc 86) am_oX6_starts 300 ?_
  conv => whnf
  repeat' first
    | (refine (?_ : am_wp _ _ _ _ _ _ _ _ _ _ _ _); conv => whnf)
    | (refine (?_ : am_sw _ _ _ _); conv => whnf)
    | refine And.intro trivial ?_
    | exact trivial
    | assumption
    | ((with_reducible refine (?_ : _ ∧ _)); first | (with_reducible first | refine am_jn am_q1 ?_ | refine am_jn am_q2 ?_ | refine am_jn am_q3 ?_ | refine am_jn am_q4 ?_ | refine am_jn am_q6 ?_ | refine am_jn am_q9 ?_ | refine am_jn am_p1 ?_ | refine am_jy am_p0 ?_ | refine am_kn am_q1 ?_ | refine am_kn am_q2 ?_ | refine am_kn am_q3 ?_ | refine am_kn am_q4 ?_ | refine am_kn am_q6 ?_ | refine am_kn am_q9 ?_ | refine am_kn am_p1 ?_ | refine am_ky am_p0 ?_) | refine And.intro (fun h => absurd h (by decide)) (fun _ => ?_) | refine And.intro (fun _ => ?_) (fun h => absurd (by decide) h) | refine And.intro (fun _ => ?_) (fun _ => ?_) | refine And.intro ?_ ?_)
    | refine k _ _ ?_
    | refine sx_up ?_ rfl
    | ((with_reducible refine (?_ : am_Does _ 113 _ _ _)); refine w_refuse_X6 (ν := ν) _ ?_ ?_ ?_ (fun _ _ _ => ?_))
    | ((with_reducible refine (?_ : am_Does _ 123 _ _ _)); refine w_evenest_X6 (ν := ν) _ _ ?_ ?_ ?_ (fun _ _ _ => ?_))
    | ((with_reducible refine (?_ : am_AW _ _ _ _ _ 86 _ _ _)); refine lp86 _ _ _ ?_ ?_ ?_ ?_ ?_)
    | ((with_reducible refine (?_ : am_AW _ _ _ _ _ 97 _ _ _)); refine lp97' _ _ _ _ ?_ ?_ ?_ ?_ ?_ ?_ ?_)
    | refine And.intro (fun h => absurd h (by decide)) (fun _ => ?_)
    | refine And.intro (fun _ => ?_) (fun h => absurd (by decide) h)
    | refine And.intro (fun _ => ?_) (fun _ => ?_)
    | refine And.intro ?_ ?_
  all_goals (first | assumption | decide | omega | (intros; omega) | (intros; simp only [am_c] at * <;> omega) | (simp only [am_c, am_up] at * <;> omega) | (simp [am_c, am_up] at * <;> omega))
