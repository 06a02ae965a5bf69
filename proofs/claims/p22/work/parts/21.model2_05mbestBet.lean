theorem m_bestBet {l : Launch} {μ : am_N} {Q : Option am_V → am_N → Prop} {ν : am_N}  (hS : gm mT ν μ)  (k : ∀ (r : Int) (μ' : am_N), gm mT ν μ' → 0 ≤ r → r ≤ 3 → Q (some (.inl r)) μ') : am_Does l 230 [.inr (.inr 83)] μ Q := by
  refine am_Does_of (Nat.le_of_ble_eq_true rfl) (Nat.le_of_ble_eq_true rfl) (Nat.le_of_ble_eq_true rfl) ?_
  have hb := mi_all hS.1
  have lp8 : ∀ (m : Nat) (b i : Int) (μ : am_N) , gm mT ν μ → 0 ≤ b → b ≤ 3 → 1 ≤ i → i ≤ 5 → 5 - i < (m : Int) → am_AW l 0 (fun _ => 0) 230 Q 8 [some (.inr (.inr 83)), some (.inl b), some (.inl i)] [] μ := by
    intro m
    induction m with
    | zero =>
      intro b i μ hv0 hv1 hv2 hv3 hv4 hm
      have hb := mi_all hv0.1
      exfalso
      omega
    | succ m ih =>
      intro b i μ hv0 hv1 hv2 hv3 hv4 hm
      have hb := mi_all hv0.1
      refine am_go (ct := fun pc => Nat.beq pc 8) am_oX7_bestBet 300 ?_
      conv => whnf
      repeat' first
        | (refine (?_ : am_wp _ _ _ _ _ _ _ _ _ _ _ _); conv => whnf)
        | (refine (?_ : am_sw _ _ _ _); conv => whnf)
        | refine And.intro trivial ?_
        | exact trivial
        | assumption
        | exact fun _ _ h => h
        | exact fun _ _ h => (Bool.or_eq_false_iff.mp h).1
        | ((with_reducible refine (?_ : _ ∧ _)); first | (with_reducible first | refine am_jn am_q1 ?_ | refine am_jn am_q2 ?_ | refine am_jn am_q3 ?_ | refine am_jn am_q4 ?_ | refine am_jn am_q6 ?_ | refine am_jn am_q9 ?_ | refine am_jn am_p1 ?_ | refine am_jy am_p0 ?_ | refine am_kn am_q1 ?_ | refine am_kn am_q2 ?_ | refine am_kn am_q3 ?_ | refine am_kn am_q4 ?_ | refine am_kn am_q6 ?_ | refine am_kn am_q9 ?_ | refine am_kn am_p1 ?_ | refine am_ky am_p0 ?_) | refine And.intro (fun h => absurd h (by decide)) (fun _ => ?_) | refine And.intro (fun _ => ?_) (fun h => absurd (by decide) h) | refine And.intro (fun _ => ?_) (fun _ => ?_) | refine And.intro ?_ ?_)
        | refine k _ _ ?_ ?_ ?_
        | ((with_reducible refine (?_ : am_Does _ 182 _ _ _)); refine m_findFirsts  (gm_rf (by repeat' first | assumption | exact gm_i (by assumption) | refine mi_up ?_ rfl | refine mi_100 ?_ ?_ ?_ | (simp only [am_c] at * <;> omega)))  (fun _ _ => ?_))
        | refine gm_up ?_ rfl rfl
        | refine gm_100 ?_ rfl ?_ ?_
        | refine gm_tr ?_ (by assumption) ?_
        | exact gm_i (by assumption)
        | refine mi_up ?_ rfl
        | ((with_reducible refine (?_ : am_AW _ _ _ _ _ 8 _ _ _)); refine ih _ _ _ ?_ ?_ ?_ ?_ ?_ ?_)
        | refine And.intro (fun h => absurd h (by decide)) (fun _ => ?_)
        | refine And.intro (fun _ => ?_) (fun h => absurd (by decide) h)
        | refine And.intro (fun _ => ?_) (fun _ => ?_)
        | refine And.intro ?_ ?_
      all_goals (first | assumption | decide | omega | (intros; omega) | (intros; simp only [am_c] at * <;> omega) | (simp only [am_c, am_up] at * <;> omega) | (simp [am_c, am_up] at * <;> omega))
  have lp8' : ∀ (b i : Int) (μ : am_N) , gm mT ν μ → 0 ≤ b → b ≤ 3 → 1 ≤ i → i ≤ 5 → am_AW l 0 (fun _ => 0) 230 Q 8 [some (.inr (.inr 83)), some (.inl b), some (.inl i)] [] μ := fun b i μ hv0 hv1 hv2 hv3 hv4 => lp8 ((5 - i) + 1).toNat b i μ hv0 hv1 hv2 hv3 hv4 (by omega)
  refine am_go (ct := fun pc => Nat.beq pc 8) am_oX7_bestBet 300 ?_
  conv => whnf
  repeat' first
    | (refine (?_ : am_wp _ _ _ _ _ _ _ _ _ _ _ _); conv => whnf)
    | (refine (?_ : am_sw _ _ _ _); conv => whnf)
    | refine And.intro trivial ?_
    | exact trivial
    | assumption
    | exact fun _ _ h => h
    | exact fun _ _ h => (Bool.or_eq_false_iff.mp h).1
    | ((with_reducible refine (?_ : _ ∧ _)); first | (with_reducible first | refine am_jn am_q1 ?_ | refine am_jn am_q2 ?_ | refine am_jn am_q3 ?_ | refine am_jn am_q4 ?_ | refine am_jn am_q6 ?_ | refine am_jn am_q9 ?_ | refine am_jn am_p1 ?_ | refine am_jy am_p0 ?_ | refine am_kn am_q1 ?_ | refine am_kn am_q2 ?_ | refine am_kn am_q3 ?_ | refine am_kn am_q4 ?_ | refine am_kn am_q6 ?_ | refine am_kn am_q9 ?_ | refine am_kn am_p1 ?_ | refine am_ky am_p0 ?_) | refine And.intro (fun h => absurd h (by decide)) (fun _ => ?_) | refine And.intro (fun _ => ?_) (fun h => absurd (by decide) h) | refine And.intro (fun _ => ?_) (fun _ => ?_) | refine And.intro ?_ ?_)
    | refine k _ _ ?_ ?_ ?_
    | ((with_reducible refine (?_ : am_Does _ 182 _ _ _)); refine m_findFirsts  (gm_rf (by repeat' first | assumption | exact gm_i (by assumption) | refine mi_up ?_ rfl | refine mi_100 ?_ ?_ ?_ | (simp only [am_c] at * <;> omega)))  (fun _ _ => ?_))
    | refine gm_up ?_ rfl rfl
    | refine gm_100 ?_ rfl ?_ ?_
    | refine gm_tr ?_ (by assumption) ?_
    | exact gm_i (by assumption)
    | refine mi_up ?_ rfl
    | ((with_reducible refine (?_ : am_AW _ _ _ _ _ 8 _ _ _)); refine lp8' _ _ _ ?_ ?_ ?_ ?_ ?_)
    | refine And.intro (fun h => absurd h (by decide)) (fun _ => ?_)
    | refine And.intro (fun _ => ?_) (fun h => absurd (by decide) h)
    | refine And.intro (fun _ => ?_) (fun _ => ?_)
    | refine And.intro ?_ ?_
  all_goals (first | assumption | decide | omega | (intros; omega) | (intros; simp only [am_c] at * <;> omega) | (simp only [am_c, am_up] at * <;> omega) | (simp [am_c, am_up] at * <;> omega))
