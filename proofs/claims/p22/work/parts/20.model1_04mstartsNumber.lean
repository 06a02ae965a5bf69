theorem m_aheadOf {l : Launch} {μ : am_N} {Q : Option am_V → am_N → Prop} (a b : Int) (hS : mi μ) (ha0 : 0 ≤ am_c a) (ha1 : am_c a < 4) (hb0 : 0 ≤ am_c b) (hb1 : am_c b < 4) (k : ∀ r : Int, Q (some (.inl r)) μ) : am_Does l 194 [.inr (.inr 83), .inl a, .inl b] μ Q := by
  refine am_Does_of (Nat.le_of_ble_eq_true rfl) (Nat.le_of_ble_eq_true rfl) (Nat.le_of_ble_eq_true rfl) ?_
  have hb := mi_all hS
  refine am_go (ct := fun _ => false) am_oX7_aheadOf 300 ?_
  conv => whnf
  repeat' first
    | (refine (?_ : am_wp _ _ _ _ _ _ _ _ _ _ _ _); conv => whnf)
    | (refine (?_ : am_sw _ _ _ _); conv => whnf)
    | refine And.intro trivial ?_
    | exact trivial
    | assumption
    | ((with_reducible refine (?_ : _ ∧ _)); first | (with_reducible first | refine am_jn am_q1 ?_ | refine am_jn am_q2 ?_ | refine am_jn am_q3 ?_ | refine am_jn am_q4 ?_ | refine am_jn am_q6 ?_ | refine am_jn am_q9 ?_ | refine am_jn am_p1 ?_ | refine am_jy am_p0 ?_ | refine am_kn am_q1 ?_ | refine am_kn am_q2 ?_ | refine am_kn am_q3 ?_ | refine am_kn am_q4 ?_ | refine am_kn am_q6 ?_ | refine am_kn am_q9 ?_ | refine am_kn am_p1 ?_ | refine am_ky am_p0 ?_) | refine And.intro (fun h => absurd h (by decide)) (fun _ => ?_) | refine And.intro (fun _ => ?_) (fun h => absurd (by decide) h) | refine And.intro (fun _ => ?_) (fun _ => ?_) | refine And.intro ?_ ?_)
    | exact k _
    | ((with_reducible refine (?_ : am_Does _ 164 _ _ _)); refine m_timeOf _ ?_ ?_ ?_ (fun _ => ?_))
    | ((with_reducible refine (?_ : am_Does _ 193 _ _ _)); refine m_aheadBy _ _ _ _ ?_ ?_ ?_ ?_ ?_ (fun _ => ?_))
    | refine And.intro (fun h => absurd h (by decide)) (fun _ => ?_)
    | refine And.intro (fun _ => ?_) (fun h => absurd (by decide) h)
    | refine And.intro (fun _ => ?_) (fun _ => ?_)
    | refine And.intro ?_ ?_
  all_goals (first | assumption | decide | omega | (intros; omega) | (intros; simp only [am_c] at * <;> omega) | (simp only [am_c, am_up] at * <;> omega) | (simp [am_c, am_up] at * <;> omega))
theorem m_startsNumber {l : Launch} {μ : am_N} {Q : Option am_V → am_N → Prop}  (hS : mi μ)  (k : ∀ r : Int, Q (some (.inl r)) μ) : am_Does l 201 [.inr (.inr 83)] μ Q := by
  refine am_Does_of (Nat.le_of_ble_eq_true rfl) (Nat.le_of_ble_eq_true rfl) (Nat.le_of_ble_eq_true rfl) ?_
  have hb := mi_all hS
  have lp4 : ∀ (m : Nat) (a i : Int) , 0 ≤ i → i ≤ 4 → 4 - i < (m : Int) → am_AW l 0 (fun _ => 0) 201 Q 4 [some (.inr (.inr 83)), some (.inl a), some (.inl i)] [] μ := by
    intro m
    induction m with
    | zero =>
      intro a i  hv0 hv1 hm
      exfalso
      omega
    | succ m ih =>
      intro a i  hv0 hv1 hm
      refine am_go (ct := fun pc => Nat.beq pc 4) am_oX7_startsNumber 300 ?_
      conv => whnf
      repeat' first
        | (refine (?_ : am_wp _ _ _ _ _ _ _ _ _ _ _ _); conv => whnf)
        | (refine (?_ : am_sw _ _ _ _); conv => whnf)
        | refine And.intro trivial ?_
        | exact trivial
        | assumption
        | ((with_reducible refine (?_ : _ ∧ _)); first | (with_reducible first | refine am_jn am_q1 ?_ | refine am_jn am_q2 ?_ | refine am_jn am_q3 ?_ | refine am_jn am_q4 ?_ | refine am_jn am_q6 ?_ | refine am_jn am_q9 ?_ | refine am_jn am_p1 ?_ | refine am_jy am_p0 ?_ | refine am_kn am_q1 ?_ | refine am_kn am_q2 ?_ | refine am_kn am_q3 ?_ | refine am_kn am_q4 ?_ | refine am_kn am_q6 ?_ | refine am_kn am_q9 ?_ | refine am_kn am_p1 ?_ | refine am_ky am_p0 ?_) | refine And.intro (fun h => absurd h (by decide)) (fun _ => ?_) | refine And.intro (fun _ => ?_) (fun h => absurd (by decide) h) | refine And.intro (fun _ => ?_) (fun _ => ?_) | refine And.intro ?_ ?_)
        | exact k _
        | ((with_reducible refine (?_ : am_AW _ _ _ _ _ 4 _ _ _)); refine ih _ _  ?_ ?_ ?_)
        | refine And.intro (fun h => absurd h (by decide)) (fun _ => ?_)
        | refine And.intro (fun _ => ?_) (fun h => absurd (by decide) h)
        | refine And.intro (fun _ => ?_) (fun _ => ?_)
        | refine And.intro ?_ ?_
      all_goals (first | assumption | decide | omega | (intros; omega) | (intros; simp only [am_c] at * <;> omega) | (simp only [am_c, am_up] at * <;> omega) | (simp [am_c, am_up] at * <;> omega))
  have lp4' : ∀ (a i : Int) , 0 ≤ i → i ≤ 4 → am_AW l 0 (fun _ => 0) 201 Q 4 [some (.inr (.inr 83)), some (.inl a), some (.inl i)] [] μ := fun a i  hv0 hv1 => lp4 ((4 - i) + 1).toNat a i  hv0 hv1 (by omega)
  refine am_go (ct := fun pc => Nat.beq pc 4) am_oX7_startsNumber 300 ?_
  conv => whnf
  repeat' first
    | (refine (?_ : am_wp _ _ _ _ _ _ _ _ _ _ _ _); conv => whnf)
    | (refine (?_ : am_sw _ _ _ _); conv => whnf)
    | refine And.intro trivial ?_
    | exact trivial
    | assumption
    | ((with_reducible refine (?_ : _ ∧ _)); first | (with_reducible first | refine am_jn am_q1 ?_ | refine am_jn am_q2 ?_ | refine am_jn am_q3 ?_ | refine am_jn am_q4 ?_ | refine am_jn am_q6 ?_ | refine am_jn am_q9 ?_ | refine am_jn am_p1 ?_ | refine am_jy am_p0 ?_ | refine am_kn am_q1 ?_ | refine am_kn am_q2 ?_ | refine am_kn am_q3 ?_ | refine am_kn am_q4 ?_ | refine am_kn am_q6 ?_ | refine am_kn am_q9 ?_ | refine am_kn am_p1 ?_ | refine am_ky am_p0 ?_) | refine And.intro (fun h => absurd h (by decide)) (fun _ => ?_) | refine And.intro (fun _ => ?_) (fun h => absurd (by decide) h) | refine And.intro (fun _ => ?_) (fun _ => ?_) | refine And.intro ?_ ?_)
    | exact k _
    | ((with_reducible refine (?_ : am_AW _ _ _ _ _ 4 _ _ _)); refine lp4' _ _  ?_ ?_)
    | refine And.intro (fun h => absurd h (by decide)) (fun _ => ?_)
    | refine And.intro (fun _ => ?_) (fun h => absurd (by decide) h)
    | refine And.intro (fun _ => ?_) (fun _ => ?_)
    | refine And.intro ?_ ?_
  all_goals (first | assumption | decide | omega | (intros; omega) | (intros; simp only [am_c] at * <;> omega) | (simp only [am_c, am_up] at * <;> omega) | (simp [am_c, am_up] at * <;> omega))
