/-! contracts: the model's helpers that write scratch, races in mind (weak) -/
def mR (k j : Nat) : Bool := Nat.beq k 89 || (Nat.beq k 90 || (Nat.beq k 83 && Nat.beq j 11))
theorem am_c3l {z : Int} (h : 0 ≤ z) (h1 : z ≤ 3) : 0 ≤ am_c z := by simp only [am_c]; omega
theorem am_c3h {z : Int} (h : 0 ≤ z) (h1 : z ≤ 3) : am_c z < 4 := by simp only [am_c]; omega
theorem am_c3k {z : Int} (h : 0 ≤ z) (h1 : z ≤ 3) : am_c z ≤ 3 := by simp only [am_c]; omega
abbrev mAR : Nat → Nat → Bool := mo mT mR
theorem m_no {l : Launch} {μ : am_N} {Q : Option am_V → am_N → Prop} {ν : am_N} (w : Int) (hS : gm ms ν μ) (h0 : -6 ≤ w) (h1 : w ≤ -1) (k : ∀ (r : Int) (μ' : am_N), gm ms ν μ' → r = w → Q (some (.inl r)) μ') : am_Does l 140 [.inr (.inr 83), .inl w] μ Q := by
  refine am_Does_of (Nat.le_of_ble_eq_true rfl) (Nat.le_of_ble_eq_true rfl) (Nat.le_of_ble_eq_true rfl) ?_
  have hb := mi_all hS.1
  refine am_go (ct := fun _ => false) am_oX7_no 300 ?_
  conv => whnf
  repeat' first
    | (refine (?_ : am_wp _ _ _ _ _ _ _ _ _ _ _ _); conv => whnf)
    | (refine (?_ : am_sw _ _ _ _); conv => whnf)
    | refine And.intro trivial ?_
    | exact trivial
    | assumption
    | exact fun _ _ h => h
    | exact fun _ _ h => (Bool.or_eq_false_iff.mp h).1
    | ((with_reducible refine (?_ : _ ∧ _)); first | (with_reducible first | refine am_jn am_q1 ?_ | refine am_jn am_q2 ?_ | refine am_jn am_q3 ?_ | refine am_jn am_q4 ?_ | refine am_jn am_q6 ?_ | refine am_jn am_q9 ?_ | refine am_jn am_p1 ?_ | refine am_jy am_p0 ?_ | refine am_kn am_q1 ?_ | refine am_kn am_q2 ?_ | refine am_kn am_q3 ?_ | refine am_kn am_q4 ?_ | refine am_kn am_q6 ?_ | refine am_kn am_q9 ?_ | refine am_kn am_p1 ?_ | refine am_ky am_p0 ?_) | refine And.intro (fun h => absurd h (by decide)) (fun _ => ?_) | refine And.intro (fun _ => ?_) (fun h => absurd (by decide) h) | refine And.intro (fun _ => ?_) (fun _ => ?_) | refine And.intro ?_ ?_)
    | refine k _ _ ?_ ?_
    | refine gm_up ?_ rfl rfl
    | refine gm_100 ?_ rfl ?_ ?_
    | refine gm_tr ?_ (by assumption) ?_
    | exact gm_i (by assumption)
    | refine mi_up ?_ rfl
    | refine And.intro (fun h => absurd h (by decide)) (fun _ => ?_)
    | refine And.intro (fun _ => ?_) (fun h => absurd (by decide) h)
    | refine And.intro (fun _ => ?_) (fun _ => ?_)
    | refine And.intro ?_ ?_
  all_goals (first | assumption | decide | omega | (intros; omega) | (intros; simp only [am_c] at * <;> omega) | (simp only [am_c, am_up] at * <;> omega) | (simp [am_c, am_up] at * <;> omega))
theorem m_lower {l : Launch} {μ : am_N} {Q : Option am_V → am_N → Prop} {ν : am_N} (w : Int) (hS : gm ms ν μ) (h0 : -6 ≤ w) (h1 : w ≤ -1) (k : ∀ (r : Int) (μ' : am_N), gm ms ν μ' → Q (some (.inl r)) μ') : am_Does l 141 [.inr (.inr 83), .inl w] μ Q := by
  refine am_Does_of (Nat.le_of_ble_eq_true rfl) (Nat.le_of_ble_eq_true rfl) (Nat.le_of_ble_eq_true rfl) ?_
  have hb := mi_all hS.1
  refine am_go (ct := fun _ => false) am_oX7_lower 300 ?_
  conv => whnf
  repeat' first
    | (refine (?_ : am_wp _ _ _ _ _ _ _ _ _ _ _ _); conv => whnf)
    | (refine (?_ : am_sw _ _ _ _); conv => whnf)
    | refine And.intro trivial ?_
    | exact trivial
    | assumption
    | exact fun _ _ h => h
    | exact fun _ _ h => (Bool.or_eq_false_iff.mp h).1
    | ((with_reducible refine (?_ : _ ∧ _)); first | (with_reducible first | refine am_jn am_q1 ?_ | refine am_jn am_q2 ?_ | refine am_jn am_q3 ?_ | refine am_jn am_q4 ?_ | refine am_jn am_q6 ?_ | refine am_jn am_q9 ?_ | refine am_jn am_p1 ?_ | refine am_jy am_p0 ?_ | refine am_kn am_q1 ?_ | refine am_kn am_q2 ?_ | refine am_kn am_q3 ?_ | refine am_kn am_q4 ?_ | refine am_kn am_q6 ?_ | refine am_kn am_q9 ?_ | refine am_kn am_p1 ?_ | refine am_ky am_p0 ?_) | refine And.intro (fun h => absurd h (by decide)) (fun _ => ?_) | refine And.intro (fun _ => ?_) (fun h => absurd (by decide) h) | refine And.intro (fun _ => ?_) (fun _ => ?_) | refine And.intro ?_ ?_)
    | refine k _ _ ?_
    | refine gm_up ?_ rfl rfl
    | refine gm_100 ?_ rfl ?_ ?_
    | refine gm_tr ?_ (by assumption) ?_
    | exact gm_i (by assumption)
    | refine mi_up ?_ rfl
    | refine And.intro (fun h => absurd h (by decide)) (fun _ => ?_)
    | refine And.intro (fun _ => ?_) (fun h => absurd (by decide) h)
    | refine And.intro (fun _ => ?_) (fun _ => ?_)
    | refine And.intro ?_ ?_
  all_goals (first | assumption | decide | omega | (intros; omega) | (intros; simp only [am_c] at * <;> omega) | (simp only [am_c, am_up] at * <;> omega) | (simp [am_c, am_up] at * <;> omega))
theorem m_lowest {l : Launch} {μ : am_N} {Q : Option am_V → am_N → Prop} {ν : am_N} (w : Int) (hS : gm ms ν μ) (h0 : -6 ≤ w) (h1 : w ≤ -1) (k : ∀ (r : Int) (μ' : am_N), gm ms ν μ' → Q (some (.inr (.inl r))) μ') : am_Does l 142 [.inr (.inr 83), .inl w] μ Q := by
  refine am_Does_of (Nat.le_of_ble_eq_true rfl) (Nat.le_of_ble_eq_true rfl) (Nat.le_of_ble_eq_true rfl) ?_
  have hb := mi_all hS.1
  refine am_go (ct := fun _ => false) am_oX7_lowest 300 ?_
  conv => whnf
  repeat' first
    | (refine (?_ : am_wp _ _ _ _ _ _ _ _ _ _ _ _); conv => whnf)
    | (refine (?_ : am_sw _ _ _ _); conv => whnf)
    | refine And.intro trivial ?_
    | exact trivial
    | assumption
    | exact fun _ _ h => h
    | exact fun _ _ h => (Bool.or_eq_false_iff.mp h).1
    | ((with_reducible refine (?_ : _ ∧ _)); first | (with_reducible first | refine am_jn am_q1 ?_ | refine am_jn am_q2 ?_ | refine am_jn am_q3 ?_ | refine am_jn am_q4 ?_ | refine am_jn am_q6 ?_ | refine am_jn am_q9 ?_ | refine am_jn am_p1 ?_ | refine am_jy am_p0 ?_ | refine am_kn am_q1 ?_ | refine am_kn am_q2 ?_ | refine am_kn am_q3 ?_ | refine am_kn am_q4 ?_ | refine am_kn am_q6 ?_ | refine am_kn am_q9 ?_ | refine am_kn am_p1 ?_ | refine am_ky am_p0 ?_) | refine And.intro (fun h => absurd h (by decide)) (fun _ => ?_) | refine And.intro (fun _ => ?_) (fun h => absurd (by decide) h) | refine And.intro (fun _ => ?_) (fun _ => ?_) | refine And.intro ?_ ?_)
    | refine k _ _ ?_
    | refine gm_up ?_ rfl rfl
    | refine gm_100 ?_ rfl ?_ ?_
    | refine gm_tr ?_ (by assumption) ?_
    | exact gm_i (by assumption)
    | refine mi_up ?_ rfl
    | refine And.intro (fun h => absurd h (by decide)) (fun _ => ?_)
    | refine And.intro (fun _ => ?_) (fun h => absurd (by decide) h)
    | refine And.intro (fun _ => ?_) (fun _ => ?_)
    | refine And.intro ?_ ?_
  all_goals (first | assumption | decide | omega | (intros; omega) | (intros; simp only [am_c] at * <;> omega) | (simp only [am_c, am_up] at * <;> omega) | (simp [am_c, am_up] at * <;> omega))
theorem m_sorts {l : Launch} {μ : am_N} {Q : Option am_V → am_N → Prop} {ν : am_N}  (hS : gm mT ν μ)  (k : ∀ μ' : am_N, gm mT ν μ' → μ' 83 14 = ν 83 14 → 0 ≤ μ' 100 0 → μ' 100 0 ≤ 3 → Q none μ') : am_Does l 165 [.inr (.inr 83)] μ Q := by
  refine am_Does_of (Nat.le_of_ble_eq_true rfl) (Nat.le_of_ble_eq_true rfl) (Nat.le_of_ble_eq_true rfl) ?_
  have hb := mi_all hS.1
  have lp12 : ∀ (m : Nat) (i q : Int) (μ : am_N) , gm mT ν μ → 0 ≤ i → i < μ 83 14 → 0 ≤ q → q ≤ i → (∀ (o2 : Option am_V) (μ : am_N), gm mT ν μ → i + 1 ≤ μ 83 14 → am_AW l 0 (fun _ => 0) 165 Q 2 [some (.inr (.inr 83)), some (.inl (i + 1)), o2] [] μ) → q < (m : Int) → am_AW l 0 (fun _ => 0) 165 Q 12 [some (.inr (.inr 83)), some (.inl i), some (.inl q)] [] μ := by
    intro m
    induction m with
    | zero =>
      intro i q μ hv0 hv1 hv2 hv3 hv4 hv5 hm
      have hb := mi_all hv0.1
      exfalso
      omega
    | succ m ih =>
      intro i q μ hv0 hv1 hv2 hv3 hv4 hv5 hm
      have hb := mi_all hv0.1
      have ho := mi_or hv0.1 (am_c (q - 1)).toNat
      refine am_go (ct := fun pc => Nat.beq pc 12 || Nat.beq pc 2) am_oX7_sorts 300 ?_
      conv => whnf
      repeat' first
        | (refine (?_ : am_wp _ _ _ _ _ _ _ _ _ _ _ _); conv => whnf)
        | (refine (?_ : am_sw _ _ _ _); conv => whnf)
        | refine And.intro trivial ?_
        | exact trivial
        | assumption
        | refine hv5 _ _ ?_ ?_
        | exact fun _ _ h => h
        | exact fun _ _ h => (Bool.or_eq_false_iff.mp h).1
        | ((with_reducible refine (?_ : _ ∧ _)); first | (with_reducible first | refine am_jn am_q1 ?_ | refine am_jn am_q2 ?_ | refine am_jn am_q3 ?_ | refine am_jn am_q4 ?_ | refine am_jn am_q6 ?_ | refine am_jn am_q9 ?_ | refine am_jn am_p1 ?_ | refine am_jy am_p0 ?_ | refine am_kn am_q1 ?_ | refine am_kn am_q2 ?_ | refine am_kn am_q3 ?_ | refine am_kn am_q4 ?_ | refine am_kn am_q6 ?_ | refine am_kn am_q9 ?_ | refine am_kn am_p1 ?_ | refine am_ky am_p0 ?_) | refine And.intro (fun h => absurd h (by decide)) (fun _ => ?_) | refine And.intro (fun _ => ?_) (fun h => absurd (by decide) h) | refine And.intro (fun _ => ?_) (fun _ => ?_) | refine And.intro ?_ ?_)
        | refine k _ ?_ ?_ ?_ ?_
        | refine gm_up ?_ rfl rfl
        | refine gm_100 ?_ rfl ?_ ?_
        | refine gm_tr ?_ (by assumption) ?_
        | exact gm_i (by assumption)
        | refine mi_up ?_ rfl
        | ((with_reducible refine (?_ : am_AW _ _ _ _ _ 12 _ _ _)); refine ih _ _ _ ?_ ?_ ?_ ?_ ?_ ?_ ?_)
        | refine And.intro (fun h => absurd h (by decide)) (fun _ => ?_)
        | refine And.intro (fun _ => ?_) (fun h => absurd (by decide) h)
        | refine And.intro (fun _ => ?_) (fun _ => ?_)
        | refine And.intro ?_ ?_
      all_goals (first | assumption | decide | omega | (intros; omega) | (intros; simp only [am_c] at * <;> omega) | (simp only [am_c, am_up] at * <;> omega) | (simp [am_c, am_up] at * <;> omega))
  have lp12' : ∀ (i q : Int) (μ : am_N) , gm mT ν μ → 0 ≤ i → i < μ 83 14 → 0 ≤ q → q ≤ i → (∀ (o2 : Option am_V) (μ : am_N), gm mT ν μ → i + 1 ≤ μ 83 14 → am_AW l 0 (fun _ => 0) 165 Q 2 [some (.inr (.inr 83)), some (.inl (i + 1)), o2] [] μ) → am_AW l 0 (fun _ => 0) 165 Q 12 [some (.inr (.inr 83)), some (.inl i), some (.inl q)] [] μ := fun i q μ hv0 hv1 hv2 hv3 hv4 hv5 => lp12 ((q) + 1).toNat i q μ hv0 hv1 hv2 hv3 hv4 hv5 (by omega)
  have lp2 : ∀ (m : Nat) (i : Int) (o2 : Option am_V) (μ : am_N) , gm mT ν μ → 0 ≤ i → i ≤ μ 83 14 → 4 - i < (m : Int) → am_AW l 0 (fun _ => 0) 165 Q 2 [some (.inr (.inr 83)), some (.inl i), o2] [] μ := by
    intro m
    induction m with
    | zero =>
      intro i o2 μ hv0 hv1 hv2 hm
      have hb := mi_all hv0.1
      exfalso
      omega
    | succ m ih =>
      intro i o2 μ hv0 hv1 hv2 hm
      have hb := mi_all hv0.1
      have e14 : μ 83 14 = ν 83 14 := hv0.2 83 14 rfl
      refine am_go (ct := fun pc => Nat.beq pc 12 || Nat.beq pc 2) am_oX7_sorts 300 ?_
      conv => whnf
      repeat' first
        | (refine (?_ : am_wp _ _ _ _ _ _ _ _ _ _ _ _); conv => whnf)
        | (refine (?_ : am_sw _ _ _ _); conv => whnf)
        | refine And.intro trivial ?_
        | exact trivial
        | assumption
        | (refine fun _ _ _ _ => ih _ _ _ ?_ ?_ ?_ ?_)
        | exact fun _ _ h => h
        | exact fun _ _ h => (Bool.or_eq_false_iff.mp h).1
        | ((with_reducible refine (?_ : _ ∧ _)); first | (with_reducible first | refine am_jn am_q1 ?_ | refine am_jn am_q2 ?_ | refine am_jn am_q3 ?_ | refine am_jn am_q4 ?_ | refine am_jn am_q6 ?_ | refine am_jn am_q9 ?_ | refine am_jn am_p1 ?_ | refine am_jy am_p0 ?_ | refine am_kn am_q1 ?_ | refine am_kn am_q2 ?_ | refine am_kn am_q3 ?_ | refine am_kn am_q4 ?_ | refine am_kn am_q6 ?_ | refine am_kn am_q9 ?_ | refine am_kn am_p1 ?_ | refine am_ky am_p0 ?_) | refine And.intro (fun h => absurd h (by decide)) (fun _ => ?_) | refine And.intro (fun _ => ?_) (fun h => absurd (by decide) h) | refine And.intro (fun _ => ?_) (fun _ => ?_) | refine And.intro ?_ ?_)
        | refine k _ ?_ ?_ ?_ ?_
        | refine gm_up ?_ rfl rfl
        | refine gm_100 ?_ rfl ?_ ?_
        | refine gm_tr ?_ (by assumption) ?_
        | exact gm_i (by assumption)
        | refine mi_up ?_ rfl
        | ((with_reducible refine (?_ : am_AW _ _ _ _ _ 2 _ _ _)); refine ih _ _ _ ?_ ?_ ?_ ?_)
        | ((with_reducible refine (?_ : am_AW _ _ _ _ _ 12 _ _ _)); refine lp12' _ _ _ ?_ ?_ ?_ ?_ ?_ ?_)
        | refine And.intro (fun h => absurd h (by decide)) (fun _ => ?_)
        | refine And.intro (fun _ => ?_) (fun h => absurd (by decide) h)
        | refine And.intro (fun _ => ?_) (fun _ => ?_)
        | refine And.intro ?_ ?_
      all_goals (first | assumption | decide | omega | (intros; omega) | (intros; simp only [am_c] at * <;> omega) | (simp only [am_c, am_up] at * <;> omega) | (simp [am_c, am_up] at * <;> omega))
  have lp2' : ∀ (i : Int) (o2 : Option am_V) (μ : am_N) , gm mT ν μ → 0 ≤ i → i ≤ μ 83 14 → am_AW l 0 (fun _ => 0) 165 Q 2 [some (.inr (.inr 83)), some (.inl i), o2] [] μ := fun i o2 μ hv0 hv1 hv2 => lp2 ((4 - i) + 1).toNat i o2 μ hv0 hv1 hv2 (by omega)
  refine am_go (ct := fun pc => Nat.beq pc 12 || Nat.beq pc 2) am_oX7_sorts 300 ?_
  conv => whnf
  repeat' first
    | (refine (?_ : am_wp _ _ _ _ _ _ _ _ _ _ _ _); conv => whnf)
    | (refine (?_ : am_sw _ _ _ _); conv => whnf)
    | refine And.intro trivial ?_
    | exact trivial
    | assumption
    | exact fun _ _ h => h
    | exact fun _ _ h => (Bool.or_eq_false_iff.mp h).1
    | ((with_reducible refine (?_ : _ ∧ _)); first | (with_reducible first | refine am_jn am_q1 ?_ | refine am_jn am_q2 ?_ | refine am_jn am_q3 ?_ | refine am_jn am_q4 ?_ | refine am_jn am_q6 ?_ | refine am_jn am_q9 ?_ | refine am_jn am_p1 ?_ | refine am_jy am_p0 ?_ | refine am_kn am_q1 ?_ | refine am_kn am_q2 ?_ | refine am_kn am_q3 ?_ | refine am_kn am_q4 ?_ | refine am_kn am_q6 ?_ | refine am_kn am_q9 ?_ | refine am_kn am_p1 ?_ | refine am_ky am_p0 ?_) | refine And.intro (fun h => absurd h (by decide)) (fun _ => ?_) | refine And.intro (fun _ => ?_) (fun h => absurd (by decide) h) | refine And.intro (fun _ => ?_) (fun _ => ?_) | refine And.intro ?_ ?_)
    | refine k _ ?_ ?_ ?_ ?_
    | refine gm_up ?_ rfl rfl
    | refine gm_100 ?_ rfl ?_ ?_
    | refine gm_tr ?_ (by assumption) ?_
    | exact gm_i (by assumption)
    | refine mi_up ?_ rfl
    | ((with_reducible refine (?_ : am_AW _ _ _ _ _ 2 _ _ _)); refine lp2' _ _ _ ?_ ?_ ?_)
    | ((with_reducible refine (?_ : am_AW _ _ _ _ _ 12 _ _ _)); refine lp12' _ _ _ ?_ ?_ ?_ ?_ ?_ ?_)
    | refine And.intro (fun h => absurd h (by decide)) (fun _ => ?_)
    | refine And.intro (fun _ => ?_) (fun h => absurd (by decide) h)
    | refine And.intro (fun _ => ?_) (fun _ => ?_)
    | refine And.intro ?_ ?_
  all_goals (first | assumption | decide | omega | (intros; omega) | (intros; simp only [am_c] at * <;> omega) | (simp only [am_c, am_up] at * <;> omega) | (simp [am_c, am_up] at * <;> omega))
