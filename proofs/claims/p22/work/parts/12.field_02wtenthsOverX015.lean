theorem w_tenths_X0_8 {l : Launch} {μ : am_N} {Q : Option am_V → am_N → Prop} {ν : am_N} (i : Int) (hS : sx ν μ)  (k : ∀ r, Q (some (.inl r)) μ) : am_Does l 8 [.inr (.inr 8), .inl i] μ Q := by
  refine am_Does_of (Nat.le_of_ble_eq_true rfl) (Nat.le_of_ble_eq_true rfl) (Nat.le_of_ble_eq_true rfl) ?_
  have hb := sx_all hS
  refine am_go (ct := fun _ => false) am_oX0_tenths 300 ?_
  conv => whnf
  repeat' first
    | (refine (?_ : am_wp _ _ _ _ _ _ _ _ _ _ _ _); conv => whnf)
    | (refine (?_ : am_sw _ _ _ _); conv => whnf)
    | refine And.intro trivial ?_
    | exact trivial
    | assumption
    | ((with_reducible refine (?_ : _ ∧ _)); first | (with_reducible first | refine am_jn am_q1 ?_ | refine am_jn am_q2 ?_ | refine am_jn am_q3 ?_ | refine am_jn am_q4 ?_ | refine am_jn am_q6 ?_ | refine am_jn am_q9 ?_ | refine am_jn am_p1 ?_ | refine am_jy am_p0 ?_ | refine am_kn am_q1 ?_ | refine am_kn am_q2 ?_ | refine am_kn am_q3 ?_ | refine am_kn am_q4 ?_ | refine am_kn am_q6 ?_ | refine am_kn am_q9 ?_ | refine am_kn am_p1 ?_ | refine am_ky am_p0 ?_) | refine And.intro (fun h => absurd h (by decide)) (fun _ => ?_) | refine And.intro (fun _ => ?_) (fun h => absurd (by decide) h) | refine And.intro (fun _ => ?_) (fun _ => ?_) | refine And.intro ?_ ?_)
    | exact k _
    | refine sx_up ?_ rfl
    | ((with_reducible refine (?_ : am_Does _ 10 _ _ _)); first | ((with_reducible refine (?_ : am_Does _ 10 (Sum.inr (Sum.inr 1) :: _) _ _)); refine w_tenthsOver_X0_1 (ν := ν) _ _ _ ?_  (fun _ => ?_)) | ((with_reducible refine (?_ : am_Does _ 10 (Sum.inr (Sum.inr 8) :: _) _ _)); refine w_tenthsOver_X0_8 (ν := ν) _ _ _ ?_  (fun _ => ?_)) | refine w_tenthsOver_X0_1 (ν := ν) _ _ _ ?_  (fun _ => ?_) | refine w_tenthsOver_X0_8 (ν := ν) _ _ _ ?_  (fun _ => ?_))
    | refine And.intro (fun h => absurd h (by decide)) (fun _ => ?_)
    | refine And.intro (fun _ => ?_) (fun h => absurd (by decide) h)
    | refine And.intro (fun _ => ?_) (fun _ => ?_)
    | refine And.intro ?_ ?_
  all_goals (first | assumption | omega | (simp only [am_c, am_up] at *; omega) | (simp [am_c, am_up] at *; omega))
theorem w_has_X0_15 {l : Launch} {μ : am_N} {Q : Option am_V → am_N → Prop} {ν : am_N} (i : Int) (hS : sx ν μ) (k1 : 0 ≤ am_c i → am_c i < μ 15 4 → am_c i < 4 → Q (some (.inl 1)) μ) (k2 : (am_c i < 0 ∨ μ 15 4 ≤ am_c i) → Q (some (.inl 0)) μ) : am_Does l 1 [.inr (.inr 15), .inl i] μ Q := by
  refine am_Does_of (Nat.le_of_ble_eq_true rfl) (Nat.le_of_ble_eq_true rfl) (Nat.le_of_ble_eq_true rfl) ?_
  have hb := sx_all hS
  refine am_go (ct := fun _ => false) am_oX0_has 300 ?_
  conv => whnf
  repeat' first
    | (refine (?_ : am_wp _ _ _ _ _ _ _ _ _ _ _ _); conv => whnf)
    | (refine (?_ : am_sw _ _ _ _); conv => whnf)
    | refine And.intro trivial ?_
    | exact trivial
    | assumption
    | ((with_reducible refine (?_ : _ ∧ _)); first | (with_reducible first | refine am_jn am_q1 ?_ | refine am_jn am_q2 ?_ | refine am_jn am_q3 ?_ | refine am_jn am_q4 ?_ | refine am_jn am_q6 ?_ | refine am_jn am_q9 ?_ | refine am_jn am_p1 ?_ | refine am_jy am_p0 ?_ | refine am_kn am_q1 ?_ | refine am_kn am_q2 ?_ | refine am_kn am_q3 ?_ | refine am_kn am_q4 ?_ | refine am_kn am_q6 ?_ | refine am_kn am_q9 ?_ | refine am_kn am_p1 ?_ | refine am_ky am_p0 ?_) | refine And.intro (fun h => absurd h (by decide)) (fun _ => ?_) | refine And.intro (fun _ => ?_) (fun h => absurd (by decide) h) | refine And.intro (fun _ => ?_) (fun _ => ?_) | refine And.intro ?_ ?_)
    | refine k1 ?_ ?_ ?_
    | refine k2 ?_
    | refine And.intro (fun h => absurd h (by decide)) (fun _ => ?_)
    | refine And.intro (fun _ => ?_) (fun h => absurd (by decide) h)
    | refine And.intro (fun _ => ?_) (fun _ => ?_)
    | refine And.intro ?_ ?_
  all_goals (first | assumption | omega | (simp only [am_c, am_up] at *; omega) | (simp [am_c, am_up] at *; omega))
theorem w_tenthsOver_X0_15 {l : Launch} {μ : am_N} {Q : Option am_V → am_N → Prop} {ν : am_N} (i y s : Int) (hS : sx ν μ)  (k : ∀ r, Q (some (.inl r)) μ) : am_Does l 10 [.inr (.inr 15), .inl i, .inl y, .inl s] μ Q := by
  refine am_Does_of (Nat.le_of_ble_eq_true rfl) (Nat.le_of_ble_eq_true rfl) (Nat.le_of_ble_eq_true rfl) ?_
  have hb := sx_all hS
  have lp177 : ∀ (y4 t5 f6 k7 : Int), 0 ≤ am_c i → am_c i < 4 → am_AW l 0 (fun _ => 0) 10 Q 177 [some (.inr (.inr 15)), some (.inl i), some (.inl y), some (.inl s), some (.inl y4), some (.inl t5), some (.inl f6), some (.inl k7)] [] μ := by
    intro y4 t5 f6 k7  hv0 hv1
    refine am_go (ct := fun pc => Nat.beq pc 177 || Nat.beq pc 164 || Nat.beq pc 136 || Nat.beq pc 121 || Nat.beq pc 86 || Nat.beq pc 49 || Nat.beq pc 26) am_oX0_tenthsOver 300 ?_
    conv => whnf
    repeat' first
      | (refine (?_ : am_wp _ _ _ _ _ _ _ _ _ _ _ _); conv => whnf)
      | (refine (?_ : am_sw _ _ _ _); conv => whnf)
      | refine And.intro trivial ?_
      | exact trivial
      | assumption
      | ((with_reducible refine (?_ : _ ∧ _)); first | (with_reducible first | refine am_jn am_q1 ?_ | refine am_jn am_q2 ?_ | refine am_jn am_q3 ?_ | refine am_jn am_q4 ?_ | refine am_jn am_q6 ?_ | refine am_jn am_q9 ?_ | refine am_jn am_p1 ?_ | refine am_jy am_p0 ?_ | refine am_kn am_q1 ?_ | refine am_kn am_q2 ?_ | refine am_kn am_q3 ?_ | refine am_kn am_q4 ?_ | refine am_kn am_q6 ?_ | refine am_kn am_q9 ?_ | refine am_kn am_p1 ?_ | refine am_ky am_p0 ?_) | refine And.intro (fun h => absurd h (by decide)) (fun _ => ?_) | refine And.intro (fun _ => ?_) (fun h => absurd (by decide) h) | refine And.intro (fun _ => ?_) (fun _ => ?_) | refine And.intro ?_ ?_)
      | exact k _
      | refine sx_up ?_ rfl
      | refine And.intro (fun h => absurd h (by decide)) (fun _ => ?_)
      | refine And.intro (fun _ => ?_) (fun h => absurd (by decide) h)
      | refine And.intro (fun _ => ?_) (fun _ => ?_)
      | refine And.intro ?_ ?_
    all_goals (first | assumption | omega | (simp only [am_c, am_up] at *; omega) | (simp [am_c, am_up] at *; omega))
  have lp164 : ∀ (y4 t5 f6 k7 : Int), 0 ≤ am_c i → am_c i < 4 → am_AW l 0 (fun _ => 0) 10 Q 164 [some (.inr (.inr 15)), some (.inl i), some (.inl y), some (.inl s), some (.inl y4), some (.inl t5), some (.inl f6), some (.inl k7)] [] μ := by
    intro y4 t5 f6 k7  hv0 hv1
    refine am_go (ct := fun pc => Nat.beq pc 177 || Nat.beq pc 164 || Nat.beq pc 136 || Nat.beq pc 121 || Nat.beq pc 86 || Nat.beq pc 49 || Nat.beq pc 26) am_oX0_tenthsOver 300 ?_
    conv => whnf
    repeat' first
      | (refine (?_ : am_wp _ _ _ _ _ _ _ _ _ _ _ _); conv => whnf)
      | (refine (?_ : am_sw _ _ _ _); conv => whnf)
      | refine And.intro trivial ?_
      | exact trivial
      | assumption
      | ((with_reducible refine (?_ : _ ∧ _)); first | (with_reducible first | refine am_jn am_q1 ?_ | refine am_jn am_q2 ?_ | refine am_jn am_q3 ?_ | refine am_jn am_q4 ?_ | refine am_jn am_q6 ?_ | refine am_jn am_q9 ?_ | refine am_jn am_p1 ?_ | refine am_jy am_p0 ?_ | refine am_kn am_q1 ?_ | refine am_kn am_q2 ?_ | refine am_kn am_q3 ?_ | refine am_kn am_q4 ?_ | refine am_kn am_q6 ?_ | refine am_kn am_q9 ?_ | refine am_kn am_p1 ?_ | refine am_ky am_p0 ?_) | refine And.intro (fun h => absurd h (by decide)) (fun _ => ?_) | refine And.intro (fun _ => ?_) (fun h => absurd (by decide) h) | refine And.intro (fun _ => ?_) (fun _ => ?_) | refine And.intro ?_ ?_)
      | exact k _
      | refine sx_up ?_ rfl
      | ((with_reducible refine (?_ : am_AW _ _ _ _ _ 177 _ _ _)); refine lp177 _ _ _ _  ?_ ?_)
      | refine And.intro (fun h => absurd h (by decide)) (fun _ => ?_)
      | refine And.intro (fun _ => ?_) (fun h => absurd (by decide) h)
      | refine And.intro (fun _ => ?_) (fun _ => ?_)
      | refine And.intro ?_ ?_
    all_goals (first | assumption | omega | (simp only [am_c, am_up] at *; omega) | (simp [am_c, am_up] at *; omega))
  have lp136 : ∀ (y4 t5 f6 k7 : Int), 0 ≤ am_c i → am_c i < 4 → am_AW l 0 (fun _ => 0) 10 Q 136 [some (.inr (.inr 15)), some (.inl i), some (.inl y), some (.inl s), some (.inl y4), some (.inl t5), some (.inl f6), some (.inl k7)] [] μ := by
    intro y4 t5 f6 k7  hv0 hv1
    refine am_go (ct := fun pc => Nat.beq pc 177 || Nat.beq pc 164 || Nat.beq pc 136 || Nat.beq pc 121 || Nat.beq pc 86 || Nat.beq pc 49 || Nat.beq pc 26) am_oX0_tenthsOver 300 ?_
    conv => whnf
    repeat' first
      | (refine (?_ : am_wp _ _ _ _ _ _ _ _ _ _ _ _); conv => whnf)
      | (refine (?_ : am_sw _ _ _ _); conv => whnf)
      | refine And.intro trivial ?_
      | exact trivial
      | assumption
      | ((with_reducible refine (?_ : _ ∧ _)); first | (with_reducible first | refine am_jn am_q1 ?_ | refine am_jn am_q2 ?_ | refine am_jn am_q3 ?_ | refine am_jn am_q4 ?_ | refine am_jn am_q6 ?_ | refine am_jn am_q9 ?_ | refine am_jn am_p1 ?_ | refine am_jy am_p0 ?_ | refine am_kn am_q1 ?_ | refine am_kn am_q2 ?_ | refine am_kn am_q3 ?_ | refine am_kn am_q4 ?_ | refine am_kn am_q6 ?_ | refine am_kn am_q9 ?_ | refine am_kn am_p1 ?_ | refine am_ky am_p0 ?_) | refine And.intro (fun h => absurd h (by decide)) (fun _ => ?_) | refine And.intro (fun _ => ?_) (fun h => absurd (by decide) h) | refine And.intro (fun _ => ?_) (fun _ => ?_) | refine And.intro ?_ ?_)
      | exact k _
      | refine sx_up ?_ rfl
      | ((with_reducible refine (?_ : am_AW _ _ _ _ _ 164 _ _ _)); refine lp164 _ _ _ _  ?_ ?_)
      | ((with_reducible refine (?_ : am_AW _ _ _ _ _ 177 _ _ _)); refine lp177 _ _ _ _  ?_ ?_)
      | refine And.intro (fun h => absurd h (by decide)) (fun _ => ?_)
      | refine And.intro (fun _ => ?_) (fun h => absurd (by decide) h)
      | refine And.intro (fun _ => ?_) (fun _ => ?_)
      | refine And.intro ?_ ?_
    all_goals (first | assumption | omega | (simp only [am_c, am_up] at *; omega) | (simp [am_c, am_up] at *; omega))
  have lp121 : ∀ (y4 t5 f6 k7 : Int), 0 ≤ am_c i → am_c i < 4 → am_AW l 0 (fun _ => 0) 10 Q 121 [some (.inr (.inr 15)), some (.inl i), some (.inl y), some (.inl s), some (.inl y4), some (.inl t5), some (.inl f6), some (.inl k7)] [] μ := by
    intro y4 t5 f6 k7  hv0 hv1
    refine am_go (ct := fun pc => Nat.beq pc 177 || Nat.beq pc 164 || Nat.beq pc 136 || Nat.beq pc 121 || Nat.beq pc 86 || Nat.beq pc 49 || Nat.beq pc 26) am_oX0_tenthsOver 300 ?_
    conv => whnf
    repeat' first
      | (refine (?_ : am_wp _ _ _ _ _ _ _ _ _ _ _ _); conv => whnf)
      | (refine (?_ : am_sw _ _ _ _); conv => whnf)
      | refine And.intro trivial ?_
      | exact trivial
      | assumption
      | ((with_reducible refine (?_ : _ ∧ _)); first | (with_reducible first | refine am_jn am_q1 ?_ | refine am_jn am_q2 ?_ | refine am_jn am_q3 ?_ | refine am_jn am_q4 ?_ | refine am_jn am_q6 ?_ | refine am_jn am_q9 ?_ | refine am_jn am_p1 ?_ | refine am_jy am_p0 ?_ | refine am_kn am_q1 ?_ | refine am_kn am_q2 ?_ | refine am_kn am_q3 ?_ | refine am_kn am_q4 ?_ | refine am_kn am_q6 ?_ | refine am_kn am_q9 ?_ | refine am_kn am_p1 ?_ | refine am_ky am_p0 ?_) | refine And.intro (fun h => absurd h (by decide)) (fun _ => ?_) | refine And.intro (fun _ => ?_) (fun h => absurd (by decide) h) | refine And.intro (fun _ => ?_) (fun _ => ?_) | refine And.intro ?_ ?_)
      | exact k _
      | refine sx_up ?_ rfl
      | ((with_reducible refine (?_ : am_AW _ _ _ _ _ 136 _ _ _)); refine lp136 _ _ _ _  ?_ ?_)
      | ((with_reducible refine (?_ : am_AW _ _ _ _ _ 164 _ _ _)); refine lp164 _ _ _ _  ?_ ?_)
      | ((with_reducible refine (?_ : am_AW _ _ _ _ _ 177 _ _ _)); refine lp177 _ _ _ _  ?_ ?_)
      | refine And.intro (fun h => absurd h (by decide)) (fun _ => ?_)
      | refine And.intro (fun _ => ?_) (fun h => absurd (by decide) h)
      | refine And.intro (fun _ => ?_) (fun _ => ?_)
      | refine And.intro ?_ ?_
    all_goals (first | assumption | omega | (simp only [am_c, am_up] at *; omega) | (simp [am_c, am_up] at *; omega))
  have lp86 : ∀ (y4 t5 f6 k7 : Int), 0 ≤ am_c i → am_c i < 4 → am_AW l 0 (fun _ => 0) 10 Q 86 [some (.inr (.inr 15)), some (.inl i), some (.inl y), some (.inl s), some (.inl y4), some (.inl t5), some (.inl f6), some (.inl k7)] [] μ := by
    intro y4 t5 f6 k7  hv0 hv1
    refine am_go (ct := fun pc => Nat.beq pc 177 || Nat.beq pc 164 || Nat.beq pc 136 || Nat.beq pc 121 || Nat.beq pc 86 || Nat.beq pc 49 || Nat.beq pc 26) am_oX0_tenthsOver 300 ?_
    conv => whnf
    repeat' first
      | (refine (?_ : am_wp _ _ _ _ _ _ _ _ _ _ _ _); conv => whnf)
      | (refine (?_ : am_sw _ _ _ _); conv => whnf)
      | refine And.intro trivial ?_
      | exact trivial
      | assumption
      | ((with_reducible refine (?_ : _ ∧ _)); first | (with_reducible first | refine am_jn am_q1 ?_ | refine am_jn am_q2 ?_ | refine am_jn am_q3 ?_ | refine am_jn am_q4 ?_ | refine am_jn am_q6 ?_ | refine am_jn am_q9 ?_ | refine am_jn am_p1 ?_ | refine am_jy am_p0 ?_ | refine am_kn am_q1 ?_ | refine am_kn am_q2 ?_ | refine am_kn am_q3 ?_ | refine am_kn am_q4 ?_ | refine am_kn am_q6 ?_ | refine am_kn am_q9 ?_ | refine am_kn am_p1 ?_ | refine am_ky am_p0 ?_) | refine And.intro (fun h => absurd h (by decide)) (fun _ => ?_) | refine And.intro (fun _ => ?_) (fun h => absurd (by decide) h) | refine And.intro (fun _ => ?_) (fun _ => ?_) | refine And.intro ?_ ?_)
      | exact k _
      | refine sx_up ?_ rfl
      | ((with_reducible refine (?_ : am_AW _ _ _ _ _ 121 _ _ _)); refine lp121 _ _ _ _  ?_ ?_)
      | ((with_reducible refine (?_ : am_AW _ _ _ _ _ 136 _ _ _)); refine lp136 _ _ _ _  ?_ ?_)
      | ((with_reducible refine (?_ : am_AW _ _ _ _ _ 164 _ _ _)); refine lp164 _ _ _ _  ?_ ?_)
      | ((with_reducible refine (?_ : am_AW _ _ _ _ _ 177 _ _ _)); refine lp177 _ _ _ _  ?_ ?_)
      | refine And.intro (fun h => absurd h (by decide)) (fun _ => ?_)
      | refine And.intro (fun _ => ?_) (fun h => absurd (by decide) h)
      | refine And.intro (fun _ => ?_) (fun _ => ?_)
      | refine And.intro ?_ ?_
    all_goals (first | assumption | omega | (simp only [am_c, am_up] at *; omega) | (simp [am_c, am_up] at *; omega))
  have lp49 : ∀ (y4 t5 : Int), 0 ≤ am_c i → am_c i < 4 → am_AW l 0 (fun _ => 0) 10 Q 49 [some (.inr (.inr 15)), some (.inl i), some (.inl y), some (.inl s), some (.inl y4), some (.inl t5), none, none] [] μ := by
    intro y4 t5  hv0 hv1
    refine am_go (ct := fun pc => Nat.beq pc 177 || Nat.beq pc 164 || Nat.beq pc 136 || Nat.beq pc 121 || Nat.beq pc 86 || Nat.beq pc 49 || Nat.beq pc 26) am_oX0_tenthsOver 300 ?_
    conv => whnf
    repeat' first
      | (refine (?_ : am_wp _ _ _ _ _ _ _ _ _ _ _ _); conv => whnf)
      | (refine (?_ : am_sw _ _ _ _); conv => whnf)
      | refine And.intro trivial ?_
      | exact trivial
      | assumption
      | ((with_reducible refine (?_ : _ ∧ _)); first | (with_reducible first | refine am_jn am_q1 ?_ | refine am_jn am_q2 ?_ | refine am_jn am_q3 ?_ | refine am_jn am_q4 ?_ | refine am_jn am_q6 ?_ | refine am_jn am_q9 ?_ | refine am_jn am_p1 ?_ | refine am_jy am_p0 ?_ | refine am_kn am_q1 ?_ | refine am_kn am_q2 ?_ | refine am_kn am_q3 ?_ | refine am_kn am_q4 ?_ | refine am_kn am_q6 ?_ | refine am_kn am_q9 ?_ | refine am_kn am_p1 ?_ | refine am_ky am_p0 ?_) | refine And.intro (fun h => absurd h (by decide)) (fun _ => ?_) | refine And.intro (fun _ => ?_) (fun h => absurd (by decide) h) | refine And.intro (fun _ => ?_) (fun _ => ?_) | refine And.intro ?_ ?_)
      | exact k _
      | refine sx_up ?_ rfl
      | ((with_reducible refine (?_ : am_AW _ _ _ _ _ 86 _ _ _)); refine lp86 _ _ _ _  ?_ ?_)
      | ((with_reducible refine (?_ : am_AW _ _ _ _ _ 121 _ _ _)); refine lp121 _ _ _ _  ?_ ?_)
      | ((with_reducible refine (?_ : am_AW _ _ _ _ _ 136 _ _ _)); refine lp136 _ _ _ _  ?_ ?_)
      | ((with_reducible refine (?_ : am_AW _ _ _ _ _ 164 _ _ _)); refine lp164 _ _ _ _  ?_ ?_)
      | ((with_reducible refine (?_ : am_AW _ _ _ _ _ 177 _ _ _)); refine lp177 _ _ _ _  ?_ ?_)
      | refine And.intro (fun h => absurd h (by decide)) (fun _ => ?_)
      | refine And.intro (fun _ => ?_) (fun h => absurd (by decide) h)
      | refine And.intro (fun _ => ?_) (fun _ => ?_)
      | refine And.intro ?_ ?_
    all_goals (first | assumption | omega | (simp only [am_c, am_up] at *; omega) | (simp [am_c, am_up] at *; omega))
  have lp26 : ∀ (y4 : Int), 0 ≤ am_c i → am_c i < 4 → am_AW l 0 (fun _ => 0) 10 Q 26 [some (.inr (.inr 15)), some (.inl i), some (.inl y), some (.inl s), some (.inl y4), none, none, none] [] μ := by
    intro y4  hv0 hv1
    refine am_go (ct := fun pc => Nat.beq pc 177 || Nat.beq pc 164 || Nat.beq pc 136 || Nat.beq pc 121 || Nat.beq pc 86 || Nat.beq pc 49 || Nat.beq pc 26) am_oX0_tenthsOver 300 ?_
    conv => whnf
    repeat' first
      | (refine (?_ : am_wp _ _ _ _ _ _ _ _ _ _ _ _); conv => whnf)
      | (refine (?_ : am_sw _ _ _ _); conv => whnf)
      | refine And.intro trivial ?_
      | exact trivial
      | assumption
      | ((with_reducible refine (?_ : _ ∧ _)); first | (with_reducible first | refine am_jn am_q1 ?_ | refine am_jn am_q2 ?_ | refine am_jn am_q3 ?_ | refine am_jn am_q4 ?_ | refine am_jn am_q6 ?_ | refine am_jn am_q9 ?_ | refine am_jn am_p1 ?_ | refine am_jy am_p0 ?_ | refine am_kn am_q1 ?_ | refine am_kn am_q2 ?_ | refine am_kn am_q3 ?_ | refine am_kn am_q4 ?_ | refine am_kn am_q6 ?_ | refine am_kn am_q9 ?_ | refine am_kn am_p1 ?_ | refine am_ky am_p0 ?_) | refine And.intro (fun h => absurd h (by decide)) (fun _ => ?_) | refine And.intro (fun _ => ?_) (fun h => absurd (by decide) h) | refine And.intro (fun _ => ?_) (fun _ => ?_) | refine And.intro ?_ ?_)
      | exact k _
      | refine sx_up ?_ rfl
      | ((with_reducible refine (?_ : am_AW _ _ _ _ _ 49 _ _ _)); refine lp49 _ _  ?_ ?_)
      | ((with_reducible refine (?_ : am_AW _ _ _ _ _ 86 _ _ _)); refine lp86 _ _ _ _  ?_ ?_)
      | ((with_reducible refine (?_ : am_AW _ _ _ _ _ 121 _ _ _)); refine lp121 _ _ _ _  ?_ ?_)
      | ((with_reducible refine (?_ : am_AW _ _ _ _ _ 136 _ _ _)); refine lp136 _ _ _ _  ?_ ?_)
      | ((with_reducible refine (?_ : am_AW _ _ _ _ _ 164 _ _ _)); refine lp164 _ _ _ _  ?_ ?_)
      | ((with_reducible refine (?_ : am_AW _ _ _ _ _ 177 _ _ _)); refine lp177 _ _ _ _  ?_ ?_)
      | refine And.intro (fun h => absurd h (by decide)) (fun _ => ?_)
      | refine And.intro (fun _ => ?_) (fun h => absurd (by decide) h)
      | refine And.intro (fun _ => ?_) (fun _ => ?_)
      | refine And.intro ?_ ?_
    all_goals (first | assumption | omega | (simp only [am_c, am_up] at *; omega) | (simp [am_c, am_up] at *; omega))
  refine am_go (ct := fun pc => Nat.beq pc 177 || Nat.beq pc 164 || Nat.beq pc 136 || Nat.beq pc 121 || Nat.beq pc 86 || Nat.beq pc 49 || Nat.beq pc 26) am_oX0_tenthsOver 300 ?_
  conv => whnf
  repeat' first
    | (refine (?_ : am_wp _ _ _ _ _ _ _ _ _ _ _ _); conv => whnf)
    | (refine (?_ : am_sw _ _ _ _); conv => whnf)
    | refine And.intro trivial ?_
    | exact trivial
    | assumption
    | ((with_reducible refine (?_ : _ ∧ _)); first | (with_reducible first | refine am_jn am_q1 ?_ | refine am_jn am_q2 ?_ | refine am_jn am_q3 ?_ | refine am_jn am_q4 ?_ | refine am_jn am_q6 ?_ | refine am_jn am_q9 ?_ | refine am_jn am_p1 ?_ | refine am_jy am_p0 ?_ | refine am_kn am_q1 ?_ | refine am_kn am_q2 ?_ | refine am_kn am_q3 ?_ | refine am_kn am_q4 ?_ | refine am_kn am_q6 ?_ | refine am_kn am_q9 ?_ | refine am_kn am_p1 ?_ | refine am_ky am_p0 ?_) | refine And.intro (fun h => absurd h (by decide)) (fun _ => ?_) | refine And.intro (fun _ => ?_) (fun h => absurd (by decide) h) | refine And.intro (fun _ => ?_) (fun _ => ?_) | refine And.intro ?_ ?_)
    | exact k _
    | refine sx_up ?_ rfl
    | ((with_reducible refine (?_ : am_AW _ _ _ _ _ 26 _ _ _)); refine lp26 _  ?_ ?_)
    | ((with_reducible refine (?_ : am_AW _ _ _ _ _ 49 _ _ _)); refine lp49 _ _  ?_ ?_)
    | ((with_reducible refine (?_ : am_AW _ _ _ _ _ 86 _ _ _)); refine lp86 _ _ _ _  ?_ ?_)
    | ((with_reducible refine (?_ : am_AW _ _ _ _ _ 121 _ _ _)); refine lp121 _ _ _ _  ?_ ?_)
    | ((with_reducible refine (?_ : am_AW _ _ _ _ _ 136 _ _ _)); refine lp136 _ _ _ _  ?_ ?_)
    | ((with_reducible refine (?_ : am_AW _ _ _ _ _ 164 _ _ _)); refine lp164 _ _ _ _  ?_ ?_)
    | ((with_reducible refine (?_ : am_AW _ _ _ _ _ 177 _ _ _)); refine lp177 _ _ _ _  ?_ ?_)
    | refine And.intro (fun h => absurd h (by decide)) (fun _ => ?_)
    | refine And.intro (fun _ => ?_) (fun h => absurd (by decide) h)
    | refine And.intro (fun _ => ?_) (fun _ => ?_)
    | refine And.intro ?_ ?_
  all_goals (first | assumption | omega | (simp only [am_c, am_up] at *; omega) | (simp [am_c, am_up] at *; omega))
