theorem w_has_1 {l : Launch} {μ : am_N} {Q : Option am_V → am_N → Prop} (i : Int) (hn0 : 0 ≤ μ 1 4) (hn1 : μ 1 4 ≤ 4) (k1 : 0 ≤ am_c i → am_c i < μ 1 4 → am_c i < 4 → Q (some (.inl 1)) μ) (k2 : (am_c i < 0 ∨ μ 1 4 ≤ am_c i) → Q (some (.inl 0)) μ) : am_Does l 1 [.inr (.inr 1), .inl i] μ Q := by
  refine am_Does_of (Nat.le_of_ble_eq_true rfl) (Nat.le_of_ble_eq_true rfl) (Nat.le_of_ble_eq_true rfl) ?_
  refine am_go (ct := fun _ => false) am_oX0_has 300 ?_
  conv => whnf
  repeat' first
    | exact trivial
    | assumption
    | refine And.intro trivial ?_
    | refine k1 ?_ ?_ ?_
    | refine k2 ?_
    | refine And.intro (fun h => absurd h (by decide)) (fun _ => ?_)
    | refine And.intro (fun _ => ?_) (fun h => absurd (by decide) h)
    | refine And.intro (fun _ => ?_) (fun _ => ?_)
    | refine And.intro ?_ ?_
    | (refine (?_ : am_wp _ _ _ _ _ _ _ _ _ _ _ _); conv => whnf)
    | (refine (?_ : am_sw _ _ _ _); conv => whnf)
  all_goals (first | assumption | omega | (simp only [am_c, am_up] at *; omega) | (simp [am_c, am_up] at *; omega))
theorem w_tenthsOver_1 {l : Launch} {μ : am_N} {Q : Option am_V → am_N → Prop} (i y s : Int) (hn0 : 0 ≤ μ 1 4) (hn1 : μ 1 4 ≤ 4) (k : ∀ r, Q (some (.inl r)) μ) : am_Does l 10 [.inr (.inr 1), .inl i, .inl y, .inl s] μ Q := by
  refine am_Does_of (Nat.le_of_ble_eq_true rfl) (Nat.le_of_ble_eq_true rfl) (Nat.le_of_ble_eq_true rfl) ?_
  have lp177 : ∀ (y4 t5 f6 k7 : Int), 0 ≤ am_c i → am_c i < 4 → am_AW l 0 (fun _ => 0) 10 Q 177 [some (.inr (.inr 1)), some (.inl i), some (.inl y), some (.inl s), some (.inl y4), some (.inl t5), some (.inl f6), some (.inl k7)] [] μ := by
    intro y4 t5 f6 k7  hv0 hv1
    refine am_go (ct := fun pc => Nat.beq pc 177 || Nat.beq pc 164 || Nat.beq pc 136 || Nat.beq pc 121 || Nat.beq pc 86 || Nat.beq pc 49 || Nat.beq pc 26) am_oX0_tenthsOver 300 ?_
    conv => whnf
    repeat' first
      | exact trivial
      | assumption
      | refine And.intro trivial ?_
      | exact k _
      | refine And.intro (fun h => absurd h (by decide)) (fun _ => ?_)
      | refine And.intro (fun _ => ?_) (fun h => absurd (by decide) h)
      | refine And.intro (fun _ => ?_) (fun _ => ?_)
      | refine And.intro ?_ ?_
      | (refine (?_ : am_wp _ _ _ _ _ _ _ _ _ _ _ _); conv => whnf)
      | (refine (?_ : am_sw _ _ _ _); conv => whnf)
    all_goals (first | assumption | omega | (simp only [am_c, am_up] at *; omega) | (simp [am_c, am_up] at *; omega))
  have lp164 : ∀ (y4 t5 f6 k7 : Int), 0 ≤ am_c i → am_c i < 4 → am_AW l 0 (fun _ => 0) 10 Q 164 [some (.inr (.inr 1)), some (.inl i), some (.inl y), some (.inl s), some (.inl y4), some (.inl t5), some (.inl f6), some (.inl k7)] [] μ := by
    intro y4 t5 f6 k7  hv0 hv1
    refine am_go (ct := fun pc => Nat.beq pc 177 || Nat.beq pc 164 || Nat.beq pc 136 || Nat.beq pc 121 || Nat.beq pc 86 || Nat.beq pc 49 || Nat.beq pc 26) am_oX0_tenthsOver 300 ?_
    conv => whnf
    repeat' first
      | exact trivial
      | assumption
      | refine And.intro trivial ?_
      | exact k _
      | refine lp177 _ _ _ _  ?_ ?_
      | refine And.intro (fun h => absurd h (by decide)) (fun _ => ?_)
      | refine And.intro (fun _ => ?_) (fun h => absurd (by decide) h)
      | refine And.intro (fun _ => ?_) (fun _ => ?_)
      | refine And.intro ?_ ?_
      | (refine (?_ : am_wp _ _ _ _ _ _ _ _ _ _ _ _); conv => whnf)
      | (refine (?_ : am_sw _ _ _ _); conv => whnf)
    all_goals (first | assumption | omega | (simp only [am_c, am_up] at *; omega) | (simp [am_c, am_up] at *; omega))
  have lp136 : ∀ (y4 t5 f6 k7 : Int), 0 ≤ am_c i → am_c i < 4 → am_AW l 0 (fun _ => 0) 10 Q 136 [some (.inr (.inr 1)), some (.inl i), some (.inl y), some (.inl s), some (.inl y4), some (.inl t5), some (.inl f6), some (.inl k7)] [] μ := by
    intro y4 t5 f6 k7  hv0 hv1
    refine am_go (ct := fun pc => Nat.beq pc 177 || Nat.beq pc 164 || Nat.beq pc 136 || Nat.beq pc 121 || Nat.beq pc 86 || Nat.beq pc 49 || Nat.beq pc 26) am_oX0_tenthsOver 300 ?_
    conv => whnf
    repeat' first
      | exact trivial
      | assumption
      | refine And.intro trivial ?_
      | exact k _
      | refine lp164 _ _ _ _  ?_ ?_
      | refine lp177 _ _ _ _  ?_ ?_
      | refine And.intro (fun h => absurd h (by decide)) (fun _ => ?_)
      | refine And.intro (fun _ => ?_) (fun h => absurd (by decide) h)
      | refine And.intro (fun _ => ?_) (fun _ => ?_)
      | refine And.intro ?_ ?_
      | (refine (?_ : am_wp _ _ _ _ _ _ _ _ _ _ _ _); conv => whnf)
      | (refine (?_ : am_sw _ _ _ _); conv => whnf)
    all_goals (first | assumption | omega | (simp only [am_c, am_up] at *; omega) | (simp [am_c, am_up] at *; omega))
  have lp121 : ∀ (y4 t5 f6 k7 : Int), 0 ≤ am_c i → am_c i < 4 → am_AW l 0 (fun _ => 0) 10 Q 121 [some (.inr (.inr 1)), some (.inl i), some (.inl y), some (.inl s), some (.inl y4), some (.inl t5), some (.inl f6), some (.inl k7)] [] μ := by
    intro y4 t5 f6 k7  hv0 hv1
    refine am_go (ct := fun pc => Nat.beq pc 177 || Nat.beq pc 164 || Nat.beq pc 136 || Nat.beq pc 121 || Nat.beq pc 86 || Nat.beq pc 49 || Nat.beq pc 26) am_oX0_tenthsOver 300 ?_
    conv => whnf
    repeat' first
      | exact trivial
      | assumption
      | refine And.intro trivial ?_
      | exact k _
      | refine lp136 _ _ _ _  ?_ ?_
      | refine lp164 _ _ _ _  ?_ ?_
      | refine lp177 _ _ _ _  ?_ ?_
      | refine And.intro (fun h => absurd h (by decide)) (fun _ => ?_)
      | refine And.intro (fun _ => ?_) (fun h => absurd (by decide) h)
      | refine And.intro (fun _ => ?_) (fun _ => ?_)
      | refine And.intro ?_ ?_
      | (refine (?_ : am_wp _ _ _ _ _ _ _ _ _ _ _ _); conv => whnf)
      | (refine (?_ : am_sw _ _ _ _); conv => whnf)
    all_goals (first | assumption | omega | (simp only [am_c, am_up] at *; omega) | (simp [am_c, am_up] at *; omega))
  have lp86 : ∀ (y4 t5 f6 k7 : Int), 0 ≤ am_c i → am_c i < 4 → am_AW l 0 (fun _ => 0) 10 Q 86 [some (.inr (.inr 1)), some (.inl i), some (.inl y), some (.inl s), some (.inl y4), some (.inl t5), some (.inl f6), some (.inl k7)] [] μ := by
    intro y4 t5 f6 k7  hv0 hv1
    refine am_go (ct := fun pc => Nat.beq pc 177 || Nat.beq pc 164 || Nat.beq pc 136 || Nat.beq pc 121 || Nat.beq pc 86 || Nat.beq pc 49 || Nat.beq pc 26) am_oX0_tenthsOver 300 ?_
    conv => whnf
    repeat' first
      | exact trivial
      | assumption
      | refine And.intro trivial ?_
      | exact k _
      | refine lp121 _ _ _ _  ?_ ?_
      | refine lp136 _ _ _ _  ?_ ?_
      | refine lp164 _ _ _ _  ?_ ?_
      | refine lp177 _ _ _ _  ?_ ?_
      | refine And.intro (fun h => absurd h (by decide)) (fun _ => ?_)
      | refine And.intro (fun _ => ?_) (fun h => absurd (by decide) h)
      | refine And.intro (fun _ => ?_) (fun _ => ?_)
      | refine And.intro ?_ ?_
      | (refine (?_ : am_wp _ _ _ _ _ _ _ _ _ _ _ _); conv => whnf)
      | (refine (?_ : am_sw _ _ _ _); conv => whnf)
    all_goals (first | assumption | omega | (simp only [am_c, am_up] at *; omega) | (simp [am_c, am_up] at *; omega))
  have lp49 : ∀ (y4 t5 : Int), 0 ≤ am_c i → am_c i < 4 → am_AW l 0 (fun _ => 0) 10 Q 49 [some (.inr (.inr 1)), some (.inl i), some (.inl y), some (.inl s), some (.inl y4), some (.inl t5), none, none] [] μ := by
    intro y4 t5  hv0 hv1
    refine am_go (ct := fun pc => Nat.beq pc 177 || Nat.beq pc 164 || Nat.beq pc 136 || Nat.beq pc 121 || Nat.beq pc 86 || Nat.beq pc 49 || Nat.beq pc 26) am_oX0_tenthsOver 300 ?_
    conv => whnf
    repeat' first
      | exact trivial
      | assumption
      | refine And.intro trivial ?_
      | exact k _
      | refine lp86 _ _ _ _  ?_ ?_
      | refine lp121 _ _ _ _  ?_ ?_
      | refine lp136 _ _ _ _  ?_ ?_
      | refine lp164 _ _ _ _  ?_ ?_
      | refine lp177 _ _ _ _  ?_ ?_
      | refine And.intro (fun h => absurd h (by decide)) (fun _ => ?_)
      | refine And.intro (fun _ => ?_) (fun h => absurd (by decide) h)
      | refine And.intro (fun _ => ?_) (fun _ => ?_)
      | refine And.intro ?_ ?_
      | (refine (?_ : am_wp _ _ _ _ _ _ _ _ _ _ _ _); conv => whnf)
      | (refine (?_ : am_sw _ _ _ _); conv => whnf)
    all_goals (first | assumption | omega | (simp only [am_c, am_up] at *; omega) | (simp [am_c, am_up] at *; omega))
  have lp26 : ∀ (y4 : Int), 0 ≤ am_c i → am_c i < 4 → am_AW l 0 (fun _ => 0) 10 Q 26 [some (.inr (.inr 1)), some (.inl i), some (.inl y), some (.inl s), some (.inl y4), none, none, none] [] μ := by
    intro y4  hv0 hv1
    refine am_go (ct := fun pc => Nat.beq pc 177 || Nat.beq pc 164 || Nat.beq pc 136 || Nat.beq pc 121 || Nat.beq pc 86 || Nat.beq pc 49 || Nat.beq pc 26) am_oX0_tenthsOver 300 ?_
    conv => whnf
    repeat' first
      | exact trivial
      | assumption
      | refine And.intro trivial ?_
      | exact k _
      | refine lp49 _ _  ?_ ?_
      | refine lp86 _ _ _ _  ?_ ?_
      | refine lp121 _ _ _ _  ?_ ?_
      | refine lp136 _ _ _ _  ?_ ?_
      | refine lp164 _ _ _ _  ?_ ?_
      | refine lp177 _ _ _ _  ?_ ?_
      | refine And.intro (fun h => absurd h (by decide)) (fun _ => ?_)
      | refine And.intro (fun _ => ?_) (fun h => absurd (by decide) h)
      | refine And.intro (fun _ => ?_) (fun _ => ?_)
      | refine And.intro ?_ ?_
      | (refine (?_ : am_wp _ _ _ _ _ _ _ _ _ _ _ _); conv => whnf)
      | (refine (?_ : am_sw _ _ _ _); conv => whnf)
    all_goals (first | assumption | omega | (simp only [am_c, am_up] at *; omega) | (simp [am_c, am_up] at *; omega))
  refine am_go (ct := fun pc => Nat.beq pc 177 || Nat.beq pc 164 || Nat.beq pc 136 || Nat.beq pc 121 || Nat.beq pc 86 || Nat.beq pc 49 || Nat.beq pc 26) am_oX0_tenthsOver 300 ?_
  conv => whnf
  repeat' first
    | exact trivial
    | assumption
    | refine And.intro trivial ?_
    | exact k _
    | refine lp26 _  ?_ ?_
    | refine lp49 _ _  ?_ ?_
    | refine lp86 _ _ _ _  ?_ ?_
    | refine lp121 _ _ _ _  ?_ ?_
    | refine lp136 _ _ _ _  ?_ ?_
    | refine lp164 _ _ _ _  ?_ ?_
    | refine lp177 _ _ _ _  ?_ ?_
    | refine And.intro (fun h => absurd h (by decide)) (fun _ => ?_)
    | refine And.intro (fun _ => ?_) (fun h => absurd (by decide) h)
    | refine And.intro (fun _ => ?_) (fun _ => ?_)
    | refine And.intro ?_ ?_
    | (refine (?_ : am_wp _ _ _ _ _ _ _ _ _ _ _ _); conv => whnf)
    | (refine (?_ : am_sw _ _ _ _); conv => whnf)
  all_goals (first | assumption | omega | (simp only [am_c, am_up] at *; omega) | (simp [am_c, am_up] at *; omega))
theorem w_tenths_1 {l : Launch} {μ : am_N} {Q : Option am_V → am_N → Prop} (i : Int) (hn0 : 0 ≤ μ 1 4) (hn1 : μ 1 4 ≤ 4) (k : ∀ r, Q (some (.inl r)) μ) : am_Does l 8 [.inr (.inr 1), .inl i] μ Q := by
  refine am_Does_of (Nat.le_of_ble_eq_true rfl) (Nat.le_of_ble_eq_true rfl) (Nat.le_of_ble_eq_true rfl) ?_
  refine am_go (ct := fun _ => false) am_oX0_tenths 300 ?_
  conv => whnf
  repeat' first
    | exact trivial
    | assumption
    | refine And.intro trivial ?_
    | exact k _
    | refine w_tenthsOver_1 _ _ _ hn0 hn1 (fun _ => ?_)
    | refine And.intro (fun h => absurd h (by decide)) (fun _ => ?_)
    | refine And.intro (fun _ => ?_) (fun h => absurd (by decide) h)
    | refine And.intro (fun _ => ?_) (fun _ => ?_)
    | refine And.intro ?_ ?_
    | (refine (?_ : am_wp _ _ _ _ _ _ _ _ _ _ _ _); conv => whnf)
    | (refine (?_ : am_sw _ _ _ _); conv => whnf)
  all_goals (first | assumption | omega | (simp only [am_c, am_up] at *; omega) | (simp [am_c, am_up] at *; omega))
theorem w_has_8 {l : Launch} {μ : am_N} {Q : Option am_V → am_N → Prop} (i : Int) (hn0 : 0 ≤ μ 8 4) (hn1 : μ 8 4 ≤ 4) (k1 : 0 ≤ am_c i → am_c i < μ 8 4 → am_c i < 4 → Q (some (.inl 1)) μ) (k2 : (am_c i < 0 ∨ μ 8 4 ≤ am_c i) → Q (some (.inl 0)) μ) : am_Does l 1 [.inr (.inr 8), .inl i] μ Q := by
  refine am_Does_of (Nat.le_of_ble_eq_true rfl) (Nat.le_of_ble_eq_true rfl) (Nat.le_of_ble_eq_true rfl) ?_
  refine am_go (ct := fun _ => false) am_oX0_has 300 ?_
  conv => whnf
  repeat' first
    | exact trivial
    | assumption
    | refine And.intro trivial ?_
    | refine k1 ?_ ?_ ?_
    | refine k2 ?_
    | refine And.intro (fun h => absurd h (by decide)) (fun _ => ?_)
    | refine And.intro (fun _ => ?_) (fun h => absurd (by decide) h)
    | refine And.intro (fun _ => ?_) (fun _ => ?_)
    | refine And.intro ?_ ?_
    | (refine (?_ : am_wp _ _ _ _ _ _ _ _ _ _ _ _); conv => whnf)
    | (refine (?_ : am_sw _ _ _ _); conv => whnf)
  all_goals (first | assumption | omega | (simp only [am_c, am_up] at *; omega) | (simp [am_c, am_up] at *; omega))
theorem w_tenthsOver_8 {l : Launch} {μ : am_N} {Q : Option am_V → am_N → Prop} (i y s : Int) (hn0 : 0 ≤ μ 8 4) (hn1 : μ 8 4 ≤ 4) (k : ∀ r, Q (some (.inl r)) μ) : am_Does l 10 [.inr (.inr 8), .inl i, .inl y, .inl s] μ Q := by
  refine am_Does_of (Nat.le_of_ble_eq_true rfl) (Nat.le_of_ble_eq_true rfl) (Nat.le_of_ble_eq_true rfl) ?_
  have lp177 : ∀ (y4 t5 f6 k7 : Int), 0 ≤ am_c i → am_c i < 4 → am_AW l 0 (fun _ => 0) 10 Q 177 [some (.inr (.inr 8)), some (.inl i), some (.inl y), some (.inl s), some (.inl y4), some (.inl t5), some (.inl f6), some (.inl k7)] [] μ := by
    intro y4 t5 f6 k7  hv0 hv1
    refine am_go (ct := fun pc => Nat.beq pc 177 || Nat.beq pc 164 || Nat.beq pc 136 || Nat.beq pc 121 || Nat.beq pc 86 || Nat.beq pc 49 || Nat.beq pc 26) am_oX0_tenthsOver 300 ?_
    conv => whnf
    repeat' first
      | exact trivial
      | assumption
      | refine And.intro trivial ?_
      | exact k _
      | refine And.intro (fun h => absurd h (by decide)) (fun _ => ?_)
      | refine And.intro (fun _ => ?_) (fun h => absurd (by decide) h)
      | refine And.intro (fun _ => ?_) (fun _ => ?_)
      | refine And.intro ?_ ?_
      | (refine (?_ : am_wp _ _ _ _ _ _ _ _ _ _ _ _); conv => whnf)
      | (refine (?_ : am_sw _ _ _ _); conv => whnf)
    all_goals (first | assumption | omega | (simp only [am_c, am_up] at *; omega) | (simp [am_c, am_up] at *; omega))
  have lp164 : ∀ (y4 t5 f6 k7 : Int), 0 ≤ am_c i → am_c i < 4 → am_AW l 0 (fun _ => 0) 10 Q 164 [some (.inr (.inr 8)), some (.inl i), some (.inl y), some (.inl s), some (.inl y4), some (.inl t5), some (.inl f6), some (.inl k7)] [] μ := by
    intro y4 t5 f6 k7  hv0 hv1
    refine am_go (ct := fun pc => Nat.beq pc 177 || Nat.beq pc 164 || Nat.beq pc 136 || Nat.beq pc 121 || Nat.beq pc 86 || Nat.beq pc 49 || Nat.beq pc 26) am_oX0_tenthsOver 300 ?_
    conv => whnf
    repeat' first
      | exact trivial
      | assumption
      | refine And.intro trivial ?_
      | exact k _
      | refine lp177 _ _ _ _  ?_ ?_
      | refine And.intro (fun h => absurd h (by decide)) (fun _ => ?_)
      | refine And.intro (fun _ => ?_) (fun h => absurd (by decide) h)
      | refine And.intro (fun _ => ?_) (fun _ => ?_)
      | refine And.intro ?_ ?_
      | (refine (?_ : am_wp _ _ _ _ _ _ _ _ _ _ _ _); conv => whnf)
      | (refine (?_ : am_sw _ _ _ _); conv => whnf)
    all_goals (first | assumption | omega | (simp only [am_c, am_up] at *; omega) | (simp [am_c, am_up] at *; omega))
  have lp136 : ∀ (y4 t5 f6 k7 : Int), 0 ≤ am_c i → am_c i < 4 → am_AW l 0 (fun _ => 0) 10 Q 136 [some (.inr (.inr 8)), some (.inl i), some (.inl y), some (.inl s), some (.inl y4), some (.inl t5), some (.inl f6), some (.inl k7)] [] μ := by
    intro y4 t5 f6 k7  hv0 hv1
    refine am_go (ct := fun pc => Nat.beq pc 177 || Nat.beq pc 164 || Nat.beq pc 136 || Nat.beq pc 121 || Nat.beq pc 86 || Nat.beq pc 49 || Nat.beq pc 26) am_oX0_tenthsOver 300 ?_
    conv => whnf
    repeat' first
      | exact trivial
      | assumption
      | refine And.intro trivial ?_
      | exact k _
      | refine lp164 _ _ _ _  ?_ ?_
      | refine lp177 _ _ _ _  ?_ ?_
      | refine And.intro (fun h => absurd h (by decide)) (fun _ => ?_)
      | refine And.intro (fun _ => ?_) (fun h => absurd (by decide) h)
      | refine And.intro (fun _ => ?_) (fun _ => ?_)
      | refine And.intro ?_ ?_
      | (refine (?_ : am_wp _ _ _ _ _ _ _ _ _ _ _ _); conv => whnf)
      | (refine (?_ : am_sw _ _ _ _); conv => whnf)
    all_goals (first | assumption | omega | (simp only [am_c, am_up] at *; omega) | (simp [am_c, am_up] at *; omega))
  have lp121 : ∀ (y4 t5 f6 k7 : Int), 0 ≤ am_c i → am_c i < 4 → am_AW l 0 (fun _ => 0) 10 Q 121 [some (.inr (.inr 8)), some (.inl i), some (.inl y), some (.inl s), some (.inl y4), some (.inl t5), some (.inl f6), some (.inl k7)] [] μ := by
    intro y4 t5 f6 k7  hv0 hv1
    refine am_go (ct := fun pc => Nat.beq pc 177 || Nat.beq pc 164 || Nat.beq pc 136 || Nat.beq pc 121 || Nat.beq pc 86 || Nat.beq pc 49 || Nat.beq pc 26) am_oX0_tenthsOver 300 ?_
    conv => whnf
    repeat' first
      | exact trivial
      | assumption
      | refine And.intro trivial ?_
      | exact k _
      | refine lp136 _ _ _ _  ?_ ?_
      | refine lp164 _ _ _ _  ?_ ?_
      | refine lp177 _ _ _ _  ?_ ?_
      | refine And.intro (fun h => absurd h (by decide)) (fun _ => ?_)
      | refine And.intro (fun _ => ?_) (fun h => absurd (by decide) h)
      | refine And.intro (fun _ => ?_) (fun _ => ?_)
      | refine And.intro ?_ ?_
      | (refine (?_ : am_wp _ _ _ _ _ _ _ _ _ _ _ _); conv => whnf)
      | (refine (?_ : am_sw _ _ _ _); conv => whnf)
    all_goals (first | assumption | omega | (simp only [am_c, am_up] at *; omega) | (simp [am_c, am_up] at *; omega))
  have lp86 : ∀ (y4 t5 f6 k7 : Int), 0 ≤ am_c i → am_c i < 4 → am_AW l 0 (fun _ => 0) 10 Q 86 [some (.inr (.inr 8)), some (.inl i), some (.inl y), some (.inl s), some (.inl y4), some (.inl t5), some (.inl f6), some (.inl k7)] [] μ := by
    intro y4 t5 f6 k7  hv0 hv1
    refine am_go (ct := fun pc => Nat.beq pc 177 || Nat.beq pc 164 || Nat.beq pc 136 || Nat.beq pc 121 || Nat.beq pc 86 || Nat.beq pc 49 || Nat.beq pc 26) am_oX0_tenthsOver 300 ?_
    conv => whnf
    repeat' first
      | exact trivial
      | assumption
      | refine And.intro trivial ?_
      | exact k _
      | refine lp121 _ _ _ _  ?_ ?_
      | refine lp136 _ _ _ _  ?_ ?_
      | refine lp164 _ _ _ _  ?_ ?_
      | refine lp177 _ _ _ _  ?_ ?_
      | refine And.intro (fun h => absurd h (by decide)) (fun _ => ?_)
      | refine And.intro (fun _ => ?_) (fun h => absurd (by decide) h)
      | refine And.intro (fun _ => ?_) (fun _ => ?_)
      | refine And.intro ?_ ?_
      | (refine (?_ : am_wp _ _ _ _ _ _ _ _ _ _ _ _); conv => whnf)
      | (refine (?_ : am_sw _ _ _ _); conv => whnf)
    all_goals (first | assumption | omega | (simp only [am_c, am_up] at *; omega) | (simp [am_c, am_up] at *; omega))
  have lp49 : ∀ (y4 t5 : Int), 0 ≤ am_c i → am_c i < 4 → am_AW l 0 (fun _ => 0) 10 Q 49 [some (.inr (.inr 8)), some (.inl i), some (.inl y), some (.inl s), some (.inl y4), some (.inl t5), none, none] [] μ := by
    intro y4 t5  hv0 hv1
    refine am_go (ct := fun pc => Nat.beq pc 177 || Nat.beq pc 164 || Nat.beq pc 136 || Nat.beq pc 121 || Nat.beq pc 86 || Nat.beq pc 49 || Nat.beq pc 26) am_oX0_tenthsOver 300 ?_
    conv => whnf
    repeat' first
      | exact trivial
      | assumption
      | refine And.intro trivial ?_
      | exact k _
      | refine lp86 _ _ _ _  ?_ ?_
      | refine lp121 _ _ _ _  ?_ ?_
      | refine lp136 _ _ _ _  ?_ ?_
      | refine lp164 _ _ _ _  ?_ ?_
      | refine lp177 _ _ _ _  ?_ ?_
      | refine And.intro (fun h => absurd h (by decide)) (fun _ => ?_)
      | refine And.intro (fun _ => ?_) (fun h => absurd (by decide) h)
      | refine And.intro (fun _ => ?_) (fun _ => ?_)
      | refine And.intro ?_ ?_
      | (refine (?_ : am_wp _ _ _ _ _ _ _ _ _ _ _ _); conv => whnf)
      | (refine (?_ : am_sw _ _ _ _); conv => whnf)
    all_goals (first | assumption | omega | (simp only [am_c, am_up] at *; omega) | (simp [am_c, am_up] at *; omega))
  have lp26 : ∀ (y4 : Int), 0 ≤ am_c i → am_c i < 4 → am_AW l 0 (fun _ => 0) 10 Q 26 [some (.inr (.inr 8)), some (.inl i), some (.inl y), some (.inl s), some (.inl y4), none, none, none] [] μ := by
    intro y4  hv0 hv1
    refine am_go (ct := fun pc => Nat.beq pc 177 || Nat.beq pc 164 || Nat.beq pc 136 || Nat.beq pc 121 || Nat.beq pc 86 || Nat.beq pc 49 || Nat.beq pc 26) am_oX0_tenthsOver 300 ?_
    conv => whnf
    repeat' first
      | exact trivial
      | assumption
      | refine And.intro trivial ?_
      | exact k _
      | refine lp49 _ _  ?_ ?_
      | refine lp86 _ _ _ _  ?_ ?_
      | refine lp121 _ _ _ _  ?_ ?_
      | refine lp136 _ _ _ _  ?_ ?_
      | refine lp164 _ _ _ _  ?_ ?_
      | refine lp177 _ _ _ _  ?_ ?_
      | refine And.intro (fun h => absurd h (by decide)) (fun _ => ?_)
      | refine And.intro (fun _ => ?_) (fun h => absurd (by decide) h)
      | refine And.intro (fun _ => ?_) (fun _ => ?_)
      | refine And.intro ?_ ?_
      | (refine (?_ : am_wp _ _ _ _ _ _ _ _ _ _ _ _); conv => whnf)
      | (refine (?_ : am_sw _ _ _ _); conv => whnf)
    all_goals (first | assumption | omega | (simp only [am_c, am_up] at *; omega) | (simp [am_c, am_up] at *; omega))
  refine am_go (ct := fun pc => Nat.beq pc 177 || Nat.beq pc 164 || Nat.beq pc 136 || Nat.beq pc 121 || Nat.beq pc 86 || Nat.beq pc 49 || Nat.beq pc 26) am_oX0_tenthsOver 300 ?_
  conv => whnf
  repeat' first
    | exact trivial
    | assumption
    | refine And.intro trivial ?_
    | exact k _
    | refine lp26 _  ?_ ?_
    | refine lp49 _ _  ?_ ?_
    | refine lp86 _ _ _ _  ?_ ?_
    | refine lp121 _ _ _ _  ?_ ?_
    | refine lp136 _ _ _ _  ?_ ?_
    | refine lp164 _ _ _ _  ?_ ?_
    | refine lp177 _ _ _ _  ?_ ?_
    | refine And.intro (fun h => absurd h (by decide)) (fun _ => ?_)
    | refine And.intro (fun _ => ?_) (fun h => absurd (by decide) h)
    | refine And.intro (fun _ => ?_) (fun _ => ?_)
    | refine And.intro ?_ ?_
    | (refine (?_ : am_wp _ _ _ _ _ _ _ _ _ _ _ _); conv => whnf)
    | (refine (?_ : am_sw _ _ _ _); conv => whnf)
  all_goals (first | assumption | omega | (simp only [am_c, am_up] at *; omega) | (simp [am_c, am_up] at *; omega))
theorem w_tenths_8 {l : Launch} {μ : am_N} {Q : Option am_V → am_N → Prop} (i : Int) (hn0 : 0 ≤ μ 8 4) (hn1 : μ 8 4 ≤ 4) (k : ∀ r, Q (some (.inl r)) μ) : am_Does l 8 [.inr (.inr 8), .inl i] μ Q := by
  refine am_Does_of (Nat.le_of_ble_eq_true rfl) (Nat.le_of_ble_eq_true rfl) (Nat.le_of_ble_eq_true rfl) ?_
  refine am_go (ct := fun _ => false) am_oX0_tenths 300 ?_
  conv => whnf
  repeat' first
    | exact trivial
    | assumption
    | refine And.intro trivial ?_
    | exact k _
    | refine w_tenthsOver_8 _ _ _ hn0 hn1 (fun _ => ?_)
    | refine And.intro (fun h => absurd h (by decide)) (fun _ => ?_)
    | refine And.intro (fun _ => ?_) (fun h => absurd (by decide) h)
    | refine And.intro (fun _ => ?_) (fun _ => ?_)
    | refine And.intro ?_ ?_
    | (refine (?_ : am_wp _ _ _ _ _ _ _ _ _ _ _ _); conv => whnf)
    | (refine (?_ : am_sw _ _ _ _); conv => whnf)
  all_goals (first | assumption | omega | (simp only [am_c, am_up] at *; omega) | (simp [am_c, am_up] at *; omega))
theorem w_has_15 {l : Launch} {μ : am_N} {Q : Option am_V → am_N → Prop} (i : Int) (hn0 : 0 ≤ μ 15 4) (hn1 : μ 15 4 ≤ 4) (k1 : 0 ≤ am_c i → am_c i < μ 15 4 → am_c i < 4 → Q (some (.inl 1)) μ) (k2 : (am_c i < 0 ∨ μ 15 4 ≤ am_c i) → Q (some (.inl 0)) μ) : am_Does l 1 [.inr (.inr 15), .inl i] μ Q := by
  refine am_Does_of (Nat.le_of_ble_eq_true rfl) (Nat.le_of_ble_eq_true rfl) (Nat.le_of_ble_eq_true rfl) ?_
  refine am_go (ct := fun _ => false) am_oX0_has 300 ?_
  conv => whnf
  repeat' first
    | exact trivial
    | assumption
    | refine And.intro trivial ?_
    | refine k1 ?_ ?_ ?_
    | refine k2 ?_
    | refine And.intro (fun h => absurd h (by decide)) (fun _ => ?_)
    | refine And.intro (fun _ => ?_) (fun h => absurd (by decide) h)
    | refine And.intro (fun _ => ?_) (fun _ => ?_)
    | refine And.intro ?_ ?_
    | (refine (?_ : am_wp _ _ _ _ _ _ _ _ _ _ _ _); conv => whnf)
    | (refine (?_ : am_sw _ _ _ _); conv => whnf)
  all_goals (first | assumption | omega | (simp only [am_c, am_up] at *; omega) | (simp [am_c, am_up] at *; omega))
theorem w_tenthsOver_15 {l : Launch} {μ : am_N} {Q : Option am_V → am_N → Prop} (i y s : Int) (hn0 : 0 ≤ μ 15 4) (hn1 : μ 15 4 ≤ 4) (k : ∀ r, Q (some (.inl r)) μ) : am_Does l 10 [.inr (.inr 15), .inl i, .inl y, .inl s] μ Q := by
  refine am_Does_of (Nat.le_of_ble_eq_true rfl) (Nat.le_of_ble_eq_true rfl) (Nat.le_of_ble_eq_true rfl) ?_
  have lp177 : ∀ (y4 t5 f6 k7 : Int), 0 ≤ am_c i → am_c i < 4 → am_AW l 0 (fun _ => 0) 10 Q 177 [some (.inr (.inr 15)), some (.inl i), some (.inl y), some (.inl s), some (.inl y4), some (.inl t5), some (.inl f6), some (.inl k7)] [] μ := by
    intro y4 t5 f6 k7  hv0 hv1
    refine am_go (ct := fun pc => Nat.beq pc 177 || Nat.beq pc 164 || Nat.beq pc 136 || Nat.beq pc 121 || Nat.beq pc 86 || Nat.beq pc 49 || Nat.beq pc 26) am_oX0_tenthsOver 300 ?_
    conv => whnf
    repeat' first
      | exact trivial
      | assumption
      | refine And.intro trivial ?_
      | exact k _
      | refine And.intro (fun h => absurd h (by decide)) (fun _ => ?_)
      | refine And.intro (fun _ => ?_) (fun h => absurd (by decide) h)
      | refine And.intro (fun _ => ?_) (fun _ => ?_)
      | refine And.intro ?_ ?_
      | (refine (?_ : am_wp _ _ _ _ _ _ _ _ _ _ _ _); conv => whnf)
      | (refine (?_ : am_sw _ _ _ _); conv => whnf)
    all_goals (first | assumption | omega | (simp only [am_c, am_up] at *; omega) | (simp [am_c, am_up] at *; omega))
  have lp164 : ∀ (y4 t5 f6 k7 : Int), 0 ≤ am_c i → am_c i < 4 → am_AW l 0 (fun _ => 0) 10 Q 164 [some (.inr (.inr 15)), some (.inl i), some (.inl y), some (.inl s), some (.inl y4), some (.inl t5), some (.inl f6), some (.inl k7)] [] μ := by
    intro y4 t5 f6 k7  hv0 hv1
    refine am_go (ct := fun pc => Nat.beq pc 177 || Nat.beq pc 164 || Nat.beq pc 136 || Nat.beq pc 121 || Nat.beq pc 86 || Nat.beq pc 49 || Nat.beq pc 26) am_oX0_tenthsOver 300 ?_
    conv => whnf
    repeat' first
      | exact trivial
      | assumption
      | refine And.intro trivial ?_
      | exact k _
      | refine lp177 _ _ _ _  ?_ ?_
      | refine And.intro (fun h => absurd h (by decide)) (fun _ => ?_)
      | refine And.intro (fun _ => ?_) (fun h => absurd (by decide) h)
      | refine And.intro (fun _ => ?_) (fun _ => ?_)
      | refine And.intro ?_ ?_
      | (refine (?_ : am_wp _ _ _ _ _ _ _ _ _ _ _ _); conv => whnf)
      | (refine (?_ : am_sw _ _ _ _); conv => whnf)
    all_goals (first | assumption | omega | (simp only [am_c, am_up] at *; omega) | (simp [am_c, am_up] at *; omega))
  have lp136 : ∀ (y4 t5 f6 k7 : Int), 0 ≤ am_c i → am_c i < 4 → am_AW l 0 (fun _ => 0) 10 Q 136 [some (.inr (.inr 15)), some (.inl i), some (.inl y), some (.inl s), some (.inl y4), some (.inl t5), some (.inl f6), some (.inl k7)] [] μ := by
    intro y4 t5 f6 k7  hv0 hv1
    refine am_go (ct := fun pc => Nat.beq pc 177 || Nat.beq pc 164 || Nat.beq pc 136 || Nat.beq pc 121 || Nat.beq pc 86 || Nat.beq pc 49 || Nat.beq pc 26) am_oX0_tenthsOver 300 ?_
    conv => whnf
    repeat' first
      | exact trivial
      | assumption
      | refine And.intro trivial ?_
      | exact k _
      | refine lp164 _ _ _ _  ?_ ?_
      | refine lp177 _ _ _ _  ?_ ?_
      | refine And.intro (fun h => absurd h (by decide)) (fun _ => ?_)
      | refine And.intro (fun _ => ?_) (fun h => absurd (by decide) h)
      | refine And.intro (fun _ => ?_) (fun _ => ?_)
      | refine And.intro ?_ ?_
      | (refine (?_ : am_wp _ _ _ _ _ _ _ _ _ _ _ _); conv => whnf)
      | (refine (?_ : am_sw _ _ _ _); conv => whnf)
    all_goals (first | assumption | omega | (simp only [am_c, am_up] at *; omega) | (simp [am_c, am_up] at *; omega))
  have lp121 : ∀ (y4 t5 f6 k7 : Int), 0 ≤ am_c i → am_c i < 4 → am_AW l 0 (fun _ => 0) 10 Q 121 [some (.inr (.inr 15)), some (.inl i), some (.inl y), some (.inl s), some (.inl y4), some (.inl t5), some (.inl f6), some (.inl k7)] [] μ := by
    intro y4 t5 f6 k7  hv0 hv1
    refine am_go (ct := fun pc => Nat.beq pc 177 || Nat.beq pc 164 || Nat.beq pc 136 || Nat.beq pc 121 || Nat.beq pc 86 || Nat.beq pc 49 || Nat.beq pc 26) am_oX0_tenthsOver 300 ?_
    conv => whnf
    repeat' first
      | exact trivial
      | assumption
      | refine And.intro trivial ?_
      | exact k _
      | refine lp136 _ _ _ _  ?_ ?_
      | refine lp164 _ _ _ _  ?_ ?_
      | refine lp177 _ _ _ _  ?_ ?_
      | refine And.intro (fun h => absurd h (by decide)) (fun _ => ?_)
      | refine And.intro (fun _ => ?_) (fun h => absurd (by decide) h)
      | refine And.intro (fun _ => ?_) (fun _ => ?_)
      | refine And.intro ?_ ?_
      | (refine (?_ : am_wp _ _ _ _ _ _ _ _ _ _ _ _); conv => whnf)
      | (refine (?_ : am_sw _ _ _ _); conv => whnf)
    all_goals (first | assumption | omega | (simp only [am_c, am_up] at *; omega) | (simp [am_c, am_up] at *; omega))
  have lp86 : ∀ (y4 t5 f6 k7 : Int), 0 ≤ am_c i → am_c i < 4 → am_AW l 0 (fun _ => 0) 10 Q 86 [some (.inr (.inr 15)), some (.inl i), some (.inl y), some (.inl s), some (.inl y4), some (.inl t5), some (.inl f6), some (.inl k7)] [] μ := by
    intro y4 t5 f6 k7  hv0 hv1
    refine am_go (ct := fun pc => Nat.beq pc 177 || Nat.beq pc 164 || Nat.beq pc 136 || Nat.beq pc 121 || Nat.beq pc 86 || Nat.beq pc 49 || Nat.beq pc 26) am_oX0_tenthsOver 300 ?_
    conv => whnf
    repeat' first
      | exact trivial
      | assumption
      | refine And.intro trivial ?_
      | exact k _
      | refine lp121 _ _ _ _  ?_ ?_
      | refine lp136 _ _ _ _  ?_ ?_
      | refine lp164 _ _ _ _  ?_ ?_
      | refine lp177 _ _ _ _  ?_ ?_
      | refine And.intro (fun h => absurd h (by decide)) (fun _ => ?_)
      | refine And.intro (fun _ => ?_) (fun h => absurd (by decide) h)
      | refine And.intro (fun _ => ?_) (fun _ => ?_)
      | refine And.intro ?_ ?_
      | (refine (?_ : am_wp _ _ _ _ _ _ _ _ _ _ _ _); conv => whnf)
      | (refine (?_ : am_sw _ _ _ _); conv => whnf)
    all_goals (first | assumption | omega | (simp only [am_c, am_up] at *; omega) | (simp [am_c, am_up] at *; omega))
  have lp49 : ∀ (y4 t5 : Int), 0 ≤ am_c i → am_c i < 4 → am_AW l 0 (fun _ => 0) 10 Q 49 [some (.inr (.inr 15)), some (.inl i), some (.inl y), some (.inl s), some (.inl y4), some (.inl t5), none, none] [] μ := by
    intro y4 t5  hv0 hv1
    refine am_go (ct := fun pc => Nat.beq pc 177 || Nat.beq pc 164 || Nat.beq pc 136 || Nat.beq pc 121 || Nat.beq pc 86 || Nat.beq pc 49 || Nat.beq pc 26) am_oX0_tenthsOver 300 ?_
    conv => whnf
    repeat' first
      | exact trivial
      | assumption
      | refine And.intro trivial ?_
      | exact k _
      | refine lp86 _ _ _ _  ?_ ?_
      | refine lp121 _ _ _ _  ?_ ?_
      | refine lp136 _ _ _ _  ?_ ?_
      | refine lp164 _ _ _ _  ?_ ?_
      | refine lp177 _ _ _ _  ?_ ?_
      | refine And.intro (fun h => absurd h (by decide)) (fun _ => ?_)
      | refine And.intro (fun _ => ?_) (fun h => absurd (by decide) h)
      | refine And.intro (fun _ => ?_) (fun _ => ?_)
      | refine And.intro ?_ ?_
      | (refine (?_ : am_wp _ _ _ _ _ _ _ _ _ _ _ _); conv => whnf)
      | (refine (?_ : am_sw _ _ _ _); conv => whnf)
    all_goals (first | assumption | omega | (simp only [am_c, am_up] at *; omega) | (simp [am_c, am_up] at *; omega))
  have lp26 : ∀ (y4 : Int), 0 ≤ am_c i → am_c i < 4 → am_AW l 0 (fun _ => 0) 10 Q 26 [some (.inr (.inr 15)), some (.inl i), some (.inl y), some (.inl s), some (.inl y4), none, none, none] [] μ := by
    intro y4  hv0 hv1
    refine am_go (ct := fun pc => Nat.beq pc 177 || Nat.beq pc 164 || Nat.beq pc 136 || Nat.beq pc 121 || Nat.beq pc 86 || Nat.beq pc 49 || Nat.beq pc 26) am_oX0_tenthsOver 300 ?_
    conv => whnf
    repeat' first
      | exact trivial
      | assumption
      | refine And.intro trivial ?_
      | exact k _
      | refine lp49 _ _  ?_ ?_
      | refine lp86 _ _ _ _  ?_ ?_
      | refine lp121 _ _ _ _  ?_ ?_
      | refine lp136 _ _ _ _  ?_ ?_
      | refine lp164 _ _ _ _  ?_ ?_
      | refine lp177 _ _ _ _  ?_ ?_
      | refine And.intro (fun h => absurd h (by decide)) (fun _ => ?_)
      | refine And.intro (fun _ => ?_) (fun h => absurd (by decide) h)
      | refine And.intro (fun _ => ?_) (fun _ => ?_)
      | refine And.intro ?_ ?_
      | (refine (?_ : am_wp _ _ _ _ _ _ _ _ _ _ _ _); conv => whnf)
      | (refine (?_ : am_sw _ _ _ _); conv => whnf)
    all_goals (first | assumption | omega | (simp only [am_c, am_up] at *; omega) | (simp [am_c, am_up] at *; omega))
  refine am_go (ct := fun pc => Nat.beq pc 177 || Nat.beq pc 164 || Nat.beq pc 136 || Nat.beq pc 121 || Nat.beq pc 86 || Nat.beq pc 49 || Nat.beq pc 26) am_oX0_tenthsOver 300 ?_
  conv => whnf
  repeat' first
    | exact trivial
    | assumption
    | refine And.intro trivial ?_
    | exact k _
    | refine lp26 _  ?_ ?_
    | refine lp49 _ _  ?_ ?_
    | refine lp86 _ _ _ _  ?_ ?_
    | refine lp121 _ _ _ _  ?_ ?_
    | refine lp136 _ _ _ _  ?_ ?_
    | refine lp164 _ _ _ _  ?_ ?_
    | refine lp177 _ _ _ _  ?_ ?_
    | refine And.intro (fun h => absurd h (by decide)) (fun _ => ?_)
    | refine And.intro (fun _ => ?_) (fun h => absurd (by decide) h)
    | refine And.intro (fun _ => ?_) (fun _ => ?_)
    | refine And.intro ?_ ?_
    | (refine (?_ : am_wp _ _ _ _ _ _ _ _ _ _ _ _); conv => whnf)
    | (refine (?_ : am_sw _ _ _ _); conv => whnf)
  all_goals (first | assumption | omega | (simp only [am_c, am_up] at *; omega) | (simp [am_c, am_up] at *; omega))
theorem w_tenths_15 {l : Launch} {μ : am_N} {Q : Option am_V → am_N → Prop} (i : Int) (hn0 : 0 ≤ μ 15 4) (hn1 : μ 15 4 ≤ 4) (k : ∀ r, Q (some (.inl r)) μ) : am_Does l 8 [.inr (.inr 15), .inl i] μ Q := by
  refine am_Does_of (Nat.le_of_ble_eq_true rfl) (Nat.le_of_ble_eq_true rfl) (Nat.le_of_ble_eq_true rfl) ?_
  refine am_go (ct := fun _ => false) am_oX0_tenths 300 ?_
  conv => whnf
  repeat' first
    | exact trivial
    | assumption
    | refine And.intro trivial ?_
    | exact k _
    | refine w_tenthsOver_15 _ _ _ hn0 hn1 (fun _ => ?_)
    | refine And.intro (fun h => absurd h (by decide)) (fun _ => ?_)
    | refine And.intro (fun _ => ?_) (fun h => absurd (by decide) h)
    | refine And.intro (fun _ => ?_) (fun _ => ?_)
    | refine And.intro ?_ ?_
    | (refine (?_ : am_wp _ _ _ _ _ _ _ _ _ _ _ _); conv => whnf)
    | (refine (?_ : am_sw _ _ _ _); conv => whnf)
  all_goals (first | assumption | omega | (simp only [am_c, am_up] at *; omega) | (simp [am_c, am_up] at *; omega))
theorem w_tenthsFrom_1 {l : Launch} {μ : am_N} {Q : Option am_V → am_N → Prop} (i s : Int) (hn0 : 0 ≤ μ 1 4) (hn1 : μ 1 4 ≤ 4) (k : ∀ r, Q (some (.inl r)) μ) : am_Does l 9 [.inr (.inr 1), .inl i, .inl s] μ Q := by
  refine am_Does_of (Nat.le_of_ble_eq_true rfl) (Nat.le_of_ble_eq_true rfl) (Nat.le_of_ble_eq_true rfl) ?_
  refine am_go (ct := fun _ => false) am_oX0_tenthsFrom 300 ?_
  conv => whnf
  repeat' first
    | exact trivial
    | assumption
    | refine And.intro trivial ?_
    | exact k _
    | refine w_tenthsOver_1 _ _ _ hn0 hn1 (fun _ => ?_)
    | refine And.intro (fun h => absurd h (by decide)) (fun _ => ?_)
    | refine And.intro (fun _ => ?_) (fun h => absurd (by decide) h)
    | refine And.intro (fun _ => ?_) (fun _ => ?_)
    | refine And.intro ?_ ?_
    | (refine (?_ : am_wp _ _ _ _ _ _ _ _ _ _ _ _); conv => whnf)
    | (refine (?_ : am_sw _ _ _ _); conv => whnf)
  all_goals (first | assumption | omega | (simp only [am_c, am_up] at *; omega) | (simp [am_c, am_up] at *; omega))
theorem w_more_8 {l : Launch} {μ : am_N} {Q : Option am_V → am_N → Prop} {ν : am_N} (i v : Int) (hS : sx ν μ) (hn0 : 0 ≤ μ 8 4) (hn1 : μ 8 4 ≤ 4) (k : ∀ μ', sx ν μ' → μ' 8 4 = μ 8 4 → (∀ a b, a ≠ 13 → μ' a b = μ a b) → Q none μ') : am_Does l 11 [.inr (.inr 8), .inl i, .inl v] μ Q := by
  refine am_Does_of (Nat.le_of_ble_eq_true rfl) (Nat.le_of_ble_eq_true rfl) (Nat.le_of_ble_eq_true rfl) ?_
  refine am_go (ct := fun _ => false) am_oX0_more 300 ?_
  conv => whnf
  repeat' first
    | exact trivial
    | assumption
    | refine And.intro trivial ?_
    | refine k _ ?_ ?_ ?_
    | refine sx_up ?_ rfl
    | exact fun a b hab => am_upN hab
    | exact fun a b hab => rfl
    | refine And.intro (fun h => absurd h (by decide)) (fun _ => ?_)
    | refine And.intro (fun _ => ?_) (fun h => absurd (by decide) h)
    | refine And.intro (fun _ => ?_) (fun _ => ?_)
    | refine And.intro ?_ ?_
    | (refine (?_ : am_wp _ _ _ _ _ _ _ _ _ _ _ _); conv => whnf)
    | (refine (?_ : am_sw _ _ _ _); conv => whnf)
  all_goals (first | assumption | omega | (simp only [am_c, am_up] at *; omega) | (simp [am_c, am_up] at *; omega))
theorem w_more_15 {l : Launch} {μ : am_N} {Q : Option am_V → am_N → Prop} {ν : am_N} (i v : Int) (hS : sx ν μ) (hn0 : 0 ≤ μ 15 4) (hn1 : μ 15 4 ≤ 4) (k : ∀ μ', sx ν μ' → μ' 15 4 = μ 15 4 → (∀ a b, a ≠ 20 → μ' a b = μ a b) → Q none μ') : am_Does l 11 [.inr (.inr 15), .inl i, .inl v] μ Q := by
  refine am_Does_of (Nat.le_of_ble_eq_true rfl) (Nat.le_of_ble_eq_true rfl) (Nat.le_of_ble_eq_true rfl) ?_
  refine am_go (ct := fun _ => false) am_oX0_more 300 ?_
  conv => whnf
  repeat' first
    | exact trivial
    | assumption
    | refine And.intro trivial ?_
    | refine k _ ?_ ?_ ?_
    | refine sx_up ?_ rfl
    | exact fun a b hab => am_upN hab
    | exact fun a b hab => rfl
    | refine And.intro (fun h => absurd h (by decide)) (fun _ => ?_)
    | refine And.intro (fun _ => ?_) (fun h => absurd (by decide) h)
    | refine And.intro (fun _ => ?_) (fun _ => ?_)
    | refine And.intro ?_ ?_
    | (refine (?_ : am_wp _ _ _ _ _ _ _ _ _ _ _ _); conv => whnf)
    | (refine (?_ : am_sw _ _ _ _); conv => whnf)
  all_goals (first | assumption | omega | (simp only [am_c, am_up] at *; omega) | (simp [am_c, am_up] at *; omega))
