/-! contracts: the model reads its script (weak) -/
theorem m_readsNumber {l : Launch} {μ : am_N} {Q : Option am_V → am_N → Prop} {ν : am_N} (d a b : Int) (hS : gm ms ν μ) (hd0 : 0 ≤ d) (hd1 : d ≤ 239) (ha0 : 0 ≤ ν 83 22) (ha1 : ν 83 22 ≤ ν 83 21) (e0 : μ 83 22 = ν 83 22) (e3 : μ 83 23 = ν 83 23) (hb0 : 0 ≤ b) (hb1 : b ≤ 3) (k : ∀ (r : Int) (μ' : am_N), gm ms ν μ' → ν 83 22 ≤ μ' 83 22 → μ' 83 22 ≤ μ' 83 21 → μ' 83 21 = ν 83 21 → μ' 83 23 = ν 83 23 → (r = 0 ∨ r = 1) → Q (some (.inl r)) μ') : am_Does l 150 [.inr (.inr 83), .inl d, .inl a, .inl b] μ Q := by
  refine am_Does_of (Nat.le_of_ble_eq_true rfl) (Nat.le_of_ble_eq_true rfl) (Nat.le_of_ble_eq_true rfl) ?_
  have hb := mi_all hS.1
  have e21 : μ 83 21 = ν 83 21 := hS.2 83 21 rfl
  have lp6 : ∀ (m : Nat) (n i : Int) (μ : am_N) , gm ms ν μ → 0 ≤ i → i ≤ b → ν 83 22 ≤ μ 83 22 → μ 83 22 ≤ ν 83 21 → μ 83 23 = ν 83 23 → b - i < (m : Int) → am_AW l 0 (fun _ => 0) 150 Q 6 [some (.inr (.inr 83)), some (.inl d), some (.inl a), some (.inl b), some (.inl n), some (.inl i)] [] μ := by
    intro m
    induction m with
    | zero =>
      intro n i μ hv0 hv1 hv2 hv3 hv4 hv5 hm
      have hb := mi_all hv0.1
      exfalso
      omega
    | succ m ih =>
      intro n i μ hv0 hv1 hv2 hv3 hv4 hv5 hm
      have hb := mi_all hv0.1
      have e21 : μ 83 21 = ν 83 21 := hv0.2 83 21 rfl
      refine am_go (ct := fun pc => Nat.beq pc 6) am_oX7_readsNumber 300 ?_
      conv => whnf
      repeat' first
        | (refine (?_ : am_wp _ _ _ _ _ _ _ _ _ _ _ _); conv => whnf)
        | (refine (?_ : am_sw _ _ _ _); conv => whnf)
        | refine And.intro trivial ?_
        | exact trivial
        | assumption
        | refine k _ _ ?_ ?_ ?_ ?_ ?_ ?_
        | refine m_next  ?_ ?_ ?_ (fun _ _ => ?_)
        | refine m_isIn _ _ _ (fun _ _ => ?_) (fun _ => ?_)
        | refine gm_up ?_ rfl rfl
        | refine gm_100 ?_ rfl ?_ ?_
        | refine gm_tr ?_ (by assumption) ?_
        | exact gm_i (by assumption)
        | refine mi_up ?_ rfl
        | exact fun _ _ h => h
        | exact fun _ _ h => (Bool.or_eq_false_iff.mp h).1
        | refine ih _ _ _ ?_ ?_ ?_ ?_ ?_ ?_ ?_
        | refine And.intro (fun h => absurd h (by decide)) (fun _ => ?_)
        | refine And.intro (fun _ => ?_) (fun h => absurd (by decide) h)
        | refine And.intro (fun _ => ?_) (fun _ => ?_)
        | refine And.intro ?_ ?_
      all_goals (first | assumption | decide | omega | (intros; omega) | (intros; simp only [am_c] at * <;> omega) | (simp only [am_c, am_up] at * <;> omega) | (simp [am_c, am_up] at * <;> omega))
  have lp6' : ∀ (n i : Int) (μ : am_N) , gm ms ν μ → 0 ≤ i → i ≤ b → ν 83 22 ≤ μ 83 22 → μ 83 22 ≤ ν 83 21 → μ 83 23 = ν 83 23 → am_AW l 0 (fun _ => 0) 150 Q 6 [some (.inr (.inr 83)), some (.inl d), some (.inl a), some (.inl b), some (.inl n), some (.inl i)] [] μ := fun n i μ hv0 hv1 hv2 hv3 hv4 hv5 => lp6 ((b - i) + 1).toNat n i μ hv0 hv1 hv2 hv3 hv4 hv5 (by omega)
  refine am_go (ct := fun pc => Nat.beq pc 6) am_oX7_readsNumber 300 ?_
  conv => whnf
  repeat' first
    | (refine (?_ : am_wp _ _ _ _ _ _ _ _ _ _ _ _); conv => whnf)
    | (refine (?_ : am_sw _ _ _ _); conv => whnf)
    | refine And.intro trivial ?_
    | exact trivial
    | assumption
    | refine k _ _ ?_ ?_ ?_ ?_ ?_ ?_
    | refine m_next  ?_ ?_ ?_ (fun _ _ => ?_)
    | refine m_isIn _ _ _ (fun _ _ => ?_) (fun _ => ?_)
    | refine gm_up ?_ rfl rfl
    | refine gm_100 ?_ rfl ?_ ?_
    | refine gm_tr ?_ (by assumption) ?_
    | exact gm_i (by assumption)
    | refine mi_up ?_ rfl
    | exact fun _ _ h => h
    | exact fun _ _ h => (Bool.or_eq_false_iff.mp h).1
    | refine lp6' _ _ _ ?_ ?_ ?_ ?_ ?_ ?_
    | refine And.intro (fun h => absurd h (by decide)) (fun _ => ?_)
    | refine And.intro (fun _ => ?_) (fun h => absurd (by decide) h)
    | refine And.intro (fun _ => ?_) (fun _ => ?_)
    | refine And.intro ?_ ?_
  all_goals (first | assumption | decide | omega | (intros; omega) | (intros; simp only [am_c] at * <;> omega) | (simp only [am_c, am_up] at * <;> omega) | (simp [am_c, am_up] at * <;> omega))
theorem m_readsRunner {l : Launch} {μ : am_N} {Q : Option am_V → am_N → Prop} {ν : am_N} (d : Int) (hS : gm ms ν μ) (hd0 : 0 ≤ d) (hd1 : d ≤ 235) (ha0 : 0 ≤ ν 83 22) (ha1 : ν 83 22 ≤ ν 83 21) (e0 : μ 83 22 = ν 83 22) (e3 : μ 83 23 = ν 83 23) (k : ∀ (r : Int) (μ' : am_N), gm ms ν μ' → ν 83 22 ≤ μ' 83 22 → μ' 83 22 ≤ μ' 83 21 → μ' 83 21 = ν 83 21 → μ' 83 23 = ν 83 23 → (r = 0 ∨ r = 1) → Q (some (.inl r)) μ') : am_Does l 151 [.inr (.inr 83), .inl d] μ Q := by
  refine am_Does_of (Nat.le_of_ble_eq_true rfl) (Nat.le_of_ble_eq_true rfl) (Nat.le_of_ble_eq_true rfl) ?_
  have hb := mi_all hS.1
  have e21 : μ 83 21 = ν 83 21 := hS.2 83 21 rfl
  refine am_go (ct := fun _ => false) am_oX7_readsRunner 300 ?_
  conv => whnf
  repeat' first
    | (refine (?_ : am_wp _ _ _ _ _ _ _ _ _ _ _ _); conv => whnf)
    | (refine (?_ : am_sw _ _ _ _); conv => whnf)
    | refine And.intro trivial ?_
    | exact trivial
    | assumption
    | refine k _ _ ?_ ?_ ?_ ?_ ?_ ?_
    | refine m_readsNumber _ _ _ (gm_rf (by repeat' first | assumption | exact gm_i (by assumption) | refine mi_up ?_ rfl | refine mi_100 ?_ ?_ ?_ | (simp only [am_c] at * <;> omega))) ?_ ?_ ?_ ?_ ?_ ?_ ?_ ?_ (fun _ _ _ _ _ _ _ _ => ?_)
    | refine gm_up ?_ rfl rfl
    | refine gm_100 ?_ rfl ?_ ?_
    | refine gm_tr ?_ (by assumption) ?_
    | exact gm_i (by assumption)
    | refine mi_up ?_ rfl
    | exact fun _ _ h => h
    | exact fun _ _ h => (Bool.or_eq_false_iff.mp h).1
    | refine And.intro (fun h => absurd h (by decide)) (fun _ => ?_)
    | refine And.intro (fun _ => ?_) (fun h => absurd (by decide) h)
    | refine And.intro (fun _ => ?_) (fun _ => ?_)
    | refine And.intro ?_ ?_
  all_goals (first | assumption | decide | omega | (intros; omega) | (intros; simp only [am_c] at * <;> omega) | (simp only [am_c, am_up] at * <;> omega) | (simp [am_c, am_up] at * <;> omega))
theorem m_readsAll {l : Launch} {μ : am_N} {Q : Option am_V → am_N → Prop} {ν : am_N} (c d : Int) (hS : gm ms ν μ) (hd0 : 0 ≤ d) (hd1 : d ≤ 235) (ha0 : 0 ≤ ν 83 22) (ha1 : ν 83 22 ≤ ν 83 21) (e0 : μ 83 22 = ν 83 22) (e3 : μ 83 23 = ν 83 23) (k : ∀ (r : Int) (μ' : am_N), gm ms ν μ' → ν 83 22 ≤ μ' 83 22 → μ' 83 22 ≤ μ' 83 21 → μ' 83 21 = ν 83 21 → μ' 83 23 = ν 83 23 → (r = 0 ∨ r = 1) → Q (some (.inl r)) μ') : am_Does l 152 [.inr (.inr 83), .inl c, .inl d] μ Q := by
  refine am_Does_of (Nat.le_of_ble_eq_true rfl) (Nat.le_of_ble_eq_true rfl) (Nat.le_of_ble_eq_true rfl) ?_
  have hb := mi_all hS.1
  have e21 : μ 83 21 = ν 83 21 := hS.2 83 21 rfl
  refine am_go (ct := fun _ => false) am_oX7_readsAll 300 ?_
  conv => whnf
  repeat' first
    | (refine (?_ : am_wp _ _ _ _ _ _ _ _ _ _ _ _); conv => whnf)
    | (refine (?_ : am_sw _ _ _ _); conv => whnf)
    | refine And.intro trivial ?_
    | exact trivial
    | assumption
    | refine k _ _ ?_ ?_ ?_ ?_ ?_ ?_
    | refine m_readsNumber _ _ _ (gm_rf (by repeat' first | assumption | exact gm_i (by assumption) | refine mi_up ?_ rfl | refine mi_100 ?_ ?_ ?_ | (simp only [am_c] at * <;> omega))) ?_ ?_ ?_ ?_ ?_ ?_ ?_ ?_ (fun _ _ _ _ _ _ _ _ => ?_)
    | refine m_readsRunner _ (gm_rf (by repeat' first | assumption | exact gm_i (by assumption) | refine mi_up ?_ rfl | refine mi_100 ?_ ?_ ?_ | (simp only [am_c] at * <;> omega))) ?_ ?_ ?_ ?_ ?_ ?_ (fun _ _ _ _ _ _ _ _ => ?_)
    | refine gm_up ?_ rfl rfl
    | refine gm_100 ?_ rfl ?_ ?_
    | refine gm_tr ?_ (by assumption) ?_
    | exact gm_i (by assumption)
    | refine mi_up ?_ rfl
    | exact fun _ _ h => h
    | exact fun _ _ h => (Bool.or_eq_false_iff.mp h).1
    | refine And.intro (fun h => absurd h (by decide)) (fun _ => ?_)
    | refine And.intro (fun _ => ?_) (fun h => absurd (by decide) h)
    | refine And.intro (fun _ => ?_) (fun _ => ?_)
    | refine And.intro ?_ ?_
  all_goals (first | assumption | decide | omega | (intros; omega) | (intros; simp only [am_c] at * <;> omega) | (simp only [am_c, am_up] at * <;> omega) | (simp [am_c, am_up] at * <;> omega))
