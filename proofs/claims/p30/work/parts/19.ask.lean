/-! contracts: the system's public questions (weak) -/
theorem am_t99n : ∀ n : Nat, n < 51 → 5 ≤ n → 1 ≤ (99 : Int).tdiv (n : Int) ∧ (99 : Int).tdiv (n : Int) ≤ 19 := by decide +kernel
theorem am_t99 (x : Int) : 5 ≤ x → x ≤ 50 → (1 ≤ (am_c 99).tdiv x ∧ (am_c 99).tdiv x ≤ 19) := fun h1 h2 => by
  obtain ⟨n, rfl⟩ := Int.eq_ofNat_of_zero_le (show 0 ≤ x by omega)
  rw [show am_c 99 = 99 by decide]
  exact am_t99n n (by omega) (by omega)
theorem w_runner_X6 {l : Launch} {μ : am_N} {Q : Option am_V → am_N → Prop} {ν : am_N} (a b : Int) (hS : sx ν μ) (ha0 : -2147483648 ≤ a) (ha1 : a ≤ 2147483647) (hb0 : -2147483648 ≤ b) (hb1 : b ≤ 2147483647) (k : ∀ r μ', sx ν μ' → Q (some (.inl r)) μ') : am_Does l 63 [.inr (.inr 0), .inl a, .inl b] μ Q := by
  refine am_Does_of (Nat.le_of_ble_eq_true rfl) (Nat.le_of_ble_eq_true rfl) (Nat.le_of_ble_eq_true rfl) ?_
  have hb := sx_all hS
  refine am_go (ct := fun _ => false) am_oX6_runner 300 ?_
  conv => whnf
  repeat' first
    | (refine (?_ : am_wp _ _ _ _ _ _ _ _ _ _ _ _); conv => whnf)
    | (refine (?_ : am_sw _ _ _ _); conv => whnf)
    | refine And.intro trivial ?_
    | exact trivial
    | assumption
    | refine k _ _ ?_
    | refine sx_up ?_ rfl
    | refine w_has_X0_1 (ν := ν) _ ?_ (fun _ _ _ => ?_) (fun _ => ?_)
    | refine w_has_X0_8 (ν := ν) _ ?_ (fun _ _ _ => ?_) (fun _ => ?_)
    | refine w_has_X0_15 (ν := ν) _ ?_ (fun _ _ _ => ?_) (fun _ => ?_)
    | refine w_refuse_X6 (ν := ν) _ ?_ ?_ ?_ (fun _ _ _ => ?_)
    | refine w_tenths_X0_1 (ν := ν) _ ?_  (fun _ => ?_)
    | refine w_tenths_X0_8 (ν := ν) _ ?_  (fun _ => ?_)
    | refine w_tenths_X0_15 (ν := ν) _ ?_  (fun _ => ?_)
    | refine And.intro (fun h => absurd h (by decide)) (fun _ => ?_)
    | refine And.intro (fun _ => ?_) (fun h => absurd (by decide) h)
    | refine And.intro (fun _ => ?_) (fun _ => ?_)
    | refine And.intro ?_ ?_
  all_goals (first | assumption | decide | omega | (intros; omega) | (intros; simp only [am_c] at * <;> omega) | (simp only [am_c, am_up] at * <;> omega) | (simp [am_c, am_up] at * <;> omega))
theorem w_order_X6 {l : Launch} {μ : am_N} {Q : Option am_V → am_N → Prop} {ν : am_N}  (hS : sx ν μ)  (k : ∀ r μ', sx ν μ' → Q (some (.inl r)) μ') : am_Does l 68 [.inr (.inr 0)] μ Q := by
  refine am_Does_of (Nat.le_of_ble_eq_true rfl) (Nat.le_of_ble_eq_true rfl) (Nat.le_of_ble_eq_true rfl) ?_
  have hb := sx_all hS
  refine am_go (ct := fun _ => false) am_oX6_order 300 ?_
  conv => whnf
  repeat' first
    | (refine (?_ : am_wp _ _ _ _ _ _ _ _ _ _ _ _); conv => whnf)
    | (refine (?_ : am_sw _ _ _ _); conv => whnf)
    | refine And.intro trivial ?_
    | exact trivial
    | assumption
    | refine k _ _ ?_
    | refine sx_up ?_ rfl
    | refine w_asRule_X2_29_1 (ν := ν)  ?_  (fun _ _ => ?_)
    | refine w_asRule_X2_29_8 (ν := ν)  ?_  (fun _ _ => ?_)
    | refine w_asRule_X2_29_15 (ν := ν)  ?_  (fun _ _ => ?_)
    | refine w_asRule_X2_38_8 (ν := ν)  ?_  (fun _ _ => ?_)
    | refine w_digits_X2_29 (ν := ν)  ?_  (fun _ => ?_)
    | refine And.intro (fun h => absurd h (by decide)) (fun _ => ?_)
    | refine And.intro (fun _ => ?_) (fun h => absurd (by decide) h)
    | refine And.intro (fun _ => ?_) (fun _ => ?_)
    | refine And.intro ?_ ?_
  all_goals (first | assumption | decide | omega | (intros; omega) | (intros; simp only [am_c] at * <;> omega) | (simp only [am_c, am_up] at * <;> omega) | (simp [am_c, am_up] at * <;> omega))
theorem w_likely_X6 {l : Launch} {μ : am_N} {Q : Option am_V → am_N → Prop} {ν : am_N} (a b : Int) (hS : sx ν μ) (ha0 : -2147483648 ≤ a) (ha1 : a ≤ 2147483647) (hb0 : -2147483648 ≤ b) (hb1 : b ≤ 2147483647) (k : ∀ r μ', sx ν μ' → Q (some (.inr (.inl r))) μ') : am_Does l 69 [.inr (.inr 0), .inl a, .inl b] μ Q := by
  refine am_Does_of (Nat.le_of_ble_eq_true rfl) (Nat.le_of_ble_eq_true rfl) (Nat.le_of_ble_eq_true rfl) ?_
  have hb := sx_all hS
  refine am_go (ct := fun _ => false) am_oX6_likely 300 ?_
  conv => whnf
  repeat' first
    | (refine (?_ : am_wp _ _ _ _ _ _ _ _ _ _ _ _); conv => whnf)
    | (refine (?_ : am_sw _ _ _ _); conv => whnf)
    | refine And.intro trivial ?_
    | exact trivial
    | assumption
    | refine k _ _ ?_
    | refine sx_up ?_ rfl
    | refine w_has_X0_1 (ν := ν) _ ?_ (fun _ _ _ => ?_) (fun _ => ?_)
    | refine w_has_X0_8 (ν := ν) _ ?_ (fun _ _ _ => ?_) (fun _ => ?_)
    | refine w_has_X0_15 (ν := ν) _ ?_ (fun _ _ _ => ?_) (fun _ => ?_)
    | refine w_refuseLong_X6 (ν := ν) _ ?_ ?_ ?_ (fun _ _ _ => ?_)
    | refine w_noPart_X6 _ ?_ (fun _ => ?_)
    | refine w_draw_X2_29_1 (ν := ν)  ?_  (fun _ _ => ?_)
    | refine w_draw_X2_29_8 (ν := ν)  ?_  (fun _ _ => ?_)
    | refine w_draw_X2_29_15 (ν := ν)  ?_  (fun _ _ => ?_)
    | refine w_ways_X2_29 (ν := ν) _ ?_  (fun _ => ?_)
    | refine w_allWays_X2_29 (ν := ν)  ?_  (fun _ => ?_)
    | refine w_fraction_X6 (ν := ν) _ _ _ ?_  (fun _ => ?_)
    | refine And.intro (fun h => absurd h (by decide)) (fun _ => ?_)
    | refine And.intro (fun _ => ?_) (fun h => absurd (by decide) h)
    | refine And.intro (fun _ => ?_) (fun _ => ?_)
    | refine And.intro ?_ ?_
  all_goals (first | assumption | decide | omega | (intros; omega) | (intros; simp only [am_c] at * <;> omega) | (simp only [am_c, am_up] at * <;> omega) | (simp [am_c, am_up] at * <;> omega))
theorem w_ordered_X6 {l : Launch} {μ : am_N} {Q : Option am_V → am_N → Prop} {ν : am_N} (a b : Int) (hS : sx ν μ) (ha0 : -2147483648 ≤ a) (ha1 : a ≤ 2147483647) (hb0 : -2147483648 ≤ b) (hb1 : b ≤ 2147483647) (k : ∀ r μ', sx ν μ' → Q (some (.inr (.inl r))) μ') : am_Does l 70 [.inr (.inr 0), .inl a, .inl b] μ Q := by
  refine am_Does_of (Nat.le_of_ble_eq_true rfl) (Nat.le_of_ble_eq_true rfl) (Nat.le_of_ble_eq_true rfl) ?_
  have hb := sx_all hS
  refine am_go (ct := fun _ => false) am_oX6_ordered 300 ?_
  conv => whnf
  repeat' first
    | (refine (?_ : am_wp _ _ _ _ _ _ _ _ _ _ _ _); conv => whnf)
    | (refine (?_ : am_sw _ _ _ _); conv => whnf)
    | refine And.intro trivial ?_
    | exact trivial
    | assumption
    | refine k _ _ ?_
    | refine sx_up ?_ rfl
    | refine w_eachOnce_X0_1 (ν := ν) _ ?_  (fun _ => ?_)
    | refine w_refuseLong_X6 (ν := ν) _ ?_ ?_ ?_ (fun _ _ _ => ?_)
    | refine w_noPart_X6 _ ?_ (fun _ => ?_)
    | refine w_draw_X2_29_1 (ν := ν)  ?_  (fun _ _ => ?_)
    | refine w_draw_X2_29_8 (ν := ν)  ?_  (fun _ _ => ?_)
    | refine w_draw_X2_29_15 (ν := ν)  ?_  (fun _ _ => ?_)
    | refine w_waysOf_X2_29 (ν := ν) _ ?_  (fun _ _ _ => ?_)
    | refine w_allWays_X2_29 (ν := ν)  ?_  (fun _ => ?_)
    | refine w_fraction_X6 (ν := ν) _ _ _ ?_  (fun _ => ?_)
    | refine And.intro (fun h => absurd h (by decide)) (fun _ => ?_)
    | refine And.intro (fun _ => ?_) (fun h => absurd (by decide) h)
    | refine And.intro (fun _ => ?_) (fun _ => ?_)
    | refine And.intro ?_ ?_
  all_goals (first | assumption | decide | omega | (intros; omega) | (intros; simp only [am_c] at * <;> omega) | (simp only [am_c, am_up] at * <;> omega) | (simp [am_c, am_up] at * <;> omega))
theorem w_close_X6 {l : Launch} {μ : am_N} {Q : Option am_V → am_N → Prop} {ν : am_N} (a b : Int) (hS : sx ν μ) (ha0 : -2147483648 ≤ a) (ha1 : a ≤ 2147483647) (hb0 : -2147483648 ≤ b) (hb1 : b ≤ 2147483647) (k : ∀ r μ', sx ν μ' → Q (some (.inr (.inl r))) μ') : am_Does l 71 [.inr (.inr 0), .inl a, .inl b] μ Q := by
  refine am_Does_of (Nat.le_of_ble_eq_true rfl) (Nat.le_of_ble_eq_true rfl) (Nat.le_of_ble_eq_true rfl) ?_
  have hb := sx_all hS
  refine am_go (ct := fun _ => false) am_oX6_close 300 ?_
  conv => whnf
  repeat' first
    | (refine (?_ : am_wp _ _ _ _ _ _ _ _ _ _ _ _); conv => whnf)
    | (refine (?_ : am_sw _ _ _ _); conv => whnf)
    | refine And.intro trivial ?_
    | exact trivial
    | assumption
    | refine k _ _ ?_
    | refine sx_up ?_ rfl
    | refine w_noPart_X6 _ ?_ (fun _ => ?_)
    | refine w_refuseLong_X6 (ν := ν) _ ?_ ?_ ?_ (fun _ _ _ => ?_)
    | refine w_draw_X2_29_1 (ν := ν)  ?_  (fun _ _ => ?_)
    | refine w_draw_X2_29_8 (ν := ν)  ?_  (fun _ _ => ?_)
    | refine w_draw_X2_29_15 (ν := ν)  ?_  (fun _ _ => ?_)
    | refine w_gapInAllWays_X2_29 (ν := ν)  ?_  (fun _ _ _ => ?_)
    | refine w_uneven_X2_29 (ν := ν)  ?_  (fun _ => ?_)
    | refine w_allWays_X2_29 (ν := ν)  ?_  (fun _ => ?_)
    | refine w_fraction_X6 (ν := ν) _ _ _ ?_  (fun _ => ?_)
    | refine And.intro (fun h => absurd h (by decide)) (fun _ => ?_)
    | refine And.intro (fun _ => ?_) (fun h => absurd (by decide) h)
    | refine And.intro (fun _ => ?_) (fun _ => ?_)
    | refine And.intro ?_ ?_
  all_goals (first | assumption | decide | omega | (intros; omega) | (intros; simp only [am_c] at * <;> omega) | (simp only [am_c, am_up] at * <;> omega) | (simp [am_c, am_up] at * <;> omega))
theorem w_sure_X6 {l : Launch} {μ : am_N} {Q : Option am_V → am_N → Prop} {ν : am_N} (a : Int) (hS : sx ν μ) (ha0 : -2147483648 ≤ a) (ha1 : a ≤ 2147483647) (k : ∀ r μ', sx ν μ' → Q (some (.inl r)) μ') : am_Does l 72 [.inr (.inr 0), .inl a] μ Q := by
  refine am_Does_of (Nat.le_of_ble_eq_true rfl) (Nat.le_of_ble_eq_true rfl) (Nat.le_of_ble_eq_true rfl) ?_
  have hb := sx_all hS
  have lp46 : ∀ (m : Nat) (w s i : Int) (μ : am_N) , sx ν μ → 0 ≤ i → i ≤ 4 → 4 - i < (m : Int) → am_AW l 0 (fun _ => 0) 72 Q 46 [some (.inr (.inr 0)), some (.inl a), some (.inl w), some (.inl s), some (.inl i)] [] μ := by
    intro m
    induction m with
    | zero =>
      intro w s i μ hv0 hv1 hv2 hm
      have hb := sx_all hv0
      exfalso
      omega
    | succ m ih =>
      intro w s i μ hv0 hv1 hv2 hm
      have hb := sx_all hv0
      refine am_go (ct := fun pc => Nat.beq pc 46) am_oX6_sure 300 ?_
      conv => whnf
      repeat' first
        | (refine (?_ : am_wp _ _ _ _ _ _ _ _ _ _ _ _); conv => whnf)
        | (refine (?_ : am_sw _ _ _ _); conv => whnf)
        | refine And.intro trivial ?_
        | exact trivial
        | assumption
        | refine k _ _ ?_
        | refine sx_up ?_ rfl
        | refine w_noPart_X6 _ ?_ (fun _ => ?_)
        | refine w_refuse_X6 (ν := ν) _ ?_ ?_ ?_ (fun _ _ _ => ?_)
        | refine w_draw_X2_29_1 (ν := ν)  ?_  (fun _ _ => ?_)
        | refine w_draw_X2_29_8 (ν := ν)  ?_  (fun _ _ => ?_)
        | refine w_draw_X2_29_15 (ν := ν)  ?_  (fun _ _ => ?_)
        | refine w_allWays_X2_29 (ν := ν)  ?_  (fun _ => ?_)
        | refine w_ways_X2_29 (ν := ν) _ ?_  (fun _ => ?_)
        | refine ih _ _ _ _ ?_ ?_ ?_ ?_
        | refine And.intro (fun h => absurd h (by decide)) (fun _ => ?_)
        | refine And.intro (fun _ => ?_) (fun h => absurd (by decide) h)
        | refine And.intro (fun _ => ?_) (fun _ => ?_)
        | refine And.intro ?_ ?_
      all_goals (first | assumption | decide | omega | (intros; omega) | (intros; simp only [am_c] at * <;> omega) | (simp only [am_c, am_up] at * <;> omega) | (simp [am_c, am_up] at * <;> omega))
  have lp46' : ∀ (w s i : Int) (μ : am_N) , sx ν μ → 0 ≤ i → i ≤ 4 → am_AW l 0 (fun _ => 0) 72 Q 46 [some (.inr (.inr 0)), some (.inl a), some (.inl w), some (.inl s), some (.inl i)] [] μ := fun w s i μ hv0 hv1 hv2 => lp46 ((4 - i) + 1).toNat w s i μ hv0 hv1 hv2 (by omega)
  refine am_go (ct := fun pc => Nat.beq pc 46) am_oX6_sure 300 ?_
  conv => whnf
  repeat' first
    | (refine (?_ : am_wp _ _ _ _ _ _ _ _ _ _ _ _); conv => whnf)
    | (refine (?_ : am_sw _ _ _ _); conv => whnf)
    | refine And.intro trivial ?_
    | exact trivial
    | assumption
    | refine k _ _ ?_
    | refine sx_up ?_ rfl
    | refine w_noPart_X6 _ ?_ (fun _ => ?_)
    | refine w_refuse_X6 (ν := ν) _ ?_ ?_ ?_ (fun _ _ _ => ?_)
    | refine w_draw_X2_29_1 (ν := ν)  ?_  (fun _ _ => ?_)
    | refine w_draw_X2_29_8 (ν := ν)  ?_  (fun _ _ => ?_)
    | refine w_draw_X2_29_15 (ν := ν)  ?_  (fun _ _ => ?_)
    | refine w_allWays_X2_29 (ν := ν)  ?_  (fun _ => ?_)
    | refine w_ways_X2_29 (ν := ν) _ ?_  (fun _ => ?_)
    | refine lp46' _ _ _ _ ?_ ?_ ?_
    | refine And.intro (fun h => absurd h (by decide)) (fun _ => ?_)
    | refine And.intro (fun _ => ?_) (fun h => absurd (by decide) h)
    | refine And.intro (fun _ => ?_) (fun _ => ?_)
    | refine And.intro ?_ ?_
  all_goals (first | assumption | decide | omega | (intros; omega) | (intros; simp only [am_c] at * <;> omega) | (simp only [am_c, am_up] at * <;> omega) | (simp [am_c, am_up] at * <;> omega))
theorem w_even_X6 {l : Launch} {μ : am_N} {Q : Option am_V → am_N → Prop} {ν : am_N} (a b : Int) (hS : sx ν μ) (ha0 : -2147483648 ≤ a) (ha1 : a ≤ 2147483647) (hb0 : -2147483648 ≤ b) (hb1 : b ≤ 2147483647) (k : ∀ r μ', sx ν μ' → Q (some (.inl r)) μ') : am_Does l 73 [.inr (.inr 0), .inl a, .inl b] μ Q := by
  refine am_Does_of (Nat.le_of_ble_eq_true rfl) (Nat.le_of_ble_eq_true rfl) (Nat.le_of_ble_eq_true rfl) ?_
  have hb := sx_all hS
  have lp32 : ∀ (m : Nat) (p u v i : Int) (o7 : Option am_V) (μ : am_N) , sx ν μ → (p = 0 ∨ p = 1) → 0 ≤ i → i ≤ 100 → 100 - i < (m : Int) → am_AW l 0 (fun _ => 0) 73 Q 32 [some (.inr (.inr 0)), some (.inl a), some (.inl b), some (.inl p), some (.inl u), some (.inl v), some (.inl i), o7] [] μ := by
    intro m
    induction m with
    | zero =>
      intro p u v i o7 μ hv0 hv1 hv2 hv3 hm
      have hb := sx_all hv0
      exfalso
      omega
    | succ m ih =>
      intro p u v i o7 μ hv0 hv1 hv2 hv3 hm
      have hb := sx_all hv0
      refine am_go (ct := fun pc => Nat.beq pc 32) am_oX6_even 300 ?_
      conv => whnf
      repeat' first
        | (refine (?_ : am_wp _ _ _ _ _ _ _ _ _ _ _ _); conv => whnf)
        | (refine (?_ : am_sw _ _ _ _); conv => whnf)
        | refine And.intro trivial ?_
        | exact trivial
        | assumption
        | refine k _ _ ?_
        | refine sx_up ?_ rfl
        | refine w_notTwo_X6 (ν := ν) _ _ ?_ ?_ (fun _ _ _ _ => ?_)
        | refine w_refuse_X6 (ν := ν) _ ?_ ?_ ?_ (fun _ _ _ => ?_)
        | refine w_alone_X6 (ν := ν) _ _ ?_  (fun _ _ _ _ => ?_)
        | refine w_draw_X2_29_1 (ν := ν)  ?_  (fun _ _ => ?_)
        | refine w_draw_X2_29_8 (ν := ν)  ?_  (fun _ _ => ?_)
        | refine w_draw_X2_29_15 (ν := ν)  ?_  (fun _ _ => ?_)
        | refine w_ways_X2_29 (ν := ν) _ ?_  (fun _ => ?_)
        | refine ih _ _ _ _ _ _ ?_ ?_ ?_ ?_ ?_
        | refine And.intro (fun h => absurd h (by decide)) (fun _ => ?_)
        | refine And.intro (fun _ => ?_) (fun h => absurd (by decide) h)
        | refine And.intro (fun _ => ?_) (fun _ => ?_)
        | refine And.intro ?_ ?_
      all_goals (first | assumption | decide | omega | (intros; omega) | (intros; simp only [am_c] at * <;> omega) | (simp only [am_c, am_up] at * <;> omega) | (simp [am_c, am_up] at * <;> omega))
  have lp32' : ∀ (p u v i : Int) (o7 : Option am_V) (μ : am_N) , sx ν μ → (p = 0 ∨ p = 1) → 0 ≤ i → i ≤ 100 → am_AW l 0 (fun _ => 0) 73 Q 32 [some (.inr (.inr 0)), some (.inl a), some (.inl b), some (.inl p), some (.inl u), some (.inl v), some (.inl i), o7] [] μ := fun p u v i o7 μ hv0 hv1 hv2 hv3 => lp32 ((100 - i) + 1).toNat p u v i o7 μ hv0 hv1 hv2 hv3 (by omega)
  refine am_go (ct := fun pc => Nat.beq pc 32) am_oX6_even 300 ?_
  conv => whnf
  repeat' first
    | (refine (?_ : am_wp _ _ _ _ _ _ _ _ _ _ _ _); conv => whnf)
    | (refine (?_ : am_sw _ _ _ _); conv => whnf)
    | refine And.intro trivial ?_
    | exact trivial
    | assumption
    | refine k _ _ ?_
    | refine sx_up ?_ rfl
    | refine w_notTwo_X6 (ν := ν) _ _ ?_ ?_ (fun _ _ _ _ => ?_)
    | refine w_refuse_X6 (ν := ν) _ ?_ ?_ ?_ (fun _ _ _ => ?_)
    | refine w_alone_X6 (ν := ν) _ _ ?_  (fun _ _ _ _ => ?_)
    | refine w_draw_X2_29_1 (ν := ν)  ?_  (fun _ _ => ?_)
    | refine w_draw_X2_29_8 (ν := ν)  ?_  (fun _ _ => ?_)
    | refine w_draw_X2_29_15 (ν := ν)  ?_  (fun _ _ => ?_)
    | refine w_ways_X2_29 (ν := ν) _ ?_  (fun _ => ?_)
    | refine lp32' _ _ _ _ _ _ ?_ ?_ ?_ ?_
    | refine And.intro (fun h => absurd h (by decide)) (fun _ => ?_)
    | refine And.intro (fun _ => ?_) (fun h => absurd (by decide) h)
    | refine And.intro (fun _ => ?_) (fun _ => ?_)
    | refine And.intro ?_ ?_
  all_goals (first | assumption | decide | omega | (intros; omega) | (intros; simp only [am_c] at * <;> omega) | (simp only [am_c, am_up] at * <;> omega) | (simp [am_c, am_up] at * <;> omega))
theorem w_starts_X6 {l : Launch} {μ : am_N} {Q : Option am_V → am_N → Prop} {ν : am_N} (a b : Int) (hS : sx ν μ) (ha0 : -2147483648 ≤ a) (ha1 : a ≤ 2147483647) (hb0 : -2147483648 ≤ b) (hb1 : b ≤ 2147483647) (k : ∀ r μ', sx ν μ' → Q (some (.inl r)) μ') : am_Does l 74 [.inr (.inr 0), .inl a, .inl b] μ Q := by
  refine am_Does_of (Nat.le_of_ble_eq_true rfl) (Nat.le_of_ble_eq_true rfl) (Nat.le_of_ble_eq_true rfl) ?_
  have hb := sx_all hS
  have t1 := am_t99 (am_c a)
  have lp97 : ∀ (m : Nat) (u v r : Int) (μ : am_N) , sx ν μ → 1 ≤ u → u ≤ 20 → -1 ≤ r → r ≤ 3 → 0 ≤ b → b ≤ 4 → r + 1 < (m : Int) → am_AW l 0 (fun _ => 0) 74 Q 97 [some (.inr (.inr 0)), some (.inl a), some (.inl b), some (.inl u), some (.inl v), some (.inl r)] [] μ := by
    intro m
    induction m with
    | zero =>
      intro u v r μ hv0 hv1 hv2 hv3 hv4 hv5 hv6 hm
      have hb := sx_all hv0
      exfalso
      omega
    | succ m ih =>
      intro u v r μ hv0 hv1 hv2 hv3 hv4 hv5 hv6 hm
      have hb := sx_all hv0
      refine am_go (ct := fun pc => Nat.beq pc 97 || Nat.beq pc 86) am_oX6_starts 300 ?_
      conv => whnf
      repeat' first
        | (refine (?_ : am_wp _ _ _ _ _ _ _ _ _ _ _ _); conv => whnf)
        | (refine (?_ : am_sw _ _ _ _); conv => whnf)
        | refine And.intro trivial ?_
        | exact trivial
        | assumption
        | refine k _ _ ?_
        | refine sx_up ?_ rfl
        | refine w_refuse_X6 (ν := ν) _ ?_ ?_ ?_ (fun _ _ _ => ?_)
        | refine w_evenest_X6 (ν := ν) _ _ ?_ ?_ ?_ (fun _ _ _ => ?_)
        | refine ih _ _ _ _ ?_ ?_ ?_ ?_ ?_ ?_ ?_ ?_
        | refine And.intro (fun h => absurd h (by decide)) (fun _ => ?_)
        | refine And.intro (fun _ => ?_) (fun h => absurd (by decide) h)
        | refine And.intro (fun _ => ?_) (fun _ => ?_)
        | refine And.intro ?_ ?_
      all_goals (first | assumption | decide | omega | (intros; omega) | (intros; simp only [am_c] at * <;> omega) | (simp only [am_c, am_up] at * <;> omega) | (simp [am_c, am_up] at * <;> omega))
  have lp97' : ∀ (u v r : Int) (μ : am_N) , sx ν μ → 1 ≤ u → u ≤ 20 → -1 ≤ r → r ≤ 3 → 0 ≤ b → b ≤ 4 → am_AW l 0 (fun _ => 0) 74 Q 97 [some (.inr (.inr 0)), some (.inl a), some (.inl b), some (.inl u), some (.inl v), some (.inl r)] [] μ := fun u v r μ hv0 hv1 hv2 hv3 hv4 hv5 hv6 => lp97 ((r + 1) + 1).toNat u v r μ hv0 hv1 hv2 hv3 hv4 hv5 hv6 (by omega)
  have lp86 : ∀ (u v : Int) (μ : am_N), sx ν μ → 1 ≤ u → u ≤ 20 → 0 ≤ b → b ≤ 4 → am_AW l 0 (fun _ => 0) 74 Q 86 [some (.inr (.inr 0)), some (.inl a), some (.inl b), some (.inl u), some (.inl v), none] [] μ := by
    intro u v μ hv0 hv1 hv2 hv3 hv4
    have hb := sx_all hv0
    refine am_go (ct := fun pc => Nat.beq pc 97 || Nat.beq pc 86) am_oX6_starts 300 ?_
    conv => whnf
    repeat' first
      | (refine (?_ : am_wp _ _ _ _ _ _ _ _ _ _ _ _); conv => whnf)
      | (refine (?_ : am_sw _ _ _ _); conv => whnf)
      | refine And.intro trivial ?_
      | exact trivial
      | assumption
      | refine k _ _ ?_
      | refine sx_up ?_ rfl
      | refine w_refuse_X6 (ν := ν) _ ?_ ?_ ?_ (fun _ _ _ => ?_)
      | refine w_evenest_X6 (ν := ν) _ _ ?_ ?_ ?_ (fun _ _ _ => ?_)
      | refine lp97' _ _ _ _ ?_ ?_ ?_ ?_ ?_ ?_ ?_
      | refine And.intro (fun h => absurd h (by decide)) (fun _ => ?_)
      | refine And.intro (fun _ => ?_) (fun h => absurd (by decide) h)
      | refine And.intro (fun _ => ?_) (fun _ => ?_)
      | refine And.intro ?_ ?_
    all_goals (first | assumption | decide | omega | (intros; omega) | (intros; simp only [am_c] at * <;> omega) | (simp only [am_c, am_up] at * <;> omega) | (simp [am_c, am_up] at * <;> omega))
  refine am_go (ct := fun pc => Nat.beq pc 97 || Nat.beq pc 86) am_oX6_starts 300 ?_
  conv => whnf
  repeat' first
    | (refine (?_ : am_wp _ _ _ _ _ _ _ _ _ _ _ _); conv => whnf)
    | (refine (?_ : am_sw _ _ _ _); conv => whnf)
    | refine And.intro trivial ?_
    | exact trivial
    | assumption
    | refine k _ _ ?_
    | refine sx_up ?_ rfl
    | refine w_refuse_X6 (ν := ν) _ ?_ ?_ ?_ (fun _ _ _ => ?_)
    | refine w_evenest_X6 (ν := ν) _ _ ?_ ?_ ?_ (fun _ _ _ => ?_)
    | refine lp86 _ _ _ ?_ ?_ ?_ ?_ ?_
    | refine lp97' _ _ _ _ ?_ ?_ ?_ ?_ ?_ ?_ ?_
    | refine And.intro (fun h => absurd h (by decide)) (fun _ => ?_)
    | refine And.intro (fun _ => ?_) (fun h => absurd (by decide) h)
    | refine And.intro (fun _ => ?_) (fun _ => ?_)
    | refine And.intro ?_ ?_
  all_goals (first | assumption | decide | omega | (intros; omega) | (intros; simp only [am_c] at * <;> omega) | (simp only [am_c, am_up] at * <;> omega) | (simp [am_c, am_up] at * <;> omega))
theorem w_load_X6 {l : Launch} {μ : am_N} {Q : Option am_V → am_N → Prop} {ν : am_N} (a : Int) (hS : sx ν μ) (ha0 : -2147483648 ≤ a) (ha1 : a ≤ 2147483647) (k : ∀ r μ', sx ν μ' → Q (some (.inl r)) μ') : am_Does l 75 [.inr (.inr 0), .inl a] μ Q := by
  refine am_Does_of (Nat.le_of_ble_eq_true rfl) (Nat.le_of_ble_eq_true rfl) (Nat.le_of_ble_eq_true rfl) ?_
  have hb := sx_all hS
  have lp45 : ∀ (m : Nat) (u v i : Int) (o5 : Option am_V) (μ : am_N) , sx ν μ → 0 ≤ am_c a → am_c a < 4 → 0 ≤ i → i ≤ 10 → 10 - i < (m : Int) → am_AW l 0 (fun _ => 0) 75 Q 45 [some (.inr (.inr 0)), some (.inl a), some (.inl u), some (.inl v), some (.inl i), o5] [] μ := by
    intro m
    induction m with
    | zero =>
      intro u v i o5 μ hv0 hv1 hv2 hv3 hv4 hm
      have hb := sx_all hv0
      exfalso
      omega
    | succ m ih =>
      intro u v i o5 μ hv0 hv1 hv2 hv3 hv4 hm
      have hb := sx_all hv0
      refine am_go (ct := fun pc => Nat.beq pc 45) am_oX6_load 300 ?_
      conv => whnf
      repeat' first
        | (refine (?_ : am_wp _ _ _ _ _ _ _ _ _ _ _ _); conv => whnf)
        | (refine (?_ : am_sw _ _ _ _); conv => whnf)
        | refine And.intro trivial ?_
        | exact trivial
        | assumption
        | refine k _ _ ?_
        | refine sx_up ?_ rfl
        | refine w_has_X0_1 (ν := ν) _ ?_ (fun _ _ _ => ?_) (fun _ => ?_)
        | refine w_has_X0_8 (ν := ν) _ ?_ (fun _ _ _ => ?_) (fun _ => ?_)
        | refine w_has_X0_15 (ν := ν) _ ?_ (fun _ _ _ => ?_) (fun _ => ?_)
        | refine w_refuse_X6 (ν := ν) _ ?_ ?_ ?_ (fun _ _ _ => ?_)
        | refine w_take_X0_8_1 (ν := ν)  ?_  (fun _ _ => ?_)
        | refine w_take_X0_15_8 (ν := ν)  ?_  (fun _ _ => ?_)
        | refine w_draw_X2_29_1 (ν := ν)  ?_  (fun _ _ => ?_)
        | refine w_draw_X2_29_8 (ν := ν)  ?_  (fun _ _ => ?_)
        | refine w_draw_X2_29_15 (ν := ν)  ?_  (fun _ _ => ?_)
        | refine w_uneven_X2_29 (ν := ν)  ?_  (fun _ => ?_)
        | refine ih _ _ _ _ _ ?_ ?_ ?_ ?_ ?_ ?_
        | refine And.intro (fun h => absurd h (by decide)) (fun _ => ?_)
        | refine And.intro (fun _ => ?_) (fun h => absurd (by decide) h)
        | refine And.intro (fun _ => ?_) (fun _ => ?_)
        | refine And.intro ?_ ?_
      all_goals (first | assumption | decide | omega | (intros; omega) | (intros; simp only [am_c] at * <;> omega) | (simp only [am_c, am_up] at * <;> omega) | (simp [am_c, am_up] at * <;> omega))
  have lp45' : ∀ (u v i : Int) (o5 : Option am_V) (μ : am_N) , sx ν μ → 0 ≤ am_c a → am_c a < 4 → 0 ≤ i → i ≤ 10 → am_AW l 0 (fun _ => 0) 75 Q 45 [some (.inr (.inr 0)), some (.inl a), some (.inl u), some (.inl v), some (.inl i), o5] [] μ := fun u v i o5 μ hv0 hv1 hv2 hv3 hv4 => lp45 ((10 - i) + 1).toNat u v i o5 μ hv0 hv1 hv2 hv3 hv4 (by omega)
  refine am_go (ct := fun pc => Nat.beq pc 45) am_oX6_load 300 ?_
  conv => whnf
  repeat' first
    | (refine (?_ : am_wp _ _ _ _ _ _ _ _ _ _ _ _); conv => whnf)
    | (refine (?_ : am_sw _ _ _ _); conv => whnf)
    | refine And.intro trivial ?_
    | exact trivial
    | assumption
    | refine k _ _ ?_
    | refine sx_up ?_ rfl
    | refine w_has_X0_1 (ν := ν) _ ?_ (fun _ _ _ => ?_) (fun _ => ?_)
    | refine w_has_X0_8 (ν := ν) _ ?_ (fun _ _ _ => ?_) (fun _ => ?_)
    | refine w_has_X0_15 (ν := ν) _ ?_ (fun _ _ _ => ?_) (fun _ => ?_)
    | refine w_refuse_X6 (ν := ν) _ ?_ ?_ ?_ (fun _ _ _ => ?_)
    | refine w_take_X0_8_1 (ν := ν)  ?_  (fun _ _ => ?_)
    | refine w_take_X0_15_8 (ν := ν)  ?_  (fun _ _ => ?_)
    | refine w_draw_X2_29_1 (ν := ν)  ?_  (fun _ _ => ?_)
    | refine w_draw_X2_29_8 (ν := ν)  ?_  (fun _ _ => ?_)
    | refine w_draw_X2_29_15 (ν := ν)  ?_  (fun _ _ => ?_)
    | refine w_uneven_X2_29 (ν := ν)  ?_  (fun _ => ?_)
    | refine lp45' _ _ _ _ _ ?_ ?_ ?_ ?_ ?_
    | refine And.intro (fun h => absurd h (by decide)) (fun _ => ?_)
    | refine And.intro (fun _ => ?_) (fun h => absurd (by decide) h)
    | refine And.intro (fun _ => ?_) (fun _ => ?_)
    | refine And.intro ?_ ?_
  all_goals (first | assumption | decide | omega | (intros; omega) | (intros; simp only [am_c] at * <;> omega) | (simp only [am_c, am_up] at * <;> omega) | (simp [am_c, am_up] at * <;> omega))
theorem w_on_X6 {l : Launch} {μ : am_N} {Q : Option am_V → am_N → Prop} {ν : am_N} (a b c : Int) (hS : sx ν μ) (ha0 : -2147483648 ≤ a) (ha1 : a ≤ 2147483647) (hb0 : -2147483648 ≤ b) (hb1 : b ≤ 2147483647) (hc0 : -2147483648 ≤ c) (hc1 : c ≤ 2147483647) (k : ∀ r μ', sx ν μ' → Q (some (.inl r)) μ') : am_Does l 76 [.inr (.inr 0), .inl a, .inl b, .inl c] μ Q := by
  refine am_Does_of (Nat.le_of_ble_eq_true rfl) (Nat.le_of_ble_eq_true rfl) (Nat.le_of_ble_eq_true rfl) ?_
  have hb := sx_all hS
  refine am_go (ct := fun _ => false) am_oX6_on 300 ?_
  conv => whnf
  repeat' first
    | (refine (?_ : am_wp _ _ _ _ _ _ _ _ _ _ _ _); conv => whnf)
    | (refine (?_ : am_sw _ _ _ _); conv => whnf)
    | refine And.intro trivial ?_
    | exact trivial
    | assumption
    | refine k _ _ ?_
    | refine sx_up ?_ rfl
    | refine w_has_X0_1 (ν := ν) _ ?_ (fun _ _ _ => ?_) (fun _ => ?_)
    | refine w_has_X0_8 (ν := ν) _ ?_ (fun _ _ _ => ?_) (fun _ => ?_)
    | refine w_has_X0_15 (ν := ν) _ ?_ (fun _ _ _ => ?_) (fun _ => ?_)
    | refine w_refuse_X6 (ν := ν) _ ?_ ?_ ?_ (fun _ _ _ => ?_)
    | refine w_noPart_X6 _ ?_ (fun _ => ?_)
    | refine w_take_X0_8_1 (ν := ν)  ?_  (fun _ _ => ?_)
    | refine w_take_X0_15_8 (ν := ν)  ?_  (fun _ _ => ?_)
    | refine w_winsIn_X6 (ν := ν) _ _ ?_ ?_ ?_ (fun _ _ _ => ?_)
    | refine And.intro (fun h => absurd h (by decide)) (fun _ => ?_)
    | refine And.intro (fun _ => ?_) (fun h => absurd (by decide) h)
    | refine And.intro (fun _ => ?_) (fun _ => ?_)
    | refine And.intro ?_ ?_
  all_goals (first | assumption | decide | omega | (intros; omega) | (intros; simp only [am_c] at * <;> omega) | (simp only [am_c, am_up] at * <;> omega) | (simp [am_c, am_up] at * <;> omega))
theorem w_settles_X6 {l : Launch} {μ : am_N} {Q : Option am_V → am_N → Prop} {ν : am_N}  (hS : sx ν μ)  (k : ∀ r μ', sx ν μ' → Q (some (.inl r)) μ') : am_Does l 77 [.inr (.inr 0)] μ Q := by
  refine am_Does_of (Nat.le_of_ble_eq_true rfl) (Nat.le_of_ble_eq_true rfl) (Nat.le_of_ble_eq_true rfl) ?_
  have hb := sx_all hS
  have lp32 : ∀ (m : Nat) (u i : Int) (μ : am_N) , sx ν μ → 0 ≤ i → i ≤ 60 → 60 - i < (m : Int) → am_AW l 0 (fun _ => 0) 77 Q 32 [some (.inr (.inr 0)), some (.inl u), some (.inl i)] [] μ := by
    intro m
    induction m with
    | zero =>
      intro u i μ hv0 hv1 hv2 hm
      have hb := sx_all hv0
      exfalso
      omega
    | succ m ih =>
      intro u i μ hv0 hv1 hv2 hm
      have hb := sx_all hv0
      refine am_go (ct := fun pc => Nat.beq pc 32) am_oX6_settles 300 ?_
      conv => whnf
      repeat' first
        | (refine (?_ : am_wp _ _ _ _ _ _ _ _ _ _ _ _); conv => whnf)
        | (refine (?_ : am_sw _ _ _ _); conv => whnf)
        | refine And.intro trivial ?_
        | exact trivial
        | assumption
        | refine k _ _ ?_
        | refine sx_up ?_ rfl
        | refine w_refuse_X6 (ν := ν) _ ?_ ?_ ?_ (fun _ _ _ => ?_)
        | refine w_take_X0_8_1 (ν := ν)  ?_  (fun _ _ => ?_)
        | refine w_take_X0_15_8 (ν := ν)  ?_  (fun _ _ => ?_)
        | refine w_goOn_X2_38_8 (ν := ν)  ?_  (fun _ _ _ => ?_)
        | refine w_goOn_X2_29_8 (ν := ν)  ?_  (fun _ _ _ => ?_)
        | refine w_startsAs_X0_8_15 (ν := ν)  ?_  (fun _ => ?_)
        | refine ih _ _ _ ?_ ?_ ?_ ?_
        | refine And.intro (fun h => absurd h (by decide)) (fun _ => ?_)
        | refine And.intro (fun _ => ?_) (fun h => absurd (by decide) h)
        | refine And.intro (fun _ => ?_) (fun _ => ?_)
        | refine And.intro ?_ ?_
      all_goals (first | assumption | decide | omega | (intros; omega) | (intros; simp only [am_c] at * <;> omega) | (simp only [am_c, am_up] at * <;> omega) | (simp [am_c, am_up] at * <;> omega))
  have lp32' : ∀ (u i : Int) (μ : am_N) , sx ν μ → 0 ≤ i → i ≤ 60 → am_AW l 0 (fun _ => 0) 77 Q 32 [some (.inr (.inr 0)), some (.inl u), some (.inl i)] [] μ := fun u i μ hv0 hv1 hv2 => lp32 ((60 - i) + 1).toNat u i μ hv0 hv1 hv2 (by omega)
  refine am_go (ct := fun pc => Nat.beq pc 32) am_oX6_settles 300 ?_
  conv => whnf
  repeat' first
    | (refine (?_ : am_wp _ _ _ _ _ _ _ _ _ _ _ _); conv => whnf)
    | (refine (?_ : am_sw _ _ _ _); conv => whnf)
    | refine And.intro trivial ?_
    | exact trivial
    | assumption
    | refine k _ _ ?_
    | refine sx_up ?_ rfl
    | refine w_refuse_X6 (ν := ν) _ ?_ ?_ ?_ (fun _ _ _ => ?_)
    | refine w_take_X0_8_1 (ν := ν)  ?_  (fun _ _ => ?_)
    | refine w_take_X0_15_8 (ν := ν)  ?_  (fun _ _ => ?_)
    | refine w_goOn_X2_38_8 (ν := ν)  ?_  (fun _ _ _ => ?_)
    | refine w_goOn_X2_29_8 (ν := ν)  ?_  (fun _ _ _ => ?_)
    | refine w_startsAs_X0_8_15 (ν := ν)  ?_  (fun _ => ?_)
    | refine lp32' _ _ _ ?_ ?_ ?_
    | refine And.intro (fun h => absurd h (by decide)) (fun _ => ?_)
    | refine And.intro (fun _ => ?_) (fun h => absurd (by decide) h)
    | refine And.intro (fun _ => ?_) (fun _ => ?_)
    | refine And.intro ?_ ?_
  all_goals (first | assumption | decide | omega | (intros; omega) | (intros; simp only [am_c] at * <;> omega) | (simp only [am_c, am_up] at * <;> omega) | (simp [am_c, am_up] at * <;> omega))
theorem w_best_X6 {l : Launch} {μ : am_N} {Q : Option am_V → am_N → Prop} {ν : am_N} (a : Int) (hS : sx ν μ) (ha0 : -2147483648 ≤ a) (ha1 : a ≤ 2147483647) (k : ∀ r μ', sx ν μ' → Q (some (.inl r)) μ') : am_Does l 78 [.inr (.inr 0), .inl a] μ Q := by
  refine am_Does_of (Nat.le_of_ble_eq_true rfl) (Nat.le_of_ble_eq_true rfl) (Nat.le_of_ble_eq_true rfl) ?_
  have hb := sx_all hS
  have lp50 : ∀ (m : Nat) (u v i : Int) (o5 : Option am_V) (μ : am_N) , sx ν μ → 1 ≤ a → a ≤ 60 → 0 ≤ i → i ≤ 5 → 5 - i < (m : Int) → am_AW l 0 (fun _ => 0) 78 Q 50 [some (.inr (.inr 0)), some (.inl a), some (.inl u), some (.inl v), some (.inl i), o5] [] μ := by
    intro m
    induction m with
    | zero =>
      intro u v i o5 μ hv0 hv1 hv2 hv3 hv4 hm
      have hb := sx_all hv0
      exfalso
      omega
    | succ m ih =>
      intro u v i o5 μ hv0 hv1 hv2 hv3 hv4 hm
      have hb := sx_all hv0
      refine am_go (ct := fun pc => Nat.beq pc 50) am_oX6_best 300 ?_
      conv => whnf
      repeat' first
        | (refine (?_ : am_wp _ _ _ _ _ _ _ _ _ _ _ _); conv => whnf)
        | (refine (?_ : am_sw _ _ _ _); conv => whnf)
        | refine And.intro trivial ?_
        | exact trivial
        | assumption
        | refine k _ _ ?_
        | refine sx_up ?_ rfl
        | refine w_refuse_X6 (ν := ν) _ ?_ ?_ ?_ (fun _ _ _ => ?_)
        | refine w_take_X0_8_1 (ν := ν)  ?_  (fun _ _ => ?_)
        | refine w_take_X0_15_8 (ν := ν)  ?_  (fun _ _ => ?_)
        | refine w_gaps_X6 (ν := ν) _ _ ?_ ?_ ?_ (fun _ _ _ => ?_)
        | refine ih _ _ _ _ _ ?_ ?_ ?_ ?_ ?_ ?_
        | refine And.intro (fun h => absurd h (by decide)) (fun _ => ?_)
        | refine And.intro (fun _ => ?_) (fun h => absurd (by decide) h)
        | refine And.intro (fun _ => ?_) (fun _ => ?_)
        | refine And.intro ?_ ?_
      all_goals (first | assumption | decide | omega | (intros; omega) | (intros; simp only [am_c] at * <;> omega) | (simp only [am_c, am_up] at * <;> omega) | (simp [am_c, am_up] at * <;> omega))
  have lp50' : ∀ (u v i : Int) (o5 : Option am_V) (μ : am_N) , sx ν μ → 1 ≤ a → a ≤ 60 → 0 ≤ i → i ≤ 5 → am_AW l 0 (fun _ => 0) 78 Q 50 [some (.inr (.inr 0)), some (.inl a), some (.inl u), some (.inl v), some (.inl i), o5] [] μ := fun u v i o5 μ hv0 hv1 hv2 hv3 hv4 => lp50 ((5 - i) + 1).toNat u v i o5 μ hv0 hv1 hv2 hv3 hv4 (by omega)
  refine am_go (ct := fun pc => Nat.beq pc 50) am_oX6_best 300 ?_
  conv => whnf
  repeat' first
    | (refine (?_ : am_wp _ _ _ _ _ _ _ _ _ _ _ _); conv => whnf)
    | (refine (?_ : am_sw _ _ _ _); conv => whnf)
    | refine And.intro trivial ?_
    | exact trivial
    | assumption
    | refine k _ _ ?_
    | refine sx_up ?_ rfl
    | refine w_refuse_X6 (ν := ν) _ ?_ ?_ ?_ (fun _ _ _ => ?_)
    | refine w_take_X0_8_1 (ν := ν)  ?_  (fun _ _ => ?_)
    | refine w_take_X0_15_8 (ν := ν)  ?_  (fun _ _ => ?_)
    | refine w_gaps_X6 (ν := ν) _ _ ?_ ?_ ?_ (fun _ _ _ => ?_)
    | refine lp50' _ _ _ _ _ ?_ ?_ ?_ ?_ ?_
    | refine And.intro (fun h => absurd h (by decide)) (fun _ => ?_)
    | refine And.intro (fun _ => ?_) (fun h => absurd (by decide) h)
    | refine And.intro (fun _ => ?_) (fun _ => ?_)
    | refine And.intro ?_ ?_
  all_goals (first | assumption | decide | omega | (intros; omega) | (intros; simp only [am_c] at * <;> omega) | (simp only [am_c, am_up] at * <;> omega) | (simp [am_c, am_up] at * <;> omega))
theorem w_pays_X6 {l : Launch} {μ : am_N} {Q : Option am_V → am_N → Prop} {ν : am_N} (a b : Int) (hS : sx ν μ) (ha0 : -2147483648 ≤ a) (ha1 : a ≤ 2147483647) (hb0 : -2147483648 ≤ b) (hb1 : b ≤ 2147483647) (k : ∀ r μ', sx ν μ' → Q (some (.inl r)) μ') : am_Does l 79 [.inr (.inr 0), .inl a, .inl b] μ Q := by
  refine am_Does_of (Nat.le_of_ble_eq_true rfl) (Nat.le_of_ble_eq_true rfl) (Nat.le_of_ble_eq_true rfl) ?_
  have hb := sx_all hS
  refine am_go (ct := fun _ => false) am_oX6_pays 300 ?_
  conv => whnf
  repeat' first
    | (refine (?_ : am_wp _ _ _ _ _ _ _ _ _ _ _ _); conv => whnf)
    | (refine (?_ : am_sw _ _ _ _); conv => whnf)
    | refine And.intro trivial ?_
    | exact trivial
    | assumption
    | refine k _ _ ?_
    | refine sx_up ?_ rfl
    | refine w_has_X0_1 (ν := ν) _ ?_ (fun _ _ _ => ?_) (fun _ => ?_)
    | refine w_has_X0_8 (ν := ν) _ ?_ (fun _ _ _ => ?_) (fun _ => ?_)
    | refine w_has_X0_15 (ν := ν) _ ?_ (fun _ _ _ => ?_) (fun _ => ?_)
    | refine w_refuseHigh_X6 (ν := ν) _ ?_ ?_ ?_ (fun _ _ _ => ?_)
    | refine w_winsAs_X6 (ν := ν) _ _ _ ?_ ?_ ?_ ?_ ?_ (fun _ _ _ => ?_)
    | refine And.intro (fun h => absurd h (by decide)) (fun _ => ?_)
    | refine And.intro (fun _ => ?_) (fun h => absurd (by decide) h)
    | refine And.intro (fun _ => ?_) (fun _ => ?_)
    | refine And.intro ?_ ?_
  all_goals (first | assumption | decide | omega | (intros; omega) | (intros; simp only [am_c] at * <;> omega) | (simp only [am_c, am_up] at * <;> omega) | (simp [am_c, am_up] at * <;> omega))
theorem w_worth_X6 {l : Launch} {μ : am_N} {Q : Option am_V → am_N → Prop} {ν : am_N} (a b : Int) (hS : sx ν μ) (ha0 : -2147483648 ≤ a) (ha1 : a ≤ 2147483647) (hb0 : -2147483648 ≤ b) (hb1 : b ≤ 2147483647) (k : ∀ r μ', sx ν μ' → Q (some (.inl r)) μ') : am_Does l 80 [.inr (.inr 0), .inl a, .inl b] μ Q := by
  refine am_Does_of (Nat.le_of_ble_eq_true rfl) (Nat.le_of_ble_eq_true rfl) (Nat.le_of_ble_eq_true rfl) ?_
  have hb := sx_all hS
  refine am_go (ct := fun _ => false) am_oX6_worth 300 ?_
  conv => whnf
  repeat' first
    | (refine (?_ : am_wp _ _ _ _ _ _ _ _ _ _ _ _); conv => whnf)
    | (refine (?_ : am_sw _ _ _ _); conv => whnf)
    | refine And.intro trivial ?_
    | exact trivial
    | assumption
    | refine k _ _ ?_
    | refine sx_up ?_ rfl
    | refine w_has_X0_1 (ν := ν) _ ?_ (fun _ _ _ => ?_) (fun _ => ?_)
    | refine w_has_X0_8 (ν := ν) _ ?_ (fun _ _ _ => ?_) (fun _ => ?_)
    | refine w_has_X0_15 (ν := ν) _ ?_ (fun _ _ _ => ?_) (fun _ => ?_)
    | refine w_refuseHigh_X6 (ν := ν) _ ?_ ?_ ?_ (fun _ _ _ => ?_)
    | refine w_gained_X6 (ν := ν) _ _ ?_  (fun _ => ?_)
    | refine And.intro (fun h => absurd h (by decide)) (fun _ => ?_)
    | refine And.intro (fun _ => ?_) (fun h => absurd (by decide) h)
    | refine And.intro (fun _ => ?_) (fun _ => ?_)
    | refine And.intro ?_ ?_
  all_goals (first | assumption | decide | omega | (intros; omega) | (intros; simp only [am_c] at * <;> omega) | (simp only [am_c, am_up] at * <;> omega) | (simp [am_c, am_up] at * <;> omega))
theorem w_same_X6 {l : Launch} {μ : am_N} {Q : Option am_V → am_N → Prop} {ν : am_N} (a b c : Int) (hS : sx ν μ) (ha0 : -2147483648 ≤ a) (ha1 : a ≤ 2147483647) (hb0 : -2147483648 ≤ b) (hb1 : b ≤ 2147483647) (hc0 : -2147483648 ≤ c) (hc1 : c ≤ 2147483647) (k : ∀ r μ', sx ν μ' → Q (some (.inl r)) μ') : am_Does l 81 [.inr (.inr 0), .inl a, .inl b, .inl c] μ Q := by
  refine am_Does_of (Nat.le_of_ble_eq_true rfl) (Nat.le_of_ble_eq_true rfl) (Nat.le_of_ble_eq_true rfl) ?_
  have hb := sx_all hS
  have lp50 : ∀ (m : Nat) (u i : Int) (μ : am_N) , sx ν μ → 0 ≤ i → i ≤ 100 → 100 - i < (m : Int) → am_AW l 0 (fun _ => 0) 81 Q 50 [some (.inr (.inr 0)), some (.inl a), some (.inl b), some (.inl c), some (.inl u), some (.inl i)] [] μ := by
    intro m
    induction m with
    | zero =>
      intro u i μ hv0 hv1 hv2 hm
      have hb := sx_all hv0
      exfalso
      omega
    | succ m ih =>
      intro u i μ hv0 hv1 hv2 hm
      have hb := sx_all hv0
      refine am_go (ct := fun pc => Nat.beq pc 50) am_oX6_same 300 ?_
      conv => whnf
      repeat' first
        | (refine (?_ : am_wp _ _ _ _ _ _ _ _ _ _ _ _); conv => whnf)
        | (refine (?_ : am_sw _ _ _ _); conv => whnf)
        | refine And.intro trivial ?_
        | exact trivial
        | assumption
        | refine k _ _ ?_
        | refine sx_up ?_ rfl
        | refine w_notTwo_X6 (ν := ν) _ _ ?_ ?_ (fun _ _ _ _ => ?_)
        | refine w_refuse_X6 (ν := ν) _ ?_ ?_ ?_ (fun _ _ _ => ?_)
        | refine w_gained_X6 (ν := ν) _ _ ?_  (fun _ => ?_)
        | refine ih _ _ _ ?_ ?_ ?_ ?_
        | refine And.intro (fun h => absurd h (by decide)) (fun _ => ?_)
        | refine And.intro (fun _ => ?_) (fun h => absurd (by decide) h)
        | refine And.intro (fun _ => ?_) (fun _ => ?_)
        | refine And.intro ?_ ?_
      all_goals (first | assumption | decide | omega | (intros; omega) | (intros; simp only [am_c] at * <;> omega) | (simp only [am_c, am_up] at * <;> omega) | (simp [am_c, am_up] at * <;> omega))
  have lp50' : ∀ (u i : Int) (μ : am_N) , sx ν μ → 0 ≤ i → i ≤ 100 → am_AW l 0 (fun _ => 0) 81 Q 50 [some (.inr (.inr 0)), some (.inl a), some (.inl b), some (.inl c), some (.inl u), some (.inl i)] [] μ := fun u i μ hv0 hv1 hv2 => lp50 ((100 - i) + 1).toNat u i μ hv0 hv1 hv2 (by omega)
  refine am_go (ct := fun pc => Nat.beq pc 50) am_oX6_same 300 ?_
  conv => whnf
  repeat' first
    | (refine (?_ : am_wp _ _ _ _ _ _ _ _ _ _ _ _); conv => whnf)
    | (refine (?_ : am_sw _ _ _ _); conv => whnf)
    | refine And.intro trivial ?_
    | exact trivial
    | assumption
    | refine k _ _ ?_
    | refine sx_up ?_ rfl
    | refine w_notTwo_X6 (ν := ν) _ _ ?_ ?_ (fun _ _ _ _ => ?_)
    | refine w_refuse_X6 (ν := ν) _ ?_ ?_ ?_ (fun _ _ _ => ?_)
    | refine w_gained_X6 (ν := ν) _ _ ?_  (fun _ => ?_)
    | refine lp50' _ _ _ ?_ ?_ ?_
    | refine And.intro (fun h => absurd h (by decide)) (fun _ => ?_)
    | refine And.intro (fun _ => ?_) (fun h => absurd (by decide) h)
    | refine And.intro (fun _ => ?_) (fun _ => ?_)
    | refine And.intro ?_ ?_
  all_goals (first | assumption | decide | omega | (intros; omega) | (intros; simp only [am_c] at * <;> omega) | (simp only [am_c, am_up] at * <;> omega) | (simp [am_c, am_up] at * <;> omega))
theorem w_teams_X6 {l : Launch} {μ : am_N} {Q : Option am_V → am_N → Prop} {ν : am_N} (a : Int) (hS : sx ν μ) (ha0 : -2147483648 ≤ a) (ha1 : a ≤ 2147483647) (k : ∀ r μ', sx ν μ' → Q (some (.inl r)) μ') : am_Does l 82 [.inr (.inr 0), .inl a] μ Q := by
  refine am_Does_of (Nat.le_of_ble_eq_true rfl) (Nat.le_of_ble_eq_true rfl) (Nat.le_of_ble_eq_true rfl) ?_
  have hb := sx_all hS
  have hsh := am_shl14 (n := μ 1 4) hb.1.1 hb.1.2
  have lp52 : ∀ (m : Nat) (q u v i : Int) (o6 : Option am_V) (μ : am_N) , sx ν μ → 1 ≤ i → i ≤ 17 → 0 ≤ q → q ≤ 15 → 17 - i < (m : Int) → am_AW l 0 (fun _ => 0) 82 Q 52 [some (.inr (.inr 0)), some (.inl a), some (.inl q), some (.inl u), some (.inl v), some (.inl i), o6] [] μ := by
    intro m
    induction m with
    | zero =>
      intro q u v i o6 μ hv0 hv1 hv2 hv3 hv4 hm
      have hb := sx_all hv0
      exfalso
      omega
    | succ m ih =>
      intro q u v i o6 μ hv0 hv1 hv2 hv3 hv4 hm
      have hb := sx_all hv0
      refine am_go (ct := fun pc => Nat.beq pc 52) am_oX6_teams 300 ?_
      conv => whnf
      repeat' first
        | (refine (?_ : am_wp _ _ _ _ _ _ _ _ _ _ _ _); conv => whnf)
        | (refine (?_ : am_sw _ _ _ _); conv => whnf)
        | refine And.intro trivial ?_
        | exact trivial
        | assumption
        | refine k _ _ ?_
        | refine sx_up ?_ rfl
        | refine w_noPart_X6 _ ?_ (fun _ => ?_)
        | refine w_refuse_X6 (ν := ν) _ ?_ ?_ ?_ (fun _ _ _ => ?_)
        | refine w_apart_X6 (ν := ν) _ ?_  (fun _ => ?_)
        | refine ih _ _ _ _ _ _ ?_ ?_ ?_ ?_ ?_ ?_
        | refine And.intro (fun h => absurd h (by decide)) (fun _ => ?_)
        | refine And.intro (fun _ => ?_) (fun h => absurd (by decide) h)
        | refine And.intro (fun _ => ?_) (fun _ => ?_)
        | refine And.intro ?_ ?_
      all_goals (first | assumption | decide | omega | (intros; omega) | (intros; simp only [am_c] at * <;> omega) | (simp only [am_c, am_up] at * <;> omega) | (simp [am_c, am_up] at * <;> omega))
  have lp52' : ∀ (q u v i : Int) (o6 : Option am_V) (μ : am_N) , sx ν μ → 1 ≤ i → i ≤ 17 → 0 ≤ q → q ≤ 15 → am_AW l 0 (fun _ => 0) 82 Q 52 [some (.inr (.inr 0)), some (.inl a), some (.inl q), some (.inl u), some (.inl v), some (.inl i), o6] [] μ := fun q u v i o6 μ hv0 hv1 hv2 hv3 hv4 => lp52 ((17 - i) + 1).toNat q u v i o6 μ hv0 hv1 hv2 hv3 hv4 (by omega)
  refine am_go (ct := fun pc => Nat.beq pc 52) am_oX6_teams 300 ?_
  conv => whnf
  repeat' first
    | (refine (?_ : am_wp _ _ _ _ _ _ _ _ _ _ _ _); conv => whnf)
    | (refine (?_ : am_sw _ _ _ _); conv => whnf)
    | refine And.intro trivial ?_
    | exact trivial
    | assumption
    | refine k _ _ ?_
    | refine sx_up ?_ rfl
    | refine w_noPart_X6 _ ?_ (fun _ => ?_)
    | refine w_refuse_X6 (ν := ν) _ ?_ ?_ ?_ (fun _ _ _ => ?_)
    | refine w_apart_X6 (ν := ν) _ ?_  (fun _ => ?_)
    | refine lp52' _ _ _ _ _ _ ?_ ?_ ?_ ?_ ?_
    | refine And.intro (fun h => absurd h (by decide)) (fun _ => ?_)
    | refine And.intro (fun _ => ?_) (fun h => absurd (by decide) h)
    | refine And.intro (fun _ => ?_) (fun _ => ?_)
    | refine And.intro ?_ ?_
  all_goals (first | assumption | decide | omega | (intros; omega) | (intros; simp only [am_c] at * <;> omega) | (simp only [am_c, am_up] at * <;> omega) | (simp [am_c, am_up] at * <;> omega))
theorem w_longer_X6 {l : Launch} {μ : am_N} {Q : Option am_V → am_N → Prop} {ν : am_N} (a : Int) (hS : sx ν μ) (ha0 : -2147483648 ≤ a) (ha1 : a ≤ 2147483647) (k : ∀ r μ', sx ν μ' → Q (some (.inl r)) μ') : am_Does l 83 [.inr (.inr 0), .inl a] μ Q := by
  refine am_Does_of (Nat.le_of_ble_eq_true rfl) (Nat.le_of_ble_eq_true rfl) (Nat.le_of_ble_eq_true rfl) ?_
  have hb := sx_all hS
  have lp31 : ∀ (m : Nat) (i : Int) (μ : am_N) , sx ν μ → 20 ≤ i → i ≤ 201 → 201 - i < (m : Int) → am_AW l 0 (fun _ => 0) 83 Q 31 [some (.inr (.inr 0)), some (.inl a), some (.inl i)] [] μ := by
    intro m
    induction m with
    | zero =>
      intro i μ hv0 hv1 hv2 hm
      have hb := sx_all hv0
      exfalso
      omega
    | succ m ih =>
      intro i μ hv0 hv1 hv2 hm
      have hb := sx_all hv0
      refine am_go (ct := fun pc => Nat.beq pc 31) am_oX6_longer 300 ?_
      conv => whnf
      repeat' first
        | (refine (?_ : am_wp _ _ _ _ _ _ _ _ _ _ _ _); conv => whnf)
        | (refine (?_ : am_sw _ _ _ _); conv => whnf)
        | refine And.intro trivial ?_
        | exact trivial
        | assumption
        | refine k _ _ ?_
        | refine sx_up ?_ rfl
        | refine w_has_X0_1 (ν := ν) _ ?_ (fun _ _ _ => ?_) (fun _ => ?_)
        | refine w_has_X0_8 (ν := ν) _ ?_ (fun _ _ _ => ?_) (fun _ => ?_)
        | refine w_has_X0_15 (ν := ν) _ ?_ (fun _ _ _ => ?_) (fun _ => ?_)
        | refine w_refuse_X6 (ν := ν) _ ?_ ?_ ?_ (fun _ _ _ => ?_)
        | refine w_take_X0_8_1 (ν := ν)  ?_  (fun _ _ => ?_)
        | refine w_take_X0_15_8 (ν := ν)  ?_  (fun _ _ => ?_)
        | refine w_draw_X2_29_1 (ν := ν)  ?_  (fun _ _ => ?_)
        | refine w_draw_X2_29_8 (ν := ν)  ?_  (fun _ _ => ?_)
        | refine w_draw_X2_29_15 (ν := ν)  ?_  (fun _ _ => ?_)
        | refine w_ways_X2_29 (ν := ν) _ ?_  (fun _ => ?_)
        | refine w_allWays_X2_29 (ν := ν)  ?_  (fun _ => ?_)
        | refine ih _ _ ?_ ?_ ?_ ?_
        | refine And.intro (fun h => absurd h (by decide)) (fun _ => ?_)
        | refine And.intro (fun _ => ?_) (fun h => absurd (by decide) h)
        | refine And.intro (fun _ => ?_) (fun _ => ?_)
        | refine And.intro ?_ ?_
      all_goals (first | assumption | decide | omega | (intros; omega) | (intros; simp only [am_c] at * <;> omega) | (simp only [am_c, am_up] at * <;> omega) | (simp [am_c, am_up] at * <;> omega))
  have lp31' : ∀ (i : Int) (μ : am_N) , sx ν μ → 20 ≤ i → i ≤ 201 → am_AW l 0 (fun _ => 0) 83 Q 31 [some (.inr (.inr 0)), some (.inl a), some (.inl i)] [] μ := fun i μ hv0 hv1 hv2 => lp31 ((201 - i) + 1).toNat i μ hv0 hv1 hv2 (by omega)
  refine am_go (ct := fun pc => Nat.beq pc 31) am_oX6_longer 300 ?_
  conv => whnf
  repeat' first
    | (refine (?_ : am_wp _ _ _ _ _ _ _ _ _ _ _ _); conv => whnf)
    | (refine (?_ : am_sw _ _ _ _); conv => whnf)
    | refine And.intro trivial ?_
    | exact trivial
    | assumption
    | refine k _ _ ?_
    | refine sx_up ?_ rfl
    | refine w_has_X0_1 (ν := ν) _ ?_ (fun _ _ _ => ?_) (fun _ => ?_)
    | refine w_has_X0_8 (ν := ν) _ ?_ (fun _ _ _ => ?_) (fun _ => ?_)
    | refine w_has_X0_15 (ν := ν) _ ?_ (fun _ _ _ => ?_) (fun _ => ?_)
    | refine w_refuse_X6 (ν := ν) _ ?_ ?_ ?_ (fun _ _ _ => ?_)
    | refine w_take_X0_8_1 (ν := ν)  ?_  (fun _ _ => ?_)
    | refine w_take_X0_15_8 (ν := ν)  ?_  (fun _ _ => ?_)
    | refine w_draw_X2_29_1 (ν := ν)  ?_  (fun _ _ => ?_)
    | refine w_draw_X2_29_8 (ν := ν)  ?_  (fun _ _ => ?_)
    | refine w_draw_X2_29_15 (ν := ν)  ?_  (fun _ _ => ?_)
    | refine w_ways_X2_29 (ν := ν) _ ?_  (fun _ => ?_)
    | refine w_allWays_X2_29 (ν := ν)  ?_  (fun _ => ?_)
    | refine lp31' _ _ ?_ ?_ ?_
    | refine And.intro (fun h => absurd h (by decide)) (fun _ => ?_)
    | refine And.intro (fun _ => ?_) (fun h => absurd (by decide) h)
    | refine And.intro (fun _ => ?_) (fun _ => ?_)
    | refine And.intro ?_ ?_
  all_goals (first | assumption | decide | omega | (intros; omega) | (intros; simp only [am_c] at * <;> omega) | (simp only [am_c, am_up] at * <;> omega) | (simp [am_c, am_up] at * <;> omega))
theorem w_fits_X6 {l : Launch} {μ : am_N} {Q : Option am_V → am_N → Prop} {ν : am_N} (a b : Int) (hS : sx ν μ) (ha0 : -2147483648 ≤ a) (ha1 : a ≤ 2147483647) (hb0 : -2147483648 ≤ b) (hb1 : b ≤ 2147483647) (k : ∀ r μ', sx ν μ' → Q (some (.inl r)) μ') : am_Does l 84 [.inr (.inr 0), .inl a, .inl b] μ Q := by
  refine am_Does_of (Nat.le_of_ble_eq_true rfl) (Nat.le_of_ble_eq_true rfl) (Nat.le_of_ble_eq_true rfl) ?_
  have hb := sx_all hS
  have lp41 : ∀ (m : Nat) (u v i : Int) (μ : am_N) , sx ν μ → 0 ≤ am_c a → am_c a < 4 → -1 ≤ i → i ≤ 99 → i + 1 < (m : Int) → am_AW l 0 (fun _ => 0) 84 Q 41 [some (.inr (.inr 0)), some (.inl a), some (.inl b), some (.inl u), some (.inl v), some (.inl i)] [] μ := by
    intro m
    induction m with
    | zero =>
      intro u v i μ hv0 hv1 hv2 hv3 hv4 hm
      have hb := sx_all hv0
      exfalso
      omega
    | succ m ih =>
      intro u v i μ hv0 hv1 hv2 hv3 hv4 hm
      have hb := sx_all hv0
      refine am_go (ct := fun pc => Nat.beq pc 41) am_oX6_fits 300 ?_
      conv => whnf
      repeat' first
        | (refine (?_ : am_wp _ _ _ _ _ _ _ _ _ _ _ _); conv => whnf)
        | (refine (?_ : am_sw _ _ _ _); conv => whnf)
        | refine And.intro trivial ?_
        | exact trivial
        | assumption
        | refine k _ _ ?_
        | refine sx_up ?_ rfl
        | refine w_has_X0_1 (ν := ν) _ ?_ (fun _ _ _ => ?_) (fun _ => ?_)
        | refine w_has_X0_8 (ν := ν) _ ?_ (fun _ _ _ => ?_) (fun _ => ?_)
        | refine w_has_X0_15 (ν := ν) _ ?_ (fun _ _ _ => ?_) (fun _ => ?_)
        | refine w_refuse_X6 (ν := ν) _ ?_ ?_ ?_ (fun _ _ _ => ?_)
        | refine w_noPart_X6 _ ?_ (fun _ => ?_)
        | refine w_take_X0_8_1 (ν := ν)  ?_  (fun _ _ => ?_)
        | refine w_take_X0_15_8 (ν := ν)  ?_  (fun _ _ => ?_)
        | refine w_firstNotSo_X6 (ν := ν)  ?_  (fun _ _ _ => ?_)
        | refine ih _ _ _ _ ?_ ?_ ?_ ?_ ?_ ?_
        | refine And.intro (fun h => absurd h (by decide)) (fun _ => ?_)
        | refine And.intro (fun _ => ?_) (fun h => absurd (by decide) h)
        | refine And.intro (fun _ => ?_) (fun _ => ?_)
        | refine And.intro ?_ ?_
      all_goals (first | assumption | decide | omega | (intros; omega) | (intros; simp only [am_c] at * <;> omega) | (simp only [am_c, am_up] at * <;> omega) | (simp [am_c, am_up] at * <;> omega))
  have lp41' : ∀ (u v i : Int) (μ : am_N) , sx ν μ → 0 ≤ am_c a → am_c a < 4 → -1 ≤ i → i ≤ 99 → am_AW l 0 (fun _ => 0) 84 Q 41 [some (.inr (.inr 0)), some (.inl a), some (.inl b), some (.inl u), some (.inl v), some (.inl i)] [] μ := fun u v i μ hv0 hv1 hv2 hv3 hv4 => lp41 ((i + 1) + 1).toNat u v i μ hv0 hv1 hv2 hv3 hv4 (by omega)
  refine am_go (ct := fun pc => Nat.beq pc 41) am_oX6_fits 300 ?_
  conv => whnf
  repeat' first
    | (refine (?_ : am_wp _ _ _ _ _ _ _ _ _ _ _ _); conv => whnf)
    | (refine (?_ : am_sw _ _ _ _); conv => whnf)
    | refine And.intro trivial ?_
    | exact trivial
    | assumption
    | refine k _ _ ?_
    | refine sx_up ?_ rfl
    | refine w_has_X0_1 (ν := ν) _ ?_ (fun _ _ _ => ?_) (fun _ => ?_)
    | refine w_has_X0_8 (ν := ν) _ ?_ (fun _ _ _ => ?_) (fun _ => ?_)
    | refine w_has_X0_15 (ν := ν) _ ?_ (fun _ _ _ => ?_) (fun _ => ?_)
    | refine w_refuse_X6 (ν := ν) _ ?_ ?_ ?_ (fun _ _ _ => ?_)
    | refine w_noPart_X6 _ ?_ (fun _ => ?_)
    | refine w_take_X0_8_1 (ν := ν)  ?_  (fun _ _ => ?_)
    | refine w_take_X0_15_8 (ν := ν)  ?_  (fun _ _ => ?_)
    | refine w_firstNotSo_X6 (ν := ν)  ?_  (fun _ _ _ => ?_)
    | refine lp41' _ _ _ _ ?_ ?_ ?_ ?_ ?_
    | refine And.intro (fun h => absurd h (by decide)) (fun _ => ?_)
    | refine And.intro (fun _ => ?_) (fun h => absurd (by decide) h)
    | refine And.intro (fun _ => ?_) (fun _ => ?_)
    | refine And.intro ?_ ?_
  all_goals (first | assumption | decide | omega | (intros; omega) | (intros; simp only [am_c] at * <;> omega) | (simp only [am_c, am_up] at * <;> omega) | (simp [am_c, am_up] at * <;> omega))
theorem w_let_X6 {l : Launch} {μ : am_N} {Q : Option am_V → am_N → Prop} {ν : am_N}  (hS : sx ν μ)  (k : ∀ r μ', sx ν μ' → Q (some (.inl r)) μ') : am_Does l 85 [.inr (.inr 0)] μ Q := by
  refine am_Does_of (Nat.le_of_ble_eq_true rfl) (Nat.le_of_ble_eq_true rfl) (Nat.le_of_ble_eq_true rfl) ?_
  have hb := sx_all hS
  have lp40 : ∀ (m : Nat) (u v i : Int) (μ : am_N) , sx ν μ → 0 ≤ i → i ≤ 4 → 4 - i < (m : Int) → am_AW l 0 (fun _ => 0) 85 Q 40 [some (.inr (.inr 0)), some (.inl u), some (.inl v), some (.inl i)] [] μ := by
    intro m
    induction m with
    | zero =>
      intro u v i μ hv0 hv1 hv2 hm
      have hb := sx_all hv0
      exfalso
      omega
    | succ m ih =>
      intro u v i μ hv0 hv1 hv2 hm
      have hb := sx_all hv0
      refine am_go (ct := fun pc => Nat.beq pc 40) am_oX6_let 300 ?_
      conv => whnf
      repeat' first
        | (refine (?_ : am_wp _ _ _ _ _ _ _ _ _ _ _ _); conv => whnf)
        | (refine (?_ : am_sw _ _ _ _); conv => whnf)
        | refine And.intro trivial ?_
        | exact trivial
        | assumption
        | refine k _ _ ?_
        | refine sx_up ?_ rfl
        | refine w_refuse_X6 (ν := ν) _ ?_ ?_ ?_ (fun _ _ _ => ?_)
        | refine w_asRule_X2_29_1 (ν := ν)  ?_  (fun _ _ => ?_)
        | refine w_asRule_X2_29_8 (ν := ν)  ?_  (fun _ _ => ?_)
        | refine w_asRule_X2_29_15 (ν := ν)  ?_  (fun _ _ => ?_)
        | refine w_asRule_X2_38_8 (ν := ν)  ?_  (fun _ _ => ?_)
        | refine w_first_X2_29 (ν := ν)  ?_  (fun _ => ?_)
        | refine w_first_X2_38 (ν := ν)  ?_  (fun _ => ?_)
        | refine w_take_X0_8_1 (ν := ν)  ?_  (fun _ _ => ?_)
        | refine w_take_X0_15_8 (ν := ν)  ?_  (fun _ _ => ?_)
        | refine ih _ _ _ _ ?_ ?_ ?_ ?_
        | refine And.intro (fun h => absurd h (by decide)) (fun _ => ?_)
        | refine And.intro (fun _ => ?_) (fun h => absurd (by decide) h)
        | refine And.intro (fun _ => ?_) (fun _ => ?_)
        | refine And.intro ?_ ?_
      all_goals (first | assumption | decide | omega | (intros; omega) | (intros; simp only [am_c] at * <;> omega) | (simp only [am_c, am_up] at * <;> omega) | (simp [am_c, am_up] at * <;> omega))
  have lp40' : ∀ (u v i : Int) (μ : am_N) , sx ν μ → 0 ≤ i → i ≤ 4 → am_AW l 0 (fun _ => 0) 85 Q 40 [some (.inr (.inr 0)), some (.inl u), some (.inl v), some (.inl i)] [] μ := fun u v i μ hv0 hv1 hv2 => lp40 ((4 - i) + 1).toNat u v i μ hv0 hv1 hv2 (by omega)
  refine am_go (ct := fun pc => Nat.beq pc 40) am_oX6_let 300 ?_
  conv => whnf
  repeat' first
    | (refine (?_ : am_wp _ _ _ _ _ _ _ _ _ _ _ _); conv => whnf)
    | (refine (?_ : am_sw _ _ _ _); conv => whnf)
    | refine And.intro trivial ?_
    | exact trivial
    | assumption
    | refine k _ _ ?_
    | refine sx_up ?_ rfl
    | refine w_refuse_X6 (ν := ν) _ ?_ ?_ ?_ (fun _ _ _ => ?_)
    | refine w_asRule_X2_29_1 (ν := ν)  ?_  (fun _ _ => ?_)
    | refine w_asRule_X2_29_8 (ν := ν)  ?_  (fun _ _ => ?_)
    | refine w_asRule_X2_29_15 (ν := ν)  ?_  (fun _ _ => ?_)
    | refine w_asRule_X2_38_8 (ν := ν)  ?_  (fun _ _ => ?_)
    | refine w_first_X2_29 (ν := ν)  ?_  (fun _ => ?_)
    | refine w_first_X2_38 (ν := ν)  ?_  (fun _ => ?_)
    | refine w_take_X0_8_1 (ν := ν)  ?_  (fun _ _ => ?_)
    | refine w_take_X0_15_8 (ν := ν)  ?_  (fun _ _ => ?_)
    | refine lp40' _ _ _ _ ?_ ?_ ?_
    | refine And.intro (fun h => absurd h (by decide)) (fun _ => ?_)
    | refine And.intro (fun _ => ?_) (fun h => absurd (by decide) h)
    | refine And.intro (fun _ => ?_) (fun _ => ?_)
    | refine And.intro ?_ ?_
  all_goals (first | assumption | decide | omega | (intros; omega) | (intros; simp only [am_c] at * <;> omega) | (simp only [am_c, am_up] at * <;> omega) | (simp [am_c, am_up] at * <;> omega))
theorem w_seeds_X6 {l : Launch} {μ : am_N} {Q : Option am_V → am_N → Prop} {ν : am_N} (a b c d : Int) (hS : sx ν μ) (ha0 : -2147483648 ≤ a) (ha1 : a ≤ 2147483647) (hb0 : -2147483648 ≤ b) (hb1 : b ≤ 2147483647) (hc0 : -2147483648 ≤ c) (hc1 : c ≤ 2147483647) (hd0 : -2147483648 ≤ d) (hd1 : d ≤ 2147483647) (k : ∀ r μ', sx ν μ' → Q (some (.inl r)) μ') : am_Does l 89 [.inr (.inr 0), .inl a, .inl b, .inl c, .inl d] μ Q := by
  refine am_Does_of (Nat.le_of_ble_eq_true rfl) (Nat.le_of_ble_eq_true rfl) (Nat.le_of_ble_eq_true rfl) ?_
  have hb := sx_all hS
  have lp80 : ∀ (m : Nat) (u v w i : Int) (μ : am_N) , sx ν μ → 0 ≤ i → i ≤ 20 → b ≤ 20 → 20 - i < (m : Int) → am_AW l 0 (fun _ => 0) 89 Q 80 [some (.inr (.inr 0)), some (.inl a), some (.inl b), some (.inl c), some (.inl d), some (.inl u), some (.inl v), some (.inl w), some (.inl i)] [] μ := by
    intro m
    induction m with
    | zero =>
      intro u v w i μ hv0 hv1 hv2 hv3 hm
      have hb := sx_all hv0
      exfalso
      omega
    | succ m ih =>
      intro u v w i μ hv0 hv1 hv2 hv3 hm
      have hb := sx_all hv0
      refine am_go (ct := fun pc => Nat.beq pc 80) am_oX6_seeds 300 ?_
      conv => whnf
      repeat' first
        | (refine (?_ : am_wp _ _ _ _ _ _ _ _ _ _ _ _); conv => whnf)
        | (refine (?_ : am_sw _ _ _ _); conv => whnf)
        | refine And.intro trivial ?_
        | exact trivial
        | assumption
        | refine k _ _ ?_
        | refine sx_up ?_ rfl
        | refine w_has_X0_1 (ν := ν) _ ?_ (fun _ _ _ => ?_) (fun _ => ?_)
        | refine w_has_X0_8 (ν := ν) _ ?_ (fun _ _ _ => ?_) (fun _ => ?_)
        | refine w_has_X0_15 (ν := ν) _ ?_ (fun _ _ _ => ?_) (fun _ => ?_)
        | refine w_refuse_X6 (ν := ν) _ ?_ ?_ ?_ (fun _ _ _ => ?_)
        | refine w_noPart_X6 _ ?_ (fun _ => ?_)
        | refine w_take_X0_8_1 (ν := ν)  ?_  (fun _ _ => ?_)
        | refine w_take_X0_15_8 (ν := ν)  ?_  (fun _ _ => ?_)
        | refine w_drawn_X2_29_8 (ν := ν) _ ?_  (fun _ _ _ => ?_)
        | refine w_gap_X2_29 (ν := ν)  ?_  (fun _ => ?_)
        | refine w_first_X2_29 (ν := ν)  ?_  (fun _ => ?_)
        | refine w_first_X2_38 (ν := ν)  ?_  (fun _ => ?_)
        | refine w_behind_X2_38_8 (ν := ν)  ?_  (fun _ _ => ?_)
        | refine w_behind_X2_29_8 (ν := ν)  ?_  (fun _ _ => ?_)
        | refine w_behind_X2_29_15 (ν := ν)  ?_  (fun _ _ => ?_)
        | refine ih _ _ _ _ _ ?_ ?_ ?_ ?_ ?_
        | refine And.intro (fun h => absurd h (by decide)) (fun _ => ?_)
        | refine And.intro (fun _ => ?_) (fun h => absurd (by decide) h)
        | refine And.intro (fun _ => ?_) (fun _ => ?_)
        | refine And.intro ?_ ?_
      all_goals (first | assumption | decide | omega | (intros; omega) | (intros; simp only [am_c] at * <;> omega) | (simp only [am_c, am_up] at * <;> omega) | (simp [am_c, am_up] at * <;> omega))
  have lp80' : ∀ (u v w i : Int) (μ : am_N) , sx ν μ → 0 ≤ i → i ≤ 20 → b ≤ 20 → am_AW l 0 (fun _ => 0) 89 Q 80 [some (.inr (.inr 0)), some (.inl a), some (.inl b), some (.inl c), some (.inl d), some (.inl u), some (.inl v), some (.inl w), some (.inl i)] [] μ := fun u v w i μ hv0 hv1 hv2 hv3 => lp80 ((20 - i) + 1).toNat u v w i μ hv0 hv1 hv2 hv3 (by omega)
  refine am_go (ct := fun pc => Nat.beq pc 80) am_oX6_seeds 300 ?_
  conv => whnf
  repeat' first
    | (refine (?_ : am_wp _ _ _ _ _ _ _ _ _ _ _ _); conv => whnf)
    | (refine (?_ : am_sw _ _ _ _); conv => whnf)
    | refine And.intro trivial ?_
    | exact trivial
    | assumption
    | refine k _ _ ?_
    | refine sx_up ?_ rfl
    | refine w_has_X0_1 (ν := ν) _ ?_ (fun _ _ _ => ?_) (fun _ => ?_)
    | refine w_has_X0_8 (ν := ν) _ ?_ (fun _ _ _ => ?_) (fun _ => ?_)
    | refine w_has_X0_15 (ν := ν) _ ?_ (fun _ _ _ => ?_) (fun _ => ?_)
    | refine w_refuse_X6 (ν := ν) _ ?_ ?_ ?_ (fun _ _ _ => ?_)
    | refine w_noPart_X6 _ ?_ (fun _ => ?_)
    | refine w_take_X0_8_1 (ν := ν)  ?_  (fun _ _ => ?_)
    | refine w_take_X0_15_8 (ν := ν)  ?_  (fun _ _ => ?_)
    | refine w_drawn_X2_29_8 (ν := ν) _ ?_  (fun _ _ _ => ?_)
    | refine w_gap_X2_29 (ν := ν)  ?_  (fun _ => ?_)
    | refine w_first_X2_29 (ν := ν)  ?_  (fun _ => ?_)
    | refine w_first_X2_38 (ν := ν)  ?_  (fun _ => ?_)
    | refine w_behind_X2_38_8 (ν := ν)  ?_  (fun _ _ => ?_)
    | refine w_behind_X2_29_8 (ν := ν)  ?_  (fun _ _ => ?_)
    | refine w_behind_X2_29_15 (ν := ν)  ?_  (fun _ _ => ?_)
    | refine lp80' _ _ _ _ _ ?_ ?_ ?_ ?_
    | refine And.intro (fun h => absurd h (by decide)) (fun _ => ?_)
    | refine And.intro (fun _ => ?_) (fun h => absurd (by decide) h)
    | refine And.intro (fun _ => ?_) (fun _ => ?_)
    | refine And.intro ?_ ?_
  all_goals (first | assumption | decide | omega | (intros; omega) | (intros; simp only [am_c] at * <;> omega) | (simp only [am_c, am_up] at * <;> omega) | (simp [am_c, am_up] at * <;> omega))
theorem w_bags_X6 {l : Launch} {μ : am_N} {Q : Option am_V → am_N → Prop} {ν : am_N} (a b c : Int) (hS : sx ν μ) (ha0 : -2147483648 ≤ a) (ha1 : a ≤ 2147483647) (hb0 : -2147483648 ≤ b) (hb1 : b ≤ 2147483647) (hc0 : -2147483648 ≤ c) (hc1 : c ≤ 2147483647) (k : ∀ r μ', sx ν μ' → Q (some (.inl r)) μ') : am_Does l 93 [.inr (.inr 0), .inl a, .inl b, .inl c] μ Q := by
  refine am_Does_of (Nat.le_of_ble_eq_true rfl) (Nat.le_of_ble_eq_true rfl) (Nat.le_of_ble_eq_true rfl) ?_
  have hb := sx_all hS
  have lp39 : ∀ (m : Nat) (u v i : Int) (o7 : Option am_V) (μ : am_N) , sx ν μ → 0 ≤ am_c a → am_c a < 4 → 0 ≤ am_c b → am_c b < 4 → 0 ≤ i → (i ≤ am_c (am_shl 1 (ν 48 1)) ∨ i = 0) → max (am_c (am_shl 1 (ν 48 1)) - i) 0 < (m : Int) → am_AW l 0 (fun _ => 0) 93 Q 39 [some (.inr (.inr 0)), some (.inl a), some (.inl b), some (.inl c), some (.inl u), some (.inl v), some (.inl i), o7] [] μ := by
    intro m
    induction m with
    | zero =>
      intro u v i o7 μ hv0 hv1 hv2 hv3 hv4 hv5 hv6 hm
      have hb := sx_all hv0
      exfalso
      omega
    | succ m ih =>
      intro u v i o7 μ hv0 hv1 hv2 hv3 hv4 hv5 hv6 hm
      have hb := sx_all hv0
      have e48 : μ 48 1 = ν 48 1 := hv0.1 48 1 rfl
      refine am_go (ct := fun pc => Nat.beq pc 39) am_oX6_bags 300 ?_
      conv => whnf
      repeat' first
        | (refine (?_ : am_wp _ _ _ _ _ _ _ _ _ _ _ _); conv => whnf)
        | (refine (?_ : am_sw _ _ _ _); conv => whnf)
        | refine And.intro trivial ?_
        | exact trivial
        | assumption
        | refine k _ _ ?_
        | refine sx_up ?_ rfl
        | refine w_notTwo_X6 (ν := ν) _ _ ?_ ?_ (fun _ _ _ _ => ?_)
        | refine w_refuse_X6 (ν := ν) _ ?_ ?_ ?_ (fun _ _ _ => ?_)
        | refine w_noPart_X6 _ ?_ (fun _ => ?_)
        | refine w_carrying_X6 (ν := ν) _ _ _ ?_ ?_ ?_ ?_ ?_ (fun _ _ _ => ?_)
        | refine ih _ _ _ _ _ ?_ ?_ ?_ ?_ ?_ ?_ ?_ ?_
        | refine And.intro (fun h => absurd h (by decide)) (fun _ => ?_)
        | refine And.intro (fun _ => ?_) (fun h => absurd (by decide) h)
        | refine And.intro (fun _ => ?_) (fun _ => ?_)
        | refine And.intro ?_ ?_
      all_goals (first | assumption | decide | omega | (simp only [e48] at * <;> omega) | (simp only [e48, am_c] at * <;> omega))
  have lp39' : ∀ (u v i : Int) (o7 : Option am_V) (μ : am_N) , sx ν μ → 0 ≤ am_c a → am_c a < 4 → 0 ≤ am_c b → am_c b < 4 → 0 ≤ i → (i ≤ am_c (am_shl 1 (ν 48 1)) ∨ i = 0) → am_AW l 0 (fun _ => 0) 93 Q 39 [some (.inr (.inr 0)), some (.inl a), some (.inl b), some (.inl c), some (.inl u), some (.inl v), some (.inl i), o7] [] μ := fun u v i o7 μ hv0 hv1 hv2 hv3 hv4 hv5 hv6 => lp39 ((max (am_c (am_shl 1 (ν 48 1)) - i) 0) + 1).toNat u v i o7 μ hv0 hv1 hv2 hv3 hv4 hv5 hv6 (by omega)
  refine am_go (ct := fun pc => Nat.beq pc 39) am_oX6_bags 300 ?_
  conv => whnf
  repeat' first
    | (refine (?_ : am_wp _ _ _ _ _ _ _ _ _ _ _ _); conv => whnf)
    | (refine (?_ : am_sw _ _ _ _); conv => whnf)
    | refine And.intro trivial ?_
    | exact trivial
    | assumption
    | refine k _ _ ?_
    | refine sx_up ?_ rfl
    | refine w_notTwo_X6 (ν := ν) _ _ ?_ ?_ (fun _ _ _ _ => ?_)
    | refine w_refuse_X6 (ν := ν) _ ?_ ?_ ?_ (fun _ _ _ => ?_)
    | refine w_noPart_X6 _ ?_ (fun _ => ?_)
    | refine w_carrying_X6 (ν := ν) _ _ _ ?_ ?_ ?_ ?_ ?_ (fun _ _ _ => ?_)
    | refine lp39' _ _ _ _ _ ?_ ?_ ?_ ?_ ?_ ?_ ?_
    | refine And.intro (fun h => absurd h (by decide)) (fun _ => ?_)
    | refine And.intro (fun _ => ?_) (fun h => absurd (by decide) h)
    | refine And.intro (fun _ => ?_) (fun _ => ?_)
    | refine And.intro ?_ ?_
  all_goals (first | assumption | decide | omega | (intros; omega) | (intros; simp only [am_c] at * <;> omega) | (simp only [am_c, am_up] at * <;> omega) | (simp [am_c, am_up] at * <;> omega))
theorem w_ahead_X6 {l : Launch} {μ : am_N} {Q : Option am_V → am_N → Prop} {ν : am_N} (a b : Int) (hS : sx ν μ) (ha0 : -2147483648 ≤ a) (ha1 : a ≤ 2147483647) (hb0 : -2147483648 ≤ b) (hb1 : b ≤ 2147483647) (k : ∀ r μ', sx ν μ' → Q (some (.inl r)) μ') : am_Does l 94 [.inr (.inr 0), .inl a, .inl b] μ Q := by
  refine am_Does_of (Nat.le_of_ble_eq_true rfl) (Nat.le_of_ble_eq_true rfl) (Nat.le_of_ble_eq_true rfl) ?_
  have hb := sx_all hS
  refine am_go (ct := fun _ => false) am_oX6_ahead 300 ?_
  conv => whnf
  repeat' first
    | (refine (?_ : am_wp _ _ _ _ _ _ _ _ _ _ _ _); conv => whnf)
    | (refine (?_ : am_sw _ _ _ _); conv => whnf)
    | refine And.intro trivial ?_
    | exact trivial
    | assumption
    | refine k _ _ ?_
    | refine sx_up ?_ rfl
    | refine w_notTwo_X6 (ν := ν) _ _ ?_ ?_ (fun _ _ _ _ => ?_)
    | refine w_refuse_X6 (ν := ν) _ ?_ ?_ ?_ (fun _ _ _ => ?_)
    | refine w_sixteenths_X6 (ν := ν) _ _ ?_  (fun _ _ _ => ?_)
    | refine And.intro (fun h => absurd h (by decide)) (fun _ => ?_)
    | refine And.intro (fun _ => ?_) (fun h => absurd (by decide) h)
    | refine And.intro (fun _ => ?_) (fun _ => ?_)
    | refine And.intro ?_ ?_
  all_goals (first | assumption | decide | omega | (intros; omega) | (intros; simp only [am_c] at * <;> omega) | (simp only [am_c, am_up] at * <;> omega) | (simp [am_c, am_up] at * <;> omega))
theorem w_cup_X6 {l : Launch} {μ : am_N} {Q : Option am_V → am_N → Prop} {ν : am_N} (a b c : Int) (hS : sx ν μ) (ha0 : -2147483648 ≤ a) (ha1 : a ≤ 2147483647) (hb0 : -2147483648 ≤ b) (hb1 : b ≤ 2147483647) (hc0 : -2147483648 ≤ c) (hc1 : c ≤ 2147483647) (k : ∀ r μ', sx ν μ' → Q (some (.inr (.inl r))) μ') : am_Does l 95 [.inr (.inr 0), .inl a, .inl b, .inl c] μ Q := by
  refine am_Does_of (Nat.le_of_ble_eq_true rfl) (Nat.le_of_ble_eq_true rfl) (Nat.le_of_ble_eq_true rfl) ?_
  have hb := sx_all hS
  refine am_go (ct := fun _ => false) am_oX6_cup 300 ?_
  conv => whnf
  repeat' first
    | (refine (?_ : am_wp _ _ _ _ _ _ _ _ _ _ _ _); conv => whnf)
    | (refine (?_ : am_sw _ _ _ _); conv => whnf)
    | refine And.intro trivial ?_
    | exact trivial
    | assumption
    | refine k _ _ ?_
    | refine sx_up ?_ rfl
    | refine w_has_X0_1 (ν := ν) _ ?_ (fun _ _ _ => ?_) (fun _ => ?_)
    | refine w_has_X0_8 (ν := ν) _ ?_ (fun _ _ _ => ?_) (fun _ => ?_)
    | refine w_has_X0_15 (ν := ν) _ ?_ (fun _ _ _ => ?_) (fun _ => ?_)
    | refine w_refuseLong_X6 (ν := ν) _ ?_ ?_ ?_ (fun _ _ _ => ?_)
    | refine w_noPart_X6 _ ?_ (fun _ => ?_)
    | refine w_cupWays_X6 (ν := ν) _ _ ?_  (fun _ _ _ => ?_)
    | refine w_fraction_X6 (ν := ν) _ _ _ ?_  (fun _ => ?_)
    | refine And.intro (fun h => absurd h (by decide)) (fun _ => ?_)
    | refine And.intro (fun _ => ?_) (fun h => absurd (by decide) h)
    | refine And.intro (fun _ => ?_) (fun _ => ?_)
    | refine And.intro ?_ ?_
  all_goals (first | assumption | decide | omega | (intros; omega) | (intros; simp only [am_c] at * <;> omega) | (simp only [am_c, am_up] at * <;> omega) | (simp [am_c, am_up] at * <;> omega))
theorem w_bracket_X6 {l : Launch} {μ : am_N} {Q : Option am_V → am_N → Prop} {ν : am_N} (a : Int) (hS : sx ν μ) (ha0 : -2147483648 ≤ a) (ha1 : a ≤ 2147483647) (k : ∀ r μ', sx ν μ' → Q (some (.inl r)) μ') : am_Does l 96 [.inr (.inr 0), .inl a] μ Q := by
  refine am_Does_of (Nat.le_of_ble_eq_true rfl) (Nat.le_of_ble_eq_true rfl) (Nat.le_of_ble_eq_true rfl) ?_
  have hb := sx_all hS
  have lp42 : ∀ (m : Nat) (u v i : Int) (o5 : Option am_V) (μ : am_N) , sx ν μ → 0 ≤ i → i ≤ 3 → 3 - i < (m : Int) → am_AW l 0 (fun _ => 0) 96 Q 42 [some (.inr (.inr 0)), some (.inl a), some (.inl u), some (.inl v), some (.inl i), o5] [] μ := by
    intro m
    induction m with
    | zero =>
      intro u v i o5 μ hv0 hv1 hv2 hm
      have hb := sx_all hv0
      exfalso
      omega
    | succ m ih =>
      intro u v i o5 μ hv0 hv1 hv2 hm
      have hb := sx_all hv0
      refine am_go (ct := fun pc => Nat.beq pc 42) am_oX6_bracket 300 ?_
      conv => whnf
      repeat' first
        | (refine (?_ : am_wp _ _ _ _ _ _ _ _ _ _ _ _); conv => whnf)
        | (refine (?_ : am_sw _ _ _ _); conv => whnf)
        | refine And.intro trivial ?_
        | exact trivial
        | assumption
        | refine k _ _ ?_
        | refine sx_up ?_ rfl
        | refine w_has_X0_1 (ν := ν) _ ?_ (fun _ _ _ => ?_) (fun _ => ?_)
        | refine w_has_X0_8 (ν := ν) _ ?_ (fun _ _ _ => ?_) (fun _ => ?_)
        | refine w_has_X0_15 (ν := ν) _ ?_ (fun _ _ _ => ?_) (fun _ => ?_)
        | refine w_refuse_X6 (ν := ν) _ ?_ ?_ ?_ (fun _ _ _ => ?_)
        | refine w_cupWays_X6 (ν := ν) _ _ ?_  (fun _ _ _ => ?_)
        | refine ih _ _ _ _ _ ?_ ?_ ?_ ?_
        | refine And.intro (fun h => absurd h (by decide)) (fun _ => ?_)
        | refine And.intro (fun _ => ?_) (fun h => absurd (by decide) h)
        | refine And.intro (fun _ => ?_) (fun _ => ?_)
        | refine And.intro ?_ ?_
      all_goals (first | assumption | decide | omega | (intros; omega) | (intros; simp only [am_c] at * <;> omega) | (simp only [am_c, am_up] at * <;> omega) | (simp [am_c, am_up] at * <;> omega))
  have lp42' : ∀ (u v i : Int) (o5 : Option am_V) (μ : am_N) , sx ν μ → 0 ≤ i → i ≤ 3 → am_AW l 0 (fun _ => 0) 96 Q 42 [some (.inr (.inr 0)), some (.inl a), some (.inl u), some (.inl v), some (.inl i), o5] [] μ := fun u v i o5 μ hv0 hv1 hv2 => lp42 ((3 - i) + 1).toNat u v i o5 μ hv0 hv1 hv2 (by omega)
  refine am_go (ct := fun pc => Nat.beq pc 42) am_oX6_bracket 300 ?_
  conv => whnf
  repeat' first
    | (refine (?_ : am_wp _ _ _ _ _ _ _ _ _ _ _ _); conv => whnf)
    | (refine (?_ : am_sw _ _ _ _); conv => whnf)
    | refine And.intro trivial ?_
    | exact trivial
    | assumption
    | refine k _ _ ?_
    | refine sx_up ?_ rfl
    | refine w_has_X0_1 (ν := ν) _ ?_ (fun _ _ _ => ?_) (fun _ => ?_)
    | refine w_has_X0_8 (ν := ν) _ ?_ (fun _ _ _ => ?_) (fun _ => ?_)
    | refine w_has_X0_15 (ν := ν) _ ?_ (fun _ _ _ => ?_) (fun _ => ?_)
    | refine w_refuse_X6 (ν := ν) _ ?_ ?_ ?_ (fun _ _ _ => ?_)
    | refine w_cupWays_X6 (ν := ν) _ _ ?_  (fun _ _ _ => ?_)
    | refine lp42' _ _ _ _ _ ?_ ?_ ?_
    | refine And.intro (fun h => absurd h (by decide)) (fun _ => ?_)
    | refine And.intro (fun _ => ?_) (fun h => absurd (by decide) h)
    | refine And.intro (fun _ => ?_) (fun _ => ?_)
    | refine And.intro ?_ ?_
  all_goals (first | assumption | decide | omega | (intros; omega) | (intros; simp only [am_c] at * <;> omega) | (simp only [am_c, am_up] at * <;> omega) | (simp [am_c, am_up] at * <;> omega))
theorem w_league_X6 {l : Launch} {μ : am_N} {Q : Option am_V → am_N → Prop} {ν : am_N} (a b : Int) (hS : sx ν μ) (ha0 : -2147483648 ≤ a) (ha1 : a ≤ 2147483647) (hb0 : -2147483648 ≤ b) (hb1 : b ≤ 2147483647) (k : ∀ r μ', sx ν μ' → Q (some (.inr (.inl r))) μ') : am_Does l 97 [.inr (.inr 0), .inl a, .inl b] μ Q := by
  refine am_Does_of (Nat.le_of_ble_eq_true rfl) (Nat.le_of_ble_eq_true rfl) (Nat.le_of_ble_eq_true rfl) ?_
  have hb := sx_all hS
  refine am_go (ct := fun _ => false) am_oX6_league 300 ?_
  conv => whnf
  repeat' first
    | (refine (?_ : am_wp _ _ _ _ _ _ _ _ _ _ _ _); conv => whnf)
    | (refine (?_ : am_sw _ _ _ _); conv => whnf)
    | refine And.intro trivial ?_
    | exact trivial
    | assumption
    | refine k _ _ ?_
    | refine sx_up ?_ rfl
    | refine w_has_X0_1 (ν := ν) _ ?_ (fun _ _ _ => ?_) (fun _ => ?_)
    | refine w_has_X0_8 (ν := ν) _ ?_ (fun _ _ _ => ?_) (fun _ => ?_)
    | refine w_has_X0_15 (ν := ν) _ ?_ (fun _ _ _ => ?_) (fun _ => ?_)
    | refine w_refuseLong_X6 (ν := ν) _ ?_ ?_ ?_ (fun _ _ _ => ?_)
    | refine w_noPart_X6 _ ?_ (fun _ => ?_)
    | refine w_leagueWays_X6 (ν := ν) _ ?_  (fun _ _ _ => ?_)
    | refine w_fraction_X6 (ν := ν) _ _ _ ?_  (fun _ => ?_)
    | refine And.intro (fun h => absurd h (by decide)) (fun _ => ?_)
    | refine And.intro (fun _ => ?_) (fun h => absurd (by decide) h)
    | refine And.intro (fun _ => ?_) (fun _ => ?_)
    | refine And.intro ?_ ?_
  all_goals (first | assumption | decide | omega | (intros; omega) | (intros; simp only [am_c] at * <;> omega) | (simp only [am_c, am_up] at * <;> omega) | (simp [am_c, am_up] at * <;> omega))
theorem w_ranks_X6 {l : Launch} {μ : am_N} {Q : Option am_V → am_N → Prop} {ν : am_N}  (hS : sx ν μ)  (k : ∀ r μ', sx ν μ' → Q (some (.inl r)) μ') : am_Does l 98 [.inr (.inr 0)] μ Q := by
  refine am_Does_of (Nat.le_of_ble_eq_true rfl) (Nat.le_of_ble_eq_true rfl) (Nat.le_of_ble_eq_true rfl) ?_
  have hb := sx_all hS
  have lp2 : ∀ (m : Nat) (i : Int) (μ : am_N) , sx ν μ → 0 ≤ i → i ≤ 4 → 4 - i < (m : Int) → am_AW l 0 (fun _ => 0) 98 Q 2 [some (.inr (.inr 0)), some (.inl i)] [] μ := by
    intro m
    induction m with
    | zero =>
      intro i μ hv0 hv1 hv2 hm
      have hb := sx_all hv0
      exfalso
      omega
    | succ m ih =>
      intro i μ hv0 hv1 hv2 hm
      have hb := sx_all hv0
      refine am_go (ct := fun pc => Nat.beq pc 2) am_oX6_ranks 300 ?_
      conv => whnf
      repeat' first
        | (refine (?_ : am_wp _ _ _ _ _ _ _ _ _ _ _ _); conv => whnf)
        | (refine (?_ : am_sw _ _ _ _); conv => whnf)
        | refine And.intro trivial ?_
        | exact trivial
        | assumption
        | refine k _ _ ?_
        | refine sx_c29 ?_ ?_
        | exact (sx_all (ν := ν) (by assumption)).1
        | refine sx_up ?_ rfl
        | refine w_leagueWays_X6 (ν := ν) _ ?_  (fun _ _ _ => ?_)
        | refine w_line_X2_29 (ν := ν)  ?_  (fun _ _ => ?_)
        | refine w_line_X2_38 (ν := ν)  ?_  (fun _ _ => ?_)
        | refine w_digits_X2_29 (ν := ν)  ?_  (fun _ => ?_)
        | refine ih _ _ ?_ ?_ ?_ ?_
        | refine And.intro (fun h => absurd h (by decide)) (fun _ => ?_)
        | refine And.intro (fun _ => ?_) (fun h => absurd (by decide) h)
        | refine And.intro (fun _ => ?_) (fun _ => ?_)
        | refine And.intro ?_ ?_
      all_goals (first | assumption | decide | omega | (intros; omega) | (intros; simp only [am_c] at * <;> omega) | (simp only [am_c, am_up] at * <;> omega) | (simp [am_c, am_up] at * <;> omega))
  have lp2' : ∀ (i : Int) (μ : am_N) , sx ν μ → 0 ≤ i → i ≤ 4 → am_AW l 0 (fun _ => 0) 98 Q 2 [some (.inr (.inr 0)), some (.inl i)] [] μ := fun i μ hv0 hv1 hv2 => lp2 ((4 - i) + 1).toNat i μ hv0 hv1 hv2 (by omega)
  refine am_go (ct := fun pc => Nat.beq pc 2) am_oX6_ranks 300 ?_
  conv => whnf
  repeat' first
    | (refine (?_ : am_wp _ _ _ _ _ _ _ _ _ _ _ _); conv => whnf)
    | (refine (?_ : am_sw _ _ _ _); conv => whnf)
    | refine And.intro trivial ?_
    | exact trivial
    | assumption
    | refine k _ _ ?_
    | refine sx_c29 ?_ ?_
    | exact (sx_all (ν := ν) (by assumption)).1
    | refine sx_up ?_ rfl
    | refine w_leagueWays_X6 (ν := ν) _ ?_  (fun _ _ _ => ?_)
    | refine w_line_X2_29 (ν := ν)  ?_  (fun _ _ => ?_)
    | refine w_line_X2_38 (ν := ν)  ?_  (fun _ _ => ?_)
    | refine w_digits_X2_29 (ν := ν)  ?_  (fun _ => ?_)
    | refine lp2' _ _ ?_ ?_ ?_
    | refine And.intro (fun h => absurd h (by decide)) (fun _ => ?_)
    | refine And.intro (fun _ => ?_) (fun h => absurd (by decide) h)
    | refine And.intro (fun _ => ?_) (fun _ => ?_)
    | refine And.intro ?_ ?_
  all_goals (first | assumption | decide | omega | (intros; omega) | (intros; simp only [am_c] at * <;> omega) | (simp only [am_c, am_up] at * <;> omega) | (simp [am_c, am_up] at * <;> omega))
theorem w_hold_X6 {l : Launch} {μ : am_N} {Q : Option am_V → am_N → Prop} {ν : am_N} (a b : Int) (hS : sx ν μ) (ha0 : -2147483648 ≤ a) (ha1 : a ≤ 2147483647) (hb0 : -2147483648 ≤ b) (hb1 : b ≤ 2147483647) (k : ∀ r μ', sx ν μ' → Q (some (.inl r)) μ') : am_Does l 99 [.inr (.inr 0), .inl a, .inl b] μ Q := by
  refine am_Does_of (Nat.le_of_ble_eq_true rfl) (Nat.le_of_ble_eq_true rfl) (Nat.le_of_ble_eq_true rfl) ?_
  have hb := sx_all hS
  have lp17 : ∀ (m : Nat) (i : Int) (o4 o5 o6 : Option am_V) (μ : am_N) , sx ν μ → 0 ≤ am_c a → am_c a < 4 → 0 ≤ am_c b → am_c b < 4 → 0 ≤ i → i ≤ 4 → 4 - i < (m : Int) → am_AW l 0 (fun _ => 0) 99 Q 17 [some (.inr (.inr 0)), some (.inl a), some (.inl b), some (.inl i), o4, o5, o6] [] μ := by
    intro m
    induction m with
    | zero =>
      intro i o4 o5 o6 μ hv0 hv1 hv2 hv3 hv4 hv5 hv6 hm
      have hb := sx_all hv0
      exfalso
      omega
    | succ m ih =>
      intro i o4 o5 o6 μ hv0 hv1 hv2 hv3 hv4 hv5 hv6 hm
      have hb := sx_all hv0
      refine am_go (ct := fun pc => Nat.beq pc 17) am_oX6_hold 300 ?_
      conv => whnf
      repeat' first
        | (refine (?_ : am_wp _ _ _ _ _ _ _ _ _ _ _ _); conv => whnf)
        | (refine (?_ : am_sw _ _ _ _); conv => whnf)
        | refine And.intro trivial ?_
        | exact trivial
        | assumption
        | refine k _ _ ?_
        | refine sx_up ?_ rfl
        | refine w_notTwo_X6 (ν := ν) _ _ ?_ ?_ (fun _ _ _ _ => ?_)
        | refine w_refuse_X6 (ν := ν) _ ?_ ?_ ?_ (fun _ _ _ => ?_)
        | refine w_holdWorth_X6 (ν := ν) _ _ _ ?_ ?_ ?_ ?_ ?_ (fun _ _ _ => ?_)
        | refine ih _ _ _ _ _ ?_ ?_ ?_ ?_ ?_ ?_ ?_ ?_
        | refine And.intro (fun h => absurd h (by decide)) (fun _ => ?_)
        | refine And.intro (fun _ => ?_) (fun h => absurd (by decide) h)
        | refine And.intro (fun _ => ?_) (fun _ => ?_)
        | refine And.intro ?_ ?_
      all_goals (first | assumption | decide | omega | (intros; omega) | (intros; simp only [am_c] at * <;> omega) | (simp only [am_c, am_up] at * <;> omega) | (simp [am_c, am_up] at * <;> omega))
  have lp17' : ∀ (i : Int) (o4 o5 o6 : Option am_V) (μ : am_N) , sx ν μ → 0 ≤ am_c a → am_c a < 4 → 0 ≤ am_c b → am_c b < 4 → 0 ≤ i → i ≤ 4 → am_AW l 0 (fun _ => 0) 99 Q 17 [some (.inr (.inr 0)), some (.inl a), some (.inl b), some (.inl i), o4, o5, o6] [] μ := fun i o4 o5 o6 μ hv0 hv1 hv2 hv3 hv4 hv5 hv6 => lp17 ((4 - i) + 1).toNat i o4 o5 o6 μ hv0 hv1 hv2 hv3 hv4 hv5 hv6 (by omega)
  refine am_go (ct := fun pc => Nat.beq pc 17) am_oX6_hold 300 ?_
  conv => whnf
  repeat' first
    | (refine (?_ : am_wp _ _ _ _ _ _ _ _ _ _ _ _); conv => whnf)
    | (refine (?_ : am_sw _ _ _ _); conv => whnf)
    | refine And.intro trivial ?_
    | exact trivial
    | assumption
    | refine k _ _ ?_
    | refine sx_up ?_ rfl
    | refine w_notTwo_X6 (ν := ν) _ _ ?_ ?_ (fun _ _ _ _ => ?_)
    | refine w_refuse_X6 (ν := ν) _ ?_ ?_ ?_ (fun _ _ _ => ?_)
    | refine w_holdWorth_X6 (ν := ν) _ _ _ ?_ ?_ ?_ ?_ ?_ (fun _ _ _ => ?_)
    | refine lp17' _ _ _ _ _ ?_ ?_ ?_ ?_ ?_ ?_ ?_
    | refine And.intro (fun h => absurd h (by decide)) (fun _ => ?_)
    | refine And.intro (fun _ => ?_) (fun h => absurd (by decide) h)
    | refine And.intro (fun _ => ?_) (fun _ => ?_)
    | refine And.intro ?_ ?_
  all_goals (first | assumption | decide | omega | (intros; omega) | (intros; simp only [am_c] at * <;> omega) | (simp only [am_c, am_up] at * <;> omega) | (simp [am_c, am_up] at * <;> omega))
theorem w_legs_X6 {l : Launch} {μ : am_N} {Q : Option am_V → am_N → Prop} {ν : am_N} (a b c d : Int) (hS : sx ν μ) (ha0 : -2147483648 ≤ a) (ha1 : a ≤ 2147483647) (hb0 : -2147483648 ≤ b) (hb1 : b ≤ 2147483647) (hc0 : -2147483648 ≤ c) (hc1 : c ≤ 2147483647) (hd0 : -2147483648 ≤ d) (hd1 : d ≤ 2147483647) (k : ∀ r μ', sx ν μ' → Q (some (.inl r)) μ') : am_Does l 100 [.inr (.inr 0), .inl a, .inl b, .inl c, .inl d] μ Q := by
  refine am_Does_of (Nat.le_of_ble_eq_true rfl) (Nat.le_of_ble_eq_true rfl) (Nat.le_of_ble_eq_true rfl) ?_
  have hb := sx_all hS
  refine am_go (ct := fun _ => false) am_oX6_legs 300 ?_
  conv => whnf
  repeat' first
    | (refine (?_ : am_wp _ _ _ _ _ _ _ _ _ _ _ _); conv => whnf)
    | (refine (?_ : am_sw _ _ _ _); conv => whnf)
    | refine And.intro trivial ?_
    | exact trivial
    | assumption
    | refine k _ _ ?_
    | refine sx_up ?_ rfl
    | refine w_notTwo_X6 (ν := ν) _ _ ?_ ?_ (fun _ _ _ _ => ?_)
    | refine w_refuse_X6 (ν := ν) _ ?_ ?_ ?_ (fun _ _ _ => ?_)
    | refine w_noPart_X6 _ ?_ (fun _ => ?_)
    | refine w_relay_X6 (ν := ν) _ _ _ ?_  (fun _ => ?_)
    | refine And.intro (fun h => absurd h (by decide)) (fun _ => ?_)
    | refine And.intro (fun _ => ?_) (fun h => absurd (by decide) h)
    | refine And.intro (fun _ => ?_) (fun _ => ?_)
    | refine And.intro ?_ ?_
  all_goals (first | assumption | decide | omega | (intros; omega) | (intros; simp only [am_c] at * <;> omega) | (simp only [am_c, am_up] at * <;> omega) | (simp [am_c, am_up] at * <;> omega))
theorem w_bet_X6 {l : Launch} {μ : am_N} {Q : Option am_V → am_N → Prop} {ν : am_N}  (hS : sx ν μ)  (k : ∀ r μ', sx ν μ' → Q (some (.inl r)) μ') : am_Does l 101 [.inr (.inr 0)] μ Q := by
  refine am_Does_of (Nat.le_of_ble_eq_true rfl) (Nat.le_of_ble_eq_true rfl) (Nat.le_of_ble_eq_true rfl) ?_
  have hb := sx_all hS
  refine am_go (ct := fun _ => false) am_oX6_bet 300 ?_
  conv => whnf
  repeat' first
    | (refine (?_ : am_wp _ _ _ _ _ _ _ _ _ _ _ _); conv => whnf)
    | (refine (?_ : am_sw _ _ _ _); conv => whnf)
    | refine And.intro trivial ?_
    | exact trivial
    | assumption
    | refine k _ _ ?_
    | refine sx_up ?_ rfl
    | refine w_betsTold_X6 (ν := ν)  ?_  (fun _ => ?_)
    | refine w_refuse_X6 (ν := ν) _ ?_ ?_ ?_ (fun _ _ _ => ?_)
    | refine w_bestBet_X6 (ν := ν)  ?_  (fun _ _ _ => ?_)
    | refine And.intro (fun h => absurd h (by decide)) (fun _ => ?_)
    | refine And.intro (fun _ => ?_) (fun h => absurd (by decide) h)
    | refine And.intro (fun _ => ?_) (fun _ => ?_)
    | refine And.intro ?_ ?_
  all_goals (first | assumption | decide | omega | (intros; omega) | (intros; simp only [am_c] at * <;> omega) | (simp only [am_c, am_up] at * <;> omega) | (simp [am_c, am_up] at * <;> omega))
theorem w_bets_X6 {l : Launch} {μ : am_N} {Q : Option am_V → am_N → Prop} {ν : am_N} (a : Int) (hS : sx ν μ) (ha0 : -2147483648 ≤ a) (ha1 : a ≤ 2147483647) (k : ∀ r μ', sx ν μ' → Q (some (.inr (.inl r))) μ') : am_Does l 102 [.inr (.inr 0), .inl a] μ Q := by
  refine am_Does_of (Nat.le_of_ble_eq_true rfl) (Nat.le_of_ble_eq_true rfl) (Nat.le_of_ble_eq_true rfl) ?_
  have hb := sx_all hS
  refine am_go (ct := fun _ => false) am_oX6_bets 300 ?_
  conv => whnf
  repeat' first
    | (refine (?_ : am_wp _ _ _ _ _ _ _ _ _ _ _ _); conv => whnf)
    | (refine (?_ : am_sw _ _ _ _); conv => whnf)
    | refine And.intro trivial ?_
    | exact trivial
    | assumption
    | refine k _ _ ?_
    | refine sx_up ?_ rfl
    | refine w_betsTold_X6 (ν := ν)  ?_  (fun _ => ?_)
    | refine w_refuseLong_X6 (ν := ν) _ ?_ ?_ ?_ (fun _ _ _ => ?_)
    | refine w_noPart_X6 _ ?_ (fun _ => ?_)
    | refine w_bestBet_X6 (ν := ν)  ?_  (fun _ _ _ => ?_)
    | refine w_betWays_X6 (ν := ν) _ ?_  (fun _ => ?_)
    | refine w_allWays_X2_29 (ν := ν)  ?_  (fun _ => ?_)
    | refine w_fraction_X6 (ν := ν) _ _ _ ?_  (fun _ => ?_)
    | refine And.intro (fun h => absurd h (by decide)) (fun _ => ?_)
    | refine And.intro (fun _ => ?_) (fun h => absurd (by decide) h)
    | refine And.intro (fun _ => ?_) (fun _ => ?_)
    | refine And.intro ?_ ?_
  all_goals (first | assumption | decide | omega | (intros; omega) | (intros; simp only [am_c] at * <;> omega) | (simp only [am_c, am_up] at * <;> omega) | (simp [am_c, am_up] at * <;> omega))
theorem w_tried_X6 {l : Launch} {μ : am_N} {Q : Option am_V → am_N → Prop} {ν : am_N} (a b : Int) (hS : sx ν μ) (ha0 : -2147483648 ≤ a) (ha1 : a ≤ 2147483647) (hb0 : -2147483648 ≤ b) (hb1 : b ≤ 2147483647) (k : ∀ r μ', sx ν μ' → Q (some (.inl r)) μ') : am_Does l 105 [.inr (.inr 0), .inl a, .inl b] μ Q := by
  refine am_Does_of (Nat.le_of_ble_eq_true rfl) (Nat.le_of_ble_eq_true rfl) (Nat.le_of_ble_eq_true rfl) ?_
  have hb := sx_all hS
  refine am_go (ct := fun _ => false) am_oX6_tried 300 ?_
  conv => whnf
  repeat' first
    | (refine (?_ : am_wp _ _ _ _ _ _ _ _ _ _ _ _); conv => whnf)
    | (refine (?_ : am_sw _ _ _ _); conv => whnf)
    | refine And.intro trivial ?_
    | exact trivial
    | assumption
    | refine k _ _ ?_
    | refine sx_up ?_ rfl
    | refine w_refuse_X6 (ν := ν) _ ?_ ?_ ?_ (fun _ _ _ => ?_)
    | refine w_noPart_X6 _ ?_ (fun _ => ?_)
    | refine w_take_X0_8_1 (ν := ν)  ?_  (fun _ _ => ?_)
    | refine w_take_X0_15_8 (ν := ν)  ?_  (fun _ _ => ?_)
    | refine w_gaps_X6 (ν := ν) _ _ ?_ ?_ ?_ (fun _ _ _ => ?_)
    | refine And.intro (fun h => absurd h (by decide)) (fun _ => ?_)
    | refine And.intro (fun _ => ?_) (fun h => absurd (by decide) h)
    | refine And.intro (fun _ => ?_) (fun _ => ?_)
    | refine And.intro ?_ ?_
  all_goals (first | assumption | decide | omega | (intros; omega) | (intros; simp only [am_c] at * <;> omega) | (simp only [am_c, am_up] at * <;> omega) | (simp [am_c, am_up] at * <;> omega))
theorem w_had_X6 {l : Launch} {μ : am_N} {Q : Option am_V → am_N → Prop} {ν : am_N} (a b c d : Int) (hS : sx ν μ) (ha0 : -2147483648 ≤ a) (ha1 : a ≤ 2147483647) (hb0 : -2147483648 ≤ b) (hb1 : b ≤ 2147483647) (hc0 : -2147483648 ≤ c) (hc1 : c ≤ 2147483647) (hd0 : -2147483648 ≤ d) (hd1 : d ≤ 2147483647) (k : ∀ r μ', sx ν μ' → Q (some (.inl r)) μ') : am_Does l 106 [.inr (.inr 0), .inl a, .inl b, .inl c, .inl d] μ Q := by
  refine am_Does_of (Nat.le_of_ble_eq_true rfl) (Nat.le_of_ble_eq_true rfl) (Nat.le_of_ble_eq_true rfl) ?_
  have hb := sx_all hS
  have lp76 : ∀ (m : Nat) (u v i : Int) (μ : am_N) , sx ν μ → 0 ≤ am_c a → am_c a < 4 → 0 ≤ b → b ≤ 60 → -1 ≤ i → i ≤ 99 → i + 1 < (m : Int) → am_AW l 0 (fun _ => 0) 106 Q 76 [some (.inr (.inr 0)), some (.inl a), some (.inl b), some (.inl c), some (.inl d), some (.inl u), some (.inl v), some (.inl i)] [] μ := by
    intro m
    induction m with
    | zero =>
      intro u v i μ hv0 hv1 hv2 hv3 hv4 hv5 hv6 hm
      have hb := sx_all hv0
      exfalso
      omega
    | succ m ih =>
      intro u v i μ hv0 hv1 hv2 hv3 hv4 hv5 hv6 hm
      have hb := sx_all hv0
      refine am_go (ct := fun pc => Nat.beq pc 76) am_oX6_had 300 ?_
      conv => whnf
      repeat' first
        | (refine (?_ : am_wp _ _ _ _ _ _ _ _ _ _ _ _); conv => whnf)
        | (refine (?_ : am_sw _ _ _ _); conv => whnf)
        | refine And.intro trivial ?_
        | exact trivial
        | assumption
        | refine k _ _ ?_
        | refine sx_up ?_ rfl
        | refine w_has_X0_1 (ν := ν) _ ?_ (fun _ _ _ => ?_) (fun _ => ?_)
        | refine w_has_X0_8 (ν := ν) _ ?_ (fun _ _ _ => ?_) (fun _ => ?_)
        | refine w_has_X0_15 (ν := ν) _ ?_ (fun _ _ _ => ?_) (fun _ => ?_)
        | refine w_refuse_X6 (ν := ν) _ ?_ ?_ ?_ (fun _ _ _ => ?_)
        | refine w_noPart_X6 _ ?_ (fun _ => ?_)
        | refine w_take_X0_8_1 (ν := ν)  ?_  (fun _ _ => ?_)
        | refine w_take_X0_15_8 (ν := ν)  ?_  (fun _ _ => ?_)
        | refine w_winsIn_X6 (ν := ν) _ _ ?_ ?_ ?_ (fun _ _ _ => ?_)
        | refine ih _ _ _ _ ?_ ?_ ?_ ?_ ?_ ?_ ?_ ?_
        | refine And.intro (fun h => absurd h (by decide)) (fun _ => ?_)
        | refine And.intro (fun _ => ?_) (fun h => absurd (by decide) h)
        | refine And.intro (fun _ => ?_) (fun _ => ?_)
        | refine And.intro ?_ ?_
      all_goals (first | assumption | decide | omega | (intros; omega) | (intros; simp only [am_c] at * <;> omega) | (simp only [am_c, am_up] at * <;> omega) | (simp [am_c, am_up] at * <;> omega))
  have lp76' : ∀ (u v i : Int) (μ : am_N) , sx ν μ → 0 ≤ am_c a → am_c a < 4 → 0 ≤ b → b ≤ 60 → -1 ≤ i → i ≤ 99 → am_AW l 0 (fun _ => 0) 106 Q 76 [some (.inr (.inr 0)), some (.inl a), some (.inl b), some (.inl c), some (.inl d), some (.inl u), some (.inl v), some (.inl i)] [] μ := fun u v i μ hv0 hv1 hv2 hv3 hv4 hv5 hv6 => lp76 ((i + 1) + 1).toNat u v i μ hv0 hv1 hv2 hv3 hv4 hv5 hv6 (by omega)
  refine am_go (ct := fun pc => Nat.beq pc 76) am_oX6_had 300 ?_
  conv => whnf
  repeat' first
    | (refine (?_ : am_wp _ _ _ _ _ _ _ _ _ _ _ _); conv => whnf)
    | (refine (?_ : am_sw _ _ _ _); conv => whnf)
    | refine And.intro trivial ?_
    | exact trivial
    | assumption
    | refine k _ _ ?_
    | refine sx_up ?_ rfl
    | refine w_has_X0_1 (ν := ν) _ ?_ (fun _ _ _ => ?_) (fun _ => ?_)
    | refine w_has_X0_8 (ν := ν) _ ?_ (fun _ _ _ => ?_) (fun _ => ?_)
    | refine w_has_X0_15 (ν := ν) _ ?_ (fun _ _ _ => ?_) (fun _ => ?_)
    | refine w_refuse_X6 (ν := ν) _ ?_ ?_ ?_ (fun _ _ _ => ?_)
    | refine w_noPart_X6 _ ?_ (fun _ => ?_)
    | refine w_take_X0_8_1 (ν := ν)  ?_  (fun _ _ => ?_)
    | refine w_take_X0_15_8 (ν := ν)  ?_  (fun _ _ => ?_)
    | refine w_winsIn_X6 (ν := ν) _ _ ?_ ?_ ?_ (fun _ _ _ => ?_)
    | refine lp76' _ _ _ _ ?_ ?_ ?_ ?_ ?_ ?_ ?_
    | refine And.intro (fun h => absurd h (by decide)) (fun _ => ?_)
    | refine And.intro (fun _ => ?_) (fun h => absurd (by decide) h)
    | refine And.intro (fun _ => ?_) (fun _ => ?_)
    | refine And.intro ?_ ?_
  all_goals (first | assumption | decide | omega | (intros; omega) | (intros; simp only [am_c] at * <;> omega) | (simp only [am_c, am_up] at * <;> omega) | (simp [am_c, am_up] at * <;> omega))
theorem w_past_X6 {l : Launch} {μ : am_N} {Q : Option am_V → am_N → Prop} {ν : am_N} (a b : Int) (hS : sx ν μ) (ha0 : -2147483648 ≤ a) (ha1 : a ≤ 2147483647) (hb0 : -2147483648 ≤ b) (hb1 : b ≤ 2147483647) (k : ∀ r μ', sx ν μ' → Q (some (.inl r)) μ') : am_Does l 108 [.inr (.inr 0), .inl a, .inl b] μ Q := by
  refine am_Does_of (Nat.le_of_ble_eq_true rfl) (Nat.le_of_ble_eq_true rfl) (Nat.le_of_ble_eq_true rfl) ?_
  have hb := sx_all hS
  have lp52 : ∀ (m : Nat) (u v i : Int) (μ : am_N) , sx ν μ → 0 ≤ am_c a → am_c a < 4 → -1 ≤ i → i ≤ 59 → i + 1 < (m : Int) → am_AW l 0 (fun _ => 0) 108 Q 52 [some (.inr (.inr 0)), some (.inl a), some (.inl b), some (.inl u), some (.inl v), some (.inl i)] [] μ := by
    intro m
    induction m with
    | zero =>
      intro u v i μ hv0 hv1 hv2 hv3 hv4 hm
      have hb := sx_all hv0
      exfalso
      omega
    | succ m ih =>
      intro u v i μ hv0 hv1 hv2 hv3 hv4 hm
      have hb := sx_all hv0
      refine am_go (ct := fun pc => Nat.beq pc 52) am_oX6_past 300 ?_
      conv => whnf
      repeat' first
        | (refine (?_ : am_wp _ _ _ _ _ _ _ _ _ _ _ _); conv => whnf)
        | (refine (?_ : am_sw _ _ _ _); conv => whnf)
        | refine And.intro trivial ?_
        | exact trivial
        | assumption
        | refine k _ _ ?_
        | refine sx_up ?_ rfl
        | refine w_has_X0_1 (ν := ν) _ ?_ (fun _ _ _ => ?_) (fun _ => ?_)
        | refine w_has_X0_8 (ν := ν) _ ?_ (fun _ _ _ => ?_) (fun _ => ?_)
        | refine w_has_X0_15 (ν := ν) _ ?_ (fun _ _ _ => ?_) (fun _ => ?_)
        | refine w_refuse_X6 (ν := ν) _ ?_ ?_ ?_ (fun _ _ _ => ?_)
        | refine w_noPart_X6 _ ?_ (fun _ => ?_)
        | refine w_take_X0_8_1 (ν := ν)  ?_  (fun _ _ => ?_)
        | refine w_take_X0_15_8 (ν := ν)  ?_  (fun _ _ => ?_)
        | refine w_tookThese_X6 (ν := ν) _ ?_  (fun _ _ _ => ?_)
        | refine ih _ _ _ _ ?_ ?_ ?_ ?_ ?_ ?_
        | refine And.intro (fun h => absurd h (by decide)) (fun _ => ?_)
        | refine And.intro (fun _ => ?_) (fun h => absurd (by decide) h)
        | refine And.intro (fun _ => ?_) (fun _ => ?_)
        | refine And.intro ?_ ?_
      all_goals (first | assumption | decide | omega | (intros; omega) | (intros; simp only [am_c] at * <;> omega) | (simp only [am_c, am_up] at * <;> omega) | (simp [am_c, am_up] at * <;> omega))
  have lp52' : ∀ (u v i : Int) (μ : am_N) , sx ν μ → 0 ≤ am_c a → am_c a < 4 → -1 ≤ i → i ≤ 59 → am_AW l 0 (fun _ => 0) 108 Q 52 [some (.inr (.inr 0)), some (.inl a), some (.inl b), some (.inl u), some (.inl v), some (.inl i)] [] μ := fun u v i μ hv0 hv1 hv2 hv3 hv4 => lp52 ((i + 1) + 1).toNat u v i μ hv0 hv1 hv2 hv3 hv4 (by omega)
  refine am_go (ct := fun pc => Nat.beq pc 52) am_oX6_past 300 ?_
  conv => whnf
  repeat' first
    | (refine (?_ : am_wp _ _ _ _ _ _ _ _ _ _ _ _); conv => whnf)
    | (refine (?_ : am_sw _ _ _ _); conv => whnf)
    | refine And.intro trivial ?_
    | exact trivial
    | assumption
    | refine k _ _ ?_
    | refine sx_up ?_ rfl
    | refine w_has_X0_1 (ν := ν) _ ?_ (fun _ _ _ => ?_) (fun _ => ?_)
    | refine w_has_X0_8 (ν := ν) _ ?_ (fun _ _ _ => ?_) (fun _ => ?_)
    | refine w_has_X0_15 (ν := ν) _ ?_ (fun _ _ _ => ?_) (fun _ => ?_)
    | refine w_refuse_X6 (ν := ν) _ ?_ ?_ ?_ (fun _ _ _ => ?_)
    | refine w_noPart_X6 _ ?_ (fun _ => ?_)
    | refine w_take_X0_8_1 (ν := ν)  ?_  (fun _ _ => ?_)
    | refine w_take_X0_15_8 (ν := ν)  ?_  (fun _ _ => ?_)
    | refine w_tookThese_X6 (ν := ν) _ ?_  (fun _ _ _ => ?_)
    | refine lp52' _ _ _ _ ?_ ?_ ?_ ?_ ?_
    | refine And.intro (fun h => absurd h (by decide)) (fun _ => ?_)
    | refine And.intro (fun _ => ?_) (fun h => absurd (by decide) h)
    | refine And.intro (fun _ => ?_) (fun _ => ?_)
    | refine And.intro ?_ ?_
  all_goals (first | assumption | decide | omega | (intros; omega) | (intros; simp only [am_c] at * <;> omega) | (simp only [am_c, am_up] at * <;> omega) | (simp [am_c, am_up] at * <;> omega))
theorem w_count_X6 {l : Launch} {μ : am_N} {Q : Option am_V → am_N → Prop} {ν : am_N} (a : Int) (hS : sx ν μ) (ha0 : -2147483648 ≤ a) (ha1 : a ≤ 2147483647) (k : ∀ r μ', sx ν μ' → Q (some (.inl r)) μ') : am_Does l 112 [.inr (.inr 0), .inl a] μ Q := by
  refine am_Does_of (Nat.le_of_ble_eq_true rfl) (Nat.le_of_ble_eq_true rfl) (Nat.le_of_ble_eq_true rfl) ?_
  have hb := sx_all hS
  refine am_go (ct := fun _ => false) am_oX6_count 300 ?_
  conv => whnf
  repeat' first
    | (refine (?_ : am_wp _ _ _ _ _ _ _ _ _ _ _ _); conv => whnf)
    | (refine (?_ : am_sw _ _ _ _); conv => whnf)
    | refine And.intro trivial ?_
    | exact trivial
    | assumption
    | refine k _ _ ?_
    | refine sx_up ?_ rfl
    | refine w_sum_X0_6 (ν := ν)  ?_  (fun _ => ?_)
    | refine w_sum_X0_7 (ν := ν)  ?_  (fun _ => ?_)
    | refine And.intro (fun h => absurd h (by decide)) (fun _ => ?_)
    | refine And.intro (fun _ => ?_) (fun h => absurd (by decide) h)
    | refine And.intro (fun _ => ?_) (fun _ => ?_)
    | refine And.intro ?_ ?_
  all_goals (first | assumption | decide | omega | (intros; omega) | (intros; simp only [am_c] at * <;> omega) | (simp only [am_c, am_up] at * <;> omega) | (simp [am_c, am_up] at * <;> omega))
