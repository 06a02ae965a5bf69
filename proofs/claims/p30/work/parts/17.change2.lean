theorem v_takeSettings_X0_1_8 {l : Launch} {μ : am_N} {Q : Option am_V → am_N → Prop} {ν : am_N}  (hS : gv [1, 2, 3, 4, 5, 6, 7] ν μ)  (k : ∀ μ', gv [1, 2, 3, 4, 5, 6, 7] ν μ' → Q none μ') : am_Does l 4 [.inr (.inr 1), .inr (.inr 8)] μ Q := by
  refine am_Does_of (Nat.le_of_ble_eq_true rfl) (Nat.le_of_ble_eq_true rfl) (Nat.le_of_ble_eq_true rfl) ?_
  have hb := sx_all hS.1
  refine am_go (ct := fun _ => false) am_oX0_takeSettings 300 ?_
  conv => whnf
  repeat' first
    | (refine (?_ : am_wp _ _ _ _ _ _ _ _ _ _ _ _); conv => whnf)
    | (refine (?_ : am_sw _ _ _ _); conv => whnf)
    | refine And.intro trivial ?_
    | exact trivial
    | assumption
    | refine k _ ?_
    | refine gv_up ?_ rfl rfl
    | refine gv_b1 ?_ rfl ?_
    | refine gv_b22 ?_ rfl ?_
    | refine gv_b36 ?_ rfl ?_
    | refine gv_b44 ?_ rfl ?_
    | refine gv_b46 ?_ rfl ?_
    | refine gv_b48 ?_ rfl ?_
    | refine gv_b50 ?_ rfl ?_
    | refine gv_b53 ?_ rfl ?_
    | refine gv_b55 ?_ rfl ?_
    | refine gv_b58 ?_ rfl ?_
    | refine gv_b60 ?_ rfl ?_
    | refine gv_b62 ?_ rfl ?_
    | refine gv_sx ?_ (by assumption)
    | exact sx_rb (by assumption)
    | exact hS.1
    | exact hv0.1
    | refine And.intro (fun h => absurd h (by decide)) (fun _ => ?_)
    | refine And.intro (fun _ => ?_) (fun h => absurd (by decide) h)
    | refine And.intro (fun _ => ?_) (fun _ => ?_)
    | refine And.intro ?_ ?_
  all_goals (first | assumption | decide | omega | (intros; omega) | (intros; simp only [am_c] at * <;> omega) | (simp only [am_c, am_up] at * <;> omega) | (simp [am_c, am_up] at * <;> omega))
theorem v_takeRunner_X0_1_8 {l : Launch} {μ : am_N} {Q : Option am_V → am_N → Prop} {ν : am_N} (i j : Int) (hS : gv [1, 2, 3, 4, 5, 6, 7] ν μ)  (k : ∀ μ', gv [1, 2, 3, 4, 5, 6, 7] ν μ' → Q none μ') : am_Does l 5 [.inr (.inr 1), .inl i, .inr (.inr 8), .inl j] μ Q := by
  refine am_Does_of (Nat.le_of_ble_eq_true rfl) (Nat.le_of_ble_eq_true rfl) (Nat.le_of_ble_eq_true rfl) ?_
  have hb := sx_all hS.1
  refine am_go (ct := fun _ => false) am_oX0_takeRunner 300 ?_
  conv => whnf
  repeat' first
    | (refine (?_ : am_wp _ _ _ _ _ _ _ _ _ _ _ _); conv => whnf)
    | (refine (?_ : am_sw _ _ _ _); conv => whnf)
    | refine And.intro trivial ?_
    | exact trivial
    | assumption
    | refine k _ ?_
    | refine gv_up ?_ rfl rfl
    | refine gv_b1 ?_ rfl ?_
    | refine gv_b22 ?_ rfl ?_
    | refine gv_b36 ?_ rfl ?_
    | refine gv_b44 ?_ rfl ?_
    | refine gv_b46 ?_ rfl ?_
    | refine gv_b48 ?_ rfl ?_
    | refine gv_b50 ?_ rfl ?_
    | refine gv_b53 ?_ rfl ?_
    | refine gv_b55 ?_ rfl ?_
    | refine gv_b58 ?_ rfl ?_
    | refine gv_b60 ?_ rfl ?_
    | refine gv_b62 ?_ rfl ?_
    | refine gv_sx ?_ (by assumption)
    | exact sx_rb (by assumption)
    | exact hS.1
    | exact hv0.1
    | refine And.intro (fun h => absurd h (by decide)) (fun _ => ?_)
    | refine And.intro (fun _ => ?_) (fun h => absurd (by decide) h)
    | refine And.intro (fun _ => ?_) (fun _ => ?_)
    | refine And.intro ?_ ?_
  all_goals (first | assumption | decide | omega | (intros; omega) | (intros; simp only [am_c] at * <;> omega) | (simp only [am_c, am_up] at * <;> omega) | (simp [am_c, am_up] at * <;> omega))
theorem v_take_X0_1_8 {l : Launch} {μ : am_N} {Q : Option am_V → am_N → Prop} {ν : am_N}  (hS : gv [1, 2, 3, 4, 5, 6, 7] ν μ)  (k : ∀ μ', gv [1, 2, 3, 4, 5, 6, 7] ν μ' → Q none μ') : am_Does l 2 [.inr (.inr 1), .inr (.inr 8)] μ Q := by
  refine am_Does_of (Nat.le_of_ble_eq_true rfl) (Nat.le_of_ble_eq_true rfl) (Nat.le_of_ble_eq_true rfl) ?_
  have hb := sx_all hS.1
  have lp15 : ∀ (m : Nat) (i : Int) (μ : am_N) , gv [1, 2, 3, 4, 5, 6, 7] ν μ → 0 ≤ i → i ≤ 4 → 4 - i < (m : Int) → am_AW l 0 (fun _ => 0) 2 Q 15 [some (.inr (.inr 1)), some (.inr (.inr 8)), some (.inl i)] [] μ := by
    intro m
    induction m with
    | zero =>
      intro i μ hv0 hv1 hv2 hm
      have hb := sx_all hv0.1
      exfalso
      omega
    | succ m ih =>
      intro i μ hv0 hv1 hv2 hm
      have hb := sx_all hv0.1
      refine am_go (ct := fun pc => Nat.beq pc 15) am_oX0_take 300 ?_
      conv => whnf
      repeat' first
        | (refine (?_ : am_wp _ _ _ _ _ _ _ _ _ _ _ _); conv => whnf)
        | (refine (?_ : am_sw _ _ _ _); conv => whnf)
        | refine And.intro trivial ?_
        | exact trivial
        | assumption
        | refine k _ ?_
        | refine v_takeSettings_X0_1_8 (ν := ν)  ?_  (fun _ _ => ?_)
        | refine v_takeRunner_X0_1_8 (ν := ν) _ _ ?_  (fun _ _ => ?_)
        | exact (sx_all (gv_i (E := [1, 2, 3, 4, 5, 6, 7]) (ν := ν) (by assumption))).2.1
        | refine w_takeSettings_X0_8_1  (gv_i (E := [1, 2, 3, 4, 5, 6, 7]) (ν := ν) (by repeat' first | assumption | refine gv_up ?_ rfl rfl | refine gv_sx ?_ (by assumption)))  (fun _ _ => ?_)
        | refine w_takeSettings_X0_15_8  (gv_i (E := [1, 2, 3, 4, 5, 6, 7]) (ν := ν) (by repeat' first | assumption | refine gv_up ?_ rfl rfl | refine gv_sx ?_ (by assumption)))  (fun _ _ => ?_)
        | refine w_takeSettings_X0_15_1  (gv_i (E := [1, 2, 3, 4, 5, 6, 7]) (ν := ν) (by repeat' first | assumption | refine gv_up ?_ rfl rfl | refine gv_sx ?_ (by assumption)))  (fun _ _ => ?_)
        | refine w_takeRunner_X0_8_1 _ _ (gv_i (E := [1, 2, 3, 4, 5, 6, 7]) (ν := ν) (by repeat' first | assumption | refine gv_up ?_ rfl rfl | refine gv_sx ?_ (by assumption)))  (fun _ _ => ?_)
        | refine w_takeRunner_X0_15_8 _ _ (gv_i (E := [1, 2, 3, 4, 5, 6, 7]) (ν := ν) (by repeat' first | assumption | refine gv_up ?_ rfl rfl | refine gv_sx ?_ (by assumption)))  (fun _ _ => ?_)
        | refine w_takeRunner_X0_15_1 _ _ (gv_i (E := [1, 2, 3, 4, 5, 6, 7]) (ν := ν) (by repeat' first | assumption | refine gv_up ?_ rfl rfl | refine gv_sx ?_ (by assumption)))  (fun _ _ => ?_)
        | refine gv_up ?_ rfl rfl
        | refine gv_b1 ?_ rfl ?_
        | refine gv_b22 ?_ rfl ?_
        | refine gv_b36 ?_ rfl ?_
        | refine gv_b44 ?_ rfl ?_
        | refine gv_b46 ?_ rfl ?_
        | refine gv_b48 ?_ rfl ?_
        | refine gv_b50 ?_ rfl ?_
        | refine gv_b53 ?_ rfl ?_
        | refine gv_b55 ?_ rfl ?_
        | refine gv_b58 ?_ rfl ?_
        | refine gv_b60 ?_ rfl ?_
        | refine gv_b62 ?_ rfl ?_
        | refine gv_sx ?_ (by assumption)
        | exact sx_rb (by assumption)
        | exact hS.1
        | exact hv0.1
        | refine ih _ _ ?_ ?_ ?_ ?_
        | refine And.intro (fun h => absurd h (by decide)) (fun _ => ?_)
        | refine And.intro (fun _ => ?_) (fun h => absurd (by decide) h)
        | refine And.intro (fun _ => ?_) (fun _ => ?_)
        | refine And.intro ?_ ?_
      all_goals (first | assumption | decide | omega | (intros; omega) | (intros; simp only [am_c] at * <;> omega) | (simp only [am_c, am_up] at * <;> omega) | (simp [am_c, am_up] at * <;> omega))
  have lp15' : ∀ (i : Int) (μ : am_N) , gv [1, 2, 3, 4, 5, 6, 7] ν μ → 0 ≤ i → i ≤ 4 → am_AW l 0 (fun _ => 0) 2 Q 15 [some (.inr (.inr 1)), some (.inr (.inr 8)), some (.inl i)] [] μ := fun i μ hv0 hv1 hv2 => lp15 ((4 - i) + 1).toNat i μ hv0 hv1 hv2 (by omega)
  refine am_go (ct := fun pc => Nat.beq pc 15) am_oX0_take 300 ?_
  conv => whnf
  repeat' first
    | (refine (?_ : am_wp _ _ _ _ _ _ _ _ _ _ _ _); conv => whnf)
    | (refine (?_ : am_sw _ _ _ _); conv => whnf)
    | refine And.intro trivial ?_
    | exact trivial
    | assumption
    | refine k _ ?_
    | refine v_takeSettings_X0_1_8 (ν := ν)  ?_  (fun _ _ => ?_)
    | refine v_takeRunner_X0_1_8 (ν := ν) _ _ ?_  (fun _ _ => ?_)
    | exact (sx_all (gv_i (E := [1, 2, 3, 4, 5, 6, 7]) (ν := ν) (by assumption))).2.1
    | refine w_takeSettings_X0_8_1  (gv_i (E := [1, 2, 3, 4, 5, 6, 7]) (ν := ν) (by repeat' first | assumption | refine gv_up ?_ rfl rfl | refine gv_sx ?_ (by assumption)))  (fun _ _ => ?_)
    | refine w_takeSettings_X0_15_8  (gv_i (E := [1, 2, 3, 4, 5, 6, 7]) (ν := ν) (by repeat' first | assumption | refine gv_up ?_ rfl rfl | refine gv_sx ?_ (by assumption)))  (fun _ _ => ?_)
    | refine w_takeSettings_X0_15_1  (gv_i (E := [1, 2, 3, 4, 5, 6, 7]) (ν := ν) (by repeat' first | assumption | refine gv_up ?_ rfl rfl | refine gv_sx ?_ (by assumption)))  (fun _ _ => ?_)
    | refine w_takeRunner_X0_8_1 _ _ (gv_i (E := [1, 2, 3, 4, 5, 6, 7]) (ν := ν) (by repeat' first | assumption | refine gv_up ?_ rfl rfl | refine gv_sx ?_ (by assumption)))  (fun _ _ => ?_)
    | refine w_takeRunner_X0_15_8 _ _ (gv_i (E := [1, 2, 3, 4, 5, 6, 7]) (ν := ν) (by repeat' first | assumption | refine gv_up ?_ rfl rfl | refine gv_sx ?_ (by assumption)))  (fun _ _ => ?_)
    | refine w_takeRunner_X0_15_1 _ _ (gv_i (E := [1, 2, 3, 4, 5, 6, 7]) (ν := ν) (by repeat' first | assumption | refine gv_up ?_ rfl rfl | refine gv_sx ?_ (by assumption)))  (fun _ _ => ?_)
    | refine gv_up ?_ rfl rfl
    | refine gv_b1 ?_ rfl ?_
    | refine gv_b22 ?_ rfl ?_
    | refine gv_b36 ?_ rfl ?_
    | refine gv_b44 ?_ rfl ?_
    | refine gv_b46 ?_ rfl ?_
    | refine gv_b48 ?_ rfl ?_
    | refine gv_b50 ?_ rfl ?_
    | refine gv_b53 ?_ rfl ?_
    | refine gv_b55 ?_ rfl ?_
    | refine gv_b58 ?_ rfl ?_
    | refine gv_b60 ?_ rfl ?_
    | refine gv_b62 ?_ rfl ?_
    | refine gv_sx ?_ (by assumption)
    | exact sx_rb (by assumption)
    | exact hS.1
    | exact hv0.1
    | refine lp15' _ _ ?_ ?_ ?_
    | refine And.intro (fun h => absurd h (by decide)) (fun _ => ?_)
    | refine And.intro (fun _ => ?_) (fun h => absurd (by decide) h)
    | refine And.intro (fun _ => ?_) (fun _ => ?_)
    | refine And.intro ?_ ?_
  all_goals (first | assumption | decide | omega | (intros; omega) | (intros; simp only [am_c] at * <;> omega) | (simp only [am_c, am_up] at * <;> omega) | (simp [am_c, am_up] at * <;> omega))
theorem v_takeSettings_X0_1_22 {l : Launch} {μ : am_N} {Q : Option am_V → am_N → Prop} {ν : am_N}  (hS : gv [1, 2, 3, 4, 5, 6, 7, 48, 49, 52, 53, 54, 55, 56, 62] ν μ)  (k : ∀ μ', gv [1, 2, 3, 4, 5, 6, 7, 48, 49, 52, 53, 54, 55, 56, 62] ν μ' → Q none μ') : am_Does l 4 [.inr (.inr 1), .inr (.inr 22)] μ Q := by
  refine am_Does_of (Nat.le_of_ble_eq_true rfl) (Nat.le_of_ble_eq_true rfl) (Nat.le_of_ble_eq_true rfl) ?_
  have hb := sx_all hS.1
  refine am_go (ct := fun _ => false) am_oX0_takeSettings 300 ?_
  conv => whnf
  repeat' first
    | (refine (?_ : am_wp _ _ _ _ _ _ _ _ _ _ _ _); conv => whnf)
    | (refine (?_ : am_sw _ _ _ _); conv => whnf)
    | refine And.intro trivial ?_
    | exact trivial
    | assumption
    | refine k _ ?_
    | refine gv_up ?_ rfl rfl
    | refine gv_b1 ?_ rfl ?_
    | refine gv_b22 ?_ rfl ?_
    | refine gv_b36 ?_ rfl ?_
    | refine gv_b44 ?_ rfl ?_
    | refine gv_b46 ?_ rfl ?_
    | refine gv_b48 ?_ rfl ?_
    | refine gv_b50 ?_ rfl ?_
    | refine gv_b53 ?_ rfl ?_
    | refine gv_b55 ?_ rfl ?_
    | refine gv_b58 ?_ rfl ?_
    | refine gv_b60 ?_ rfl ?_
    | refine gv_b62 ?_ rfl ?_
    | refine gv_sx ?_ (by assumption)
    | exact sx_rb (by assumption)
    | exact hS.1
    | exact hv0.1
    | refine And.intro (fun h => absurd h (by decide)) (fun _ => ?_)
    | refine And.intro (fun _ => ?_) (fun h => absurd (by decide) h)
    | refine And.intro (fun _ => ?_) (fun _ => ?_)
    | refine And.intro ?_ ?_
  all_goals (first | assumption | decide | omega | (intros; omega) | (intros; simp only [am_c] at * <;> omega) | (simp only [am_c, am_up] at * <;> omega) | (simp [am_c, am_up] at * <;> omega))
theorem v_takeRunner_X0_1_22 {l : Launch} {μ : am_N} {Q : Option am_V → am_N → Prop} {ν : am_N} (i j : Int) (hS : gv [1, 2, 3, 4, 5, 6, 7, 48, 49, 52, 53, 54, 55, 56, 62] ν μ)  (k : ∀ μ', gv [1, 2, 3, 4, 5, 6, 7, 48, 49, 52, 53, 54, 55, 56, 62] ν μ' → Q none μ') : am_Does l 5 [.inr (.inr 1), .inl i, .inr (.inr 22), .inl j] μ Q := by
  refine am_Does_of (Nat.le_of_ble_eq_true rfl) (Nat.le_of_ble_eq_true rfl) (Nat.le_of_ble_eq_true rfl) ?_
  have hb := sx_all hS.1
  refine am_go (ct := fun _ => false) am_oX0_takeRunner 300 ?_
  conv => whnf
  repeat' first
    | (refine (?_ : am_wp _ _ _ _ _ _ _ _ _ _ _ _); conv => whnf)
    | (refine (?_ : am_sw _ _ _ _); conv => whnf)
    | refine And.intro trivial ?_
    | exact trivial
    | assumption
    | refine k _ ?_
    | refine gv_up ?_ rfl rfl
    | refine gv_b1 ?_ rfl ?_
    | refine gv_b22 ?_ rfl ?_
    | refine gv_b36 ?_ rfl ?_
    | refine gv_b44 ?_ rfl ?_
    | refine gv_b46 ?_ rfl ?_
    | refine gv_b48 ?_ rfl ?_
    | refine gv_b50 ?_ rfl ?_
    | refine gv_b53 ?_ rfl ?_
    | refine gv_b55 ?_ rfl ?_
    | refine gv_b58 ?_ rfl ?_
    | refine gv_b60 ?_ rfl ?_
    | refine gv_b62 ?_ rfl ?_
    | refine gv_sx ?_ (by assumption)
    | exact sx_rb (by assumption)
    | exact hS.1
    | exact hv0.1
    | refine And.intro (fun h => absurd h (by decide)) (fun _ => ?_)
    | refine And.intro (fun _ => ?_) (fun h => absurd (by decide) h)
    | refine And.intro (fun _ => ?_) (fun _ => ?_)
    | refine And.intro ?_ ?_
  all_goals (first | assumption | decide | omega | (intros; omega) | (intros; simp only [am_c] at * <;> omega) | (simp only [am_c, am_up] at * <;> omega) | (simp [am_c, am_up] at * <;> omega))
theorem v_take_X0_1_22 {l : Launch} {μ : am_N} {Q : Option am_V → am_N → Prop} {ν : am_N}  (hS : gv [1, 2, 3, 4, 5, 6, 7, 48, 49, 52, 53, 54, 55, 56, 62] ν μ)  (k : ∀ μ', gv [1, 2, 3, 4, 5, 6, 7, 48, 49, 52, 53, 54, 55, 56, 62] ν μ' → Q none μ') : am_Does l 2 [.inr (.inr 1), .inr (.inr 22)] μ Q := by
  refine am_Does_of (Nat.le_of_ble_eq_true rfl) (Nat.le_of_ble_eq_true rfl) (Nat.le_of_ble_eq_true rfl) ?_
  have hb := sx_all hS.1
  have lp15 : ∀ (m : Nat) (i : Int) (μ : am_N) , gv [1, 2, 3, 4, 5, 6, 7, 48, 49, 52, 53, 54, 55, 56, 62] ν μ → 0 ≤ i → i ≤ 4 → 4 - i < (m : Int) → am_AW l 0 (fun _ => 0) 2 Q 15 [some (.inr (.inr 1)), some (.inr (.inr 22)), some (.inl i)] [] μ := by
    intro m
    induction m with
    | zero =>
      intro i μ hv0 hv1 hv2 hm
      have hb := sx_all hv0.1
      exfalso
      omega
    | succ m ih =>
      intro i μ hv0 hv1 hv2 hm
      have hb := sx_all hv0.1
      refine am_go (ct := fun pc => Nat.beq pc 15) am_oX0_take 300 ?_
      conv => whnf
      repeat' first
        | (refine (?_ : am_wp _ _ _ _ _ _ _ _ _ _ _ _); conv => whnf)
        | (refine (?_ : am_sw _ _ _ _); conv => whnf)
        | refine And.intro trivial ?_
        | exact trivial
        | assumption
        | refine k _ ?_
        | refine v_takeSettings_X0_1_22 (ν := ν)  ?_  (fun _ _ => ?_)
        | refine v_takeRunner_X0_1_22 (ν := ν) _ _ ?_  (fun _ _ => ?_)
        | exact (sx_all (gv_i (E := [1, 2, 3, 4, 5, 6, 7, 48, 49, 52, 53, 54, 55, 56, 62]) (ν := ν) (by assumption))).2.2.2.1
        | refine w_takeSettings_X0_8_1  (gv_i (E := [1, 2, 3, 4, 5, 6, 7, 48, 49, 52, 53, 54, 55, 56, 62]) (ν := ν) (by repeat' first | assumption | refine gv_up ?_ rfl rfl | refine gv_sx ?_ (by assumption)))  (fun _ _ => ?_)
        | refine w_takeSettings_X0_15_8  (gv_i (E := [1, 2, 3, 4, 5, 6, 7, 48, 49, 52, 53, 54, 55, 56, 62]) (ν := ν) (by repeat' first | assumption | refine gv_up ?_ rfl rfl | refine gv_sx ?_ (by assumption)))  (fun _ _ => ?_)
        | refine w_takeSettings_X0_15_1  (gv_i (E := [1, 2, 3, 4, 5, 6, 7, 48, 49, 52, 53, 54, 55, 56, 62]) (ν := ν) (by repeat' first | assumption | refine gv_up ?_ rfl rfl | refine gv_sx ?_ (by assumption)))  (fun _ _ => ?_)
        | refine w_takeRunner_X0_8_1 _ _ (gv_i (E := [1, 2, 3, 4, 5, 6, 7, 48, 49, 52, 53, 54, 55, 56, 62]) (ν := ν) (by repeat' first | assumption | refine gv_up ?_ rfl rfl | refine gv_sx ?_ (by assumption)))  (fun _ _ => ?_)
        | refine w_takeRunner_X0_15_8 _ _ (gv_i (E := [1, 2, 3, 4, 5, 6, 7, 48, 49, 52, 53, 54, 55, 56, 62]) (ν := ν) (by repeat' first | assumption | refine gv_up ?_ rfl rfl | refine gv_sx ?_ (by assumption)))  (fun _ _ => ?_)
        | refine w_takeRunner_X0_15_1 _ _ (gv_i (E := [1, 2, 3, 4, 5, 6, 7, 48, 49, 52, 53, 54, 55, 56, 62]) (ν := ν) (by repeat' first | assumption | refine gv_up ?_ rfl rfl | refine gv_sx ?_ (by assumption)))  (fun _ _ => ?_)
        | refine gv_up ?_ rfl rfl
        | refine gv_b1 ?_ rfl ?_
        | refine gv_b22 ?_ rfl ?_
        | refine gv_b36 ?_ rfl ?_
        | refine gv_b44 ?_ rfl ?_
        | refine gv_b46 ?_ rfl ?_
        | refine gv_b48 ?_ rfl ?_
        | refine gv_b50 ?_ rfl ?_
        | refine gv_b53 ?_ rfl ?_
        | refine gv_b55 ?_ rfl ?_
        | refine gv_b58 ?_ rfl ?_
        | refine gv_b60 ?_ rfl ?_
        | refine gv_b62 ?_ rfl ?_
        | refine gv_sx ?_ (by assumption)
        | exact sx_rb (by assumption)
        | exact hS.1
        | exact hv0.1
        | refine ih _ _ ?_ ?_ ?_ ?_
        | refine And.intro (fun h => absurd h (by decide)) (fun _ => ?_)
        | refine And.intro (fun _ => ?_) (fun h => absurd (by decide) h)
        | refine And.intro (fun _ => ?_) (fun _ => ?_)
        | refine And.intro ?_ ?_
      all_goals (first | assumption | decide | omega | (intros; omega) | (intros; simp only [am_c] at * <;> omega) | (simp only [am_c, am_up] at * <;> omega) | (simp [am_c, am_up] at * <;> omega))
  have lp15' : ∀ (i : Int) (μ : am_N) , gv [1, 2, 3, 4, 5, 6, 7, 48, 49, 52, 53, 54, 55, 56, 62] ν μ → 0 ≤ i → i ≤ 4 → am_AW l 0 (fun _ => 0) 2 Q 15 [some (.inr (.inr 1)), some (.inr (.inr 22)), some (.inl i)] [] μ := fun i μ hv0 hv1 hv2 => lp15 ((4 - i) + 1).toNat i μ hv0 hv1 hv2 (by omega)
  refine am_go (ct := fun pc => Nat.beq pc 15) am_oX0_take 300 ?_
  conv => whnf
  repeat' first
    | (refine (?_ : am_wp _ _ _ _ _ _ _ _ _ _ _ _); conv => whnf)
    | (refine (?_ : am_sw _ _ _ _); conv => whnf)
    | refine And.intro trivial ?_
    | exact trivial
    | assumption
    | refine k _ ?_
    | refine v_takeSettings_X0_1_22 (ν := ν)  ?_  (fun _ _ => ?_)
    | refine v_takeRunner_X0_1_22 (ν := ν) _ _ ?_  (fun _ _ => ?_)
    | exact (sx_all (gv_i (E := [1, 2, 3, 4, 5, 6, 7, 48, 49, 52, 53, 54, 55, 56, 62]) (ν := ν) (by assumption))).2.2.2.1
    | refine w_takeSettings_X0_8_1  (gv_i (E := [1, 2, 3, 4, 5, 6, 7, 48, 49, 52, 53, 54, 55, 56, 62]) (ν := ν) (by repeat' first | assumption | refine gv_up ?_ rfl rfl | refine gv_sx ?_ (by assumption)))  (fun _ _ => ?_)
    | refine w_takeSettings_X0_15_8  (gv_i (E := [1, 2, 3, 4, 5, 6, 7, 48, 49, 52, 53, 54, 55, 56, 62]) (ν := ν) (by repeat' first | assumption | refine gv_up ?_ rfl rfl | refine gv_sx ?_ (by assumption)))  (fun _ _ => ?_)
    | refine w_takeSettings_X0_15_1  (gv_i (E := [1, 2, 3, 4, 5, 6, 7, 48, 49, 52, 53, 54, 55, 56, 62]) (ν := ν) (by repeat' first | assumption | refine gv_up ?_ rfl rfl | refine gv_sx ?_ (by assumption)))  (fun _ _ => ?_)
    | refine w_takeRunner_X0_8_1 _ _ (gv_i (E := [1, 2, 3, 4, 5, 6, 7, 48, 49, 52, 53, 54, 55, 56, 62]) (ν := ν) (by repeat' first | assumption | refine gv_up ?_ rfl rfl | refine gv_sx ?_ (by assumption)))  (fun _ _ => ?_)
    | refine w_takeRunner_X0_15_8 _ _ (gv_i (E := [1, 2, 3, 4, 5, 6, 7, 48, 49, 52, 53, 54, 55, 56, 62]) (ν := ν) (by repeat' first | assumption | refine gv_up ?_ rfl rfl | refine gv_sx ?_ (by assumption)))  (fun _ _ => ?_)
    | refine w_takeRunner_X0_15_1 _ _ (gv_i (E := [1, 2, 3, 4, 5, 6, 7, 48, 49, 52, 53, 54, 55, 56, 62]) (ν := ν) (by repeat' first | assumption | refine gv_up ?_ rfl rfl | refine gv_sx ?_ (by assumption)))  (fun _ _ => ?_)
    | refine gv_up ?_ rfl rfl
    | refine gv_b1 ?_ rfl ?_
    | refine gv_b22 ?_ rfl ?_
    | refine gv_b36 ?_ rfl ?_
    | refine gv_b44 ?_ rfl ?_
    | refine gv_b46 ?_ rfl ?_
    | refine gv_b48 ?_ rfl ?_
    | refine gv_b50 ?_ rfl ?_
    | refine gv_b53 ?_ rfl ?_
    | refine gv_b55 ?_ rfl ?_
    | refine gv_b58 ?_ rfl ?_
    | refine gv_b60 ?_ rfl ?_
    | refine gv_b62 ?_ rfl ?_
    | refine gv_sx ?_ (by assumption)
    | exact sx_rb (by assumption)
    | exact hS.1
    | exact hv0.1
    | refine lp15' _ _ ?_ ?_ ?_
    | refine And.intro (fun h => absurd h (by decide)) (fun _ => ?_)
    | refine And.intro (fun _ => ?_) (fun h => absurd (by decide) h)
    | refine And.intro (fun _ => ?_) (fun _ => ?_)
    | refine And.intro ?_ ?_
  all_goals (first | assumption | decide | omega | (intros; omega) | (intros; simp only [am_c] at * <;> omega) | (simp only [am_c, am_up] at * <;> omega) | (simp [am_c, am_up] at * <;> omega))
theorem v_takeSettings_X0_22_1 {l : Launch} {μ : am_N} {Q : Option am_V → am_N → Prop} {ν : am_N}  (hS : gv [22, 23, 24, 25, 26, 27, 28, 50, 51, 57, 58, 59, 60, 61, 0] ν μ)  (k : ∀ μ', gv [22, 23, 24, 25, 26, 27, 28, 50, 51, 57, 58, 59, 60, 61, 0] ν μ' → Q none μ') : am_Does l 4 [.inr (.inr 22), .inr (.inr 1)] μ Q := by
  refine am_Does_of (Nat.le_of_ble_eq_true rfl) (Nat.le_of_ble_eq_true rfl) (Nat.le_of_ble_eq_true rfl) ?_
  have hb := sx_all hS.1
  refine am_go (ct := fun _ => false) am_oX0_takeSettings 300 ?_
  conv => whnf
  repeat' first
    | (refine (?_ : am_wp _ _ _ _ _ _ _ _ _ _ _ _); conv => whnf)
    | (refine (?_ : am_sw _ _ _ _); conv => whnf)
    | refine And.intro trivial ?_
    | exact trivial
    | assumption
    | refine k _ ?_
    | refine gv_up ?_ rfl rfl
    | refine gv_b1 ?_ rfl ?_
    | refine gv_b22 ?_ rfl ?_
    | refine gv_b36 ?_ rfl ?_
    | refine gv_b44 ?_ rfl ?_
    | refine gv_b46 ?_ rfl ?_
    | refine gv_b48 ?_ rfl ?_
    | refine gv_b50 ?_ rfl ?_
    | refine gv_b53 ?_ rfl ?_
    | refine gv_b55 ?_ rfl ?_
    | refine gv_b58 ?_ rfl ?_
    | refine gv_b60 ?_ rfl ?_
    | refine gv_b62 ?_ rfl ?_
    | refine gv_sx ?_ (by assumption)
    | exact sx_rb (by assumption)
    | exact hS.1
    | exact hv0.1
    | refine And.intro (fun h => absurd h (by decide)) (fun _ => ?_)
    | refine And.intro (fun _ => ?_) (fun h => absurd (by decide) h)
    | refine And.intro (fun _ => ?_) (fun _ => ?_)
    | refine And.intro ?_ ?_
  all_goals (first | assumption | decide | omega | (intros; omega) | (intros; simp only [am_c] at * <;> omega) | (simp only [am_c, am_up] at * <;> omega) | (simp [am_c, am_up] at * <;> omega))
theorem v_takeRunner_X0_22_1 {l : Launch} {μ : am_N} {Q : Option am_V → am_N → Prop} {ν : am_N} (i j : Int) (hS : gv [22, 23, 24, 25, 26, 27, 28, 50, 51, 57, 58, 59, 60, 61, 0] ν μ)  (k : ∀ μ', gv [22, 23, 24, 25, 26, 27, 28, 50, 51, 57, 58, 59, 60, 61, 0] ν μ' → Q none μ') : am_Does l 5 [.inr (.inr 22), .inl i, .inr (.inr 1), .inl j] μ Q := by
  refine am_Does_of (Nat.le_of_ble_eq_true rfl) (Nat.le_of_ble_eq_true rfl) (Nat.le_of_ble_eq_true rfl) ?_
  have hb := sx_all hS.1
  refine am_go (ct := fun _ => false) am_oX0_takeRunner 300 ?_
  conv => whnf
  repeat' first
    | (refine (?_ : am_wp _ _ _ _ _ _ _ _ _ _ _ _); conv => whnf)
    | (refine (?_ : am_sw _ _ _ _); conv => whnf)
    | refine And.intro trivial ?_
    | exact trivial
    | assumption
    | refine k _ ?_
    | refine gv_up ?_ rfl rfl
    | refine gv_b1 ?_ rfl ?_
    | refine gv_b22 ?_ rfl ?_
    | refine gv_b36 ?_ rfl ?_
    | refine gv_b44 ?_ rfl ?_
    | refine gv_b46 ?_ rfl ?_
    | refine gv_b48 ?_ rfl ?_
    | refine gv_b50 ?_ rfl ?_
    | refine gv_b53 ?_ rfl ?_
    | refine gv_b55 ?_ rfl ?_
    | refine gv_b58 ?_ rfl ?_
    | refine gv_b60 ?_ rfl ?_
    | refine gv_b62 ?_ rfl ?_
    | refine gv_sx ?_ (by assumption)
    | exact sx_rb (by assumption)
    | exact hS.1
    | exact hv0.1
    | refine And.intro (fun h => absurd h (by decide)) (fun _ => ?_)
    | refine And.intro (fun _ => ?_) (fun h => absurd (by decide) h)
    | refine And.intro (fun _ => ?_) (fun _ => ?_)
    | refine And.intro ?_ ?_
  all_goals (first | assumption | decide | omega | (intros; omega) | (intros; simp only [am_c] at * <;> omega) | (simp only [am_c, am_up] at * <;> omega) | (simp [am_c, am_up] at * <;> omega))
theorem v_take_X0_22_1 {l : Launch} {μ : am_N} {Q : Option am_V → am_N → Prop} {ν : am_N}  (hS : gv [22, 23, 24, 25, 26, 27, 28, 50, 51, 57, 58, 59, 60, 61, 0] ν μ)  (k : ∀ μ', gv [22, 23, 24, 25, 26, 27, 28, 50, 51, 57, 58, 59, 60, 61, 0] ν μ' → Q none μ') : am_Does l 2 [.inr (.inr 22), .inr (.inr 1)] μ Q := by
  refine am_Does_of (Nat.le_of_ble_eq_true rfl) (Nat.le_of_ble_eq_true rfl) (Nat.le_of_ble_eq_true rfl) ?_
  have hb := sx_all hS.1
  have lp15 : ∀ (m : Nat) (i : Int) (μ : am_N) , gv [22, 23, 24, 25, 26, 27, 28, 50, 51, 57, 58, 59, 60, 61, 0] ν μ → 0 ≤ i → i ≤ 4 → 4 - i < (m : Int) → am_AW l 0 (fun _ => 0) 2 Q 15 [some (.inr (.inr 22)), some (.inr (.inr 1)), some (.inl i)] [] μ := by
    intro m
    induction m with
    | zero =>
      intro i μ hv0 hv1 hv2 hm
      have hb := sx_all hv0.1
      exfalso
      omega
    | succ m ih =>
      intro i μ hv0 hv1 hv2 hm
      have hb := sx_all hv0.1
      refine am_go (ct := fun pc => Nat.beq pc 15) am_oX0_take 300 ?_
      conv => whnf
      repeat' first
        | (refine (?_ : am_wp _ _ _ _ _ _ _ _ _ _ _ _); conv => whnf)
        | (refine (?_ : am_sw _ _ _ _); conv => whnf)
        | refine And.intro trivial ?_
        | exact trivial
        | assumption
        | refine k _ ?_
        | refine v_takeSettings_X0_22_1 (ν := ν)  ?_  (fun _ _ => ?_)
        | refine v_takeRunner_X0_22_1 (ν := ν) _ _ ?_  (fun _ _ => ?_)
        | exact (sx_all (gv_i (E := [22, 23, 24, 25, 26, 27, 28, 50, 51, 57, 58, 59, 60, 61, 0]) (ν := ν) (by assumption))).1
        | refine w_takeSettings_X0_8_1  (gv_i (E := [22, 23, 24, 25, 26, 27, 28, 50, 51, 57, 58, 59, 60, 61, 0]) (ν := ν) (by repeat' first | assumption | refine gv_up ?_ rfl rfl | refine gv_sx ?_ (by assumption)))  (fun _ _ => ?_)
        | refine w_takeSettings_X0_15_8  (gv_i (E := [22, 23, 24, 25, 26, 27, 28, 50, 51, 57, 58, 59, 60, 61, 0]) (ν := ν) (by repeat' first | assumption | refine gv_up ?_ rfl rfl | refine gv_sx ?_ (by assumption)))  (fun _ _ => ?_)
        | refine w_takeSettings_X0_15_1  (gv_i (E := [22, 23, 24, 25, 26, 27, 28, 50, 51, 57, 58, 59, 60, 61, 0]) (ν := ν) (by repeat' first | assumption | refine gv_up ?_ rfl rfl | refine gv_sx ?_ (by assumption)))  (fun _ _ => ?_)
        | refine w_takeRunner_X0_8_1 _ _ (gv_i (E := [22, 23, 24, 25, 26, 27, 28, 50, 51, 57, 58, 59, 60, 61, 0]) (ν := ν) (by repeat' first | assumption | refine gv_up ?_ rfl rfl | refine gv_sx ?_ (by assumption)))  (fun _ _ => ?_)
        | refine w_takeRunner_X0_15_8 _ _ (gv_i (E := [22, 23, 24, 25, 26, 27, 28, 50, 51, 57, 58, 59, 60, 61, 0]) (ν := ν) (by repeat' first | assumption | refine gv_up ?_ rfl rfl | refine gv_sx ?_ (by assumption)))  (fun _ _ => ?_)
        | refine w_takeRunner_X0_15_1 _ _ (gv_i (E := [22, 23, 24, 25, 26, 27, 28, 50, 51, 57, 58, 59, 60, 61, 0]) (ν := ν) (by repeat' first | assumption | refine gv_up ?_ rfl rfl | refine gv_sx ?_ (by assumption)))  (fun _ _ => ?_)
        | refine gv_up ?_ rfl rfl
        | refine gv_b1 ?_ rfl ?_
        | refine gv_b22 ?_ rfl ?_
        | refine gv_b36 ?_ rfl ?_
        | refine gv_b44 ?_ rfl ?_
        | refine gv_b46 ?_ rfl ?_
        | refine gv_b48 ?_ rfl ?_
        | refine gv_b50 ?_ rfl ?_
        | refine gv_b53 ?_ rfl ?_
        | refine gv_b55 ?_ rfl ?_
        | refine gv_b58 ?_ rfl ?_
        | refine gv_b60 ?_ rfl ?_
        | refine gv_b62 ?_ rfl ?_
        | refine gv_sx ?_ (by assumption)
        | exact sx_rb (by assumption)
        | exact hS.1
        | exact hv0.1
        | refine ih _ _ ?_ ?_ ?_ ?_
        | refine And.intro (fun h => absurd h (by decide)) (fun _ => ?_)
        | refine And.intro (fun _ => ?_) (fun h => absurd (by decide) h)
        | refine And.intro (fun _ => ?_) (fun _ => ?_)
        | refine And.intro ?_ ?_
      all_goals (first | assumption | decide | omega | (intros; omega) | (intros; simp only [am_c] at * <;> omega) | (simp only [am_c, am_up] at * <;> omega) | (simp [am_c, am_up] at * <;> omega))
  have lp15' : ∀ (i : Int) (μ : am_N) , gv [22, 23, 24, 25, 26, 27, 28, 50, 51, 57, 58, 59, 60, 61, 0] ν μ → 0 ≤ i → i ≤ 4 → am_AW l 0 (fun _ => 0) 2 Q 15 [some (.inr (.inr 22)), some (.inr (.inr 1)), some (.inl i)] [] μ := fun i μ hv0 hv1 hv2 => lp15 ((4 - i) + 1).toNat i μ hv0 hv1 hv2 (by omega)
  refine am_go (ct := fun pc => Nat.beq pc 15) am_oX0_take 300 ?_
  conv => whnf
  repeat' first
    | (refine (?_ : am_wp _ _ _ _ _ _ _ _ _ _ _ _); conv => whnf)
    | (refine (?_ : am_sw _ _ _ _); conv => whnf)
    | refine And.intro trivial ?_
    | exact trivial
    | assumption
    | refine k _ ?_
    | refine v_takeSettings_X0_22_1 (ν := ν)  ?_  (fun _ _ => ?_)
    | refine v_takeRunner_X0_22_1 (ν := ν) _ _ ?_  (fun _ _ => ?_)
    | exact (sx_all (gv_i (E := [22, 23, 24, 25, 26, 27, 28, 50, 51, 57, 58, 59, 60, 61, 0]) (ν := ν) (by assumption))).1
    | refine w_takeSettings_X0_8_1  (gv_i (E := [22, 23, 24, 25, 26, 27, 28, 50, 51, 57, 58, 59, 60, 61, 0]) (ν := ν) (by repeat' first | assumption | refine gv_up ?_ rfl rfl | refine gv_sx ?_ (by assumption)))  (fun _ _ => ?_)
    | refine w_takeSettings_X0_15_8  (gv_i (E := [22, 23, 24, 25, 26, 27, 28, 50, 51, 57, 58, 59, 60, 61, 0]) (ν := ν) (by repeat' first | assumption | refine gv_up ?_ rfl rfl | refine gv_sx ?_ (by assumption)))  (fun _ _ => ?_)
    | refine w_takeSettings_X0_15_1  (gv_i (E := [22, 23, 24, 25, 26, 27, 28, 50, 51, 57, 58, 59, 60, 61, 0]) (ν := ν) (by repeat' first | assumption | refine gv_up ?_ rfl rfl | refine gv_sx ?_ (by assumption)))  (fun _ _ => ?_)
    | refine w_takeRunner_X0_8_1 _ _ (gv_i (E := [22, 23, 24, 25, 26, 27, 28, 50, 51, 57, 58, 59, 60, 61, 0]) (ν := ν) (by repeat' first | assumption | refine gv_up ?_ rfl rfl | refine gv_sx ?_ (by assumption)))  (fun _ _ => ?_)
    | refine w_takeRunner_X0_15_8 _ _ (gv_i (E := [22, 23, 24, 25, 26, 27, 28, 50, 51, 57, 58, 59, 60, 61, 0]) (ν := ν) (by repeat' first | assumption | refine gv_up ?_ rfl rfl | refine gv_sx ?_ (by assumption)))  (fun _ _ => ?_)
    | refine w_takeRunner_X0_15_1 _ _ (gv_i (E := [22, 23, 24, 25, 26, 27, 28, 50, 51, 57, 58, 59, 60, 61, 0]) (ν := ν) (by repeat' first | assumption | refine gv_up ?_ rfl rfl | refine gv_sx ?_ (by assumption)))  (fun _ _ => ?_)
    | refine gv_up ?_ rfl rfl
    | refine gv_b1 ?_ rfl ?_
    | refine gv_b22 ?_ rfl ?_
    | refine gv_b36 ?_ rfl ?_
    | refine gv_b44 ?_ rfl ?_
    | refine gv_b46 ?_ rfl ?_
    | refine gv_b48 ?_ rfl ?_
    | refine gv_b50 ?_ rfl ?_
    | refine gv_b53 ?_ rfl ?_
    | refine gv_b55 ?_ rfl ?_
    | refine gv_b58 ?_ rfl ?_
    | refine gv_b60 ?_ rfl ?_
    | refine gv_b62 ?_ rfl ?_
    | refine gv_sx ?_ (by assumption)
    | exact sx_rb (by assumption)
    | exact hS.1
    | exact hv0.1
    | refine lp15' _ _ ?_ ?_ ?_
    | refine And.intro (fun h => absurd h (by decide)) (fun _ => ?_)
    | refine And.intro (fun _ => ?_) (fun h => absurd (by decide) h)
    | refine And.intro (fun _ => ?_) (fun _ => ?_)
    | refine And.intro ?_ ?_
  all_goals (first | assumption | decide | omega | (intros; omega) | (intros; simp only [am_c] at * <;> omega) | (simp only [am_c, am_up] at * <;> omega) | (simp [am_c, am_up] at * <;> omega))
theorem v_take_X3_50_48 {l : Launch} {μ : am_N} {Q : Option am_V → am_N → Prop} {ν : am_N}  (hS : gv [22, 23, 24, 25, 26, 27, 28, 50, 51, 57, 58, 59, 60, 61, 0] ν μ)  (k : ∀ μ', gv [22, 23, 24, 25, 26, 27, 28, 50, 51, 57, 58, 59, 60, 61, 0] ν μ' → Q none μ') : am_Does l 45 [.inr (.inr 50), .inr (.inr 48)] μ Q := by
  refine am_Does_of (Nat.le_of_ble_eq_true rfl) (Nat.le_of_ble_eq_true rfl) (Nat.le_of_ble_eq_true rfl) ?_
  have hb := sx_all hS.1
  have lp18 : ∀ (m : Nat) (i : Int) (μ : am_N) , gv [22, 23, 24, 25, 26, 27, 28, 50, 51, 57, 58, 59, 60, 61, 0] ν μ → 0 ≤ i → i ≤ 6 → 6 - i < (m : Int) → am_AW l 0 (fun _ => 0) 45 Q 18 [some (.inr (.inr 50)), some (.inr (.inr 48)), some (.inl i)] [] μ := by
    intro m
    induction m with
    | zero =>
      intro i μ hv0 hv1 hv2 hm
      have hb := sx_all hv0.1
      exfalso
      omega
    | succ m ih =>
      intro i μ hv0 hv1 hv2 hm
      have hb := sx_all hv0.1
      refine am_go (ct := fun pc => Nat.beq pc 18) am_oX3_take 300 ?_
      conv => whnf
      repeat' first
        | (refine (?_ : am_wp _ _ _ _ _ _ _ _ _ _ _ _); conv => whnf)
        | (refine (?_ : am_sw _ _ _ _); conv => whnf)
        | refine And.intro trivial ?_
        | exact trivial
        | assumption
        | refine k _ ?_
        | refine w_at_X3_44 _ (gv_i (E := [22, 23, 24, 25, 26, 27, 28, 50, 51, 57, 58, 59, 60, 61, 0]) (ν := ν) (by repeat' first | assumption | refine gv_up ?_ rfl rfl | refine gv_sx ?_ (by assumption)))  (fun _ => ?_)
        | refine w_at_X3_46 _ (gv_i (E := [22, 23, 24, 25, 26, 27, 28, 50, 51, 57, 58, 59, 60, 61, 0]) (ν := ν) (by repeat' first | assumption | refine gv_up ?_ rfl rfl | refine gv_sx ?_ (by assumption)))  (fun _ => ?_)
        | refine w_at_X3_48 _ (gv_i (E := [22, 23, 24, 25, 26, 27, 28, 50, 51, 57, 58, 59, 60, 61, 0]) (ν := ν) (by repeat' first | assumption | refine gv_up ?_ rfl rfl | refine gv_sx ?_ (by assumption)))  (fun _ => ?_)
        | refine w_at_X3_50 _ (gv_i (E := [22, 23, 24, 25, 26, 27, 28, 50, 51, 57, 58, 59, 60, 61, 0]) (ν := ν) (by repeat' first | assumption | refine gv_up ?_ rfl rfl | refine gv_sx ?_ (by assumption)))  (fun _ => ?_)
        | refine w_at_X3_53 _ (gv_i (E := [22, 23, 24, 25, 26, 27, 28, 50, 51, 57, 58, 59, 60, 61, 0]) (ν := ν) (by repeat' first | assumption | refine gv_up ?_ rfl rfl | refine gv_sx ?_ (by assumption)))  (fun _ => ?_)
        | refine w_at_X3_55 _ (gv_i (E := [22, 23, 24, 25, 26, 27, 28, 50, 51, 57, 58, 59, 60, 61, 0]) (ν := ν) (by repeat' first | assumption | refine gv_up ?_ rfl rfl | refine gv_sx ?_ (by assumption)))  (fun _ => ?_)
        | refine w_at_X3_58 _ (gv_i (E := [22, 23, 24, 25, 26, 27, 28, 50, 51, 57, 58, 59, 60, 61, 0]) (ν := ν) (by repeat' first | assumption | refine gv_up ?_ rfl rfl | refine gv_sx ?_ (by assumption)))  (fun _ => ?_)
        | refine w_at_X3_60 _ (gv_i (E := [22, 23, 24, 25, 26, 27, 28, 50, 51, 57, 58, 59, 60, 61, 0]) (ν := ν) (by repeat' first | assumption | refine gv_up ?_ rfl rfl | refine gv_sx ?_ (by assumption)))  (fun _ => ?_)
        | refine w_at36 _ (gv_i (E := [22, 23, 24, 25, 26, 27, 28, 50, 51, 57, 58, 59, 60, 61, 0]) (ν := ν) (by repeat' first | assumption | refine gv_up ?_ rfl rfl | refine gv_sx ?_ (by assumption))) (fun _ _ _ => ?_) ?_
        | refine gv_up ?_ rfl rfl
        | refine gv_b1 ?_ rfl ?_
        | refine gv_b22 ?_ rfl ?_
        | refine gv_b36 ?_ rfl ?_
        | refine gv_b44 ?_ rfl ?_
        | refine gv_b46 ?_ rfl ?_
        | refine gv_b48 ?_ rfl ?_
        | refine gv_b50 ?_ rfl ?_
        | refine gv_b53 ?_ rfl ?_
        | refine gv_b55 ?_ rfl ?_
        | refine gv_b58 ?_ rfl ?_
        | refine gv_b60 ?_ rfl ?_
        | refine gv_b62 ?_ rfl ?_
        | refine gv_sx ?_ (by assumption)
        | exact sx_rb (by assumption)
        | exact hS.1
        | exact hv0.1
        | refine ih _ _ ?_ ?_ ?_ ?_
        | refine And.intro (fun h => absurd h (by decide)) (fun _ => ?_)
        | refine And.intro (fun _ => ?_) (fun h => absurd (by decide) h)
        | refine And.intro (fun _ => ?_) (fun _ => ?_)
        | refine And.intro ?_ ?_
      all_goals (first | assumption | decide | omega | (split <;> simp only [am_c] at * <;> omega) | (intros; omega) | (simp only [am_c, am_up] at * <;> omega) | (simp [am_c, am_up] at * <;> omega))
  have lp18' : ∀ (i : Int) (μ : am_N) , gv [22, 23, 24, 25, 26, 27, 28, 50, 51, 57, 58, 59, 60, 61, 0] ν μ → 0 ≤ i → i ≤ 6 → am_AW l 0 (fun _ => 0) 45 Q 18 [some (.inr (.inr 50)), some (.inr (.inr 48)), some (.inl i)] [] μ := fun i μ hv0 hv1 hv2 => lp18 ((6 - i) + 1).toNat i μ hv0 hv1 hv2 (by omega)
  refine am_go (ct := fun pc => Nat.beq pc 18) am_oX3_take 300 ?_
  conv => whnf
  repeat' first
    | (refine (?_ : am_wp _ _ _ _ _ _ _ _ _ _ _ _); conv => whnf)
    | (refine (?_ : am_sw _ _ _ _); conv => whnf)
    | refine And.intro trivial ?_
    | exact trivial
    | assumption
    | refine k _ ?_
    | refine w_at_X3_44 _ (gv_i (E := [22, 23, 24, 25, 26, 27, 28, 50, 51, 57, 58, 59, 60, 61, 0]) (ν := ν) (by repeat' first | assumption | refine gv_up ?_ rfl rfl | refine gv_sx ?_ (by assumption)))  (fun _ => ?_)
    | refine w_at_X3_46 _ (gv_i (E := [22, 23, 24, 25, 26, 27, 28, 50, 51, 57, 58, 59, 60, 61, 0]) (ν := ν) (by repeat' first | assumption | refine gv_up ?_ rfl rfl | refine gv_sx ?_ (by assumption)))  (fun _ => ?_)
    | refine w_at_X3_48 _ (gv_i (E := [22, 23, 24, 25, 26, 27, 28, 50, 51, 57, 58, 59, 60, 61, 0]) (ν := ν) (by repeat' first | assumption | refine gv_up ?_ rfl rfl | refine gv_sx ?_ (by assumption)))  (fun _ => ?_)
    | refine w_at_X3_50 _ (gv_i (E := [22, 23, 24, 25, 26, 27, 28, 50, 51, 57, 58, 59, 60, 61, 0]) (ν := ν) (by repeat' first | assumption | refine gv_up ?_ rfl rfl | refine gv_sx ?_ (by assumption)))  (fun _ => ?_)
    | refine w_at_X3_53 _ (gv_i (E := [22, 23, 24, 25, 26, 27, 28, 50, 51, 57, 58, 59, 60, 61, 0]) (ν := ν) (by repeat' first | assumption | refine gv_up ?_ rfl rfl | refine gv_sx ?_ (by assumption)))  (fun _ => ?_)
    | refine w_at_X3_55 _ (gv_i (E := [22, 23, 24, 25, 26, 27, 28, 50, 51, 57, 58, 59, 60, 61, 0]) (ν := ν) (by repeat' first | assumption | refine gv_up ?_ rfl rfl | refine gv_sx ?_ (by assumption)))  (fun _ => ?_)
    | refine w_at_X3_58 _ (gv_i (E := [22, 23, 24, 25, 26, 27, 28, 50, 51, 57, 58, 59, 60, 61, 0]) (ν := ν) (by repeat' first | assumption | refine gv_up ?_ rfl rfl | refine gv_sx ?_ (by assumption)))  (fun _ => ?_)
    | refine w_at_X3_60 _ (gv_i (E := [22, 23, 24, 25, 26, 27, 28, 50, 51, 57, 58, 59, 60, 61, 0]) (ν := ν) (by repeat' first | assumption | refine gv_up ?_ rfl rfl | refine gv_sx ?_ (by assumption)))  (fun _ => ?_)
    | refine w_at36 _ (gv_i (E := [22, 23, 24, 25, 26, 27, 28, 50, 51, 57, 58, 59, 60, 61, 0]) (ν := ν) (by repeat' first | assumption | refine gv_up ?_ rfl rfl | refine gv_sx ?_ (by assumption))) (fun _ _ _ => ?_) ?_
    | refine gv_up ?_ rfl rfl
    | refine gv_b1 ?_ rfl ?_
    | refine gv_b22 ?_ rfl ?_
    | refine gv_b36 ?_ rfl ?_
    | refine gv_b44 ?_ rfl ?_
    | refine gv_b46 ?_ rfl ?_
    | refine gv_b48 ?_ rfl ?_
    | refine gv_b50 ?_ rfl ?_
    | refine gv_b53 ?_ rfl ?_
    | refine gv_b55 ?_ rfl ?_
    | refine gv_b58 ?_ rfl ?_
    | refine gv_b60 ?_ rfl ?_
    | refine gv_b62 ?_ rfl ?_
    | refine gv_sx ?_ (by assumption)
    | exact sx_rb (by assumption)
    | exact hS.1
    | exact hv0.1
    | refine lp18' _ _ ?_ ?_ ?_
    | refine And.intro (fun h => absurd h (by decide)) (fun _ => ?_)
    | refine And.intro (fun _ => ?_) (fun h => absurd (by decide) h)
    | refine And.intro (fun _ => ?_) (fun _ => ?_)
    | refine And.intro ?_ ?_
  all_goals (first | assumption | decide | omega | (split <;> simp only [am_c] at * <;> omega) | (intros; omega) | (simp only [am_c, am_up] at * <;> omega) | (simp [am_c, am_up] at * <;> omega))
theorem v_take_X3_58_53 {l : Launch} {μ : am_N} {Q : Option am_V → am_N → Prop} {ν : am_N}  (hS : gv [22, 23, 24, 25, 26, 27, 28, 50, 51, 57, 58, 59, 60, 61, 0] ν μ)  (k : ∀ μ', gv [22, 23, 24, 25, 26, 27, 28, 50, 51, 57, 58, 59, 60, 61, 0] ν μ' → Q none μ') : am_Does l 45 [.inr (.inr 58), .inr (.inr 53)] μ Q := by
  refine am_Does_of (Nat.le_of_ble_eq_true rfl) (Nat.le_of_ble_eq_true rfl) (Nat.le_of_ble_eq_true rfl) ?_
  have hb := sx_all hS.1
  have lp18 : ∀ (m : Nat) (i : Int) (μ : am_N) , gv [22, 23, 24, 25, 26, 27, 28, 50, 51, 57, 58, 59, 60, 61, 0] ν μ → 0 ≤ i → i ≤ 4 → 4 - i < (m : Int) → am_AW l 0 (fun _ => 0) 45 Q 18 [some (.inr (.inr 58)), some (.inr (.inr 53)), some (.inl i)] [] μ := by
    intro m
    induction m with
    | zero =>
      intro i μ hv0 hv1 hv2 hm
      have hb := sx_all hv0.1
      exfalso
      omega
    | succ m ih =>
      intro i μ hv0 hv1 hv2 hm
      have hb := sx_all hv0.1
      refine am_go (ct := fun pc => Nat.beq pc 18) am_oX3_take 300 ?_
      conv => whnf
      repeat' first
        | (refine (?_ : am_wp _ _ _ _ _ _ _ _ _ _ _ _); conv => whnf)
        | (refine (?_ : am_sw _ _ _ _); conv => whnf)
        | refine And.intro trivial ?_
        | exact trivial
        | assumption
        | refine k _ ?_
        | refine w_at_X3_44 _ (gv_i (E := [22, 23, 24, 25, 26, 27, 28, 50, 51, 57, 58, 59, 60, 61, 0]) (ν := ν) (by repeat' first | assumption | refine gv_up ?_ rfl rfl | refine gv_sx ?_ (by assumption)))  (fun _ => ?_)
        | refine w_at_X3_46 _ (gv_i (E := [22, 23, 24, 25, 26, 27, 28, 50, 51, 57, 58, 59, 60, 61, 0]) (ν := ν) (by repeat' first | assumption | refine gv_up ?_ rfl rfl | refine gv_sx ?_ (by assumption)))  (fun _ => ?_)
        | refine w_at_X3_48 _ (gv_i (E := [22, 23, 24, 25, 26, 27, 28, 50, 51, 57, 58, 59, 60, 61, 0]) (ν := ν) (by repeat' first | assumption | refine gv_up ?_ rfl rfl | refine gv_sx ?_ (by assumption)))  (fun _ => ?_)
        | refine w_at_X3_50 _ (gv_i (E := [22, 23, 24, 25, 26, 27, 28, 50, 51, 57, 58, 59, 60, 61, 0]) (ν := ν) (by repeat' first | assumption | refine gv_up ?_ rfl rfl | refine gv_sx ?_ (by assumption)))  (fun _ => ?_)
        | refine w_at_X3_53 _ (gv_i (E := [22, 23, 24, 25, 26, 27, 28, 50, 51, 57, 58, 59, 60, 61, 0]) (ν := ν) (by repeat' first | assumption | refine gv_up ?_ rfl rfl | refine gv_sx ?_ (by assumption)))  (fun _ => ?_)
        | refine w_at_X3_55 _ (gv_i (E := [22, 23, 24, 25, 26, 27, 28, 50, 51, 57, 58, 59, 60, 61, 0]) (ν := ν) (by repeat' first | assumption | refine gv_up ?_ rfl rfl | refine gv_sx ?_ (by assumption)))  (fun _ => ?_)
        | refine w_at_X3_58 _ (gv_i (E := [22, 23, 24, 25, 26, 27, 28, 50, 51, 57, 58, 59, 60, 61, 0]) (ν := ν) (by repeat' first | assumption | refine gv_up ?_ rfl rfl | refine gv_sx ?_ (by assumption)))  (fun _ => ?_)
        | refine w_at_X3_60 _ (gv_i (E := [22, 23, 24, 25, 26, 27, 28, 50, 51, 57, 58, 59, 60, 61, 0]) (ν := ν) (by repeat' first | assumption | refine gv_up ?_ rfl rfl | refine gv_sx ?_ (by assumption)))  (fun _ => ?_)
        | refine w_at36 _ (gv_i (E := [22, 23, 24, 25, 26, 27, 28, 50, 51, 57, 58, 59, 60, 61, 0]) (ν := ν) (by repeat' first | assumption | refine gv_up ?_ rfl rfl | refine gv_sx ?_ (by assumption))) (fun _ _ _ => ?_) ?_
        | refine gv_up ?_ rfl rfl
        | refine gv_b1 ?_ rfl ?_
        | refine gv_b22 ?_ rfl ?_
        | refine gv_b36 ?_ rfl ?_
        | refine gv_b44 ?_ rfl ?_
        | refine gv_b46 ?_ rfl ?_
        | refine gv_b48 ?_ rfl ?_
        | refine gv_b50 ?_ rfl ?_
        | refine gv_b53 ?_ rfl ?_
        | refine gv_b55 ?_ rfl ?_
        | refine gv_b58 ?_ rfl ?_
        | refine gv_b60 ?_ rfl ?_
        | refine gv_b62 ?_ rfl ?_
        | refine gv_sx ?_ (by assumption)
        | exact sx_rb (by assumption)
        | exact hS.1
        | exact hv0.1
        | refine ih _ _ ?_ ?_ ?_ ?_
        | refine And.intro (fun h => absurd h (by decide)) (fun _ => ?_)
        | refine And.intro (fun _ => ?_) (fun h => absurd (by decide) h)
        | refine And.intro (fun _ => ?_) (fun _ => ?_)
        | refine And.intro ?_ ?_
      all_goals (first | assumption | decide | omega | (split <;> simp only [am_c] at * <;> omega) | (intros; omega) | (simp only [am_c, am_up] at * <;> omega) | (simp [am_c, am_up] at * <;> omega))
  have lp18' : ∀ (i : Int) (μ : am_N) , gv [22, 23, 24, 25, 26, 27, 28, 50, 51, 57, 58, 59, 60, 61, 0] ν μ → 0 ≤ i → i ≤ 4 → am_AW l 0 (fun _ => 0) 45 Q 18 [some (.inr (.inr 58)), some (.inr (.inr 53)), some (.inl i)] [] μ := fun i μ hv0 hv1 hv2 => lp18 ((4 - i) + 1).toNat i μ hv0 hv1 hv2 (by omega)
  refine am_go (ct := fun pc => Nat.beq pc 18) am_oX3_take 300 ?_
  conv => whnf
  repeat' first
    | (refine (?_ : am_wp _ _ _ _ _ _ _ _ _ _ _ _); conv => whnf)
    | (refine (?_ : am_sw _ _ _ _); conv => whnf)
    | refine And.intro trivial ?_
    | exact trivial
    | assumption
    | refine k _ ?_
    | refine w_at_X3_44 _ (gv_i (E := [22, 23, 24, 25, 26, 27, 28, 50, 51, 57, 58, 59, 60, 61, 0]) (ν := ν) (by repeat' first | assumption | refine gv_up ?_ rfl rfl | refine gv_sx ?_ (by assumption)))  (fun _ => ?_)
    | refine w_at_X3_46 _ (gv_i (E := [22, 23, 24, 25, 26, 27, 28, 50, 51, 57, 58, 59, 60, 61, 0]) (ν := ν) (by repeat' first | assumption | refine gv_up ?_ rfl rfl | refine gv_sx ?_ (by assumption)))  (fun _ => ?_)
    | refine w_at_X3_48 _ (gv_i (E := [22, 23, 24, 25, 26, 27, 28, 50, 51, 57, 58, 59, 60, 61, 0]) (ν := ν) (by repeat' first | assumption | refine gv_up ?_ rfl rfl | refine gv_sx ?_ (by assumption)))  (fun _ => ?_)
    | refine w_at_X3_50 _ (gv_i (E := [22, 23, 24, 25, 26, 27, 28, 50, 51, 57, 58, 59, 60, 61, 0]) (ν := ν) (by repeat' first | assumption | refine gv_up ?_ rfl rfl | refine gv_sx ?_ (by assumption)))  (fun _ => ?_)
    | refine w_at_X3_53 _ (gv_i (E := [22, 23, 24, 25, 26, 27, 28, 50, 51, 57, 58, 59, 60, 61, 0]) (ν := ν) (by repeat' first | assumption | refine gv_up ?_ rfl rfl | refine gv_sx ?_ (by assumption)))  (fun _ => ?_)
    | refine w_at_X3_55 _ (gv_i (E := [22, 23, 24, 25, 26, 27, 28, 50, 51, 57, 58, 59, 60, 61, 0]) (ν := ν) (by repeat' first | assumption | refine gv_up ?_ rfl rfl | refine gv_sx ?_ (by assumption)))  (fun _ => ?_)
    | refine w_at_X3_58 _ (gv_i (E := [22, 23, 24, 25, 26, 27, 28, 50, 51, 57, 58, 59, 60, 61, 0]) (ν := ν) (by repeat' first | assumption | refine gv_up ?_ rfl rfl | refine gv_sx ?_ (by assumption)))  (fun _ => ?_)
    | refine w_at_X3_60 _ (gv_i (E := [22, 23, 24, 25, 26, 27, 28, 50, 51, 57, 58, 59, 60, 61, 0]) (ν := ν) (by repeat' first | assumption | refine gv_up ?_ rfl rfl | refine gv_sx ?_ (by assumption)))  (fun _ => ?_)
    | refine w_at36 _ (gv_i (E := [22, 23, 24, 25, 26, 27, 28, 50, 51, 57, 58, 59, 60, 61, 0]) (ν := ν) (by repeat' first | assumption | refine gv_up ?_ rfl rfl | refine gv_sx ?_ (by assumption))) (fun _ _ _ => ?_) ?_
    | refine gv_up ?_ rfl rfl
    | refine gv_b1 ?_ rfl ?_
    | refine gv_b22 ?_ rfl ?_
    | refine gv_b36 ?_ rfl ?_
    | refine gv_b44 ?_ rfl ?_
    | refine gv_b46 ?_ rfl ?_
    | refine gv_b48 ?_ rfl ?_
    | refine gv_b50 ?_ rfl ?_
    | refine gv_b53 ?_ rfl ?_
    | refine gv_b55 ?_ rfl ?_
    | refine gv_b58 ?_ rfl ?_
    | refine gv_b60 ?_ rfl ?_
    | refine gv_b62 ?_ rfl ?_
    | refine gv_sx ?_ (by assumption)
    | exact sx_rb (by assumption)
    | exact hS.1
    | exact hv0.1
    | refine lp18' _ _ ?_ ?_ ?_
    | refine And.intro (fun h => absurd h (by decide)) (fun _ => ?_)
    | refine And.intro (fun _ => ?_) (fun h => absurd (by decide) h)
    | refine And.intro (fun _ => ?_) (fun _ => ?_)
    | refine And.intro ?_ ?_
  all_goals (first | assumption | decide | omega | (split <;> simp only [am_c] at * <;> omega) | (intros; omega) | (simp only [am_c, am_up] at * <;> omega) | (simp [am_c, am_up] at * <;> omega))
theorem v_take_X3_60_55 {l : Launch} {μ : am_N} {Q : Option am_V → am_N → Prop} {ν : am_N}  (hS : gv [22, 23, 24, 25, 26, 27, 28, 50, 51, 57, 58, 59, 60, 61, 0] ν μ)  (k : ∀ μ', gv [22, 23, 24, 25, 26, 27, 28, 50, 51, 57, 58, 59, 60, 61, 0] ν μ' → Q none μ') : am_Does l 45 [.inr (.inr 60), .inr (.inr 55)] μ Q := by
  refine am_Does_of (Nat.le_of_ble_eq_true rfl) (Nat.le_of_ble_eq_true rfl) (Nat.le_of_ble_eq_true rfl) ?_
  have hb := sx_all hS.1
  have lp18 : ∀ (m : Nat) (i : Int) (μ : am_N) , gv [22, 23, 24, 25, 26, 27, 28, 50, 51, 57, 58, 59, 60, 61, 0] ν μ → 0 ≤ i → i ≤ 4 → 4 - i < (m : Int) → am_AW l 0 (fun _ => 0) 45 Q 18 [some (.inr (.inr 60)), some (.inr (.inr 55)), some (.inl i)] [] μ := by
    intro m
    induction m with
    | zero =>
      intro i μ hv0 hv1 hv2 hm
      have hb := sx_all hv0.1
      exfalso
      omega
    | succ m ih =>
      intro i μ hv0 hv1 hv2 hm
      have hb := sx_all hv0.1
      refine am_go (ct := fun pc => Nat.beq pc 18) am_oX3_take 300 ?_
      conv => whnf
      repeat' first
        | (refine (?_ : am_wp _ _ _ _ _ _ _ _ _ _ _ _); conv => whnf)
        | (refine (?_ : am_sw _ _ _ _); conv => whnf)
        | refine And.intro trivial ?_
        | exact trivial
        | assumption
        | refine k _ ?_
        | refine w_at_X3_44 _ (gv_i (E := [22, 23, 24, 25, 26, 27, 28, 50, 51, 57, 58, 59, 60, 61, 0]) (ν := ν) (by repeat' first | assumption | refine gv_up ?_ rfl rfl | refine gv_sx ?_ (by assumption)))  (fun _ => ?_)
        | refine w_at_X3_46 _ (gv_i (E := [22, 23, 24, 25, 26, 27, 28, 50, 51, 57, 58, 59, 60, 61, 0]) (ν := ν) (by repeat' first | assumption | refine gv_up ?_ rfl rfl | refine gv_sx ?_ (by assumption)))  (fun _ => ?_)
        | refine w_at_X3_48 _ (gv_i (E := [22, 23, 24, 25, 26, 27, 28, 50, 51, 57, 58, 59, 60, 61, 0]) (ν := ν) (by repeat' first | assumption | refine gv_up ?_ rfl rfl | refine gv_sx ?_ (by assumption)))  (fun _ => ?_)
        | refine w_at_X3_50 _ (gv_i (E := [22, 23, 24, 25, 26, 27, 28, 50, 51, 57, 58, 59, 60, 61, 0]) (ν := ν) (by repeat' first | assumption | refine gv_up ?_ rfl rfl | refine gv_sx ?_ (by assumption)))  (fun _ => ?_)
        | refine w_at_X3_53 _ (gv_i (E := [22, 23, 24, 25, 26, 27, 28, 50, 51, 57, 58, 59, 60, 61, 0]) (ν := ν) (by repeat' first | assumption | refine gv_up ?_ rfl rfl | refine gv_sx ?_ (by assumption)))  (fun _ => ?_)
        | refine w_at_X3_55 _ (gv_i (E := [22, 23, 24, 25, 26, 27, 28, 50, 51, 57, 58, 59, 60, 61, 0]) (ν := ν) (by repeat' first | assumption | refine gv_up ?_ rfl rfl | refine gv_sx ?_ (by assumption)))  (fun _ => ?_)
        | refine w_at_X3_58 _ (gv_i (E := [22, 23, 24, 25, 26, 27, 28, 50, 51, 57, 58, 59, 60, 61, 0]) (ν := ν) (by repeat' first | assumption | refine gv_up ?_ rfl rfl | refine gv_sx ?_ (by assumption)))  (fun _ => ?_)
        | refine w_at_X3_60 _ (gv_i (E := [22, 23, 24, 25, 26, 27, 28, 50, 51, 57, 58, 59, 60, 61, 0]) (ν := ν) (by repeat' first | assumption | refine gv_up ?_ rfl rfl | refine gv_sx ?_ (by assumption)))  (fun _ => ?_)
        | refine w_at36 _ (gv_i (E := [22, 23, 24, 25, 26, 27, 28, 50, 51, 57, 58, 59, 60, 61, 0]) (ν := ν) (by repeat' first | assumption | refine gv_up ?_ rfl rfl | refine gv_sx ?_ (by assumption))) (fun _ _ _ => ?_) ?_
        | refine gv_up ?_ rfl rfl
        | refine gv_b1 ?_ rfl ?_
        | refine gv_b22 ?_ rfl ?_
        | refine gv_b36 ?_ rfl ?_
        | refine gv_b44 ?_ rfl ?_
        | refine gv_b46 ?_ rfl ?_
        | refine gv_b48 ?_ rfl ?_
        | refine gv_b50 ?_ rfl ?_
        | refine gv_b53 ?_ rfl ?_
        | refine gv_b55 ?_ rfl ?_
        | refine gv_b58 ?_ rfl ?_
        | refine gv_b60 ?_ rfl ?_
        | refine gv_b62 ?_ rfl ?_
        | refine gv_sx ?_ (by assumption)
        | exact sx_rb (by assumption)
        | exact hS.1
        | exact hv0.1
        | refine ih _ _ ?_ ?_ ?_ ?_
        | refine And.intro (fun h => absurd h (by decide)) (fun _ => ?_)
        | refine And.intro (fun _ => ?_) (fun h => absurd (by decide) h)
        | refine And.intro (fun _ => ?_) (fun _ => ?_)
        | refine And.intro ?_ ?_
      all_goals (first | assumption | decide | omega | (split <;> simp only [am_c] at * <;> omega) | (intros; omega) | (simp only [am_c, am_up] at * <;> omega) | (simp [am_c, am_up] at * <;> omega))
  have lp18' : ∀ (i : Int) (μ : am_N) , gv [22, 23, 24, 25, 26, 27, 28, 50, 51, 57, 58, 59, 60, 61, 0] ν μ → 0 ≤ i → i ≤ 4 → am_AW l 0 (fun _ => 0) 45 Q 18 [some (.inr (.inr 60)), some (.inr (.inr 55)), some (.inl i)] [] μ := fun i μ hv0 hv1 hv2 => lp18 ((4 - i) + 1).toNat i μ hv0 hv1 hv2 (by omega)
  refine am_go (ct := fun pc => Nat.beq pc 18) am_oX3_take 300 ?_
  conv => whnf
  repeat' first
    | (refine (?_ : am_wp _ _ _ _ _ _ _ _ _ _ _ _); conv => whnf)
    | (refine (?_ : am_sw _ _ _ _); conv => whnf)
    | refine And.intro trivial ?_
    | exact trivial
    | assumption
    | refine k _ ?_
    | refine w_at_X3_44 _ (gv_i (E := [22, 23, 24, 25, 26, 27, 28, 50, 51, 57, 58, 59, 60, 61, 0]) (ν := ν) (by repeat' first | assumption | refine gv_up ?_ rfl rfl | refine gv_sx ?_ (by assumption)))  (fun _ => ?_)
    | refine w_at_X3_46 _ (gv_i (E := [22, 23, 24, 25, 26, 27, 28, 50, 51, 57, 58, 59, 60, 61, 0]) (ν := ν) (by repeat' first | assumption | refine gv_up ?_ rfl rfl | refine gv_sx ?_ (by assumption)))  (fun _ => ?_)
    | refine w_at_X3_48 _ (gv_i (E := [22, 23, 24, 25, 26, 27, 28, 50, 51, 57, 58, 59, 60, 61, 0]) (ν := ν) (by repeat' first | assumption | refine gv_up ?_ rfl rfl | refine gv_sx ?_ (by assumption)))  (fun _ => ?_)
    | refine w_at_X3_50 _ (gv_i (E := [22, 23, 24, 25, 26, 27, 28, 50, 51, 57, 58, 59, 60, 61, 0]) (ν := ν) (by repeat' first | assumption | refine gv_up ?_ rfl rfl | refine gv_sx ?_ (by assumption)))  (fun _ => ?_)
    | refine w_at_X3_53 _ (gv_i (E := [22, 23, 24, 25, 26, 27, 28, 50, 51, 57, 58, 59, 60, 61, 0]) (ν := ν) (by repeat' first | assumption | refine gv_up ?_ rfl rfl | refine gv_sx ?_ (by assumption)))  (fun _ => ?_)
    | refine w_at_X3_55 _ (gv_i (E := [22, 23, 24, 25, 26, 27, 28, 50, 51, 57, 58, 59, 60, 61, 0]) (ν := ν) (by repeat' first | assumption | refine gv_up ?_ rfl rfl | refine gv_sx ?_ (by assumption)))  (fun _ => ?_)
    | refine w_at_X3_58 _ (gv_i (E := [22, 23, 24, 25, 26, 27, 28, 50, 51, 57, 58, 59, 60, 61, 0]) (ν := ν) (by repeat' first | assumption | refine gv_up ?_ rfl rfl | refine gv_sx ?_ (by assumption)))  (fun _ => ?_)
    | refine w_at_X3_60 _ (gv_i (E := [22, 23, 24, 25, 26, 27, 28, 50, 51, 57, 58, 59, 60, 61, 0]) (ν := ν) (by repeat' first | assumption | refine gv_up ?_ rfl rfl | refine gv_sx ?_ (by assumption)))  (fun _ => ?_)
    | refine w_at36 _ (gv_i (E := [22, 23, 24, 25, 26, 27, 28, 50, 51, 57, 58, 59, 60, 61, 0]) (ν := ν) (by repeat' first | assumption | refine gv_up ?_ rfl rfl | refine gv_sx ?_ (by assumption))) (fun _ _ _ => ?_) ?_
    | refine gv_up ?_ rfl rfl
    | refine gv_b1 ?_ rfl ?_
    | refine gv_b22 ?_ rfl ?_
    | refine gv_b36 ?_ rfl ?_
    | refine gv_b44 ?_ rfl ?_
    | refine gv_b46 ?_ rfl ?_
    | refine gv_b48 ?_ rfl ?_
    | refine gv_b50 ?_ rfl ?_
    | refine gv_b53 ?_ rfl ?_
    | refine gv_b55 ?_ rfl ?_
    | refine gv_b58 ?_ rfl ?_
    | refine gv_b60 ?_ rfl ?_
    | refine gv_b62 ?_ rfl ?_
    | refine gv_sx ?_ (by assumption)
    | exact sx_rb (by assumption)
    | exact hS.1
    | exact hv0.1
    | refine lp18' _ _ ?_ ?_ ?_
    | refine And.intro (fun h => absurd h (by decide)) (fun _ => ?_)
    | refine And.intro (fun _ => ?_) (fun h => absurd (by decide) h)
    | refine And.intro (fun _ => ?_) (fun _ => ?_)
    | refine And.intro ?_ ?_
  all_goals (first | assumption | decide | omega | (split <;> simp only [am_c] at * <;> omega) | (intros; omega) | (simp only [am_c, am_up] at * <;> omega) | (simp [am_c, am_up] at * <;> omega))
theorem v_take_X3_48_50 {l : Launch} {μ : am_N} {Q : Option am_V → am_N → Prop} {ν : am_N}  (hS : gv [1, 2, 3, 4, 5, 6, 7, 48, 49, 52, 53, 54, 55, 56, 62] ν μ)  (k : ∀ μ', gv [1, 2, 3, 4, 5, 6, 7, 48, 49, 52, 53, 54, 55, 56, 62] ν μ' → Q none μ') : am_Does l 45 [.inr (.inr 48), .inr (.inr 50)] μ Q := by
  refine am_Does_of (Nat.le_of_ble_eq_true rfl) (Nat.le_of_ble_eq_true rfl) (Nat.le_of_ble_eq_true rfl) ?_
  have hb := sx_all hS.1
  have lp18 : ∀ (m : Nat) (i : Int) (μ : am_N) , gv [1, 2, 3, 4, 5, 6, 7, 48, 49, 52, 53, 54, 55, 56, 62] ν μ → 0 ≤ i → i ≤ 6 → 6 - i < (m : Int) → am_AW l 0 (fun _ => 0) 45 Q 18 [some (.inr (.inr 48)), some (.inr (.inr 50)), some (.inl i)] [] μ := by
    intro m
    induction m with
    | zero =>
      intro i μ hv0 hv1 hv2 hm
      have hb := sx_all hv0.1
      exfalso
      omega
    | succ m ih =>
      intro i μ hv0 hv1 hv2 hm
      have hb := sx_all hv0.1
      refine am_go (ct := fun pc => Nat.beq pc 18) am_oX3_take 300 ?_
      conv => whnf
      repeat' first
        | (refine (?_ : am_wp _ _ _ _ _ _ _ _ _ _ _ _); conv => whnf)
        | (refine (?_ : am_sw _ _ _ _); conv => whnf)
        | refine And.intro trivial ?_
        | exact trivial
        | assumption
        | refine k _ ?_
        | refine w_at_X3_44 _ (gv_i (E := [1, 2, 3, 4, 5, 6, 7, 48, 49, 52, 53, 54, 55, 56, 62]) (ν := ν) (by repeat' first | assumption | refine gv_up ?_ rfl rfl | refine gv_sx ?_ (by assumption)))  (fun _ => ?_)
        | refine w_at_X3_46 _ (gv_i (E := [1, 2, 3, 4, 5, 6, 7, 48, 49, 52, 53, 54, 55, 56, 62]) (ν := ν) (by repeat' first | assumption | refine gv_up ?_ rfl rfl | refine gv_sx ?_ (by assumption)))  (fun _ => ?_)
        | refine w_at_X3_48 _ (gv_i (E := [1, 2, 3, 4, 5, 6, 7, 48, 49, 52, 53, 54, 55, 56, 62]) (ν := ν) (by repeat' first | assumption | refine gv_up ?_ rfl rfl | refine gv_sx ?_ (by assumption)))  (fun _ => ?_)
        | refine w_at_X3_50 _ (gv_i (E := [1, 2, 3, 4, 5, 6, 7, 48, 49, 52, 53, 54, 55, 56, 62]) (ν := ν) (by repeat' first | assumption | refine gv_up ?_ rfl rfl | refine gv_sx ?_ (by assumption)))  (fun _ => ?_)
        | refine w_at_X3_53 _ (gv_i (E := [1, 2, 3, 4, 5, 6, 7, 48, 49, 52, 53, 54, 55, 56, 62]) (ν := ν) (by repeat' first | assumption | refine gv_up ?_ rfl rfl | refine gv_sx ?_ (by assumption)))  (fun _ => ?_)
        | refine w_at_X3_55 _ (gv_i (E := [1, 2, 3, 4, 5, 6, 7, 48, 49, 52, 53, 54, 55, 56, 62]) (ν := ν) (by repeat' first | assumption | refine gv_up ?_ rfl rfl | refine gv_sx ?_ (by assumption)))  (fun _ => ?_)
        | refine w_at_X3_58 _ (gv_i (E := [1, 2, 3, 4, 5, 6, 7, 48, 49, 52, 53, 54, 55, 56, 62]) (ν := ν) (by repeat' first | assumption | refine gv_up ?_ rfl rfl | refine gv_sx ?_ (by assumption)))  (fun _ => ?_)
        | refine w_at_X3_60 _ (gv_i (E := [1, 2, 3, 4, 5, 6, 7, 48, 49, 52, 53, 54, 55, 56, 62]) (ν := ν) (by repeat' first | assumption | refine gv_up ?_ rfl rfl | refine gv_sx ?_ (by assumption)))  (fun _ => ?_)
        | refine w_at36 _ (gv_i (E := [1, 2, 3, 4, 5, 6, 7, 48, 49, 52, 53, 54, 55, 56, 62]) (ν := ν) (by repeat' first | assumption | refine gv_up ?_ rfl rfl | refine gv_sx ?_ (by assumption))) (fun _ _ _ => ?_) ?_
        | refine gv_up ?_ rfl rfl
        | refine gv_b1 ?_ rfl ?_
        | refine gv_b22 ?_ rfl ?_
        | refine gv_b36 ?_ rfl ?_
        | refine gv_b44 ?_ rfl ?_
        | refine gv_b46 ?_ rfl ?_
        | refine gv_b48 ?_ rfl ?_
        | refine gv_b50 ?_ rfl ?_
        | refine gv_b53 ?_ rfl ?_
        | refine gv_b55 ?_ rfl ?_
        | refine gv_b58 ?_ rfl ?_
        | refine gv_b60 ?_ rfl ?_
        | refine gv_b62 ?_ rfl ?_
        | refine gv_sx ?_ (by assumption)
        | exact sx_rb (by assumption)
        | exact hS.1
        | exact hv0.1
        | refine ih _ _ ?_ ?_ ?_ ?_
        | refine And.intro (fun h => absurd h (by decide)) (fun _ => ?_)
        | refine And.intro (fun _ => ?_) (fun h => absurd (by decide) h)
        | refine And.intro (fun _ => ?_) (fun _ => ?_)
        | refine And.intro ?_ ?_
      all_goals (first | assumption | decide | omega | (split <;> simp only [am_c] at * <;> omega) | (intros; omega) | (simp only [am_c, am_up] at * <;> omega) | (simp [am_c, am_up] at * <;> omega))
  have lp18' : ∀ (i : Int) (μ : am_N) , gv [1, 2, 3, 4, 5, 6, 7, 48, 49, 52, 53, 54, 55, 56, 62] ν μ → 0 ≤ i → i ≤ 6 → am_AW l 0 (fun _ => 0) 45 Q 18 [some (.inr (.inr 48)), some (.inr (.inr 50)), some (.inl i)] [] μ := fun i μ hv0 hv1 hv2 => lp18 ((6 - i) + 1).toNat i μ hv0 hv1 hv2 (by omega)
  refine am_go (ct := fun pc => Nat.beq pc 18) am_oX3_take 300 ?_
  conv => whnf
  repeat' first
    | (refine (?_ : am_wp _ _ _ _ _ _ _ _ _ _ _ _); conv => whnf)
    | (refine (?_ : am_sw _ _ _ _); conv => whnf)
    | refine And.intro trivial ?_
    | exact trivial
    | assumption
    | refine k _ ?_
    | refine w_at_X3_44 _ (gv_i (E := [1, 2, 3, 4, 5, 6, 7, 48, 49, 52, 53, 54, 55, 56, 62]) (ν := ν) (by repeat' first | assumption | refine gv_up ?_ rfl rfl | refine gv_sx ?_ (by assumption)))  (fun _ => ?_)
    | refine w_at_X3_46 _ (gv_i (E := [1, 2, 3, 4, 5, 6, 7, 48, 49, 52, 53, 54, 55, 56, 62]) (ν := ν) (by repeat' first | assumption | refine gv_up ?_ rfl rfl | refine gv_sx ?_ (by assumption)))  (fun _ => ?_)
    | refine w_at_X3_48 _ (gv_i (E := [1, 2, 3, 4, 5, 6, 7, 48, 49, 52, 53, 54, 55, 56, 62]) (ν := ν) (by repeat' first | assumption | refine gv_up ?_ rfl rfl | refine gv_sx ?_ (by assumption)))  (fun _ => ?_)
    | refine w_at_X3_50 _ (gv_i (E := [1, 2, 3, 4, 5, 6, 7, 48, 49, 52, 53, 54, 55, 56, 62]) (ν := ν) (by repeat' first | assumption | refine gv_up ?_ rfl rfl | refine gv_sx ?_ (by assumption)))  (fun _ => ?_)
    | refine w_at_X3_53 _ (gv_i (E := [1, 2, 3, 4, 5, 6, 7, 48, 49, 52, 53, 54, 55, 56, 62]) (ν := ν) (by repeat' first | assumption | refine gv_up ?_ rfl rfl | refine gv_sx ?_ (by assumption)))  (fun _ => ?_)
    | refine w_at_X3_55 _ (gv_i (E := [1, 2, 3, 4, 5, 6, 7, 48, 49, 52, 53, 54, 55, 56, 62]) (ν := ν) (by repeat' first | assumption | refine gv_up ?_ rfl rfl | refine gv_sx ?_ (by assumption)))  (fun _ => ?_)
    | refine w_at_X3_58 _ (gv_i (E := [1, 2, 3, 4, 5, 6, 7, 48, 49, 52, 53, 54, 55, 56, 62]) (ν := ν) (by repeat' first | assumption | refine gv_up ?_ rfl rfl | refine gv_sx ?_ (by assumption)))  (fun _ => ?_)
    | refine w_at_X3_60 _ (gv_i (E := [1, 2, 3, 4, 5, 6, 7, 48, 49, 52, 53, 54, 55, 56, 62]) (ν := ν) (by repeat' first | assumption | refine gv_up ?_ rfl rfl | refine gv_sx ?_ (by assumption)))  (fun _ => ?_)
    | refine w_at36 _ (gv_i (E := [1, 2, 3, 4, 5, 6, 7, 48, 49, 52, 53, 54, 55, 56, 62]) (ν := ν) (by repeat' first | assumption | refine gv_up ?_ rfl rfl | refine gv_sx ?_ (by assumption))) (fun _ _ _ => ?_) ?_
    | refine gv_up ?_ rfl rfl
    | refine gv_b1 ?_ rfl ?_
    | refine gv_b22 ?_ rfl ?_
    | refine gv_b36 ?_ rfl ?_
    | refine gv_b44 ?_ rfl ?_
    | refine gv_b46 ?_ rfl ?_
    | refine gv_b48 ?_ rfl ?_
    | refine gv_b50 ?_ rfl ?_
    | refine gv_b53 ?_ rfl ?_
    | refine gv_b55 ?_ rfl ?_
    | refine gv_b58 ?_ rfl ?_
    | refine gv_b60 ?_ rfl ?_
    | refine gv_b62 ?_ rfl ?_
    | refine gv_sx ?_ (by assumption)
    | exact sx_rb (by assumption)
    | exact hS.1
    | exact hv0.1
    | refine lp18' _ _ ?_ ?_ ?_
    | refine And.intro (fun h => absurd h (by decide)) (fun _ => ?_)
    | refine And.intro (fun _ => ?_) (fun h => absurd (by decide) h)
    | refine And.intro (fun _ => ?_) (fun _ => ?_)
    | refine And.intro ?_ ?_
  all_goals (first | assumption | decide | omega | (split <;> simp only [am_c] at * <;> omega) | (intros; omega) | (simp only [am_c, am_up] at * <;> omega) | (simp [am_c, am_up] at * <;> omega))
theorem v_take_X3_53_58 {l : Launch} {μ : am_N} {Q : Option am_V → am_N → Prop} {ν : am_N}  (hS : gv [1, 2, 3, 4, 5, 6, 7, 48, 49, 52, 53, 54, 55, 56, 62] ν μ)  (k : ∀ μ', gv [1, 2, 3, 4, 5, 6, 7, 48, 49, 52, 53, 54, 55, 56, 62] ν μ' → Q none μ') : am_Does l 45 [.inr (.inr 53), .inr (.inr 58)] μ Q := by
  refine am_Does_of (Nat.le_of_ble_eq_true rfl) (Nat.le_of_ble_eq_true rfl) (Nat.le_of_ble_eq_true rfl) ?_
  have hb := sx_all hS.1
  have lp18 : ∀ (m : Nat) (i : Int) (μ : am_N) , gv [1, 2, 3, 4, 5, 6, 7, 48, 49, 52, 53, 54, 55, 56, 62] ν μ → 0 ≤ i → i ≤ 4 → 4 - i < (m : Int) → am_AW l 0 (fun _ => 0) 45 Q 18 [some (.inr (.inr 53)), some (.inr (.inr 58)), some (.inl i)] [] μ := by
    intro m
    induction m with
    | zero =>
      intro i μ hv0 hv1 hv2 hm
      have hb := sx_all hv0.1
      exfalso
      omega
    | succ m ih =>
      intro i μ hv0 hv1 hv2 hm
      have hb := sx_all hv0.1
      refine am_go (ct := fun pc => Nat.beq pc 18) am_oX3_take 300 ?_
      conv => whnf
      repeat' first
        | (refine (?_ : am_wp _ _ _ _ _ _ _ _ _ _ _ _); conv => whnf)
        | (refine (?_ : am_sw _ _ _ _); conv => whnf)
        | refine And.intro trivial ?_
        | exact trivial
        | assumption
        | refine k _ ?_
        | refine w_at_X3_44 _ (gv_i (E := [1, 2, 3, 4, 5, 6, 7, 48, 49, 52, 53, 54, 55, 56, 62]) (ν := ν) (by repeat' first | assumption | refine gv_up ?_ rfl rfl | refine gv_sx ?_ (by assumption)))  (fun _ => ?_)
        | refine w_at_X3_46 _ (gv_i (E := [1, 2, 3, 4, 5, 6, 7, 48, 49, 52, 53, 54, 55, 56, 62]) (ν := ν) (by repeat' first | assumption | refine gv_up ?_ rfl rfl | refine gv_sx ?_ (by assumption)))  (fun _ => ?_)
        | refine w_at_X3_48 _ (gv_i (E := [1, 2, 3, 4, 5, 6, 7, 48, 49, 52, 53, 54, 55, 56, 62]) (ν := ν) (by repeat' first | assumption | refine gv_up ?_ rfl rfl | refine gv_sx ?_ (by assumption)))  (fun _ => ?_)
        | refine w_at_X3_50 _ (gv_i (E := [1, 2, 3, 4, 5, 6, 7, 48, 49, 52, 53, 54, 55, 56, 62]) (ν := ν) (by repeat' first | assumption | refine gv_up ?_ rfl rfl | refine gv_sx ?_ (by assumption)))  (fun _ => ?_)
        | refine w_at_X3_53 _ (gv_i (E := [1, 2, 3, 4, 5, 6, 7, 48, 49, 52, 53, 54, 55, 56, 62]) (ν := ν) (by repeat' first | assumption | refine gv_up ?_ rfl rfl | refine gv_sx ?_ (by assumption)))  (fun _ => ?_)
        | refine w_at_X3_55 _ (gv_i (E := [1, 2, 3, 4, 5, 6, 7, 48, 49, 52, 53, 54, 55, 56, 62]) (ν := ν) (by repeat' first | assumption | refine gv_up ?_ rfl rfl | refine gv_sx ?_ (by assumption)))  (fun _ => ?_)
        | refine w_at_X3_58 _ (gv_i (E := [1, 2, 3, 4, 5, 6, 7, 48, 49, 52, 53, 54, 55, 56, 62]) (ν := ν) (by repeat' first | assumption | refine gv_up ?_ rfl rfl | refine gv_sx ?_ (by assumption)))  (fun _ => ?_)
        | refine w_at_X3_60 _ (gv_i (E := [1, 2, 3, 4, 5, 6, 7, 48, 49, 52, 53, 54, 55, 56, 62]) (ν := ν) (by repeat' first | assumption | refine gv_up ?_ rfl rfl | refine gv_sx ?_ (by assumption)))  (fun _ => ?_)
        | refine w_at36 _ (gv_i (E := [1, 2, 3, 4, 5, 6, 7, 48, 49, 52, 53, 54, 55, 56, 62]) (ν := ν) (by repeat' first | assumption | refine gv_up ?_ rfl rfl | refine gv_sx ?_ (by assumption))) (fun _ _ _ => ?_) ?_
        | refine gv_up ?_ rfl rfl
        | refine gv_b1 ?_ rfl ?_
        | refine gv_b22 ?_ rfl ?_
        | refine gv_b36 ?_ rfl ?_
        | refine gv_b44 ?_ rfl ?_
        | refine gv_b46 ?_ rfl ?_
        | refine gv_b48 ?_ rfl ?_
        | refine gv_b50 ?_ rfl ?_
        | refine gv_b53 ?_ rfl ?_
        | refine gv_b55 ?_ rfl ?_
        | refine gv_b58 ?_ rfl ?_
        | refine gv_b60 ?_ rfl ?_
        | refine gv_b62 ?_ rfl ?_
        | refine gv_sx ?_ (by assumption)
        | exact sx_rb (by assumption)
        | exact hS.1
        | exact hv0.1
        | refine ih _ _ ?_ ?_ ?_ ?_
        | refine And.intro (fun h => absurd h (by decide)) (fun _ => ?_)
        | refine And.intro (fun _ => ?_) (fun h => absurd (by decide) h)
        | refine And.intro (fun _ => ?_) (fun _ => ?_)
        | refine And.intro ?_ ?_
      all_goals (first | assumption | decide | omega | (split <;> simp only [am_c] at * <;> omega) | (intros; omega) | (simp only [am_c, am_up] at * <;> omega) | (simp [am_c, am_up] at * <;> omega))
  have lp18' : ∀ (i : Int) (μ : am_N) , gv [1, 2, 3, 4, 5, 6, 7, 48, 49, 52, 53, 54, 55, 56, 62] ν μ → 0 ≤ i → i ≤ 4 → am_AW l 0 (fun _ => 0) 45 Q 18 [some (.inr (.inr 53)), some (.inr (.inr 58)), some (.inl i)] [] μ := fun i μ hv0 hv1 hv2 => lp18 ((4 - i) + 1).toNat i μ hv0 hv1 hv2 (by omega)
  refine am_go (ct := fun pc => Nat.beq pc 18) am_oX3_take 300 ?_
  conv => whnf
  repeat' first
    | (refine (?_ : am_wp _ _ _ _ _ _ _ _ _ _ _ _); conv => whnf)
    | (refine (?_ : am_sw _ _ _ _); conv => whnf)
    | refine And.intro trivial ?_
    | exact trivial
    | assumption
    | refine k _ ?_
    | refine w_at_X3_44 _ (gv_i (E := [1, 2, 3, 4, 5, 6, 7, 48, 49, 52, 53, 54, 55, 56, 62]) (ν := ν) (by repeat' first | assumption | refine gv_up ?_ rfl rfl | refine gv_sx ?_ (by assumption)))  (fun _ => ?_)
    | refine w_at_X3_46 _ (gv_i (E := [1, 2, 3, 4, 5, 6, 7, 48, 49, 52, 53, 54, 55, 56, 62]) (ν := ν) (by repeat' first | assumption | refine gv_up ?_ rfl rfl | refine gv_sx ?_ (by assumption)))  (fun _ => ?_)
    | refine w_at_X3_48 _ (gv_i (E := [1, 2, 3, 4, 5, 6, 7, 48, 49, 52, 53, 54, 55, 56, 62]) (ν := ν) (by repeat' first | assumption | refine gv_up ?_ rfl rfl | refine gv_sx ?_ (by assumption)))  (fun _ => ?_)
    | refine w_at_X3_50 _ (gv_i (E := [1, 2, 3, 4, 5, 6, 7, 48, 49, 52, 53, 54, 55, 56, 62]) (ν := ν) (by repeat' first | assumption | refine gv_up ?_ rfl rfl | refine gv_sx ?_ (by assumption)))  (fun _ => ?_)
    | refine w_at_X3_53 _ (gv_i (E := [1, 2, 3, 4, 5, 6, 7, 48, 49, 52, 53, 54, 55, 56, 62]) (ν := ν) (by repeat' first | assumption | refine gv_up ?_ rfl rfl | refine gv_sx ?_ (by assumption)))  (fun _ => ?_)
    | refine w_at_X3_55 _ (gv_i (E := [1, 2, 3, 4, 5, 6, 7, 48, 49, 52, 53, 54, 55, 56, 62]) (ν := ν) (by repeat' first | assumption | refine gv_up ?_ rfl rfl | refine gv_sx ?_ (by assumption)))  (fun _ => ?_)
    | refine w_at_X3_58 _ (gv_i (E := [1, 2, 3, 4, 5, 6, 7, 48, 49, 52, 53, 54, 55, 56, 62]) (ν := ν) (by repeat' first | assumption | refine gv_up ?_ rfl rfl | refine gv_sx ?_ (by assumption)))  (fun _ => ?_)
    | refine w_at_X3_60 _ (gv_i (E := [1, 2, 3, 4, 5, 6, 7, 48, 49, 52, 53, 54, 55, 56, 62]) (ν := ν) (by repeat' first | assumption | refine gv_up ?_ rfl rfl | refine gv_sx ?_ (by assumption)))  (fun _ => ?_)
    | refine w_at36 _ (gv_i (E := [1, 2, 3, 4, 5, 6, 7, 48, 49, 52, 53, 54, 55, 56, 62]) (ν := ν) (by repeat' first | assumption | refine gv_up ?_ rfl rfl | refine gv_sx ?_ (by assumption))) (fun _ _ _ => ?_) ?_
    | refine gv_up ?_ rfl rfl
    | refine gv_b1 ?_ rfl ?_
    | refine gv_b22 ?_ rfl ?_
    | refine gv_b36 ?_ rfl ?_
    | refine gv_b44 ?_ rfl ?_
    | refine gv_b46 ?_ rfl ?_
    | refine gv_b48 ?_ rfl ?_
    | refine gv_b50 ?_ rfl ?_
    | refine gv_b53 ?_ rfl ?_
    | refine gv_b55 ?_ rfl ?_
    | refine gv_b58 ?_ rfl ?_
    | refine gv_b60 ?_ rfl ?_
    | refine gv_b62 ?_ rfl ?_
    | refine gv_sx ?_ (by assumption)
    | exact sx_rb (by assumption)
    | exact hS.1
    | exact hv0.1
    | refine lp18' _ _ ?_ ?_ ?_
    | refine And.intro (fun h => absurd h (by decide)) (fun _ => ?_)
    | refine And.intro (fun _ => ?_) (fun h => absurd (by decide) h)
    | refine And.intro (fun _ => ?_) (fun _ => ?_)
    | refine And.intro ?_ ?_
  all_goals (first | assumption | decide | omega | (split <;> simp only [am_c] at * <;> omega) | (intros; omega) | (simp only [am_c, am_up] at * <;> omega) | (simp [am_c, am_up] at * <;> omega))
theorem v_take_X3_55_60 {l : Launch} {μ : am_N} {Q : Option am_V → am_N → Prop} {ν : am_N}  (hS : gv [1, 2, 3, 4, 5, 6, 7, 48, 49, 52, 53, 54, 55, 56, 62] ν μ)  (k : ∀ μ', gv [1, 2, 3, 4, 5, 6, 7, 48, 49, 52, 53, 54, 55, 56, 62] ν μ' → Q none μ') : am_Does l 45 [.inr (.inr 55), .inr (.inr 60)] μ Q := by
  refine am_Does_of (Nat.le_of_ble_eq_true rfl) (Nat.le_of_ble_eq_true rfl) (Nat.le_of_ble_eq_true rfl) ?_
  have hb := sx_all hS.1
  have lp18 : ∀ (m : Nat) (i : Int) (μ : am_N) , gv [1, 2, 3, 4, 5, 6, 7, 48, 49, 52, 53, 54, 55, 56, 62] ν μ → 0 ≤ i → i ≤ 4 → 4 - i < (m : Int) → am_AW l 0 (fun _ => 0) 45 Q 18 [some (.inr (.inr 55)), some (.inr (.inr 60)), some (.inl i)] [] μ := by
    intro m
    induction m with
    | zero =>
      intro i μ hv0 hv1 hv2 hm
      have hb := sx_all hv0.1
      exfalso
      omega
    | succ m ih =>
      intro i μ hv0 hv1 hv2 hm
      have hb := sx_all hv0.1
      refine am_go (ct := fun pc => Nat.beq pc 18) am_oX3_take 300 ?_
      conv => whnf
      repeat' first
        | (refine (?_ : am_wp _ _ _ _ _ _ _ _ _ _ _ _); conv => whnf)
        | (refine (?_ : am_sw _ _ _ _); conv => whnf)
        | refine And.intro trivial ?_
        | exact trivial
        | assumption
        | refine k _ ?_
        | refine w_at_X3_44 _ (gv_i (E := [1, 2, 3, 4, 5, 6, 7, 48, 49, 52, 53, 54, 55, 56, 62]) (ν := ν) (by repeat' first | assumption | refine gv_up ?_ rfl rfl | refine gv_sx ?_ (by assumption)))  (fun _ => ?_)
        | refine w_at_X3_46 _ (gv_i (E := [1, 2, 3, 4, 5, 6, 7, 48, 49, 52, 53, 54, 55, 56, 62]) (ν := ν) (by repeat' first | assumption | refine gv_up ?_ rfl rfl | refine gv_sx ?_ (by assumption)))  (fun _ => ?_)
        | refine w_at_X3_48 _ (gv_i (E := [1, 2, 3, 4, 5, 6, 7, 48, 49, 52, 53, 54, 55, 56, 62]) (ν := ν) (by repeat' first | assumption | refine gv_up ?_ rfl rfl | refine gv_sx ?_ (by assumption)))  (fun _ => ?_)
        | refine w_at_X3_50 _ (gv_i (E := [1, 2, 3, 4, 5, 6, 7, 48, 49, 52, 53, 54, 55, 56, 62]) (ν := ν) (by repeat' first | assumption | refine gv_up ?_ rfl rfl | refine gv_sx ?_ (by assumption)))  (fun _ => ?_)
        | refine w_at_X3_53 _ (gv_i (E := [1, 2, 3, 4, 5, 6, 7, 48, 49, 52, 53, 54, 55, 56, 62]) (ν := ν) (by repeat' first | assumption | refine gv_up ?_ rfl rfl | refine gv_sx ?_ (by assumption)))  (fun _ => ?_)
        | refine w_at_X3_55 _ (gv_i (E := [1, 2, 3, 4, 5, 6, 7, 48, 49, 52, 53, 54, 55, 56, 62]) (ν := ν) (by repeat' first | assumption | refine gv_up ?_ rfl rfl | refine gv_sx ?_ (by assumption)))  (fun _ => ?_)
        | refine w_at_X3_58 _ (gv_i (E := [1, 2, 3, 4, 5, 6, 7, 48, 49, 52, 53, 54, 55, 56, 62]) (ν := ν) (by repeat' first | assumption | refine gv_up ?_ rfl rfl | refine gv_sx ?_ (by assumption)))  (fun _ => ?_)
        | refine w_at_X3_60 _ (gv_i (E := [1, 2, 3, 4, 5, 6, 7, 48, 49, 52, 53, 54, 55, 56, 62]) (ν := ν) (by repeat' first | assumption | refine gv_up ?_ rfl rfl | refine gv_sx ?_ (by assumption)))  (fun _ => ?_)
        | refine w_at36 _ (gv_i (E := [1, 2, 3, 4, 5, 6, 7, 48, 49, 52, 53, 54, 55, 56, 62]) (ν := ν) (by repeat' first | assumption | refine gv_up ?_ rfl rfl | refine gv_sx ?_ (by assumption))) (fun _ _ _ => ?_) ?_
        | refine gv_up ?_ rfl rfl
        | refine gv_b1 ?_ rfl ?_
        | refine gv_b22 ?_ rfl ?_
        | refine gv_b36 ?_ rfl ?_
        | refine gv_b44 ?_ rfl ?_
        | refine gv_b46 ?_ rfl ?_
        | refine gv_b48 ?_ rfl ?_
        | refine gv_b50 ?_ rfl ?_
        | refine gv_b53 ?_ rfl ?_
        | refine gv_b55 ?_ rfl ?_
        | refine gv_b58 ?_ rfl ?_
        | refine gv_b60 ?_ rfl ?_
        | refine gv_b62 ?_ rfl ?_
        | refine gv_sx ?_ (by assumption)
        | exact sx_rb (by assumption)
        | exact hS.1
        | exact hv0.1
        | refine ih _ _ ?_ ?_ ?_ ?_
        | refine And.intro (fun h => absurd h (by decide)) (fun _ => ?_)
        | refine And.intro (fun _ => ?_) (fun h => absurd (by decide) h)
        | refine And.intro (fun _ => ?_) (fun _ => ?_)
        | refine And.intro ?_ ?_
      all_goals (first | assumption | decide | omega | (split <;> simp only [am_c] at * <;> omega) | (intros; omega) | (simp only [am_c, am_up] at * <;> omega) | (simp [am_c, am_up] at * <;> omega))
  have lp18' : ∀ (i : Int) (μ : am_N) , gv [1, 2, 3, 4, 5, 6, 7, 48, 49, 52, 53, 54, 55, 56, 62] ν μ → 0 ≤ i → i ≤ 4 → am_AW l 0 (fun _ => 0) 45 Q 18 [some (.inr (.inr 55)), some (.inr (.inr 60)), some (.inl i)] [] μ := fun i μ hv0 hv1 hv2 => lp18 ((4 - i) + 1).toNat i μ hv0 hv1 hv2 (by omega)
  refine am_go (ct := fun pc => Nat.beq pc 18) am_oX3_take 300 ?_
  conv => whnf
  repeat' first
    | (refine (?_ : am_wp _ _ _ _ _ _ _ _ _ _ _ _); conv => whnf)
    | (refine (?_ : am_sw _ _ _ _); conv => whnf)
    | refine And.intro trivial ?_
    | exact trivial
    | assumption
    | refine k _ ?_
    | refine w_at_X3_44 _ (gv_i (E := [1, 2, 3, 4, 5, 6, 7, 48, 49, 52, 53, 54, 55, 56, 62]) (ν := ν) (by repeat' first | assumption | refine gv_up ?_ rfl rfl | refine gv_sx ?_ (by assumption)))  (fun _ => ?_)
    | refine w_at_X3_46 _ (gv_i (E := [1, 2, 3, 4, 5, 6, 7, 48, 49, 52, 53, 54, 55, 56, 62]) (ν := ν) (by repeat' first | assumption | refine gv_up ?_ rfl rfl | refine gv_sx ?_ (by assumption)))  (fun _ => ?_)
    | refine w_at_X3_48 _ (gv_i (E := [1, 2, 3, 4, 5, 6, 7, 48, 49, 52, 53, 54, 55, 56, 62]) (ν := ν) (by repeat' first | assumption | refine gv_up ?_ rfl rfl | refine gv_sx ?_ (by assumption)))  (fun _ => ?_)
    | refine w_at_X3_50 _ (gv_i (E := [1, 2, 3, 4, 5, 6, 7, 48, 49, 52, 53, 54, 55, 56, 62]) (ν := ν) (by repeat' first | assumption | refine gv_up ?_ rfl rfl | refine gv_sx ?_ (by assumption)))  (fun _ => ?_)
    | refine w_at_X3_53 _ (gv_i (E := [1, 2, 3, 4, 5, 6, 7, 48, 49, 52, 53, 54, 55, 56, 62]) (ν := ν) (by repeat' first | assumption | refine gv_up ?_ rfl rfl | refine gv_sx ?_ (by assumption)))  (fun _ => ?_)
    | refine w_at_X3_55 _ (gv_i (E := [1, 2, 3, 4, 5, 6, 7, 48, 49, 52, 53, 54, 55, 56, 62]) (ν := ν) (by repeat' first | assumption | refine gv_up ?_ rfl rfl | refine gv_sx ?_ (by assumption)))  (fun _ => ?_)
    | refine w_at_X3_58 _ (gv_i (E := [1, 2, 3, 4, 5, 6, 7, 48, 49, 52, 53, 54, 55, 56, 62]) (ν := ν) (by repeat' first | assumption | refine gv_up ?_ rfl rfl | refine gv_sx ?_ (by assumption)))  (fun _ => ?_)
    | refine w_at_X3_60 _ (gv_i (E := [1, 2, 3, 4, 5, 6, 7, 48, 49, 52, 53, 54, 55, 56, 62]) (ν := ν) (by repeat' first | assumption | refine gv_up ?_ rfl rfl | refine gv_sx ?_ (by assumption)))  (fun _ => ?_)
    | refine w_at36 _ (gv_i (E := [1, 2, 3, 4, 5, 6, 7, 48, 49, 52, 53, 54, 55, 56, 62]) (ν := ν) (by repeat' first | assumption | refine gv_up ?_ rfl rfl | refine gv_sx ?_ (by assumption))) (fun _ _ _ => ?_) ?_
    | refine gv_up ?_ rfl rfl
    | refine gv_b1 ?_ rfl ?_
    | refine gv_b22 ?_ rfl ?_
    | refine gv_b36 ?_ rfl ?_
    | refine gv_b44 ?_ rfl ?_
    | refine gv_b46 ?_ rfl ?_
    | refine gv_b48 ?_ rfl ?_
    | refine gv_b50 ?_ rfl ?_
    | refine gv_b53 ?_ rfl ?_
    | refine gv_b55 ?_ rfl ?_
    | refine gv_b58 ?_ rfl ?_
    | refine gv_b60 ?_ rfl ?_
    | refine gv_b62 ?_ rfl ?_
    | refine gv_sx ?_ (by assumption)
    | exact sx_rb (by assumption)
    | exact hS.1
    | exact hv0.1
    | refine lp18' _ _ ?_ ?_ ?_
    | refine And.intro (fun h => absurd h (by decide)) (fun _ => ?_)
    | refine And.intro (fun _ => ?_) (fun h => absurd (by decide) h)
    | refine And.intro (fun _ => ?_) (fun _ => ?_)
    | refine And.intro ?_ ?_
  all_goals (first | assumption | decide | omega | (split <;> simp only [am_c] at * <;> omega) | (intros; omega) | (simp only [am_c, am_up] at * <;> omega) | (simp [am_c, am_up] at * <;> omega))
theorem v_take_X1_57_52 {l : Launch} {μ : am_N} {Q : Option am_V → am_N → Prop} {ν : am_N}  (hS : gv [22, 23, 24, 25, 26, 27, 28, 50, 51, 57, 58, 59, 60, 61, 0] ν μ)  (k : ∀ μ', gv [22, 23, 24, 25, 26, 27, 28, 50, 51, 57, 58, 59, 60, 61, 0] ν μ' → Q none μ') : am_Does l 18 [.inr (.inr 57), .inr (.inr 52)] μ Q := by
  refine am_Does_of (Nat.le_of_ble_eq_true rfl) (Nat.le_of_ble_eq_true rfl) (Nat.le_of_ble_eq_true rfl) ?_
  have hb := sx_all hS.1
  refine am_go (ct := fun _ => false) am_oX1_take 300 ?_
  conv => whnf
  repeat' first
    | (refine (?_ : am_wp _ _ _ _ _ _ _ _ _ _ _ _); conv => whnf)
    | (refine (?_ : am_sw _ _ _ _); conv => whnf)
    | refine And.intro trivial ?_
    | exact trivial
    | assumption
    | refine k _ ?_
    | refine v_take_X3_58_53 (ν := ν)  ?_  (fun _ _ => ?_)
    | refine v_take_X3_60_55 (ν := ν)  ?_  (fun _ _ => ?_)
    | refine gv_up ?_ rfl rfl
    | refine gv_b1 ?_ rfl ?_
    | refine gv_b22 ?_ rfl ?_
    | refine gv_b36 ?_ rfl ?_
    | refine gv_b44 ?_ rfl ?_
    | refine gv_b46 ?_ rfl ?_
    | refine gv_b48 ?_ rfl ?_
    | refine gv_b50 ?_ rfl ?_
    | refine gv_b53 ?_ rfl ?_
    | refine gv_b55 ?_ rfl ?_
    | refine gv_b58 ?_ rfl ?_
    | refine gv_b60 ?_ rfl ?_
    | refine gv_b62 ?_ rfl ?_
    | refine gv_sx ?_ (by assumption)
    | exact sx_rb (by assumption)
    | exact hS.1
    | exact hv0.1
    | refine And.intro (fun h => absurd h (by decide)) (fun _ => ?_)
    | refine And.intro (fun _ => ?_) (fun h => absurd (by decide) h)
    | refine And.intro (fun _ => ?_) (fun _ => ?_)
    | refine And.intro ?_ ?_
  all_goals (first | assumption | decide | omega | (intros; omega) | (intros; simp only [am_c] at * <;> omega) | (simp only [am_c, am_up] at * <;> omega) | (simp [am_c, am_up] at * <;> omega))
theorem v_take_X1_52_57 {l : Launch} {μ : am_N} {Q : Option am_V → am_N → Prop} {ν : am_N}  (hS : gv [1, 2, 3, 4, 5, 6, 7, 48, 49, 52, 53, 54, 55, 56, 62] ν μ)  (k : ∀ μ', gv [1, 2, 3, 4, 5, 6, 7, 48, 49, 52, 53, 54, 55, 56, 62] ν μ' → Q none μ') : am_Does l 18 [.inr (.inr 52), .inr (.inr 57)] μ Q := by
  refine am_Does_of (Nat.le_of_ble_eq_true rfl) (Nat.le_of_ble_eq_true rfl) (Nat.le_of_ble_eq_true rfl) ?_
  have hb := sx_all hS.1
  refine am_go (ct := fun _ => false) am_oX1_take 300 ?_
  conv => whnf
  repeat' first
    | (refine (?_ : am_wp _ _ _ _ _ _ _ _ _ _ _ _); conv => whnf)
    | (refine (?_ : am_sw _ _ _ _); conv => whnf)
    | refine And.intro trivial ?_
    | exact trivial
    | assumption
    | refine k _ ?_
    | refine v_take_X3_53_58 (ν := ν)  ?_  (fun _ _ => ?_)
    | refine v_take_X3_55_60 (ν := ν)  ?_  (fun _ _ => ?_)
    | refine gv_up ?_ rfl rfl
    | refine gv_b1 ?_ rfl ?_
    | refine gv_b22 ?_ rfl ?_
    | refine gv_b36 ?_ rfl ?_
    | refine gv_b44 ?_ rfl ?_
    | refine gv_b46 ?_ rfl ?_
    | refine gv_b48 ?_ rfl ?_
    | refine gv_b50 ?_ rfl ?_
    | refine gv_b53 ?_ rfl ?_
    | refine gv_b55 ?_ rfl ?_
    | refine gv_b58 ?_ rfl ?_
    | refine gv_b60 ?_ rfl ?_
    | refine gv_b62 ?_ rfl ?_
    | refine gv_sx ?_ (by assumption)
    | exact sx_rb (by assumption)
    | exact hS.1
    | exact hv0.1
    | refine And.intro (fun h => absurd h (by decide)) (fun _ => ?_)
    | refine And.intro (fun _ => ?_) (fun h => absurd (by decide) h)
    | refine And.intro (fun _ => ?_) (fun _ => ?_)
    | refine And.intro ?_ ?_
  all_goals (first | assumption | decide | omega | (intros; omega) | (intros; simp only [am_c] at * <;> omega) | (simp only [am_c, am_up] at * <;> omega) | (simp [am_c, am_up] at * <;> omega))
