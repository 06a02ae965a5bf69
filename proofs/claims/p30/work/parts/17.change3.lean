theorem v_more_X0_1 {l : Launch} {μ : am_N} {Q : Option am_V → am_N → Prop} {ν : am_N} (i v : Int) (hS : gv [1, 6, 7, 62, 63, 64, 65, 66, 67, 68, 69, 70, 71, 72, 73, 74, 75, 76, 77] ν μ)  (k : ∀ μ', gv [1, 6, 7, 62, 63, 64, 65, 66, 67, 68, 69, 70, 71, 72, 73, 74, 75, 76, 77] ν μ' → Q none μ') : am_Does l 11 [.inr (.inr 1), .inl i, .inl v] μ Q := by
  refine am_Does_of (Nat.le_of_ble_eq_true rfl) (Nat.le_of_ble_eq_true rfl) (Nat.le_of_ble_eq_true rfl) ?_
  have hb := sx_all hS.1
  refine am_go (ct := fun _ => false) am_oX0_more 300 ?_
  conv => whnf
  repeat' first
    | (refine (?_ : am_wp _ _ _ _ _ _ _ _ _ _ _ _); conv => whnf)
    | (refine (?_ : am_sw _ _ _ _); conv => whnf)
    | refine And.intro trivial ?_
    | exact trivial
    | assumption
    | refine k _ ?_
    | refine gv_up ?_ rfl rfl
    | refine gv_b1 ?_ rfl ?_
    | refine gv_b22 ?_ rfl ?_
    | refine gv_b36 ?_ rfl ?_
    | refine gv_b44 ?_ rfl ?_
    | refine gv_b46 ?_ rfl ?_
    | refine gv_b48 ?_ rfl ?_
    | refine gv_b50 ?_ rfl ?_
    | refine gv_b53 ?_ rfl ?_
    | refine gv_b55 ?_ rfl ?_
    | refine gv_b58 ?_ rfl ?_
    | refine gv_b60 ?_ rfl ?_
    | refine gv_b62 ?_ rfl ?_
    | refine gv_sx ?_ (by assumption)
    | exact sx_rb (by assumption)
    | exact hS.1
    | exact hv0.1
    | refine And.intro (fun h => absurd h (by decide)) (fun _ => ?_)
    | refine And.intro (fun _ => ?_) (fun h => absurd (by decide) h)
    | refine And.intro (fun _ => ?_) (fun _ => ?_)
    | refine And.intro ?_ ?_
  all_goals (first | assumption | decide | omega | (intros; omega) | (intros; simp only [am_c] at * <;> omega) | (simp only [am_c, am_up] at * <;> omega) | (simp [am_c, am_up] at * <;> omega))
theorem v_mend_X0_1 {l : Launch} {μ : am_N} {Q : Option am_V → am_N → Prop} {ν : am_N} (a b : Int) (hS : gv [1, 6, 7, 62, 63, 64, 65, 66, 67, 68, 69, 70, 71, 72, 73, 74, 75, 76, 77] ν μ)  (k : ∀ μ', gv [1, 6, 7, 62, 63, 64, 65, 66, 67, 68, 69, 70, 71, 72, 73, 74, 75, 76, 77] ν μ' → Q none μ') : am_Does l 12 [.inr (.inr 1), .inl a, .inl b] μ Q := by
  refine am_Does_of (Nat.le_of_ble_eq_true rfl) (Nat.le_of_ble_eq_true rfl) (Nat.le_of_ble_eq_true rfl) ?_
  have hb := sx_all hS.1
  have lp61 : ∀ (m : Nat) (i : Int) (μ : am_N) , gv [1, 6, 7, 62, 63, 64, 65, 66, 67, 68, 69, 70, 71, 72, 73, 74, 75, 76, 77] ν μ → 0 ≤ i → i ≤ 4 → 4 - i < (m : Int) → am_AW l 0 (fun _ => 0) 12 Q 61 [some (.inr (.inr 1)), some (.inl a), some (.inl b), some (.inl i)] [] μ := by
    intro m
    induction m with
    | zero =>
      intro i μ hv0 hv1 hv2 hm
      have hb := sx_all hv0.1
      exfalso
      omega
    | succ m ih =>
      intro i μ hv0 hv1 hv2 hm
      have hb := sx_all hv0.1
      refine am_go (ct := fun pc => Nat.beq pc 61 || Nat.beq pc 59 || Nat.beq pc 34) am_oX0_mend 300 ?_
      conv => whnf
      repeat' first
        | (refine (?_ : am_wp _ _ _ _ _ _ _ _ _ _ _ _); conv => whnf)
        | (refine (?_ : am_sw _ _ _ _); conv => whnf)
        | refine And.intro trivial ?_
        | exact trivial
        | assumption
        | refine k _ ?_
        | refine v_more_X0_1 (ν := ν) _ _ ?_  (fun _ _ => ?_)
        | refine w_more_X0_8 _ _ (gv_i (E := [1, 6, 7, 62, 63, 64, 65, 66, 67, 68, 69, 70, 71, 72, 73, 74, 75, 76, 77]) (ν := ν) (by repeat' first | assumption | refine gv_up ?_ rfl rfl | refine gv_sx ?_ (by assumption)))  (fun _ _ => ?_)
        | refine w_more_X0_15 _ _ (gv_i (E := [1, 6, 7, 62, 63, 64, 65, 66, 67, 68, 69, 70, 71, 72, 73, 74, 75, 76, 77]) (ν := ν) (by repeat' first | assumption | refine gv_up ?_ rfl rfl | refine gv_sx ?_ (by assumption)))  (fun _ _ => ?_)
        | refine gv_up ?_ rfl rfl
        | refine gv_b1 ?_ rfl ?_
        | refine gv_b22 ?_ rfl ?_
        | refine gv_b36 ?_ rfl ?_
        | refine gv_b44 ?_ rfl ?_
        | refine gv_b46 ?_ rfl ?_
        | refine gv_b48 ?_ rfl ?_
        | refine gv_b50 ?_ rfl ?_
        | refine gv_b53 ?_ rfl ?_
        | refine gv_b55 ?_ rfl ?_
        | refine gv_b58 ?_ rfl ?_
        | refine gv_b60 ?_ rfl ?_
        | refine gv_b62 ?_ rfl ?_
        | refine gv_sx ?_ (by assumption)
        | exact sx_rb (by assumption)
        | exact hS.1
        | exact hv0.1
        | refine ih _ _ ?_ ?_ ?_ ?_
        | refine And.intro (fun h => absurd h (by decide)) (fun _ => ?_)
        | refine And.intro (fun _ => ?_) (fun h => absurd (by decide) h)
        | refine And.intro (fun _ => ?_) (fun _ => ?_)
        | refine And.intro ?_ ?_
      all_goals (first | assumption | decide | omega | (intros; omega) | (intros; simp only [am_c] at * <;> omega) | (simp only [am_c, am_up] at * <;> omega) | (simp [am_c, am_up] at * <;> omega))
  have lp61' : ∀ (i : Int) (μ : am_N) , gv [1, 6, 7, 62, 63, 64, 65, 66, 67, 68, 69, 70, 71, 72, 73, 74, 75, 76, 77] ν μ → 0 ≤ i → i ≤ 4 → am_AW l 0 (fun _ => 0) 12 Q 61 [some (.inr (.inr 1)), some (.inl a), some (.inl b), some (.inl i)] [] μ := fun i μ hv0 hv1 hv2 => lp61 ((4 - i) + 1).toNat i μ hv0 hv1 hv2 (by omega)
  have lp59 : ∀  (μ : am_N), gv [1, 6, 7, 62, 63, 64, 65, 66, 67, 68, 69, 70, 71, 72, 73, 74, 75, 76, 77] ν μ → am_AW l 0 (fun _ => 0) 12 Q 59 [some (.inr (.inr 1)), some (.inl a), some (.inl b), none] [] μ := by
    intro  μ hv0
    refine am_go (ct := fun pc => Nat.beq pc 61 || Nat.beq pc 59 || Nat.beq pc 34) am_oX0_mend 300 ?_
    conv => whnf
    repeat' first
      | (refine (?_ : am_wp _ _ _ _ _ _ _ _ _ _ _ _); conv => whnf)
      | (refine (?_ : am_sw _ _ _ _); conv => whnf)
      | refine And.intro trivial ?_
      | exact trivial
      | assumption
      | refine k _ ?_
      | refine v_more_X0_1 (ν := ν) _ _ ?_  (fun _ _ => ?_)
      | refine w_more_X0_8 _ _ (gv_i (E := [1, 6, 7, 62, 63, 64, 65, 66, 67, 68, 69, 70, 71, 72, 73, 74, 75, 76, 77]) (ν := ν) (by repeat' first | assumption | refine gv_up ?_ rfl rfl | refine gv_sx ?_ (by assumption)))  (fun _ _ => ?_)
      | refine w_more_X0_15 _ _ (gv_i (E := [1, 6, 7, 62, 63, 64, 65, 66, 67, 68, 69, 70, 71, 72, 73, 74, 75, 76, 77]) (ν := ν) (by repeat' first | assumption | refine gv_up ?_ rfl rfl | refine gv_sx ?_ (by assumption)))  (fun _ _ => ?_)
      | refine gv_up ?_ rfl rfl
      | refine gv_b1 ?_ rfl ?_
      | refine gv_b22 ?_ rfl ?_
      | refine gv_b36 ?_ rfl ?_
      | refine gv_b44 ?_ rfl ?_
      | refine gv_b46 ?_ rfl ?_
      | refine gv_b48 ?_ rfl ?_
      | refine gv_b50 ?_ rfl ?_
      | refine gv_b53 ?_ rfl ?_
      | refine gv_b55 ?_ rfl ?_
      | refine gv_b58 ?_ rfl ?_
      | refine gv_b60 ?_ rfl ?_
      | refine gv_b62 ?_ rfl ?_
      | refine gv_sx ?_ (by assumption)
      | exact sx_rb (by assumption)
      | exact hS.1
      | exact hv0.1
      | refine lp61' _ _ ?_ ?_ ?_
      | refine And.intro (fun h => absurd h (by decide)) (fun _ => ?_)
      | refine And.intro (fun _ => ?_) (fun h => absurd (by decide) h)
      | refine And.intro (fun _ => ?_) (fun _ => ?_)
      | refine And.intro ?_ ?_
    all_goals (first | assumption | decide | omega | (intros; omega) | (intros; simp only [am_c] at * <;> omega) | (simp only [am_c, am_up] at * <;> omega) | (simp [am_c, am_up] at * <;> omega))
  have lp34 : ∀  (μ : am_N), gv [1, 6, 7, 62, 63, 64, 65, 66, 67, 68, 69, 70, 71, 72, 73, 74, 75, 76, 77] ν μ → am_AW l 0 (fun _ => 0) 12 Q 34 [some (.inr (.inr 1)), some (.inl a), some (.inl b), none] [] μ := by
    intro  μ hv0
    refine am_go (ct := fun pc => Nat.beq pc 61 || Nat.beq pc 59 || Nat.beq pc 34) am_oX0_mend 300 ?_
    conv => whnf
    repeat' first
      | (refine (?_ : am_wp _ _ _ _ _ _ _ _ _ _ _ _); conv => whnf)
      | (refine (?_ : am_sw _ _ _ _); conv => whnf)
      | refine And.intro trivial ?_
      | exact trivial
      | assumption
      | refine k _ ?_
      | refine v_more_X0_1 (ν := ν) _ _ ?_  (fun _ _ => ?_)
      | refine w_more_X0_8 _ _ (gv_i (E := [1, 6, 7, 62, 63, 64, 65, 66, 67, 68, 69, 70, 71, 72, 73, 74, 75, 76, 77]) (ν := ν) (by repeat' first | assumption | refine gv_up ?_ rfl rfl | refine gv_sx ?_ (by assumption)))  (fun _ _ => ?_)
      | refine w_more_X0_15 _ _ (gv_i (E := [1, 6, 7, 62, 63, 64, 65, 66, 67, 68, 69, 70, 71, 72, 73, 74, 75, 76, 77]) (ν := ν) (by repeat' first | assumption | refine gv_up ?_ rfl rfl | refine gv_sx ?_ (by assumption)))  (fun _ _ => ?_)
      | refine gv_up ?_ rfl rfl
      | refine gv_b1 ?_ rfl ?_
      | refine gv_b22 ?_ rfl ?_
      | refine gv_b36 ?_ rfl ?_
      | refine gv_b44 ?_ rfl ?_
      | refine gv_b46 ?_ rfl ?_
      | refine gv_b48 ?_ rfl ?_
      | refine gv_b50 ?_ rfl ?_
      | refine gv_b53 ?_ rfl ?_
      | refine gv_b55 ?_ rfl ?_
      | refine gv_b58 ?_ rfl ?_
      | refine gv_b60 ?_ rfl ?_
      | refine gv_b62 ?_ rfl ?_
      | refine gv_sx ?_ (by assumption)
      | exact sx_rb (by assumption)
      | exact hS.1
      | exact hv0.1
      | refine lp59  _ ?_
      | refine lp61' _ _ ?_ ?_ ?_
      | refine And.intro (fun h => absurd h (by decide)) (fun _ => ?_)
      | refine And.intro (fun _ => ?_) (fun h => absurd (by decide) h)
      | refine And.intro (fun _ => ?_) (fun _ => ?_)
      | refine And.intro ?_ ?_
    all_goals (first | assumption | decide | omega | (intros; omega) | (intros; simp only [am_c] at * <;> omega) | (simp only [am_c, am_up] at * <;> omega) | (simp [am_c, am_up] at * <;> omega))
  refine am_go (ct := fun pc => Nat.beq pc 61 || Nat.beq pc 59 || Nat.beq pc 34) am_oX0_mend 300 ?_
  conv => whnf
  repeat' first
    | (refine (?_ : am_wp _ _ _ _ _ _ _ _ _ _ _ _); conv => whnf)
    | (refine (?_ : am_sw _ _ _ _); conv => whnf)
    | refine And.intro trivial ?_
    | exact trivial
    | assumption
    | refine k _ ?_
    | refine v_more_X0_1 (ν := ν) _ _ ?_  (fun _ _ => ?_)
    | refine w_more_X0_8 _ _ (gv_i (E := [1, 6, 7, 62, 63, 64, 65, 66, 67, 68, 69, 70, 71, 72, 73, 74, 75, 76, 77]) (ν := ν) (by repeat' first | assumption | refine gv_up ?_ rfl rfl | refine gv_sx ?_ (by assumption)))  (fun _ _ => ?_)
    | refine w_more_X0_15 _ _ (gv_i (E := [1, 6, 7, 62, 63, 64, 65, 66, 67, 68, 69, 70, 71, 72, 73, 74, 75, 76, 77]) (ν := ν) (by repeat' first | assumption | refine gv_up ?_ rfl rfl | refine gv_sx ?_ (by assumption)))  (fun _ _ => ?_)
    | refine gv_up ?_ rfl rfl
    | refine gv_b1 ?_ rfl ?_
    | refine gv_b22 ?_ rfl ?_
    | refine gv_b36 ?_ rfl ?_
    | refine gv_b44 ?_ rfl ?_
    | refine gv_b46 ?_ rfl ?_
    | refine gv_b48 ?_ rfl ?_
    | refine gv_b50 ?_ rfl ?_
    | refine gv_b53 ?_ rfl ?_
    | refine gv_b55 ?_ rfl ?_
    | refine gv_b58 ?_ rfl ?_
    | refine gv_b60 ?_ rfl ?_
    | refine gv_b62 ?_ rfl ?_
    | refine gv_sx ?_ (by assumption)
    | exact sx_rb (by assumption)
    | exact hS.1
    | exact hv0.1
    | refine lp34  _ ?_
    | refine lp59  _ ?_
    | refine lp61' _ _ ?_ ?_ ?_
    | refine And.intro (fun h => absurd h (by decide)) (fun _ => ?_)
    | refine And.intro (fun _ => ?_) (fun h => absurd (by decide) h)
    | refine And.intro (fun _ => ?_) (fun _ => ?_)
    | refine And.intro ?_ ?_
  all_goals (first | assumption | decide | omega | (intros; omega) | (intros; simp only [am_c] at * <;> omega) | (simp only [am_c, am_up] at * <;> omega) | (simp [am_c, am_up] at * <;> omega))
theorem v_behind_X2_1 {l : Launch} {μ : am_N} {Q : Option am_V → am_N → Prop} {ν : am_N}  (hS : gv [1, 6, 7, 62, 63, 64, 65, 66, 67, 68, 69, 70, 71, 72, 73, 74, 75, 76, 77] ν μ)  (k : ∀ μ', gv [1, 6, 7, 62, 63, 64, 65, 66, 67, 68, 69, 70, 71, 72, 73, 74, 75, 76, 77] ν μ' → Q none μ') : am_Does l 35 [.inr (.inr 29), .inr (.inr 1)] μ Q := by
  refine am_Does_of (Nat.le_of_ble_eq_true rfl) (Nat.le_of_ble_eq_true rfl) (Nat.le_of_ble_eq_true rfl) ?_
  have hb := sx_all hS.1
  refine am_go (ct := fun _ => false) am_oX2_behind 300 ?_
  conv => whnf
  repeat' first
    | (refine (?_ : am_wp _ _ _ _ _ _ _ _ _ _ _ _); conv => whnf)
    | (refine (?_ : am_sw _ _ _ _); conv => whnf)
    | refine And.intro trivial ?_
    | exact trivial
    | assumption
    | refine k _ ?_
    | refine v_mend_X0_1 (ν := ν) _ _ ?_  (fun _ _ => ?_)
    | refine w_first_X2_29  (gv_i (E := [1, 6, 7, 62, 63, 64, 65, 66, 67, 68, 69, 70, 71, 72, 73, 74, 75, 76, 77]) (ν := ν) (by repeat' first | assumption | refine gv_up ?_ rfl rfl | refine gv_sx ?_ (by assumption)))  (fun _ => ?_)
    | refine w_first_X2_38  (gv_i (E := [1, 6, 7, 62, 63, 64, 65, 66, 67, 68, 69, 70, 71, 72, 73, 74, 75, 76, 77]) (ν := ν) (by repeat' first | assumption | refine gv_up ?_ rfl rfl | refine gv_sx ?_ (by assumption)))  (fun _ => ?_)
    | refine w_last_X2_29  (gv_i (E := [1, 6, 7, 62, 63, 64, 65, 66, 67, 68, 69, 70, 71, 72, 73, 74, 75, 76, 77]) (ν := ν) (by repeat' first | assumption | refine gv_up ?_ rfl rfl | refine gv_sx ?_ (by assumption)))  (fun _ => ?_)
    | refine w_last_X2_38  (gv_i (E := [1, 6, 7, 62, 63, 64, 65, 66, 67, 68, 69, 70, 71, 72, 73, 74, 75, 76, 77]) (ν := ν) (by repeat' first | assumption | refine gv_up ?_ rfl rfl | refine gv_sx ?_ (by assumption)))  (fun _ => ?_)
    | refine w_mend_X0_8 _ _ (gv_i (E := [1, 6, 7, 62, 63, 64, 65, 66, 67, 68, 69, 70, 71, 72, 73, 74, 75, 76, 77]) (ν := ν) (by repeat' first | assumption | refine gv_up ?_ rfl rfl | refine gv_sx ?_ (by assumption)))  (fun _ _ => ?_)
    | refine w_mend_X0_15 _ _ (gv_i (E := [1, 6, 7, 62, 63, 64, 65, 66, 67, 68, 69, 70, 71, 72, 73, 74, 75, 76, 77]) (ν := ν) (by repeat' first | assumption | refine gv_up ?_ rfl rfl | refine gv_sx ?_ (by assumption)))  (fun _ _ => ?_)
    | refine gv_up ?_ rfl rfl
    | refine gv_b1 ?_ rfl ?_
    | refine gv_b22 ?_ rfl ?_
    | refine gv_b36 ?_ rfl ?_
    | refine gv_b44 ?_ rfl ?_
    | refine gv_b46 ?_ rfl ?_
    | refine gv_b48 ?_ rfl ?_
    | refine gv_b50 ?_ rfl ?_
    | refine gv_b53 ?_ rfl ?_
    | refine gv_b55 ?_ rfl ?_
    | refine gv_b58 ?_ rfl ?_
    | refine gv_b60 ?_ rfl ?_
    | refine gv_b62 ?_ rfl ?_
    | refine gv_sx ?_ (by assumption)
    | exact sx_rb (by assumption)
    | exact hS.1
    | exact hv0.1
    | refine And.intro (fun h => absurd h (by decide)) (fun _ => ?_)
    | refine And.intro (fun _ => ?_) (fun h => absurd (by decide) h)
    | refine And.intro (fun _ => ?_) (fun _ => ?_)
    | refine And.intro ?_ ?_
  all_goals (first | assumption | decide | omega | (intros; omega) | (intros; simp only [am_c] at * <;> omega) | (simp only [am_c, am_up] at * <;> omega) | (simp [am_c, am_up] at * <;> omega))
theorem v_goOn_X2_1 {l : Launch} {μ : am_N} {Q : Option am_V → am_N → Prop} {ν : am_N}  (hS : gv [1, 6, 7, 62, 63, 64, 65, 66, 67, 68, 69, 70, 71, 72, 73, 74, 75, 76, 77] ν μ)  (k : ∀ r μ', gv [1, 6, 7, 62, 63, 64, 65, 66, 67, 68, 69, 70, 71, 72, 73, 74, 75, 76, 77] ν μ' → Q (some (.inl r)) μ') : am_Does l 34 [.inr (.inr 29), .inr (.inr 1)] μ Q := by
  refine am_Does_of (Nat.le_of_ble_eq_true rfl) (Nat.le_of_ble_eq_true rfl) (Nat.le_of_ble_eq_true rfl) ?_
  have hb := sx_all hS.1
  refine am_go (ct := fun _ => false) am_oX2_goOn 300 ?_
  conv => whnf
  repeat' first
    | (refine (?_ : am_wp _ _ _ _ _ _ _ _ _ _ _ _); conv => whnf)
    | (refine (?_ : am_sw _ _ _ _); conv => whnf)
    | refine And.intro trivial ?_
    | exact trivial
    | assumption
    | refine k _ _ ?_
    | refine v_behind_X2_1 (ν := ν)  ?_  (fun _ _ => ?_)
    | refine w_asRule_X2_29_1  (gv_i (E := [1, 6, 7, 62, 63, 64, 65, 66, 67, 68, 69, 70, 71, 72, 73, 74, 75, 76, 77]) (ν := ν) (by repeat' first | assumption | refine gv_up ?_ rfl rfl | refine gv_sx ?_ (by assumption)))  (fun _ _ => ?_)
    | refine w_asRule_X2_29_8  (gv_i (E := [1, 6, 7, 62, 63, 64, 65, 66, 67, 68, 69, 70, 71, 72, 73, 74, 75, 76, 77]) (ν := ν) (by repeat' first | assumption | refine gv_up ?_ rfl rfl | refine gv_sx ?_ (by assumption)))  (fun _ _ => ?_)
    | refine w_asRule_X2_29_15  (gv_i (E := [1, 6, 7, 62, 63, 64, 65, 66, 67, 68, 69, 70, 71, 72, 73, 74, 75, 76, 77]) (ν := ν) (by repeat' first | assumption | refine gv_up ?_ rfl rfl | refine gv_sx ?_ (by assumption)))  (fun _ _ => ?_)
    | refine w_asRule_X2_38_8  (gv_i (E := [1, 6, 7, 62, 63, 64, 65, 66, 67, 68, 69, 70, 71, 72, 73, 74, 75, 76, 77]) (ν := ν) (by repeat' first | assumption | refine gv_up ?_ rfl rfl | refine gv_sx ?_ (by assumption)))  (fun _ _ => ?_)
    | refine w_first_X2_29  (gv_i (E := [1, 6, 7, 62, 63, 64, 65, 66, 67, 68, 69, 70, 71, 72, 73, 74, 75, 76, 77]) (ν := ν) (by repeat' first | assumption | refine gv_up ?_ rfl rfl | refine gv_sx ?_ (by assumption)))  (fun _ => ?_)
    | refine w_first_X2_38  (gv_i (E := [1, 6, 7, 62, 63, 64, 65, 66, 67, 68, 69, 70, 71, 72, 73, 74, 75, 76, 77]) (ν := ν) (by repeat' first | assumption | refine gv_up ?_ rfl rfl | refine gv_sx ?_ (by assumption)))  (fun _ => ?_)
    | refine w_has_X0_1 _ (gv_i (E := [1, 6, 7, 62, 63, 64, 65, 66, 67, 68, 69, 70, 71, 72, 73, 74, 75, 76, 77]) (ν := ν) (by repeat' first | assumption | refine gv_up ?_ rfl rfl | refine gv_sx ?_ (by assumption))) (fun _ _ _ => ?_) (fun _ => ?_)
    | refine w_has_X0_8 _ (gv_i (E := [1, 6, 7, 62, 63, 64, 65, 66, 67, 68, 69, 70, 71, 72, 73, 74, 75, 76, 77]) (ν := ν) (by repeat' first | assumption | refine gv_up ?_ rfl rfl | refine gv_sx ?_ (by assumption))) (fun _ _ _ => ?_) (fun _ => ?_)
    | refine w_has_X0_15 _ (gv_i (E := [1, 6, 7, 62, 63, 64, 65, 66, 67, 68, 69, 70, 71, 72, 73, 74, 75, 76, 77]) (ν := ν) (by repeat' first | assumption | refine gv_up ?_ rfl rfl | refine gv_sx ?_ (by assumption))) (fun _ _ _ => ?_) (fun _ => ?_)
    | refine w_behind_X2_38_8  (gv_i (E := [1, 6, 7, 62, 63, 64, 65, 66, 67, 68, 69, 70, 71, 72, 73, 74, 75, 76, 77]) (ν := ν) (by repeat' first | assumption | refine gv_up ?_ rfl rfl | refine gv_sx ?_ (by assumption)))  (fun _ _ => ?_)
    | refine w_behind_X2_29_8  (gv_i (E := [1, 6, 7, 62, 63, 64, 65, 66, 67, 68, 69, 70, 71, 72, 73, 74, 75, 76, 77]) (ν := ν) (by repeat' first | assumption | refine gv_up ?_ rfl rfl | refine gv_sx ?_ (by assumption)))  (fun _ _ => ?_)
    | refine w_behind_X2_29_15  (gv_i (E := [1, 6, 7, 62, 63, 64, 65, 66, 67, 68, 69, 70, 71, 72, 73, 74, 75, 76, 77]) (ν := ν) (by repeat' first | assumption | refine gv_up ?_ rfl rfl | refine gv_sx ?_ (by assumption)))  (fun _ _ => ?_)
    | refine gv_up ?_ rfl rfl
    | refine gv_b1 ?_ rfl ?_
    | refine gv_b22 ?_ rfl ?_
    | refine gv_b36 ?_ rfl ?_
    | refine gv_b44 ?_ rfl ?_
    | refine gv_b46 ?_ rfl ?_
    | refine gv_b48 ?_ rfl ?_
    | refine gv_b50 ?_ rfl ?_
    | refine gv_b53 ?_ rfl ?_
    | refine gv_b55 ?_ rfl ?_
    | refine gv_b58 ?_ rfl ?_
    | refine gv_b60 ?_ rfl ?_
    | refine gv_b62 ?_ rfl ?_
    | refine gv_sx ?_ (by assumption)
    | exact sx_rb (by assumption)
    | exact hS.1
    | exact hv0.1
    | refine And.intro (fun h => absurd h (by decide)) (fun _ => ?_)
    | refine And.intro (fun _ => ?_) (fun h => absurd (by decide) h)
    | refine And.intro (fun _ => ?_) (fun _ => ?_)
    | refine And.intro ?_ ?_
  all_goals (first | assumption | decide | omega | (intros; omega) | (intros; simp only [am_c] at * <;> omega) | (simp only [am_c, am_up] at * <;> omega) | (simp [am_c, am_up] at * <;> omega))
theorem am_aa1 {P : Nat → Prop} {l : List Nat} {i a : Nat} (h : l[i]? = some a) (hp : P a) : ∀ j : Nat, l[i]? = some j → P j := fun j hj => by
  rw [h] at hj
  cases hj
  exact hp
theorem v_loseOldest_X4 {l : Launch} {μ : am_N} {Q : Option am_V → am_N → Prop} {ν : am_N}  (hS : gv [1, 6, 7, 62, 63, 64, 65, 66, 67, 68, 69, 70, 71, 72, 73, 74, 75, 76, 77] ν μ)  (k : ∀ μ', gv [1, 6, 7, 62, 63, 64, 65, 66, 67, 68, 69, 70, 71, 72, 73, 74, 75, 76, 77] ν μ' → μ' 62 3 = 5 → Q none μ') : am_Does l 47 [.inr (.inr 62)] μ Q := by
  refine am_Does_of (Nat.le_of_ble_eq_true rfl) (Nat.le_of_ble_eq_true rfl) (Nat.le_of_ble_eq_true rfl) ?_
  have hb := sx_all hS.1
  refine am_go (ct := fun _ => false) am_oX4_loseOldest 900 ?_
  conv => whnf
  repeat' first
    | (refine (?_ : am_wp _ _ _ _ _ _ _ _ _ _ _ _); conv => whnf)
    | (refine (?_ : am_sw _ _ _ _); conv => whnf)
    | refine And.intro trivial ?_
    | exact trivial
    | assumption
    | refine k _ ?_ ?_
    | refine am_aa1 rfl ?_
    | refine gv_b62 ?_ rfl (by decide)
    | refine gv_up ?_ rfl rfl
    | refine gv_b1 ?_ rfl ?_
    | refine gv_b22 ?_ rfl ?_
    | refine gv_b36 ?_ rfl ?_
    | refine gv_b44 ?_ rfl ?_
    | refine gv_b46 ?_ rfl ?_
    | refine gv_b48 ?_ rfl ?_
    | refine gv_b50 ?_ rfl ?_
    | refine gv_b53 ?_ rfl ?_
    | refine gv_b55 ?_ rfl ?_
    | refine gv_b58 ?_ rfl ?_
    | refine gv_b60 ?_ rfl ?_
    | refine gv_b62 ?_ rfl ?_
    | refine gv_sx ?_ (by assumption)
    | exact sx_rb (by assumption)
    | exact hS.1
    | exact hv0.1
    | refine And.intro (fun h => absurd h (by decide)) (fun _ => ?_)
    | refine And.intro (fun _ => ?_) (fun h => absurd (by decide) h)
    | refine And.intro (fun _ => ?_) (fun _ => ?_)
    | refine And.intro ?_ ?_
  all_goals (first | decide | assumption | rfl | omega)
theorem v_keep_X4 {l : Launch} {μ : am_N} {Q : Option am_V → am_N → Prop} {ν : am_N}  (hS : gv [1, 6, 7, 62, 63, 64, 65, 66, 67, 68, 69, 70, 71, 72, 73, 74, 75, 76, 77] ν μ)  (k : ∀ μ', gv [1, 6, 7, 62, 63, 64, 65, 66, 67, 68, 69, 70, 71, 72, 73, 74, 75, 76, 77] ν μ' → Q none μ') : am_Does l 46 [.inr (.inr 62), .inr (.inr 1)] μ Q := by
  refine am_Does_of (Nat.le_of_ble_eq_true rfl) (Nat.le_of_ble_eq_true rfl) (Nat.le_of_ble_eq_true rfl) ?_
  have hb := sx_all hS.1
  have lp15 : ∀ (m : Nat) (i : Int) (μ : am_N) , gv [1, 6, 7, 62, 63, 64, 65, 66, 67, 68, 69, 70, 71, 72, 73, 74, 75, 76, 77] ν μ → 0 ≤ i → i ≤ 4 → μ 62 3 ≤ 5 → 4 - i < (m : Int) → am_AW l 0 (fun _ => 0) 46 Q 15 [some (.inr (.inr 62)), some (.inr (.inr 1)), some (.inl i)] [] μ := by
    intro m
    induction m with
    | zero =>
      intro i μ hv0 hv1 hv2 hv3 hm
      have hb := sx_all hv0.1
      exfalso
      omega
    | succ m ih =>
      intro i μ hv0 hv1 hv2 hv3 hm
      have hb := sx_all hv0.1
      refine am_go (ct := fun pc => Nat.beq pc 15 || Nat.beq pc 13) am_oX4_keep 300 ?_
      conv => whnf
      repeat' first
        | (refine (?_ : am_wp _ _ _ _ _ _ _ _ _ _ _ _); conv => whnf)
        | (refine (?_ : am_sw _ _ _ _); conv => whnf)
        | refine And.intro trivial ?_
        | exact trivial
        | assumption
        | refine k _ ?_
        | refine am_aa6 ?_ ?_ ?_ ?_ ?_ ?_ _
        | refine v_loseOldest_X4 (ν := ν)  ?_  (fun _ _ _ => ?_)
        | refine gv_up ?_ rfl rfl
        | refine gv_b1 ?_ rfl ?_
        | refine gv_b22 ?_ rfl ?_
        | refine gv_b36 ?_ rfl ?_
        | refine gv_b44 ?_ rfl ?_
        | refine gv_b46 ?_ rfl ?_
        | refine gv_b48 ?_ rfl ?_
        | refine gv_b50 ?_ rfl ?_
        | refine gv_b53 ?_ rfl ?_
        | refine gv_b55 ?_ rfl ?_
        | refine gv_b58 ?_ rfl ?_
        | refine gv_b60 ?_ rfl ?_
        | refine gv_b62 ?_ rfl ?_
        | refine gv_sx ?_ (by assumption)
        | exact sx_rb (by assumption)
        | exact hS.1
        | exact hv0.1
        | refine ih _ _ ?_ ?_ ?_ ?_ ?_
        | refine And.intro (fun h => absurd h (by decide)) (fun _ => ?_)
        | refine And.intro (fun _ => ?_) (fun h => absurd (by decide) h)
        | refine And.intro (fun _ => ?_) (fun _ => ?_)
        | refine And.intro ?_ ?_
      all_goals (first | assumption | decide | omega | (intros; omega) | (intros; simp only [am_c] at * <;> omega) | (simp only [am_c, am_up] at * <;> omega) | (simp [am_c, am_up] at * <;> omega))
  have lp15' : ∀ (i : Int) (μ : am_N) , gv [1, 6, 7, 62, 63, 64, 65, 66, 67, 68, 69, 70, 71, 72, 73, 74, 75, 76, 77] ν μ → 0 ≤ i → i ≤ 4 → μ 62 3 ≤ 5 → am_AW l 0 (fun _ => 0) 46 Q 15 [some (.inr (.inr 62)), some (.inr (.inr 1)), some (.inl i)] [] μ := fun i μ hv0 hv1 hv2 hv3 => lp15 ((4 - i) + 1).toNat i μ hv0 hv1 hv2 hv3 (by omega)
  have lp13 : ∀  (μ : am_N), gv [1, 6, 7, 62, 63, 64, 65, 66, 67, 68, 69, 70, 71, 72, 73, 74, 75, 76, 77] ν μ → μ 62 3 ≤ 5 → am_AW l 0 (fun _ => 0) 46 Q 13 [some (.inr (.inr 62)), some (.inr (.inr 1)), none] [] μ := by
    intro  μ hv0 hv1
    refine am_go (ct := fun pc => Nat.beq pc 15 || Nat.beq pc 13) am_oX4_keep 300 ?_
    conv => whnf
    repeat' first
      | (refine (?_ : am_wp _ _ _ _ _ _ _ _ _ _ _ _); conv => whnf)
      | (refine (?_ : am_sw _ _ _ _); conv => whnf)
      | refine And.intro trivial ?_
      | exact trivial
      | assumption
      | refine k _ ?_
      | refine am_aa6 ?_ ?_ ?_ ?_ ?_ ?_ _
      | refine v_loseOldest_X4 (ν := ν)  ?_  (fun _ _ _ => ?_)
      | refine gv_up ?_ rfl rfl
      | refine gv_b1 ?_ rfl ?_
      | refine gv_b22 ?_ rfl ?_
      | refine gv_b36 ?_ rfl ?_
      | refine gv_b44 ?_ rfl ?_
      | refine gv_b46 ?_ rfl ?_
      | refine gv_b48 ?_ rfl ?_
      | refine gv_b50 ?_ rfl ?_
      | refine gv_b53 ?_ rfl ?_
      | refine gv_b55 ?_ rfl ?_
      | refine gv_b58 ?_ rfl ?_
      | refine gv_b60 ?_ rfl ?_
      | refine gv_b62 ?_ rfl ?_
      | refine gv_sx ?_ (by assumption)
      | exact sx_rb (by assumption)
      | exact hS.1
      | exact hv0.1
      | refine lp15' _ _ ?_ ?_ ?_ ?_
      | refine And.intro (fun h => absurd h (by decide)) (fun _ => ?_)
      | refine And.intro (fun _ => ?_) (fun h => absurd (by decide) h)
      | refine And.intro (fun _ => ?_) (fun _ => ?_)
      | refine And.intro ?_ ?_
    all_goals (first | assumption | decide | omega | (intros; omega) | (intros; simp only [am_c] at * <;> omega) | (simp only [am_c, am_up] at * <;> omega) | (simp [am_c, am_up] at * <;> omega))
  refine am_go (ct := fun pc => Nat.beq pc 15 || Nat.beq pc 13) am_oX4_keep 300 ?_
  conv => whnf
  repeat' first
    | (refine (?_ : am_wp _ _ _ _ _ _ _ _ _ _ _ _); conv => whnf)
    | (refine (?_ : am_sw _ _ _ _); conv => whnf)
    | refine And.intro trivial ?_
    | exact trivial
    | assumption
    | refine k _ ?_
    | refine am_aa6 ?_ ?_ ?_ ?_ ?_ ?_ _
    | refine v_loseOldest_X4 (ν := ν)  ?_  (fun _ _ _ => ?_)
    | refine gv_up ?_ rfl rfl
    | refine gv_b1 ?_ rfl ?_
    | refine gv_b22 ?_ rfl ?_
    | refine gv_b36 ?_ rfl ?_
    | refine gv_b44 ?_ rfl ?_
    | refine gv_b46 ?_ rfl ?_
    | refine gv_b48 ?_ rfl ?_
    | refine gv_b50 ?_ rfl ?_
    | refine gv_b53 ?_ rfl ?_
    | refine gv_b55 ?_ rfl ?_
    | refine gv_b58 ?_ rfl ?_
    | refine gv_b60 ?_ rfl ?_
    | refine gv_b62 ?_ rfl ?_
    | refine gv_sx ?_ (by assumption)
    | exact sx_rb (by assumption)
    | exact hS.1
    | exact hv0.1
    | refine lp13  _ ?_ ?_
    | refine lp15' _ _ ?_ ?_ ?_ ?_
    | refine And.intro (fun h => absurd h (by decide)) (fun _ => ?_)
    | refine And.intro (fun _ => ?_) (fun h => absurd (by decide) h)
    | refine And.intro (fun _ => ?_) (fun _ => ?_)
    | refine And.intro ?_ ?_
  all_goals (first | assumption | decide | omega | (intros; omega) | (intros; simp only [am_c] at * <;> omega) | (simp only [am_c, am_up] at * <;> omega) | (simp [am_c, am_up] at * <;> omega))
theorem v_bring_X4 {l : Launch} {μ : am_N} {Q : Option am_V → am_N → Prop} {ν : am_N}  (hS : gv [1, 6, 7, 62] ν μ)  (k : ∀ r μ', gv [1, 6, 7, 62] ν μ' → Q (some (.inl r)) μ') : am_Does l 48 [.inr (.inr 62), .inr (.inr 1)] μ Q := by
  refine am_Does_of (Nat.le_of_ble_eq_true rfl) (Nat.le_of_ble_eq_true rfl) (Nat.le_of_ble_eq_true rfl) ?_
  have hb := sx_all hS.1
  have lp21 : ∀ (m : Nat) (i : Int) (μ : am_N) , gv [1, 6, 7, 62] ν μ → 0 ≤ i → i ≤ 4 → μ 62 3 ≤ 5 → 4 - i < (m : Int) → am_AW l 0 (fun _ => 0) 48 Q 21 [some (.inr (.inr 62)), some (.inr (.inr 1)), some (.inl i)] [] μ := by
    intro m
    induction m with
    | zero =>
      intro i μ hv0 hv1 hv2 hv3 hm
      have hb := sx_all hv0.1
      exfalso
      omega
    | succ m ih =>
      intro i μ hv0 hv1 hv2 hv3 hm
      have hb := sx_all hv0.1
      refine am_go (ct := fun pc => Nat.beq pc 21) am_oX4_bring 300 ?_
      conv => whnf
      repeat' first
        | (refine (?_ : am_wp _ _ _ _ _ _ _ _ _ _ _ _); conv => whnf)
        | (refine (?_ : am_sw _ _ _ _); conv => whnf)
        | refine And.intro trivial ?_
        | exact trivial
        | assumption
        | refine k _ _ ?_
        | refine am_aa6 ?_ ?_ ?_ ?_ ?_ ?_ _
        | refine gv_up ?_ rfl rfl
        | refine gv_b1 ?_ rfl ?_
        | refine gv_b22 ?_ rfl ?_
        | refine gv_b36 ?_ rfl ?_
        | refine gv_b44 ?_ rfl ?_
        | refine gv_b46 ?_ rfl ?_
        | refine gv_b48 ?_ rfl ?_
        | refine gv_b50 ?_ rfl ?_
        | refine gv_b53 ?_ rfl ?_
        | refine gv_b55 ?_ rfl ?_
        | refine gv_b58 ?_ rfl ?_
        | refine gv_b60 ?_ rfl ?_
        | refine gv_b62 ?_ rfl ?_
        | refine gv_sx ?_ (by assumption)
        | exact sx_rb (by assumption)
        | exact hS.1
        | exact hv0.1
        | refine ih _ _ ?_ ?_ ?_ ?_ ?_
        | refine And.intro (fun h => absurd h (by decide)) (fun _ => ?_)
        | refine And.intro (fun _ => ?_) (fun h => absurd (by decide) h)
        | refine And.intro (fun _ => ?_) (fun _ => ?_)
        | refine And.intro ?_ ?_
      all_goals (first | assumption | decide | omega | (intros; omega) | (intros; simp only [am_c] at * <;> omega) | (simp only [am_c, am_up] at * <;> omega) | (simp [am_c, am_up] at * <;> omega))
  have lp21' : ∀ (i : Int) (μ : am_N) , gv [1, 6, 7, 62] ν μ → 0 ≤ i → i ≤ 4 → μ 62 3 ≤ 5 → am_AW l 0 (fun _ => 0) 48 Q 21 [some (.inr (.inr 62)), some (.inr (.inr 1)), some (.inl i)] [] μ := fun i μ hv0 hv1 hv2 hv3 => lp21 ((4 - i) + 1).toNat i μ hv0 hv1 hv2 hv3 (by omega)
  refine am_go (ct := fun pc => Nat.beq pc 21) am_oX4_bring 300 ?_
  conv => whnf
  repeat' first
    | (refine (?_ : am_wp _ _ _ _ _ _ _ _ _ _ _ _); conv => whnf)
    | (refine (?_ : am_sw _ _ _ _); conv => whnf)
    | refine And.intro trivial ?_
    | exact trivial
    | assumption
    | refine k _ _ ?_
    | refine am_aa6 ?_ ?_ ?_ ?_ ?_ ?_ _
    | refine gv_up ?_ rfl rfl
    | refine gv_b1 ?_ rfl ?_
    | refine gv_b22 ?_ rfl ?_
    | refine gv_b36 ?_ rfl ?_
    | refine gv_b44 ?_ rfl ?_
    | refine gv_b46 ?_ rfl ?_
    | refine gv_b48 ?_ rfl ?_
    | refine gv_b50 ?_ rfl ?_
    | refine gv_b53 ?_ rfl ?_
    | refine gv_b55 ?_ rfl ?_
    | refine gv_b58 ?_ rfl ?_
    | refine gv_b60 ?_ rfl ?_
    | refine gv_b62 ?_ rfl ?_
    | refine gv_sx ?_ (by assumption)
    | exact sx_rb (by assumption)
    | exact hS.1
    | exact hv0.1
    | refine lp21' _ _ ?_ ?_ ?_ ?_
    | refine And.intro (fun h => absurd h (by decide)) (fun _ => ?_)
    | refine And.intro (fun _ => ?_) (fun h => absurd (by decide) h)
    | refine And.intro (fun _ => ?_) (fun _ => ?_)
    | refine And.intro ?_ ?_
  all_goals (first | assumption | decide | omega | (intros; omega) | (intros; simp only [am_c] at * <;> omega) | (simp only [am_c, am_up] at * <;> omega) | (simp [am_c, am_up] at * <;> omega))
theorem v_become_X0_1 {l : Launch} {μ : am_N} {Q : Option am_V → am_N → Prop} {ν : am_N} (a b : Int) (hS : gv [1, 62] ν μ)  (k : ∀ μ', gv [1, 62] ν μ' → Q none μ') : am_Does l 7 [.inr (.inr 1), .inl a, .inl b] μ Q := by
  refine am_Does_of (Nat.le_of_ble_eq_true rfl) (Nat.le_of_ble_eq_true rfl) (Nat.le_of_ble_eq_true rfl) ?_
  have hb := sx_all hS.1
  refine am_go (ct := fun _ => false) am_oX0_become 300 ?_
  conv => whnf
  repeat' first
    | (refine (?_ : am_wp _ _ _ _ _ _ _ _ _ _ _ _); conv => whnf)
    | (refine (?_ : am_sw _ _ _ _); conv => whnf)
    | refine And.intro trivial ?_
    | exact trivial
    | assumption
    | refine k _ ?_
    | refine gv_up ?_ rfl rfl
    | refine gv_b1 ?_ rfl ?_
    | refine gv_b22 ?_ rfl ?_
    | refine gv_b36 ?_ rfl ?_
    | refine gv_b44 ?_ rfl ?_
    | refine gv_b46 ?_ rfl ?_
    | refine gv_b48 ?_ rfl ?_
    | refine gv_b50 ?_ rfl ?_
    | refine gv_b53 ?_ rfl ?_
    | refine gv_b55 ?_ rfl ?_
    | refine gv_b58 ?_ rfl ?_
    | refine gv_b60 ?_ rfl ?_
    | refine gv_b62 ?_ rfl ?_
    | refine gv_sx ?_ (by assumption)
    | exact sx_rb (by assumption)
    | exact hS.1
    | exact hv0.1
    | refine And.intro (fun h => absurd h (by decide)) (fun _ => ?_)
    | refine And.intro (fun _ => ?_) (fun h => absurd (by decide) h)
    | refine And.intro (fun _ => ?_) (fun _ => ?_)
    | refine And.intro ?_ ?_
  all_goals (first | assumption | decide | omega | (intros; omega) | (intros; simp only [am_c] at * <;> omega) | (simp only [am_c, am_up] at * <;> omega) | (simp [am_c, am_up] at * <;> omega))
