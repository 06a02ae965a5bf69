theorem v_set_X6 {l : Launch} {μ : am_N} {Q : Option am_V → am_N → Prop} (a b : Int) (hS : sx μ μ) (ha0 : -2147483648 ≤ a) (ha1 : a ≤ 2147483647) (hb0 : -2147483648 ≤ b) (hb1 : b ≤ 2147483647) (k : ∀ r μ', gv [1, 62] μ μ' → Q (some (.inl r)) μ') : am_Does l 66 [.inr (.inr 0), .inl a, .inl b] μ Q := by
  refine am_Does_of (Nat.le_of_ble_eq_true rfl) (Nat.le_of_ble_eq_true rfl) (Nat.le_of_ble_eq_true rfl) ?_
  have hb := sx_all hS
  refine am_go (ct := fun _ => false) am_oX6_set 300 ?_
  conv => whnf
  repeat' first
    | (refine (?_ : am_wp _ _ _ _ _ _ _ _ _ _ _ _); conv => whnf)
    | (refine (?_ : am_sw _ _ _ _); conv => whnf)
    | refine And.intro trivial ?_
    | exact trivial
    | assumption
    | refine k _ _ ?_
    | refine v_drop_X4 ?_
    | refine v_become_X0_1 (ν := μ) _ _ ?_  (fun _ _ => ?_)
    | refine w_refuse_X6 _ (gv_i (E := [1, 62]) (ν := μ) (by repeat' first | assumption | exact gv_rf hS | refine gv_up ?_ rfl rfl | refine gv_sx ?_ (by assumption))) ?_ ?_ (fun _ _ _ => ?_)
    | refine w_leastOf_X6 _ (gv_i (E := [1, 62]) (ν := μ) (by repeat' first | assumption | exact gv_rf hS | refine gv_up ?_ rfl rfl | refine gv_sx ?_ (by assumption)))  (fun _ => ?_)
    | refine w_mostOf_X6 _ (gv_i (E := [1, 62]) (ν := μ) (by repeat' first | assumption | exact gv_rf hS | refine gv_up ?_ rfl rfl | refine gv_sx ?_ (by assumption)))  (fun _ => ?_)
    | refine w_setting_X0_1 _ (gv_i (E := [1, 62]) (ν := μ) (by repeat' first | assumption | exact gv_rf hS | refine gv_up ?_ rfl rfl | refine gv_sx ?_ (by assumption)))  (fun _ => ?_)
    | refine gv_up ?_ rfl rfl
    | refine gv_b1 ?_ rfl ?_
    | refine gv_b22 ?_ rfl ?_
    | refine gv_b36 ?_ rfl ?_
    | refine gv_b44 ?_ rfl ?_
    | refine gv_b46 ?_ rfl ?_
    | refine gv_b48 ?_ rfl ?_
    | refine gv_b50 ?_ rfl ?_
    | refine gv_b53 ?_ rfl ?_
    | refine gv_b55 ?_ rfl ?_
    | refine gv_b58 ?_ rfl ?_
    | refine gv_b60 ?_ rfl ?_
    | refine gv_b62 ?_ rfl ?_
    | exact gv_rf hS
    | refine gv_sx ?_ (by assumption)
    | exact hS
    | refine And.intro (fun h => absurd h (by decide)) (fun _ => ?_)
    | refine And.intro (fun _ => ?_) (fun h => absurd (by decide) h)
    | refine And.intro (fun _ => ?_) (fun _ => ?_)
    | refine And.intro ?_ ?_
  all_goals (first | assumption | decide | omega | (subst_vars; simp [am_upS] at * <;> omega) | (intros; omega) | (simp only [am_c, am_up] at * <;> omega) | (simp [am_c, am_up] at * <;> omega))
theorem v_habit_X6 {l : Launch} {μ : am_N} {Q : Option am_V → am_N → Prop} (a b : Int) (hS : sx μ μ) (ha0 : -2147483648 ≤ a) (ha1 : a ≤ 2147483647) (hb0 : -2147483648 ≤ b) (hb1 : b ≤ 2147483647) (k : ∀ r μ', gv [52, 53, 54, 55, 56] μ μ' → Q (some (.inl r)) μ') : am_Does l 103 [.inr (.inr 0), .inl a, .inl b] μ Q := by
  refine am_Does_of (Nat.le_of_ble_eq_true rfl) (Nat.le_of_ble_eq_true rfl) (Nat.le_of_ble_eq_true rfl) ?_
  have hb := sx_all hS
  refine am_go (ct := fun _ => false) am_oX6_habit 300 ?_
  conv => whnf
  repeat' first
    | (refine (?_ : am_wp _ _ _ _ _ _ _ _ _ _ _ _); conv => whnf)
    | (refine (?_ : am_sw _ _ _ _); conv => whnf)
    | refine And.intro trivial ?_
    | exact trivial
    | assumption
    | refine k _ _ ?_
    | refine v_put_X1 (ν := μ) _ _ ?_  (fun _ _ _ => ?_)
    | refine v_full_X3_53 (ν := μ) ?_ (fun _ => ?_) (fun _ => ?_)
    | refine w_refuse_X6 _ (gv_i (E := [52, 53, 54, 55, 56]) (ν := μ) (by repeat' first | assumption | exact gv_rf hS | refine gv_up ?_ rfl rfl | refine gv_sx ?_ (by assumption))) ?_ ?_ (fun _ _ _ => ?_)
    | refine gv_up ?_ rfl rfl
    | refine gv_b1 ?_ rfl ?_
    | refine gv_b22 ?_ rfl ?_
    | refine gv_b36 ?_ rfl ?_
    | refine gv_b44 ?_ rfl ?_
    | refine gv_b46 ?_ rfl ?_
    | refine gv_b48 ?_ rfl ?_
    | refine gv_b50 ?_ rfl ?_
    | refine gv_b53 ?_ rfl ?_
    | refine gv_b55 ?_ rfl ?_
    | refine gv_b58 ?_ rfl ?_
    | refine gv_b60 ?_ rfl ?_
    | refine gv_b62 ?_ rfl ?_
    | exact gv_rf hS
    | refine gv_sx ?_ (by assumption)
    | exact hS
    | refine And.intro (fun h => absurd h (by decide)) (fun _ => ?_)
    | refine And.intro (fun _ => ?_) (fun h => absurd (by decide) h)
    | refine And.intro (fun _ => ?_) (fun _ => ?_)
    | refine And.intro ?_ ?_
  all_goals (first | assumption | decide | omega | (subst_vars; simp [am_upS] at * <;> omega) | (intros; omega) | (simp only [am_c, am_up] at * <;> omega) | (simp [am_c, am_up] at * <;> omega))
theorem v_forget_X6 {l : Launch} {μ : am_N} {Q : Option am_V → am_N → Prop}  (hS : sx μ μ)  (k : ∀ r μ', gv [53, 55] μ μ' → Q (some (.inl r)) μ') : am_Does l 104 [.inr (.inr 0)] μ Q := by
  refine am_Does_of (Nat.le_of_ble_eq_true rfl) (Nat.le_of_ble_eq_true rfl) (Nat.le_of_ble_eq_true rfl) ?_
  have hb := sx_all hS
  refine am_go (ct := fun _ => false) am_oX6_forget 300 ?_
  conv => whnf
  repeat' first
    | (refine (?_ : am_wp _ _ _ _ _ _ _ _ _ _ _ _); conv => whnf)
    | (refine (?_ : am_sw _ _ _ _); conv => whnf)
    | refine And.intro trivial ?_
    | exact trivial
    | assumption
    | refine k _ _ ?_
    | refine v_drop_X1 (ν := μ)  ?_  (fun _ _ _ => ?_)
    | refine gv_up ?_ rfl rfl
    | refine gv_b1 ?_ rfl ?_
    | refine gv_b22 ?_ rfl ?_
    | refine gv_b36 ?_ rfl ?_
    | refine gv_b44 ?_ rfl ?_
    | refine gv_b46 ?_ rfl ?_
    | refine gv_b48 ?_ rfl ?_
    | refine gv_b50 ?_ rfl ?_
    | refine gv_b53 ?_ rfl ?_
    | refine gv_b55 ?_ rfl ?_
    | refine gv_b58 ?_ rfl ?_
    | refine gv_b60 ?_ rfl ?_
    | refine gv_b62 ?_ rfl ?_
    | exact gv_rf hS
    | refine gv_sx ?_ (by assumption)
    | exact hS
    | refine And.intro (fun h => absurd h (by decide)) (fun _ => ?_)
    | refine And.intro (fun _ => ?_) (fun h => absurd (by decide) h)
    | refine And.intro (fun _ => ?_) (fun _ => ?_)
    | refine And.intro ?_ ?_
  all_goals (first | assumption | decide | omega | (subst_vars; simp [am_upS] at * <;> omega) | (intros; omega) | (simp only [am_c, am_up] at * <;> omega) | (simp [am_c, am_up] at * <;> omega))
theorem v_image_X6 {l : Launch} {μ : am_N} {Q : Option am_V → am_N → Prop}  (hS : sx μ μ)  (k : ∀ r μ', gv [22, 23, 24, 25, 26, 27, 28, 50, 51, 57, 58, 59, 60, 61, 0] μ μ' → Q (some (.inl r)) μ') : am_Does l 110 [.inr (.inr 0)] μ Q := by
  refine am_Does_of (Nat.le_of_ble_eq_true rfl) (Nat.le_of_ble_eq_true rfl) (Nat.le_of_ble_eq_true rfl) ?_
  have hb := sx_all hS
  refine am_go (ct := fun _ => false) am_oX6_image 300 ?_
  conv => whnf
  repeat' first
    | (refine (?_ : am_wp _ _ _ _ _ _ _ _ _ _ _ _); conv => whnf)
    | (refine (?_ : am_sw _ _ _ _); conv => whnf)
    | refine And.intro trivial ?_
    | exact trivial
    | assumption
    | refine k _ _ ?_
    | refine v_take_X0_22_1 (ν := μ)  ?_  (fun _ _ => ?_)
    | refine v_take_X3_50_48 (ν := μ)  ?_  (fun _ _ => ?_)
    | refine v_take_X1_57_52 (ν := μ)  ?_  (fun _ _ => ?_)
    | refine w_take_X0_8_1  (gv_i (E := [22, 23, 24, 25, 26, 27, 28, 50, 51, 57, 58, 59, 60, 61, 0]) (ν := μ) (by repeat' first | assumption | exact gv_rf hS | refine gv_up ?_ rfl rfl | refine gv_sx ?_ (by assumption)))  (fun _ _ => ?_)
    | refine w_take_X0_15_8  (gv_i (E := [22, 23, 24, 25, 26, 27, 28, 50, 51, 57, 58, 59, 60, 61, 0]) (ν := μ) (by repeat' first | assumption | exact gv_rf hS | refine gv_up ?_ rfl rfl | refine gv_sx ?_ (by assumption)))  (fun _ _ => ?_)
    | refine gv_up ?_ rfl rfl
    | refine gv_b1 ?_ rfl ?_
    | refine gv_b22 ?_ rfl ?_
    | refine gv_b36 ?_ rfl ?_
    | refine gv_b44 ?_ rfl ?_
    | refine gv_b46 ?_ rfl ?_
    | refine gv_b48 ?_ rfl ?_
    | refine gv_b50 ?_ rfl ?_
    | refine gv_b53 ?_ rfl ?_
    | refine gv_b55 ?_ rfl ?_
    | refine gv_b58 ?_ rfl ?_
    | refine gv_b60 ?_ rfl ?_
    | refine gv_b62 ?_ rfl ?_
    | exact gv_rf hS
    | refine gv_sx ?_ (by assumption)
    | exact hS
    | refine And.intro (fun h => absurd h (by decide)) (fun _ => ?_)
    | refine And.intro (fun _ => ?_) (fun h => absurd (by decide) h)
    | refine And.intro (fun _ => ?_) (fun _ => ?_)
    | refine And.intro ?_ ?_
  all_goals (first | assumption | decide | omega | (subst_vars; simp [am_upS] at * <;> omega) | (intros; omega) | (simp only [am_c, am_up] at * <;> omega) | (simp [am_c, am_up] at * <;> omega))
theorem v_restore_X6 {l : Launch} {μ : am_N} {Q : Option am_V → am_N → Prop}  (hS : sx μ μ)  (k : ∀ r μ', gv [1, 2, 3, 4, 5, 6, 7, 48, 49, 52, 53, 54, 55, 56, 62] μ μ' → Q (some (.inl r)) μ') : am_Does l 111 [.inr (.inr 0)] μ Q := by
  refine am_Does_of (Nat.le_of_ble_eq_true rfl) (Nat.le_of_ble_eq_true rfl) (Nat.le_of_ble_eq_true rfl) ?_
  have hb := sx_all hS
  refine am_go (ct := fun _ => false) am_oX6_restore 300 ?_
  conv => whnf
  repeat' first
    | (refine (?_ : am_wp _ _ _ _ _ _ _ _ _ _ _ _); conv => whnf)
    | (refine (?_ : am_sw _ _ _ _); conv => whnf)
    | refine And.intro trivial ?_
    | exact trivial
    | assumption
    | refine k _ _ ?_
    | refine v_take_X0_1_22 (ν := μ)  ?_  (fun _ _ => ?_)
    | refine v_take_X3_48_50 (ν := μ)  ?_  (fun _ _ => ?_)
    | refine v_take_X1_52_57 (ν := μ)  ?_  (fun _ _ => ?_)
    | refine v_drop_X4 ?_
    | refine w_refuse_X6 _ (gv_i (E := [1, 2, 3, 4, 5, 6, 7, 48, 49, 52, 53, 54, 55, 56, 62]) (ν := μ) (by repeat' first | assumption | exact gv_rf hS | refine gv_up ?_ rfl rfl | refine gv_sx ?_ (by assumption))) ?_ ?_ (fun _ _ _ => ?_)
    | refine w_take_X0_8_1  (gv_i (E := [1, 2, 3, 4, 5, 6, 7, 48, 49, 52, 53, 54, 55, 56, 62]) (ν := μ) (by repeat' first | assumption | exact gv_rf hS | refine gv_up ?_ rfl rfl | refine gv_sx ?_ (by assumption)))  (fun _ _ => ?_)
    | refine w_take_X0_15_8  (gv_i (E := [1, 2, 3, 4, 5, 6, 7, 48, 49, 52, 53, 54, 55, 56, 62]) (ν := μ) (by repeat' first | assumption | exact gv_rf hS | refine gv_up ?_ rfl rfl | refine gv_sx ?_ (by assumption)))  (fun _ _ => ?_)
    | refine gv_up ?_ rfl rfl
    | refine gv_b1 ?_ rfl ?_
    | refine gv_b22 ?_ rfl ?_
    | refine gv_b36 ?_ rfl ?_
    | refine gv_b44 ?_ rfl ?_
    | refine gv_b46 ?_ rfl ?_
    | refine gv_b48 ?_ rfl ?_
    | refine gv_b50 ?_ rfl ?_
    | refine gv_b53 ?_ rfl ?_
    | refine gv_b55 ?_ rfl ?_
    | refine gv_b58 ?_ rfl ?_
    | refine gv_b60 ?_ rfl ?_
    | refine gv_b62 ?_ rfl ?_
    | exact gv_rf hS
    | refine gv_sx ?_ (by assumption)
    | exact hS
    | refine And.intro (fun h => absurd h (by decide)) (fun _ => ?_)
    | refine And.intro (fun _ => ?_) (fun h => absurd (by decide) h)
    | refine And.intro (fun _ => ?_) (fun _ => ?_)
    | refine And.intro ?_ ?_
  all_goals (first | assumption | decide | omega | (subst_vars; simp [am_upS] at * <;> omega) | (intros; omega) | (simp only [am_c, am_up] at * <;> omega) | (simp [am_c, am_up] at * <;> omega))
theorem v_run_X6 {l : Launch} {μ : am_N} {Q : Option am_V → am_N → Prop}  (hS : sx μ μ)  (k : ∀ r μ', gv [1, 6, 7, 62, 63, 64, 65, 66, 67, 68, 69, 70, 71, 72, 73, 74, 75, 76, 77] μ μ' → Q (some (.inl r)) μ') : am_Does l 67 [.inr (.inr 0)] μ Q := by
  refine am_Does_of (Nat.le_of_ble_eq_true rfl) (Nat.le_of_ble_eq_true rfl) (Nat.le_of_ble_eq_true rfl) ?_
  have hb := sx_all hS
  refine am_go (ct := fun _ => false) am_oX6_run 300 ?_
  conv => whnf
  repeat' first
    | (refine (?_ : am_wp _ _ _ _ _ _ _ _ _ _ _ _); conv => whnf)
    | (refine (?_ : am_sw _ _ _ _); conv => whnf)
    | refine And.intro trivial ?_
    | exact trivial
    | assumption
    | refine k _ _ ?_
    | refine v_keep_X4 (ν := μ)  ?_  (fun _ _ => ?_)
    | refine v_goOn_X2_1 (ν := μ)  ?_  (fun _ _ _ => ?_)
    | refine w_refuse_X6 _ (gv_i (E := [1, 6, 7, 62, 63, 64, 65, 66, 67, 68, 69, 70, 71, 72, 73, 74, 75, 76, 77]) (ν := μ) (by repeat' first | assumption | exact gv_rf hS | refine gv_up ?_ rfl rfl | refine gv_sx ?_ (by assumption))) ?_ ?_ (fun _ _ _ => ?_)
    | refine w_goOn_X2_38_8  (gv_i (E := [1, 6, 7, 62, 63, 64, 65, 66, 67, 68, 69, 70, 71, 72, 73, 74, 75, 76, 77]) (ν := μ) (by repeat' first | assumption | exact gv_rf hS | refine gv_up ?_ rfl rfl | refine gv_sx ?_ (by assumption)))  (fun _ _ _ => ?_)
    | refine w_goOn_X2_29_8  (gv_i (E := [1, 6, 7, 62, 63, 64, 65, 66, 67, 68, 69, 70, 71, 72, 73, 74, 75, 76, 77]) (ν := μ) (by repeat' first | assumption | exact gv_rf hS | refine gv_up ?_ rfl rfl | refine gv_sx ?_ (by assumption)))  (fun _ _ _ => ?_)
    | refine gv_up ?_ rfl rfl
    | refine gv_b1 ?_ rfl ?_
    | refine gv_b22 ?_ rfl ?_
    | refine gv_b36 ?_ rfl ?_
    | refine gv_b44 ?_ rfl ?_
    | refine gv_b46 ?_ rfl ?_
    | refine gv_b48 ?_ rfl ?_
    | refine gv_b50 ?_ rfl ?_
    | refine gv_b53 ?_ rfl ?_
    | refine gv_b55 ?_ rfl ?_
    | refine gv_b58 ?_ rfl ?_
    | refine gv_b60 ?_ rfl ?_
    | refine gv_b62 ?_ rfl ?_
    | exact gv_rf hS
    | refine gv_sx ?_ (by assumption)
    | exact hS
    | refine And.intro (fun h => absurd h (by decide)) (fun _ => ?_)
    | refine And.intro (fun _ => ?_) (fun h => absurd (by decide) h)
    | refine And.intro (fun _ => ?_) (fun _ => ?_)
    | refine And.intro ?_ ?_
  all_goals (first | assumption | decide | omega | (subst_vars; simp [am_upS] at * <;> omega) | (intros; omega) | (simp only [am_c, am_up] at * <;> omega) | (simp [am_c, am_up] at * <;> omega))
theorem v_back_X6 {l : Launch} {μ : am_N} {Q : Option am_V → am_N → Prop}  (hS : sx μ μ)  (k : ∀ r μ', gv [1, 6, 7, 62] μ μ' → Q (some (.inl r)) μ') : am_Does l 90 [.inr (.inr 0)] μ Q := by
  refine am_Does_of (Nat.le_of_ble_eq_true rfl) (Nat.le_of_ble_eq_true rfl) (Nat.le_of_ble_eq_true rfl) ?_
  have hb := sx_all hS
  refine am_go (ct := fun _ => false) am_oX6_back 300 ?_
  conv => whnf
  repeat' first
    | (refine (?_ : am_wp _ _ _ _ _ _ _ _ _ _ _ _); conv => whnf)
    | (refine (?_ : am_sw _ _ _ _); conv => whnf)
    | refine And.intro trivial ?_
    | exact trivial
    | assumption
    | refine k _ _ ?_
    | refine v_bring_X4 (ν := μ)  ?_  (fun _ _ _ => ?_)
    | refine w_refuse_X6 _ (gv_i (E := [1, 6, 7, 62]) (ν := μ) (by repeat' first | assumption | exact gv_rf hS | refine gv_up ?_ rfl rfl | refine gv_sx ?_ (by assumption))) ?_ ?_ (fun _ _ _ => ?_)
    | refine gv_up ?_ rfl rfl
    | refine gv_b1 ?_ rfl ?_
    | refine gv_b22 ?_ rfl ?_
    | refine gv_b36 ?_ rfl ?_
    | refine gv_b44 ?_ rfl ?_
    | refine gv_b46 ?_ rfl ?_
    | refine gv_b48 ?_ rfl ?_
    | refine gv_b50 ?_ rfl ?_
    | refine gv_b53 ?_ rfl ?_
    | refine gv_b55 ?_ rfl ?_
    | refine gv_b58 ?_ rfl ?_
    | refine gv_b60 ?_ rfl ?_
    | refine gv_b62 ?_ rfl ?_
    | exact gv_rf hS
    | refine gv_sx ?_ (by assumption)
    | exact hS
    | refine And.intro (fun h => absurd h (by decide)) (fun _ => ?_)
    | refine And.intro (fun _ => ?_) (fun h => absurd (by decide) h)
    | refine And.intro (fun _ => ?_) (fun _ => ?_)
    | refine And.intro ?_ ?_
  all_goals (first | assumption | decide | omega | (subst_vars; simp [am_upS] at * <;> omega) | (intros; omega) | (simp only [am_c, am_up] at * <;> omega) | (simp [am_c, am_up] at * <;> omega))
theorem v_judge_X6 {l : Launch} {μ : am_N} {Q : Option am_V → am_N → Prop}  (hS : sx μ μ)  (k : ∀ r μ', gv [44] μ μ' → μ' 44 1 = 0 → Q (some (.inl r)) μ') : am_Does l 87 [.inr (.inr 0)] μ Q := by
  refine am_Does_of (Nat.le_of_ble_eq_true rfl) (Nat.le_of_ble_eq_true rfl) (Nat.le_of_ble_eq_true rfl) ?_
  have hb := sx_all hS
  refine am_go (ct := fun _ => false) am_oX6_judge 300 ?_
  conv => whnf
  repeat' first
    | (refine (?_ : am_wp _ _ _ _ _ _ _ _ _ _ _ _); conv => whnf)
    | (refine (?_ : am_sw _ _ _ _); conv => whnf)
    | refine And.intro trivial ?_
    | exact trivial
    | assumption
    | refine k _ _ ?_ ?_
    | refine v_drop_X3_44 ?_
    | refine w_take_X0_8_1  (gv_i (E := [44]) (ν := μ) (by repeat' first | assumption | exact gv_rf hS | refine gv_up ?_ rfl rfl | refine gv_sx ?_ (by assumption)))  (fun _ _ => ?_)
    | refine w_take_X0_15_8  (gv_i (E := [44]) (ν := μ) (by repeat' first | assumption | exact gv_rf hS | refine gv_up ?_ rfl rfl | refine gv_sx ?_ (by assumption)))  (fun _ _ => ?_)
    | refine w_firstNotSo_X6  (gv_i (E := [44]) (ν := μ) (by repeat' first | assumption | exact gv_rf hS | refine gv_up ?_ rfl rfl | refine gv_sx ?_ (by assumption)))  (fun _ _ _ => ?_)
    | refine gv_up ?_ rfl rfl
    | refine gv_b1 ?_ rfl ?_
    | refine gv_b22 ?_ rfl ?_
    | refine gv_b36 ?_ rfl ?_
    | refine gv_b44 ?_ rfl ?_
    | refine gv_b46 ?_ rfl ?_
    | refine gv_b48 ?_ rfl ?_
    | refine gv_b50 ?_ rfl ?_
    | refine gv_b53 ?_ rfl ?_
    | refine gv_b55 ?_ rfl ?_
    | refine gv_b58 ?_ rfl ?_
    | refine gv_b60 ?_ rfl ?_
    | refine gv_b62 ?_ rfl ?_
    | exact gv_rf hS
    | refine gv_sx ?_ (by assumption)
    | exact hS
    | refine And.intro (fun h => absurd h (by decide)) (fun _ => ?_)
    | refine And.intro (fun _ => ?_) (fun h => absurd (by decide) h)
    | refine And.intro (fun _ => ?_) (fun _ => ?_)
    | refine And.intro ?_ ?_
  all_goals (first | assumption | decide | omega | (subst_vars; simp [am_upS] at * <;> omega) | (intros; omega) | (simp only [am_c, am_up] at * <;> omega) | (simp [am_c, am_up] at * <;> omega))
theorem v_lane_X6 {l : Launch} {μ : am_N} {Q : Option am_V → am_N → Prop}  (hS : sx μ μ)  (k : ∀ r μ', gv [1, 2, 3, 4, 5, 6, 7, 36, 62] μ μ' → μ' 36 1 = 0 → Q (some (.inl r)) μ') : am_Does l 62 [.inr (.inr 0)] μ Q := by
  refine am_Does_of (Nat.le_of_ble_eq_true rfl) (Nat.le_of_ble_eq_true rfl) (Nat.le_of_ble_eq_true rfl) ?_
  have hb := sx_all hS
  refine am_go (ct := fun _ => false) am_oX6_lane 300 ?_
  conv => whnf
  repeat' first
    | (refine (?_ : am_wp _ _ _ _ _ _ _ _ _ _ _ _); conv => whnf)
    | (refine (?_ : am_sw _ _ _ _); conv => whnf)
    | refine And.intro trivial ?_
    | exact trivial
    | assumption
    | refine k _ _ ?_ ?_
    | refine v_drop_X3_36 ?_
    | refine v_take_X0_1_8 (ν := μ)  ?_  (fun _ _ => ?_)
    | refine v_drop_X4 ?_
    | refine w_take_X0_8_1  (gv_i (E := [1, 2, 3, 4, 5, 6, 7, 36, 62]) (ν := μ) (by repeat' first | assumption | exact gv_rf hS | refine gv_up ?_ rfl rfl | refine gv_sx ?_ (by assumption)))  (fun _ _ => ?_)
    | refine w_take_X0_15_8  (gv_i (E := [1, 2, 3, 4, 5, 6, 7, 36, 62]) (ν := μ) (by repeat' first | assumption | exact gv_rf hS | refine gv_up ?_ rfl rfl | refine gv_sx ?_ (by assumption)))  (fun _ _ => ?_)
    | refine w_tell_X5  (gv_i (E := [1, 2, 3, 4, 5, 6, 7, 36, 62]) (ν := μ) (by repeat' first | assumption | exact gv_rf hS | refine gv_up ?_ rfl rfl | refine gv_sx ?_ (by assumption)))  (fun _ _ _ => ?_)
    | refine gv_up ?_ rfl rfl
    | refine gv_b1 ?_ rfl ?_
    | refine gv_b22 ?_ rfl ?_
    | refine gv_b36 ?_ rfl ?_
    | refine gv_b44 ?_ rfl ?_
    | refine gv_b46 ?_ rfl ?_
    | refine gv_b48 ?_ rfl ?_
    | refine gv_b50 ?_ rfl ?_
    | refine gv_b53 ?_ rfl ?_
    | refine gv_b55 ?_ rfl ?_
    | refine gv_b58 ?_ rfl ?_
    | refine gv_b60 ?_ rfl ?_
    | refine gv_b62 ?_ rfl ?_
    | exact gv_rf hS
    | refine gv_sx ?_ (by assumption)
    | exact hS
    | refine And.intro (fun h => absurd h (by decide)) (fun _ => ?_)
    | refine And.intro (fun _ => ?_) (fun h => absurd (by decide) h)
    | refine And.intro (fun _ => ?_) (fun _ => ?_)
    | refine And.intro ?_ ?_
  all_goals (first | assumption | decide | omega | (subst_vars; simp [am_upS] at * <;> omega) | (intros; omega) | (simp only [am_c, am_up] at * <;> omega) | (simp [am_c, am_up] at * <;> omega))
