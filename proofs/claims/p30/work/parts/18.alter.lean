/-! contracts: the system's public changes (weak; rows exactly) -/
theorem v_feed_X6 {l : Launch} {μ : am_N} {Q : Option am_V → am_N → Prop} (a : Int) (hS : sx μ μ) (ha0 : -2147483648 ≤ a) (ha1 : a ≤ 2147483647) (k : ∀ r μ', gv [36, 37] μ μ' → ((am_c a < 0 ∧ r = -4 ∧ μ' 36 1 = μ 36 1) ∨ (0 ≤ am_c a ∧ (255 < am_c a ∨ μ 36 1 = 96) ∧ r = -6 ∧ μ' 36 1 = μ 36 1) ∨ (0 ≤ am_c a ∧ am_c a ≤ 255 ∧ μ 36 1 < 96 ∧ r = μ 36 1 + 1 ∧ μ' 36 1 = μ 36 1 + 1)) → Q (some (.inl r)) μ') : am_Does l 61 [.inr (.inr 0), .inl a] μ Q := by
  refine am_Does_of (Nat.le_of_ble_eq_true rfl) (Nat.le_of_ble_eq_true rfl) (Nat.le_of_ble_eq_true rfl) ?_
  have hb := sx_all hS
  refine am_go (ct := fun _ => false) am_oX6_feed 300 ?_
  conv => whnf
  repeat' first
    | (refine (?_ : am_wp _ _ _ _ _ _ _ _ _ _ _ _); conv => whnf)
    | (refine (?_ : am_sw _ _ _ _); conv => whnf)
    | refine And.intro trivial ?_
    | exact trivial
    | assumption
    | refine k _ _ ?_ ?_
    | refine v_full_X3_36 (ν := μ) ?_ (fun _ => ?_) (fun _ => ?_)
    | refine v_putE_X3_36 _ ?_ ?_ ?_
    | refine w_refuse_X6 _ (gv_i (E := [36, 37]) (ν := μ) (by repeat' first | assumption | exact gv_rf hS | refine gv_up ?_ rfl rfl | refine gv_sx ?_ (by assumption))) ?_ ?_ (fun _ _ _ => ?_)
    | refine gv_up ?_ rfl rfl
    | refine gv_b1 ?_ rfl ?_
    | refine gv_b22 ?_ rfl ?_
    | refine gv_b36 ?_ rfl ?_
    | refine gv_b44 ?_ rfl ?_
    | refine gv_b46 ?_ rfl ?_
    | refine gv_b48 ?_ rfl ?_
    | refine gv_b50 ?_ rfl ?_
    | refine gv_b53 ?_ rfl ?_
    | refine gv_b55 ?_ rfl ?_
    | refine gv_b58 ?_ rfl ?_
    | refine gv_b60 ?_ rfl ?_
    | refine gv_b62 ?_ rfl ?_
    | exact gv_rf hS
    | refine gv_sx ?_ (by assumption)
    | exact hS
    | refine And.intro (fun h => absurd h (by decide)) (fun _ => ?_)
    | refine And.intro (fun _ => ?_) (fun h => absurd (by decide) h)
    | refine And.intro (fun _ => ?_) (fun _ => ?_)
    | refine And.intro ?_ ?_
  all_goals (first | assumption | decide | omega | (subst_vars; simp [am_upS] at * <;> omega) | (intros; omega) | (simp only [am_c, am_up] at * <;> omega) | (simp [am_c, am_up] at * <;> omega))
theorem v_row_X6 {l : Launch} {μ : am_N} {Q : Option am_V → am_N → Prop} (a : Int) (hS : sx μ μ) (ha0 : -2147483648 ≤ a) (ha1 : a ≤ 2147483647) (k : ∀ r μ', gv [44, 45] μ μ' → ((am_c a < 0 ∧ r = -4 ∧ μ' 44 1 = μ 44 1) ∨ (0 ≤ am_c a ∧ (99 < am_c a ∨ μ 44 1 = 12) ∧ r = -6 ∧ μ' 44 1 = μ 44 1) ∨ (0 ≤ am_c a ∧ am_c a ≤ 99 ∧ μ 44 1 < 12 ∧ r = μ 44 1 + 1 ∧ μ' 44 1 = μ 44 1 + 1)) → Q (some (.inl r)) μ') : am_Does l 86 [.inr (.inr 0), .inl a] μ Q := by
  refine am_Does_of (Nat.le_of_ble_eq_true rfl) (Nat.le_of_ble_eq_true rfl) (Nat.le_of_ble_eq_true rfl) ?_
  have hb := sx_all hS
  refine am_go (ct := fun _ => false) am_oX6_row 300 ?_
  conv => whnf
  repeat' first
    | (refine (?_ : am_wp _ _ _ _ _ _ _ _ _ _ _ _); conv => whnf)
    | (refine (?_ : am_sw _ _ _ _); conv => whnf)
    | refine And.intro trivial ?_
    | exact trivial
    | assumption
    | refine k _ _ ?_ ?_
    | refine v_full_X3_44 (ν := μ) ?_ (fun _ => ?_) (fun _ => ?_)
    | refine v_putE_X3_44 _ ?_ ?_ ?_
    | refine w_refuse_X6 _ (gv_i (E := [44, 45]) (ν := μ) (by repeat' first | assumption | exact gv_rf hS | refine gv_up ?_ rfl rfl | refine gv_sx ?_ (by assumption))) ?_ ?_ (fun _ _ _ => ?_)
    | refine gv_up ?_ rfl rfl
    | refine gv_b1 ?_ rfl ?_
    | refine gv_b22 ?_ rfl ?_
    | refine gv_b36 ?_ rfl ?_
    | refine gv_b44 ?_ rfl ?_
    | refine gv_b46 ?_ rfl ?_
    | refine gv_b48 ?_ rfl ?_
    | refine gv_b50 ?_ rfl ?_
    | refine gv_b53 ?_ rfl ?_
    | refine gv_b55 ?_ rfl ?_
    | refine gv_b58 ?_ rfl ?_
    | refine gv_b60 ?_ rfl ?_
    | refine gv_b62 ?_ rfl ?_
    | exact gv_rf hS
    | refine gv_sx ?_ (by assumption)
    | exact hS
    | refine And.intro (fun h => absurd h (by decide)) (fun _ => ?_)
    | refine And.intro (fun _ => ?_) (fun h => absurd (by decide) h)
    | refine And.intro (fun _ => ?_) (fun _ => ?_)
    | refine And.intro ?_ ?_
  all_goals (first | assumption | decide | omega | (subst_vars; simp [am_upS] at * <;> omega) | (intros; omega) | (simp only [am_c, am_up] at * <;> omega) | (simp [am_c, am_up] at * <;> omega))
theorem v_time_X6 {l : Launch} {μ : am_N} {Q : Option am_V → am_N → Prop} (a : Int) (hS : sx μ μ) (ha0 : -2147483648 ≤ a) (ha1 : a ≤ 2147483647) (k : ∀ r μ', gv [46, 47] μ μ' → ((am_c a < 0 ∧ r = -4 ∧ μ' 46 1 = μ 46 1) ∨ (0 ≤ am_c a ∧ (999 < am_c a ∨ μ 46 1 = 6) ∧ r = -6 ∧ μ' 46 1 = μ 46 1) ∨ (0 ≤ am_c a ∧ am_c a ≤ 999 ∧ μ 46 1 < 6 ∧ r = μ 46 1 + 1 ∧ μ' 46 1 = μ 46 1 + 1)) → Q (some (.inl r)) μ') : am_Does l 107 [.inr (.inr 0), .inl a] μ Q := by
  refine am_Does_of (Nat.le_of_ble_eq_true rfl) (Nat.le_of_ble_eq_true rfl) (Nat.le_of_ble_eq_true rfl) ?_
  have hb := sx_all hS
  refine am_go (ct := fun _ => false) am_oX6_time 300 ?_
  conv => whnf
  repeat' first
    | (refine (?_ : am_wp _ _ _ _ _ _ _ _ _ _ _ _); conv => whnf)
    | (refine (?_ : am_sw _ _ _ _); conv => whnf)
    | refine And.intro trivial ?_
    | exact trivial
    | assumption
    | refine k _ _ ?_ ?_
    | refine v_full_X3_46 (ν := μ) ?_ (fun _ => ?_) (fun _ => ?_)
    | refine v_putE_X3_46 _ ?_ ?_ ?_
    | refine w_refuse_X6 _ (gv_i (E := [46, 47]) (ν := μ) (by repeat' first | assumption | exact gv_rf hS | refine gv_up ?_ rfl rfl | refine gv_sx ?_ (by assumption))) ?_ ?_ (fun _ _ _ => ?_)
    | refine gv_up ?_ rfl rfl
    | refine gv_b1 ?_ rfl ?_
    | refine gv_b22 ?_ rfl ?_
    | refine gv_b36 ?_ rfl ?_
    | refine gv_b44 ?_ rfl ?_
    | refine gv_b46 ?_ rfl ?_
    | refine gv_b48 ?_ rfl ?_
    | refine gv_b50 ?_ rfl ?_
    | refine gv_b53 ?_ rfl ?_
    | refine gv_b55 ?_ rfl ?_
    | refine gv_b58 ?_ rfl ?_
    | refine gv_b60 ?_ rfl ?_
    | refine gv_b62 ?_ rfl ?_
    | exact gv_rf hS
    | refine gv_sx ?_ (by assumption)
    | exact hS
    | refine And.intro (fun h => absurd h (by decide)) (fun _ => ?_)
    | refine And.intro (fun _ => ?_) (fun h => absurd (by decide) h)
    | refine And.intro (fun _ => ?_) (fun _ => ?_)
    | refine And.intro ?_ ?_
  all_goals (first | assumption | decide | omega | (subst_vars; simp [am_upS] at * <;> omega) | (intros; omega) | (simp only [am_c, am_up] at * <;> omega) | (simp [am_c, am_up] at * <;> omega))
theorem v_bag_X6 {l : Launch} {μ : am_N} {Q : Option am_V → am_N → Prop} (a : Int) (hS : sx μ μ) (ha0 : -2147483648 ≤ a) (ha1 : a ≤ 2147483647) (k : ∀ r μ', gv [48, 49] μ μ' → ((am_c a < 1 ∧ r = -4 ∧ μ' 48 1 = μ 48 1) ∨ (1 ≤ am_c a ∧ (9 < am_c a ∨ μ 48 1 = 6) ∧ r = -6 ∧ μ' 48 1 = μ 48 1) ∨ (1 ≤ am_c a ∧ am_c a ≤ 9 ∧ μ 48 1 < 6 ∧ r = μ 48 1 + 1 ∧ μ' 48 1 = μ 48 1 + 1)) → Q (some (.inl r)) μ') : am_Does l 91 [.inr (.inr 0), .inl a] μ Q := by
  refine am_Does_of (Nat.le_of_ble_eq_true rfl) (Nat.le_of_ble_eq_true rfl) (Nat.le_of_ble_eq_true rfl) ?_
  have hb := sx_all hS
  refine am_go (ct := fun _ => false) am_oX6_bag 300 ?_
  conv => whnf
  repeat' first
    | (refine (?_ : am_wp _ _ _ _ _ _ _ _ _ _ _ _); conv => whnf)
    | (refine (?_ : am_sw _ _ _ _); conv => whnf)
    | refine And.intro trivial ?_
    | exact trivial
    | assumption
    | refine k _ _ ?_ ?_
    | refine v_full_X3_48 (ν := μ) ?_ (fun _ => ?_) (fun _ => ?_)
    | refine v_putE_X3_48 _ ?_ ?_ ?_
    | refine w_refuse_X6 _ (gv_i (E := [48, 49]) (ν := μ) (by repeat' first | assumption | exact gv_rf hS | refine gv_up ?_ rfl rfl | refine gv_sx ?_ (by assumption))) ?_ ?_ (fun _ _ _ => ?_)
    | refine gv_up ?_ rfl rfl
    | refine gv_b1 ?_ rfl ?_
    | refine gv_b22 ?_ rfl ?_
    | refine gv_b36 ?_ rfl ?_
    | refine gv_b44 ?_ rfl ?_
    | refine gv_b46 ?_ rfl ?_
    | refine gv_b48 ?_ rfl ?_
    | refine gv_b50 ?_ rfl ?_
    | refine gv_b53 ?_ rfl ?_
    | refine gv_b55 ?_ rfl ?_
    | refine gv_b58 ?_ rfl ?_
    | refine gv_b60 ?_ rfl ?_
    | refine gv_b62 ?_ rfl ?_
    | exact gv_rf hS
    | refine gv_sx ?_ (by assumption)
    | exact hS
    | refine And.intro (fun h => absurd h (by decide)) (fun _ => ?_)
    | refine And.intro (fun _ => ?_) (fun h => absurd (by decide) h)
    | refine And.intro (fun _ => ?_) (fun _ => ?_)
    | refine And.intro ?_ ?_
  all_goals (first | assumption | decide | omega | (subst_vars; simp [am_upS] at * <;> omega) | (intros; omega) | (simp only [am_c, am_up] at * <;> omega) | (simp [am_c, am_up] at * <;> omega))
theorem v_clear_X6 {l : Launch} {μ : am_N} {Q : Option am_V → am_N → Prop}  (hS : sx μ μ)  (k : ∀ r μ', gv [44] μ μ' → r = μ 44 1 → μ' 44 1 = 0 → Q (some (.inl r)) μ') : am_Does l 88 [.inr (.inr 0)] μ Q := by
  refine am_Does_of (Nat.le_of_ble_eq_true rfl) (Nat.le_of_ble_eq_true rfl) (Nat.le_of_ble_eq_true rfl) ?_
  have hb := sx_all hS
  refine am_go (ct := fun _ => false) am_oX6_clear 300 ?_
  conv => whnf
  repeat' first
    | (refine (?_ : am_wp _ _ _ _ _ _ _ _ _ _ _ _); conv => whnf)
    | (refine (?_ : am_sw _ _ _ _); conv => whnf)
    | refine And.intro trivial ?_
    | exact trivial
    | assumption
    | refine k _ _ ?_ ?_ ?_
    | refine v_drop_X3_44 ?_
    | refine gv_up ?_ rfl rfl
    | refine gv_b1 ?_ rfl ?_
    | refine gv_b22 ?_ rfl ?_
    | refine gv_b36 ?_ rfl ?_
    | refine gv_b44 ?_ rfl ?_
    | refine gv_b46 ?_ rfl ?_
    | refine gv_b48 ?_ rfl ?_
    | refine gv_b50 ?_ rfl ?_
    | refine gv_b53 ?_ rfl ?_
    | refine gv_b55 ?_ rfl ?_
    | refine gv_b58 ?_ rfl ?_
    | refine gv_b60 ?_ rfl ?_
    | refine gv_b62 ?_ rfl ?_
    | exact gv_rf hS
    | refine gv_sx ?_ (by assumption)
    | exact hS
    | refine And.intro (fun h => absurd h (by decide)) (fun _ => ?_)
    | refine And.intro (fun _ => ?_) (fun h => absurd (by decide) h)
    | refine And.intro (fun _ => ?_) (fun _ => ?_)
    | refine And.intro ?_ ?_
  all_goals (first | assumption | decide | omega | (subst_vars; simp [am_upS] at * <;> omega) | (intros; omega) | (simp only [am_c, am_up] at * <;> omega) | (simp [am_c, am_up] at * <;> omega))
theorem v_wipe_X6 {l : Launch} {μ : am_N} {Q : Option am_V → am_N → Prop}  (hS : sx μ μ)  (k : ∀ r μ', gv [46] μ μ' → r = μ 46 1 → μ' 46 1 = 0 → Q (some (.inl r)) μ') : am_Does l 109 [.inr (.inr 0)] μ Q := by
  refine am_Does_of (Nat.le_of_ble_eq_true rfl) (Nat.le_of_ble_eq_true rfl) (Nat.le_of_ble_eq_true rfl) ?_
  have hb := sx_all hS
  refine am_go (ct := fun _ => false) am_oX6_wipe 300 ?_
  conv => whnf
  repeat' first
    | (refine (?_ : am_wp _ _ _ _ _ _ _ _ _ _ _ _); conv => whnf)
    | (refine (?_ : am_sw _ _ _ _); conv => whnf)
    | refine And.intro trivial ?_
    | exact trivial
    | assumption
    | refine k _ _ ?_ ?_ ?_
    | refine v_drop_X3_46 ?_
    | refine gv_up ?_ rfl rfl
    | refine gv_b1 ?_ rfl ?_
    | refine gv_b22 ?_ rfl ?_
    | refine gv_b36 ?_ rfl ?_
    | refine gv_b44 ?_ rfl ?_
    | refine gv_b46 ?_ rfl ?_
    | refine gv_b48 ?_ rfl ?_
    | refine gv_b50 ?_ rfl ?_
    | refine gv_b53 ?_ rfl ?_
    | refine gv_b55 ?_ rfl ?_
    | refine gv_b58 ?_ rfl ?_
    | refine gv_b60 ?_ rfl ?_
    | refine gv_b62 ?_ rfl ?_
    | exact gv_rf hS
    | refine gv_sx ?_ (by assumption)
    | exact hS
    | refine And.intro (fun h => absurd h (by decide)) (fun _ => ?_)
    | refine And.intro (fun _ => ?_) (fun h => absurd (by decide) h)
    | refine And.intro (fun _ => ?_) (fun _ => ?_)
    | refine And.intro ?_ ?_
  all_goals (first | assumption | decide | omega | (subst_vars; simp [am_upS] at * <;> omega) | (intros; omega) | (simp only [am_c, am_up] at * <;> omega) | (simp [am_c, am_up] at * <;> omega))
theorem v_empty_X6 {l : Launch} {μ : am_N} {Q : Option am_V → am_N → Prop}  (hS : sx μ μ)  (k : ∀ r μ', gv [48] μ μ' → r = μ 48 1 → μ' 48 1 = 0 → Q (some (.inl r)) μ') : am_Does l 92 [.inr (.inr 0)] μ Q := by
  refine am_Does_of (Nat.le_of_ble_eq_true rfl) (Nat.le_of_ble_eq_true rfl) (Nat.le_of_ble_eq_true rfl) ?_
  have hb := sx_all hS
  refine am_go (ct := fun _ => false) am_oX6_empty 300 ?_
  conv => whnf
  repeat' first
    | (refine (?_ : am_wp _ _ _ _ _ _ _ _ _ _ _ _); conv => whnf)
    | (refine (?_ : am_sw _ _ _ _); conv => whnf)
    | refine And.intro trivial ?_
    | exact trivial
    | assumption
    | refine k _ _ ?_ ?_ ?_
    | refine v_drop_X3_48 ?_
    | refine gv_up ?_ rfl rfl
    | refine gv_b1 ?_ rfl ?_
    | refine gv_b22 ?_ rfl ?_
    | refine gv_b36 ?_ rfl ?_
    | refine gv_b44 ?_ rfl ?_
    | refine gv_b46 ?_ rfl ?_
    | refine gv_b48 ?_ rfl ?_
    | refine gv_b50 ?_ rfl ?_
    | refine gv_b53 ?_ rfl ?_
    | refine gv_b55 ?_ rfl ?_
    | refine gv_b58 ?_ rfl ?_
    | refine gv_b60 ?_ rfl ?_
    | refine gv_b62 ?_ rfl ?_
    | exact gv_rf hS
    | refine gv_sx ?_ (by assumption)
    | exact hS
    | refine And.intro (fun h => absurd h (by decide)) (fun _ => ?_)
    | refine And.intro (fun _ => ?_) (fun h => absurd (by decide) h)
    | refine And.intro (fun _ => ?_) (fun _ => ?_)
    | refine And.intro ?_ ?_
  all_goals (first | assumption | decide | omega | (subst_vars; simp [am_upS] at * <;> omega) | (intros; omega) | (simp only [am_c, am_up] at * <;> omega) | (simp [am_c, am_up] at * <;> omega))
theorem v_start_X6 {l : Launch} {μ : am_N} {Q : Option am_V → am_N → Prop} (a b : Int) (hS : sx μ μ) (ha0 : -2147483648 ≤ a) (ha1 : a ≤ 2147483647) (hb0 : -2147483648 ≤ b) (hb1 : b ≤ 2147483647) (k : ∀ r μ', gv [6, 62] μ μ' → Q (some (.inl r)) μ') : am_Does l 64 [.inr (.inr 0), .inl a, .inl b] μ Q := by
  refine am_Does_of (Nat.le_of_ble_eq_true rfl) (Nat.le_of_ble_eq_true rfl) (Nat.le_of_ble_eq_true rfl) ?_
  have hb := sx_all hS
  refine am_go (ct := fun _ => false) am_oX6_start 300 ?_
  conv => whnf
  repeat' first
    | (refine (?_ : am_wp _ _ _ _ _ _ _ _ _ _ _ _); conv => whnf)
    | (refine (?_ : am_sw _ _ _ _); conv => whnf)
    | refine And.intro trivial ?_
    | exact trivial
    | assumption
    | refine k _ _ ?_
    | refine v_drop_X4 ?_
    | refine w_has_X0_1 _ (gv_i (E := [6, 62]) (ν := μ) (by repeat' first | assumption | exact gv_rf hS | refine gv_up ?_ rfl rfl | refine gv_sx ?_ (by assumption))) (fun _ _ _ => ?_) (fun _ => ?_)
    | refine w_has_X0_8 _ (gv_i (E := [6, 62]) (ν := μ) (by repeat' first | assumption | exact gv_rf hS | refine gv_up ?_ rfl rfl | refine gv_sx ?_ (by assumption))) (fun _ _ _ => ?_) (fun _ => ?_)
    | refine w_has_X0_15 _ (gv_i (E := [6, 62]) (ν := μ) (by repeat' first | assumption | exact gv_rf hS | refine gv_up ?_ rfl rfl | refine gv_sx ?_ (by assumption))) (fun _ _ _ => ?_) (fun _ => ?_)
    | refine w_refuse_X6 _ (gv_i (E := [6, 62]) (ν := μ) (by repeat' first | assumption | exact gv_rf hS | refine gv_up ?_ rfl rfl | refine gv_sx ?_ (by assumption))) ?_ ?_ (fun _ _ _ => ?_)
    | refine gv_up ?_ rfl rfl
    | refine gv_b1 ?_ rfl ?_
    | refine gv_b22 ?_ rfl ?_
    | refine gv_b36 ?_ rfl ?_
    | refine gv_b44 ?_ rfl ?_
    | refine gv_b46 ?_ rfl ?_
    | refine gv_b48 ?_ rfl ?_
    | refine gv_b50 ?_ rfl ?_
    | refine gv_b53 ?_ rfl ?_
    | refine gv_b55 ?_ rfl ?_
    | refine gv_b58 ?_ rfl ?_
    | refine gv_b60 ?_ rfl ?_
    | refine gv_b62 ?_ rfl ?_
    | exact gv_rf hS
    | refine gv_sx ?_ (by assumption)
    | exact hS
    | refine And.intro (fun h => absurd h (by decide)) (fun _ => ?_)
    | refine And.intro (fun _ => ?_) (fun h => absurd (by decide) h)
    | refine And.intro (fun _ => ?_) (fun _ => ?_)
    | refine And.intro ?_ ?_
  all_goals (first | assumption | decide | omega | (subst_vars; simp [am_upS] at * <;> omega) | (intros; omega) | (simp only [am_c, am_up] at * <;> omega) | (simp [am_c, am_up] at * <;> omega))
theorem v_kind_X6 {l : Launch} {μ : am_N} {Q : Option am_V → am_N → Prop} (a b c : Int) (hS : sx μ μ) (ha0 : -2147483648 ≤ a) (ha1 : a ≤ 2147483647) (hb0 : -2147483648 ≤ b) (hb1 : b ≤ 2147483647) (hc0 : -2147483648 ≤ c) (hc1 : c ≤ 2147483647) (k : ∀ r μ', gv [2, 3, 62] μ μ' → Q (some (.inl r)) μ') : am_Does l 65 [.inr (.inr 0), .inl a, .inl b, .inl c] μ Q := by
  refine am_Does_of (Nat.le_of_ble_eq_true rfl) (Nat.le_of_ble_eq_true rfl) (Nat.le_of_ble_eq_true rfl) ?_
  have hb := sx_all hS
  refine am_go (ct := fun _ => false) am_oX6_kind 300 ?_
  conv => whnf
  repeat' first
    | (refine (?_ : am_wp _ _ _ _ _ _ _ _ _ _ _ _); conv => whnf)
    | (refine (?_ : am_sw _ _ _ _); conv => whnf)
    | refine And.intro trivial ?_
    | exact trivial
    | assumption
    | refine k _ _ ?_
    | refine v_drop_X4 ?_
    | refine w_has_X0_1 _ (gv_i (E := [2, 3, 62]) (ν := μ) (by repeat' first | assumption | exact gv_rf hS | refine gv_up ?_ rfl rfl | refine gv_sx ?_ (by assumption))) (fun _ _ _ => ?_) (fun _ => ?_)
    | refine w_has_X0_8 _ (gv_i (E := [2, 3, 62]) (ν := μ) (by repeat' first | assumption | exact gv_rf hS | refine gv_up ?_ rfl rfl | refine gv_sx ?_ (by assumption))) (fun _ _ _ => ?_) (fun _ => ?_)
    | refine w_has_X0_15 _ (gv_i (E := [2, 3, 62]) (ν := μ) (by repeat' first | assumption | exact gv_rf hS | refine gv_up ?_ rfl rfl | refine gv_sx ?_ (by assumption))) (fun _ _ _ => ?_) (fun _ => ?_)
    | refine w_refuse_X6 _ (gv_i (E := [2, 3, 62]) (ν := μ) (by repeat' first | assumption | exact gv_rf hS | refine gv_up ?_ rfl rfl | refine gv_sx ?_ (by assumption))) ?_ ?_ (fun _ _ _ => ?_)
    | refine gv_up ?_ rfl rfl
    | refine gv_b1 ?_ rfl ?_
    | refine gv_b22 ?_ rfl ?_
    | refine gv_b36 ?_ rfl ?_
    | refine gv_b44 ?_ rfl ?_
    | refine gv_b46 ?_ rfl ?_
    | refine gv_b48 ?_ rfl ?_
    | refine gv_b50 ?_ rfl ?_
    | refine gv_b53 ?_ rfl ?_
    | refine gv_b55 ?_ rfl ?_
    | refine gv_b58 ?_ rfl ?_
    | refine gv_b60 ?_ rfl ?_
    | refine gv_b62 ?_ rfl ?_
    | exact gv_rf hS
    | refine gv_sx ?_ (by assumption)
    | exact hS
    | refine And.intro (fun h => absurd h (by decide)) (fun _ => ?_)
    | refine And.intro (fun _ => ?_) (fun h => absurd (by decide) h)
    | refine And.intro (fun _ => ?_) (fun _ => ?_)
    | refine And.intro ?_ ?_
  all_goals (first | assumption | decide | omega | (subst_vars; simp [am_upS] at * <;> omega) | (intros; omega) | (simp only [am_c, am_up] at * <;> omega) | (simp [am_c, am_up] at * <;> omega))
theorem v_set_X6 {l : Launch} {μ : am_N} {Q : Option am_V → am_N → Prop} (a b : Int) (hS : sx μ μ) (ha0 : -2147483648 ≤ a) (ha1 : a ≤ 2147483647) (hb0 : -2147483648 ≤ b) (hb1 : b ≤ 2147483647) (k : ∀ r μ', gv [1, 62] μ μ' → Q (some (.inl r)) μ') : am_Does l 66 [.inr (.inr 0), .inl a, .inl b] μ Q := by
  refine am_Does_of (Nat.le_of_ble_eq_true rfl) (Nat.le_of_ble_eq_true rfl) (Nat.le_of_ble_eq_true rfl) ?_
  have hb := sx_all hS
  refine am_go (ct := fun _ => false) am_oX6_set 300 ?_
  conv => whnf
  repeat' first
    | (refine (?_ : am_wp _ _ _ _ _ _ _ _ _ _ _ _); conv => whnf)
    | (refine (?_ : am_sw _ _ _ _); conv => whnf)
    | refine And.intro trivial ?_
    | exact trivial
    | assumption
    | refine k _ _ ?_
    | refine v_drop_X4 ?_
    | refine v_become_X0_1 (ν := μ) _ _ ?_  (fun _ _ => ?_)
    | refine w_refuse_X6 _ (gv_i (E := [1, 62]) (ν := μ) (by repeat' first | assumption | exact gv_rf hS | refine gv_up ?_ rfl rfl | refine gv_sx ?_ (by assumption))) ?_ ?_ (fun _ _ _ => ?_)
    | refine w_leastOf_X6 _ (gv_i (E := [1, 62]) (ν := μ) (by repeat' first | assumption | exact gv_rf hS | refine gv_up ?_ rfl rfl | refine gv_sx ?_ (by assumption)))  (fun _ => ?_)
    | refine w_mostOf_X6 _ (gv_i (E := [1, 62]) (ν := μ) (by repeat' first | assumption | exact gv_rf hS | refine gv_up ?_ rfl rfl | refine gv_sx ?_ (by assumption)))  (fun _ => ?_)
    | refine w_setting_X0_1 _ (gv_i (E := [1, 62]) (ν := μ) (by repeat' first | assumption | exact gv_rf hS | refine gv_up ?_ rfl rfl | refine gv_sx ?_ (by assumption)))  (fun _ => ?_)
    | refine gv_up ?_ rfl rfl
    | refine gv_b1 ?_ rfl ?_
    | refine gv_b22 ?_ rfl ?_
    | refine gv_b36 ?_ rfl ?_
    | refine gv_b44 ?_ rfl ?_
    | refine gv_b46 ?_ rfl ?_
    | refine gv_b48 ?_ rfl ?_
    | refine gv_b50 ?_ rfl ?_
    | refine gv_b53 ?_ rfl ?_
    | refine gv_b55 ?_ rfl ?_
    | refine gv_b58 ?_ rfl ?_
    | refine gv_b60 ?_ rfl ?_
    | refine gv_b62 ?_ rfl ?_
    | exact gv_rf hS
    | refine gv_sx ?_ (by assumption)
    | exact hS
    | refine And.intro (fun h => absurd h (by decide)) (fun _ => ?_)
    | refine And.intro (fun _ => ?_) (fun h => absurd (by decide) h)
    | refine And.intro (fun _ => ?_) (fun _ => ?_)
    | refine And.intro ?_ ?_
  all_goals (first | assumption | decide | omega | (subst_vars; simp [am_upS] at * <;> omega) | (intros; omega) | (simp only [am_c, am_up] at * <;> omega) | (simp [am_c, am_up] at * <;> omega))
theorem v_habit_X6 {l : Launch} {μ : am_N} {Q : Option am_V → am_N → Prop} (a b : Int) (hS : sx μ μ) (ha0 : -2147483648 ≤ a) (ha1 : a ≤ 2147483647) (hb0 : -2147483648 ≤ b) (hb1 : b ≤ 2147483647) (k : ∀ r μ', gv [52, 53, 54, 55, 56] μ μ' → Q (some (.inl r)) μ') : am_Does l 103 [.inr (.inr 0), .inl a, .inl b] μ Q := by
  refine am_Does_of (Nat.le_of_ble_eq_true rfl) (Nat.le_of_ble_eq_true rfl) (Nat.le_of_ble_eq_true rfl) ?_
  have hb := sx_all hS
  refine am_go (ct := fun _ => false) am_oX6_habit 300 ?_
  conv => whnf
  repeat' first
    | (refine (?_ : am_wp _ _ _ _ _ _ _ _ _ _ _ _); conv => whnf)
    | (refine (?_ : am_sw _ _ _ _); conv => whnf)
    | refine And.intro trivial ?_
    | exact trivial
    | assumption
    | refine k _ _ ?_
    | refine v_put_X1 (ν := μ) _ _ ?_  (fun _ _ _ => ?_)
    | refine v_full_X3_53 (ν := μ) ?_ (fun _ => ?_) (fun _ => ?_)
    | refine w_refuse_X6 _ (gv_i (E := [52, 53, 54, 55, 56]) (ν := μ) (by repeat' first | assumption | exact gv_rf hS | refine gv_up ?_ rfl rfl | refine gv_sx ?_ (by assumption))) ?_ ?_ (fun _ _ _ => ?_)
    | refine gv_up ?_ rfl rfl
    | refine gv_b1 ?_ rfl ?_
    | refine gv_b22 ?_ rfl ?_
    | refine gv_b36 ?_ rfl ?_
    | refine gv_b44 ?_ rfl ?_
    | refine gv_b46 ?_ rfl ?_
    | refine gv_b48 ?_ rfl ?_
    | refine gv_b50 ?_ rfl ?_
    | refine gv_b53 ?_ rfl ?_
    | refine gv_b55 ?_ rfl ?_
    | refine gv_b58 ?_ rfl ?_
    | refine gv_b60 ?_ rfl ?_
    | refine gv_b62 ?_ rfl ?_
    | exact gv_rf hS
    | refine gv_sx ?_ (by assumption)
    | exact hS
    | refine And.intro (fun h => absurd h (by decide)) (fun _ => ?_)
    | refine And.intro (fun _ => ?_) (fun h => absurd (by decide) h)
    | refine And.intro (fun _ => ?_) (fun _ => ?_)
    | refine And.intro ?_ ?_
  all_goals (first | assumption | decide | omega | (subst_vars; simp [am_upS] at * <;> omega) | (intros; omega) | (simp only [am_c, am_up] at * <;> omega) | (simp [am_c, am_up] at * <;> omega))
theorem v_forget_X6 {l : Launch} {μ : am_N} {Q : Option am_V → am_N → Prop}  (hS : sx μ μ)  (k : ∀ r μ', gv [53, 55] μ μ' → Q (some (.inl r)) μ') : am_Does l 104 [.inr (.inr 0)] μ Q := by
  refine am_Does_of (Nat.le_of_ble_eq_true rfl) (Nat.le_of_ble_eq_true rfl) (Nat.le_of_ble_eq_true rfl) ?_
  have hb := sx_all hS
  refine am_go (ct := fun _ => false) am_oX6_forget 300 ?_
  conv => whnf
  repeat' first
    | (refine (?_ : am_wp _ _ _ _ _ _ _ _ _ _ _ _); conv => whnf)
    | (refine (?_ : am_sw _ _ _ _); conv => whnf)
    | refine And.intro trivial ?_
    | exact trivial
    | assumption
    | refine k _ _ ?_
    | refine v_drop_X1 (ν := μ)  ?_  (fun _ _ _ => ?_)
    | refine gv_up ?_ rfl rfl
    | refine gv_b1 ?_ rfl ?_
    | refine gv_b22 ?_ rfl ?_
    | refine gv_b36 ?_ rfl ?_
    | refine gv_b44 ?_ rfl ?_
    | refine gv_b46 ?_ rfl ?_
    | refine gv_b48 ?_ rfl ?_
    | refine gv_b50 ?_ rfl ?_
    | refine gv_b53 ?_ rfl ?_
    | refine gv_b55 ?_ rfl ?_
    | refine gv_b58 ?_ rfl ?_
    | refine gv_b60 ?_ rfl ?_
    | refine gv_b62 ?_ rfl ?_
    | exact gv_rf hS
    | refine gv_sx ?_ (by assumption)
    | exact hS
    | refine And.intro (fun h => absurd h (by decide)) (fun _ => ?_)
    | refine And.intro (fun _ => ?_) (fun h => absurd (by decide) h)
    | refine And.intro (fun _ => ?_) (fun _ => ?_)
    | refine And.intro ?_ ?_
  all_goals (first | assumption | decide | omega | (subst_vars; simp [am_upS] at * <;> omega) | (intros; omega) | (simp only [am_c, am_up] at * <;> omega) | (simp [am_c, am_up] at * <;> omega))
theorem v_image_X6 {l : Launch} {μ : am_N} {Q : Option am_V → am_N → Prop}  (hS : sx μ μ)  (k : ∀ r μ', gv [22, 23, 24, 25, 26, 27, 28, 50, 51, 57, 58, 59, 60, 61, 0] μ μ' → Q (some (.inl r)) μ') : am_Does l 110 [.inr (.inr 0)] μ Q := by
  refine am_Does_of (Nat.le_of_ble_eq_true rfl) (Nat.le_of_ble_eq_true rfl) (Nat.le_of_ble_eq_true rfl) ?_
  have hb := sx_all hS
  refine am_go (ct := fun _ => false) am_oX6_image 300 ?_
  conv => whnf
  repeat' first
    | (refine (?_ : am_wp _ _ _ _ _ _ _ _ _ _ _ _); conv => whnf)
    | (refine (?_ : am_sw _ _ _ _); conv => whnf)
    | refine And.intro trivial ?_
    | exact trivial
    | assumption
    | refine k _ _ ?_
    | refine v_take_X0_22_1 (ν := μ)  ?_  (fun _ _ => ?_)
    | refine v_take_X3_50_48 (ν := μ)  ?_  (fun _ _ => ?_)
    | refine v_take_X1_57_52 (ν := μ)  ?_  (fun _ _ => ?_)
    | refine w_take_X0_8_1  (gv_i (E := [22, 23, 24, 25, 26, 27, 28, 50, 51, 57, 58, 59, 60, 61, 0]) (ν := μ) (by repeat' first | assumption | exact gv_rf hS | refine gv_up ?_ rfl rfl | refine gv_sx ?_ (by assumption)))  (fun _ _ => ?_)
    | refine w_take_X0_15_8  (gv_i (E := [22, 23, 24, 25, 26, 27, 28, 50, 51, 57, 58, 59, 60, 61, 0]) (ν := μ) (by repeat' first | assumption | exact gv_rf hS | refine gv_up ?_ rfl rfl | refine gv_sx ?_ (by assumption)))  (fun _ _ => ?_)
    | refine gv_up ?_ rfl rfl
    | refine gv_b1 ?_ rfl ?_
    | refine gv_b22 ?_ rfl ?_
    | refine gv_b36 ?_ rfl ?_
    | refine gv_b44 ?_ rfl ?_
    | refine gv_b46 ?_ rfl ?_
    | refine gv_b48 ?_ rfl ?_
    | refine gv_b50 ?_ rfl ?_
    | refine gv_b53 ?_ rfl ?_
    | refine gv_b55 ?_ rfl ?_
    | refine gv_b58 ?_ rfl ?_
    | refine gv_b60 ?_ rfl ?_
    | refine gv_b62 ?_ rfl ?_
    | exact gv_rf hS
    | refine gv_sx ?_ (by assumption)
    | exact hS
    | refine And.intro (fun h => absurd h (by decide)) (fun _ => ?_)
    | refine And.intro (fun _ => ?_) (fun h => absurd (by decide) h)
    | refine And.intro (fun _ => ?_) (fun _ => ?_)
    | refine And.intro ?_ ?_
  all_goals (first | assumption | decide | omega | (subst_vars; simp [am_upS] at * <;> omega) | (intros; omega) | (simp only [am_c, am_up] at * <;> omega) | (simp [am_c, am_up] at * <;> omega))
theorem v_restore_X6 {l : Launch} {μ : am_N} {Q : Option am_V → am_N → Prop}  (hS : sx μ μ)  (k : ∀ r μ', gv [1, 2, 3, 4, 5, 6, 7, 48, 49, 52, 53, 54, 55, 56, 62] μ μ' → Q (some (.inl r)) μ') : am_Does l 111 [.inr (.inr 0)] μ Q := by
  refine am_Does_of (Nat.le_of_ble_eq_true rfl) (Nat.le_of_ble_eq_true rfl) (Nat.le_of_ble_eq_true rfl) ?_
  have hb := sx_all hS
  refine am_go (ct := fun _ => false) am_oX6_restore 300 ?_
  conv => whnf
  repeat' first
    | (refine (?_ : am_wp _ _ _ _ _ _ _ _ _ _ _ _); conv => whnf)
    | (refine (?_ : am_sw _ _ _ _); conv => whnf)
    | refine And.intro trivial ?_
    | exact trivial
    | assumption
    | refine k _ _ ?_
    | refine v_take_X0_1_22 (ν := μ)  ?_  (fun _ _ => ?_)
    | refine v_take_X3_48_50 (ν := μ)  ?_  (fun _ _ => ?_)
    | refine v_take_X1_52_57 (ν := μ)  ?_  (fun _ _ => ?_)
    | refine v_drop_X4 ?_
    | refine w_refuse_X6 _ (gv_i (E := [1, 2, 3, 4, 5, 6, 7, 48, 49, 52, 53, 54, 55, 56, 62]) (ν := μ) (by repeat' first | assumption | exact gv_rf hS | refine gv_up ?_ rfl rfl | refine gv_sx ?_ (by assumption))) ?_ ?_ (fun _ _ _ => ?_)
    | refine w_take_X0_8_1  (gv_i (E := [1, 2, 3, 4, 5, 6, 7, 48, 49, 52, 53, 54, 55, 56, 62]) (ν := μ) (by repeat' first | assumption | exact gv_rf hS | refine gv_up ?_ rfl rfl | refine gv_sx ?_ (by assumption)))  (fun _ _ => ?_)
    | refine w_take_X0_15_8  (gv_i (E := [1, 2, 3, 4, 5, 6, 7, 48, 49, 52, 53, 54, 55, 56, 62]) (ν := μ) (by repeat' first | assumption | exact gv_rf hS | refine gv_up ?_ rfl rfl | refine gv_sx ?_ (by assumption)))  (fun _ _ => ?_)
    | refine gv_up ?_ rfl rfl
    | refine gv_b1 ?_ rfl ?_
    | refine gv_b22 ?_ rfl ?_
    | refine gv_b36 ?_ rfl ?_
    | refine gv_b44 ?_ rfl ?_
    | refine gv_b46 ?_ rfl ?_
    | refine gv_b48 ?_ rfl ?_
    | refine gv_b50 ?_ rfl ?_
    | refine gv_b53 ?_ rfl ?_
    | refine gv_b55 ?_ rfl ?_
    | refine gv_b58 ?_ rfl ?_
    | refine gv_b60 ?_ rfl ?_
    | refine gv_b62 ?_ rfl ?_
    | exact gv_rf hS
    | refine gv_sx ?_ (by assumption)
    | exact hS
    | refine And.intro (fun h => absurd h (by decide)) (fun _ => ?_)
    | refine And.intro (fun _ => ?_) (fun h => absurd (by decide) h)
    | refine And.intro (fun _ => ?_) (fun _ => ?_)
    | refine And.intro ?_ ?_
  all_goals (first | assumption | decide | omega | (subst_vars; simp [am_upS] at * <;> omega) | (intros; omega) | (simp only [am_c, am_up] at * <;> omega) | (simp [am_c, am_up] at * <;> omega))
theorem v_run_X6 {l : Launch} {μ : am_N} {Q : Option am_V → am_N → Prop}  (hS : sx μ μ)  (k : ∀ r μ', gv [1, 6, 7, 62, 63, 64, 65, 66, 67, 68, 69, 70, 71, 72, 73, 74, 75, 76, 77] μ μ' → Q (some (.inl r)) μ') : am_Does l 67 [.inr (.inr 0)] μ Q := by
  refine am_Does_of (Nat.le_of_ble_eq_true rfl) (Nat.le_of_ble_eq_true rfl) (Nat.le_of_ble_eq_true rfl) ?_
  have hb := sx_all hS
  refine am_go (ct := fun _ => false) am_oX6_run 300 ?_
  conv => whnf
  repeat' first
    | (refine (?_ : am_wp _ _ _ _ _ _ _ _ _ _ _ _); conv => whnf)
    | (refine (?_ : am_sw _ _ _ _); conv => whnf)
    | refine And.intro trivial ?_
    | exact trivial
    | assumption
    | refine k _ _ ?_
    | refine v_keep_X4 (ν := μ)  ?_  (fun _ _ => ?_)
    | refine v_goOn_X2_1 (ν := μ)  ?_  (fun _ _ _ => ?_)
    | refine w_refuse_X6 _ (gv_i (E := [1, 6, 7, 62, 63, 64, 65, 66, 67, 68, 69, 70, 71, 72, 73, 74, 75, 76, 77]) (ν := μ) (by repeat' first | assumption | exact gv_rf hS | refine gv_up ?_ rfl rfl | refine gv_sx ?_ (by assumption))) ?_ ?_ (fun _ _ _ => ?_)
    | refine w_goOn_X2_38_8  (gv_i (E := [1, 6, 7, 62, 63, 64, 65, 66, 67, 68, 69, 70, 71, 72, 73, 74, 75, 76, 77]) (ν := μ) (by repeat' first | assumption | exact gv_rf hS | refine gv_up ?_ rfl rfl | refine gv_sx ?_ (by assumption)))  (fun _ _ _ => ?_)
    | refine w_goOn_X2_29_8  (gv_i (E := [1, 6, 7, 62, 63, 64, 65, 66, 67, 68, 69, 70, 71, 72, 73, 74, 75, 76, 77]) (ν := μ) (by repeat' first | assumption | exact gv_rf hS | refine gv_up ?_ rfl rfl | refine gv_sx ?_ (by assumption)))  (fun _ _ _ => ?_)
    | refine gv_up ?_ rfl rfl
    | refine gv_b1 ?_ rfl ?_
    | refine gv_b22 ?_ rfl ?_
    | refine gv_b36 ?_ rfl ?_
    | refine gv_b44 ?_ rfl ?_
    | refine gv_b46 ?_ rfl ?_
    | refine gv_b48 ?_ rfl ?_
    | refine gv_b50 ?_ rfl ?_
    | refine gv_b53 ?_ rfl ?_
    | refine gv_b55 ?_ rfl ?_
    | refine gv_b58 ?_ rfl ?_
    | refine gv_b60 ?_ rfl ?_
    | refine gv_b62 ?_ rfl ?_
    | exact gv_rf hS
    | refine gv_sx ?_ (by assumption)
    | exact hS
    | refine And.intro (fun h => absurd h (by decide)) (fun _ => ?_)
    | refine And.intro (fun _ => ?_) (fun h => absurd (by decide) h)
    | refine And.intro (fun _ => ?_) (fun _ => ?_)
    | refine And.intro ?_ ?_
  all_goals (first | assumption | decide | omega | (subst_vars; simp [am_upS] at * <;> omega) | (intros; omega) | (simp only [am_c, am_up] at * <;> omega) | (simp [am_c, am_up] at * <;> omega))
theorem v_back_X6 {l : Launch} {μ : am_N} {Q : Option am_V → am_N → Prop}  (hS : sx μ μ)  (k : ∀ r μ', gv [1, 6, 7, 62] μ μ' → Q (some (.inl r)) μ') : am_Does l 90 [.inr (.inr 0)] μ Q := by
  refine am_Does_of (Nat.le_of_ble_eq_true rfl) (Nat.le_of_ble_eq_true rfl) (Nat.le_of_ble_eq_true rfl) ?_
  have hb := sx_all hS
  refine am_go (ct := fun _ => false) am_oX6_back 300 ?_
  conv => whnf
  repeat' first
    | (refine (?_ : am_wp _ _ _ _ _ _ _ _ _ _ _ _); conv => whnf)
    | (refine (?_ : am_sw _ _ _ _); conv => whnf)
    | refine And.intro trivial ?_
    | exact trivial
    | assumption
    | refine k _ _ ?_
    | refine v_bring_X4 (ν := μ)  ?_  (fun _ _ _ => ?_)
    | refine w_refuse_X6 _ (gv_i (E := [1, 6, 7, 62]) (ν := μ) (by repeat' first | assumption | exact gv_rf hS | refine gv_up ?_ rfl rfl | refine gv_sx ?_ (by assumption))) ?_ ?_ (fun _ _ _ => ?_)
    | refine gv_up ?_ rfl rfl
    | refine gv_b1 ?_ rfl ?_
    | refine gv_b22 ?_ rfl ?_
    | refine gv_b36 ?_ rfl ?_
    | refine gv_b44 ?_ rfl ?_
    | refine gv_b46 ?_ rfl ?_
    | refine gv_b48 ?_ rfl ?_
    | refine gv_b50 ?_ rfl ?_
    | refine gv_b53 ?_ rfl ?_
    | refine gv_b55 ?_ rfl ?_
    | refine gv_b58 ?_ rfl ?_
    | refine gv_b60 ?_ rfl ?_
    | refine gv_b62 ?_ rfl ?_
    | exact gv_rf hS
    | refine gv_sx ?_ (by assumption)
    | exact hS
    | refine And.intro (fun h => absurd h (by decide)) (fun _ => ?_)
    | refine And.intro (fun _ => ?_) (fun h => absurd (by decide) h)
    | refine And.intro (fun _ => ?_) (fun _ => ?_)
    | refine And.intro ?_ ?_
  all_goals (first | assumption | decide | omega | (subst_vars; simp [am_upS] at * <;> omega) | (intros; omega) | (simp only [am_c, am_up] at * <;> omega) | (simp [am_c, am_up] at * <;> omega))
theorem v_judge_X6 {l : Launch} {μ : am_N} {Q : Option am_V → am_N → Prop}  (hS : sx μ μ)  (k : ∀ r μ', gv [44] μ μ' → μ' 44 1 = 0 → Q (some (.inl r)) μ') : am_Does l 87 [.inr (.inr 0)] μ Q := by
  refine am_Does_of (Nat.le_of_ble_eq_true rfl) (Nat.le_of_ble_eq_true rfl) (Nat.le_of_ble_eq_true rfl) ?_
  have hb := sx_all hS
  refine am_go (ct := fun _ => false) am_oX6_judge 300 ?_
  conv => whnf
  repeat' first
    | (refine (?_ : am_wp _ _ _ _ _ _ _ _ _ _ _ _); conv => whnf)
    | (refine (?_ : am_sw _ _ _ _); conv => whnf)
    | refine And.intro trivial ?_
    | exact trivial
    | assumption
    | refine k _ _ ?_ ?_
    | refine v_drop_X3_44 ?_
    | refine w_take_X0_8_1  (gv_i (E := [44]) (ν := μ) (by repeat' first | assumption | exact gv_rf hS | refine gv_up ?_ rfl rfl | refine gv_sx ?_ (by assumption)))  (fun _ _ => ?_)
    | refine w_take_X0_15_8  (gv_i (E := [44]) (ν := μ) (by repeat' first | assumption | exact gv_rf hS | refine gv_up ?_ rfl rfl | refine gv_sx ?_ (by assumption)))  (fun _ _ => ?_)
    | refine w_firstNotSo_X6  (gv_i (E := [44]) (ν := μ) (by repeat' first | assumption | exact gv_rf hS | refine gv_up ?_ rfl rfl | refine gv_sx ?_ (by assumption)))  (fun _ _ _ => ?_)
    | refine gv_up ?_ rfl rfl
    | refine gv_b1 ?_ rfl ?_
    | refine gv_b22 ?_ rfl ?_
    | refine gv_b36 ?_ rfl ?_
    | refine gv_b44 ?_ rfl ?_
    | refine gv_b46 ?_ rfl ?_
    | refine gv_b48 ?_ rfl ?_
    | refine gv_b50 ?_ rfl ?_
    | refine gv_b53 ?_ rfl ?_
    | refine gv_b55 ?_ rfl ?_
    | refine gv_b58 ?_ rfl ?_
    | refine gv_b60 ?_ rfl ?_
    | refine gv_b62 ?_ rfl ?_
    | exact gv_rf hS
    | refine gv_sx ?_ (by assumption)
    | exact hS
    | refine And.intro (fun h => absurd h (by decide)) (fun _ => ?_)
    | refine And.intro (fun _ => ?_) (fun h => absurd (by decide) h)
    | refine And.intro (fun _ => ?_) (fun _ => ?_)
    | refine And.intro ?_ ?_
  all_goals (first | assumption | decide | omega | (subst_vars; simp [am_upS] at * <;> omega) | (intros; omega) | (simp only [am_c, am_up] at * <;> omega) | (simp [am_c, am_up] at * <;> omega))
theorem v_lane_X6 {l : Launch} {μ : am_N} {Q : Option am_V → am_N → Prop}  (hS : sx μ μ)  (k : ∀ r μ', gv [1, 2, 3, 4, 5, 6, 7, 36, 62] μ μ' → μ' 36 1 = 0 → Q (some (.inl r)) μ') : am_Does l 62 [.inr (.inr 0)] μ Q := by
  refine am_Does_of (Nat.le_of_ble_eq_true rfl) (Nat.le_of_ble_eq_true rfl) (Nat.le_of_ble_eq_true rfl) ?_
  have hb := sx_all hS
  refine am_go (ct := fun _ => false) am_oX6_lane 300 ?_
  conv => whnf
  repeat' first
    | (refine (?_ : am_wp _ _ _ _ _ _ _ _ _ _ _ _); conv => whnf)
    | (refine (?_ : am_sw _ _ _ _); conv => whnf)
    | refine And.intro trivial ?_
    | exact trivial
    | assumption
    | refine k _ _ ?_ ?_
    | refine gv_tr ?_ (by assumption : gv [1, 2, 3, 4, 5, 6, 7] _ _) rfl
    | exact (am_upN (by decide)).trans ((gv_fr (by assumption : gv [1, 2, 3, 4, 5, 6, 7] _ _) 36 1 rfl).trans rfl)
    | refine v_drop_X3_36 ?_
    | refine v_take_X0_1_8 (ν := _) (gv_rf (gv_i (E := [1, 2, 3, 4, 5, 6, 7, 36, 62]) (ν := μ) (by repeat' first | assumption | exact gv_rf hS | refine gv_b36 ?_ rfl (by decide) | refine gv_sx ?_ (by assumption)))) (fun _ _ => ?_)
    | refine v_drop_X4 ?_
    | refine w_take_X0_8_1  (gv_i (E := [1, 2, 3, 4, 5, 6, 7, 36, 62]) (ν := μ) (by repeat' first | assumption | exact gv_rf hS | refine gv_up ?_ rfl rfl | refine gv_sx ?_ (by assumption)))  (fun _ _ => ?_)
    | refine w_take_X0_15_8  (gv_i (E := [1, 2, 3, 4, 5, 6, 7, 36, 62]) (ν := μ) (by repeat' first | assumption | exact gv_rf hS | refine gv_up ?_ rfl rfl | refine gv_sx ?_ (by assumption)))  (fun _ _ => ?_)
    | refine w_tell_X5  (gv_i (E := [1, 2, 3, 4, 5, 6, 7, 36, 62]) (ν := μ) (by repeat' first | assumption | exact gv_rf hS | refine gv_up ?_ rfl rfl | refine gv_sx ?_ (by assumption)))  (fun _ _ _ => ?_)
    | refine gv_up ?_ rfl rfl
    | refine gv_b1 ?_ rfl ?_
    | refine gv_b22 ?_ rfl ?_
    | refine gv_b36 ?_ rfl ?_
    | refine gv_b44 ?_ rfl ?_
    | refine gv_b46 ?_ rfl ?_
    | refine gv_b48 ?_ rfl ?_
    | refine gv_b50 ?_ rfl ?_
    | refine gv_b53 ?_ rfl ?_
    | refine gv_b55 ?_ rfl ?_
    | refine gv_b58 ?_ rfl ?_
    | refine gv_b60 ?_ rfl ?_
    | refine gv_b62 ?_ rfl ?_
    | exact gv_rf hS
    | refine gv_sx ?_ (by assumption)
    | exact hS
    | refine And.intro (fun h => absurd h (by decide)) (fun _ => ?_)
    | refine And.intro (fun _ => ?_) (fun h => absurd (by decide) h)
    | refine And.intro (fun _ => ?_) (fun _ => ?_)
    | refine And.intro ?_ ?_
  all_goals (first | assumption | decide | omega | (subst_vars; simp [am_upS] at * <;> omega) | (intros; omega) | (simp only [am_c, am_up] at * <;> omega) | (simp [am_c, am_up] at * <;> omega))
