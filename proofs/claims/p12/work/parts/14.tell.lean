/-! contracts: rows, the habit, the teller (weak) -/
theorem w_at_X3_36 {l : Launch} {μ : am_N} {Q : Option am_V → am_N → Prop} {ν : am_N} (i : Int) (hS : sx ν μ)  (k : ∀ r, Q (some (.inl r)) μ) : am_Does l 43 [.inr (.inr 36), .inl i] μ Q := by
  refine am_Does_of (Nat.le_of_ble_eq_true rfl) (Nat.le_of_ble_eq_true rfl) (Nat.le_of_ble_eq_true rfl) ?_
  have hb := sx_all hS
  refine am_go (ct := fun _ => false) am_oX3_at 300 ?_
  conv => whnf
  repeat' first
    | (refine (?_ : am_wp _ _ _ _ _ _ _ _ _ _ _ _); conv => whnf)
    | (refine (?_ : am_sw _ _ _ _); conv => whnf)
    | refine And.intro trivial ?_
    | exact trivial
    | assumption
    | ((with_reducible refine (?_ : _ ∧ _)); first | (with_reducible first | refine am_jn am_q1 ?_ | refine am_jn am_q2 ?_ | refine am_jn am_q3 ?_ | refine am_jn am_q4 ?_ | refine am_jn am_q6 ?_ | refine am_jn am_q9 ?_ | refine am_jn am_p1 ?_ | refine am_jy am_p0 ?_ | refine am_kn am_q1 ?_ | refine am_kn am_q2 ?_ | refine am_kn am_q3 ?_ | refine am_kn am_q4 ?_ | refine am_kn am_q6 ?_ | refine am_kn am_q9 ?_ | refine am_kn am_p1 ?_ | refine am_ky am_p0 ?_) | refine And.intro (fun h => absurd h (by decide)) (fun _ => ?_) | refine And.intro (fun _ => ?_) (fun h => absurd (by decide) h) | refine And.intro (fun _ => ?_) (fun _ => ?_) | refine And.intro ?_ ?_)
    | exact k _
    | refine sx_up ?_ rfl
    | refine And.intro (fun h => absurd h (by decide)) (fun _ => ?_)
    | refine And.intro (fun _ => ?_) (fun h => absurd (by decide) h)
    | refine And.intro (fun _ => ?_) (fun _ => ?_)
    | refine And.intro ?_ ?_
  all_goals (first | assumption | decide | omega | (intros; omega) | (intros; simp only [am_c] at * <;> omega) | (simp only [am_c, am_up] at * <;> omega) | (simp [am_c, am_up] at * <;> omega))
theorem w_at_X3_44 {l : Launch} {μ : am_N} {Q : Option am_V → am_N → Prop} {ν : am_N} (i : Int) (hS : sx ν μ)  (k : ∀ r, Q (some (.inl r)) μ) : am_Does l 43 [.inr (.inr 44), .inl i] μ Q := by
  refine am_Does_of (Nat.le_of_ble_eq_true rfl) (Nat.le_of_ble_eq_true rfl) (Nat.le_of_ble_eq_true rfl) ?_
  have hb := sx_all hS
  refine am_go (ct := fun _ => false) am_oX3_at 300 ?_
  conv => whnf
  repeat' first
    | (refine (?_ : am_wp _ _ _ _ _ _ _ _ _ _ _ _); conv => whnf)
    | (refine (?_ : am_sw _ _ _ _); conv => whnf)
    | refine And.intro trivial ?_
    | exact trivial
    | assumption
    | ((with_reducible refine (?_ : _ ∧ _)); first | (with_reducible first | refine am_jn am_q1 ?_ | refine am_jn am_q2 ?_ | refine am_jn am_q3 ?_ | refine am_jn am_q4 ?_ | refine am_jn am_q6 ?_ | refine am_jn am_q9 ?_ | refine am_jn am_p1 ?_ | refine am_jy am_p0 ?_ | refine am_kn am_q1 ?_ | refine am_kn am_q2 ?_ | refine am_kn am_q3 ?_ | refine am_kn am_q4 ?_ | refine am_kn am_q6 ?_ | refine am_kn am_q9 ?_ | refine am_kn am_p1 ?_ | refine am_ky am_p0 ?_) | refine And.intro (fun h => absurd h (by decide)) (fun _ => ?_) | refine And.intro (fun _ => ?_) (fun h => absurd (by decide) h) | refine And.intro (fun _ => ?_) (fun _ => ?_) | refine And.intro ?_ ?_)
    | exact k _
    | refine sx_up ?_ rfl
    | refine And.intro (fun h => absurd h (by decide)) (fun _ => ?_)
    | refine And.intro (fun _ => ?_) (fun h => absurd (by decide) h)
    | refine And.intro (fun _ => ?_) (fun _ => ?_)
    | refine And.intro ?_ ?_
  all_goals (first | assumption | decide | omega | (intros; omega) | (intros; simp only [am_c] at * <;> omega) | (simp only [am_c, am_up] at * <;> omega) | (simp [am_c, am_up] at * <;> omega))
theorem w_at_X3_46 {l : Launch} {μ : am_N} {Q : Option am_V → am_N → Prop} {ν : am_N} (i : Int) (hS : sx ν μ)  (k : ∀ r, Q (some (.inl r)) μ) : am_Does l 43 [.inr (.inr 46), .inl i] μ Q := by
  refine am_Does_of (Nat.le_of_ble_eq_true rfl) (Nat.le_of_ble_eq_true rfl) (Nat.le_of_ble_eq_true rfl) ?_
  have hb := sx_all hS
  refine am_go (ct := fun _ => false) am_oX3_at 300 ?_
  conv => whnf
  repeat' first
    | (refine (?_ : am_wp _ _ _ _ _ _ _ _ _ _ _ _); conv => whnf)
    | (refine (?_ : am_sw _ _ _ _); conv => whnf)
    | refine And.intro trivial ?_
    | exact trivial
    | assumption
    | ((with_reducible refine (?_ : _ ∧ _)); first | (with_reducible first | refine am_jn am_q1 ?_ | refine am_jn am_q2 ?_ | refine am_jn am_q3 ?_ | refine am_jn am_q4 ?_ | refine am_jn am_q6 ?_ | refine am_jn am_q9 ?_ | refine am_jn am_p1 ?_ | refine am_jy am_p0 ?_ | refine am_kn am_q1 ?_ | refine am_kn am_q2 ?_ | refine am_kn am_q3 ?_ | refine am_kn am_q4 ?_ | refine am_kn am_q6 ?_ | refine am_kn am_q9 ?_ | refine am_kn am_p1 ?_ | refine am_ky am_p0 ?_) | refine And.intro (fun h => absurd h (by decide)) (fun _ => ?_) | refine And.intro (fun _ => ?_) (fun h => absurd (by decide) h) | refine And.intro (fun _ => ?_) (fun _ => ?_) | refine And.intro ?_ ?_)
    | exact k _
    | refine sx_up ?_ rfl
    | refine And.intro (fun h => absurd h (by decide)) (fun _ => ?_)
    | refine And.intro (fun _ => ?_) (fun h => absurd (by decide) h)
    | refine And.intro (fun _ => ?_) (fun _ => ?_)
    | refine And.intro ?_ ?_
  all_goals (first | assumption | decide | omega | (intros; omega) | (intros; simp only [am_c] at * <;> omega) | (simp only [am_c, am_up] at * <;> omega) | (simp [am_c, am_up] at * <;> omega))
theorem w_at_X3_48 {l : Launch} {μ : am_N} {Q : Option am_V → am_N → Prop} {ν : am_N} (i : Int) (hS : sx ν μ)  (k : ∀ r, Q (some (.inl r)) μ) : am_Does l 43 [.inr (.inr 48), .inl i] μ Q := by
  refine am_Does_of (Nat.le_of_ble_eq_true rfl) (Nat.le_of_ble_eq_true rfl) (Nat.le_of_ble_eq_true rfl) ?_
  have hb := sx_all hS
  refine am_go (ct := fun _ => false) am_oX3_at 300 ?_
  conv => whnf
  repeat' first
    | (refine (?_ : am_wp _ _ _ _ _ _ _ _ _ _ _ _); conv => whnf)
    | (refine (?_ : am_sw _ _ _ _); conv => whnf)
    | refine And.intro trivial ?_
    | exact trivial
    | assumption
    | ((with_reducible refine (?_ : _ ∧ _)); first | (with_reducible first | refine am_jn am_q1 ?_ | refine am_jn am_q2 ?_ | refine am_jn am_q3 ?_ | refine am_jn am_q4 ?_ | refine am_jn am_q6 ?_ | refine am_jn am_q9 ?_ | refine am_jn am_p1 ?_ | refine am_jy am_p0 ?_ | refine am_kn am_q1 ?_ | refine am_kn am_q2 ?_ | refine am_kn am_q3 ?_ | refine am_kn am_q4 ?_ | refine am_kn am_q6 ?_ | refine am_kn am_q9 ?_ | refine am_kn am_p1 ?_ | refine am_ky am_p0 ?_) | refine And.intro (fun h => absurd h (by decide)) (fun _ => ?_) | refine And.intro (fun _ => ?_) (fun h => absurd (by decide) h) | refine And.intro (fun _ => ?_) (fun _ => ?_) | refine And.intro ?_ ?_)
    | exact k _
    | refine sx_up ?_ rfl
    | refine And.intro (fun h => absurd h (by decide)) (fun _ => ?_)
    | refine And.intro (fun _ => ?_) (fun h => absurd (by decide) h)
    | refine And.intro (fun _ => ?_) (fun _ => ?_)
    | refine And.intro ?_ ?_
  all_goals (first | assumption | decide | omega | (intros; omega) | (intros; simp only [am_c] at * <;> omega) | (simp only [am_c, am_up] at * <;> omega) | (simp [am_c, am_up] at * <;> omega))
theorem w_at_X3_50 {l : Launch} {μ : am_N} {Q : Option am_V → am_N → Prop} {ν : am_N} (i : Int) (hS : sx ν μ)  (k : ∀ r, Q (some (.inl r)) μ) : am_Does l 43 [.inr (.inr 50), .inl i] μ Q := by
  refine am_Does_of (Nat.le_of_ble_eq_true rfl) (Nat.le_of_ble_eq_true rfl) (Nat.le_of_ble_eq_true rfl) ?_
  have hb := sx_all hS
  refine am_go (ct := fun _ => false) am_oX3_at 300 ?_
  conv => whnf
  repeat' first
    | (refine (?_ : am_wp _ _ _ _ _ _ _ _ _ _ _ _); conv => whnf)
    | (refine (?_ : am_sw _ _ _ _); conv => whnf)
    | refine And.intro trivial ?_
    | exact trivial
    | assumption
    | ((with_reducible refine (?_ : _ ∧ _)); first | (with_reducible first | refine am_jn am_q1 ?_ | refine am_jn am_q2 ?_ | refine am_jn am_q3 ?_ | refine am_jn am_q4 ?_ | refine am_jn am_q6 ?_ | refine am_jn am_q9 ?_ | refine am_jn am_p1 ?_ | refine am_jy am_p0 ?_ | refine am_kn am_q1 ?_ | refine am_kn am_q2 ?_ | refine am_kn am_q3 ?_ | refine am_kn am_q4 ?_ | refine am_kn am_q6 ?_ | refine am_kn am_q9 ?_ | refine am_kn am_p1 ?_ | refine am_ky am_p0 ?_) | refine And.intro (fun h => absurd h (by decide)) (fun _ => ?_) | refine And.intro (fun _ => ?_) (fun h => absurd (by decide) h) | refine And.intro (fun _ => ?_) (fun _ => ?_) | refine And.intro ?_ ?_)
    | exact k _
    | refine sx_up ?_ rfl
    | refine And.intro (fun h => absurd h (by decide)) (fun _ => ?_)
    | refine And.intro (fun _ => ?_) (fun h => absurd (by decide) h)
    | refine And.intro (fun _ => ?_) (fun _ => ?_)
    | refine And.intro ?_ ?_
  all_goals (first | assumption | decide | omega | (intros; omega) | (intros; simp only [am_c] at * <;> omega) | (simp only [am_c, am_up] at * <;> omega) | (simp [am_c, am_up] at * <;> omega))
theorem w_at_X3_53 {l : Launch} {μ : am_N} {Q : Option am_V → am_N → Prop} {ν : am_N} (i : Int) (hS : sx ν μ)  (k : ∀ r, Q (some (.inl r)) μ) : am_Does l 43 [.inr (.inr 53), .inl i] μ Q := by
  refine am_Does_of (Nat.le_of_ble_eq_true rfl) (Nat.le_of_ble_eq_true rfl) (Nat.le_of_ble_eq_true rfl) ?_
  have hb := sx_all hS
  refine am_go (ct := fun _ => false) am_oX3_at 300 ?_
  conv => whnf
  repeat' first
    | (refine (?_ : am_wp _ _ _ _ _ _ _ _ _ _ _ _); conv => whnf)
    | (refine (?_ : am_sw _ _ _ _); conv => whnf)
    | refine And.intro trivial ?_
    | exact trivial
    | assumption
    | ((with_reducible refine (?_ : _ ∧ _)); first | (with_reducible first | refine am_jn am_q1 ?_ | refine am_jn am_q2 ?_ | refine am_jn am_q3 ?_ | refine am_jn am_q4 ?_ | refine am_jn am_q6 ?_ | refine am_jn am_q9 ?_ | refine am_jn am_p1 ?_ | refine am_jy am_p0 ?_ | refine am_kn am_q1 ?_ | refine am_kn am_q2 ?_ | refine am_kn am_q3 ?_ | refine am_kn am_q4 ?_ | refine am_kn am_q6 ?_ | refine am_kn am_q9 ?_ | refine am_kn am_p1 ?_ | refine am_ky am_p0 ?_) | refine And.intro (fun h => absurd h (by decide)) (fun _ => ?_) | refine And.intro (fun _ => ?_) (fun h => absurd (by decide) h) | refine And.intro (fun _ => ?_) (fun _ => ?_) | refine And.intro ?_ ?_)
    | exact k _
    | refine sx_up ?_ rfl
    | refine And.intro (fun h => absurd h (by decide)) (fun _ => ?_)
    | refine And.intro (fun _ => ?_) (fun h => absurd (by decide) h)
    | refine And.intro (fun _ => ?_) (fun _ => ?_)
    | refine And.intro ?_ ?_
  all_goals (first | assumption | decide | omega | (intros; omega) | (intros; simp only [am_c] at * <;> omega) | (simp only [am_c, am_up] at * <;> omega) | (simp [am_c, am_up] at * <;> omega))
theorem w_at_X3_55 {l : Launch} {μ : am_N} {Q : Option am_V → am_N → Prop} {ν : am_N} (i : Int) (hS : sx ν μ)  (k : ∀ r, Q (some (.inl r)) μ) : am_Does l 43 [.inr (.inr 55), .inl i] μ Q := by
  refine am_Does_of (Nat.le_of_ble_eq_true rfl) (Nat.le_of_ble_eq_true rfl) (Nat.le_of_ble_eq_true rfl) ?_
  have hb := sx_all hS
  refine am_go (ct := fun _ => false) am_oX3_at 300 ?_
  conv => whnf
  repeat' first
    | (refine (?_ : am_wp _ _ _ _ _ _ _ _ _ _ _ _); conv => whnf)
    | (refine (?_ : am_sw _ _ _ _); conv => whnf)
    | refine And.intro trivial ?_
    | exact trivial
    | assumption
    | ((with_reducible refine (?_ : _ ∧ _)); first | (with_reducible first | refine am_jn am_q1 ?_ | refine am_jn am_q2 ?_ | refine am_jn am_q3 ?_ | refine am_jn am_q4 ?_ | refine am_jn am_q6 ?_ | refine am_jn am_q9 ?_ | refine am_jn am_p1 ?_ | refine am_jy am_p0 ?_ | refine am_kn am_q1 ?_ | refine am_kn am_q2 ?_ | refine am_kn am_q3 ?_ | refine am_kn am_q4 ?_ | refine am_kn am_q6 ?_ | refine am_kn am_q9 ?_ | refine am_kn am_p1 ?_ | refine am_ky am_p0 ?_) | refine And.intro (fun h => absurd h (by decide)) (fun _ => ?_) | refine And.intro (fun _ => ?_) (fun h => absurd (by decide) h) | refine And.intro (fun _ => ?_) (fun _ => ?_) | refine And.intro ?_ ?_)
    | exact k _
    | refine sx_up ?_ rfl
    | refine And.intro (fun h => absurd h (by decide)) (fun _ => ?_)
    | refine And.intro (fun _ => ?_) (fun h => absurd (by decide) h)
    | refine And.intro (fun _ => ?_) (fun _ => ?_)
    | refine And.intro ?_ ?_
  all_goals (first | assumption | decide | omega | (intros; omega) | (intros; simp only [am_c] at * <;> omega) | (simp only [am_c, am_up] at * <;> omega) | (simp [am_c, am_up] at * <;> omega))
theorem w_at_X3_58 {l : Launch} {μ : am_N} {Q : Option am_V → am_N → Prop} {ν : am_N} (i : Int) (hS : sx ν μ)  (k : ∀ r, Q (some (.inl r)) μ) : am_Does l 43 [.inr (.inr 58), .inl i] μ Q := by
  refine am_Does_of (Nat.le_of_ble_eq_true rfl) (Nat.le_of_ble_eq_true rfl) (Nat.le_of_ble_eq_true rfl) ?_
  have hb := sx_all hS
  refine am_go (ct := fun _ => false) am_oX3_at 300 ?_
  conv => whnf
  repeat' first
    | (refine (?_ : am_wp _ _ _ _ _ _ _ _ _ _ _ _); conv => whnf)
    | (refine (?_ : am_sw _ _ _ _); conv => whnf)
    | refine And.intro trivial ?_
    | exact trivial
    | assumption
    | ((with_reducible refine (?_ : _ ∧ _)); first | (with_reducible first | refine am_jn am_q1 ?_ | refine am_jn am_q2 ?_ | refine am_jn am_q3 ?_ | refine am_jn am_q4 ?_ | refine am_jn am_q6 ?_ | refine am_jn am_q9 ?_ | refine am_jn am_p1 ?_ | refine am_jy am_p0 ?_ | refine am_kn am_q1 ?_ | refine am_kn am_q2 ?_ | refine am_kn am_q3 ?_ | refine am_kn am_q4 ?_ | refine am_kn am_q6 ?_ | refine am_kn am_q9 ?_ | refine am_kn am_p1 ?_ | refine am_ky am_p0 ?_) | refine And.intro (fun h => absurd h (by decide)) (fun _ => ?_) | refine And.intro (fun _ => ?_) (fun h => absurd (by decide) h) | refine And.intro (fun _ => ?_) (fun _ => ?_) | refine And.intro ?_ ?_)
    | exact k _
    | refine sx_up ?_ rfl
    | refine And.intro (fun h => absurd h (by decide)) (fun _ => ?_)
    | refine And.intro (fun _ => ?_) (fun h => absurd (by decide) h)
    | refine And.intro (fun _ => ?_) (fun _ => ?_)
    | refine And.intro ?_ ?_
  all_goals (first | assumption | decide | omega | (intros; omega) | (intros; simp only [am_c] at * <;> omega) | (simp only [am_c, am_up] at * <;> omega) | (simp [am_c, am_up] at * <;> omega))
theorem w_at_X3_60 {l : Launch} {μ : am_N} {Q : Option am_V → am_N → Prop} {ν : am_N} (i : Int) (hS : sx ν μ)  (k : ∀ r, Q (some (.inl r)) μ) : am_Does l 43 [.inr (.inr 60), .inl i] μ Q := by
  refine am_Does_of (Nat.le_of_ble_eq_true rfl) (Nat.le_of_ble_eq_true rfl) (Nat.le_of_ble_eq_true rfl) ?_
  have hb := sx_all hS
  refine am_go (ct := fun _ => false) am_oX3_at 300 ?_
  conv => whnf
  repeat' first
    | (refine (?_ : am_wp _ _ _ _ _ _ _ _ _ _ _ _); conv => whnf)
    | (refine (?_ : am_sw _ _ _ _); conv => whnf)
    | refine And.intro trivial ?_
    | exact trivial
    | assumption
    | ((with_reducible refine (?_ : _ ∧ _)); first | (with_reducible first | refine am_jn am_q1 ?_ | refine am_jn am_q2 ?_ | refine am_jn am_q3 ?_ | refine am_jn am_q4 ?_ | refine am_jn am_q6 ?_ | refine am_jn am_q9 ?_ | refine am_jn am_p1 ?_ | refine am_jy am_p0 ?_ | refine am_kn am_q1 ?_ | refine am_kn am_q2 ?_ | refine am_kn am_q3 ?_ | refine am_kn am_q4 ?_ | refine am_kn am_q6 ?_ | refine am_kn am_q9 ?_ | refine am_kn am_p1 ?_ | refine am_ky am_p0 ?_) | refine And.intro (fun h => absurd h (by decide)) (fun _ => ?_) | refine And.intro (fun _ => ?_) (fun h => absurd (by decide) h) | refine And.intro (fun _ => ?_) (fun _ => ?_) | refine And.intro ?_ ?_)
    | exact k _
    | refine sx_up ?_ rfl
    | refine And.intro (fun h => absurd h (by decide)) (fun _ => ?_)
    | refine And.intro (fun _ => ?_) (fun h => absurd (by decide) h)
    | refine And.intro (fun _ => ?_) (fun _ => ?_)
    | refine And.intro ?_ ?_
  all_goals (first | assumption | decide | omega | (intros; omega) | (intros; simp only [am_c] at * <;> omega) | (simp only [am_c, am_up] at * <;> omega) | (simp [am_c, am_up] at * <;> omega))
theorem w_means_X1 {l : Launch} {μ : am_N} {Q : Option am_V → am_N → Prop} {ν : am_N} (a b c : Int) (hS : sx ν μ) (hb1 : b = 0 ∨ b = 1) (hc1 : c = 0 ∨ c = 1) (k : ∀ r, Q (some (.inl r)) μ) : am_Does l 20 [.inl a, .inl b, .inl c] μ Q := by
  refine am_Does_of (Nat.le_of_ble_eq_true rfl) (Nat.le_of_ble_eq_true rfl) (Nat.le_of_ble_eq_true rfl) ?_
  have hb := sx_all hS
  refine am_go (ct := fun _ => false) am_oX1_means 300 ?_
  conv => whnf
  repeat' first
    | (refine (?_ : am_wp _ _ _ _ _ _ _ _ _ _ _ _); conv => whnf)
    | (refine (?_ : am_sw _ _ _ _); conv => whnf)
    | refine And.intro trivial ?_
    | exact trivial
    | assumption
    | ((with_reducible refine (?_ : _ ∧ _)); first | (with_reducible first | refine am_jn am_q1 ?_ | refine am_jn am_q2 ?_ | refine am_jn am_q3 ?_ | refine am_jn am_q4 ?_ | refine am_jn am_q6 ?_ | refine am_jn am_q9 ?_ | refine am_jn am_p1 ?_ | refine am_jy am_p0 ?_ | refine am_kn am_q1 ?_ | refine am_kn am_q2 ?_ | refine am_kn am_q3 ?_ | refine am_kn am_q4 ?_ | refine am_kn am_q6 ?_ | refine am_kn am_q9 ?_ | refine am_kn am_p1 ?_ | refine am_ky am_p0 ?_) | refine And.intro (fun h => absurd h (by decide)) (fun _ => ?_) | refine And.intro (fun _ => ?_) (fun h => absurd (by decide) h) | refine And.intro (fun _ => ?_) (fun _ => ?_) | refine And.intro ?_ ?_)
    | exact k _
    | refine sx_up ?_ rfl
    | refine And.intro (fun h => absurd h (by decide)) (fun _ => ?_)
    | refine And.intro (fun _ => ?_) (fun h => absurd (by decide) h)
    | refine And.intro (fun _ => ?_) (fun _ => ?_)
    | refine And.intro ?_ ?_
  all_goals (first | assumption | decide | omega | (intros; omega) | (intros; simp only [am_c] at * <;> omega) | (simp only [am_c, am_up] at * <;> omega) | (simp [am_c, am_up] at * <;> omega))
theorem w_mend_X1 {l : Launch} {μ : am_N} {Q : Option am_V → am_N → Prop} {ν : am_N}  (hS : sx ν μ)  (k : ∀ μ', sx ν μ' → Q none μ') : am_Does l 19 [.inr (.inr 52), .inr (.inr 8), .inr (.inr 29)] μ Q := by
  refine am_Does_of (Nat.le_of_ble_eq_true rfl) (Nat.le_of_ble_eq_true rfl) (Nat.le_of_ble_eq_true rfl) ?_
  have hb := sx_all hS
  have lp16 : ∀ (m : Nat) (c i : Int) (μ : am_N) , sx ν μ → 0 ≤ i → i ≤ 4 → (∀ (o4 : Option am_V) (μ : am_N), sx ν μ → am_AW l 0 (fun _ => 0) 19 Q 2 [some (.inr (.inr 52)), some (.inr (.inr 8)), some (.inr (.inr 29)), some (.inl (c + 1)), o4] [] μ) → 4 - i < (m : Int) → am_AW l 0 (fun _ => 0) 19 Q 16 [some (.inr (.inr 52)), some (.inr (.inr 8)), some (.inr (.inr 29)), some (.inl c), some (.inl i)] [] μ := by
    intro m
    induction m with
    | zero =>
      intro c i μ hv0 hv1 hv2 hv3 hm
      have hb := sx_all hv0
      exfalso
      omega
    | succ m ih =>
      intro c i μ hv0 hv1 hv2 hv3 hm
      have hb := sx_all hv0
      refine am_go (ct := fun pc => Nat.beq pc 16 || Nat.beq pc 2) am_oX1_mend 300 ?_
      conv => whnf
      repeat' first
        | (refine (?_ : am_wp _ _ _ _ _ _ _ _ _ _ _ _); conv => whnf)
        | (refine (?_ : am_sw _ _ _ _); conv => whnf)
        | refine And.intro trivial ?_
        | exact trivial
        | assumption
        | refine hv3 _ _ ?_
        | ((with_reducible refine (?_ : _ ∧ _)); first | (with_reducible first | refine am_jn am_q1 ?_ | refine am_jn am_q2 ?_ | refine am_jn am_q3 ?_ | refine am_jn am_q4 ?_ | refine am_jn am_q6 ?_ | refine am_jn am_q9 ?_ | refine am_jn am_p1 ?_ | refine am_jy am_p0 ?_ | refine am_kn am_q1 ?_ | refine am_kn am_q2 ?_ | refine am_kn am_q3 ?_ | refine am_kn am_q4 ?_ | refine am_kn am_q6 ?_ | refine am_kn am_q9 ?_ | refine am_kn am_p1 ?_ | refine am_ky am_p0 ?_) | refine And.intro (fun h => absurd h (by decide)) (fun _ => ?_) | refine And.intro (fun _ => ?_) (fun h => absurd (by decide) h) | refine And.intro (fun _ => ?_) (fun _ => ?_) | refine And.intro ?_ ?_)
        | refine k _ ?_
        | refine sx_up ?_ rfl
        | ((with_reducible refine (?_ : am_Does _ 43 _ _ _)); first | ((with_reducible refine (?_ : am_Does _ 43 (Sum.inr (Sum.inr 36) :: _) _ _)); refine w_at_X3_36 (ν := ν) _ ?_  (fun _ => ?_)) | ((with_reducible refine (?_ : am_Does _ 43 (Sum.inr (Sum.inr 44) :: _) _ _)); refine w_at_X3_44 (ν := ν) _ ?_  (fun _ => ?_)) | ((with_reducible refine (?_ : am_Does _ 43 (Sum.inr (Sum.inr 46) :: _) _ _)); refine w_at_X3_46 (ν := ν) _ ?_  (fun _ => ?_)) | ((with_reducible refine (?_ : am_Does _ 43 (Sum.inr (Sum.inr 48) :: _) _ _)); refine w_at_X3_48 (ν := ν) _ ?_  (fun _ => ?_)) | ((with_reducible refine (?_ : am_Does _ 43 (Sum.inr (Sum.inr 50) :: _) _ _)); refine w_at_X3_50 (ν := ν) _ ?_  (fun _ => ?_)) | ((with_reducible refine (?_ : am_Does _ 43 (Sum.inr (Sum.inr 53) :: _) _ _)); refine w_at_X3_53 (ν := ν) _ ?_  (fun _ => ?_)) | ((with_reducible refine (?_ : am_Does _ 43 (Sum.inr (Sum.inr 55) :: _) _ _)); refine w_at_X3_55 (ν := ν) _ ?_  (fun _ => ?_)) | ((with_reducible refine (?_ : am_Does _ 43 (Sum.inr (Sum.inr 58) :: _) _ _)); refine w_at_X3_58 (ν := ν) _ ?_  (fun _ => ?_)) | ((with_reducible refine (?_ : am_Does _ 43 (Sum.inr (Sum.inr 60) :: _) _ _)); refine w_at_X3_60 (ν := ν) _ ?_  (fun _ => ?_)) | refine w_at_X3_36 (ν := ν) _ ?_  (fun _ => ?_) | refine w_at_X3_44 (ν := ν) _ ?_  (fun _ => ?_) | refine w_at_X3_46 (ν := ν) _ ?_  (fun _ => ?_) | refine w_at_X3_48 (ν := ν) _ ?_  (fun _ => ?_) | refine w_at_X3_50 (ν := ν) _ ?_  (fun _ => ?_) | refine w_at_X3_53 (ν := ν) _ ?_  (fun _ => ?_) | refine w_at_X3_55 (ν := ν) _ ?_  (fun _ => ?_) | refine w_at_X3_58 (ν := ν) _ ?_  (fun _ => ?_) | refine w_at_X3_60 (ν := ν) _ ?_  (fun _ => ?_))
        | ((with_reducible refine (?_ : am_Does _ 37 _ _ _)); first | ((with_reducible refine (?_ : am_Does _ 37 (Sum.inr (Sum.inr 29) :: _) _ _)); refine w_first_X2_29 (ν := ν)  ?_  (fun _ => ?_)) | ((with_reducible refine (?_ : am_Does _ 37 (Sum.inr (Sum.inr 38) :: _) _ _)); refine w_first_X2_38 (ν := ν)  ?_  (fun _ => ?_)) | refine w_first_X2_29 (ν := ν)  ?_  (fun _ => ?_) | refine w_first_X2_38 (ν := ν)  ?_  (fun _ => ?_))
        | ((with_reducible refine (?_ : am_Does _ 38 _ _ _)); first | ((with_reducible refine (?_ : am_Does _ 38 (Sum.inr (Sum.inr 29) :: _) _ _)); refine w_last_X2_29 (ν := ν)  ?_  (fun _ => ?_)) | ((with_reducible refine (?_ : am_Does _ 38 (Sum.inr (Sum.inr 38) :: _) _ _)); refine w_last_X2_38 (ν := ν)  ?_  (fun _ => ?_)) | refine w_last_X2_29 (ν := ν)  ?_  (fun _ => ?_) | refine w_last_X2_38 (ν := ν)  ?_  (fun _ => ?_))
        | ((with_reducible refine (?_ : am_Does _ 20 _ _ _)); refine w_means_X1 (ν := ν) _ _ _ ?_ ?_ ?_ (fun _ => ?_))
        | ((with_reducible refine (?_ : am_Does _ 11 _ _ _)); first | ((with_reducible refine (?_ : am_Does _ 11 (Sum.inr (Sum.inr 8) :: _) _ _)); refine w_more_X0_8 (ν := ν) _ _ ?_  (fun _ _ => ?_)) | ((with_reducible refine (?_ : am_Does _ 11 (Sum.inr (Sum.inr 15) :: _) _ _)); refine w_more_X0_15 (ν := ν) _ _ ?_  (fun _ _ => ?_)) | refine w_more_X0_8 (ν := ν) _ _ ?_  (fun _ _ => ?_) | refine w_more_X0_15 (ν := ν) _ _ ?_  (fun _ _ => ?_))
        | ((with_reducible refine (?_ : am_AW _ _ _ _ _ 16 _ _ _)); refine ih _ _ _ ?_ ?_ ?_ ?_ ?_)
        | refine And.intro (fun h => absurd h (by decide)) (fun _ => ?_)
        | refine And.intro (fun _ => ?_) (fun h => absurd (by decide) h)
        | refine And.intro (fun _ => ?_) (fun _ => ?_)
        | refine And.intro ?_ ?_
      all_goals (first | assumption | decide | omega | (intros; omega) | (intros; simp only [am_c] at * <;> omega) | (simp only [am_c, am_up] at * <;> omega) | (simp [am_c, am_up] at * <;> omega))
  have lp16' : ∀ (c i : Int) (μ : am_N) , sx ν μ → 0 ≤ i → i ≤ 4 → (∀ (o4 : Option am_V) (μ : am_N), sx ν μ → am_AW l 0 (fun _ => 0) 19 Q 2 [some (.inr (.inr 52)), some (.inr (.inr 8)), some (.inr (.inr 29)), some (.inl (c + 1)), o4] [] μ) → am_AW l 0 (fun _ => 0) 19 Q 16 [some (.inr (.inr 52)), some (.inr (.inr 8)), some (.inr (.inr 29)), some (.inl c), some (.inl i)] [] μ := fun c i μ hv0 hv1 hv2 hv3 => lp16 ((4 - i) + 1).toNat c i μ hv0 hv1 hv2 hv3 (by omega)
  have lp2 : ∀ (m : Nat) (c : Int) (o4 : Option am_V) (μ : am_N) , sx ν μ → 0 ≤ c → c ≤ 4 → 4 - c < (m : Int) → am_AW l 0 (fun _ => 0) 19 Q 2 [some (.inr (.inr 52)), some (.inr (.inr 8)), some (.inr (.inr 29)), some (.inl c), o4] [] μ := by
    intro m
    induction m with
    | zero =>
      intro c o4 μ hv0 hv1 hv2 hm
      have hb := sx_all hv0
      exfalso
      omega
    | succ m ih =>
      intro c o4 μ hv0 hv1 hv2 hm
      have hb := sx_all hv0
      refine am_go (ct := fun pc => Nat.beq pc 16 || Nat.beq pc 2) am_oX1_mend 300 ?_
      conv => whnf
      repeat' first
        | (refine (?_ : am_wp _ _ _ _ _ _ _ _ _ _ _ _); conv => whnf)
        | (refine (?_ : am_sw _ _ _ _); conv => whnf)
        | refine And.intro trivial ?_
        | exact trivial
        | assumption
        | (refine fun _ _ _ => ih _ _ _ ?_ ?_ ?_ ?_)
        | ((with_reducible refine (?_ : _ ∧ _)); first | (with_reducible first | refine am_jn am_q1 ?_ | refine am_jn am_q2 ?_ | refine am_jn am_q3 ?_ | refine am_jn am_q4 ?_ | refine am_jn am_q6 ?_ | refine am_jn am_q9 ?_ | refine am_jn am_p1 ?_ | refine am_jy am_p0 ?_ | refine am_kn am_q1 ?_ | refine am_kn am_q2 ?_ | refine am_kn am_q3 ?_ | refine am_kn am_q4 ?_ | refine am_kn am_q6 ?_ | refine am_kn am_q9 ?_ | refine am_kn am_p1 ?_ | refine am_ky am_p0 ?_) | refine And.intro (fun h => absurd h (by decide)) (fun _ => ?_) | refine And.intro (fun _ => ?_) (fun h => absurd (by decide) h) | refine And.intro (fun _ => ?_) (fun _ => ?_) | refine And.intro ?_ ?_)
        | refine k _ ?_
        | refine sx_up ?_ rfl
        | ((with_reducible refine (?_ : am_Does _ 43 _ _ _)); first | ((with_reducible refine (?_ : am_Does _ 43 (Sum.inr (Sum.inr 36) :: _) _ _)); refine w_at_X3_36 (ν := ν) _ ?_  (fun _ => ?_)) | ((with_reducible refine (?_ : am_Does _ 43 (Sum.inr (Sum.inr 44) :: _) _ _)); refine w_at_X3_44 (ν := ν) _ ?_  (fun _ => ?_)) | ((with_reducible refine (?_ : am_Does _ 43 (Sum.inr (Sum.inr 46) :: _) _ _)); refine w_at_X3_46 (ν := ν) _ ?_  (fun _ => ?_)) | ((with_reducible refine (?_ : am_Does _ 43 (Sum.inr (Sum.inr 48) :: _) _ _)); refine w_at_X3_48 (ν := ν) _ ?_  (fun _ => ?_)) | ((with_reducible refine (?_ : am_Does _ 43 (Sum.inr (Sum.inr 50) :: _) _ _)); refine w_at_X3_50 (ν := ν) _ ?_  (fun _ => ?_)) | ((with_reducible refine (?_ : am_Does _ 43 (Sum.inr (Sum.inr 53) :: _) _ _)); refine w_at_X3_53 (ν := ν) _ ?_  (fun _ => ?_)) | ((with_reducible refine (?_ : am_Does _ 43 (Sum.inr (Sum.inr 55) :: _) _ _)); refine w_at_X3_55 (ν := ν) _ ?_  (fun _ => ?_)) | ((with_reducible refine (?_ : am_Does _ 43 (Sum.inr (Sum.inr 58) :: _) _ _)); refine w_at_X3_58 (ν := ν) _ ?_  (fun _ => ?_)) | ((with_reducible refine (?_ : am_Does _ 43 (Sum.inr (Sum.inr 60) :: _) _ _)); refine w_at_X3_60 (ν := ν) _ ?_  (fun _ => ?_)) | refine w_at_X3_36 (ν := ν) _ ?_  (fun _ => ?_) | refine w_at_X3_44 (ν := ν) _ ?_  (fun _ => ?_) | refine w_at_X3_46 (ν := ν) _ ?_  (fun _ => ?_) | refine w_at_X3_48 (ν := ν) _ ?_  (fun _ => ?_) | refine w_at_X3_50 (ν := ν) _ ?_  (fun _ => ?_) | refine w_at_X3_53 (ν := ν) _ ?_  (fun _ => ?_) | refine w_at_X3_55 (ν := ν) _ ?_  (fun _ => ?_) | refine w_at_X3_58 (ν := ν) _ ?_  (fun _ => ?_) | refine w_at_X3_60 (ν := ν) _ ?_  (fun _ => ?_))
        | ((with_reducible refine (?_ : am_Does _ 37 _ _ _)); first | ((with_reducible refine (?_ : am_Does _ 37 (Sum.inr (Sum.inr 29) :: _) _ _)); refine w_first_X2_29 (ν := ν)  ?_  (fun _ => ?_)) | ((with_reducible refine (?_ : am_Does _ 37 (Sum.inr (Sum.inr 38) :: _) _ _)); refine w_first_X2_38 (ν := ν)  ?_  (fun _ => ?_)) | refine w_first_X2_29 (ν := ν)  ?_  (fun _ => ?_) | refine w_first_X2_38 (ν := ν)  ?_  (fun _ => ?_))
        | ((with_reducible refine (?_ : am_Does _ 38 _ _ _)); first | ((with_reducible refine (?_ : am_Does _ 38 (Sum.inr (Sum.inr 29) :: _) _ _)); refine w_last_X2_29 (ν := ν)  ?_  (fun _ => ?_)) | ((with_reducible refine (?_ : am_Does _ 38 (Sum.inr (Sum.inr 38) :: _) _ _)); refine w_last_X2_38 (ν := ν)  ?_  (fun _ => ?_)) | refine w_last_X2_29 (ν := ν)  ?_  (fun _ => ?_) | refine w_last_X2_38 (ν := ν)  ?_  (fun _ => ?_))
        | ((with_reducible refine (?_ : am_Does _ 20 _ _ _)); refine w_means_X1 (ν := ν) _ _ _ ?_ ?_ ?_ (fun _ => ?_))
        | ((with_reducible refine (?_ : am_Does _ 11 _ _ _)); first | ((with_reducible refine (?_ : am_Does _ 11 (Sum.inr (Sum.inr 8) :: _) _ _)); refine w_more_X0_8 (ν := ν) _ _ ?_  (fun _ _ => ?_)) | ((with_reducible refine (?_ : am_Does _ 11 (Sum.inr (Sum.inr 15) :: _) _ _)); refine w_more_X0_15 (ν := ν) _ _ ?_  (fun _ _ => ?_)) | refine w_more_X0_8 (ν := ν) _ _ ?_  (fun _ _ => ?_) | refine w_more_X0_15 (ν := ν) _ _ ?_  (fun _ _ => ?_))
        | ((with_reducible refine (?_ : am_AW _ _ _ _ _ 2 _ _ _)); refine ih _ _ _ ?_ ?_ ?_ ?_)
        | ((with_reducible refine (?_ : am_AW _ _ _ _ _ 16 _ _ _)); refine lp16' _ _ _ ?_ ?_ ?_ ?_)
        | refine And.intro (fun h => absurd h (by decide)) (fun _ => ?_)
        | refine And.intro (fun _ => ?_) (fun h => absurd (by decide) h)
        | refine And.intro (fun _ => ?_) (fun _ => ?_)
        | refine And.intro ?_ ?_
      all_goals (first | assumption | decide | omega | (intros; omega) | (intros; simp only [am_c] at * <;> omega) | (simp only [am_c, am_up] at * <;> omega) | (simp [am_c, am_up] at * <;> omega))
  have lp2' : ∀ (c : Int) (o4 : Option am_V) (μ : am_N) , sx ν μ → 0 ≤ c → c ≤ 4 → am_AW l 0 (fun _ => 0) 19 Q 2 [some (.inr (.inr 52)), some (.inr (.inr 8)), some (.inr (.inr 29)), some (.inl c), o4] [] μ := fun c o4 μ hv0 hv1 hv2 => lp2 ((4 - c) + 1).toNat c o4 μ hv0 hv1 hv2 (by omega)
  refine am_go (ct := fun pc => Nat.beq pc 16 || Nat.beq pc 2) am_oX1_mend 300 ?_
  conv => whnf
  repeat' first
    | (refine (?_ : am_wp _ _ _ _ _ _ _ _ _ _ _ _); conv => whnf)
    | (refine (?_ : am_sw _ _ _ _); conv => whnf)
    | refine And.intro trivial ?_
    | exact trivial
    | assumption
    | ((with_reducible refine (?_ : _ ∧ _)); first | (with_reducible first | refine am_jn am_q1 ?_ | refine am_jn am_q2 ?_ | refine am_jn am_q3 ?_ | refine am_jn am_q4 ?_ | refine am_jn am_q6 ?_ | refine am_jn am_q9 ?_ | refine am_jn am_p1 ?_ | refine am_jy am_p0 ?_ | refine am_kn am_q1 ?_ | refine am_kn am_q2 ?_ | refine am_kn am_q3 ?_ | refine am_kn am_q4 ?_ | refine am_kn am_q6 ?_ | refine am_kn am_q9 ?_ | refine am_kn am_p1 ?_ | refine am_ky am_p0 ?_) | refine And.intro (fun h => absurd h (by decide)) (fun _ => ?_) | refine And.intro (fun _ => ?_) (fun h => absurd (by decide) h) | refine And.intro (fun _ => ?_) (fun _ => ?_) | refine And.intro ?_ ?_)
    | refine k _ ?_
    | refine sx_up ?_ rfl
    | ((with_reducible refine (?_ : am_Does _ 43 _ _ _)); first | ((with_reducible refine (?_ : am_Does _ 43 (Sum.inr (Sum.inr 36) :: _) _ _)); refine w_at_X3_36 (ν := ν) _ ?_  (fun _ => ?_)) | ((with_reducible refine (?_ : am_Does _ 43 (Sum.inr (Sum.inr 44) :: _) _ _)); refine w_at_X3_44 (ν := ν) _ ?_  (fun _ => ?_)) | ((with_reducible refine (?_ : am_Does _ 43 (Sum.inr (Sum.inr 46) :: _) _ _)); refine w_at_X3_46 (ν := ν) _ ?_  (fun _ => ?_)) | ((with_reducible refine (?_ : am_Does _ 43 (Sum.inr (Sum.inr 48) :: _) _ _)); refine w_at_X3_48 (ν := ν) _ ?_  (fun _ => ?_)) | ((with_reducible refine (?_ : am_Does _ 43 (Sum.inr (Sum.inr 50) :: _) _ _)); refine w_at_X3_50 (ν := ν) _ ?_  (fun _ => ?_)) | ((with_reducible refine (?_ : am_Does _ 43 (Sum.inr (Sum.inr 53) :: _) _ _)); refine w_at_X3_53 (ν := ν) _ ?_  (fun _ => ?_)) | ((with_reducible refine (?_ : am_Does _ 43 (Sum.inr (Sum.inr 55) :: _) _ _)); refine w_at_X3_55 (ν := ν) _ ?_  (fun _ => ?_)) | ((with_reducible refine (?_ : am_Does _ 43 (Sum.inr (Sum.inr 58) :: _) _ _)); refine w_at_X3_58 (ν := ν) _ ?_  (fun _ => ?_)) | ((with_reducible refine (?_ : am_Does _ 43 (Sum.inr (Sum.inr 60) :: _) _ _)); refine w_at_X3_60 (ν := ν) _ ?_  (fun _ => ?_)) | refine w_at_X3_36 (ν := ν) _ ?_  (fun _ => ?_) | refine w_at_X3_44 (ν := ν) _ ?_  (fun _ => ?_) | refine w_at_X3_46 (ν := ν) _ ?_  (fun _ => ?_) | refine w_at_X3_48 (ν := ν) _ ?_  (fun _ => ?_) | refine w_at_X3_50 (ν := ν) _ ?_  (fun _ => ?_) | refine w_at_X3_53 (ν := ν) _ ?_  (fun _ => ?_) | refine w_at_X3_55 (ν := ν) _ ?_  (fun _ => ?_) | refine w_at_X3_58 (ν := ν) _ ?_  (fun _ => ?_) | refine w_at_X3_60 (ν := ν) _ ?_  (fun _ => ?_))
    | ((with_reducible refine (?_ : am_Does _ 37 _ _ _)); first | ((with_reducible refine (?_ : am_Does _ 37 (Sum.inr (Sum.inr 29) :: _) _ _)); refine w_first_X2_29 (ν := ν)  ?_  (fun _ => ?_)) | ((with_reducible refine (?_ : am_Does _ 37 (Sum.inr (Sum.inr 38) :: _) _ _)); refine w_first_X2_38 (ν := ν)  ?_  (fun _ => ?_)) | refine w_first_X2_29 (ν := ν)  ?_  (fun _ => ?_) | refine w_first_X2_38 (ν := ν)  ?_  (fun _ => ?_))
    | ((with_reducible refine (?_ : am_Does _ 38 _ _ _)); first | ((with_reducible refine (?_ : am_Does _ 38 (Sum.inr (Sum.inr 29) :: _) _ _)); refine w_last_X2_29 (ν := ν)  ?_  (fun _ => ?_)) | ((with_reducible refine (?_ : am_Does _ 38 (Sum.inr (Sum.inr 38) :: _) _ _)); refine w_last_X2_38 (ν := ν)  ?_  (fun _ => ?_)) | refine w_last_X2_29 (ν := ν)  ?_  (fun _ => ?_) | refine w_last_X2_38 (ν := ν)  ?_  (fun _ => ?_))
    | ((with_reducible refine (?_ : am_Does _ 20 _ _ _)); refine w_means_X1 (ν := ν) _ _ _ ?_ ?_ ?_ (fun _ => ?_))
    | ((with_reducible refine (?_ : am_Does _ 11 _ _ _)); first | ((with_reducible refine (?_ : am_Does _ 11 (Sum.inr (Sum.inr 8) :: _) _ _)); refine w_more_X0_8 (ν := ν) _ _ ?_  (fun _ _ => ?_)) | ((with_reducible refine (?_ : am_Does _ 11 (Sum.inr (Sum.inr 15) :: _) _ _)); refine w_more_X0_15 (ν := ν) _ _ ?_  (fun _ _ => ?_)) | refine w_more_X0_8 (ν := ν) _ _ ?_  (fun _ _ => ?_) | refine w_more_X0_15 (ν := ν) _ _ ?_  (fun _ _ => ?_))
    | ((with_reducible refine (?_ : am_AW _ _ _ _ _ 2 _ _ _)); refine lp2' _ _ _ ?_ ?_ ?_)
    | ((with_reducible refine (?_ : am_AW _ _ _ _ _ 16 _ _ _)); refine lp16' _ _ _ ?_ ?_ ?_ ?_)
    | refine And.intro (fun h => absurd h (by decide)) (fun _ => ?_)
    | refine And.intro (fun _ => ?_) (fun h => absurd (by decide) h)
    | refine And.intro (fun _ => ?_) (fun _ => ?_)
    | refine And.intro ?_ ?_
  all_goals (first | assumption | decide | omega | (intros; omega) | (intros; simp only [am_c] at * <;> omega) | (simp only [am_c, am_up] at * <;> omega) | (simp [am_c, am_up] at * <;> omega))
theorem w_at36 {l : Launch} {μ : am_N} {Q : Option am_V → am_N → Prop} {ν : am_N} (i : Int) (hS : sx ν μ) (k1 : 0 ≤ am_c i → am_c i < 96 → ∀ r, Q (some (.inl r)) μ) (k2 : Q (some (.inl (-1))) μ) : am_Does l 43 [.inr (.inr 36), .inl i] μ Q := by
  refine am_Does_of (Nat.le_of_ble_eq_true rfl) (Nat.le_of_ble_eq_true rfl) (Nat.le_of_ble_eq_true rfl) ?_
  have hb := sx_all hS
  refine am_go (ct := fun _ => false) am_oX3_at 300 ?_
  conv => whnf
  repeat' first
    | (refine (?_ : am_wp _ _ _ _ _ _ _ _ _ _ _ _); conv => whnf)
    | (refine (?_ : am_sw _ _ _ _); conv => whnf)
    | refine And.intro trivial ?_
    | exact trivial
    | assumption
    | exact k2
    | ((with_reducible refine (?_ : _ ∧ _)); first | (with_reducible first | refine am_jn am_q1 ?_ | refine am_jn am_q2 ?_ | refine am_jn am_q3 ?_ | refine am_jn am_q4 ?_ | refine am_jn am_q6 ?_ | refine am_jn am_q9 ?_ | refine am_jn am_p1 ?_ | refine am_jy am_p0 ?_ | refine am_kn am_q1 ?_ | refine am_kn am_q2 ?_ | refine am_kn am_q3 ?_ | refine am_kn am_q4 ?_ | refine am_kn am_q6 ?_ | refine am_kn am_q9 ?_ | refine am_kn am_p1 ?_ | refine am_ky am_p0 ?_) | refine And.intro (fun h => absurd h (by decide)) (fun _ => ?_) | refine And.intro (fun _ => ?_) (fun h => absurd (by decide) h) | refine And.intro (fun _ => ?_) (fun _ => ?_) | refine And.intro ?_ ?_)
    | refine k1 ?_ ?_ _
    | refine And.intro (fun h => absurd h (by decide)) (fun _ => ?_)
    | refine And.intro (fun _ => ?_) (fun h => absurd (by decide) h)
    | refine And.intro (fun _ => ?_) (fun _ => ?_)
    | refine And.intro ?_ ?_
  all_goals (first | assumption | decide | omega | (intros; omega) | (intros; simp only [am_c] at * <;> omega) | (simp only [am_c, am_up] at * <;> omega) | (simp [am_c, am_up] at * <;> omega))
