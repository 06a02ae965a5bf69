/-! contracts: the system's questions (weak) -/
theorem am_shl14 {n : Int} (h0 : 0 ≤ n) (h1 : n ≤ 4) : 1 ≤ am_shl 1 n ∧ am_shl 1 n ≤ 16 := by
  rcases (show n = 0 ∨ n = 1 ∨ n = 2 ∨ n = 3 ∨ n = 4 by omega) with rfl | rfl | rfl | rfl | rfl <;> decide +kernel
theorem am_aa3 {P : Nat → Prop} {a b c : Nat} (h1 : P a) (h2 : P b) (h3 : P c) : ∀ (i j : Nat), ([a, b, c] : List Nat)[i]? = some j → P j
  | 0, j, h => by cases h; exact h1
  | 1, j, h => by cases h; exact h2
  | 2, j, h => by cases h; exact h3
  | i + 3, j, h => by simp at h
theorem am_tmb (x y : Int) : 0 ≤ x → 0 < y → (0 ≤ x.tmod y ∧ x.tmod y ≤ x ∧ 0 ≤ x.tdiv y ∧ x.tdiv y ≤ x) := fun hx hy => by
  rw [Int.tmod_eq_emod_of_nonneg hx, Int.tdiv_eq_ediv_of_nonneg hx]
  have h0 : 0 ≤ x / y := Int.ediv_nonneg hx (Int.le_of_lt hy)
  have h1 := Int.mul_nonneg (Int.le_of_lt hy) h0
  have h2 := Int.emod_def x y
  exact ⟨Int.emod_nonneg _ (by omega), by omega, h0, Int.ediv_le_self _ hx⟩
theorem w_refuse_X6 {l : Launch} {μ : am_N} {Q : Option am_V → am_N → Prop} {ν : am_N} (w : Int) (hS : sx ν μ) (h0 : -6 ≤ w) (h1 : w ≤ -1) (k : ∀ μ', sx ν μ' → (μ' 36 1 = μ 36 1 ∧ μ' 44 1 = μ 44 1 ∧ μ' 46 1 = μ 46 1 ∧ μ' 48 1 = μ 48 1) → Q (some (.inl w)) μ') : am_Does l 113 [.inr (.inr 0), .inl w] μ Q := by
  refine am_Does_of (Nat.le_of_ble_eq_true rfl) (Nat.le_of_ble_eq_true rfl) (Nat.le_of_ble_eq_true rfl) ?_
  have hb := sx_all hS
  refine am_go (ct := fun _ => false) am_oX6_refuse 300 ?_
  conv => whnf
  repeat' first
    | (refine (?_ : am_wp _ _ _ _ _ _ _ _ _ _ _ _); conv => whnf)
    | (refine (?_ : am_sw _ _ _ _); conv => whnf)
    | refine And.intro trivial ?_
    | exact trivial
    | assumption
    | refine k _ ?_ ?_
    | exact ⟨rfl, rfl, rfl, rfl⟩
    | refine sx_up ?_ rfl
    | refine And.intro (fun h => absurd h (by decide)) (fun _ => ?_)
    | refine And.intro (fun _ => ?_) (fun h => absurd (by decide) h)
    | refine And.intro (fun _ => ?_) (fun _ => ?_)
    | refine And.intro ?_ ?_
  all_goals (first | assumption | decide | omega | (intros; omega) | (intros; simp only [am_c] at * <;> omega) | (simp only [am_c, am_up] at * <;> omega) | (simp [am_c, am_up] at * <;> omega))
theorem w_noPart_X6 {l : Launch} {μ : am_N} {Q : Option am_V → am_N → Prop} (p : Int) (k1 : Q (some (.inl 1)) μ) (k2 : (am_c p = 0 ∨ am_c p = 1) → Q (some (.inl 0)) μ) : am_Does l 116 [.inl p] μ Q := by
  refine am_Does_of (Nat.le_of_ble_eq_true rfl) (Nat.le_of_ble_eq_true rfl) (Nat.le_of_ble_eq_true rfl) ?_
  refine am_go (ct := fun _ => false) am_oX6_noPart 300 ?_
  conv => whnf
  repeat' first
    | (refine (?_ : am_wp _ _ _ _ _ _ _ _ _ _ _ _); conv => whnf)
    | (refine (?_ : am_sw _ _ _ _); conv => whnf)
    | refine And.intro trivial ?_
    | exact trivial
    | assumption
    | exact k1
    | refine k2 ?_
    | refine And.intro (fun h => absurd h (by decide)) (fun _ => ?_)
    | refine And.intro (fun _ => ?_) (fun h => absurd (by decide) h)
    | refine And.intro (fun _ => ?_) (fun _ => ?_)
    | refine And.intro ?_ ?_
  all_goals (first | assumption | decide | omega | (intros; omega) | (intros; simp only [am_c] at * <;> omega) | (simp only [am_c, am_up] at * <;> omega) | (simp [am_c, am_up] at * <;> omega))
theorem w_leastOf_X6 {l : Launch} {μ : am_N} {Q : Option am_V → am_N → Prop} {ν : am_N} (a : Int) (hS : sx ν μ)  (k : ∀ r, Q (some (.inl r)) μ) : am_Does l 119 [.inl a] μ Q := by
  refine am_Does_of (Nat.le_of_ble_eq_true rfl) (Nat.le_of_ble_eq_true rfl) (Nat.le_of_ble_eq_true rfl) ?_
  have hb := sx_all hS
  refine am_go (ct := fun _ => false) am_oX6_leastOf 300 ?_
  conv => whnf
  repeat' first
    | (refine (?_ : am_wp _ _ _ _ _ _ _ _ _ _ _ _); conv => whnf)
    | (refine (?_ : am_sw _ _ _ _); conv => whnf)
    | refine And.intro trivial ?_
    | exact trivial
    | assumption
    | exact k _
    | refine sx_up ?_ rfl
    | refine And.intro (fun h => absurd h (by decide)) (fun _ => ?_)
    | refine And.intro (fun _ => ?_) (fun h => absurd (by decide) h)
    | refine And.intro (fun _ => ?_) (fun _ => ?_)
    | refine And.intro ?_ ?_
  all_goals (first | assumption | decide | omega | (intros; omega) | (intros; simp only [am_c] at * <;> omega) | (simp only [am_c, am_up] at * <;> omega) | (simp [am_c, am_up] at * <;> omega))
theorem w_mostOf_X6 {l : Launch} {μ : am_N} {Q : Option am_V → am_N → Prop} {ν : am_N} (a : Int) (hS : sx ν μ)  (k : ∀ r, Q (some (.inl r)) μ) : am_Does l 120 [.inl a] μ Q := by
  refine am_Does_of (Nat.le_of_ble_eq_true rfl) (Nat.le_of_ble_eq_true rfl) (Nat.le_of_ble_eq_true rfl) ?_
  have hb := sx_all hS
  refine am_go (ct := fun _ => false) am_oX6_mostOf 300 ?_
  conv => whnf
  repeat' first
    | (refine (?_ : am_wp _ _ _ _ _ _ _ _ _ _ _ _); conv => whnf)
    | (refine (?_ : am_sw _ _ _ _); conv => whnf)
    | refine And.intro trivial ?_
    | exact trivial
    | assumption
    | exact k _
    | refine sx_up ?_ rfl
    | refine And.intro (fun h => absurd h (by decide)) (fun _ => ?_)
    | refine And.intro (fun _ => ?_) (fun h => absurd (by decide) h)
    | refine And.intro (fun _ => ?_) (fun _ => ?_)
    | refine And.intro ?_ ?_
  all_goals (first | assumption | decide | omega | (intros; omega) | (intros; simp only [am_c] at * <;> omega) | (simp only [am_c, am_up] at * <;> omega) | (simp [am_c, am_up] at * <;> omega))
