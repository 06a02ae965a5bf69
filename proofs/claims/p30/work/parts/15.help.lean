/-! contracts: the system's questions (weak) -/
theorem am_shl14 {n : Int} (h0 : 0 ≤ n) (h1 : n ≤ 4) : 1 ≤ am_shl 1 n ∧ am_shl 1 n ≤ 16 := by
  rcases (show n = 0 ∨ n = 1 ∨ n = 2 ∨ n = 3 ∨ n = 4 by omega) with rfl | rfl | rfl | rfl | rfl <;> decide +kernel
theorem am_aa3 {P : Nat → Prop} {a b c : Nat} (h1 : P a) (h2 : P b) (h3 : P c) : ∀ (i j : Nat), ([a, b, c] : List Nat)[i]? = some j → P j
  | 0, j, h => by cases h; exact h1
  | 1, j, h => by cases h; exact h2
  | 2, j, h => by cases h; exact h3
  | i + 3, j, h => by simp at h
theorem am_tmb (x y : Int) : 0 ≤ x → 0 < y → (0 ≤ x.tmod y ∧ x.tmod y ≤ x ∧ 0 ≤ x.tdiv y ∧ x.tdiv y ≤ x) := fun hx hy => by
  rw [Int.tmod_eq_emod_of_nonneg hx, Int.tdiv_eq_ediv_of_nonneg hx]
  have h0 : 0 ≤ x / y := Int.ediv_nonneg hx (Int.le_of_lt hy)
  have h1 := Int.mul_nonneg (Int.le_of_lt hy) h0
  have h2 := Int.emod_def x y
  exact ⟨Int.emod_nonneg _ (by omega), by omega, h0, Int.ediv_le_self _ hx⟩
theorem w_refuse_X6 {l : Launch} {μ : am_N} {Q : Option am_V → am_N → Prop} {ν : am_N} (w : Int) (hS : sx ν μ) (h0 : -6 ≤ w) (h1 : w ≤ -1) (k : ∀ μ', sx ν μ' → (μ' 36 1 = μ 36 1 ∧ μ' 44 1 = μ 44 1 ∧ μ' 46 1 = μ 46 1 ∧ μ' 48 1 = μ 48 1) → Q (some (.inl w)) μ') : am_Does l 113 [.inr (.inr 0), .inl w] μ Q := by
  refine am_Does_of (Nat.le_of_ble_eq_true rfl) (Nat.le_of_ble_eq_true rfl) (Nat.le_of_ble_eq_true rfl) ?_
  have hb := sx_all hS
  refine am_go (ct := fun _ => false) am_oX6_refuse 300 ?_
  conv => whnf
  repeat' first
    | (refine (?_ : am_wp _ _ _ _ _ _ _ _ _ _ _ _); conv => whnf)
    | (refine (?_ : am_sw _ _ _ _); conv => whnf)
    | refine And.intro trivial ?_
    | exact trivial
    | (with_reducible assumption)
    | refine k _ ?_ ?_
    | exact ⟨rfl, rfl, rfl, rfl⟩
    | refine sx_up ?_ rfl
    | refine And.intro (fun h => absurd h (by decide)) (fun _ => ?_)
    | refine And.intro (fun _ => ?_) (fun h => absurd (by decide) h)
    | refine And.intro (fun _ => ?_) (fun _ => ?_)
    | refine And.intro ?_ ?_
  all_goals (first | (with_reducible assumption) | decide | omega | assumption | (intros; omega) | (intros; simp only [am_c] at * <;> omega) | (simp only [am_c, am_up] at * <;> omega) | (simp [am_c, am_up] at * <;> omega))
theorem w_refuseHigh_X6 {l : Launch} {μ : am_N} {Q : Option am_V → am_N → Prop} {ν : am_N} (w : Int) (hS : sx ν μ) (h0 : -6 ≤ w) (h1 : w ≤ -1) (k : ∀ r μ', sx ν μ' → Q (some (.inl r)) μ') : am_Does l 114 [.inr (.inr 0), .inl w] μ Q := by
  refine am_Does_of (Nat.le_of_ble_eq_true rfl) (Nat.le_of_ble_eq_true rfl) (Nat.le_of_ble_eq_true rfl) ?_
  have hb := sx_all hS
  refine am_go (ct := fun _ => false) am_oX6_refuseHigh 300 ?_
  conv => whnf
  repeat' first
    | (refine (?_ : am_wp _ _ _ _ _ _ _ _ _ _ _ _); conv => whnf)
    | (refine (?_ : am_sw _ _ _ _); conv => whnf)
    | refine And.intro trivial ?_
    | exact trivial
    | (with_reducible assumption)
    | ((with_reducible refine (?_ : _ ∧ _)); first | (with_reducible first | refine am_jn am_q1 ?_ | refine am_jn am_q2 ?_ | refine am_jn am_q3 ?_ | refine am_jn am_q4 ?_ | refine am_jn am_q6 ?_ | refine am_jn am_q9 ?_ | refine am_jn am_p1 ?_ | refine am_jy am_p0 ?_ | refine am_kn am_q1 ?_ | refine am_kn am_q2 ?_ | refine am_kn am_q3 ?_ | refine am_kn am_q4 ?_ | refine am_kn am_q6 ?_ | refine am_kn am_q9 ?_ | refine am_kn am_p1 ?_ | refine am_ky am_p0 ?_) | refine And.intro (fun h => absurd h (by decide)) (fun _ => ?_) | refine And.intro (fun _ => ?_) (fun h => absurd (by decide) h) | refine And.intro (fun _ => ?_) (fun _ => ?_) | refine And.intro ?_ ?_)
    | refine k _ _ ?_
    | refine sx_up ?_ rfl
    | ((with_reducible refine (?_ : am_Does _ 113 _ _ _)); refine w_refuse_X6 (ν := ν) _ ?_ ?_ ?_ (fun _ _ _ => ?_))
    | refine And.intro (fun h => absurd h (by decide)) (fun _ => ?_)
    | refine And.intro (fun _ => ?_) (fun h => absurd (by decide) h)
    | refine And.intro (fun _ => ?_) (fun _ => ?_)
    | refine And.intro ?_ ?_
  all_goals (first | (with_reducible assumption) | decide | omega | assumption | (intros; omega) | (intros; simp only [am_c] at * <;> omega) | (simp only [am_c, am_up] at * <;> omega) | (simp [am_c, am_up] at * <;> omega))
theorem w_refuseLong_X6 {l : Launch} {μ : am_N} {Q : Option am_V → am_N → Prop} {ν : am_N} (w : Int) (hS : sx ν μ) (h0 : -6 ≤ w) (h1 : w ≤ -1) (k : ∀ r μ', sx ν μ' → Q (some (.inr (.inl r))) μ') : am_Does l 115 [.inr (.inr 0), .inl w] μ Q := by
  refine am_Does_of (Nat.le_of_ble_eq_true rfl) (Nat.le_of_ble_eq_true rfl) (Nat.le_of_ble_eq_true rfl) ?_
  have hb := sx_all hS
  refine am_go (ct := fun _ => false) am_oX6_refuseLong 300 ?_
  conv => whnf
  repeat' first
    | (refine (?_ : am_wp _ _ _ _ _ _ _ _ _ _ _ _); conv => whnf)
    | (refine (?_ : am_sw _ _ _ _); conv => whnf)
    | refine And.intro trivial ?_
    | exact trivial
    | (with_reducible assumption)
    | ((with_reducible refine (?_ : _ ∧ _)); first | (with_reducible first | refine am_jn am_q1 ?_ | refine am_jn am_q2 ?_ | refine am_jn am_q3 ?_ | refine am_jn am_q4 ?_ | refine am_jn am_q6 ?_ | refine am_jn am_q9 ?_ | refine am_jn am_p1 ?_ | refine am_jy am_p0 ?_ | refine am_kn am_q1 ?_ | refine am_kn am_q2 ?_ | refine am_kn am_q3 ?_ | refine am_kn am_q4 ?_ | refine am_kn am_q6 ?_ | refine am_kn am_q9 ?_ | refine am_kn am_p1 ?_ | refine am_ky am_p0 ?_) | refine And.intro (fun h => absurd h (by decide)) (fun _ => ?_) | refine And.intro (fun _ => ?_) (fun h => absurd (by decide) h) | refine And.intro (fun _ => ?_) (fun _ => ?_) | refine And.intro ?_ ?_)
    | refine k _ _ ?_
    | refine sx_up ?_ rfl
    | ((with_reducible refine (?_ : am_Does _ 113 _ _ _)); refine w_refuse_X6 (ν := ν) _ ?_ ?_ ?_ (fun _ _ _ => ?_))
    | refine And.intro (fun h => absurd h (by decide)) (fun _ => ?_)
    | refine And.intro (fun _ => ?_) (fun h => absurd (by decide) h)
    | refine And.intro (fun _ => ?_) (fun _ => ?_)
    | refine And.intro ?_ ?_
  all_goals (first | (with_reducible assumption) | decide | omega | assumption | (intros; omega) | (intros; simp only [am_c] at * <;> omega) | (simp only [am_c, am_up] at * <;> omega) | (simp [am_c, am_up] at * <;> omega))
theorem w_noPart_X6 {l : Launch} {μ : am_N} {Q : Option am_V → am_N → Prop} (p : Int) (k1 : Q (some (.inl 1)) μ) (k2 : (am_c p = 0 ∨ am_c p = 1) → Q (some (.inl 0)) μ) : am_Does l 116 [.inl p] μ Q := by
  refine am_Does_of (Nat.le_of_ble_eq_true rfl) (Nat.le_of_ble_eq_true rfl) (Nat.le_of_ble_eq_true rfl) ?_
  refine am_go (ct := fun _ => false) am_oX6_noPart 300 ?_
  conv => whnf
  repeat' first
    | (refine (?_ : am_wp _ _ _ _ _ _ _ _ _ _ _ _); conv => whnf)
    | (refine (?_ : am_sw _ _ _ _); conv => whnf)
    | refine And.intro trivial ?_
    | exact trivial
    | (with_reducible assumption)
    | exact k1
    | ((with_reducible refine (?_ : _ ∧ _)); first | (with_reducible first | refine am_jn am_q1 ?_ | refine am_jn am_q2 ?_ | refine am_jn am_q3 ?_ | refine am_jn am_q4 ?_ | refine am_jn am_q6 ?_ | refine am_jn am_q9 ?_ | refine am_jn am_p1 ?_ | refine am_jy am_p0 ?_ | refine am_kn am_q1 ?_ | refine am_kn am_q2 ?_ | refine am_kn am_q3 ?_ | refine am_kn am_q4 ?_ | refine am_kn am_q6 ?_ | refine am_kn am_q9 ?_ | refine am_kn am_p1 ?_ | refine am_ky am_p0 ?_) | refine And.intro (fun h => absurd h (by decide)) (fun _ => ?_) | refine And.intro (fun _ => ?_) (fun h => absurd (by decide) h) | refine And.intro (fun _ => ?_) (fun _ => ?_) | refine And.intro ?_ ?_)
    | refine k2 ?_
    | refine And.intro (fun h => absurd h (by decide)) (fun _ => ?_)
    | refine And.intro (fun _ => ?_) (fun h => absurd (by decide) h)
    | refine And.intro (fun _ => ?_) (fun _ => ?_)
    | refine And.intro ?_ ?_
  all_goals (first | (with_reducible assumption) | decide | omega | assumption | (intros; omega) | (intros; simp only [am_c] at * <;> omega) | (simp only [am_c, am_up] at * <;> omega) | (simp [am_c, am_up] at * <;> omega))
theorem w_notTwo_X6 {l : Launch} {μ : am_N} {Q : Option am_V → am_N → Prop} {ν : am_N} (a b : Int) (hS : sx ν μ) (k1 : Q (some (.inl 1)) μ) (k2 : 0 ≤ am_c a → am_c a < 4 → 0 ≤ am_c b → am_c b < 4 → Q (some (.inl 0)) μ) : am_Does l 117 [.inr (.inr 0), .inl a, .inl b] μ Q := by
  refine am_Does_of (Nat.le_of_ble_eq_true rfl) (Nat.le_of_ble_eq_true rfl) (Nat.le_of_ble_eq_true rfl) ?_
  have hb := sx_all hS
  refine am_go (ct := fun _ => false) am_oX6_notTwo 300 ?_
  conv => whnf
  repeat' first
    | (refine (?_ : am_wp _ _ _ _ _ _ _ _ _ _ _ _); conv => whnf)
    | (refine (?_ : am_sw _ _ _ _); conv => whnf)
    | refine And.intro trivial ?_
    | exact trivial
    | (with_reducible assumption)
    | exact k1
    | ((with_reducible refine (?_ : _ ∧ _)); first | (with_reducible first | refine am_jn am_q1 ?_ | refine am_jn am_q2 ?_ | refine am_jn am_q3 ?_ | refine am_jn am_q4 ?_ | refine am_jn am_q6 ?_ | refine am_jn am_q9 ?_ | refine am_jn am_p1 ?_ | refine am_jy am_p0 ?_ | refine am_kn am_q1 ?_ | refine am_kn am_q2 ?_ | refine am_kn am_q3 ?_ | refine am_kn am_q4 ?_ | refine am_kn am_q6 ?_ | refine am_kn am_q9 ?_ | refine am_kn am_p1 ?_ | refine am_ky am_p0 ?_) | refine And.intro (fun h => absurd h (by decide)) (fun _ => ?_) | refine And.intro (fun _ => ?_) (fun h => absurd (by decide) h) | refine And.intro (fun _ => ?_) (fun _ => ?_) | refine And.intro ?_ ?_)
    | refine k2 ?_ ?_ ?_ ?_
    | ((with_reducible refine (?_ : am_Does _ 1 _ _ _)); first | ((with_reducible refine (?_ : am_Does _ 1 (Sum.inr (Sum.inr 1) :: _) _ _)); refine w_has_X0_1 (ν := ν) _ ?_ (fun _ _ _ => ?_) (fun _ => ?_)) | ((with_reducible refine (?_ : am_Does _ 1 (Sum.inr (Sum.inr 8) :: _) _ _)); refine w_has_X0_8 (ν := ν) _ ?_ (fun _ _ _ => ?_) (fun _ => ?_)) | ((with_reducible refine (?_ : am_Does _ 1 (Sum.inr (Sum.inr 15) :: _) _ _)); refine w_has_X0_15 (ν := ν) _ ?_ (fun _ _ _ => ?_) (fun _ => ?_)) | refine w_has_X0_1 (ν := ν) _ ?_ (fun _ _ _ => ?_) (fun _ => ?_) | refine w_has_X0_8 (ν := ν) _ ?_ (fun _ _ _ => ?_) (fun _ => ?_) | refine w_has_X0_15 (ν := ν) _ ?_ (fun _ _ _ => ?_) (fun _ => ?_))
    | refine And.intro (fun h => absurd h (by decide)) (fun _ => ?_)
    | refine And.intro (fun _ => ?_) (fun h => absurd (by decide) h)
    | refine And.intro (fun _ => ?_) (fun _ => ?_)
    | refine And.intro ?_ ?_
  all_goals (first | (with_reducible assumption) | decide | omega | assumption | (intros; omega) | (intros; simp only [am_c] at * <;> omega) | (simp only [am_c, am_up] at * <;> omega) | (simp [am_c, am_up] at * <;> omega))
theorem w_fraction_X6 {l : Launch} {μ : am_N} {Q : Option am_V → am_N → Prop} {ν : am_N} (a b p : Int) (hS : sx ν μ)  (k : ∀ r, Q (some (.inr (.inl r))) μ) : am_Does l 118 [.inr (.inl a), .inr (.inl b), .inl p] μ Q := by
  refine am_Does_of (Nat.le_of_ble_eq_true rfl) (Nat.le_of_ble_eq_true rfl) (Nat.le_of_ble_eq_true rfl) ?_
  have hb := sx_all hS
  have lp9 : ∀ (m : Nat) (u v i : Int) , 0 ≤ i → i ≤ 62 → 62 - i < (m : Int) → am_AW l 0 (fun _ => 0) 118 Q 9 [some (.inr (.inl a)), none, some (.inr (.inl b)), none, some (.inl p), some (.inr (.inl u)), none, some (.inr (.inl v)), none, some (.inl i)] [] μ := by
    intro m
    induction m with
    | zero =>
      intro u v i  hv0 hv1 hm
      exfalso
      omega
    | succ m ih =>
      intro u v i  hv0 hv1 hm
      refine am_go (ct := fun pc => Nat.beq pc 9) am_oX6_fraction 300 ?_
      conv => whnf
      repeat' first
        | (refine (?_ : am_wp _ _ _ _ _ _ _ _ _ _ _ _); conv => whnf)
        | (refine (?_ : am_sw _ _ _ _); conv => whnf)
        | refine And.intro trivial ?_
        | exact trivial
        | (with_reducible assumption)
        | ((with_reducible refine (?_ : _ ∧ _)); first | (with_reducible first | refine am_jn am_q1 ?_ | refine am_jn am_q2 ?_ | refine am_jn am_q3 ?_ | refine am_jn am_q4 ?_ | refine am_jn am_q6 ?_ | refine am_jn am_q9 ?_ | refine am_jn am_p1 ?_ | refine am_jy am_p0 ?_ | refine am_kn am_q1 ?_ | refine am_kn am_q2 ?_ | refine am_kn am_q3 ?_ | refine am_kn am_q4 ?_ | refine am_kn am_q6 ?_ | refine am_kn am_q9 ?_ | refine am_kn am_p1 ?_ | refine am_ky am_p0 ?_) | refine And.intro (fun h => absurd h (by decide)) (fun _ => ?_) | refine And.intro (fun _ => ?_) (fun h => absurd (by decide) h) | refine And.intro (fun _ => ?_) (fun _ => ?_) | refine And.intro ?_ ?_)
        | exact k _
        | refine sx_up ?_ rfl
        | ((with_reducible refine (?_ : am_AW _ _ _ _ _ 9 _ _ _)); refine ih _ _ _  ?_ ?_ ?_)
        | refine And.intro (fun h => absurd h (by decide)) (fun _ => ?_)
        | refine And.intro (fun _ => ?_) (fun h => absurd (by decide) h)
        | refine And.intro (fun _ => ?_) (fun _ => ?_)
        | refine And.intro ?_ ?_
      all_goals (first | (with_reducible assumption) | decide | omega | assumption | (intros; omega) | (intros; simp only [am_c] at * <;> omega) | (simp only [am_c, am_up] at * <;> omega) | (simp [am_c, am_up] at * <;> omega))
  have lp9' : ∀ (u v i : Int) , 0 ≤ i → i ≤ 62 → am_AW l 0 (fun _ => 0) 118 Q 9 [some (.inr (.inl a)), none, some (.inr (.inl b)), none, some (.inl p), some (.inr (.inl u)), none, some (.inr (.inl v)), none, some (.inl i)] [] μ := fun u v i  hv0 hv1 => lp9 ((62 - i) + 1).toNat u v i  hv0 hv1 (by omega)
  refine am_go (ct := fun pc => Nat.beq pc 9) am_oX6_fraction 300 ?_
  conv => whnf
  repeat' first
    | (refine (?_ : am_wp _ _ _ _ _ _ _ _ _ _ _ _); conv => whnf)
    | (refine (?_ : am_sw _ _ _ _); conv => whnf)
    | refine And.intro trivial ?_
    | exact trivial
    | (with_reducible assumption)
    | ((with_reducible refine (?_ : _ ∧ _)); first | (with_reducible first | refine am_jn am_q1 ?_ | refine am_jn am_q2 ?_ | refine am_jn am_q3 ?_ | refine am_jn am_q4 ?_ | refine am_jn am_q6 ?_ | refine am_jn am_q9 ?_ | refine am_jn am_p1 ?_ | refine am_jy am_p0 ?_ | refine am_kn am_q1 ?_ | refine am_kn am_q2 ?_ | refine am_kn am_q3 ?_ | refine am_kn am_q4 ?_ | refine am_kn am_q6 ?_ | refine am_kn am_q9 ?_ | refine am_kn am_p1 ?_ | refine am_ky am_p0 ?_) | refine And.intro (fun h => absurd h (by decide)) (fun _ => ?_) | refine And.intro (fun _ => ?_) (fun h => absurd (by decide) h) | refine And.intro (fun _ => ?_) (fun _ => ?_) | refine And.intro ?_ ?_)
    | exact k _
    | refine sx_up ?_ rfl
    | ((with_reducible refine (?_ : am_AW _ _ _ _ _ 9 _ _ _)); refine lp9' _ _ _  ?_ ?_)
    | refine And.intro (fun h => absurd h (by decide)) (fun _ => ?_)
    | refine And.intro (fun _ => ?_) (fun h => absurd (by decide) h)
    | refine And.intro (fun _ => ?_) (fun _ => ?_)
    | refine And.intro ?_ ?_
  all_goals (first | (with_reducible assumption) | decide | omega | assumption | (intros; omega) | (intros; simp only [am_c] at * <;> omega) | (simp only [am_c, am_up] at * <;> omega) | (simp [am_c, am_up] at * <;> omega))
theorem w_alone_X6 {l : Launch} {μ : am_N} {Q : Option am_V → am_N → Prop} {ν : am_N} (a b : Int) (hS : sx ν μ)  (k : ∀ r μ', sx ν μ' → (r = 0 ∨ r = 1) → Q (some (.inl r)) μ') : am_Does l 121 [.inr (.inr 0), .inl a, .inl b] μ Q := by
  refine am_Does_of (Nat.le_of_ble_eq_true rfl) (Nat.le_of_ble_eq_true rfl) (Nat.le_of_ble_eq_true rfl) ?_
  have hb := sx_all hS
  refine am_go (ct := fun _ => false) am_oX6_alone 300 ?_
  conv => whnf
  repeat' first
    | (refine (?_ : am_wp _ _ _ _ _ _ _ _ _ _ _ _); conv => whnf)
    | (refine (?_ : am_sw _ _ _ _); conv => whnf)
    | refine And.intro trivial ?_
    | exact trivial
    | (with_reducible assumption)
    | ((with_reducible refine (?_ : _ ∧ _)); first | (with_reducible first | refine am_jn am_q1 ?_ | refine am_jn am_q2 ?_ | refine am_jn am_q3 ?_ | refine am_jn am_q4 ?_ | refine am_jn am_q6 ?_ | refine am_jn am_q9 ?_ | refine am_jn am_p1 ?_ | refine am_jy am_p0 ?_ | refine am_kn am_q1 ?_ | refine am_kn am_q2 ?_ | refine am_kn am_q3 ?_ | refine am_kn am_q4 ?_ | refine am_kn am_q6 ?_ | refine am_kn am_q9 ?_ | refine am_kn am_p1 ?_ | refine am_ky am_p0 ?_) | refine And.intro (fun h => absurd h (by decide)) (fun _ => ?_) | refine And.intro (fun _ => ?_) (fun h => absurd (by decide) h) | refine And.intro (fun _ => ?_) (fun _ => ?_) | refine And.intro ?_ ?_)
    | refine k _ _ ?_ ?_
    | refine sx_up ?_ rfl
    | ((with_reducible refine (?_ : am_Does _ 3 _ _ _)); refine w_takeTwo_X0_15_1 (ν := ν) _ _ ?_  (fun _ _ => ?_))
    | refine And.intro (fun h => absurd h (by decide)) (fun _ => ?_)
    | refine And.intro (fun _ => ?_) (fun h => absurd (by decide) h)
    | refine And.intro (fun _ => ?_) (fun _ => ?_)
    | refine And.intro ?_ ?_
  all_goals (first | (with_reducible assumption) | decide | omega | assumption | (intros; omega) | (intros; simp only [am_c] at * <;> omega) | (simp only [am_c, am_up] at * <;> omega) | (simp [am_c, am_up] at * <;> omega))
theorem w_sixteenths_X6 {l : Launch} {μ : am_N} {Q : Option am_V → am_N → Prop} {ν : am_N} (a b : Int) (hS : sx ν μ)  (k : ∀ r μ', sx ν μ' → Q (some (.inl r)) μ') : am_Does l 122 [.inr (.inr 0), .inl a, .inl b] μ Q := by
  refine am_Does_of (Nat.le_of_ble_eq_true rfl) (Nat.le_of_ble_eq_true rfl) (Nat.le_of_ble_eq_true rfl) ?_
  have hb := sx_all hS
  refine am_go (ct := fun _ => false) am_oX6_sixteenths 300 ?_
  conv => whnf
  repeat' first
    | (refine (?_ : am_wp _ _ _ _ _ _ _ _ _ _ _ _); conv => whnf)
    | (refine (?_ : am_sw _ _ _ _); conv => whnf)
    | refine And.intro trivial ?_
    | exact trivial
    | (with_reducible assumption)
    | ((with_reducible refine (?_ : _ ∧ _)); first | (with_reducible first | refine am_jn am_q1 ?_ | refine am_jn am_q2 ?_ | refine am_jn am_q3 ?_ | refine am_jn am_q4 ?_ | refine am_jn am_q6 ?_ | refine am_jn am_q9 ?_ | refine am_jn am_p1 ?_ | refine am_jy am_p0 ?_ | refine am_kn am_q1 ?_ | refine am_kn am_q2 ?_ | refine am_kn am_q3 ?_ | refine am_kn am_q4 ?_ | refine am_kn am_q6 ?_ | refine am_kn am_q9 ?_ | refine am_kn am_p1 ?_ | refine am_ky am_p0 ?_) | refine And.intro (fun h => absurd h (by decide)) (fun _ => ?_) | refine And.intro (fun _ => ?_) (fun h => absurd (by decide) h) | refine And.intro (fun _ => ?_) (fun _ => ?_) | refine And.intro ?_ ?_)
    | refine k _ _ ?_
    | refine sx_up ?_ rfl
    | ((with_reducible refine (?_ : am_Does _ 121 _ _ _)); refine w_alone_X6 (ν := ν) _ _ ?_  (fun _ _ _ _ => ?_))
    | ((with_reducible refine (?_ : am_Does _ 21 _ _ _)); first | ((with_reducible refine (?_ : am_Does _ 21 (Sum.inr (Sum.inr 29) :: Sum.inr (Sum.inr 1) :: _) _ _)); refine w_draw_X2_29_1 (ν := ν)  ?_  (fun _ _ => ?_)) | ((with_reducible refine (?_ : am_Does _ 21 (Sum.inr (Sum.inr 29) :: Sum.inr (Sum.inr 8) :: _) _ _)); refine w_draw_X2_29_8 (ν := ν)  ?_  (fun _ _ => ?_)) | ((with_reducible refine (?_ : am_Does _ 21 (Sum.inr (Sum.inr 29) :: Sum.inr (Sum.inr 15) :: _) _ _)); refine w_draw_X2_29_15 (ν := ν)  ?_  (fun _ _ => ?_)) | refine w_draw_X2_29_1 (ν := ν)  ?_  (fun _ _ => ?_) | refine w_draw_X2_29_8 (ν := ν)  ?_  (fun _ _ => ?_) | refine w_draw_X2_29_15 (ν := ν)  ?_  (fun _ _ => ?_))
    | ((with_reducible refine (?_ : am_Does _ 24 _ _ _)); refine w_ways_X2_29 (ν := ν) _ ?_  (fun _ => ?_))
    | refine And.intro (fun h => absurd h (by decide)) (fun _ => ?_)
    | refine And.intro (fun _ => ?_) (fun h => absurd (by decide) h)
    | refine And.intro (fun _ => ?_) (fun _ => ?_)
    | refine And.intro ?_ ?_
  all_goals (first | (with_reducible assumption) | decide | omega | assumption | (intros; omega) | (intros; simp only [am_c] at * <;> omega) | (simp only [am_c, am_up] at * <;> omega) | (simp [am_c, am_up] at * <;> omega))
theorem w_putStarts_X6 {l : Launch} {μ : am_N} {Q : Option am_V → am_N → Prop} {ν : am_N} (c mm : Int) (hS : sx ν μ) (hc0 : 0 ≤ c) (hc1 : c ≤ 2147483647) (k : ∀ μ', sx ν μ' → Q none μ') : am_Does l 124 [.inr (.inr 0), .inl c, .inl mm] μ Q := by
  refine am_Does_of (Nat.le_of_ble_eq_true rfl) (Nat.le_of_ble_eq_true rfl) (Nat.le_of_ble_eq_true rfl) ?_
  have hb := sx_all hS
  have lp13 : ∀ (m : Nat) (q r : Int) (o5 : Option am_V) (μ : am_N) , sx ν μ → -1 ≤ r → r ≤ 3 → 0 ≤ q → q ≤ 2147483647 → r + 1 < (m : Int) → am_AW l 0 (fun _ => 0) 124 Q 13 [some (.inr (.inr 0)), some (.inl c), some (.inl mm), some (.inl q), some (.inl r), o5] [] μ := by
    intro m
    induction m with
    | zero =>
      intro q r o5 μ hv0 hv1 hv2 hv3 hv4 hm
      have hb := sx_all hv0
      exfalso
      omega
    | succ m ih =>
      intro q r o5 μ hv0 hv1 hv2 hv3 hv4 hm
      have hb := sx_all hv0
      have t1 := am_tmb (am_c q) (am_c mm)
      have cf_q : am_c q = q := am_cR (by omega) (by omega)
      have cf_r : am_c r = r := am_cR (by omega) (by omega)
      refine am_go (ct := fun pc => Nat.beq pc 13) am_oX6_putStarts 300 ?_
      conv => whnf
      repeat' first
        | (refine (?_ : am_wp _ _ _ _ _ _ _ _ _ _ _ _); conv => whnf)
        | (refine (?_ : am_sw _ _ _ _); conv => whnf)
        | refine And.intro trivial ?_
        | exact trivial
        | (with_reducible assumption)
        | ((with_reducible refine (?_ : ∀ j : Nat, (_ : Option Nat) = some j → _)); refine am_aa3 ?_ ?_ ?_ _)
        | ((with_reducible refine (?_ : _ ∧ _)); first | (with_reducible first | refine am_jn am_q1 ?_ | refine am_jn am_q2 ?_ | refine am_jn am_q3 ?_ | refine am_jn am_q4 ?_ | refine am_jn am_q6 ?_ | refine am_jn am_q9 ?_ | refine am_jn am_p1 ?_ | refine am_jy am_p0 ?_ | refine am_kn am_q1 ?_ | refine am_kn am_q2 ?_ | refine am_kn am_q3 ?_ | refine am_kn am_q4 ?_ | refine am_kn am_q6 ?_ | refine am_kn am_q9 ?_ | refine am_kn am_p1 ?_ | refine am_ky am_p0 ?_) | refine And.intro (fun h => absurd h (by decide)) (fun _ => ?_) | refine And.intro (fun _ => ?_) (fun h => absurd (by decide) h) | refine And.intro (fun _ => ?_) (fun _ => ?_) | refine And.intro ?_ ?_)
        | refine k _ ?_
        | refine sx_up ?_ rfl
        | ((with_reducible refine (?_ : am_Does _ 22 _ _ _)); refine w_put_X2_29 (ν := ν) _ _ _ ?_  (fun _ _ => ?_))
        | ((with_reducible refine (?_ : am_AW _ _ _ _ _ 13 _ _ _)); refine ih _ _ _ _ ?_ ?_ ?_ ?_ ?_ ?_)
        | refine And.intro (fun h => absurd h (by decide)) (fun _ => ?_)
        | refine And.intro (fun _ => ?_) (fun h => absurd (by decide) h)
        | refine And.intro (fun _ => ?_) (fun _ => ?_)
        | refine And.intro ?_ ?_
      all_goals (first | (with_reducible assumption) | decide | omega | assumption | (intros; omega) | (intros; simp only [am_c] at * <;> omega) | (simp only [am_c, am_up] at * <;> omega) | (simp [am_c, am_up] at * <;> omega))
  have lp13' : ∀ (q r : Int) (o5 : Option am_V) (μ : am_N) , sx ν μ → -1 ≤ r → r ≤ 3 → 0 ≤ q → q ≤ 2147483647 → am_AW l 0 (fun _ => 0) 124 Q 13 [some (.inr (.inr 0)), some (.inl c), some (.inl mm), some (.inl q), some (.inl r), o5] [] μ := fun q r o5 μ hv0 hv1 hv2 hv3 hv4 => lp13 ((r + 1) + 1).toNat q r o5 μ hv0 hv1 hv2 hv3 hv4 (by omega)
  refine am_go (ct := fun pc => Nat.beq pc 13) am_oX6_putStarts 300 ?_
  conv => whnf
  repeat' first
    | (refine (?_ : am_wp _ _ _ _ _ _ _ _ _ _ _ _); conv => whnf)
    | (refine (?_ : am_sw _ _ _ _); conv => whnf)
    | refine And.intro trivial ?_
    | exact trivial
    | (with_reducible assumption)
    | ((with_reducible refine (?_ : ∀ j : Nat, (_ : Option Nat) = some j → _)); refine am_aa3 ?_ ?_ ?_ _)
    | ((with_reducible refine (?_ : _ ∧ _)); first | (with_reducible first | refine am_jn am_q1 ?_ | refine am_jn am_q2 ?_ | refine am_jn am_q3 ?_ | refine am_jn am_q4 ?_ | refine am_jn am_q6 ?_ | refine am_jn am_q9 ?_ | refine am_jn am_p1 ?_ | refine am_jy am_p0 ?_ | refine am_kn am_q1 ?_ | refine am_kn am_q2 ?_ | refine am_kn am_q3 ?_ | refine am_kn am_q4 ?_ | refine am_kn am_q6 ?_ | refine am_kn am_q9 ?_ | refine am_kn am_p1 ?_ | refine am_ky am_p0 ?_) | refine And.intro (fun h => absurd h (by decide)) (fun _ => ?_) | refine And.intro (fun _ => ?_) (fun h => absurd (by decide) h) | refine And.intro (fun _ => ?_) (fun _ => ?_) | refine And.intro ?_ ?_)
    | refine k _ ?_
    | refine sx_up ?_ rfl
    | ((with_reducible refine (?_ : am_Does _ 22 _ _ _)); refine w_put_X2_29 (ν := ν) _ _ _ ?_  (fun _ _ => ?_))
    | ((with_reducible refine (?_ : am_AW _ _ _ _ _ 13 _ _ _)); refine lp13' _ _ _ _ ?_ ?_ ?_ ?_ ?_)
    | refine And.intro (fun h => absurd h (by decide)) (fun _ => ?_)
    | refine And.intro (fun _ => ?_) (fun h => absurd (by decide) h)
    | refine And.intro (fun _ => ?_) (fun _ => ?_)
    | refine And.intro ?_ ?_
  all_goals (first | (with_reducible assumption) | decide | omega | assumption | (intros; omega) | (intros; simp only [am_c] at * <;> omega) | (simp only [am_c, am_up] at * <;> omega) | (simp [am_c, am_up] at * <;> omega))
theorem w_evenest_X6 {l : Launch} {μ : am_N} {Q : Option am_V → am_N → Prop} {ν : am_N} (s mm : Int) (hS : sx ν μ) (hm0 : 1 ≤ mm) (hm1 : mm ≤ 20) (k : ∀ r μ', sx ν μ' → Q (some (.inl r)) μ') : am_Does l 123 [.inr (.inr 0), .inl s, .inl mm] μ Q := by
  refine am_Does_of (Nat.le_of_ble_eq_true rfl) (Nat.le_of_ble_eq_true rfl) (Nat.le_of_ble_eq_true rfl) ?_
  have hb := sx_all hS
  have lp111 : ∀ (m : Nat) (a b e c : Int) (o7 : Option am_V) (μ : am_N) , sx ν μ → 0 ≤ c → (c ≤ am_c a ∨ c = 0) → max (am_c a - c) 0 < (m : Int) → am_AW l 0 (fun _ => 0) 123 Q 111 [some (.inr (.inr 0)), some (.inl s), some (.inl mm), some (.inl a), some (.inl b), some (.inl e), some (.inl c), o7] [] μ := by
    intro m
    induction m with
    | zero =>
      intro a b e c o7 μ hv0 hv1 hv2 hm
      have hb := sx_all hv0
      exfalso
      omega
    | succ m ih =>
      intro a b e c o7 μ hv0 hv1 hv2 hm
      have hb := sx_all hv0
      refine am_go (ct := fun pc => Nat.beq pc 111 || Nat.beq pc 88 || Nat.beq pc 34 || Nat.beq pc 5) am_oX6_evenest 300 ?_
      conv => whnf
      repeat' first
        | (refine (?_ : am_wp _ _ _ _ _ _ _ _ _ _ _ _); conv => whnf)
        | (refine (?_ : am_sw _ _ _ _); conv => whnf)
        | refine And.intro trivial ?_
        | exact trivial
        | (with_reducible assumption)
        | ((with_reducible refine (?_ : ∀ j : Nat, (_ : Option Nat) = some j → _)); refine am_aa3 ?_ ?_ ?_ _)
        | refine sx_c29 ?_ ?_
        | exact (sx_all (ν := ν) (by assumption)).1
        | ((with_reducible refine (?_ : _ ∧ _)); first | (with_reducible first | refine am_jn am_q1 ?_ | refine am_jn am_q2 ?_ | refine am_jn am_q3 ?_ | refine am_jn am_q4 ?_ | refine am_jn am_q6 ?_ | refine am_jn am_q9 ?_ | refine am_jn am_p1 ?_ | refine am_jy am_p0 ?_ | refine am_kn am_q1 ?_ | refine am_kn am_q2 ?_ | refine am_kn am_q3 ?_ | refine am_kn am_q4 ?_ | refine am_kn am_q6 ?_ | refine am_kn am_q9 ?_ | refine am_kn am_p1 ?_ | refine am_ky am_p0 ?_) | refine And.intro (fun h => absurd h (by decide)) (fun _ => ?_) | refine And.intro (fun _ => ?_) (fun h => absurd (by decide) h) | refine And.intro (fun _ => ?_) (fun _ => ?_) | refine And.intro ?_ ?_)
        | refine k _ _ ?_
        | refine sx_up ?_ rfl
        | ((with_reducible refine (?_ : am_Does _ 9 _ _ _)); refine w_tenthsFrom_X0_1 (ν := ν) _ _ ?_  (fun _ => ?_))
        | ((with_reducible refine (?_ : am_Does _ 124 _ _ _)); refine w_putStarts_X6 (ν := ν) _ _ ?_ ?_ ?_ (fun _ _ => ?_))
        | ((with_reducible refine (?_ : am_Does _ 27 _ _ _)); refine w_uneven_X2_29 (ν := ν)  ?_  (fun _ => ?_))
        | ((with_reducible refine (?_ : am_AW _ _ _ _ _ 111 _ _ _)); refine ih _ _ _ _ _ _ ?_ ?_ ?_ ?_)
        | refine And.intro (fun h => absurd h (by decide)) (fun _ => ?_)
        | refine And.intro (fun _ => ?_) (fun h => absurd (by decide) h)
        | refine And.intro (fun _ => ?_) (fun _ => ?_)
        | refine And.intro ?_ ?_
      all_goals (first | (with_reducible assumption) | decide | omega | assumption | (intros; omega) | (intros; simp only [am_c] at * <;> omega) | (simp only [am_c, am_up] at * <;> omega) | (simp [am_c, am_up] at * <;> omega))
  have lp111' : ∀ (a b e c : Int) (o7 : Option am_V) (μ : am_N) , sx ν μ → 0 ≤ c → (c ≤ am_c a ∨ c = 0) → am_AW l 0 (fun _ => 0) 123 Q 111 [some (.inr (.inr 0)), some (.inl s), some (.inl mm), some (.inl a), some (.inl b), some (.inl e), some (.inl c), o7] [] μ := fun a b e c o7 μ hv0 hv1 hv2 => lp111 ((max (am_c a - c) 0) + 1).toNat a b e c o7 μ hv0 hv1 hv2 (by omega)
  have lp88 : ∀ (a b : Int) (o5 : Option am_V) (μ : am_N), sx ν μ → am_AW l 0 (fun _ => 0) 123 Q 88 [some (.inr (.inr 0)), some (.inl s), some (.inl mm), some (.inl a), some (.inl b), o5, none, none] [] μ := by
    intro a b o5 μ hv0
    refine am_go (ct := fun pc => Nat.beq pc 111 || Nat.beq pc 88 || Nat.beq pc 34 || Nat.beq pc 5) am_oX6_evenest 300 ?_
    conv => whnf
    repeat' first
      | (refine (?_ : am_wp _ _ _ _ _ _ _ _ _ _ _ _); conv => whnf)
      | (refine (?_ : am_sw _ _ _ _); conv => whnf)
      | refine And.intro trivial ?_
      | exact trivial
      | (with_reducible assumption)
      | ((with_reducible refine (?_ : ∀ j : Nat, (_ : Option Nat) = some j → _)); refine am_aa3 ?_ ?_ ?_ _)
      | refine sx_c29 ?_ ?_
      | exact (sx_all (ν := ν) (by assumption)).1
      | ((with_reducible refine (?_ : _ ∧ _)); first | (with_reducible first | refine am_jn am_q1 ?_ | refine am_jn am_q2 ?_ | refine am_jn am_q3 ?_ | refine am_jn am_q4 ?_ | refine am_jn am_q6 ?_ | refine am_jn am_q9 ?_ | refine am_jn am_p1 ?_ | refine am_jy am_p0 ?_ | refine am_kn am_q1 ?_ | refine am_kn am_q2 ?_ | refine am_kn am_q3 ?_ | refine am_kn am_q4 ?_ | refine am_kn am_q6 ?_ | refine am_kn am_q9 ?_ | refine am_kn am_p1 ?_ | refine am_ky am_p0 ?_) | refine And.intro (fun h => absurd h (by decide)) (fun _ => ?_) | refine And.intro (fun _ => ?_) (fun h => absurd (by decide) h) | refine And.intro (fun _ => ?_) (fun _ => ?_) | refine And.intro ?_ ?_)
      | refine k _ _ ?_
      | refine sx_up ?_ rfl
      | ((with_reducible refine (?_ : am_Does _ 9 _ _ _)); refine w_tenthsFrom_X0_1 (ν := ν) _ _ ?_  (fun _ => ?_))
      | ((with_reducible refine (?_ : am_Does _ 124 _ _ _)); refine w_putStarts_X6 (ν := ν) _ _ ?_ ?_ ?_ (fun _ _ => ?_))
      | ((with_reducible refine (?_ : am_Does _ 27 _ _ _)); refine w_uneven_X2_29 (ν := ν)  ?_  (fun _ => ?_))
      | ((with_reducible refine (?_ : am_AW _ _ _ _ _ 111 _ _ _)); refine lp111' _ _ _ _ _ _ ?_ ?_ ?_)
      | refine And.intro (fun h => absurd h (by decide)) (fun _ => ?_)
      | refine And.intro (fun _ => ?_) (fun h => absurd (by decide) h)
      | refine And.intro (fun _ => ?_) (fun _ => ?_)
      | refine And.intro ?_ ?_
    all_goals (first | (with_reducible assumption) | decide | omega | assumption | (intros; omega) | (intros; simp only [am_c] at * <;> omega) | (simp only [am_c, am_up] at * <;> omega) | (simp [am_c, am_up] at * <;> omega))
  have lp34 : ∀ (m : Nat) (a r k : Int) (μ : am_N) , sx ν μ → 0 ≤ r → r ≤ 2 → 0 ≤ k → k ≤ 20 → (∀ (o5 : Option am_V) (μ : am_N) (a : Int), sx ν μ → am_AW l 0 (fun _ => 0) 123 Q 5 [some (.inr (.inr 0)), some (.inl s), some (.inl mm), some (.inl a), some (.inl (r + 1)), o5, none, none] [] μ) → 20 - k < (m : Int) → am_AW l 0 (fun _ => 0) 123 Q 34 [some (.inr (.inr 0)), some (.inl s), some (.inl mm), some (.inl a), some (.inl r), some (.inl k), none, none] [] μ := by
    intro m
    induction m with
    | zero =>
      intro a r k μ hv0 hv1 hv2 hv3 hv4 hv5 hm
      have hb := sx_all hv0
      exfalso
      omega
    | succ m ih =>
      intro a r k μ hv0 hv1 hv2 hv3 hv4 hv5 hm
      have hb := sx_all hv0
      have cf_r : am_c r = r := am_cR (by omega) (by omega)
      have cf_k : am_c k = k := am_cR (by omega) (by omega)
      refine am_go (ct := fun pc => Nat.beq pc 111 || Nat.beq pc 88 || Nat.beq pc 34 || Nat.beq pc 5) am_oX6_evenest 300 ?_
      conv => whnf
      repeat' first
        | (refine (?_ : am_wp _ _ _ _ _ _ _ _ _ _ _ _); conv => whnf)
        | (refine (?_ : am_sw _ _ _ _); conv => whnf)
        | refine And.intro trivial ?_
        | exact trivial
        | (with_reducible assumption)
        | refine hv5 _ _ _ ?_
        | ((with_reducible refine (?_ : ∀ j : Nat, (_ : Option Nat) = some j → _)); refine am_aa3 ?_ ?_ ?_ _)
        | refine sx_c29 ?_ ?_
        | exact (sx_all (ν := ν) (by assumption)).1
        | ((with_reducible refine (?_ : _ ∧ _)); first | (with_reducible first | refine am_jn am_q1 ?_ | refine am_jn am_q2 ?_ | refine am_jn am_q3 ?_ | refine am_jn am_q4 ?_ | refine am_jn am_q6 ?_ | refine am_jn am_q9 ?_ | refine am_jn am_p1 ?_ | refine am_jy am_p0 ?_ | refine am_kn am_q1 ?_ | refine am_kn am_q2 ?_ | refine am_kn am_q3 ?_ | refine am_kn am_q4 ?_ | refine am_kn am_q6 ?_ | refine am_kn am_q9 ?_ | refine am_kn am_p1 ?_ | refine am_ky am_p0 ?_) | refine And.intro (fun h => absurd h (by decide)) (fun _ => ?_) | refine And.intro (fun _ => ?_) (fun h => absurd (by decide) h) | refine And.intro (fun _ => ?_) (fun _ => ?_) | refine And.intro ?_ ?_)
        | refine k _ _ ?_
        | refine sx_up ?_ rfl
        | ((with_reducible refine (?_ : am_Does _ 9 _ _ _)); refine w_tenthsFrom_X0_1 (ν := ν) _ _ ?_  (fun _ => ?_))
        | ((with_reducible refine (?_ : am_Does _ 124 _ _ _)); refine w_putStarts_X6 (ν := ν) _ _ ?_ ?_ ?_ (fun _ _ => ?_))
        | ((with_reducible refine (?_ : am_Does _ 27 _ _ _)); refine w_uneven_X2_29 (ν := ν)  ?_  (fun _ => ?_))
        | ((with_reducible refine (?_ : am_AW _ _ _ _ _ 34 _ _ _)); refine ih _ _ _ _ ?_ ?_ ?_ ?_ ?_ ?_ ?_)
        | ((with_reducible refine (?_ : am_AW _ _ _ _ _ 88 _ _ _)); refine lp88 _ _ _ _ ?_)
        | ((with_reducible refine (?_ : am_AW _ _ _ _ _ 111 _ _ _)); refine lp111' _ _ _ _ _ _ ?_ ?_ ?_)
        | refine And.intro (fun h => absurd h (by decide)) (fun _ => ?_)
        | refine And.intro (fun _ => ?_) (fun h => absurd (by decide) h)
        | refine And.intro (fun _ => ?_) (fun _ => ?_)
        | refine And.intro ?_ ?_
      all_goals (first | (with_reducible assumption) | decide | omega | assumption | (intros; omega) | (intros; simp only [am_c] at * <;> omega) | (simp only [am_c, am_up] at * <;> omega) | (simp [am_c, am_up] at * <;> omega))
  have lp34' : ∀ (a r k : Int) (μ : am_N) , sx ν μ → 0 ≤ r → r ≤ 2 → 0 ≤ k → k ≤ 20 → (∀ (o5 : Option am_V) (μ : am_N) (a : Int), sx ν μ → am_AW l 0 (fun _ => 0) 123 Q 5 [some (.inr (.inr 0)), some (.inl s), some (.inl mm), some (.inl a), some (.inl (r + 1)), o5, none, none] [] μ) → am_AW l 0 (fun _ => 0) 123 Q 34 [some (.inr (.inr 0)), some (.inl s), some (.inl mm), some (.inl a), some (.inl r), some (.inl k), none, none] [] μ := fun a r k μ hv0 hv1 hv2 hv3 hv4 hv5 => lp34 ((20 - k) + 1).toNat a r k μ hv0 hv1 hv2 hv3 hv4 hv5 (by omega)
  have lp5 : ∀ (m : Nat) (a r : Int) (o5 : Option am_V) (μ : am_N) , sx ν μ → 0 ≤ r → r ≤ 3 → 3 - r < (m : Int) → am_AW l 0 (fun _ => 0) 123 Q 5 [some (.inr (.inr 0)), some (.inl s), some (.inl mm), some (.inl a), some (.inl r), o5, none, none] [] μ := by
    intro m
    induction m with
    | zero =>
      intro a r o5 μ hv0 hv1 hv2 hm
      have hb := sx_all hv0
      exfalso
      omega
    | succ m ih =>
      intro a r o5 μ hv0 hv1 hv2 hm
      have hb := sx_all hv0
      have cf_r : am_c r = r := am_cR (by omega) (by omega)
      refine am_go (ct := fun pc => Nat.beq pc 111 || Nat.beq pc 88 || Nat.beq pc 34 || Nat.beq pc 5) am_oX6_evenest 300 ?_
      conv => whnf
      repeat' first
        | (refine (?_ : am_wp _ _ _ _ _ _ _ _ _ _ _ _); conv => whnf)
        | (refine (?_ : am_sw _ _ _ _); conv => whnf)
        | refine And.intro trivial ?_
        | exact trivial
        | (with_reducible assumption)
        | (refine fun _ _ _ _ => ih _ _ _ _ ?_ ?_ ?_ ?_)
        | ((with_reducible refine (?_ : ∀ j : Nat, (_ : Option Nat) = some j → _)); refine am_aa3 ?_ ?_ ?_ _)
        | refine sx_c29 ?_ ?_
        | exact (sx_all (ν := ν) (by assumption)).1
        | ((with_reducible refine (?_ : _ ∧ _)); first | (with_reducible first | refine am_jn am_q1 ?_ | refine am_jn am_q2 ?_ | refine am_jn am_q3 ?_ | refine am_jn am_q4 ?_ | refine am_jn am_q6 ?_ | refine am_jn am_q9 ?_ | refine am_jn am_p1 ?_ | refine am_jy am_p0 ?_ | refine am_kn am_q1 ?_ | refine am_kn am_q2 ?_ | refine am_kn am_q3 ?_ | refine am_kn am_q4 ?_ | refine am_kn am_q6 ?_ | refine am_kn am_q9 ?_ | refine am_kn am_p1 ?_ | refine am_ky am_p0 ?_) | refine And.intro (fun h => absurd h (by decide)) (fun _ => ?_) | refine And.intro (fun _ => ?_) (fun h => absurd (by decide) h) | refine And.intro (fun _ => ?_) (fun _ => ?_) | refine And.intro ?_ ?_)
        | refine k _ _ ?_
        | refine sx_up ?_ rfl
        | ((with_reducible refine (?_ : am_Does _ 9 _ _ _)); refine w_tenthsFrom_X0_1 (ν := ν) _ _ ?_  (fun _ => ?_))
        | ((with_reducible refine (?_ : am_Does _ 124 _ _ _)); refine w_putStarts_X6 (ν := ν) _ _ ?_ ?_ ?_ (fun _ _ => ?_))
        | ((with_reducible refine (?_ : am_Does _ 27 _ _ _)); refine w_uneven_X2_29 (ν := ν)  ?_  (fun _ => ?_))
        | ((with_reducible refine (?_ : am_AW _ _ _ _ _ 5 _ _ _)); refine ih _ _ _ _ ?_ ?_ ?_ ?_)
        | ((with_reducible refine (?_ : am_AW _ _ _ _ _ 34 _ _ _)); refine lp34' _ _ _ _ ?_ ?_ ?_ ?_ ?_ ?_)
        | ((with_reducible refine (?_ : am_AW _ _ _ _ _ 88 _ _ _)); refine lp88 _ _ _ _ ?_)
        | ((with_reducible refine (?_ : am_AW _ _ _ _ _ 111 _ _ _)); refine lp111' _ _ _ _ _ _ ?_ ?_ ?_)
        | refine And.intro (fun h => absurd h (by decide)) (fun _ => ?_)
        | refine And.intro (fun _ => ?_) (fun h => absurd (by decide) h)
        | refine And.intro (fun _ => ?_) (fun _ => ?_)
        | refine And.intro ?_ ?_
      all_goals (first | (with_reducible assumption) | decide | omega | assumption | (intros; omega) | (intros; simp only [am_c] at * <;> omega) | (simp only [am_c, am_up] at * <;> omega) | (simp [am_c, am_up] at * <;> omega))
  have lp5' : ∀ (a r : Int) (o5 : Option am_V) (μ : am_N) , sx ν μ → 0 ≤ r → r ≤ 3 → am_AW l 0 (fun _ => 0) 123 Q 5 [some (.inr (.inr 0)), some (.inl s), some (.inl mm), some (.inl a), some (.inl r), o5, none, none] [] μ := fun a r o5 μ hv0 hv1 hv2 => lp5 ((3 - r) + 1).toNat a r o5 μ hv0 hv1 hv2 (by omega)
  refine am_go (ct := fun pc => Nat.beq pc 111 || Nat.beq pc 88 || Nat.beq pc 34 || Nat.beq pc 5) am_oX6_evenest 300 ?_
  conv => whnf
  repeat' first
    | (refine (?_ : am_wp _ _ _ _ _ _ _ _ _ _ _ _); conv => whnf)
    | (refine (?_ : am_sw _ _ _ _); conv => whnf)
    | refine And.intro trivial ?_
    | exact trivial
    | (with_reducible assumption)
    | ((with_reducible refine (?_ : ∀ j : Nat, (_ : Option Nat) = some j → _)); refine am_aa3 ?_ ?_ ?_ _)
    | refine sx_c29 ?_ ?_
    | exact (sx_all (ν := ν) (by assumption)).1
    | ((with_reducible refine (?_ : _ ∧ _)); first | (with_reducible first | refine am_jn am_q1 ?_ | refine am_jn am_q2 ?_ | refine am_jn am_q3 ?_ | refine am_jn am_q4 ?_ | refine am_jn am_q6 ?_ | refine am_jn am_q9 ?_ | refine am_jn am_p1 ?_ | refine am_jy am_p0 ?_ | refine am_kn am_q1 ?_ | refine am_kn am_q2 ?_ | refine am_kn am_q3 ?_ | refine am_kn am_q4 ?_ | refine am_kn am_q6 ?_ | refine am_kn am_q9 ?_ | refine am_kn am_p1 ?_ | refine am_ky am_p0 ?_) | refine And.intro (fun h => absurd h (by decide)) (fun _ => ?_) | refine And.intro (fun _ => ?_) (fun h => absurd (by decide) h) | refine And.intro (fun _ => ?_) (fun _ => ?_) | refine And.intro ?_ ?_)
    | refine k _ _ ?_
    | refine sx_up ?_ rfl
    | ((with_reducible refine (?_ : am_Does _ 9 _ _ _)); refine w_tenthsFrom_X0_1 (ν := ν) _ _ ?_  (fun _ => ?_))
    | ((with_reducible refine (?_ : am_Does _ 124 _ _ _)); refine w_putStarts_X6 (ν := ν) _ _ ?_ ?_ ?_ (fun _ _ => ?_))
    | ((with_reducible refine (?_ : am_Does _ 27 _ _ _)); refine w_uneven_X2_29 (ν := ν)  ?_  (fun _ => ?_))
    | ((with_reducible refine (?_ : am_AW _ _ _ _ _ 5 _ _ _)); refine lp5' _ _ _ _ ?_ ?_ ?_)
    | ((with_reducible refine (?_ : am_AW _ _ _ _ _ 34 _ _ _)); refine lp34' _ _ _ _ ?_ ?_ ?_ ?_ ?_ ?_)
    | ((with_reducible refine (?_ : am_AW _ _ _ _ _ 88 _ _ _)); refine lp88 _ _ _ _ ?_)
    | ((with_reducible refine (?_ : am_AW _ _ _ _ _ 111 _ _ _)); refine lp111' _ _ _ _ _ _ ?_ ?_ ?_)
    | refine And.intro (fun h => absurd h (by decide)) (fun _ => ?_)
    | refine And.intro (fun _ => ?_) (fun h => absurd (by decide) h)
    | refine And.intro (fun _ => ?_) (fun _ => ?_)
    | refine And.intro ?_ ?_
  all_goals (first | (with_reducible assumption) | decide | omega | assumption | (intros; omega) | (intros; simp only [am_c] at * <;> omega) | (simp only [am_c, am_up] at * <;> omega) | (simp [am_c, am_up] at * <;> omega))
theorem w_winsIn_X6 {l : Launch} {μ : am_N} {Q : Option am_V → am_N → Prop} {ν : am_N} (a n : Int) (hS : sx ν μ) (hn0 : 0 ≤ n) (hn1 : n ≤ 60) (k : ∀ r μ', sx ν μ' → Q (some (.inl r)) μ') : am_Does l 125 [.inr (.inr 0), .inl a, .inl n] μ Q := by
  refine am_Does_of (Nat.le_of_ble_eq_true rfl) (Nat.le_of_ble_eq_true rfl) (Nat.le_of_ble_eq_true rfl) ?_
  have hb := sx_all hS
  have lp5 : ∀ (m : Nat) (w i : Int) (μ : am_N) , sx ν μ → 0 ≤ i → i ≤ 60 → 60 - i < (m : Int) → am_AW l 0 (fun _ => 0) 125 Q 5 [some (.inr (.inr 0)), some (.inl a), some (.inl n), some (.inl w), some (.inl i)] [] μ := by
    intro m
    induction m with
    | zero =>
      intro w i μ hv0 hv1 hv2 hm
      have hb := sx_all hv0
      exfalso
      omega
    | succ m ih =>
      intro w i μ hv0 hv1 hv2 hm
      have hb := sx_all hv0
      refine am_go (ct := fun pc => Nat.beq pc 5) am_oX6_winsIn 300 ?_
      conv => whnf
      repeat' first
        | (refine (?_ : am_wp _ _ _ _ _ _ _ _ _ _ _ _); conv => whnf)
        | (refine (?_ : am_sw _ _ _ _); conv => whnf)
        | refine And.intro trivial ?_
        | exact trivial
        | (with_reducible assumption)
        | ((with_reducible refine (?_ : _ ∧ _)); first | (with_reducible first | refine am_jn am_q1 ?_ | refine am_jn am_q2 ?_ | refine am_jn am_q3 ?_ | refine am_jn am_q4 ?_ | refine am_jn am_q6 ?_ | refine am_jn am_q9 ?_ | refine am_jn am_p1 ?_ | refine am_jy am_p0 ?_ | refine am_kn am_q1 ?_ | refine am_kn am_q2 ?_ | refine am_kn am_q3 ?_ | refine am_kn am_q4 ?_ | refine am_kn am_q6 ?_ | refine am_kn am_q9 ?_ | refine am_kn am_p1 ?_ | refine am_ky am_p0 ?_) | refine And.intro (fun h => absurd h (by decide)) (fun _ => ?_) | refine And.intro (fun _ => ?_) (fun h => absurd (by decide) h) | refine And.intro (fun _ => ?_) (fun _ => ?_) | refine And.intro ?_ ?_)
        | refine k _ _ ?_
        | refine sx_up ?_ rfl
        | ((with_reducible refine (?_ : am_Does _ 34 _ _ _)); first | ((with_reducible refine (?_ : am_Does _ 34 (Sum.inr (Sum.inr 38) :: Sum.inr (Sum.inr 8) :: _) _ _)); refine w_goOn_X2_38_8 (ν := ν)  ?_  (fun _ _ _ => ?_)) | ((with_reducible refine (?_ : am_Does _ 34 (Sum.inr (Sum.inr 29) :: Sum.inr (Sum.inr 8) :: _) _ _)); refine w_goOn_X2_29_8 (ν := ν)  ?_  (fun _ _ _ => ?_)) | refine w_goOn_X2_38_8 (ν := ν)  ?_  (fun _ _ _ => ?_) | refine w_goOn_X2_29_8 (ν := ν)  ?_  (fun _ _ _ => ?_))
        | ((with_reducible refine (?_ : am_AW _ _ _ _ _ 5 _ _ _)); refine ih _ _ _ ?_ ?_ ?_ ?_)
        | refine And.intro (fun h => absurd h (by decide)) (fun _ => ?_)
        | refine And.intro (fun _ => ?_) (fun h => absurd (by decide) h)
        | refine And.intro (fun _ => ?_) (fun _ => ?_)
        | refine And.intro ?_ ?_
      all_goals (first | (with_reducible assumption) | decide | omega | assumption | (intros; omega) | (intros; simp only [am_c] at * <;> omega) | (simp only [am_c, am_up] at * <;> omega) | (simp [am_c, am_up] at * <;> omega))
  have lp5' : ∀ (w i : Int) (μ : am_N) , sx ν μ → 0 ≤ i → i ≤ 60 → am_AW l 0 (fun _ => 0) 125 Q 5 [some (.inr (.inr 0)), some (.inl a), some (.inl n), some (.inl w), some (.inl i)] [] μ := fun w i μ hv0 hv1 hv2 => lp5 ((60 - i) + 1).toNat w i μ hv0 hv1 hv2 (by omega)
  refine am_go (ct := fun pc => Nat.beq pc 5) am_oX6_winsIn 300 ?_
  conv => whnf
  repeat' first
    | (refine (?_ : am_wp _ _ _ _ _ _ _ _ _ _ _ _); conv => whnf)
    | (refine (?_ : am_sw _ _ _ _); conv => whnf)
    | refine And.intro trivial ?_
    | exact trivial
    | (with_reducible assumption)
    | ((with_reducible refine (?_ : _ ∧ _)); first | (with_reducible first | refine am_jn am_q1 ?_ | refine am_jn am_q2 ?_ | refine am_jn am_q3 ?_ | refine am_jn am_q4 ?_ | refine am_jn am_q6 ?_ | refine am_jn am_q9 ?_ | refine am_jn am_p1 ?_ | refine am_jy am_p0 ?_ | refine am_kn am_q1 ?_ | refine am_kn am_q2 ?_ | refine am_kn am_q3 ?_ | refine am_kn am_q4 ?_ | refine am_kn am_q6 ?_ | refine am_kn am_q9 ?_ | refine am_kn am_p1 ?_ | refine am_ky am_p0 ?_) | refine And.intro (fun h => absurd h (by decide)) (fun _ => ?_) | refine And.intro (fun _ => ?_) (fun h => absurd (by decide) h) | refine And.intro (fun _ => ?_) (fun _ => ?_) | refine And.intro ?_ ?_)
    | refine k _ _ ?_
    | refine sx_up ?_ rfl
    | ((with_reducible refine (?_ : am_Does _ 34 _ _ _)); first | ((with_reducible refine (?_ : am_Does _ 34 (Sum.inr (Sum.inr 38) :: Sum.inr (Sum.inr 8) :: _) _ _)); refine w_goOn_X2_38_8 (ν := ν)  ?_  (fun _ _ _ => ?_)) | ((with_reducible refine (?_ : am_Does _ 34 (Sum.inr (Sum.inr 29) :: Sum.inr (Sum.inr 8) :: _) _ _)); refine w_goOn_X2_29_8 (ν := ν)  ?_  (fun _ _ _ => ?_)) | refine w_goOn_X2_38_8 (ν := ν)  ?_  (fun _ _ _ => ?_) | refine w_goOn_X2_29_8 (ν := ν)  ?_  (fun _ _ _ => ?_))
    | ((with_reducible refine (?_ : am_AW _ _ _ _ _ 5 _ _ _)); refine lp5' _ _ _ ?_ ?_ ?_)
    | refine And.intro (fun h => absurd h (by decide)) (fun _ => ?_)
    | refine And.intro (fun _ => ?_) (fun h => absurd (by decide) h)
    | refine And.intro (fun _ => ?_) (fun _ => ?_)
    | refine And.intro ?_ ?_
  all_goals (first | (with_reducible assumption) | decide | omega | assumption | (intros; omega) | (intros; simp only [am_c] at * <;> omega) | (simp only [am_c, am_up] at * <;> omega) | (simp [am_c, am_up] at * <;> omega))
theorem w_winsAs_X6 {l : Launch} {μ : am_N} {Q : Option am_V → am_N → Prop} {ν : am_N} (q a n : Int) (hS : sx ν μ) (ha0 : 0 ≤ am_c a) (ha1 : am_c a < 4) (hn0 : 0 ≤ n) (hn1 : n ≤ 60) (k : ∀ r μ', sx ν μ' → Q (some (.inl r)) μ') : am_Does l 126 [.inr (.inr 0), .inl q, .inl a, .inl n] μ Q := by
  refine am_Does_of (Nat.le_of_ble_eq_true rfl) (Nat.le_of_ble_eq_true rfl) (Nat.le_of_ble_eq_true rfl) ?_
  have hb := sx_all hS
  refine am_go (ct := fun _ => false) am_oX6_winsAs 300 ?_
  conv => whnf
  repeat' first
    | (refine (?_ : am_wp _ _ _ _ _ _ _ _ _ _ _ _); conv => whnf)
    | (refine (?_ : am_sw _ _ _ _); conv => whnf)
    | refine And.intro trivial ?_
    | exact trivial
    | (with_reducible assumption)
    | ((with_reducible refine (?_ : _ ∧ _)); first | (with_reducible first | refine am_jn am_q1 ?_ | refine am_jn am_q2 ?_ | refine am_jn am_q3 ?_ | refine am_jn am_q4 ?_ | refine am_jn am_q6 ?_ | refine am_jn am_q9 ?_ | refine am_jn am_p1 ?_ | refine am_jy am_p0 ?_ | refine am_kn am_q1 ?_ | refine am_kn am_q2 ?_ | refine am_kn am_q3 ?_ | refine am_kn am_q4 ?_ | refine am_kn am_q6 ?_ | refine am_kn am_q9 ?_ | refine am_kn am_p1 ?_ | refine am_ky am_p0 ?_) | refine And.intro (fun h => absurd h (by decide)) (fun _ => ?_) | refine And.intro (fun _ => ?_) (fun h => absurd (by decide) h) | refine And.intro (fun _ => ?_) (fun _ => ?_) | refine And.intro ?_ ?_)
    | refine k _ _ ?_
    | refine sx_up ?_ rfl
    | ((with_reducible refine (?_ : am_Does _ 2 _ _ _)); first | ((with_reducible refine (?_ : am_Does _ 2 (Sum.inr (Sum.inr 8) :: Sum.inr (Sum.inr 1) :: _) _ _)); refine w_take_X0_8_1 (ν := ν)  ?_  (fun _ _ => ?_)) | ((with_reducible refine (?_ : am_Does _ 2 (Sum.inr (Sum.inr 15) :: Sum.inr (Sum.inr 8) :: _) _ _)); refine w_take_X0_15_8 (ν := ν)  ?_  (fun _ _ => ?_)) | refine w_take_X0_8_1 (ν := ν)  ?_  (fun _ _ => ?_) | refine w_take_X0_15_8 (ν := ν)  ?_  (fun _ _ => ?_))
    | ((with_reducible refine (?_ : am_Does _ 125 _ _ _)); refine w_winsIn_X6 (ν := ν) _ _ ?_ ?_ ?_ (fun _ _ _ => ?_))
    | refine And.intro (fun h => absurd h (by decide)) (fun _ => ?_)
    | refine And.intro (fun _ => ?_) (fun h => absurd (by decide) h)
    | refine And.intro (fun _ => ?_) (fun _ => ?_)
    | refine And.intro ?_ ?_
  all_goals (first | (with_reducible assumption) | decide | omega | assumption | (intros; omega) | (intros; simp only [am_c] at * <;> omega) | (simp only [am_c, am_up] at * <;> omega) | (simp [am_c, am_up] at * <;> omega))
theorem w_gaps_X6 {l : Launch} {μ : am_N} {Q : Option am_V → am_N → Prop} {ν : am_N} (n h : Int) (hS : sx ν μ) (hn0 : 0 ≤ n) (hn1 : n ≤ 60) (k : ∀ r μ', sx ν μ' → Q (some (.inl r)) μ') : am_Does l 127 [.inr (.inr 0), .inl n, .inl h] μ Q := by
  refine am_Does_of (Nat.le_of_ble_eq_true rfl) (Nat.le_of_ble_eq_true rfl) (Nat.le_of_ble_eq_true rfl) ?_
  have hb := sx_all hS
  have lp5 : ∀ (m : Nat) (s i : Int) (μ : am_N) , sx ν μ → 0 ≤ i → i ≤ 60 → 60 - i < (m : Int) → am_AW l 0 (fun _ => 0) 127 Q 5 [some (.inr (.inr 0)), some (.inl n), some (.inl h), some (.inl s), some (.inl i)] [] μ := by
    intro m
    induction m with
    | zero =>
      intro s i μ hv0 hv1 hv2 hm
      have hb := sx_all hv0
      exfalso
      omega
    | succ m ih =>
      intro s i μ hv0 hv1 hv2 hm
      have hb := sx_all hv0
      refine am_go (ct := fun pc => Nat.beq pc 5) am_oX6_gaps 300 ?_
      conv => whnf
      repeat' first
        | (refine (?_ : am_wp _ _ _ _ _ _ _ _ _ _ _ _); conv => whnf)
        | (refine (?_ : am_sw _ _ _ _); conv => whnf)
        | refine And.intro trivial ?_
        | exact trivial
        | (with_reducible assumption)
        | ((with_reducible refine (?_ : _ ∧ _)); first | (with_reducible first | refine am_jn am_q1 ?_ | refine am_jn am_q2 ?_ | refine am_jn am_q3 ?_ | refine am_jn am_q4 ?_ | refine am_jn am_q6 ?_ | refine am_jn am_q9 ?_ | refine am_jn am_p1 ?_ | refine am_jy am_p0 ?_ | refine am_kn am_q1 ?_ | refine am_kn am_q2 ?_ | refine am_kn am_q3 ?_ | refine am_kn am_q4 ?_ | refine am_kn am_q6 ?_ | refine am_kn am_q9 ?_ | refine am_kn am_p1 ?_ | refine am_ky am_p0 ?_) | refine And.intro (fun h => absurd h (by decide)) (fun _ => ?_) | refine And.intro (fun _ => ?_) (fun h => absurd (by decide) h) | refine And.intro (fun _ => ?_) (fun _ => ?_) | refine And.intro ?_ ?_)
        | refine k _ _ ?_
        | refine sx_up ?_ rfl
        | ((with_reducible refine (?_ : am_Does _ 34 _ _ _)); first | ((with_reducible refine (?_ : am_Does _ 34 (Sum.inr (Sum.inr 38) :: Sum.inr (Sum.inr 8) :: _) _ _)); refine w_goOn_X2_38_8 (ν := ν)  ?_  (fun _ _ _ => ?_)) | ((with_reducible refine (?_ : am_Does _ 34 (Sum.inr (Sum.inr 29) :: Sum.inr (Sum.inr 8) :: _) _ _)); refine w_goOn_X2_29_8 (ν := ν)  ?_  (fun _ _ _ => ?_)) | refine w_goOn_X2_38_8 (ν := ν)  ?_  (fun _ _ _ => ?_) | refine w_goOn_X2_29_8 (ν := ν)  ?_  (fun _ _ _ => ?_))
        | ((with_reducible refine (?_ : am_Does _ 39 _ _ _)); refine w_gap_X2_29 (ν := ν)  ?_  (fun _ => ?_))
        | ((with_reducible refine (?_ : am_Does _ 19 _ _ _)); refine w_mend_X1 (ν := ν)  ?_  (fun _ _ => ?_))
        | ((with_reducible refine (?_ : am_AW _ _ _ _ _ 5 _ _ _)); refine ih _ _ _ ?_ ?_ ?_ ?_)
        | refine And.intro (fun h => absurd h (by decide)) (fun _ => ?_)
        | refine And.intro (fun _ => ?_) (fun h => absurd (by decide) h)
        | refine And.intro (fun _ => ?_) (fun _ => ?_)
        | refine And.intro ?_ ?_
      all_goals (first | (with_reducible assumption) | decide | omega | assumption | (intros; omega) | (intros; simp only [am_c] at * <;> omega) | (simp only [am_c, am_up] at * <;> omega) | (simp [am_c, am_up] at * <;> omega))
  have lp5' : ∀ (s i : Int) (μ : am_N) , sx ν μ → 0 ≤ i → i ≤ 60 → am_AW l 0 (fun _ => 0) 127 Q 5 [some (.inr (.inr 0)), some (.inl n), some (.inl h), some (.inl s), some (.inl i)] [] μ := fun s i μ hv0 hv1 hv2 => lp5 ((60 - i) + 1).toNat s i μ hv0 hv1 hv2 (by omega)
  refine am_go (ct := fun pc => Nat.beq pc 5) am_oX6_gaps 300 ?_
  conv => whnf
  repeat' first
    | (refine (?_ : am_wp _ _ _ _ _ _ _ _ _ _ _ _); conv => whnf)
    | (refine (?_ : am_sw _ _ _ _); conv => whnf)
    | refine And.intro trivial ?_
    | exact trivial
    | (with_reducible assumption)
    | ((with_reducible refine (?_ : _ ∧ _)); first | (with_reducible first | refine am_jn am_q1 ?_ | refine am_jn am_q2 ?_ | refine am_jn am_q3 ?_ | refine am_jn am_q4 ?_ | refine am_jn am_q6 ?_ | refine am_jn am_q9 ?_ | refine am_jn am_p1 ?_ | refine am_jy am_p0 ?_ | refine am_kn am_q1 ?_ | refine am_kn am_q2 ?_ | refine am_kn am_q3 ?_ | refine am_kn am_q4 ?_ | refine am_kn am_q6 ?_ | refine am_kn am_q9 ?_ | refine am_kn am_p1 ?_ | refine am_ky am_p0 ?_) | refine And.intro (fun h => absurd h (by decide)) (fun _ => ?_) | refine And.intro (fun _ => ?_) (fun h => absurd (by decide) h) | refine And.intro (fun _ => ?_) (fun _ => ?_) | refine And.intro ?_ ?_)
    | refine k _ _ ?_
    | refine sx_up ?_ rfl
    | ((with_reducible refine (?_ : am_Does _ 34 _ _ _)); first | ((with_reducible refine (?_ : am_Does _ 34 (Sum.inr (Sum.inr 38) :: Sum.inr (Sum.inr 8) :: _) _ _)); refine w_goOn_X2_38_8 (ν := ν)  ?_  (fun _ _ _ => ?_)) | ((with_reducible refine (?_ : am_Does _ 34 (Sum.inr (Sum.inr 29) :: Sum.inr (Sum.inr 8) :: _) _ _)); refine w_goOn_X2_29_8 (ν := ν)  ?_  (fun _ _ _ => ?_)) | refine w_goOn_X2_38_8 (ν := ν)  ?_  (fun _ _ _ => ?_) | refine w_goOn_X2_29_8 (ν := ν)  ?_  (fun _ _ _ => ?_))
    | ((with_reducible refine (?_ : am_Does _ 39 _ _ _)); refine w_gap_X2_29 (ν := ν)  ?_  (fun _ => ?_))
    | ((with_reducible refine (?_ : am_Does _ 19 _ _ _)); refine w_mend_X1 (ν := ν)  ?_  (fun _ _ => ?_))
    | ((with_reducible refine (?_ : am_AW _ _ _ _ _ 5 _ _ _)); refine lp5' _ _ _ ?_ ?_ ?_)
    | refine And.intro (fun h => absurd h (by decide)) (fun _ => ?_)
    | refine And.intro (fun _ => ?_) (fun h => absurd (by decide) h)
    | refine And.intro (fun _ => ?_) (fun _ => ?_)
    | refine And.intro ?_ ?_
  all_goals (first | (with_reducible assumption) | decide | omega | assumption | (intros; omega) | (intros; simp only [am_c] at * <;> omega) | (simp only [am_c, am_up] at * <;> omega) | (simp [am_c, am_up] at * <;> omega))
theorem w_gained_X6 {l : Launch} {μ : am_N} {Q : Option am_V → am_N → Prop} {ν : am_N} (a s : Int) (hS : sx ν μ)  (k : ∀ r, Q (some (.inl r)) μ) : am_Does l 128 [.inr (.inr 0), .inl a, .inl s] μ Q := by
  refine am_Does_of (Nat.le_of_ble_eq_true rfl) (Nat.le_of_ble_eq_true rfl) (Nat.le_of_ble_eq_true rfl) ?_
  have hb := sx_all hS
  refine am_go (ct := fun _ => false) am_oX6_gained 300 ?_
  conv => whnf
  repeat' first
    | (refine (?_ : am_wp _ _ _ _ _ _ _ _ _ _ _ _); conv => whnf)
    | (refine (?_ : am_sw _ _ _ _); conv => whnf)
    | refine And.intro trivial ?_
    | exact trivial
    | (with_reducible assumption)
    | ((with_reducible refine (?_ : _ ∧ _)); first | (with_reducible first | refine am_jn am_q1 ?_ | refine am_jn am_q2 ?_ | refine am_jn am_q3 ?_ | refine am_jn am_q4 ?_ | refine am_jn am_q6 ?_ | refine am_jn am_q9 ?_ | refine am_jn am_p1 ?_ | refine am_jy am_p0 ?_ | refine am_kn am_q1 ?_ | refine am_kn am_q2 ?_ | refine am_kn am_q3 ?_ | refine am_kn am_q4 ?_ | refine am_kn am_q6 ?_ | refine am_kn am_q9 ?_ | refine am_kn am_p1 ?_ | refine am_ky am_p0 ?_) | refine And.intro (fun h => absurd h (by decide)) (fun _ => ?_) | refine And.intro (fun _ => ?_) (fun h => absurd (by decide) h) | refine And.intro (fun _ => ?_) (fun _ => ?_) | refine And.intro ?_ ?_)
    | exact k _
    | refine sx_up ?_ rfl
    | ((with_reducible refine (?_ : am_Does _ 9 _ _ _)); refine w_tenthsFrom_X0_1 (ν := ν) _ _ ?_  (fun _ => ?_))
    | refine And.intro (fun h => absurd h (by decide)) (fun _ => ?_)
    | refine And.intro (fun _ => ?_) (fun h => absurd (by decide) h)
    | refine And.intro (fun _ => ?_) (fun _ => ?_)
    | refine And.intro ?_ ?_
  all_goals (first | (with_reducible assumption) | decide | omega | assumption | (intros; omega) | (intros; simp only [am_c] at * <;> omega) | (simp only [am_c, am_up] at * <;> omega) | (simp [am_c, am_up] at * <;> omega))
theorem w_apart_X6 {l : Launch} {μ : am_N} {Q : Option am_V → am_N → Prop} {ν : am_N} (b : Int) (hS : sx ν μ)  (k : ∀ r, Q (some (.inl r)) μ) : am_Does l 129 [.inr (.inr 0), .inl b] μ Q := by
  refine am_Does_of (Nat.le_of_ble_eq_true rfl) (Nat.le_of_ble_eq_true rfl) (Nat.le_of_ble_eq_true rfl) ?_
  have hb := sx_all hS
  have lp4 : ∀ (m : Nat) (s i : Int) (o4 : Option am_V) , 0 ≤ i → i ≤ 4 → 4 - i < (m : Int) → am_AW l 0 (fun _ => 0) 129 Q 4 [some (.inr (.inr 0)), some (.inl b), some (.inl s), some (.inl i), o4] [] μ := by
    intro m
    induction m with
    | zero =>
      intro s i o4  hv0 hv1 hm
      exfalso
      omega
    | succ m ih =>
      intro s i o4  hv0 hv1 hm
      refine am_go (ct := fun pc => Nat.beq pc 4) am_oX6_apart 300 ?_
      conv => whnf
      repeat' first
        | (refine (?_ : am_wp _ _ _ _ _ _ _ _ _ _ _ _); conv => whnf)
        | (refine (?_ : am_sw _ _ _ _); conv => whnf)
        | refine And.intro trivial ?_
        | exact trivial
        | (with_reducible assumption)
        | ((with_reducible refine (?_ : _ ∧ _)); first | (with_reducible first | refine am_jn am_q1 ?_ | refine am_jn am_q2 ?_ | refine am_jn am_q3 ?_ | refine am_jn am_q4 ?_ | refine am_jn am_q6 ?_ | refine am_jn am_q9 ?_ | refine am_jn am_p1 ?_ | refine am_jy am_p0 ?_ | refine am_kn am_q1 ?_ | refine am_kn am_q2 ?_ | refine am_kn am_q3 ?_ | refine am_kn am_q4 ?_ | refine am_kn am_q6 ?_ | refine am_kn am_q9 ?_ | refine am_kn am_p1 ?_ | refine am_ky am_p0 ?_) | refine And.intro (fun h => absurd h (by decide)) (fun _ => ?_) | refine And.intro (fun _ => ?_) (fun h => absurd (by decide) h) | refine And.intro (fun _ => ?_) (fun _ => ?_) | refine And.intro ?_ ?_)
        | exact k _
        | refine sx_up ?_ rfl
        | ((with_reducible refine (?_ : am_Does _ 10 _ _ _)); first | ((with_reducible refine (?_ : am_Does _ 10 (Sum.inr (Sum.inr 1) :: _) _ _)); refine w_tenthsOver_X0_1 (ν := ν) _ _ _ ?_  (fun _ => ?_)) | ((with_reducible refine (?_ : am_Does _ 10 (Sum.inr (Sum.inr 8) :: _) _ _)); refine w_tenthsOver_X0_8 (ν := ν) _ _ _ ?_  (fun _ => ?_)) | ((with_reducible refine (?_ : am_Does _ 10 (Sum.inr (Sum.inr 15) :: _) _ _)); refine w_tenthsOver_X0_15 (ν := ν) _ _ _ ?_  (fun _ => ?_)) | refine w_tenthsOver_X0_1 (ν := ν) _ _ _ ?_  (fun _ => ?_) | refine w_tenthsOver_X0_8 (ν := ν) _ _ _ ?_  (fun _ => ?_) | refine w_tenthsOver_X0_15 (ν := ν) _ _ _ ?_  (fun _ => ?_))
        | ((with_reducible refine (?_ : am_AW _ _ _ _ _ 4 _ _ _)); refine ih _ _ _  ?_ ?_ ?_)
        | refine And.intro (fun h => absurd h (by decide)) (fun _ => ?_)
        | refine And.intro (fun _ => ?_) (fun h => absurd (by decide) h)
        | refine And.intro (fun _ => ?_) (fun _ => ?_)
        | refine And.intro ?_ ?_
      all_goals (first | (with_reducible assumption) | decide | omega | assumption | (intros; omega) | (intros; simp only [am_c] at * <;> omega) | (simp only [am_c, am_up] at * <;> omega) | (simp [am_c, am_up] at * <;> omega))
  have lp4' : ∀ (s i : Int) (o4 : Option am_V) , 0 ≤ i → i ≤ 4 → am_AW l 0 (fun _ => 0) 129 Q 4 [some (.inr (.inr 0)), some (.inl b), some (.inl s), some (.inl i), o4] [] μ := fun s i o4  hv0 hv1 => lp4 ((4 - i) + 1).toNat s i o4  hv0 hv1 (by omega)
  refine am_go (ct := fun pc => Nat.beq pc 4) am_oX6_apart 300 ?_
  conv => whnf
  repeat' first
    | (refine (?_ : am_wp _ _ _ _ _ _ _ _ _ _ _ _); conv => whnf)
    | (refine (?_ : am_sw _ _ _ _); conv => whnf)
    | refine And.intro trivial ?_
    | exact trivial
    | (with_reducible assumption)
    | ((with_reducible refine (?_ : _ ∧ _)); first | (with_reducible first | refine am_jn am_q1 ?_ | refine am_jn am_q2 ?_ | refine am_jn am_q3 ?_ | refine am_jn am_q4 ?_ | refine am_jn am_q6 ?_ | refine am_jn am_q9 ?_ | refine am_jn am_p1 ?_ | refine am_jy am_p0 ?_ | refine am_kn am_q1 ?_ | refine am_kn am_q2 ?_ | refine am_kn am_q3 ?_ | refine am_kn am_q4 ?_ | refine am_kn am_q6 ?_ | refine am_kn am_q9 ?_ | refine am_kn am_p1 ?_ | refine am_ky am_p0 ?_) | refine And.intro (fun h => absurd h (by decide)) (fun _ => ?_) | refine And.intro (fun _ => ?_) (fun h => absurd (by decide) h) | refine And.intro (fun _ => ?_) (fun _ => ?_) | refine And.intro ?_ ?_)
    | exact k _
    | refine sx_up ?_ rfl
    | ((with_reducible refine (?_ : am_Does _ 10 _ _ _)); first | ((with_reducible refine (?_ : am_Does _ 10 (Sum.inr (Sum.inr 1) :: _) _ _)); refine w_tenthsOver_X0_1 (ν := ν) _ _ _ ?_  (fun _ => ?_)) | ((with_reducible refine (?_ : am_Does _ 10 (Sum.inr (Sum.inr 8) :: _) _ _)); refine w_tenthsOver_X0_8 (ν := ν) _ _ _ ?_  (fun _ => ?_)) | ((with_reducible refine (?_ : am_Does _ 10 (Sum.inr (Sum.inr 15) :: _) _ _)); refine w_tenthsOver_X0_15 (ν := ν) _ _ _ ?_  (fun _ => ?_)) | refine w_tenthsOver_X0_1 (ν := ν) _ _ _ ?_  (fun _ => ?_) | refine w_tenthsOver_X0_8 (ν := ν) _ _ _ ?_  (fun _ => ?_) | refine w_tenthsOver_X0_15 (ν := ν) _ _ _ ?_  (fun _ => ?_))
    | ((with_reducible refine (?_ : am_AW _ _ _ _ _ 4 _ _ _)); refine lp4' _ _ _  ?_ ?_)
    | refine And.intro (fun h => absurd h (by decide)) (fun _ => ?_)
    | refine And.intro (fun _ => ?_) (fun h => absurd (by decide) h)
    | refine And.intro (fun _ => ?_) (fun _ => ?_)
    | refine And.intro ?_ ?_
  all_goals (first | (with_reducible assumption) | decide | omega | assumption | (intros; omega) | (intros; simp only [am_c] at * <;> omega) | (simp only [am_c, am_up] at * <;> omega) | (simp [am_c, am_up] at * <;> omega))
theorem w_firstNotSo_X6 {l : Launch} {μ : am_N} {Q : Option am_V → am_N → Prop} {ν : am_N}  (hS : sx ν μ)  (k : ∀ r μ', sx ν μ' → Q (some (.inl r)) μ') : am_Does l 130 [.inr (.inr 0)] μ Q := by
  refine am_Does_of (Nat.le_of_ble_eq_true rfl) (Nat.le_of_ble_eq_true rfl) (Nat.le_of_ble_eq_true rfl) ?_
  have hb := sx_all hS
  have lp2 : ∀ (m : Nat) (i : Int) (μ : am_N) , sx ν μ → 0 ≤ i → i ≤ 12 → 12 - i < (m : Int) → am_AW l 0 (fun _ => 0) 130 Q 2 [some (.inr (.inr 0)), some (.inl i)] [] μ := by
    intro m
    induction m with
    | zero =>
      intro i μ hv0 hv1 hv2 hm
      have hb := sx_all hv0
      exfalso
      omega
    | succ m ih =>
      intro i μ hv0 hv1 hv2 hm
      have hb := sx_all hv0
      refine am_go (ct := fun pc => Nat.beq pc 2) am_oX6_firstNotSo 300 ?_
      conv => whnf
      repeat' first
        | (refine (?_ : am_wp _ _ _ _ _ _ _ _ _ _ _ _); conv => whnf)
        | (refine (?_ : am_sw _ _ _ _); conv => whnf)
        | refine And.intro trivial ?_
        | exact trivial
        | (with_reducible assumption)
        | ((with_reducible refine (?_ : _ ∧ _)); first | (with_reducible first | refine am_jn am_q1 ?_ | refine am_jn am_q2 ?_ | refine am_jn am_q3 ?_ | refine am_jn am_q4 ?_ | refine am_jn am_q6 ?_ | refine am_jn am_q9 ?_ | refine am_jn am_p1 ?_ | refine am_jy am_p0 ?_ | refine am_kn am_q1 ?_ | refine am_kn am_q2 ?_ | refine am_kn am_q3 ?_ | refine am_kn am_q4 ?_ | refine am_kn am_q6 ?_ | refine am_kn am_q9 ?_ | refine am_kn am_p1 ?_ | refine am_ky am_p0 ?_) | refine And.intro (fun h => absurd h (by decide)) (fun _ => ?_) | refine And.intro (fun _ => ?_) (fun h => absurd (by decide) h) | refine And.intro (fun _ => ?_) (fun _ => ?_) | refine And.intro ?_ ?_)
        | refine k _ _ ?_
        | refine sx_up ?_ rfl
        | ((with_reducible refine (?_ : am_Does _ 34 _ _ _)); first | ((with_reducible refine (?_ : am_Does _ 34 (Sum.inr (Sum.inr 38) :: Sum.inr (Sum.inr 8) :: _) _ _)); refine w_goOn_X2_38_8 (ν := ν)  ?_  (fun _ _ _ => ?_)) | ((with_reducible refine (?_ : am_Does _ 34 (Sum.inr (Sum.inr 29) :: Sum.inr (Sum.inr 8) :: _) _ _)); refine w_goOn_X2_29_8 (ν := ν)  ?_  (fun _ _ _ => ?_)) | refine w_goOn_X2_38_8 (ν := ν)  ?_  (fun _ _ _ => ?_) | refine w_goOn_X2_29_8 (ν := ν)  ?_  (fun _ _ _ => ?_))
        | ((with_reducible refine (?_ : am_Does _ 43 _ _ _)); first | ((with_reducible refine (?_ : am_Does _ 43 (Sum.inr (Sum.inr 44) :: _) _ _)); refine w_at_X3_44 (ν := ν) _ ?_  (fun _ => ?_)) | ((with_reducible refine (?_ : am_Does _ 43 (Sum.inr (Sum.inr 46) :: _) _ _)); refine w_at_X3_46 (ν := ν) _ ?_  (fun _ => ?_)) | ((with_reducible refine (?_ : am_Does _ 43 (Sum.inr (Sum.inr 48) :: _) _ _)); refine w_at_X3_48 (ν := ν) _ ?_  (fun _ => ?_)) | ((with_reducible refine (?_ : am_Does _ 43 (Sum.inr (Sum.inr 50) :: _) _ _)); refine w_at_X3_50 (ν := ν) _ ?_  (fun _ => ?_)) | ((with_reducible refine (?_ : am_Does _ 43 (Sum.inr (Sum.inr 53) :: _) _ _)); refine w_at_X3_53 (ν := ν) _ ?_  (fun _ => ?_)) | ((with_reducible refine (?_ : am_Does _ 43 (Sum.inr (Sum.inr 55) :: _) _ _)); refine w_at_X3_55 (ν := ν) _ ?_  (fun _ => ?_)) | ((with_reducible refine (?_ : am_Does _ 43 (Sum.inr (Sum.inr 58) :: _) _ _)); refine w_at_X3_58 (ν := ν) _ ?_  (fun _ => ?_)) | ((with_reducible refine (?_ : am_Does _ 43 (Sum.inr (Sum.inr 60) :: _) _ _)); refine w_at_X3_60 (ν := ν) _ ?_  (fun _ => ?_)) | ((with_reducible refine (?_ : am_Does _ 43 (Sum.inr (Sum.inr 36) :: _) _ _)); refine w_at36 (ν := ν) _ ?_ (fun _ _ _ => ?_) ?_) | refine w_at_X3_44 (ν := ν) _ ?_  (fun _ => ?_) | refine w_at_X3_46 (ν := ν) _ ?_  (fun _ => ?_) | refine w_at_X3_48 (ν := ν) _ ?_  (fun _ => ?_) | refine w_at_X3_50 (ν := ν) _ ?_  (fun _ => ?_) | refine w_at_X3_53 (ν := ν) _ ?_  (fun _ => ?_) | refine w_at_X3_55 (ν := ν) _ ?_  (fun _ => ?_) | refine w_at_X3_58 (ν := ν) _ ?_  (fun _ => ?_) | refine w_at_X3_60 (ν := ν) _ ?_  (fun _ => ?_) | refine w_at36 (ν := ν) _ ?_ (fun _ _ _ => ?_) ?_)
        | ((with_reducible refine (?_ : am_AW _ _ _ _ _ 2 _ _ _)); refine ih _ _ ?_ ?_ ?_ ?_)
        | refine And.intro (fun h => absurd h (by decide)) (fun _ => ?_)
        | refine And.intro (fun _ => ?_) (fun h => absurd (by decide) h)
        | refine And.intro (fun _ => ?_) (fun _ => ?_)
        | refine And.intro ?_ ?_
      all_goals (first | (with_reducible assumption) | decide | omega | assumption | (intros; omega) | (intros; simp only [am_c] at * <;> omega) | (simp only [am_c, am_up] at * <;> omega) | (simp [am_c, am_up] at * <;> omega))
  have lp2' : ∀ (i : Int) (μ : am_N) , sx ν μ → 0 ≤ i → i ≤ 12 → am_AW l 0 (fun _ => 0) 130 Q 2 [some (.inr (.inr 0)), some (.inl i)] [] μ := fun i μ hv0 hv1 hv2 => lp2 ((12 - i) + 1).toNat i μ hv0 hv1 hv2 (by omega)
  refine am_go (ct := fun pc => Nat.beq pc 2) am_oX6_firstNotSo 300 ?_
  conv => whnf
  repeat' first
    | (refine (?_ : am_wp _ _ _ _ _ _ _ _ _ _ _ _); conv => whnf)
    | (refine (?_ : am_sw _ _ _ _); conv => whnf)
    | refine And.intro trivial ?_
    | exact trivial
    | (with_reducible assumption)
    | ((with_reducible refine (?_ : _ ∧ _)); first | (with_reducible first | refine am_jn am_q1 ?_ | refine am_jn am_q2 ?_ | refine am_jn am_q3 ?_ | refine am_jn am_q4 ?_ | refine am_jn am_q6 ?_ | refine am_jn am_q9 ?_ | refine am_jn am_p1 ?_ | refine am_jy am_p0 ?_ | refine am_kn am_q1 ?_ | refine am_kn am_q2 ?_ | refine am_kn am_q3 ?_ | refine am_kn am_q4 ?_ | refine am_kn am_q6 ?_ | refine am_kn am_q9 ?_ | refine am_kn am_p1 ?_ | refine am_ky am_p0 ?_) | refine And.intro (fun h => absurd h (by decide)) (fun _ => ?_) | refine And.intro (fun _ => ?_) (fun h => absurd (by decide) h) | refine And.intro (fun _ => ?_) (fun _ => ?_) | refine And.intro ?_ ?_)
    | refine k _ _ ?_
    | refine sx_up ?_ rfl
    | ((with_reducible refine (?_ : am_Does _ 34 _ _ _)); first | ((with_reducible refine (?_ : am_Does _ 34 (Sum.inr (Sum.inr 38) :: Sum.inr (Sum.inr 8) :: _) _ _)); refine w_goOn_X2_38_8 (ν := ν)  ?_  (fun _ _ _ => ?_)) | ((with_reducible refine (?_ : am_Does _ 34 (Sum.inr (Sum.inr 29) :: Sum.inr (Sum.inr 8) :: _) _ _)); refine w_goOn_X2_29_8 (ν := ν)  ?_  (fun _ _ _ => ?_)) | refine w_goOn_X2_38_8 (ν := ν)  ?_  (fun _ _ _ => ?_) | refine w_goOn_X2_29_8 (ν := ν)  ?_  (fun _ _ _ => ?_))
    | ((with_reducible refine (?_ : am_Does _ 43 _ _ _)); first | ((with_reducible refine (?_ : am_Does _ 43 (Sum.inr (Sum.inr 44) :: _) _ _)); refine w_at_X3_44 (ν := ν) _ ?_  (fun _ => ?_)) | ((with_reducible refine (?_ : am_Does _ 43 (Sum.inr (Sum.inr 46) :: _) _ _)); refine w_at_X3_46 (ν := ν) _ ?_  (fun _ => ?_)) | ((with_reducible refine (?_ : am_Does _ 43 (Sum.inr (Sum.inr 48) :: _) _ _)); refine w_at_X3_48 (ν := ν) _ ?_  (fun _ => ?_)) | ((with_reducible refine (?_ : am_Does _ 43 (Sum.inr (Sum.inr 50) :: _) _ _)); refine w_at_X3_50 (ν := ν) _ ?_  (fun _ => ?_)) | ((with_reducible refine (?_ : am_Does _ 43 (Sum.inr (Sum.inr 53) :: _) _ _)); refine w_at_X3_53 (ν := ν) _ ?_  (fun _ => ?_)) | ((with_reducible refine (?_ : am_Does _ 43 (Sum.inr (Sum.inr 55) :: _) _ _)); refine w_at_X3_55 (ν := ν) _ ?_  (fun _ => ?_)) | ((with_reducible refine (?_ : am_Does _ 43 (Sum.inr (Sum.inr 58) :: _) _ _)); refine w_at_X3_58 (ν := ν) _ ?_  (fun _ => ?_)) | ((with_reducible refine (?_ : am_Does _ 43 (Sum.inr (Sum.inr 60) :: _) _ _)); refine w_at_X3_60 (ν := ν) _ ?_  (fun _ => ?_)) | ((with_reducible refine (?_ : am_Does _ 43 (Sum.inr (Sum.inr 36) :: _) _ _)); refine w_at36 (ν := ν) _ ?_ (fun _ _ _ => ?_) ?_) | refine w_at_X3_44 (ν := ν) _ ?_  (fun _ => ?_) | refine w_at_X3_46 (ν := ν) _ ?_  (fun _ => ?_) | refine w_at_X3_48 (ν := ν) _ ?_  (fun _ => ?_) | refine w_at_X3_50 (ν := ν) _ ?_  (fun _ => ?_) | refine w_at_X3_53 (ν := ν) _ ?_  (fun _ => ?_) | refine w_at_X3_55 (ν := ν) _ ?_  (fun _ => ?_) | refine w_at_X3_58 (ν := ν) _ ?_  (fun _ => ?_) | refine w_at_X3_60 (ν := ν) _ ?_  (fun _ => ?_) | refine w_at36 (ν := ν) _ ?_ (fun _ _ _ => ?_) ?_)
    | ((with_reducible refine (?_ : am_AW _ _ _ _ _ 2 _ _ _)); refine lp2' _ _ ?_ ?_ ?_)
    | refine And.intro (fun h => absurd h (by decide)) (fun _ => ?_)
    | refine And.intro (fun _ => ?_) (fun h => absurd (by decide) h)
    | refine And.intro (fun _ => ?_) (fun _ => ?_)
    | refine And.intro ?_ ?_
  all_goals (first | (with_reducible assumption) | decide | omega | assumption | (intros; omega) | (intros; simp only [am_c] at * <;> omega) | (simp only [am_c, am_up] at * <;> omega) | (simp [am_c, am_up] at * <;> omega))
theorem w_carrying_X6 {l : Launch} {μ : am_N} {Q : Option am_V → am_N → Prop} {ν : am_N} (a b t : Int) (hS : sx ν μ) (ha0 : 0 ≤ am_c a) (ha1 : am_c a < 4) (hb0 : 0 ≤ am_c b) (hb1 : am_c b < 4) (k : ∀ r μ', sx ν μ' → Q (some (.inl r)) μ') : am_Does l 131 [.inr (.inr 0), .inl a, .inl b, .inl t] μ Q := by
  refine am_Does_of (Nat.le_of_ble_eq_true rfl) (Nat.le_of_ble_eq_true rfl) (Nat.le_of_ble_eq_true rfl) ?_
  have hb := sx_all hS
  have lp28 : ∀ (m : Nat) (p x y i : Int) (μ : am_N) , sx ν μ → 0 ≤ i → i ≤ 6 → 6 - i < (m : Int) → am_AW l 0 (fun _ => 0) 131 Q 28 [some (.inr (.inr 0)), some (.inl a), some (.inl b), some (.inl t), some (.inl p), some (.inl x), some (.inl y), some (.inl i)] [] μ := by
    intro m
    induction m with
    | zero =>
      intro p x y i μ hv0 hv1 hv2 hm
      have hb := sx_all hv0
      exfalso
      omega
    | succ m ih =>
      intro p x y i μ hv0 hv1 hv2 hm
      have hb := sx_all hv0
      refine am_go (ct := fun pc => Nat.beq pc 28) am_oX6_carrying 300 ?_
      conv => whnf
      repeat' first
        | (refine (?_ : am_wp _ _ _ _ _ _ _ _ _ _ _ _); conv => whnf)
        | (refine (?_ : am_sw _ _ _ _); conv => whnf)
        | refine And.intro trivial ?_
        | exact trivial
        | (with_reducible assumption)
        | ((with_reducible refine (?_ : _ ∧ _)); first | (with_reducible first | refine am_jn am_q1 ?_ | refine am_jn am_q2 ?_ | refine am_jn am_q3 ?_ | refine am_jn am_q4 ?_ | refine am_jn am_q6 ?_ | refine am_jn am_q9 ?_ | refine am_jn am_p1 ?_ | refine am_jy am_p0 ?_ | refine am_kn am_q1 ?_ | refine am_kn am_q2 ?_ | refine am_kn am_q3 ?_ | refine am_kn am_q4 ?_ | refine am_kn am_q6 ?_ | refine am_kn am_q9 ?_ | refine am_kn am_p1 ?_ | refine am_ky am_p0 ?_) | refine And.intro (fun h => absurd h (by decide)) (fun _ => ?_) | refine And.intro (fun _ => ?_) (fun h => absurd (by decide) h) | refine And.intro (fun _ => ?_) (fun _ => ?_) | refine And.intro ?_ ?_)
        | refine k _ _ ?_
        | refine sx_up ?_ rfl
        | ((with_reducible refine (?_ : am_Does _ 121 _ _ _)); refine w_alone_X6 (ν := ν) _ _ ?_  (fun _ _ _ _ => ?_))
        | ((with_reducible refine (?_ : am_Does _ 21 _ _ _)); first | ((with_reducible refine (?_ : am_Does _ 21 (Sum.inr (Sum.inr 29) :: Sum.inr (Sum.inr 1) :: _) _ _)); refine w_draw_X2_29_1 (ν := ν)  ?_  (fun _ _ => ?_)) | ((with_reducible refine (?_ : am_Does _ 21 (Sum.inr (Sum.inr 29) :: Sum.inr (Sum.inr 8) :: _) _ _)); refine w_draw_X2_29_8 (ν := ν)  ?_  (fun _ _ => ?_)) | ((with_reducible refine (?_ : am_Does _ 21 (Sum.inr (Sum.inr 29) :: Sum.inr (Sum.inr 15) :: _) _ _)); refine w_draw_X2_29_15 (ν := ν)  ?_  (fun _ _ => ?_)) | refine w_draw_X2_29_1 (ν := ν)  ?_  (fun _ _ => ?_) | refine w_draw_X2_29_8 (ν := ν)  ?_  (fun _ _ => ?_) | refine w_draw_X2_29_15 (ν := ν)  ?_  (fun _ _ => ?_))
        | ((with_reducible refine (?_ : am_Does _ 43 _ _ _)); first | ((with_reducible refine (?_ : am_Does _ 43 (Sum.inr (Sum.inr 44) :: _) _ _)); refine w_at_X3_44 (ν := ν) _ ?_  (fun _ => ?_)) | ((with_reducible refine (?_ : am_Does _ 43 (Sum.inr (Sum.inr 46) :: _) _ _)); refine w_at_X3_46 (ν := ν) _ ?_  (fun _ => ?_)) | ((with_reducible refine (?_ : am_Does _ 43 (Sum.inr (Sum.inr 48) :: _) _ _)); refine w_at_X3_48 (ν := ν) _ ?_  (fun _ => ?_)) | ((with_reducible refine (?_ : am_Does _ 43 (Sum.inr (Sum.inr 50) :: _) _ _)); refine w_at_X3_50 (ν := ν) _ ?_  (fun _ => ?_)) | ((with_reducible refine (?_ : am_Does _ 43 (Sum.inr (Sum.inr 53) :: _) _ _)); refine w_at_X3_53 (ν := ν) _ ?_  (fun _ => ?_)) | ((with_reducible refine (?_ : am_Does _ 43 (Sum.inr (Sum.inr 55) :: _) _ _)); refine w_at_X3_55 (ν := ν) _ ?_  (fun _ => ?_)) | ((with_reducible refine (?_ : am_Does _ 43 (Sum.inr (Sum.inr 58) :: _) _ _)); refine w_at_X3_58 (ν := ν) _ ?_  (fun _ => ?_)) | ((with_reducible refine (?_ : am_Does _ 43 (Sum.inr (Sum.inr 60) :: _) _ _)); refine w_at_X3_60 (ν := ν) _ ?_  (fun _ => ?_)) | ((with_reducible refine (?_ : am_Does _ 43 (Sum.inr (Sum.inr 36) :: _) _ _)); refine w_at36 (ν := ν) _ ?_ (fun _ _ _ => ?_) ?_) | refine w_at_X3_44 (ν := ν) _ ?_  (fun _ => ?_) | refine w_at_X3_46 (ν := ν) _ ?_  (fun _ => ?_) | refine w_at_X3_48 (ν := ν) _ ?_  (fun _ => ?_) | refine w_at_X3_50 (ν := ν) _ ?_  (fun _ => ?_) | refine w_at_X3_53 (ν := ν) _ ?_  (fun _ => ?_) | refine w_at_X3_55 (ν := ν) _ ?_  (fun _ => ?_) | refine w_at_X3_58 (ν := ν) _ ?_  (fun _ => ?_) | refine w_at_X3_60 (ν := ν) _ ?_  (fun _ => ?_) | refine w_at36 (ν := ν) _ ?_ (fun _ _ _ => ?_) ?_)
        | ((with_reducible refine (?_ : am_Does _ 8 _ _ _)); first | ((with_reducible refine (?_ : am_Does _ 8 (Sum.inr (Sum.inr 1) :: _) _ _)); refine w_tenths_X0_1 (ν := ν) _ ?_  (fun _ => ?_)) | ((with_reducible refine (?_ : am_Does _ 8 (Sum.inr (Sum.inr 8) :: _) _ _)); refine w_tenths_X0_8 (ν := ν) _ ?_  (fun _ => ?_)) | ((with_reducible refine (?_ : am_Does _ 8 (Sum.inr (Sum.inr 15) :: _) _ _)); refine w_tenths_X0_15 (ν := ν) _ ?_  (fun _ => ?_)) | refine w_tenths_X0_1 (ν := ν) _ ?_  (fun _ => ?_) | refine w_tenths_X0_8 (ν := ν) _ ?_  (fun _ => ?_) | refine w_tenths_X0_15 (ν := ν) _ ?_  (fun _ => ?_))
        | ((with_reducible refine (?_ : am_Does _ 22 _ _ _)); refine w_put_X2_29 (ν := ν) _ _ _ ?_  (fun _ _ => ?_))
        | ((with_reducible refine (?_ : am_Does _ 24 _ _ _)); refine w_ways_X2_29 (ν := ν) _ ?_  (fun _ => ?_))
        | ((with_reducible refine (?_ : am_AW _ _ _ _ _ 28 _ _ _)); refine ih _ _ _ _ _ ?_ ?_ ?_ ?_)
        | refine And.intro (fun h => absurd h (by decide)) (fun _ => ?_)
        | refine And.intro (fun _ => ?_) (fun h => absurd (by decide) h)
        | refine And.intro (fun _ => ?_) (fun _ => ?_)
        | refine And.intro ?_ ?_
      all_goals (first | (with_reducible assumption) | decide | omega | assumption | (intros; omega) | (intros; simp only [am_c] at * <;> omega) | (simp only [am_c, am_up] at * <;> omega) | (simp [am_c, am_up] at * <;> omega))
  have lp28' : ∀ (p x y i : Int) (μ : am_N) , sx ν μ → 0 ≤ i → i ≤ 6 → am_AW l 0 (fun _ => 0) 131 Q 28 [some (.inr (.inr 0)), some (.inl a), some (.inl b), some (.inl t), some (.inl p), some (.inl x), some (.inl y), some (.inl i)] [] μ := fun p x y i μ hv0 hv1 hv2 => lp28 ((6 - i) + 1).toNat p x y i μ hv0 hv1 hv2 (by omega)
  refine am_go (ct := fun pc => Nat.beq pc 28) am_oX6_carrying 300 ?_
  conv => whnf
  repeat' first
    | (refine (?_ : am_wp _ _ _ _ _ _ _ _ _ _ _ _); conv => whnf)
    | (refine (?_ : am_sw _ _ _ _); conv => whnf)
    | refine And.intro trivial ?_
    | exact trivial
    | (with_reducible assumption)
    | ((with_reducible refine (?_ : _ ∧ _)); first | (with_reducible first | refine am_jn am_q1 ?_ | refine am_jn am_q2 ?_ | refine am_jn am_q3 ?_ | refine am_jn am_q4 ?_ | refine am_jn am_q6 ?_ | refine am_jn am_q9 ?_ | refine am_jn am_p1 ?_ | refine am_jy am_p0 ?_ | refine am_kn am_q1 ?_ | refine am_kn am_q2 ?_ | refine am_kn am_q3 ?_ | refine am_kn am_q4 ?_ | refine am_kn am_q6 ?_ | refine am_kn am_q9 ?_ | refine am_kn am_p1 ?_ | refine am_ky am_p0 ?_) | refine And.intro (fun h => absurd h (by decide)) (fun _ => ?_) | refine And.intro (fun _ => ?_) (fun h => absurd (by decide) h) | refine And.intro (fun _ => ?_) (fun _ => ?_) | refine And.intro ?_ ?_)
    | refine k _ _ ?_
    | refine sx_up ?_ rfl
    | ((with_reducible refine (?_ : am_Does _ 121 _ _ _)); refine w_alone_X6 (ν := ν) _ _ ?_  (fun _ _ _ _ => ?_))
    | ((with_reducible refine (?_ : am_Does _ 21 _ _ _)); first | ((with_reducible refine (?_ : am_Does _ 21 (Sum.inr (Sum.inr 29) :: Sum.inr (Sum.inr 1) :: _) _ _)); refine w_draw_X2_29_1 (ν := ν)  ?_  (fun _ _ => ?_)) | ((with_reducible refine (?_ : am_Does _ 21 (Sum.inr (Sum.inr 29) :: Sum.inr (Sum.inr 8) :: _) _ _)); refine w_draw_X2_29_8 (ν := ν)  ?_  (fun _ _ => ?_)) | ((with_reducible refine (?_ : am_Does _ 21 (Sum.inr (Sum.inr 29) :: Sum.inr (Sum.inr 15) :: _) _ _)); refine w_draw_X2_29_15 (ν := ν)  ?_  (fun _ _ => ?_)) | refine w_draw_X2_29_1 (ν := ν)  ?_  (fun _ _ => ?_) | refine w_draw_X2_29_8 (ν := ν)  ?_  (fun _ _ => ?_) | refine w_draw_X2_29_15 (ν := ν)  ?_  (fun _ _ => ?_))
    | ((with_reducible refine (?_ : am_Does _ 43 _ _ _)); first | ((with_reducible refine (?_ : am_Does _ 43 (Sum.inr (Sum.inr 44) :: _) _ _)); refine w_at_X3_44 (ν := ν) _ ?_  (fun _ => ?_)) | ((with_reducible refine (?_ : am_Does _ 43 (Sum.inr (Sum.inr 46) :: _) _ _)); refine w_at_X3_46 (ν := ν) _ ?_  (fun _ => ?_)) | ((with_reducible refine (?_ : am_Does _ 43 (Sum.inr (Sum.inr 48) :: _) _ _)); refine w_at_X3_48 (ν := ν) _ ?_  (fun _ => ?_)) | ((with_reducible refine (?_ : am_Does _ 43 (Sum.inr (Sum.inr 50) :: _) _ _)); refine w_at_X3_50 (ν := ν) _ ?_  (fun _ => ?_)) | ((with_reducible refine (?_ : am_Does _ 43 (Sum.inr (Sum.inr 53) :: _) _ _)); refine w_at_X3_53 (ν := ν) _ ?_  (fun _ => ?_)) | ((with_reducible refine (?_ : am_Does _ 43 (Sum.inr (Sum.inr 55) :: _) _ _)); refine w_at_X3_55 (ν := ν) _ ?_  (fun _ => ?_)) | ((with_reducible refine (?_ : am_Does _ 43 (Sum.inr (Sum.inr 58) :: _) _ _)); refine w_at_X3_58 (ν := ν) _ ?_  (fun _ => ?_)) | ((with_reducible refine (?_ : am_Does _ 43 (Sum.inr (Sum.inr 60) :: _) _ _)); refine w_at_X3_60 (ν := ν) _ ?_  (fun _ => ?_)) | ((with_reducible refine (?_ : am_Does _ 43 (Sum.inr (Sum.inr 36) :: _) _ _)); refine w_at36 (ν := ν) _ ?_ (fun _ _ _ => ?_) ?_) | refine w_at_X3_44 (ν := ν) _ ?_  (fun _ => ?_) | refine w_at_X3_46 (ν := ν) _ ?_  (fun _ => ?_) | refine w_at_X3_48 (ν := ν) _ ?_  (fun _ => ?_) | refine w_at_X3_50 (ν := ν) _ ?_  (fun _ => ?_) | refine w_at_X3_53 (ν := ν) _ ?_  (fun _ => ?_) | refine w_at_X3_55 (ν := ν) _ ?_  (fun _ => ?_) | refine w_at_X3_58 (ν := ν) _ ?_  (fun _ => ?_) | refine w_at_X3_60 (ν := ν) _ ?_  (fun _ => ?_) | refine w_at36 (ν := ν) _ ?_ (fun _ _ _ => ?_) ?_)
    | ((with_reducible refine (?_ : am_Does _ 8 _ _ _)); first | ((with_reducible refine (?_ : am_Does _ 8 (Sum.inr (Sum.inr 1) :: _) _ _)); refine w_tenths_X0_1 (ν := ν) _ ?_  (fun _ => ?_)) | ((with_reducible refine (?_ : am_Does _ 8 (Sum.inr (Sum.inr 8) :: _) _ _)); refine w_tenths_X0_8 (ν := ν) _ ?_  (fun _ => ?_)) | ((with_reducible refine (?_ : am_Does _ 8 (Sum.inr (Sum.inr 15) :: _) _ _)); refine w_tenths_X0_15 (ν := ν) _ ?_  (fun _ => ?_)) | refine w_tenths_X0_1 (ν := ν) _ ?_  (fun _ => ?_) | refine w_tenths_X0_8 (ν := ν) _ ?_  (fun _ => ?_) | refine w_tenths_X0_15 (ν := ν) _ ?_  (fun _ => ?_))
    | ((with_reducible refine (?_ : am_Does _ 22 _ _ _)); refine w_put_X2_29 (ν := ν) _ _ _ ?_  (fun _ _ => ?_))
    | ((with_reducible refine (?_ : am_Does _ 24 _ _ _)); refine w_ways_X2_29 (ν := ν) _ ?_  (fun _ => ?_))
    | ((with_reducible refine (?_ : am_AW _ _ _ _ _ 28 _ _ _)); refine lp28' _ _ _ _ _ ?_ ?_ ?_)
    | refine And.intro (fun h => absurd h (by decide)) (fun _ => ?_)
    | refine And.intro (fun _ => ?_) (fun h => absurd (by decide) h)
    | refine And.intro (fun _ => ?_) (fun _ => ?_)
    | refine And.intro ?_ ?_
  all_goals (first | (with_reducible assumption) | decide | omega | assumption | (intros; omega) | (intros; simp only [am_c] at * <;> omega) | (simp only [am_c, am_up] at * <;> omega) | (simp [am_c, am_up] at * <;> omega))
theorem w_cupWays_X6 {l : Launch} {μ : am_N} {Q : Option am_V → am_N → Prop} {ν : am_N} (a b : Int) (hS : sx ν μ)  (k : ∀ r μ', sx ν μ' → Q (some (.inl r)) μ') : am_Does l 132 [.inr (.inr 0), .inl a, .inl b] μ Q := by
  refine am_Does_of (Nat.le_of_ble_eq_true rfl) (Nat.le_of_ble_eq_true rfl) (Nat.le_of_ble_eq_true rfl) ?_
  have hb := sx_all hS
  have lp12 : ∀ (m : Nat) (g s j : Int) (μ : am_N) , sx ν μ → 0 ≤ j → j ≤ 4 → 4 - j < (m : Int) → am_AW l 0 (fun _ => 0) 132 Q 12 [some (.inr (.inr 0)), some (.inl a), some (.inl b), some (.inl g), some (.inl s), some (.inl j)] [] μ := by
    intro m
    induction m with
    | zero =>
      intro g s j μ hv0 hv1 hv2 hm
      have hb := sx_all hv0
      exfalso
      omega
    | succ m ih =>
      intro g s j μ hv0 hv1 hv2 hm
      have hb := sx_all hv0
      refine am_go (ct := fun pc => Nat.beq pc 12) am_oX6_cupWays 300 ?_
      conv => whnf
      repeat' first
        | (refine (?_ : am_wp _ _ _ _ _ _ _ _ _ _ _ _); conv => whnf)
        | (refine (?_ : am_sw _ _ _ _); conv => whnf)
        | refine And.intro trivial ?_
        | exact trivial
        | (with_reducible assumption)
        | ((with_reducible refine (?_ : _ ∧ _)); first | (with_reducible first | refine am_jn am_q1 ?_ | refine am_jn am_q2 ?_ | refine am_jn am_q3 ?_ | refine am_jn am_q4 ?_ | refine am_jn am_q6 ?_ | refine am_jn am_q9 ?_ | refine am_jn am_p1 ?_ | refine am_jy am_p0 ?_ | refine am_kn am_q1 ?_ | refine am_kn am_q2 ?_ | refine am_kn am_q3 ?_ | refine am_kn am_q4 ?_ | refine am_kn am_q6 ?_ | refine am_kn am_q9 ?_ | refine am_kn am_p1 ?_ | refine am_ky am_p0 ?_) | refine And.intro (fun h => absurd h (by decide)) (fun _ => ?_) | refine And.intro (fun _ => ?_) (fun h => absurd (by decide) h) | refine And.intro (fun _ => ?_) (fun _ => ?_) | refine And.intro ?_ ?_)
        | refine k _ _ ?_
        | refine sx_up ?_ rfl
        | ((with_reducible refine (?_ : am_Does _ 122 _ _ _)); refine w_sixteenths_X6 (ν := ν) _ _ ?_  (fun _ _ _ => ?_))
        | ((with_reducible refine (?_ : am_AW _ _ _ _ _ 12 _ _ _)); refine ih _ _ _ _ ?_ ?_ ?_ ?_)
        | refine And.intro (fun h => absurd h (by decide)) (fun _ => ?_)
        | refine And.intro (fun _ => ?_) (fun h => absurd (by decide) h)
        | refine And.intro (fun _ => ?_) (fun _ => ?_)
        | refine And.intro ?_ ?_
      all_goals (first | (with_reducible assumption) | decide | omega | assumption | (intros; omega) | (intros; simp only [am_c] at * <;> omega) | (simp only [am_c, am_up] at * <;> omega) | (simp [am_c, am_up] at * <;> omega))
  have lp12' : ∀ (g s j : Int) (μ : am_N) , sx ν μ → 0 ≤ j → j ≤ 4 → am_AW l 0 (fun _ => 0) 132 Q 12 [some (.inr (.inr 0)), some (.inl a), some (.inl b), some (.inl g), some (.inl s), some (.inl j)] [] μ := fun g s j μ hv0 hv1 hv2 => lp12 ((4 - j) + 1).toNat g s j μ hv0 hv1 hv2 (by omega)
  refine am_go (ct := fun pc => Nat.beq pc 12) am_oX6_cupWays 300 ?_
  conv => whnf
  repeat' first
    | (refine (?_ : am_wp _ _ _ _ _ _ _ _ _ _ _ _); conv => whnf)
    | (refine (?_ : am_sw _ _ _ _); conv => whnf)
    | refine And.intro trivial ?_
    | exact trivial
    | (with_reducible assumption)
    | ((with_reducible refine (?_ : _ ∧ _)); first | (with_reducible first | refine am_jn am_q1 ?_ | refine am_jn am_q2 ?_ | refine am_jn am_q3 ?_ | refine am_jn am_q4 ?_ | refine am_jn am_q6 ?_ | refine am_jn am_q9 ?_ | refine am_jn am_p1 ?_ | refine am_jy am_p0 ?_ | refine am_kn am_q1 ?_ | refine am_kn am_q2 ?_ | refine am_kn am_q3 ?_ | refine am_kn am_q4 ?_ | refine am_kn am_q6 ?_ | refine am_kn am_q9 ?_ | refine am_kn am_p1 ?_ | refine am_ky am_p0 ?_) | refine And.intro (fun h => absurd h (by decide)) (fun _ => ?_) | refine And.intro (fun _ => ?_) (fun h => absurd (by decide) h) | refine And.intro (fun _ => ?_) (fun _ => ?_) | refine And.intro ?_ ?_)
    | refine k _ _ ?_
    | refine sx_up ?_ rfl
    | ((with_reducible refine (?_ : am_Does _ 122 _ _ _)); refine w_sixteenths_X6 (ν := ν) _ _ ?_  (fun _ _ _ => ?_))
    | ((with_reducible refine (?_ : am_AW _ _ _ _ _ 12 _ _ _)); refine lp12' _ _ _ _ ?_ ?_ ?_)
    | refine And.intro (fun h => absurd h (by decide)) (fun _ => ?_)
    | refine And.intro (fun _ => ?_) (fun h => absurd (by decide) h)
    | refine And.intro (fun _ => ?_) (fun _ => ?_)
    | refine And.intro ?_ ?_
  all_goals (first | (with_reducible assumption) | decide | omega | assumption | (intros; omega) | (intros; simp only [am_c] at * <;> omega) | (simp only [am_c, am_up] at * <;> omega) | (simp [am_c, am_up] at * <;> omega))
theorem w_leagueWays_X6 {l : Launch} {μ : am_N} {Q : Option am_V → am_N → Prop} {ν : am_N} (a : Int) (hS : sx ν μ)  (k : ∀ r μ', sx ν μ' → Q (some (.inl r)) μ') : am_Does l 133 [.inr (.inr 0), .inl a] μ Q := by
  refine am_Does_of (Nat.le_of_ble_eq_true rfl) (Nat.le_of_ble_eq_true rfl) (Nat.le_of_ble_eq_true rfl) ?_
  have hb := sx_all hS
  have lp4 : ∀ (m : Nat) (s j : Int) (μ : am_N) , sx ν μ → 0 ≤ j → j ≤ 4 → 4 - j < (m : Int) → am_AW l 0 (fun _ => 0) 133 Q 4 [some (.inr (.inr 0)), some (.inl a), some (.inl s), some (.inl j)] [] μ := by
    intro m
    induction m with
    | zero =>
      intro s j μ hv0 hv1 hv2 hm
      have hb := sx_all hv0
      exfalso
      omega
    | succ m ih =>
      intro s j μ hv0 hv1 hv2 hm
      have hb := sx_all hv0
      refine am_go (ct := fun pc => Nat.beq pc 4) am_oX6_leagueWays 300 ?_
      conv => whnf
      repeat' first
        | (refine (?_ : am_wp _ _ _ _ _ _ _ _ _ _ _ _); conv => whnf)
        | (refine (?_ : am_sw _ _ _ _); conv => whnf)
        | refine And.intro trivial ?_
        | exact trivial
        | (with_reducible assumption)
        | ((with_reducible refine (?_ : _ ∧ _)); first | (with_reducible first | refine am_jn am_q1 ?_ | refine am_jn am_q2 ?_ | refine am_jn am_q3 ?_ | refine am_jn am_q4 ?_ | refine am_jn am_q6 ?_ | refine am_jn am_q9 ?_ | refine am_jn am_p1 ?_ | refine am_jy am_p0 ?_ | refine am_kn am_q1 ?_ | refine am_kn am_q2 ?_ | refine am_kn am_q3 ?_ | refine am_kn am_q4 ?_ | refine am_kn am_q6 ?_ | refine am_kn am_q9 ?_ | refine am_kn am_p1 ?_ | refine am_ky am_p0 ?_) | refine And.intro (fun h => absurd h (by decide)) (fun _ => ?_) | refine And.intro (fun _ => ?_) (fun h => absurd (by decide) h) | refine And.intro (fun _ => ?_) (fun _ => ?_) | refine And.intro ?_ ?_)
        | refine k _ _ ?_
        | refine sx_up ?_ rfl
        | ((with_reducible refine (?_ : am_Does _ 122 _ _ _)); refine w_sixteenths_X6 (ν := ν) _ _ ?_  (fun _ _ _ => ?_))
        | ((with_reducible refine (?_ : am_AW _ _ _ _ _ 4 _ _ _)); refine ih _ _ _ ?_ ?_ ?_ ?_)
        | refine And.intro (fun h => absurd h (by decide)) (fun _ => ?_)
        | refine And.intro (fun _ => ?_) (fun h => absurd (by decide) h)
        | refine And.intro (fun _ => ?_) (fun _ => ?_)
        | refine And.intro ?_ ?_
      all_goals (first | (with_reducible assumption) | decide | omega | assumption | (intros; omega) | (intros; simp only [am_c] at * <;> omega) | (simp only [am_c, am_up] at * <;> omega) | (simp [am_c, am_up] at * <;> omega))
  have lp4' : ∀ (s j : Int) (μ : am_N) , sx ν μ → 0 ≤ j → j ≤ 4 → am_AW l 0 (fun _ => 0) 133 Q 4 [some (.inr (.inr 0)), some (.inl a), some (.inl s), some (.inl j)] [] μ := fun s j μ hv0 hv1 hv2 => lp4 ((4 - j) + 1).toNat s j μ hv0 hv1 hv2 (by omega)
  refine am_go (ct := fun pc => Nat.beq pc 4) am_oX6_leagueWays 300 ?_
  conv => whnf
  repeat' first
    | (refine (?_ : am_wp _ _ _ _ _ _ _ _ _ _ _ _); conv => whnf)
    | (refine (?_ : am_sw _ _ _ _); conv => whnf)
    | refine And.intro trivial ?_
    | exact trivial
    | (with_reducible assumption)
    | ((with_reducible refine (?_ : _ ∧ _)); first | (with_reducible first | refine am_jn am_q1 ?_ | refine am_jn am_q2 ?_ | refine am_jn am_q3 ?_ | refine am_jn am_q4 ?_ | refine am_jn am_q6 ?_ | refine am_jn am_q9 ?_ | refine am_jn am_p1 ?_ | refine am_jy am_p0 ?_ | refine am_kn am_q1 ?_ | refine am_kn am_q2 ?_ | refine am_kn am_q3 ?_ | refine am_kn am_q4 ?_ | refine am_kn am_q6 ?_ | refine am_kn am_q9 ?_ | refine am_kn am_p1 ?_ | refine am_ky am_p0 ?_) | refine And.intro (fun h => absurd h (by decide)) (fun _ => ?_) | refine And.intro (fun _ => ?_) (fun h => absurd (by decide) h) | refine And.intro (fun _ => ?_) (fun _ => ?_) | refine And.intro ?_ ?_)
    | refine k _ _ ?_
    | refine sx_up ?_ rfl
    | ((with_reducible refine (?_ : am_Does _ 122 _ _ _)); refine w_sixteenths_X6 (ν := ν) _ _ ?_  (fun _ _ _ => ?_))
    | ((with_reducible refine (?_ : am_AW _ _ _ _ _ 4 _ _ _)); refine lp4' _ _ _ ?_ ?_ ?_)
    | refine And.intro (fun h => absurd h (by decide)) (fun _ => ?_)
    | refine And.intro (fun _ => ?_) (fun h => absurd (by decide) h)
    | refine And.intro (fun _ => ?_) (fun _ => ?_)
    | refine And.intro ?_ ?_
  all_goals (first | (with_reducible assumption) | decide | omega | assumption | (intros; omega) | (intros; simp only [am_c] at * <;> omega) | (simp only [am_c, am_up] at * <;> omega) | (simp [am_c, am_up] at * <;> omega))
theorem w_holdWorth_X6 {l : Launch} {μ : am_N} {Q : Option am_V → am_N → Prop} {ν : am_N} (a b p : Int) (hS : sx ν μ) (ha0 : 0 ≤ am_c a) (ha1 : am_c a < 4) (hb0 : 0 ≤ am_c b) (hb1 : am_c b < 4) (k : ∀ r μ', sx ν μ' → Q (some (.inl r)) μ') : am_Does l 134 [.inr (.inr 0), .inl a, .inl b, .inl p] μ Q := by
  refine am_Does_of (Nat.le_of_ble_eq_true rfl) (Nat.le_of_ble_eq_true rfl) (Nat.le_of_ble_eq_true rfl) ?_
  have hb := sx_all hS
  have lp67 : ∀ (q x y : Int) (μ : am_N), sx ν μ → (q = 0 ∨ q = 1) → am_AW l 0 (fun _ => 0) 134 Q 67 [some (.inr (.inr 0)), some (.inl a), some (.inl b), some (.inl p), some (.inl q), some (.inl x), some (.inl y), none] [] μ := by
    intro q x y μ hv0 hv1
    have hb := sx_all hv0
    refine am_go (ct := fun pc => Nat.beq pc 67 || Nat.beq pc 37) am_oX6_holdWorth 300 ?_
    conv => whnf
    repeat' first
      | (refine (?_ : am_wp _ _ _ _ _ _ _ _ _ _ _ _); conv => whnf)
      | (refine (?_ : am_sw _ _ _ _); conv => whnf)
      | refine And.intro trivial ?_
      | exact trivial
      | (with_reducible assumption)
      | ((with_reducible refine (?_ : _ ∧ _)); first | (with_reducible first | refine am_jn am_q1 ?_ | refine am_jn am_q2 ?_ | refine am_jn am_q3 ?_ | refine am_jn am_q4 ?_ | refine am_jn am_q6 ?_ | refine am_jn am_q9 ?_ | refine am_jn am_p1 ?_ | refine am_jy am_p0 ?_ | refine am_kn am_q1 ?_ | refine am_kn am_q2 ?_ | refine am_kn am_q3 ?_ | refine am_kn am_q4 ?_ | refine am_kn am_q6 ?_ | refine am_kn am_q9 ?_ | refine am_kn am_p1 ?_ | refine am_ky am_p0 ?_) | refine And.intro (fun h => absurd h (by decide)) (fun _ => ?_) | refine And.intro (fun _ => ?_) (fun h => absurd (by decide) h) | refine And.intro (fun _ => ?_) (fun _ => ?_) | refine And.intro ?_ ?_)
      | refine k _ _ ?_
      | refine sx_up ?_ rfl
      | ((with_reducible refine (?_ : am_Does _ 121 _ _ _)); refine w_alone_X6 (ν := ν) _ _ ?_  (fun _ _ _ _ => ?_))
      | ((with_reducible refine (?_ : am_Does _ 8 _ _ _)); first | ((with_reducible refine (?_ : am_Does _ 8 (Sum.inr (Sum.inr 1) :: _) _ _)); refine w_tenths_X0_1 (ν := ν) _ ?_  (fun _ => ?_)) | ((with_reducible refine (?_ : am_Does _ 8 (Sum.inr (Sum.inr 8) :: _) _ _)); refine w_tenths_X0_8 (ν := ν) _ ?_  (fun _ => ?_)) | ((with_reducible refine (?_ : am_Does _ 8 (Sum.inr (Sum.inr 15) :: _) _ _)); refine w_tenths_X0_15 (ν := ν) _ ?_  (fun _ => ?_)) | refine w_tenths_X0_1 (ν := ν) _ ?_  (fun _ => ?_) | refine w_tenths_X0_8 (ν := ν) _ ?_  (fun _ => ?_) | refine w_tenths_X0_15 (ν := ν) _ ?_  (fun _ => ?_))
      | ((with_reducible refine (?_ : am_Does _ 21 _ _ _)); first | ((with_reducible refine (?_ : am_Does _ 21 (Sum.inr (Sum.inr 29) :: Sum.inr (Sum.inr 1) :: _) _ _)); refine w_draw_X2_29_1 (ν := ν)  ?_  (fun _ _ => ?_)) | ((with_reducible refine (?_ : am_Does _ 21 (Sum.inr (Sum.inr 29) :: Sum.inr (Sum.inr 8) :: _) _ _)); refine w_draw_X2_29_8 (ν := ν)  ?_  (fun _ _ => ?_)) | ((with_reducible refine (?_ : am_Does _ 21 (Sum.inr (Sum.inr 29) :: Sum.inr (Sum.inr 15) :: _) _ _)); refine w_draw_X2_29_15 (ν := ν)  ?_  (fun _ _ => ?_)) | refine w_draw_X2_29_1 (ν := ν)  ?_  (fun _ _ => ?_) | refine w_draw_X2_29_8 (ν := ν)  ?_  (fun _ _ => ?_) | refine w_draw_X2_29_15 (ν := ν)  ?_  (fun _ _ => ?_))
      | ((with_reducible refine (?_ : am_Does _ 22 _ _ _)); refine w_put_X2_29 (ν := ν) _ _ _ ?_  (fun _ _ => ?_))
      | ((with_reducible refine (?_ : am_Does _ 24 _ _ _)); refine w_ways_X2_29 (ν := ν) _ ?_  (fun _ => ?_))
      | ((with_reducible refine (?_ : am_Does _ 36 _ _ _)); first | ((with_reducible refine (?_ : am_Does _ 36 (Sum.inr (Sum.inr 29) :: _) _ _)); refine w_line_X2_29 (ν := ν)  ?_  (fun _ _ => ?_)) | ((with_reducible refine (?_ : am_Does _ 36 (Sum.inr (Sum.inr 38) :: _) _ _)); refine w_line_X2_38 (ν := ν)  ?_  (fun _ _ => ?_)) | refine w_line_X2_29 (ν := ν)  ?_  (fun _ _ => ?_) | refine w_line_X2_38 (ν := ν)  ?_  (fun _ _ => ?_))
      | ((with_reducible refine (?_ : am_Does _ 35 _ _ _)); first | ((with_reducible refine (?_ : am_Does _ 35 (Sum.inr (Sum.inr 38) :: Sum.inr (Sum.inr 8) :: _) _ _)); refine w_behind_X2_38_8 (ν := ν)  ?_  (fun _ _ => ?_)) | ((with_reducible refine (?_ : am_Does _ 35 (Sum.inr (Sum.inr 29) :: Sum.inr (Sum.inr 8) :: _) _ _)); refine w_behind_X2_29_8 (ν := ν)  ?_  (fun _ _ => ?_)) | ((with_reducible refine (?_ : am_Does _ 35 (Sum.inr (Sum.inr 29) :: Sum.inr (Sum.inr 15) :: _) _ _)); refine w_behind_X2_29_15 (ν := ν)  ?_  (fun _ _ => ?_)) | refine w_behind_X2_38_8 (ν := ν)  ?_  (fun _ _ => ?_) | refine w_behind_X2_29_8 (ν := ν)  ?_  (fun _ _ => ?_) | refine w_behind_X2_29_15 (ν := ν)  ?_  (fun _ _ => ?_))
      | refine And.intro (fun h => absurd h (by decide)) (fun _ => ?_)
      | refine And.intro (fun _ => ?_) (fun h => absurd (by decide) h)
      | refine And.intro (fun _ => ?_) (fun _ => ?_)
      | refine And.intro ?_ ?_
    all_goals (first | (with_reducible assumption) | decide | omega | assumption | (intros; omega) | (intros; simp only [am_c] at * <;> omega) | (simp only [am_c, am_up] at * <;> omega) | (simp [am_c, am_up] at * <;> omega))
  have lp37 : ∀ (q x : Int) (μ : am_N), sx ν μ → (q = 0 ∨ q = 1) → am_AW l 0 (fun _ => 0) 134 Q 37 [some (.inr (.inr 0)), some (.inl a), some (.inl b), some (.inl p), some (.inl q), some (.inl x), none, none] [] μ := by
    intro q x μ hv0 hv1
    have hb := sx_all hv0
    refine am_go (ct := fun pc => Nat.beq pc 67 || Nat.beq pc 37) am_oX6_holdWorth 300 ?_
    conv => whnf
    repeat' first
      | (refine (?_ : am_wp _ _ _ _ _ _ _ _ _ _ _ _); conv => whnf)
      | (refine (?_ : am_sw _ _ _ _); conv => whnf)
      | refine And.intro trivial ?_
      | exact trivial
      | (with_reducible assumption)
      | ((with_reducible refine (?_ : _ ∧ _)); first | (with_reducible first | refine am_jn am_q1 ?_ | refine am_jn am_q2 ?_ | refine am_jn am_q3 ?_ | refine am_jn am_q4 ?_ | refine am_jn am_q6 ?_ | refine am_jn am_q9 ?_ | refine am_jn am_p1 ?_ | refine am_jy am_p0 ?_ | refine am_kn am_q1 ?_ | refine am_kn am_q2 ?_ | refine am_kn am_q3 ?_ | refine am_kn am_q4 ?_ | refine am_kn am_q6 ?_ | refine am_kn am_q9 ?_ | refine am_kn am_p1 ?_ | refine am_ky am_p0 ?_) | refine And.intro (fun h => absurd h (by decide)) (fun _ => ?_) | refine And.intro (fun _ => ?_) (fun h => absurd (by decide) h) | refine And.intro (fun _ => ?_) (fun _ => ?_) | refine And.intro ?_ ?_)
      | refine k _ _ ?_
      | refine sx_up ?_ rfl
      | ((with_reducible refine (?_ : am_Does _ 121 _ _ _)); refine w_alone_X6 (ν := ν) _ _ ?_  (fun _ _ _ _ => ?_))
      | ((with_reducible refine (?_ : am_Does _ 8 _ _ _)); first | ((with_reducible refine (?_ : am_Does _ 8 (Sum.inr (Sum.inr 1) :: _) _ _)); refine w_tenths_X0_1 (ν := ν) _ ?_  (fun _ => ?_)) | ((with_reducible refine (?_ : am_Does _ 8 (Sum.inr (Sum.inr 8) :: _) _ _)); refine w_tenths_X0_8 (ν := ν) _ ?_  (fun _ => ?_)) | ((with_reducible refine (?_ : am_Does _ 8 (Sum.inr (Sum.inr 15) :: _) _ _)); refine w_tenths_X0_15 (ν := ν) _ ?_  (fun _ => ?_)) | refine w_tenths_X0_1 (ν := ν) _ ?_  (fun _ => ?_) | refine w_tenths_X0_8 (ν := ν) _ ?_  (fun _ => ?_) | refine w_tenths_X0_15 (ν := ν) _ ?_  (fun _ => ?_))
      | ((with_reducible refine (?_ : am_Does _ 21 _ _ _)); first | ((with_reducible refine (?_ : am_Does _ 21 (Sum.inr (Sum.inr 29) :: Sum.inr (Sum.inr 1) :: _) _ _)); refine w_draw_X2_29_1 (ν := ν)  ?_  (fun _ _ => ?_)) | ((with_reducible refine (?_ : am_Does _ 21 (Sum.inr (Sum.inr 29) :: Sum.inr (Sum.inr 8) :: _) _ _)); refine w_draw_X2_29_8 (ν := ν)  ?_  (fun _ _ => ?_)) | ((with_reducible refine (?_ : am_Does _ 21 (Sum.inr (Sum.inr 29) :: Sum.inr (Sum.inr 15) :: _) _ _)); refine w_draw_X2_29_15 (ν := ν)  ?_  (fun _ _ => ?_)) | refine w_draw_X2_29_1 (ν := ν)  ?_  (fun _ _ => ?_) | refine w_draw_X2_29_8 (ν := ν)  ?_  (fun _ _ => ?_) | refine w_draw_X2_29_15 (ν := ν)  ?_  (fun _ _ => ?_))
      | ((with_reducible refine (?_ : am_Does _ 22 _ _ _)); refine w_put_X2_29 (ν := ν) _ _ _ ?_  (fun _ _ => ?_))
      | ((with_reducible refine (?_ : am_Does _ 24 _ _ _)); refine w_ways_X2_29 (ν := ν) _ ?_  (fun _ => ?_))
      | ((with_reducible refine (?_ : am_Does _ 36 _ _ _)); first | ((with_reducible refine (?_ : am_Does _ 36 (Sum.inr (Sum.inr 29) :: _) _ _)); refine w_line_X2_29 (ν := ν)  ?_  (fun _ _ => ?_)) | ((with_reducible refine (?_ : am_Does _ 36 (Sum.inr (Sum.inr 38) :: _) _ _)); refine w_line_X2_38 (ν := ν)  ?_  (fun _ _ => ?_)) | refine w_line_X2_29 (ν := ν)  ?_  (fun _ _ => ?_) | refine w_line_X2_38 (ν := ν)  ?_  (fun _ _ => ?_))
      | ((with_reducible refine (?_ : am_Does _ 35 _ _ _)); first | ((with_reducible refine (?_ : am_Does _ 35 (Sum.inr (Sum.inr 38) :: Sum.inr (Sum.inr 8) :: _) _ _)); refine w_behind_X2_38_8 (ν := ν)  ?_  (fun _ _ => ?_)) | ((with_reducible refine (?_ : am_Does _ 35 (Sum.inr (Sum.inr 29) :: Sum.inr (Sum.inr 8) :: _) _ _)); refine w_behind_X2_29_8 (ν := ν)  ?_  (fun _ _ => ?_)) | ((with_reducible refine (?_ : am_Does _ 35 (Sum.inr (Sum.inr 29) :: Sum.inr (Sum.inr 15) :: _) _ _)); refine w_behind_X2_29_15 (ν := ν)  ?_  (fun _ _ => ?_)) | refine w_behind_X2_38_8 (ν := ν)  ?_  (fun _ _ => ?_) | refine w_behind_X2_29_8 (ν := ν)  ?_  (fun _ _ => ?_) | refine w_behind_X2_29_15 (ν := ν)  ?_  (fun _ _ => ?_))
      | ((with_reducible refine (?_ : am_AW _ _ _ _ _ 67 _ _ _)); refine lp67 _ _ _ _ ?_ ?_)
      | refine And.intro (fun h => absurd h (by decide)) (fun _ => ?_)
      | refine And.intro (fun _ => ?_) (fun h => absurd (by decide) h)
      | refine And.intro (fun _ => ?_) (fun _ => ?_)
      | refine And.intro ?_ ?_
    all_goals (first | (with_reducible assumption) | decide | omega | assumption | (intros; omega) | (intros; simp only [am_c] at * <;> omega) | (simp only [am_c, am_up] at * <;> omega) | (simp [am_c, am_up] at * <;> omega))
  refine am_go (ct := fun pc => Nat.beq pc 67 || Nat.beq pc 37) am_oX6_holdWorth 300 ?_
  conv => whnf
  repeat' first
    | (refine (?_ : am_wp _ _ _ _ _ _ _ _ _ _ _ _); conv => whnf)
    | (refine (?_ : am_sw _ _ _ _); conv => whnf)
    | refine And.intro trivial ?_
    | exact trivial
    | (with_reducible assumption)
    | ((with_reducible refine (?_ : _ ∧ _)); first | (with_reducible first | refine am_jn am_q1 ?_ | refine am_jn am_q2 ?_ | refine am_jn am_q3 ?_ | refine am_jn am_q4 ?_ | refine am_jn am_q6 ?_ | refine am_jn am_q9 ?_ | refine am_jn am_p1 ?_ | refine am_jy am_p0 ?_ | refine am_kn am_q1 ?_ | refine am_kn am_q2 ?_ | refine am_kn am_q3 ?_ | refine am_kn am_q4 ?_ | refine am_kn am_q6 ?_ | refine am_kn am_q9 ?_ | refine am_kn am_p1 ?_ | refine am_ky am_p0 ?_) | refine And.intro (fun h => absurd h (by decide)) (fun _ => ?_) | refine And.intro (fun _ => ?_) (fun h => absurd (by decide) h) | refine And.intro (fun _ => ?_) (fun _ => ?_) | refine And.intro ?_ ?_)
    | refine k _ _ ?_
    | refine sx_up ?_ rfl
    | ((with_reducible refine (?_ : am_Does _ 121 _ _ _)); refine w_alone_X6 (ν := ν) _ _ ?_  (fun _ _ _ _ => ?_))
    | ((with_reducible refine (?_ : am_Does _ 8 _ _ _)); first | ((with_reducible refine (?_ : am_Does _ 8 (Sum.inr (Sum.inr 1) :: _) _ _)); refine w_tenths_X0_1 (ν := ν) _ ?_  (fun _ => ?_)) | ((with_reducible refine (?_ : am_Does _ 8 (Sum.inr (Sum.inr 8) :: _) _ _)); refine w_tenths_X0_8 (ν := ν) _ ?_  (fun _ => ?_)) | ((with_reducible refine (?_ : am_Does _ 8 (Sum.inr (Sum.inr 15) :: _) _ _)); refine w_tenths_X0_15 (ν := ν) _ ?_  (fun _ => ?_)) | refine w_tenths_X0_1 (ν := ν) _ ?_  (fun _ => ?_) | refine w_tenths_X0_8 (ν := ν) _ ?_  (fun _ => ?_) | refine w_tenths_X0_15 (ν := ν) _ ?_  (fun _ => ?_))
    | ((with_reducible refine (?_ : am_Does _ 21 _ _ _)); first | ((with_reducible refine (?_ : am_Does _ 21 (Sum.inr (Sum.inr 29) :: Sum.inr (Sum.inr 1) :: _) _ _)); refine w_draw_X2_29_1 (ν := ν)  ?_  (fun _ _ => ?_)) | ((with_reducible refine (?_ : am_Does _ 21 (Sum.inr (Sum.inr 29) :: Sum.inr (Sum.inr 8) :: _) _ _)); refine w_draw_X2_29_8 (ν := ν)  ?_  (fun _ _ => ?_)) | ((with_reducible refine (?_ : am_Does _ 21 (Sum.inr (Sum.inr 29) :: Sum.inr (Sum.inr 15) :: _) _ _)); refine w_draw_X2_29_15 (ν := ν)  ?_  (fun _ _ => ?_)) | refine w_draw_X2_29_1 (ν := ν)  ?_  (fun _ _ => ?_) | refine w_draw_X2_29_8 (ν := ν)  ?_  (fun _ _ => ?_) | refine w_draw_X2_29_15 (ν := ν)  ?_  (fun _ _ => ?_))
    | ((with_reducible refine (?_ : am_Does _ 22 _ _ _)); refine w_put_X2_29 (ν := ν) _ _ _ ?_  (fun _ _ => ?_))
    | ((with_reducible refine (?_ : am_Does _ 24 _ _ _)); refine w_ways_X2_29 (ν := ν) _ ?_  (fun _ => ?_))
    | ((with_reducible refine (?_ : am_Does _ 36 _ _ _)); first | ((with_reducible refine (?_ : am_Does _ 36 (Sum.inr (Sum.inr 29) :: _) _ _)); refine w_line_X2_29 (ν := ν)  ?_  (fun _ _ => ?_)) | ((with_reducible refine (?_ : am_Does _ 36 (Sum.inr (Sum.inr 38) :: _) _ _)); refine w_line_X2_38 (ν := ν)  ?_  (fun _ _ => ?_)) | refine w_line_X2_29 (ν := ν)  ?_  (fun _ _ => ?_) | refine w_line_X2_38 (ν := ν)  ?_  (fun _ _ => ?_))
    | ((with_reducible refine (?_ : am_Does _ 35 _ _ _)); first | ((with_reducible refine (?_ : am_Does _ 35 (Sum.inr (Sum.inr 38) :: Sum.inr (Sum.inr 8) :: _) _ _)); refine w_behind_X2_38_8 (ν := ν)  ?_  (fun _ _ => ?_)) | ((with_reducible refine (?_ : am_Does _ 35 (Sum.inr (Sum.inr 29) :: Sum.inr (Sum.inr 8) :: _) _ _)); refine w_behind_X2_29_8 (ν := ν)  ?_  (fun _ _ => ?_)) | ((with_reducible refine (?_ : am_Does _ 35 (Sum.inr (Sum.inr 29) :: Sum.inr (Sum.inr 15) :: _) _ _)); refine w_behind_X2_29_15 (ν := ν)  ?_  (fun _ _ => ?_)) | refine w_behind_X2_38_8 (ν := ν)  ?_  (fun _ _ => ?_) | refine w_behind_X2_29_8 (ν := ν)  ?_  (fun _ _ => ?_) | refine w_behind_X2_29_15 (ν := ν)  ?_  (fun _ _ => ?_))
    | ((with_reducible refine (?_ : am_AW _ _ _ _ _ 37 _ _ _)); refine lp37 _ _ _ ?_ ?_)
    | ((with_reducible refine (?_ : am_AW _ _ _ _ _ 67 _ _ _)); refine lp67 _ _ _ _ ?_ ?_)
    | refine And.intro (fun h => absurd h (by decide)) (fun _ => ?_)
    | refine And.intro (fun _ => ?_) (fun h => absurd (by decide) h)
    | refine And.intro (fun _ => ?_) (fun _ => ?_)
    | refine And.intro ?_ ?_
  all_goals (first | (with_reducible assumption) | decide | omega | assumption | (intros; omega) | (intros; simp only [am_c] at * <;> omega) | (simp only [am_c, am_up] at * <;> omega) | (simp [am_c, am_up] at * <;> omega))
theorem w_relay_X6 {l : Launch} {μ : am_N} {Q : Option am_V → am_N → Prop} {ν : am_N} (a b y : Int) (hS : sx ν μ)  (k : ∀ r, Q (some (.inl r)) μ) : am_Does l 135 [.inr (.inr 0), .inl a, .inl b, .inl y] μ Q := by
  refine am_Does_of (Nat.le_of_ble_eq_true rfl) (Nat.le_of_ble_eq_true rfl) (Nat.le_of_ble_eq_true rfl) ?_
  have hb := sx_all hS
  refine am_go (ct := fun _ => false) am_oX6_relay 300 ?_
  conv => whnf
  repeat' first
    | (refine (?_ : am_wp _ _ _ _ _ _ _ _ _ _ _ _); conv => whnf)
    | (refine (?_ : am_sw _ _ _ _); conv => whnf)
    | refine And.intro trivial ?_
    | exact trivial
    | (with_reducible assumption)
    | ((with_reducible refine (?_ : _ ∧ _)); first | (with_reducible first | refine am_jn am_q1 ?_ | refine am_jn am_q2 ?_ | refine am_jn am_q3 ?_ | refine am_jn am_q4 ?_ | refine am_jn am_q6 ?_ | refine am_jn am_q9 ?_ | refine am_jn am_p1 ?_ | refine am_jy am_p0 ?_ | refine am_kn am_q1 ?_ | refine am_kn am_q2 ?_ | refine am_kn am_q3 ?_ | refine am_kn am_q4 ?_ | refine am_kn am_q6 ?_ | refine am_kn am_q9 ?_ | refine am_kn am_p1 ?_ | refine am_ky am_p0 ?_) | refine And.intro (fun h => absurd h (by decide)) (fun _ => ?_) | refine And.intro (fun _ => ?_) (fun h => absurd (by decide) h) | refine And.intro (fun _ => ?_) (fun _ => ?_) | refine And.intro ?_ ?_)
    | exact k _
    | refine sx_up ?_ rfl
    | ((with_reducible refine (?_ : am_Does _ 10 _ _ _)); first | ((with_reducible refine (?_ : am_Does _ 10 (Sum.inr (Sum.inr 1) :: _) _ _)); refine w_tenthsOver_X0_1 (ν := ν) _ _ _ ?_  (fun _ => ?_)) | ((with_reducible refine (?_ : am_Does _ 10 (Sum.inr (Sum.inr 8) :: _) _ _)); refine w_tenthsOver_X0_8 (ν := ν) _ _ _ ?_  (fun _ => ?_)) | ((with_reducible refine (?_ : am_Does _ 10 (Sum.inr (Sum.inr 15) :: _) _ _)); refine w_tenthsOver_X0_15 (ν := ν) _ _ _ ?_  (fun _ => ?_)) | refine w_tenthsOver_X0_1 (ν := ν) _ _ _ ?_  (fun _ => ?_) | refine w_tenthsOver_X0_8 (ν := ν) _ _ _ ?_  (fun _ => ?_) | refine w_tenthsOver_X0_15 (ν := ν) _ _ _ ?_  (fun _ => ?_))
    | refine And.intro (fun h => absurd h (by decide)) (fun _ => ?_)
    | refine And.intro (fun _ => ?_) (fun h => absurd (by decide) h)
    | refine And.intro (fun _ => ?_) (fun _ => ?_)
    | refine And.intro ?_ ?_
  all_goals (first | (with_reducible assumption) | decide | omega | assumption | (intros; omega) | (intros; simp only [am_c] at * <;> omega) | (simp only [am_c, am_up] at * <;> omega) | (simp [am_c, am_up] at * <;> omega))
theorem w_betWays_X6 {l : Launch} {μ : am_N} {Q : Option am_V → am_N → Prop} {ν : am_N} (i : Int) (hS : sx ν μ)  (k : ∀ r, Q (some (.inl r)) μ) : am_Does l 138 [.inr (.inr 0), .inl i] μ Q := by
  refine am_Does_of (Nat.le_of_ble_eq_true rfl) (Nat.le_of_ble_eq_true rfl) (Nat.le_of_ble_eq_true rfl) ?_
  have hb := sx_all hS
  refine am_go (ct := fun _ => false) am_oX6_betWays 300 ?_
  conv => whnf
  repeat' first
    | (refine (?_ : am_wp _ _ _ _ _ _ _ _ _ _ _ _); conv => whnf)
    | (refine (?_ : am_sw _ _ _ _); conv => whnf)
    | refine And.intro trivial ?_
    | exact trivial
    | (with_reducible assumption)
    | ((with_reducible refine (?_ : _ ∧ _)); first | (with_reducible first | refine am_jn am_q1 ?_ | refine am_jn am_q2 ?_ | refine am_jn am_q3 ?_ | refine am_jn am_q4 ?_ | refine am_jn am_q6 ?_ | refine am_jn am_q9 ?_ | refine am_jn am_p1 ?_ | refine am_jy am_p0 ?_ | refine am_kn am_q1 ?_ | refine am_kn am_q2 ?_ | refine am_kn am_q3 ?_ | refine am_kn am_q4 ?_ | refine am_kn am_q6 ?_ | refine am_kn am_q9 ?_ | refine am_kn am_p1 ?_ | refine am_ky am_p0 ?_) | refine And.intro (fun h => absurd h (by decide)) (fun _ => ?_) | refine And.intro (fun _ => ?_) (fun h => absurd (by decide) h) | refine And.intro (fun _ => ?_) (fun _ => ?_) | refine And.intro ?_ ?_)
    | exact k _
    | refine sx_up ?_ rfl
    | ((with_reducible refine (?_ : am_Does _ 24 _ _ _)); refine w_ways_X2_29 (ν := ν) _ ?_  (fun _ => ?_))
    | ((with_reducible refine (?_ : am_Does _ 43 _ _ _)); first | ((with_reducible refine (?_ : am_Does _ 43 (Sum.inr (Sum.inr 44) :: _) _ _)); refine w_at_X3_44 (ν := ν) _ ?_  (fun _ => ?_)) | ((with_reducible refine (?_ : am_Does _ 43 (Sum.inr (Sum.inr 46) :: _) _ _)); refine w_at_X3_46 (ν := ν) _ ?_  (fun _ => ?_)) | ((with_reducible refine (?_ : am_Does _ 43 (Sum.inr (Sum.inr 48) :: _) _ _)); refine w_at_X3_48 (ν := ν) _ ?_  (fun _ => ?_)) | ((with_reducible refine (?_ : am_Does _ 43 (Sum.inr (Sum.inr 50) :: _) _ _)); refine w_at_X3_50 (ν := ν) _ ?_  (fun _ => ?_)) | ((with_reducible refine (?_ : am_Does _ 43 (Sum.inr (Sum.inr 53) :: _) _ _)); refine w_at_X3_53 (ν := ν) _ ?_  (fun _ => ?_)) | ((with_reducible refine (?_ : am_Does _ 43 (Sum.inr (Sum.inr 55) :: _) _ _)); refine w_at_X3_55 (ν := ν) _ ?_  (fun _ => ?_)) | ((with_reducible refine (?_ : am_Does _ 43 (Sum.inr (Sum.inr 58) :: _) _ _)); refine w_at_X3_58 (ν := ν) _ ?_  (fun _ => ?_)) | ((with_reducible refine (?_ : am_Does _ 43 (Sum.inr (Sum.inr 60) :: _) _ _)); refine w_at_X3_60 (ν := ν) _ ?_  (fun _ => ?_)) | ((with_reducible refine (?_ : am_Does _ 43 (Sum.inr (Sum.inr 36) :: _) _ _)); refine w_at36 (ν := ν) _ ?_ (fun _ _ _ => ?_) ?_) | refine w_at_X3_44 (ν := ν) _ ?_  (fun _ => ?_) | refine w_at_X3_46 (ν := ν) _ ?_  (fun _ => ?_) | refine w_at_X3_48 (ν := ν) _ ?_  (fun _ => ?_) | refine w_at_X3_50 (ν := ν) _ ?_  (fun _ => ?_) | refine w_at_X3_53 (ν := ν) _ ?_  (fun _ => ?_) | refine w_at_X3_55 (ν := ν) _ ?_  (fun _ => ?_) | refine w_at_X3_58 (ν := ν) _ ?_  (fun _ => ?_) | refine w_at_X3_60 (ν := ν) _ ?_  (fun _ => ?_) | refine w_at36 (ν := ν) _ ?_ (fun _ _ _ => ?_) ?_)
    | refine And.intro (fun h => absurd h (by decide)) (fun _ => ?_)
    | refine And.intro (fun _ => ?_) (fun h => absurd (by decide) h)
    | refine And.intro (fun _ => ?_) (fun _ => ?_)
    | refine And.intro ?_ ?_
  all_goals (first | (with_reducible assumption) | decide | omega | assumption | (intros; omega) | (intros; simp only [am_c] at * <;> omega) | (simp only [am_c, am_up] at * <;> omega) | (simp [am_c, am_up] at * <;> omega))
theorem w_bestBet_X6 {l : Launch} {μ : am_N} {Q : Option am_V → am_N → Prop} {ν : am_N}  (hS : sx ν μ)  (k : ∀ r μ', sx ν μ' → Q (some (.inl r)) μ') : am_Does l 137 [.inr (.inr 0)] μ Q := by
  refine am_Does_of (Nat.le_of_ble_eq_true rfl) (Nat.le_of_ble_eq_true rfl) (Nat.le_of_ble_eq_true rfl) ?_
  have hb := sx_all hS
  have lp15 : ∀ (m : Nat) (b i : Int) (μ : am_N) , sx ν μ → 1 ≤ i → i ≤ 5 → 5 - i < (m : Int) → am_AW l 0 (fun _ => 0) 137 Q 15 [some (.inr (.inr 0)), some (.inl b), some (.inl i)] [] μ := by
    intro m
    induction m with
    | zero =>
      intro b i μ hv0 hv1 hv2 hm
      have hb := sx_all hv0
      exfalso
      omega
    | succ m ih =>
      intro b i μ hv0 hv1 hv2 hm
      have hb := sx_all hv0
      refine am_go (ct := fun pc => Nat.beq pc 15) am_oX6_bestBet 300 ?_
      conv => whnf
      repeat' first
        | (refine (?_ : am_wp _ _ _ _ _ _ _ _ _ _ _ _); conv => whnf)
        | (refine (?_ : am_sw _ _ _ _); conv => whnf)
        | refine And.intro trivial ?_
        | exact trivial
        | (with_reducible assumption)
        | ((with_reducible refine (?_ : _ ∧ _)); first | (with_reducible first | refine am_jn am_q1 ?_ | refine am_jn am_q2 ?_ | refine am_jn am_q3 ?_ | refine am_jn am_q4 ?_ | refine am_jn am_q6 ?_ | refine am_jn am_q9 ?_ | refine am_jn am_p1 ?_ | refine am_jy am_p0 ?_ | refine am_kn am_q1 ?_ | refine am_kn am_q2 ?_ | refine am_kn am_q3 ?_ | refine am_kn am_q4 ?_ | refine am_kn am_q6 ?_ | refine am_kn am_q9 ?_ | refine am_kn am_p1 ?_ | refine am_ky am_p0 ?_) | refine And.intro (fun h => absurd h (by decide)) (fun _ => ?_) | refine And.intro (fun _ => ?_) (fun h => absurd (by decide) h) | refine And.intro (fun _ => ?_) (fun _ => ?_) | refine And.intro ?_ ?_)
        | refine k _ _ ?_
        | refine sx_up ?_ rfl
        | ((with_reducible refine (?_ : am_Does _ 21 _ _ _)); first | ((with_reducible refine (?_ : am_Does _ 21 (Sum.inr (Sum.inr 29) :: Sum.inr (Sum.inr 1) :: _) _ _)); refine w_draw_X2_29_1 (ν := ν)  ?_  (fun _ _ => ?_)) | ((with_reducible refine (?_ : am_Does _ 21 (Sum.inr (Sum.inr 29) :: Sum.inr (Sum.inr 8) :: _) _ _)); refine w_draw_X2_29_8 (ν := ν)  ?_  (fun _ _ => ?_)) | ((with_reducible refine (?_ : am_Does _ 21 (Sum.inr (Sum.inr 29) :: Sum.inr (Sum.inr 15) :: _) _ _)); refine w_draw_X2_29_15 (ν := ν)  ?_  (fun _ _ => ?_)) | refine w_draw_X2_29_1 (ν := ν)  ?_  (fun _ _ => ?_) | refine w_draw_X2_29_8 (ν := ν)  ?_  (fun _ _ => ?_) | refine w_draw_X2_29_15 (ν := ν)  ?_  (fun _ _ => ?_))
        | ((with_reducible refine (?_ : am_Does _ 138 _ _ _)); refine w_betWays_X6 (ν := ν) _ ?_  (fun _ => ?_))
        | ((with_reducible refine (?_ : am_AW _ _ _ _ _ 15 _ _ _)); refine ih _ _ _ ?_ ?_ ?_ ?_)
        | refine And.intro (fun h => absurd h (by decide)) (fun _ => ?_)
        | refine And.intro (fun _ => ?_) (fun h => absurd (by decide) h)
        | refine And.intro (fun _ => ?_) (fun _ => ?_)
        | refine And.intro ?_ ?_
      all_goals (first | (with_reducible assumption) | decide | omega | assumption | (intros; omega) | (intros; simp only [am_c] at * <;> omega) | (simp only [am_c, am_up] at * <;> omega) | (simp [am_c, am_up] at * <;> omega))
  have lp15' : ∀ (b i : Int) (μ : am_N) , sx ν μ → 1 ≤ i → i ≤ 5 → am_AW l 0 (fun _ => 0) 137 Q 15 [some (.inr (.inr 0)), some (.inl b), some (.inl i)] [] μ := fun b i μ hv0 hv1 hv2 => lp15 ((5 - i) + 1).toNat b i μ hv0 hv1 hv2 (by omega)
  refine am_go (ct := fun pc => Nat.beq pc 15) am_oX6_bestBet 300 ?_
  conv => whnf
  repeat' first
    | (refine (?_ : am_wp _ _ _ _ _ _ _ _ _ _ _ _); conv => whnf)
    | (refine (?_ : am_sw _ _ _ _); conv => whnf)
    | refine And.intro trivial ?_
    | exact trivial
    | (with_reducible assumption)
    | ((with_reducible refine (?_ : _ ∧ _)); first | (with_reducible first | refine am_jn am_q1 ?_ | refine am_jn am_q2 ?_ | refine am_jn am_q3 ?_ | refine am_jn am_q4 ?_ | refine am_jn am_q6 ?_ | refine am_jn am_q9 ?_ | refine am_jn am_p1 ?_ | refine am_jy am_p0 ?_ | refine am_kn am_q1 ?_ | refine am_kn am_q2 ?_ | refine am_kn am_q3 ?_ | refine am_kn am_q4 ?_ | refine am_kn am_q6 ?_ | refine am_kn am_q9 ?_ | refine am_kn am_p1 ?_ | refine am_ky am_p0 ?_) | refine And.intro (fun h => absurd h (by decide)) (fun _ => ?_) | refine And.intro (fun _ => ?_) (fun h => absurd (by decide) h) | refine And.intro (fun _ => ?_) (fun _ => ?_) | refine And.intro ?_ ?_)
    | refine k _ _ ?_
    | refine sx_up ?_ rfl
    | ((with_reducible refine (?_ : am_Does _ 21 _ _ _)); first | ((with_reducible refine (?_ : am_Does _ 21 (Sum.inr (Sum.inr 29) :: Sum.inr (Sum.inr 1) :: _) _ _)); refine w_draw_X2_29_1 (ν := ν)  ?_  (fun _ _ => ?_)) | ((with_reducible refine (?_ : am_Does _ 21 (Sum.inr (Sum.inr 29) :: Sum.inr (Sum.inr 8) :: _) _ _)); refine w_draw_X2_29_8 (ν := ν)  ?_  (fun _ _ => ?_)) | ((with_reducible refine (?_ : am_Does _ 21 (Sum.inr (Sum.inr 29) :: Sum.inr (Sum.inr 15) :: _) _ _)); refine w_draw_X2_29_15 (ν := ν)  ?_  (fun _ _ => ?_)) | refine w_draw_X2_29_1 (ν := ν)  ?_  (fun _ _ => ?_) | refine w_draw_X2_29_8 (ν := ν)  ?_  (fun _ _ => ?_) | refine w_draw_X2_29_15 (ν := ν)  ?_  (fun _ _ => ?_))
    | ((with_reducible refine (?_ : am_Does _ 138 _ _ _)); refine w_betWays_X6 (ν := ν) _ ?_  (fun _ => ?_))
    | ((with_reducible refine (?_ : am_AW _ _ _ _ _ 15 _ _ _)); refine lp15' _ _ _ ?_ ?_ ?_)
    | refine And.intro (fun h => absurd h (by decide)) (fun _ => ?_)
    | refine And.intro (fun _ => ?_) (fun h => absurd (by decide) h)
    | refine And.intro (fun _ => ?_) (fun _ => ?_)
    | refine And.intro ?_ ?_
  all_goals (first | (with_reducible assumption) | decide | omega | assumption | (intros; omega) | (intros; simp only [am_c] at * <;> omega) | (simp only [am_c, am_up] at * <;> omega) | (simp [am_c, am_up] at * <;> omega))
theorem w_betsTold_X6 {l : Launch} {μ : am_N} {Q : Option am_V → am_N → Prop} {ν : am_N}  (hS : sx ν μ)  (k : ∀ r, Q (some (.inl r)) μ) : am_Does l 136 [.inr (.inr 0)] μ Q := by
  refine am_Does_of (Nat.le_of_ble_eq_true rfl) (Nat.le_of_ble_eq_true rfl) (Nat.le_of_ble_eq_true rfl) ?_
  have hb := sx_all hS
  have lp31 : ∀ (m : Nat) (i : Int) , 0 ≤ i → i ≤ 12 → 12 - i < (m : Int) → am_AW l 0 (fun _ => 0) 136 Q 31 [some (.inr (.inr 0)), some (.inl i)] [] μ := by
    intro m
    induction m with
    | zero =>
      intro i  hv0 hv1 hm
      exfalso
      omega
    | succ m ih =>
      intro i  hv0 hv1 hm
      refine am_go (ct := fun pc => Nat.beq pc 31) am_oX6_betsTold 300 ?_
      conv => whnf
      repeat' first
        | (refine (?_ : am_wp _ _ _ _ _ _ _ _ _ _ _ _); conv => whnf)
        | (refine (?_ : am_sw _ _ _ _); conv => whnf)
        | refine And.intro trivial ?_
        | exact trivial
        | (with_reducible assumption)
        | ((with_reducible refine (?_ : _ ∧ _)); first | (with_reducible first | refine am_jn am_q1 ?_ | refine am_jn am_q2 ?_ | refine am_jn am_q3 ?_ | refine am_jn am_q4 ?_ | refine am_jn am_q6 ?_ | refine am_jn am_q9 ?_ | refine am_jn am_p1 ?_ | refine am_jy am_p0 ?_ | refine am_kn am_q1 ?_ | refine am_kn am_q2 ?_ | refine am_kn am_q3 ?_ | refine am_kn am_q4 ?_ | refine am_kn am_q6 ?_ | refine am_kn am_q9 ?_ | refine am_kn am_p1 ?_ | refine am_ky am_p0 ?_) | refine And.intro (fun h => absurd h (by decide)) (fun _ => ?_) | refine And.intro (fun _ => ?_) (fun h => absurd (by decide) h) | refine And.intro (fun _ => ?_) (fun _ => ?_) | refine And.intro ?_ ?_)
        | exact k _
        | refine sx_up ?_ rfl
        | ((with_reducible refine (?_ : am_Does _ 43 _ _ _)); first | ((with_reducible refine (?_ : am_Does _ 43 (Sum.inr (Sum.inr 44) :: _) _ _)); refine w_at_X3_44 (ν := ν) _ ?_  (fun _ => ?_)) | ((with_reducible refine (?_ : am_Does _ 43 (Sum.inr (Sum.inr 46) :: _) _ _)); refine w_at_X3_46 (ν := ν) _ ?_  (fun _ => ?_)) | ((with_reducible refine (?_ : am_Does _ 43 (Sum.inr (Sum.inr 48) :: _) _ _)); refine w_at_X3_48 (ν := ν) _ ?_  (fun _ => ?_)) | ((with_reducible refine (?_ : am_Does _ 43 (Sum.inr (Sum.inr 50) :: _) _ _)); refine w_at_X3_50 (ν := ν) _ ?_  (fun _ => ?_)) | ((with_reducible refine (?_ : am_Does _ 43 (Sum.inr (Sum.inr 53) :: _) _ _)); refine w_at_X3_53 (ν := ν) _ ?_  (fun _ => ?_)) | ((with_reducible refine (?_ : am_Does _ 43 (Sum.inr (Sum.inr 55) :: _) _ _)); refine w_at_X3_55 (ν := ν) _ ?_  (fun _ => ?_)) | ((with_reducible refine (?_ : am_Does _ 43 (Sum.inr (Sum.inr 58) :: _) _ _)); refine w_at_X3_58 (ν := ν) _ ?_  (fun _ => ?_)) | ((with_reducible refine (?_ : am_Does _ 43 (Sum.inr (Sum.inr 60) :: _) _ _)); refine w_at_X3_60 (ν := ν) _ ?_  (fun _ => ?_)) | ((with_reducible refine (?_ : am_Does _ 43 (Sum.inr (Sum.inr 36) :: _) _ _)); refine w_at36 (ν := ν) _ ?_ (fun _ _ _ => ?_) ?_) | refine w_at_X3_44 (ν := ν) _ ?_  (fun _ => ?_) | refine w_at_X3_46 (ν := ν) _ ?_  (fun _ => ?_) | refine w_at_X3_48 (ν := ν) _ ?_  (fun _ => ?_) | refine w_at_X3_50 (ν := ν) _ ?_  (fun _ => ?_) | refine w_at_X3_53 (ν := ν) _ ?_  (fun _ => ?_) | refine w_at_X3_55 (ν := ν) _ ?_  (fun _ => ?_) | refine w_at_X3_58 (ν := ν) _ ?_  (fun _ => ?_) | refine w_at_X3_60 (ν := ν) _ ?_  (fun _ => ?_) | refine w_at36 (ν := ν) _ ?_ (fun _ _ _ => ?_) ?_)
        | ((with_reducible refine (?_ : am_AW _ _ _ _ _ 31 _ _ _)); refine ih _  ?_ ?_ ?_)
        | refine And.intro (fun h => absurd h (by decide)) (fun _ => ?_)
        | refine And.intro (fun _ => ?_) (fun h => absurd (by decide) h)
        | refine And.intro (fun _ => ?_) (fun _ => ?_)
        | refine And.intro ?_ ?_
      all_goals (first | (with_reducible assumption) | decide | omega | assumption | (intros; omega) | (intros; simp only [am_c] at * <;> omega) | (simp only [am_c, am_up] at * <;> omega) | (simp [am_c, am_up] at * <;> omega))
  have lp31' : ∀ (i : Int) , 0 ≤ i → i ≤ 12 → am_AW l 0 (fun _ => 0) 136 Q 31 [some (.inr (.inr 0)), some (.inl i)] [] μ := fun i  hv0 hv1 => lp31 ((12 - i) + 1).toNat i  hv0 hv1 (by omega)
  refine am_go (ct := fun pc => Nat.beq pc 31) am_oX6_betsTold 300 ?_
  conv => whnf
  repeat' first
    | (refine (?_ : am_wp _ _ _ _ _ _ _ _ _ _ _ _); conv => whnf)
    | (refine (?_ : am_sw _ _ _ _); conv => whnf)
    | refine And.intro trivial ?_
    | exact trivial
    | (with_reducible assumption)
    | ((with_reducible refine (?_ : _ ∧ _)); first | (with_reducible first | refine am_jn am_q1 ?_ | refine am_jn am_q2 ?_ | refine am_jn am_q3 ?_ | refine am_jn am_q4 ?_ | refine am_jn am_q6 ?_ | refine am_jn am_q9 ?_ | refine am_jn am_p1 ?_ | refine am_jy am_p0 ?_ | refine am_kn am_q1 ?_ | refine am_kn am_q2 ?_ | refine am_kn am_q3 ?_ | refine am_kn am_q4 ?_ | refine am_kn am_q6 ?_ | refine am_kn am_q9 ?_ | refine am_kn am_p1 ?_ | refine am_ky am_p0 ?_) | refine And.intro (fun h => absurd h (by decide)) (fun _ => ?_) | refine And.intro (fun _ => ?_) (fun h => absurd (by decide) h) | refine And.intro (fun _ => ?_) (fun _ => ?_) | refine And.intro ?_ ?_)
    | exact k _
    | refine sx_up ?_ rfl
    | ((with_reducible refine (?_ : am_Does _ 43 _ _ _)); first | ((with_reducible refine (?_ : am_Does _ 43 (Sum.inr (Sum.inr 44) :: _) _ _)); refine w_at_X3_44 (ν := ν) _ ?_  (fun _ => ?_)) | ((with_reducible refine (?_ : am_Does _ 43 (Sum.inr (Sum.inr 46) :: _) _ _)); refine w_at_X3_46 (ν := ν) _ ?_  (fun _ => ?_)) | ((with_reducible refine (?_ : am_Does _ 43 (Sum.inr (Sum.inr 48) :: _) _ _)); refine w_at_X3_48 (ν := ν) _ ?_  (fun _ => ?_)) | ((with_reducible refine (?_ : am_Does _ 43 (Sum.inr (Sum.inr 50) :: _) _ _)); refine w_at_X3_50 (ν := ν) _ ?_  (fun _ => ?_)) | ((with_reducible refine (?_ : am_Does _ 43 (Sum.inr (Sum.inr 53) :: _) _ _)); refine w_at_X3_53 (ν := ν) _ ?_  (fun _ => ?_)) | ((with_reducible refine (?_ : am_Does _ 43 (Sum.inr (Sum.inr 55) :: _) _ _)); refine w_at_X3_55 (ν := ν) _ ?_  (fun _ => ?_)) | ((with_reducible refine (?_ : am_Does _ 43 (Sum.inr (Sum.inr 58) :: _) _ _)); refine w_at_X3_58 (ν := ν) _ ?_  (fun _ => ?_)) | ((with_reducible refine (?_ : am_Does _ 43 (Sum.inr (Sum.inr 60) :: _) _ _)); refine w_at_X3_60 (ν := ν) _ ?_  (fun _ => ?_)) | ((with_reducible refine (?_ : am_Does _ 43 (Sum.inr (Sum.inr 36) :: _) _ _)); refine w_at36 (ν := ν) _ ?_ (fun _ _ _ => ?_) ?_) | refine w_at_X3_44 (ν := ν) _ ?_  (fun _ => ?_) | refine w_at_X3_46 (ν := ν) _ ?_  (fun _ => ?_) | refine w_at_X3_48 (ν := ν) _ ?_  (fun _ => ?_) | refine w_at_X3_50 (ν := ν) _ ?_  (fun _ => ?_) | refine w_at_X3_53 (ν := ν) _ ?_  (fun _ => ?_) | refine w_at_X3_55 (ν := ν) _ ?_  (fun _ => ?_) | refine w_at_X3_58 (ν := ν) _ ?_  (fun _ => ?_) | refine w_at_X3_60 (ν := ν) _ ?_  (fun _ => ?_) | refine w_at36 (ν := ν) _ ?_ (fun _ _ _ => ?_) ?_)
    | ((with_reducible refine (?_ : am_AW _ _ _ _ _ 31 _ _ _)); refine lp31' _  ?_ ?_)
    | refine And.intro (fun h => absurd h (by decide)) (fun _ => ?_)
    | refine And.intro (fun _ => ?_) (fun h => absurd (by decide) h)
    | refine And.intro (fun _ => ?_) (fun _ => ?_)
    | refine And.intro ?_ ?_
  all_goals (first | (with_reducible assumption) | decide | omega | assumption | (intros; omega) | (intros; simp only [am_c] at * <;> omega) | (simp only [am_c, am_up] at * <;> omega) | (simp [am_c, am_up] at * <;> omega))
theorem w_tookThese_X6 {l : Launch} {μ : am_N} {Q : Option am_V → am_N → Prop} {ν : am_N} (a : Int) (hS : sx ν μ)  (k : ∀ r μ', sx ν μ' → Q (some (.inl r)) μ') : am_Does l 139 [.inr (.inr 0), .inl a] μ Q := by
  refine am_Does_of (Nat.le_of_ble_eq_true rfl) (Nat.le_of_ble_eq_true rfl) (Nat.le_of_ble_eq_true rfl) ?_
  have hb := sx_all hS
  have lp2 : ∀ (m : Nat) (i : Int) (μ : am_N) , sx ν μ → 0 ≤ i → i ≤ 6 → 6 - i < (m : Int) → am_AW l 0 (fun _ => 0) 139 Q 2 [some (.inr (.inr 0)), some (.inl a), some (.inl i)] [] μ := by
    intro m
    induction m with
    | zero =>
      intro i μ hv0 hv1 hv2 hm
      have hb := sx_all hv0
      exfalso
      omega
    | succ m ih =>
      intro i μ hv0 hv1 hv2 hm
      have hb := sx_all hv0
      refine am_go (ct := fun pc => Nat.beq pc 2) am_oX6_tookThese 300 ?_
      conv => whnf
      repeat' first
        | (refine (?_ : am_wp _ _ _ _ _ _ _ _ _ _ _ _); conv => whnf)
        | (refine (?_ : am_sw _ _ _ _); conv => whnf)
        | refine And.intro trivial ?_
        | exact trivial
        | (with_reducible assumption)
        | ((with_reducible refine (?_ : _ ∧ _)); first | (with_reducible first | refine am_jn am_q1 ?_ | refine am_jn am_q2 ?_ | refine am_jn am_q3 ?_ | refine am_jn am_q4 ?_ | refine am_jn am_q6 ?_ | refine am_jn am_q9 ?_ | refine am_jn am_p1 ?_ | refine am_jy am_p0 ?_ | refine am_kn am_q1 ?_ | refine am_kn am_q2 ?_ | refine am_kn am_q3 ?_ | refine am_kn am_q4 ?_ | refine am_kn am_q6 ?_ | refine am_kn am_q9 ?_ | refine am_kn am_p1 ?_ | refine am_ky am_p0 ?_) | refine And.intro (fun h => absurd h (by decide)) (fun _ => ?_) | refine And.intro (fun _ => ?_) (fun h => absurd (by decide) h) | refine And.intro (fun _ => ?_) (fun _ => ?_) | refine And.intro ?_ ?_)
        | refine k _ _ ?_
        | refine sx_up ?_ rfl
        | ((with_reducible refine (?_ : am_Does _ 8 _ _ _)); first | ((with_reducible refine (?_ : am_Does _ 8 (Sum.inr (Sum.inr 1) :: _) _ _)); refine w_tenths_X0_1 (ν := ν) _ ?_  (fun _ => ?_)) | ((with_reducible refine (?_ : am_Does _ 8 (Sum.inr (Sum.inr 8) :: _) _ _)); refine w_tenths_X0_8 (ν := ν) _ ?_  (fun _ => ?_)) | ((with_reducible refine (?_ : am_Does _ 8 (Sum.inr (Sum.inr 15) :: _) _ _)); refine w_tenths_X0_15 (ν := ν) _ ?_  (fun _ => ?_)) | refine w_tenths_X0_1 (ν := ν) _ ?_  (fun _ => ?_) | refine w_tenths_X0_8 (ν := ν) _ ?_  (fun _ => ?_) | refine w_tenths_X0_15 (ν := ν) _ ?_  (fun _ => ?_))
        | ((with_reducible refine (?_ : am_Does _ 43 _ _ _)); first | ((with_reducible refine (?_ : am_Does _ 43 (Sum.inr (Sum.inr 44) :: _) _ _)); refine w_at_X3_44 (ν := ν) _ ?_  (fun _ => ?_)) | ((with_reducible refine (?_ : am_Does _ 43 (Sum.inr (Sum.inr 46) :: _) _ _)); refine w_at_X3_46 (ν := ν) _ ?_  (fun _ => ?_)) | ((with_reducible refine (?_ : am_Does _ 43 (Sum.inr (Sum.inr 48) :: _) _ _)); refine w_at_X3_48 (ν := ν) _ ?_  (fun _ => ?_)) | ((with_reducible refine (?_ : am_Does _ 43 (Sum.inr (Sum.inr 50) :: _) _ _)); refine w_at_X3_50 (ν := ν) _ ?_  (fun _ => ?_)) | ((with_reducible refine (?_ : am_Does _ 43 (Sum.inr (Sum.inr 53) :: _) _ _)); refine w_at_X3_53 (ν := ν) _ ?_  (fun _ => ?_)) | ((with_reducible refine (?_ : am_Does _ 43 (Sum.inr (Sum.inr 55) :: _) _ _)); refine w_at_X3_55 (ν := ν) _ ?_  (fun _ => ?_)) | ((with_reducible refine (?_ : am_Does _ 43 (Sum.inr (Sum.inr 58) :: _) _ _)); refine w_at_X3_58 (ν := ν) _ ?_  (fun _ => ?_)) | ((with_reducible refine (?_ : am_Does _ 43 (Sum.inr (Sum.inr 60) :: _) _ _)); refine w_at_X3_60 (ν := ν) _ ?_  (fun _ => ?_)) | ((with_reducible refine (?_ : am_Does _ 43 (Sum.inr (Sum.inr 36) :: _) _ _)); refine w_at36 (ν := ν) _ ?_ (fun _ _ _ => ?_) ?_) | refine w_at_X3_44 (ν := ν) _ ?_  (fun _ => ?_) | refine w_at_X3_46 (ν := ν) _ ?_  (fun _ => ?_) | refine w_at_X3_48 (ν := ν) _ ?_  (fun _ => ?_) | refine w_at_X3_50 (ν := ν) _ ?_  (fun _ => ?_) | refine w_at_X3_53 (ν := ν) _ ?_  (fun _ => ?_) | refine w_at_X3_55 (ν := ν) _ ?_  (fun _ => ?_) | refine w_at_X3_58 (ν := ν) _ ?_  (fun _ => ?_) | refine w_at_X3_60 (ν := ν) _ ?_  (fun _ => ?_) | refine w_at36 (ν := ν) _ ?_ (fun _ _ _ => ?_) ?_)
        | ((with_reducible refine (?_ : am_AW _ _ _ _ _ 2 _ _ _)); refine ih _ _ ?_ ?_ ?_ ?_)
        | refine And.intro (fun h => absurd h (by decide)) (fun _ => ?_)
        | refine And.intro (fun _ => ?_) (fun h => absurd (by decide) h)
        | refine And.intro (fun _ => ?_) (fun _ => ?_)
        | refine And.intro ?_ ?_
      all_goals (first | (with_reducible assumption) | decide | omega | assumption | (intros; omega) | (intros; simp only [am_c] at * <;> omega) | (simp only [am_c, am_up] at * <;> omega) | (simp [am_c, am_up] at * <;> omega))
  have lp2' : ∀ (i : Int) (μ : am_N) , sx ν μ → 0 ≤ i → i ≤ 6 → am_AW l 0 (fun _ => 0) 139 Q 2 [some (.inr (.inr 0)), some (.inl a), some (.inl i)] [] μ := fun i μ hv0 hv1 hv2 => lp2 ((6 - i) + 1).toNat i μ hv0 hv1 hv2 (by omega)
  refine am_go (ct := fun pc => Nat.beq pc 2) am_oX6_tookThese 300 ?_
  conv => whnf
  repeat' first
    | (refine (?_ : am_wp _ _ _ _ _ _ _ _ _ _ _ _); conv => whnf)
    | (refine (?_ : am_sw _ _ _ _); conv => whnf)
    | refine And.intro trivial ?_
    | exact trivial
    | (with_reducible assumption)
    | ((with_reducible refine (?_ : _ ∧ _)); first | (with_reducible first | refine am_jn am_q1 ?_ | refine am_jn am_q2 ?_ | refine am_jn am_q3 ?_ | refine am_jn am_q4 ?_ | refine am_jn am_q6 ?_ | refine am_jn am_q9 ?_ | refine am_jn am_p1 ?_ | refine am_jy am_p0 ?_ | refine am_kn am_q1 ?_ | refine am_kn am_q2 ?_ | refine am_kn am_q3 ?_ | refine am_kn am_q4 ?_ | refine am_kn am_q6 ?_ | refine am_kn am_q9 ?_ | refine am_kn am_p1 ?_ | refine am_ky am_p0 ?_) | refine And.intro (fun h => absurd h (by decide)) (fun _ => ?_) | refine And.intro (fun _ => ?_) (fun h => absurd (by decide) h) | refine And.intro (fun _ => ?_) (fun _ => ?_) | refine And.intro ?_ ?_)
    | refine k _ _ ?_
    | refine sx_up ?_ rfl
    | ((with_reducible refine (?_ : am_Does _ 8 _ _ _)); first | ((with_reducible refine (?_ : am_Does _ 8 (Sum.inr (Sum.inr 1) :: _) _ _)); refine w_tenths_X0_1 (ν := ν) _ ?_  (fun _ => ?_)) | ((with_reducible refine (?_ : am_Does _ 8 (Sum.inr (Sum.inr 8) :: _) _ _)); refine w_tenths_X0_8 (ν := ν) _ ?_  (fun _ => ?_)) | ((with_reducible refine (?_ : am_Does _ 8 (Sum.inr (Sum.inr 15) :: _) _ _)); refine w_tenths_X0_15 (ν := ν) _ ?_  (fun _ => ?_)) | refine w_tenths_X0_1 (ν := ν) _ ?_  (fun _ => ?_) | refine w_tenths_X0_8 (ν := ν) _ ?_  (fun _ => ?_) | refine w_tenths_X0_15 (ν := ν) _ ?_  (fun _ => ?_))
    | ((with_reducible refine (?_ : am_Does _ 43 _ _ _)); first | ((with_reducible refine (?_ : am_Does _ 43 (Sum.inr (Sum.inr 44) :: _) _ _)); refine w_at_X3_44 (ν := ν) _ ?_  (fun _ => ?_)) | ((with_reducible refine (?_ : am_Does _ 43 (Sum.inr (Sum.inr 46) :: _) _ _)); refine w_at_X3_46 (ν := ν) _ ?_  (fun _ => ?_)) | ((with_reducible refine (?_ : am_Does _ 43 (Sum.inr (Sum.inr 48) :: _) _ _)); refine w_at_X3_48 (ν := ν) _ ?_  (fun _ => ?_)) | ((with_reducible refine (?_ : am_Does _ 43 (Sum.inr (Sum.inr 50) :: _) _ _)); refine w_at_X3_50 (ν := ν) _ ?_  (fun _ => ?_)) | ((with_reducible refine (?_ : am_Does _ 43 (Sum.inr (Sum.inr 53) :: _) _ _)); refine w_at_X3_53 (ν := ν) _ ?_  (fun _ => ?_)) | ((with_reducible refine (?_ : am_Does _ 43 (Sum.inr (Sum.inr 55) :: _) _ _)); refine w_at_X3_55 (ν := ν) _ ?_  (fun _ => ?_)) | ((with_reducible refine (?_ : am_Does _ 43 (Sum.inr (Sum.inr 58) :: _) _ _)); refine w_at_X3_58 (ν := ν) _ ?_  (fun _ => ?_)) | ((with_reducible refine (?_ : am_Does _ 43 (Sum.inr (Sum.inr 60) :: _) _ _)); refine w_at_X3_60 (ν := ν) _ ?_  (fun _ => ?_)) | ((with_reducible refine (?_ : am_Does _ 43 (Sum.inr (Sum.inr 36) :: _) _ _)); refine w_at36 (ν := ν) _ ?_ (fun _ _ _ => ?_) ?_) | refine w_at_X3_44 (ν := ν) _ ?_  (fun _ => ?_) | refine w_at_X3_46 (ν := ν) _ ?_  (fun _ => ?_) | refine w_at_X3_48 (ν := ν) _ ?_  (fun _ => ?_) | refine w_at_X3_50 (ν := ν) _ ?_  (fun _ => ?_) | refine w_at_X3_53 (ν := ν) _ ?_  (fun _ => ?_) | refine w_at_X3_55 (ν := ν) _ ?_  (fun _ => ?_) | refine w_at_X3_58 (ν := ν) _ ?_  (fun _ => ?_) | refine w_at_X3_60 (ν := ν) _ ?_  (fun _ => ?_) | refine w_at36 (ν := ν) _ ?_ (fun _ _ _ => ?_) ?_)
    | ((with_reducible refine (?_ : am_AW _ _ _ _ _ 2 _ _ _)); refine lp2' _ _ ?_ ?_ ?_)
    | refine And.intro (fun h => absurd h (by decide)) (fun _ => ?_)
    | refine And.intro (fun _ => ?_) (fun h => absurd (by decide) h)
    | refine And.intro (fun _ => ?_) (fun _ => ?_)
    | refine And.intro ?_ ?_
  all_goals (first | (with_reducible assumption) | decide | omega | assumption | (intros; omega) | (intros; simp only [am_c] at * <;> omega) | (simp only [am_c, am_up] at * <;> omega) | (simp [am_c, am_up] at * <;> omega))
