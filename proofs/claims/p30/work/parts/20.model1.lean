/-! what stays, what is within bounds: the model's side -/
def mi (μ : am_N) : Prop := (0 ≤ μ 83 14 ∧ μ 83 14 ≤ 4) ∧ (0 ≤ μ 83 15 ∧ μ 83 15 ≤ 6) ∧ (0 ≤ μ 83 16 ∧ μ 83 16 ≤ 4) ∧ (0 ≤ μ 83 21 ∧ μ 83 21 ≤ 96) ∧ (0 ≤ μ 83 33 ∧ μ 83 33 ≤ 6) ∧ (0 ≤ μ 83 40 ∧ μ 83 40 ≤ 6) ∧ (0 ≤ μ 83 42 ∧ μ 83 42 ≤ 12) ∧ (0 ≤ μ 98 44 ∧ μ 98 44 ≤ 4) ∧ (0 ≤ μ 98 38 ∧ μ 98 38 ≤ 6) ∧ (0 ≤ μ 98 39 ∧ μ 98 39 ≤ 4) ∧ sx_3 μ 100
/-- scratch of the model's own races -/
def mT (k _ : Nat) : Bool := Nat.beq k 99 || (Nat.beq k 100 || Nat.beq k 104)
/-- scratch of the model: without the kept rows -/
def ms (k j : Nat) : Bool := mT k j || (Nat.beq k 84 || (Nat.beq k 95 || (Nat.beq k 96 || (Nat.beq k 97 || (Nat.beq k 83 && (Nat.beq j 22 || (Nat.beq j 23 || (Nat.beq j 26 || (Nat.beq j 27 || (Nat.beq j 35 || (Nat.beq j 36 || (Nat.beq j 37 || Nat.beq j 38))))))))))))
def mo (A B : Nat → Nat → Bool) : Nat → Nat → Bool := fun k j => A k j || B k j
/-- all bounds hold; outside A nothing is other than in ν -/
def gm (A : Nat → Nat → Bool) (ν μ : am_N) : Prop := mi μ ∧ ∀ k j, A k j = false → μ k j = ν k j
theorem gm_rf {A : Nat → Nat → Bool} {μ : am_N} (h : mi μ) : gm A μ μ := ⟨h, fun _ _ _ => rfl⟩
theorem gm_i {A : Nat → Nat → Bool} {ν μ : am_N} (h : gm A ν μ) : mi μ := h.1
theorem gm_tr {A B : Nat → Nat → Bool} {ν μ μ' : am_N} (h : gm A ν μ) (h2 : gm B μ μ') (hs : ∀ k j, A k j = false → B k j = false) : gm A ν μ' := ⟨h2.1, fun k j hk => (h2.2 k j (hs k j hk)).trans (h.2 k j hk)⟩
/-- cells whose bounds the invariant tells -/
def mi_b (k j : Nat) : Bool := (Nat.beq k 83 && (Nat.beq j 14 || (Nat.beq j 15 || (Nat.beq j 16 || (Nat.beq j 21 || (Nat.beq j 33 || (Nat.beq j 40 || Nat.beq j 42))))))) || ((Nat.beq k 98 && Nat.blt j 60) || Nat.beq k 100)
theorem mi_up {μ : am_N} {k j : Nat} {v : Int} (h : mi μ) (hk : mi_b k j = false) : mi (am_up μ k j v) := by
  have e : ∀ a b, mi_b a b = true → am_up μ k j v a b = μ a b := fun a b q => by
    rw [am_upS, if_neg (fun z => by rw [z.1, z.2, hk] at q; cases q)]
  unfold mi at h ⊢
  rw [e 83 14 rfl, e 83 15 rfl, e 83 16 rfl, e 83 21 rfl, e 83 33 rfl, e 83 40 rfl, e 83 42 rfl, e 98 44 rfl, e 98 38 rfl, e 98 39 rfl]
  refine ⟨h.1, h.2.1, h.2.2.1, h.2.2.2.1, h.2.2.2.2.1, h.2.2.2.2.2.1, h.2.2.2.2.2.2.1, h.2.2.2.2.2.2.2.1, h.2.2.2.2.2.2.2.2.1, h.2.2.2.2.2.2.2.2.2.1, fun p hp => ?_⟩
  rw [e 100 p (by simp [mi_b])]
  exact h.2.2.2.2.2.2.2.2.2.2 p hp
theorem mi_100 {μ : am_N} {j : Nat} {v : Int} (h : mi μ) (h0 : 0 ≤ v) (h1 : v ≤ 3) : mi (am_up μ 100 j v) := by
  have e : ∀ a b, a ≠ 100 → am_up μ 100 j v a b = μ a b := fun a b q => am_upN q
  unfold mi at h ⊢
  rw [e 83 14 (by decide), e 83 15 (by decide), e 83 16 (by decide), e 83 21 (by decide), e 83 33 (by decide), e 83 40 (by decide), e 83 42 (by decide), e 98 44 (by decide), e 98 38 (by decide), e 98 39 (by decide)]
  exact ⟨h.1, h.2.1, h.2.2.1, h.2.2.2.1, h.2.2.2.2.1, h.2.2.2.2.2.1, h.2.2.2.2.2.2.1, h.2.2.2.2.2.2.2.1, h.2.2.2.2.2.2.2.2.1, h.2.2.2.2.2.2.2.2.2.1, sx_3S h.2.2.2.2.2.2.2.2.2.2 h0 h1⟩
theorem gm_up {A : Nat → Nat → Bool} {ν μ : am_N} {k j : Nat} {v : Int} (h : gm A ν μ) (hA : A k j = true) (hk : mi_b k j = false) : gm A ν (am_up μ k j v) := ⟨mi_up h.1 hk, fun a b q => by
  rw [am_upS, if_neg (fun z => by rw [z.1, z.2, hA] at q; cases q)]
  exact h.2 a b q⟩
theorem gm_100 {A : Nat → Nat → Bool} {ν μ : am_N} {j : Nat} {v : Int} (h : gm A ν μ) (hA : A 100 j = true) (h0 : 0 ≤ v) (h1 : v ≤ 3) : gm A ν (am_up μ 100 j v) := ⟨mi_100 h.1 h0 h1, fun a b q => by
  rw [am_upS, if_neg (fun z => by rw [z.1, z.2, hA] at q; cases q)]
  exact h.2 a b q⟩
theorem mi_all {μ : am_N} (h : mi μ) : (0 ≤ μ 83 14 ∧ μ 83 14 ≤ 4) ∧ (0 ≤ μ 83 15 ∧ μ 83 15 ≤ 6) ∧ (0 ≤ μ 83 16 ∧ μ 83 16 ≤ 4) ∧ (0 ≤ μ 83 21 ∧ μ 83 21 ≤ 96) ∧ (0 ≤ μ 83 33 ∧ μ 83 33 ≤ 6) ∧ (0 ≤ μ 83 40 ∧ μ 83 40 ≤ 6) ∧ (0 ≤ μ 83 42 ∧ μ 83 42 ≤ 12) ∧ (0 ≤ μ 100 0 ∧ μ 100 0 ≤ 3) ∧ (0 ≤ μ 100 1 ∧ μ 100 1 ≤ 3) ∧ (0 ≤ μ 100 2 ∧ μ 100 2 ≤ 3) ∧ (0 ≤ μ 100 3 ∧ μ 100 3 ≤ 3) :=
  ⟨h.1, h.2.1, h.2.2.1, h.2.2.2.1, h.2.2.2.2.1, h.2.2.2.2.2.1, h.2.2.2.2.2.2.1, h.2.2.2.2.2.2.2.2.2.2 0 (by decide), h.2.2.2.2.2.2.2.2.2.2 1 (by decide), h.2.2.2.2.2.2.2.2.2.2 2 (by decide), h.2.2.2.2.2.2.2.2.2.2 3 (by decide)⟩
theorem mi_or {μ : am_N} (h : mi μ) (p : Nat) (hp : p < 4) : 0 ≤ μ 100 p ∧ μ 100 p ≤ 3 := h.2.2.2.2.2.2.2.2.2.2 p hp

theorem m_isIn {l : Launch} {μ : am_N} {Q : Option am_V → am_N → Prop} (v a b : Int) (k1 : am_c a ≤ am_c v → am_c v ≤ am_c b → Q (some (.inl 1)) μ) (k2 : (am_c v < am_c a ∨ am_c b < am_c v) → Q (some (.inl 0)) μ) : am_Does l 143 [.inl v, .inl a, .inl b] μ Q := by
  refine am_Does_of (Nat.le_of_ble_eq_true rfl) (Nat.le_of_ble_eq_true rfl) (Nat.le_of_ble_eq_true rfl) ?_
  refine am_go (ct := fun _ => false) am_oX7_isIn 300 ?_
  conv => whnf
  repeat' first
    | (refine (?_ : am_wp _ _ _ _ _ _ _ _ _ _ _ _); conv => whnf)
    | (refine (?_ : am_sw _ _ _ _); conv => whnf)
    | refine And.intro trivial ?_
    | exact trivial
    | (with_reducible assumption)
    | ((with_reducible refine (?_ : _ ∧ _)); first | (with_reducible first | refine am_jn am_q1 ?_ | refine am_jn am_q2 ?_ | refine am_jn am_q3 ?_ | refine am_jn am_q4 ?_ | refine am_jn am_q6 ?_ | refine am_jn am_q9 ?_ | refine am_jn am_p1 ?_ | refine am_jy am_p0 ?_ | refine am_kn am_q1 ?_ | refine am_kn am_q2 ?_ | refine am_kn am_q3 ?_ | refine am_kn am_q4 ?_ | refine am_kn am_q6 ?_ | refine am_kn am_q9 ?_ | refine am_kn am_p1 ?_ | refine am_ky am_p0 ?_) | refine And.intro (fun h => absurd h (by decide)) (fun _ => ?_) | refine And.intro (fun _ => ?_) (fun h => absurd (by decide) h) | refine And.intro (fun _ => ?_) (fun _ => ?_) | refine And.intro ?_ ?_)
    | refine k1 ?_ ?_
    | refine k2 ?_
    | refine And.intro (fun h => absurd h (by decide)) (fun _ => ?_)
    | refine And.intro (fun _ => ?_) (fun h => absurd (by decide) h)
    | refine And.intro (fun _ => ?_) (fun _ => ?_)
    | refine And.intro ?_ ?_
  all_goals (first | (with_reducible assumption) | decide | omega | assumption | (intros; omega) | (intros; simp only [am_c] at * <;> omega) | (simp only [am_c, am_up] at * <;> omega) | (simp [am_c, am_up] at * <;> omega))
theorem m_bound {l : Launch} {μ : am_N} {Q : Option am_V → am_N → Prop} (v a b : Int) (k1 : am_c v < am_c a → Q (some (.inl (-4))) μ) (k2 : am_c a ≤ am_c v → am_c b < am_c v → Q (some (.inl (-6))) μ) (k3 : am_c a ≤ am_c v → am_c v ≤ am_c b → Q (some (.inl 0)) μ) : am_Does l 144 [.inl v, .inl a, .inl b] μ Q := by
  refine am_Does_of (Nat.le_of_ble_eq_true rfl) (Nat.le_of_ble_eq_true rfl) (Nat.le_of_ble_eq_true rfl) ?_
  refine am_go (ct := fun _ => false) am_oX7_bound 300 ?_
  conv => whnf
  repeat' first
    | (refine (?_ : am_wp _ _ _ _ _ _ _ _ _ _ _ _); conv => whnf)
    | (refine (?_ : am_sw _ _ _ _); conv => whnf)
    | refine And.intro trivial ?_
    | exact trivial
    | (with_reducible assumption)
    | ((with_reducible refine (?_ : _ ∧ _)); first | (with_reducible first | refine am_jn am_q1 ?_ | refine am_jn am_q2 ?_ | refine am_jn am_q3 ?_ | refine am_jn am_q4 ?_ | refine am_jn am_q6 ?_ | refine am_jn am_q9 ?_ | refine am_jn am_p1 ?_ | refine am_jy am_p0 ?_ | refine am_kn am_q1 ?_ | refine am_kn am_q2 ?_ | refine am_kn am_q3 ?_ | refine am_kn am_q4 ?_ | refine am_kn am_q6 ?_ | refine am_kn am_q9 ?_ | refine am_kn am_p1 ?_ | refine am_ky am_p0 ?_) | refine And.intro (fun h => absurd h (by decide)) (fun _ => ?_) | refine And.intro (fun _ => ?_) (fun h => absurd (by decide) h) | refine And.intro (fun _ => ?_) (fun _ => ?_) | refine And.intro ?_ ?_)
    | refine k1 ?_
    | refine k2 ?_ ?_
    | refine k3 ?_ ?_
    | refine And.intro (fun h => absurd h (by decide)) (fun _ => ?_)
    | refine And.intro (fun _ => ?_) (fun h => absurd (by decide) h)
    | refine And.intro (fun _ => ?_) (fun _ => ?_)
    | refine And.intro ?_ ?_
  all_goals (first | (with_reducible assumption) | decide | omega | assumption | (intros; omega) | (intros; simp only [am_c] at * <;> omega) | (simp only [am_c, am_up] at * <;> omega) | (simp [am_c, am_up] at * <;> omega))
theorem m_atLeastOne {l : Launch} {μ : am_N} {Q : Option am_V → am_N → Prop} (v : Int)   (k : ∀ r : Int, Q (some (.inl r)) μ) : am_Does l 145 [.inl v] μ Q := by
  refine am_Does_of (Nat.le_of_ble_eq_true rfl) (Nat.le_of_ble_eq_true rfl) (Nat.le_of_ble_eq_true rfl) ?_
  refine am_go (ct := fun _ => false) am_oX7_atLeastOne 300 ?_
  conv => whnf
  repeat' first
    | (refine (?_ : am_wp _ _ _ _ _ _ _ _ _ _ _ _); conv => whnf)
    | (refine (?_ : am_sw _ _ _ _); conv => whnf)
    | refine And.intro trivial ?_
    | exact trivial
    | (with_reducible assumption)
    | ((with_reducible refine (?_ : _ ∧ _)); first | (with_reducible first | refine am_jn am_q1 ?_ | refine am_jn am_q2 ?_ | refine am_jn am_q3 ?_ | refine am_jn am_q4 ?_ | refine am_jn am_q6 ?_ | refine am_jn am_q9 ?_ | refine am_jn am_p1 ?_ | refine am_jy am_p0 ?_ | refine am_kn am_q1 ?_ | refine am_kn am_q2 ?_ | refine am_kn am_q3 ?_ | refine am_kn am_q4 ?_ | refine am_kn am_q6 ?_ | refine am_kn am_q9 ?_ | refine am_kn am_p1 ?_ | refine am_ky am_p0 ?_) | refine And.intro (fun h => absurd h (by decide)) (fun _ => ?_) | refine And.intro (fun _ => ?_) (fun h => absurd (by decide) h) | refine And.intro (fun _ => ?_) (fun _ => ?_) | refine And.intro ?_ ?_)
    | exact k _
    | refine And.intro (fun h => absurd h (by decide)) (fun _ => ?_)
    | refine And.intro (fun _ => ?_) (fun h => absurd (by decide) h)
    | refine And.intro (fun _ => ?_) (fun _ => ?_)
    | refine And.intro ?_ ?_
  all_goals (first | (with_reducible assumption) | decide | omega | assumption | (intros; omega) | (intros; simp only [am_c] at * <;> omega) | (simp only [am_c, am_up] at * <;> omega) | (simp [am_c, am_up] at * <;> omega))
theorem m_isRunner {l : Launch} {μ : am_N} {Q : Option am_V → am_N → Prop} (r : Int) (hS : mi μ) (k1 : 0 ≤ am_c r → am_c r < μ 83 14 → am_c r < 4 → Q (some (.inl 1)) μ) (k2 : (am_c r < 0 ∨ μ 83 14 ≤ am_c r) → Q (some (.inl 0)) μ) : am_Does l 146 [.inr (.inr 83), .inl r] μ Q := by
  refine am_Does_of (Nat.le_of_ble_eq_true rfl) (Nat.le_of_ble_eq_true rfl) (Nat.le_of_ble_eq_true rfl) ?_
  have hb := mi_all hS
  refine am_go (ct := fun _ => false) am_oX7_isRunner 300 ?_
  conv => whnf
  repeat' first
    | (refine (?_ : am_wp _ _ _ _ _ _ _ _ _ _ _ _); conv => whnf)
    | (refine (?_ : am_sw _ _ _ _); conv => whnf)
    | refine And.intro trivial ?_
    | exact trivial
    | (with_reducible assumption)
    | ((with_reducible refine (?_ : _ ∧ _)); first | (with_reducible first | refine am_jn am_q1 ?_ | refine am_jn am_q2 ?_ | refine am_jn am_q3 ?_ | refine am_jn am_q4 ?_ | refine am_jn am_q6 ?_ | refine am_jn am_q9 ?_ | refine am_jn am_p1 ?_ | refine am_jy am_p0 ?_ | refine am_kn am_q1 ?_ | refine am_kn am_q2 ?_ | refine am_kn am_q3 ?_ | refine am_kn am_q4 ?_ | refine am_kn am_q6 ?_ | refine am_kn am_q9 ?_ | refine am_kn am_p1 ?_ | refine am_ky am_p0 ?_) | refine And.intro (fun h => absurd h (by decide)) (fun _ => ?_) | refine And.intro (fun _ => ?_) (fun h => absurd (by decide) h) | refine And.intro (fun _ => ?_) (fun _ => ?_) | refine And.intro ?_ ?_)
    | refine k1 ?_ ?_ ?_
    | refine k2 ?_
    | refine And.intro (fun h => absurd h (by decide)) (fun _ => ?_)
    | refine And.intro (fun _ => ?_) (fun h => absurd (by decide) h)
    | refine And.intro (fun _ => ?_) (fun _ => ?_)
    | refine And.intro ?_ ?_
  all_goals (first | (with_reducible assumption) | decide | omega | assumption | (intros; omega) | (intros; simp only [am_c] at * <;> omega) | (simp only [am_c, am_up] at * <;> omega) | (simp [am_c, am_up] at * <;> omega))
theorem m_areTwo {l : Launch} {μ : am_N} {Q : Option am_V → am_N → Prop} (a b : Int) (hS : mi μ) (k1 : 0 ≤ am_c a → am_c a < 4 → 0 ≤ am_c b → am_c b < 4 → 2 ≤ μ 83 14 → Q (some (.inl 1)) μ) (k2 : Q (some (.inl 0)) μ) : am_Does l 147 [.inr (.inr 83), .inl a, .inl b] μ Q := by
  refine am_Does_of (Nat.le_of_ble_eq_true rfl) (Nat.le_of_ble_eq_true rfl) (Nat.le_of_ble_eq_true rfl) ?_
  have hb := mi_all hS
  refine am_go (ct := fun _ => false) am_oX7_areTwo 300 ?_
  conv => whnf
  repeat' first
    | (refine (?_ : am_wp _ _ _ _ _ _ _ _ _ _ _ _); conv => whnf)
    | (refine (?_ : am_sw _ _ _ _); conv => whnf)
    | refine And.intro trivial ?_
    | exact trivial
    | (with_reducible assumption)
    | exact k2
    | ((with_reducible refine (?_ : _ ∧ _)); first | (with_reducible first | refine am_jn am_q1 ?_ | refine am_jn am_q2 ?_ | refine am_jn am_q3 ?_ | refine am_jn am_q4 ?_ | refine am_jn am_q6 ?_ | refine am_jn am_q9 ?_ | refine am_jn am_p1 ?_ | refine am_jy am_p0 ?_ | refine am_kn am_q1 ?_ | refine am_kn am_q2 ?_ | refine am_kn am_q3 ?_ | refine am_kn am_q4 ?_ | refine am_kn am_q6 ?_ | refine am_kn am_q9 ?_ | refine am_kn am_p1 ?_ | refine am_ky am_p0 ?_) | refine And.intro (fun h => absurd h (by decide)) (fun _ => ?_) | refine And.intro (fun _ => ?_) (fun h => absurd (by decide) h) | refine And.intro (fun _ => ?_) (fun _ => ?_) | refine And.intro ?_ ?_)
    | refine k1 ?_ ?_ ?_ ?_ ?_
    | ((with_reducible refine (?_ : am_Does _ 146 _ _ _)); refine m_isRunner _ ?_ (fun _ _ _ => ?_) (fun _ => ?_))
    | refine And.intro (fun h => absurd h (by decide)) (fun _ => ?_)
    | refine And.intro (fun _ => ?_) (fun h => absurd (by decide) h)
    | refine And.intro (fun _ => ?_) (fun _ => ?_)
    | refine And.intro ?_ ?_
  all_goals (first | (with_reducible assumption) | decide | omega | assumption | (intros; omega) | (intros; simp only [am_c] at * <;> omega) | (simp only [am_c, am_up] at * <;> omega) | (simp [am_c, am_up] at * <;> omega))
theorem m_timeOver {l : Launch} {μ : am_N} {Q : Option am_V → am_N → Prop} (r y s : Int) (hS : mi μ) (hr0 : 0 ≤ am_c r) (hr1 : am_c r < 4) (k : ∀ r : Int, Q (some (.inl r)) μ) : am_Does l 162 [.inr (.inr 83), .inl r, .inl y, .inl s] μ Q := by
  refine am_Does_of (Nat.le_of_ble_eq_true rfl) (Nat.le_of_ble_eq_true rfl) (Nat.le_of_ble_eq_true rfl) ?_
  have hb := mi_all hS
  have lp81 : ∀ (y4 p5 t6 s7 : Int), am_AW l 0 (fun _ => 0) 162 Q 81 [some (.inr (.inr 83)), some (.inl r), some (.inl y), some (.inl s), some (.inl y4), some (.inl p5), some (.inl t6), some (.inl s7)] [] μ := by
    intro y4 p5 t6 s7  
    refine am_go (ct := fun pc => Nat.beq pc 81 || Nat.beq pc 57) am_oX7_timeOver 300 ?_
    conv => whnf
    repeat' first
      | (refine (?_ : am_wp _ _ _ _ _ _ _ _ _ _ _ _); conv => whnf)
      | (refine (?_ : am_sw _ _ _ _); conv => whnf)
      | refine And.intro trivial ?_
      | exact trivial
      | (with_reducible assumption)
      | ((with_reducible refine (?_ : _ ∧ _)); first | (with_reducible first | refine am_jn am_q1 ?_ | refine am_jn am_q2 ?_ | refine am_jn am_q3 ?_ | refine am_jn am_q4 ?_ | refine am_jn am_q6 ?_ | refine am_jn am_q9 ?_ | refine am_jn am_p1 ?_ | refine am_jy am_p0 ?_ | refine am_kn am_q1 ?_ | refine am_kn am_q2 ?_ | refine am_kn am_q3 ?_ | refine am_kn am_q4 ?_ | refine am_kn am_q6 ?_ | refine am_kn am_q9 ?_ | refine am_kn am_p1 ?_ | refine am_ky am_p0 ?_) | refine And.intro (fun h => absurd h (by decide)) (fun _ => ?_) | refine And.intro (fun _ => ?_) (fun h => absurd (by decide) h) | refine And.intro (fun _ => ?_) (fun _ => ?_) | refine And.intro ?_ ?_)
      | exact k _
      | ((with_reducible refine (?_ : am_Does _ 145 _ _ _)); refine m_atLeastOne _   (fun _ => ?_))
      | refine And.intro (fun h => absurd h (by decide)) (fun _ => ?_)
      | refine And.intro (fun _ => ?_) (fun h => absurd (by decide) h)
      | refine And.intro (fun _ => ?_) (fun _ => ?_)
      | refine And.intro ?_ ?_
    all_goals (first | (with_reducible assumption) | decide | omega | assumption | (intros; omega) | (intros; simp only [am_c] at * <;> omega) | (simp only [am_c, am_up] at * <;> omega) | (simp [am_c, am_up] at * <;> omega))
  have lp57 : ∀ (y4 p5 t6 : Int), am_AW l 0 (fun _ => 0) 162 Q 57 [some (.inr (.inr 83)), some (.inl r), some (.inl y), some (.inl s), some (.inl y4), some (.inl p5), some (.inl t6), none] [] μ := by
    intro y4 p5 t6  
    refine am_go (ct := fun pc => Nat.beq pc 81 || Nat.beq pc 57) am_oX7_timeOver 300 ?_
    conv => whnf
    repeat' first
      | (refine (?_ : am_wp _ _ _ _ _ _ _ _ _ _ _ _); conv => whnf)
      | (refine (?_ : am_sw _ _ _ _); conv => whnf)
      | refine And.intro trivial ?_
      | exact trivial
      | (with_reducible assumption)
      | ((with_reducible refine (?_ : _ ∧ _)); first | (with_reducible first | refine am_jn am_q1 ?_ | refine am_jn am_q2 ?_ | refine am_jn am_q3 ?_ | refine am_jn am_q4 ?_ | refine am_jn am_q6 ?_ | refine am_jn am_q9 ?_ | refine am_jn am_p1 ?_ | refine am_jy am_p0 ?_ | refine am_kn am_q1 ?_ | refine am_kn am_q2 ?_ | refine am_kn am_q3 ?_ | refine am_kn am_q4 ?_ | refine am_kn am_q6 ?_ | refine am_kn am_q9 ?_ | refine am_kn am_p1 ?_ | refine am_ky am_p0 ?_) | refine And.intro (fun h => absurd h (by decide)) (fun _ => ?_) | refine And.intro (fun _ => ?_) (fun h => absurd (by decide) h) | refine And.intro (fun _ => ?_) (fun _ => ?_) | refine And.intro ?_ ?_)
      | exact k _
      | ((with_reducible refine (?_ : am_Does _ 145 _ _ _)); refine m_atLeastOne _   (fun _ => ?_))
      | ((with_reducible refine (?_ : am_AW _ _ _ _ _ 81 _ _ _)); refine lp81 _ _ _ _  )
      | refine And.intro (fun h => absurd h (by decide)) (fun _ => ?_)
      | refine And.intro (fun _ => ?_) (fun h => absurd (by decide) h)
      | refine And.intro (fun _ => ?_) (fun _ => ?_)
      | refine And.intro ?_ ?_
    all_goals (first | (with_reducible assumption) | decide | omega | assumption | (intros; omega) | (intros; simp only [am_c] at * <;> omega) | (simp only [am_c, am_up] at * <;> omega) | (simp [am_c, am_up] at * <;> omega))
  refine am_go (ct := fun pc => Nat.beq pc 81 || Nat.beq pc 57) am_oX7_timeOver 300 ?_
  conv => whnf
  repeat' first
    | (refine (?_ : am_wp _ _ _ _ _ _ _ _ _ _ _ _); conv => whnf)
    | (refine (?_ : am_sw _ _ _ _); conv => whnf)
    | refine And.intro trivial ?_
    | exact trivial
    | (with_reducible assumption)
    | ((with_reducible refine (?_ : _ ∧ _)); first | (with_reducible first | refine am_jn am_q1 ?_ | refine am_jn am_q2 ?_ | refine am_jn am_q3 ?_ | refine am_jn am_q4 ?_ | refine am_jn am_q6 ?_ | refine am_jn am_q9 ?_ | refine am_jn am_p1 ?_ | refine am_jy am_p0 ?_ | refine am_kn am_q1 ?_ | refine am_kn am_q2 ?_ | refine am_kn am_q3 ?_ | refine am_kn am_q4 ?_ | refine am_kn am_q6 ?_ | refine am_kn am_q9 ?_ | refine am_kn am_p1 ?_ | refine am_ky am_p0 ?_) | refine And.intro (fun h => absurd h (by decide)) (fun _ => ?_) | refine And.intro (fun _ => ?_) (fun h => absurd (by decide) h) | refine And.intro (fun _ => ?_) (fun _ => ?_) | refine And.intro ?_ ?_)
    | exact k _
    | ((with_reducible refine (?_ : am_Does _ 145 _ _ _)); refine m_atLeastOne _   (fun _ => ?_))
    | ((with_reducible refine (?_ : am_AW _ _ _ _ _ 57 _ _ _)); refine lp57 _ _ _  )
    | ((with_reducible refine (?_ : am_AW _ _ _ _ _ 81 _ _ _)); refine lp81 _ _ _ _  )
    | refine And.intro (fun h => absurd h (by decide)) (fun _ => ?_)
    | refine And.intro (fun _ => ?_) (fun h => absurd (by decide) h)
    | refine And.intro (fun _ => ?_) (fun _ => ?_)
    | refine And.intro ?_ ?_
  all_goals (first | (with_reducible assumption) | decide | omega | assumption | (intros; omega) | (intros; simp only [am_c] at * <;> omega) | (simp only [am_c, am_up] at * <;> omega) | (simp [am_c, am_up] at * <;> omega))
theorem m_timeBy {l : Launch} {μ : am_N} {Q : Option am_V → am_N → Prop} (r s : Int) (hS : mi μ) (hr0 : 0 ≤ am_c r) (hr1 : am_c r < 4) (k : ∀ r : Int, Q (some (.inl r)) μ) : am_Does l 163 [.inr (.inr 83), .inl r, .inl s] μ Q := by
  refine am_Does_of (Nat.le_of_ble_eq_true rfl) (Nat.le_of_ble_eq_true rfl) (Nat.le_of_ble_eq_true rfl) ?_
  have hb := mi_all hS
  refine am_go (ct := fun _ => false) am_oX7_timeBy 300 ?_
  conv => whnf
  repeat' first
    | (refine (?_ : am_wp _ _ _ _ _ _ _ _ _ _ _ _); conv => whnf)
    | (refine (?_ : am_sw _ _ _ _); conv => whnf)
    | refine And.intro trivial ?_
    | exact trivial
    | (with_reducible assumption)
    | ((with_reducible refine (?_ : _ ∧ _)); first | (with_reducible first | refine am_jn am_q1 ?_ | refine am_jn am_q2 ?_ | refine am_jn am_q3 ?_ | refine am_jn am_q4 ?_ | refine am_jn am_q6 ?_ | refine am_jn am_q9 ?_ | refine am_jn am_p1 ?_ | refine am_jy am_p0 ?_ | refine am_kn am_q1 ?_ | refine am_kn am_q2 ?_ | refine am_kn am_q3 ?_ | refine am_kn am_q4 ?_ | refine am_kn am_q6 ?_ | refine am_kn am_q9 ?_ | refine am_kn am_p1 ?_ | refine am_ky am_p0 ?_) | refine And.intro (fun h => absurd h (by decide)) (fun _ => ?_) | refine And.intro (fun _ => ?_) (fun h => absurd (by decide) h) | refine And.intro (fun _ => ?_) (fun _ => ?_) | refine And.intro ?_ ?_)
    | exact k _
    | ((with_reducible refine (?_ : am_Does _ 162 _ _ _)); refine m_timeOver _ _ _ ?_ ?_ ?_ (fun _ => ?_))
    | refine And.intro (fun h => absurd h (by decide)) (fun _ => ?_)
    | refine And.intro (fun _ => ?_) (fun h => absurd (by decide) h)
    | refine And.intro (fun _ => ?_) (fun _ => ?_)
    | refine And.intro ?_ ?_
  all_goals (first | (with_reducible assumption) | decide | omega | assumption | (intros; omega) | (intros; simp only [am_c] at * <;> omega) | (simp only [am_c, am_up] at * <;> omega) | (simp [am_c, am_up] at * <;> omega))
theorem m_timeOf {l : Launch} {μ : am_N} {Q : Option am_V → am_N → Prop} (r : Int) (hS : mi μ) (hr0 : 0 ≤ am_c r) (hr1 : am_c r < 4) (k : ∀ r : Int, Q (some (.inl r)) μ) : am_Does l 164 [.inr (.inr 83), .inl r] μ Q := by
  refine am_Does_of (Nat.le_of_ble_eq_true rfl) (Nat.le_of_ble_eq_true rfl) (Nat.le_of_ble_eq_true rfl) ?_
  have hb := mi_all hS
  refine am_go (ct := fun _ => false) am_oX7_timeOf 300 ?_
  conv => whnf
  repeat' first
    | (refine (?_ : am_wp _ _ _ _ _ _ _ _ _ _ _ _); conv => whnf)
    | (refine (?_ : am_sw _ _ _ _); conv => whnf)
    | refine And.intro trivial ?_
    | exact trivial
    | (with_reducible assumption)
    | ((with_reducible refine (?_ : _ ∧ _)); first | (with_reducible first | refine am_jn am_q1 ?_ | refine am_jn am_q2 ?_ | refine am_jn am_q3 ?_ | refine am_jn am_q4 ?_ | refine am_jn am_q6 ?_ | refine am_jn am_q9 ?_ | refine am_jn am_p1 ?_ | refine am_jy am_p0 ?_ | refine am_kn am_q1 ?_ | refine am_kn am_q2 ?_ | refine am_kn am_q3 ?_ | refine am_kn am_q4 ?_ | refine am_kn am_q6 ?_ | refine am_kn am_q9 ?_ | refine am_kn am_p1 ?_ | refine am_ky am_p0 ?_) | refine And.intro (fun h => absurd h (by decide)) (fun _ => ?_) | refine And.intro (fun _ => ?_) (fun h => absurd (by decide) h) | refine And.intro (fun _ => ?_) (fun _ => ?_) | refine And.intro ?_ ?_)
    | exact k _
    | ((with_reducible refine (?_ : am_Does _ 163 _ _ _)); refine m_timeBy _ _ ?_ ?_ ?_ (fun _ => ?_))
    | refine And.intro (fun h => absurd h (by decide)) (fun _ => ?_)
    | refine And.intro (fun _ => ?_) (fun h => absurd (by decide) h)
    | refine And.intro (fun _ => ?_) (fun _ => ?_)
    | refine And.intro ?_ ?_
  all_goals (first | (with_reducible assumption) | decide | omega | assumption | (intros; omega) | (intros; simp only [am_c] at * <;> omega) | (simp only [am_c, am_up] at * <;> omega) | (simp [am_c, am_up] at * <;> omega))
theorem m_partTime {l : Launch} {μ : am_N} {Q : Option am_V → am_N → Prop} (r p : Int) (hS : mi μ) (hr0 : 0 ≤ am_c r) (hr1 : am_c r < 4) (k : ∀ r : Int, Q (some (.inl r)) μ) : am_Does l 167 [.inr (.inr 83), .inl r, .inl p] μ Q := by
  refine am_Does_of (Nat.le_of_ble_eq_true rfl) (Nat.le_of_ble_eq_true rfl) (Nat.le_of_ble_eq_true rfl) ?_
  have hb := mi_all hS
  refine am_go (ct := fun _ => false) am_oX7_partTime 300 ?_
  conv => whnf
  repeat' first
    | (refine (?_ : am_wp _ _ _ _ _ _ _ _ _ _ _ _); conv => whnf)
    | (refine (?_ : am_sw _ _ _ _); conv => whnf)
    | refine And.intro trivial ?_
    | exact trivial
    | (with_reducible assumption)
    | ((with_reducible refine (?_ : _ ∧ _)); first | (with_reducible first | refine am_jn am_q1 ?_ | refine am_jn am_q2 ?_ | refine am_jn am_q3 ?_ | refine am_jn am_q4 ?_ | refine am_jn am_q6 ?_ | refine am_jn am_q9 ?_ | refine am_jn am_p1 ?_ | refine am_jy am_p0 ?_ | refine am_kn am_q1 ?_ | refine am_kn am_q2 ?_ | refine am_kn am_q3 ?_ | refine am_kn am_q4 ?_ | refine am_kn am_q6 ?_ | refine am_kn am_q9 ?_ | refine am_kn am_p1 ?_ | refine am_ky am_p0 ?_) | refine And.intro (fun h => absurd h (by decide)) (fun _ => ?_) | refine And.intro (fun _ => ?_) (fun h => absurd (by decide) h) | refine And.intro (fun _ => ?_) (fun _ => ?_) | refine And.intro ?_ ?_)
    | exact k _
    | ((with_reducible refine (?_ : am_Does _ 164 _ _ _)); refine m_timeOf _ ?_ ?_ ?_ (fun _ => ?_))
    | ((with_reducible refine (?_ : am_Does _ 145 _ _ _)); refine m_atLeastOne _   (fun _ => ?_))
    | refine And.intro (fun h => absurd h (by decide)) (fun _ => ?_)
    | refine And.intro (fun _ => ?_) (fun h => absurd (by decide) h)
    | refine And.intro (fun _ => ?_) (fun _ => ?_)
    | refine And.intro ?_ ?_
  all_goals (first | (with_reducible assumption) | decide | omega | assumption | (intros; omega) | (intros; simp only [am_c] at * <;> omega) | (simp only [am_c, am_up] at * <;> omega) | (simp [am_c, am_up] at * <;> omega))
theorem m_races {l : Launch} {μ : am_N} {Q : Option am_V → am_N → Prop} (k : Q (some (.inl (am_shl 1 (2 * μ 83 14)))) μ) : am_Does l 169 [.inr (.inr 83)] μ Q := by
  refine am_Does_of (Nat.le_of_ble_eq_true rfl) (Nat.le_of_ble_eq_true rfl) (Nat.le_of_ble_eq_true rfl) ?_
  refine am_go (ct := fun _ => false) am_oX7_races 300 ?_
  conv => whnf
  repeat' first
    | (refine (?_ : am_wp _ _ _ _ _ _ _ _ _ _ _ _); conv => whnf)
    | (refine (?_ : am_sw _ _ _ _); conv => whnf)
    | refine And.intro trivial ?_
    | exact trivial
    | (with_reducible assumption)
    | exact k
    | ((with_reducible refine (?_ : _ ∧ _)); first | (with_reducible first | refine am_jn am_q1 ?_ | refine am_jn am_q2 ?_ | refine am_jn am_q3 ?_ | refine am_jn am_q4 ?_ | refine am_jn am_q6 ?_ | refine am_jn am_q9 ?_ | refine am_jn am_p1 ?_ | refine am_jy am_p0 ?_ | refine am_kn am_q1 ?_ | refine am_kn am_q2 ?_ | refine am_kn am_q3 ?_ | refine am_kn am_q4 ?_ | refine am_kn am_q6 ?_ | refine am_kn am_q9 ?_ | refine am_kn am_p1 ?_ | refine am_ky am_p0 ?_) | refine And.intro (fun h => absurd h (by decide)) (fun _ => ?_) | refine And.intro (fun _ => ?_) (fun h => absurd (by decide) h) | refine And.intro (fun _ => ?_) (fun _ => ?_) | refine And.intro ?_ ?_)
    | refine And.intro (fun h => absurd h (by decide)) (fun _ => ?_)
    | refine And.intro (fun _ => ?_) (fun h => absurd (by decide) h)
    | refine And.intro (fun _ => ?_) (fun _ => ?_)
    | refine And.intro ?_ ?_
  all_goals (first | (with_reducible assumption) | decide | omega | assumption | (intros; omega) | (intros; simp only [am_c] at * <;> omega) | (simp only [am_c, am_up] at * <;> omega) | (simp [am_c, am_up] at * <;> omega))
theorem m_held {l : Launch} {μ : am_N} {Q : Option am_V → am_N → Prop} (v : Int)   (k : ∀ r : Int, Q (some (.inl r)) μ) : am_Does l 170 [.inl v] μ Q := by
  refine am_Does_of (Nat.le_of_ble_eq_true rfl) (Nat.le_of_ble_eq_true rfl) (Nat.le_of_ble_eq_true rfl) ?_
  refine am_go (ct := fun _ => false) am_oX7_held 300 ?_
  conv => whnf
  repeat' first
    | (refine (?_ : am_wp _ _ _ _ _ _ _ _ _ _ _ _); conv => whnf)
    | (refine (?_ : am_sw _ _ _ _); conv => whnf)
    | refine And.intro trivial ?_
    | exact trivial
    | (with_reducible assumption)
    | ((with_reducible refine (?_ : _ ∧ _)); first | (with_reducible first | refine am_jn am_q1 ?_ | refine am_jn am_q2 ?_ | refine am_jn am_q3 ?_ | refine am_jn am_q4 ?_ | refine am_jn am_q6 ?_ | refine am_jn am_q9 ?_ | refine am_jn am_p1 ?_ | refine am_jy am_p0 ?_ | refine am_kn am_q1 ?_ | refine am_kn am_q2 ?_ | refine am_kn am_q3 ?_ | refine am_kn am_q4 ?_ | refine am_kn am_q6 ?_ | refine am_kn am_q9 ?_ | refine am_kn am_p1 ?_ | refine am_ky am_p0 ?_) | refine And.intro (fun h => absurd h (by decide)) (fun _ => ?_) | refine And.intro (fun _ => ?_) (fun h => absurd (by decide) h) | refine And.intro (fun _ => ?_) (fun _ => ?_) | refine And.intro ?_ ?_)
    | exact k _
    | refine And.intro (fun h => absurd h (by decide)) (fun _ => ?_)
    | refine And.intro (fun _ => ?_) (fun h => absurd (by decide) h)
    | refine And.intro (fun _ => ?_) (fun _ => ?_)
    | refine And.intro ?_ ?_
  all_goals (first | (with_reducible assumption) | decide | omega | assumption | (intros; omega) | (intros; simp only [am_c] at * <;> omega) | (simp only [am_c, am_up] at * <;> omega) | (simp [am_c, am_up] at * <;> omega))
theorem m_digits {l : Launch} {μ : am_N} {Q : Option am_V → am_N → Prop}  (hS : mi μ)  (k : ∀ r : Int, Q (some (.inl r)) μ) : am_Does l 178 [.inr (.inr 83)] μ Q := by
  refine am_Does_of (Nat.le_of_ble_eq_true rfl) (Nat.le_of_ble_eq_true rfl) (Nat.le_of_ble_eq_true rfl) ?_
  have hb := mi_all hS
  have lp9 : ∀ (m : Nat) (a i : Int) , -1 ≤ i → i ≤ 3 → i + 1 < (m : Int) → am_AW l 0 (fun _ => 0) 178 Q 9 [some (.inr (.inr 83)), some (.inl a), some (.inl i)] [] μ := by
    intro m
    induction m with
    | zero =>
      intro a i  hv0 hv1 hm
      exfalso
      omega
    | succ m ih =>
      intro a i  hv0 hv1 hm
      refine am_go (ct := fun pc => Nat.beq pc 9) am_oX7_digits 300 ?_
      conv => whnf
      repeat' first
        | (refine (?_ : am_wp _ _ _ _ _ _ _ _ _ _ _ _); conv => whnf)
        | (refine (?_ : am_sw _ _ _ _); conv => whnf)
        | refine And.intro trivial ?_
        | exact trivial
        | (with_reducible assumption)
        | ((with_reducible refine (?_ : _ ∧ _)); first | (with_reducible first | refine am_jn am_q1 ?_ | refine am_jn am_q2 ?_ | refine am_jn am_q3 ?_ | refine am_jn am_q4 ?_ | refine am_jn am_q6 ?_ | refine am_jn am_q9 ?_ | refine am_jn am_p1 ?_ | refine am_jy am_p0 ?_ | refine am_kn am_q1 ?_ | refine am_kn am_q2 ?_ | refine am_kn am_q3 ?_ | refine am_kn am_q4 ?_ | refine am_kn am_q6 ?_ | refine am_kn am_q9 ?_ | refine am_kn am_p1 ?_ | refine am_ky am_p0 ?_) | refine And.intro (fun h => absurd h (by decide)) (fun _ => ?_) | refine And.intro (fun _ => ?_) (fun h => absurd (by decide) h) | refine And.intro (fun _ => ?_) (fun _ => ?_) | refine And.intro ?_ ?_)
        | exact k _
        | ((with_reducible refine (?_ : am_AW _ _ _ _ _ 9 _ _ _)); refine ih _ _  ?_ ?_ ?_)
        | refine And.intro (fun h => absurd h (by decide)) (fun _ => ?_)
        | refine And.intro (fun _ => ?_) (fun h => absurd (by decide) h)
        | refine And.intro (fun _ => ?_) (fun _ => ?_)
        | refine And.intro ?_ ?_
      all_goals (first | (with_reducible assumption) | decide | omega | assumption | (intros; omega) | (intros; simp only [am_c] at * <;> omega) | (simp only [am_c, am_up] at * <;> omega) | (simp [am_c, am_up] at * <;> omega))
  have lp9' : ∀ (a i : Int) , -1 ≤ i → i ≤ 3 → am_AW l 0 (fun _ => 0) 178 Q 9 [some (.inr (.inr 83)), some (.inl a), some (.inl i)] [] μ := fun a i  hv0 hv1 => lp9 ((i + 1) + 1).toNat a i  hv0 hv1 (by omega)
  refine am_go (ct := fun pc => Nat.beq pc 9) am_oX7_digits 300 ?_
  conv => whnf
  repeat' first
    | (refine (?_ : am_wp _ _ _ _ _ _ _ _ _ _ _ _); conv => whnf)
    | (refine (?_ : am_sw _ _ _ _); conv => whnf)
    | refine And.intro trivial ?_
    | exact trivial
    | (with_reducible assumption)
    | ((with_reducible refine (?_ : _ ∧ _)); first | (with_reducible first | refine am_jn am_q1 ?_ | refine am_jn am_q2 ?_ | refine am_jn am_q3 ?_ | refine am_jn am_q4 ?_ | refine am_jn am_q6 ?_ | refine am_jn am_q9 ?_ | refine am_jn am_p1 ?_ | refine am_jy am_p0 ?_ | refine am_kn am_q1 ?_ | refine am_kn am_q2 ?_ | refine am_kn am_q3 ?_ | refine am_kn am_q4 ?_ | refine am_kn am_q6 ?_ | refine am_kn am_q9 ?_ | refine am_kn am_p1 ?_ | refine am_ky am_p0 ?_) | refine And.intro (fun h => absurd h (by decide)) (fun _ => ?_) | refine And.intro (fun _ => ?_) (fun h => absurd (by decide) h) | refine And.intro (fun _ => ?_) (fun _ => ?_) | refine And.intro ?_ ?_)
    | exact k _
    | ((with_reducible refine (?_ : am_AW _ _ _ _ _ 9 _ _ _)); refine lp9' _ _  ?_ ?_)
    | refine And.intro (fun h => absurd h (by decide)) (fun _ => ?_)
    | refine And.intro (fun _ => ?_) (fun h => absurd (by decide) h)
    | refine And.intro (fun _ => ?_) (fun _ => ?_)
    | refine And.intro ?_ ?_
  all_goals (first | (with_reducible assumption) | decide | omega | assumption | (intros; omega) | (intros; simp only [am_c] at * <;> omega) | (simp only [am_c, am_up] at * <;> omega) | (simp [am_c, am_up] at * <;> omega))
theorem m_isOrder {l : Launch} {μ : am_N} {Q : Option am_V → am_N → Prop} (d : Int) (hS : mi μ)  (k : ∀ r : Int, Q (some (.inl r)) μ) : am_Does l 187 [.inr (.inr 83), .inl d] μ Q := by
  refine am_Does_of (Nat.le_of_ble_eq_true rfl) (Nat.le_of_ble_eq_true rfl) (Nat.le_of_ble_eq_true rfl) ?_
  have hb := mi_all hS
  have lp7 : ∀ (m : Nat) (a b i : Int) (o5 : Option am_V) , 0 ≤ i → i ≤ 4 → 4 - i < (m : Int) → am_AW l 0 (fun _ => 0) 187 Q 7 [some (.inr (.inr 83)), some (.inl d), some (.inl a), some (.inl b), some (.inl i), o5] [] μ := by
    intro m
    induction m with
    | zero =>
      intro a b i o5  hv0 hv1 hm
      exfalso
      omega
    | succ m ih =>
      intro a b i o5  hv0 hv1 hm
      refine am_go (ct := fun pc => Nat.beq pc 7) am_oX7_isOrder 300 ?_
      conv => whnf
      repeat' first
        | (refine (?_ : am_wp _ _ _ _ _ _ _ _ _ _ _ _); conv => whnf)
        | (refine (?_ : am_sw _ _ _ _); conv => whnf)
        | refine And.intro trivial ?_
        | exact trivial
        | (with_reducible assumption)
        | ((with_reducible refine (?_ : _ ∧ _)); first | (with_reducible first | refine am_jn am_q1 ?_ | refine am_jn am_q2 ?_ | refine am_jn am_q3 ?_ | refine am_jn am_q4 ?_ | refine am_jn am_q6 ?_ | refine am_jn am_q9 ?_ | refine am_jn am_p1 ?_ | refine am_jy am_p0 ?_ | refine am_kn am_q1 ?_ | refine am_kn am_q2 ?_ | refine am_kn am_q3 ?_ | refine am_kn am_q4 ?_ | refine am_kn am_q6 ?_ | refine am_kn am_q9 ?_ | refine am_kn am_p1 ?_ | refine am_ky am_p0 ?_) | refine And.intro (fun h => absurd h (by decide)) (fun _ => ?_) | refine And.intro (fun _ => ?_) (fun h => absurd (by decide) h) | refine And.intro (fun _ => ?_) (fun _ => ?_) | refine And.intro ?_ ?_)
        | exact k _
        | ((with_reducible refine (?_ : am_Does _ 146 _ _ _)); refine m_isRunner _ ?_ (fun _ _ _ => ?_) (fun _ => ?_))
        | ((with_reducible refine (?_ : am_AW _ _ _ _ _ 7 _ _ _)); refine ih _ _ _ _  ?_ ?_ ?_)
        | refine And.intro (fun h => absurd h (by decide)) (fun _ => ?_)
        | refine And.intro (fun _ => ?_) (fun h => absurd (by decide) h)
        | refine And.intro (fun _ => ?_) (fun _ => ?_)
        | refine And.intro ?_ ?_
      all_goals (first | (with_reducible assumption) | decide | omega | assumption | (intros; omega) | (intros; simp only [am_c] at * <;> omega) | (simp only [am_c, am_up] at * <;> omega) | (simp [am_c, am_up] at * <;> omega))
  have lp7' : ∀ (a b i : Int) (o5 : Option am_V) , 0 ≤ i → i ≤ 4 → am_AW l 0 (fun _ => 0) 187 Q 7 [some (.inr (.inr 83)), some (.inl d), some (.inl a), some (.inl b), some (.inl i), o5] [] μ := fun a b i o5  hv0 hv1 => lp7 ((4 - i) + 1).toNat a b i o5  hv0 hv1 (by omega)
  refine am_go (ct := fun pc => Nat.beq pc 7) am_oX7_isOrder 300 ?_
  conv => whnf
  repeat' first
    | (refine (?_ : am_wp _ _ _ _ _ _ _ _ _ _ _ _); conv => whnf)
    | (refine (?_ : am_sw _ _ _ _); conv => whnf)
    | refine And.intro trivial ?_
    | exact trivial
    | (with_reducible assumption)
    | ((with_reducible refine (?_ : _ ∧ _)); first | (with_reducible first | refine am_jn am_q1 ?_ | refine am_jn am_q2 ?_ | refine am_jn am_q3 ?_ | refine am_jn am_q4 ?_ | refine am_jn am_q6 ?_ | refine am_jn am_q9 ?_ | refine am_jn am_p1 ?_ | refine am_jy am_p0 ?_ | refine am_kn am_q1 ?_ | refine am_kn am_q2 ?_ | refine am_kn am_q3 ?_ | refine am_kn am_q4 ?_ | refine am_kn am_q6 ?_ | refine am_kn am_q9 ?_ | refine am_kn am_p1 ?_ | refine am_ky am_p0 ?_) | refine And.intro (fun h => absurd h (by decide)) (fun _ => ?_) | refine And.intro (fun _ => ?_) (fun h => absurd (by decide) h) | refine And.intro (fun _ => ?_) (fun _ => ?_) | refine And.intro ?_ ?_)
    | exact k _
    | ((with_reducible refine (?_ : am_Does _ 146 _ _ _)); refine m_isRunner _ ?_ (fun _ _ _ => ?_) (fun _ => ?_))
    | ((with_reducible refine (?_ : am_AW _ _ _ _ _ 7 _ _ _)); refine lp7' _ _ _ _  ?_ ?_)
    | refine And.intro (fun h => absurd h (by decide)) (fun _ => ?_)
    | refine And.intro (fun _ => ?_) (fun h => absurd (by decide) h)
    | refine And.intro (fun _ => ?_) (fun _ => ?_)
    | refine And.intro ?_ ?_
  all_goals (first | (with_reducible assumption) | decide | omega | assumption | (intros; omega) | (intros; simp only [am_c] at * <;> omega) | (simp only [am_c, am_up] at * <;> omega) | (simp [am_c, am_up] at * <;> omega))
theorem m_gap {l : Launch} {μ : am_N} {Q : Option am_V → am_N → Prop}  (hS : mi μ)  (k : ∀ r : Int, Q (some (.inl r)) μ) : am_Does l 189 [.inr (.inr 83)] μ Q := by
  refine am_Does_of (Nat.le_of_ble_eq_true rfl) (Nat.le_of_ble_eq_true rfl) (Nat.le_of_ble_eq_true rfl) ?_
  have hb := mi_all hS
  refine am_go (ct := fun _ => false) am_oX7_gap 300 ?_
  conv => whnf
  repeat' first
    | (refine (?_ : am_wp _ _ _ _ _ _ _ _ _ _ _ _); conv => whnf)
    | (refine (?_ : am_sw _ _ _ _); conv => whnf)
    | refine And.intro trivial ?_
    | exact trivial
    | (with_reducible assumption)
    | ((with_reducible refine (?_ : _ ∧ _)); first | (with_reducible first | refine am_jn am_q1 ?_ | refine am_jn am_q2 ?_ | refine am_jn am_q3 ?_ | refine am_jn am_q4 ?_ | refine am_jn am_q6 ?_ | refine am_jn am_q9 ?_ | refine am_jn am_p1 ?_ | refine am_jy am_p0 ?_ | refine am_kn am_q1 ?_ | refine am_kn am_q2 ?_ | refine am_kn am_q3 ?_ | refine am_kn am_q4 ?_ | refine am_kn am_q6 ?_ | refine am_kn am_q9 ?_ | refine am_kn am_p1 ?_ | refine am_ky am_p0 ?_) | refine And.intro (fun h => absurd h (by decide)) (fun _ => ?_) | refine And.intro (fun _ => ?_) (fun h => absurd (by decide) h) | refine And.intro (fun _ => ?_) (fun _ => ?_) | refine And.intro ?_ ?_)
    | exact k _
    | refine And.intro (fun h => absurd h (by decide)) (fun _ => ?_)
    | refine And.intro (fun _ => ?_) (fun h => absurd (by decide) h)
    | refine And.intro (fun _ => ?_) (fun _ => ?_)
    | refine And.intro ?_ ?_
  all_goals (first | (with_reducible assumption) | decide | omega | assumption | (intros; omega) | (intros; simp only [am_c] at * <;> omega) | (simp only [am_c, am_up] at * <;> omega) | (simp [am_c, am_up] at * <;> omega))
theorem m_partBy {l : Launch} {μ : am_N} {Q : Option am_V → am_N → Prop} (a b c : Int)   (k : ∀ r : Int, Q (some (.inl r)) μ) : am_Does l 192 [.inl a, .inl b, .inl c] μ Q := by
  refine am_Does_of (Nat.le_of_ble_eq_true rfl) (Nat.le_of_ble_eq_true rfl) (Nat.le_of_ble_eq_true rfl) ?_
  refine am_go (ct := fun _ => false) am_oX7_partBy 300 ?_
  conv => whnf
  repeat' first
    | (refine (?_ : am_wp _ _ _ _ _ _ _ _ _ _ _ _); conv => whnf)
    | (refine (?_ : am_sw _ _ _ _); conv => whnf)
    | refine And.intro trivial ?_
    | exact trivial
    | (with_reducible assumption)
    | ((with_reducible refine (?_ : _ ∧ _)); first | (with_reducible first | refine am_jn am_q1 ?_ | refine am_jn am_q2 ?_ | refine am_jn am_q3 ?_ | refine am_jn am_q4 ?_ | refine am_jn am_q6 ?_ | refine am_jn am_q9 ?_ | refine am_jn am_p1 ?_ | refine am_jy am_p0 ?_ | refine am_kn am_q1 ?_ | refine am_kn am_q2 ?_ | refine am_kn am_q3 ?_ | refine am_kn am_q4 ?_ | refine am_kn am_q6 ?_ | refine am_kn am_q9 ?_ | refine am_kn am_p1 ?_ | refine am_ky am_p0 ?_) | refine And.intro (fun h => absurd h (by decide)) (fun _ => ?_) | refine And.intro (fun _ => ?_) (fun h => absurd (by decide) h) | refine And.intro (fun _ => ?_) (fun _ => ?_) | refine And.intro ?_ ?_)
    | exact k _
    | ((with_reducible refine (?_ : am_Does _ 145 _ _ _)); refine m_atLeastOne _   (fun _ => ?_))
    | refine And.intro (fun h => absurd h (by decide)) (fun _ => ?_)
    | refine And.intro (fun _ => ?_) (fun h => absurd (by decide) h)
    | refine And.intro (fun _ => ?_) (fun _ => ?_)
    | refine And.intro ?_ ?_
  all_goals (first | (with_reducible assumption) | decide | omega | assumption | (intros; omega) | (intros; simp only [am_c] at * <;> omega) | (simp only [am_c, am_up] at * <;> omega) | (simp [am_c, am_up] at * <;> omega))
theorem m_aheadBy {l : Launch} {μ : am_N} {Q : Option am_V → am_N → Prop} (a s b t : Int) (hS : mi μ) (ha0 : 0 ≤ am_c a) (ha1 : am_c a < 4) (hb0 : 0 ≤ am_c b) (hb1 : am_c b < 4) (k : ∀ r : Int, Q (some (.inl r)) μ) : am_Does l 193 [.inr (.inr 83), .inl a, .inl s, .inl b, .inl t] μ Q := by
  refine am_Does_of (Nat.le_of_ble_eq_true rfl) (Nat.le_of_ble_eq_true rfl) (Nat.le_of_ble_eq_true rfl) ?_
  have hb := mi_all hS
  have lp6 : ∀ (m : Nat) (n i : Int) (o7 o8 : Option am_V) , 0 ≤ i → i ≤ 16 → 16 - i < (m : Int) → am_AW l 0 (fun _ => 0) 193 Q 6 [some (.inr (.inr 83)), some (.inl a), some (.inl s), some (.inl b), some (.inl t), some (.inl n), some (.inl i), o7, o8] [] μ := by
    intro m
    induction m with
    | zero =>
      intro n i o7 o8  hv0 hv1 hm
      exfalso
      omega
    | succ m ih =>
      intro n i o7 o8  hv0 hv1 hm
      refine am_go (ct := fun pc => Nat.beq pc 6) am_oX7_aheadBy 300 ?_
      conv => whnf
      repeat' first
        | (refine (?_ : am_wp _ _ _ _ _ _ _ _ _ _ _ _); conv => whnf)
        | (refine (?_ : am_sw _ _ _ _); conv => whnf)
        | refine And.intro trivial ?_
        | exact trivial
        | (with_reducible assumption)
        | ((with_reducible refine (?_ : _ ∧ _)); first | (with_reducible first | refine am_jn am_q1 ?_ | refine am_jn am_q2 ?_ | refine am_jn am_q3 ?_ | refine am_jn am_q4 ?_ | refine am_jn am_q6 ?_ | refine am_jn am_q9 ?_ | refine am_jn am_p1 ?_ | refine am_jy am_p0 ?_ | refine am_kn am_q1 ?_ | refine am_kn am_q2 ?_ | refine am_kn am_q3 ?_ | refine am_kn am_q4 ?_ | refine am_kn am_q6 ?_ | refine am_kn am_q9 ?_ | refine am_kn am_p1 ?_ | refine am_ky am_p0 ?_) | refine And.intro (fun h => absurd h (by decide)) (fun _ => ?_) | refine And.intro (fun _ => ?_) (fun h => absurd (by decide) h) | refine And.intro (fun _ => ?_) (fun _ => ?_) | refine And.intro ?_ ?_)
        | exact k _
        | ((with_reducible refine (?_ : am_Does _ 192 _ _ _)); refine m_partBy _ _ _   (fun _ => ?_))
        | ((with_reducible refine (?_ : am_AW _ _ _ _ _ 6 _ _ _)); refine ih _ _ _ _  ?_ ?_ ?_)
        | refine And.intro (fun h => absurd h (by decide)) (fun _ => ?_)
        | refine And.intro (fun _ => ?_) (fun h => absurd (by decide) h)
        | refine And.intro (fun _ => ?_) (fun _ => ?_)
        | refine And.intro ?_ ?_
      all_goals (first | (with_reducible assumption) | decide | omega | assumption | (intros; omega) | (intros; simp only [am_c] at * <;> omega) | (simp only [am_c, am_up] at * <;> omega) | (simp [am_c, am_up] at * <;> omega))
  have lp6' : ∀ (n i : Int) (o7 o8 : Option am_V) , 0 ≤ i → i ≤ 16 → am_AW l 0 (fun _ => 0) 193 Q 6 [some (.inr (.inr 83)), some (.inl a), some (.inl s), some (.inl b), some (.inl t), some (.inl n), some (.inl i), o7, o8] [] μ := fun n i o7 o8  hv0 hv1 => lp6 ((16 - i) + 1).toNat n i o7 o8  hv0 hv1 (by omega)
  refine am_go (ct := fun pc => Nat.beq pc 6) am_oX7_aheadBy 300 ?_
  conv => whnf
  repeat' first
    | (refine (?_ : am_wp _ _ _ _ _ _ _ _ _ _ _ _); conv => whnf)
    | (refine (?_ : am_sw _ _ _ _); conv => whnf)
    | refine And.intro trivial ?_
    | exact trivial
    | (with_reducible assumption)
    | ((with_reducible refine (?_ : _ ∧ _)); first | (with_reducible first | refine am_jn am_q1 ?_ | refine am_jn am_q2 ?_ | refine am_jn am_q3 ?_ | refine am_jn am_q4 ?_ | refine am_jn am_q6 ?_ | refine am_jn am_q9 ?_ | refine am_jn am_p1 ?_ | refine am_jy am_p0 ?_ | refine am_kn am_q1 ?_ | refine am_kn am_q2 ?_ | refine am_kn am_q3 ?_ | refine am_kn am_q4 ?_ | refine am_kn am_q6 ?_ | refine am_kn am_q9 ?_ | refine am_kn am_p1 ?_ | refine am_ky am_p0 ?_) | refine And.intro (fun h => absurd h (by decide)) (fun _ => ?_) | refine And.intro (fun _ => ?_) (fun h => absurd (by decide) h) | refine And.intro (fun _ => ?_) (fun _ => ?_) | refine And.intro ?_ ?_)
    | exact k _
    | ((with_reducible refine (?_ : am_Does _ 192 _ _ _)); refine m_partBy _ _ _   (fun _ => ?_))
    | ((with_reducible refine (?_ : am_AW _ _ _ _ _ 6 _ _ _)); refine lp6' _ _ _ _  ?_ ?_)
    | refine And.intro (fun h => absurd h (by decide)) (fun _ => ?_)
    | refine And.intro (fun _ => ?_) (fun h => absurd (by decide) h)
    | refine And.intro (fun _ => ?_) (fun _ => ?_)
    | refine And.intro ?_ ?_
  all_goals (first | (with_reducible assumption) | decide | omega | assumption | (intros; omega) | (intros; simp only [am_c] at * <;> omega) | (simp only [am_c, am_up] at * <;> omega) | (simp [am_c, am_up] at * <;> omega))
theorem m_aheadOf {l : Launch} {μ : am_N} {Q : Option am_V → am_N → Prop} (a b : Int) (hS : mi μ) (ha0 : 0 ≤ am_c a) (ha1 : am_c a < 4) (hb0 : 0 ≤ am_c b) (hb1 : am_c b < 4) (k : ∀ r : Int, Q (some (.inl r)) μ) : am_Does l 194 [.inr (.inr 83), .inl a, .inl b] μ Q := by
  refine am_Does_of (Nat.le_of_ble_eq_true rfl) (Nat.le_of_ble_eq_true rfl) (Nat.le_of_ble_eq_true rfl) ?_
  have hb := mi_all hS
  refine am_go (ct := fun _ => false) am_oX7_aheadOf 300 ?_
  conv => whnf
  repeat' first
    | (refine (?_ : am_wp _ _ _ _ _ _ _ _ _ _ _ _); conv => whnf)
    | (refine (?_ : am_sw _ _ _ _); conv => whnf)
    | refine And.intro trivial ?_
    | exact trivial
    | (with_reducible assumption)
    | ((with_reducible refine (?_ : _ ∧ _)); first | (with_reducible first | refine am_jn am_q1 ?_ | refine am_jn am_q2 ?_ | refine am_jn am_q3 ?_ | refine am_jn am_q4 ?_ | refine am_jn am_q6 ?_ | refine am_jn am_q9 ?_ | refine am_jn am_p1 ?_ | refine am_jy am_p0 ?_ | refine am_kn am_q1 ?_ | refine am_kn am_q2 ?_ | refine am_kn am_q3 ?_ | refine am_kn am_q4 ?_ | refine am_kn am_q6 ?_ | refine am_kn am_q9 ?_ | refine am_kn am_p1 ?_ | refine am_ky am_p0 ?_) | refine And.intro (fun h => absurd h (by decide)) (fun _ => ?_) | refine And.intro (fun _ => ?_) (fun h => absurd (by decide) h) | refine And.intro (fun _ => ?_) (fun _ => ?_) | refine And.intro ?_ ?_)
    | exact k _
    | ((with_reducible refine (?_ : am_Does _ 164 _ _ _)); refine m_timeOf _ ?_ ?_ ?_ (fun _ => ?_))
    | ((with_reducible refine (?_ : am_Does _ 193 _ _ _)); refine m_aheadBy _ _ _ _ ?_ ?_ ?_ ?_ ?_ (fun _ => ?_))
    | refine And.intro (fun h => absurd h (by decide)) (fun _ => ?_)
    | refine And.intro (fun _ => ?_) (fun h => absurd (by decide) h)
    | refine And.intro (fun _ => ?_) (fun _ => ?_)
    | refine And.intro ?_ ?_
  all_goals (first | (with_reducible assumption) | decide | omega | assumption | (intros; omega) | (intros; simp only [am_c] at * <;> omega) | (simp only [am_c, am_up] at * <;> omega) | (simp [am_c, am_up] at * <;> omega))
theorem m_startsNumber {l : Launch} {μ : am_N} {Q : Option am_V → am_N → Prop}  (hS : mi μ)  (k : ∀ r : Int, Q (some (.inl r)) μ) : am_Does l 201 [.inr (.inr 83)] μ Q := by
  refine am_Does_of (Nat.le_of_ble_eq_true rfl) (Nat.le_of_ble_eq_true rfl) (Nat.le_of_ble_eq_true rfl) ?_
  have hb := mi_all hS
  have lp4 : ∀ (m : Nat) (a i : Int) , 0 ≤ i → i ≤ 4 → 4 - i < (m : Int) → am_AW l 0 (fun _ => 0) 201 Q 4 [some (.inr (.inr 83)), some (.inl a), some (.inl i)] [] μ := by
    intro m
    induction m with
    | zero =>
      intro a i  hv0 hv1 hm
      exfalso
      omega
    | succ m ih =>
      intro a i  hv0 hv1 hm
      refine am_go (ct := fun pc => Nat.beq pc 4) am_oX7_startsNumber 300 ?_
      conv => whnf
      repeat' first
        | (refine (?_ : am_wp _ _ _ _ _ _ _ _ _ _ _ _); conv => whnf)
        | (refine (?_ : am_sw _ _ _ _); conv => whnf)
        | refine And.intro trivial ?_
        | exact trivial
        | (with_reducible assumption)
        | ((with_reducible refine (?_ : _ ∧ _)); first | (with_reducible first | refine am_jn am_q1 ?_ | refine am_jn am_q2 ?_ | refine am_jn am_q3 ?_ | refine am_jn am_q4 ?_ | refine am_jn am_q6 ?_ | refine am_jn am_q9 ?_ | refine am_jn am_p1 ?_ | refine am_jy am_p0 ?_ | refine am_kn am_q1 ?_ | refine am_kn am_q2 ?_ | refine am_kn am_q3 ?_ | refine am_kn am_q4 ?_ | refine am_kn am_q6 ?_ | refine am_kn am_q9 ?_ | refine am_kn am_p1 ?_ | refine am_ky am_p0 ?_) | refine And.intro (fun h => absurd h (by decide)) (fun _ => ?_) | refine And.intro (fun _ => ?_) (fun h => absurd (by decide) h) | refine And.intro (fun _ => ?_) (fun _ => ?_) | refine And.intro ?_ ?_)
        | exact k _
        | ((with_reducible refine (?_ : am_AW _ _ _ _ _ 4 _ _ _)); refine ih _ _  ?_ ?_ ?_)
        | refine And.intro (fun h => absurd h (by decide)) (fun _ => ?_)
        | refine And.intro (fun _ => ?_) (fun h => absurd (by decide) h)
        | refine And.intro (fun _ => ?_) (fun _ => ?_)
        | refine And.intro ?_ ?_
      all_goals (first | (with_reducible assumption) | decide | omega | assumption | (intros; omega) | (intros; simp only [am_c] at * <;> omega) | (simp only [am_c, am_up] at * <;> omega) | (simp [am_c, am_up] at * <;> omega))
  have lp4' : ∀ (a i : Int) , 0 ≤ i → i ≤ 4 → am_AW l 0 (fun _ => 0) 201 Q 4 [some (.inr (.inr 83)), some (.inl a), some (.inl i)] [] μ := fun a i  hv0 hv1 => lp4 ((4 - i) + 1).toNat a i  hv0 hv1 (by omega)
  refine am_go (ct := fun pc => Nat.beq pc 4) am_oX7_startsNumber 300 ?_
  conv => whnf
  repeat' first
    | (refine (?_ : am_wp _ _ _ _ _ _ _ _ _ _ _ _); conv => whnf)
    | (refine (?_ : am_sw _ _ _ _); conv => whnf)
    | refine And.intro trivial ?_
    | exact trivial
    | (with_reducible assumption)
    | ((with_reducible refine (?_ : _ ∧ _)); first | (with_reducible first | refine am_jn am_q1 ?_ | refine am_jn am_q2 ?_ | refine am_jn am_q3 ?_ | refine am_jn am_q4 ?_ | refine am_jn am_q6 ?_ | refine am_jn am_q9 ?_ | refine am_jn am_p1 ?_ | refine am_jy am_p0 ?_ | refine am_kn am_q1 ?_ | refine am_kn am_q2 ?_ | refine am_kn am_q3 ?_ | refine am_kn am_q4 ?_ | refine am_kn am_q6 ?_ | refine am_kn am_q9 ?_ | refine am_kn am_p1 ?_ | refine am_ky am_p0 ?_) | refine And.intro (fun h => absurd h (by decide)) (fun _ => ?_) | refine And.intro (fun _ => ?_) (fun h => absurd (by decide) h) | refine And.intro (fun _ => ?_) (fun _ => ?_) | refine And.intro ?_ ?_)
    | exact k _
    | ((with_reducible refine (?_ : am_AW _ _ _ _ _ 4 _ _ _)); refine lp4' _ _  ?_ ?_)
    | refine And.intro (fun h => absurd h (by decide)) (fun _ => ?_)
    | refine And.intro (fun _ => ?_) (fun h => absurd (by decide) h)
    | refine And.intro (fun _ => ?_) (fun _ => ?_)
    | refine And.intro ?_ ?_
  all_goals (first | (with_reducible assumption) | decide | omega | assumption | (intros; omega) | (intros; simp only [am_c] at * <;> omega) | (simp only [am_c, am_up] at * <;> omega) | (simp [am_c, am_up] at * <;> omega))
theorem m_worthOf {l : Launch} {μ : am_N} {Q : Option am_V → am_N → Prop} (r s : Int) (hS : mi μ) (hr0 : 0 ≤ am_c r) (hr1 : am_c r < 4) (k : ∀ r : Int, Q (some (.inl r)) μ) : am_Does l 206 [.inr (.inr 83), .inl r, .inl s] μ Q := by
  refine am_Does_of (Nat.le_of_ble_eq_true rfl) (Nat.le_of_ble_eq_true rfl) (Nat.le_of_ble_eq_true rfl) ?_
  have hb := mi_all hS
  refine am_go (ct := fun _ => false) am_oX7_worthOf 300 ?_
  conv => whnf
  repeat' first
    | (refine (?_ : am_wp _ _ _ _ _ _ _ _ _ _ _ _); conv => whnf)
    | (refine (?_ : am_sw _ _ _ _); conv => whnf)
    | refine And.intro trivial ?_
    | exact trivial
    | (with_reducible assumption)
    | ((with_reducible refine (?_ : _ ∧ _)); first | (with_reducible first | refine am_jn am_q1 ?_ | refine am_jn am_q2 ?_ | refine am_jn am_q3 ?_ | refine am_jn am_q4 ?_ | refine am_jn am_q6 ?_ | refine am_jn am_q9 ?_ | refine am_jn am_p1 ?_ | refine am_jy am_p0 ?_ | refine am_kn am_q1 ?_ | refine am_kn am_q2 ?_ | refine am_kn am_q3 ?_ | refine am_kn am_q4 ?_ | refine am_kn am_q6 ?_ | refine am_kn am_q9 ?_ | refine am_kn am_p1 ?_ | refine am_ky am_p0 ?_) | refine And.intro (fun h => absurd h (by decide)) (fun _ => ?_) | refine And.intro (fun _ => ?_) (fun h => absurd (by decide) h) | refine And.intro (fun _ => ?_) (fun _ => ?_) | refine And.intro ?_ ?_)
    | exact k _
    | ((with_reducible refine (?_ : am_Does _ 163 _ _ _)); refine m_timeBy _ _ ?_ ?_ ?_ (fun _ => ?_))
    | refine And.intro (fun h => absurd h (by decide)) (fun _ => ?_)
    | refine And.intro (fun _ => ?_) (fun h => absurd (by decide) h)
    | refine And.intro (fun _ => ?_) (fun _ => ?_)
    | refine And.intro ?_ ?_
  all_goals (first | (with_reducible assumption) | decide | omega | assumption | (intros; omega) | (intros; simp only [am_c] at * <;> omega) | (simp only [am_c, am_up] at * <;> omega) | (simp [am_c, am_up] at * <;> omega))
theorem m_apartBy {l : Launch} {μ : am_N} {Q : Option am_V → am_N → Prop} (b : Int) (hS : mi μ)  (k : ∀ r : Int, Q (some (.inl r)) μ) : am_Does l 209 [.inr (.inr 83), .inl b] μ Q := by
  refine am_Does_of (Nat.le_of_ble_eq_true rfl) (Nat.le_of_ble_eq_true rfl) (Nat.le_of_ble_eq_true rfl) ?_
  have hb := mi_all hS
  have lp4 : ∀ (m : Nat) (a i : Int) , 0 ≤ i → i ≤ 4 → 4 - i < (m : Int) → am_AW l 0 (fun _ => 0) 209 Q 4 [some (.inr (.inr 83)), some (.inl b), some (.inl a), some (.inl i)] [] μ := by
    intro m
    induction m with
    | zero =>
      intro a i  hv0 hv1 hm
      exfalso
      omega
    | succ m ih =>
      intro a i  hv0 hv1 hm
      refine am_go (ct := fun pc => Nat.beq pc 4) am_oX7_apartBy 300 ?_
      conv => whnf
      repeat' first
        | (refine (?_ : am_wp _ _ _ _ _ _ _ _ _ _ _ _); conv => whnf)
        | (refine (?_ : am_sw _ _ _ _); conv => whnf)
        | refine And.intro trivial ?_
        | exact trivial
        | (with_reducible assumption)
        | ((with_reducible refine (?_ : _ ∧ _)); first | (with_reducible first | refine am_jn am_q1 ?_ | refine am_jn am_q2 ?_ | refine am_jn am_q3 ?_ | refine am_jn am_q4 ?_ | refine am_jn am_q6 ?_ | refine am_jn am_q9 ?_ | refine am_jn am_p1 ?_ | refine am_jy am_p0 ?_ | refine am_kn am_q1 ?_ | refine am_kn am_q2 ?_ | refine am_kn am_q3 ?_ | refine am_kn am_q4 ?_ | refine am_kn am_q6 ?_ | refine am_kn am_q9 ?_ | refine am_kn am_p1 ?_ | refine am_ky am_p0 ?_) | refine And.intro (fun h => absurd h (by decide)) (fun _ => ?_) | refine And.intro (fun _ => ?_) (fun h => absurd (by decide) h) | refine And.intro (fun _ => ?_) (fun _ => ?_) | refine And.intro ?_ ?_)
        | exact k _
        | ((with_reducible refine (?_ : am_Does _ 162 _ _ _)); refine m_timeOver _ _ _ ?_ ?_ ?_ (fun _ => ?_))
        | ((with_reducible refine (?_ : am_AW _ _ _ _ _ 4 _ _ _)); refine ih _ _  ?_ ?_ ?_)
        | refine And.intro (fun h => absurd h (by decide)) (fun _ => ?_)
        | refine And.intro (fun _ => ?_) (fun h => absurd (by decide) h)
        | refine And.intro (fun _ => ?_) (fun _ => ?_)
        | refine And.intro ?_ ?_
      all_goals (first | (with_reducible assumption) | decide | omega | assumption | (intros; omega) | (intros; simp only [am_c] at * <;> omega) | (simp only [am_c, am_up] at * <;> omega) | (simp [am_c, am_up] at * <;> omega))
  have lp4' : ∀ (a i : Int) , 0 ≤ i → i ≤ 4 → am_AW l 0 (fun _ => 0) 209 Q 4 [some (.inr (.inr 83)), some (.inl b), some (.inl a), some (.inl i)] [] μ := fun a i  hv0 hv1 => lp4 ((4 - i) + 1).toNat a i  hv0 hv1 (by omega)
  refine am_go (ct := fun pc => Nat.beq pc 4) am_oX7_apartBy 300 ?_
  conv => whnf
  repeat' first
    | (refine (?_ : am_wp _ _ _ _ _ _ _ _ _ _ _ _); conv => whnf)
    | (refine (?_ : am_sw _ _ _ _); conv => whnf)
    | refine And.intro trivial ?_
    | exact trivial
    | (with_reducible assumption)
    | ((with_reducible refine (?_ : _ ∧ _)); first | (with_reducible first | refine am_jn am_q1 ?_ | refine am_jn am_q2 ?_ | refine am_jn am_q3 ?_ | refine am_jn am_q4 ?_ | refine am_jn am_q6 ?_ | refine am_jn am_q9 ?_ | refine am_jn am_p1 ?_ | refine am_jy am_p0 ?_ | refine am_kn am_q1 ?_ | refine am_kn am_q2 ?_ | refine am_kn am_q3 ?_ | refine am_kn am_q4 ?_ | refine am_kn am_q6 ?_ | refine am_kn am_q9 ?_ | refine am_kn am_p1 ?_ | refine am_ky am_p0 ?_) | refine And.intro (fun h => absurd h (by decide)) (fun _ => ?_) | refine And.intro (fun _ => ?_) (fun h => absurd (by decide) h) | refine And.intro (fun _ => ?_) (fun _ => ?_) | refine And.intro ?_ ?_)
    | exact k _
    | ((with_reducible refine (?_ : am_Does _ 162 _ _ _)); refine m_timeOver _ _ _ ?_ ?_ ?_ (fun _ => ?_))
    | ((with_reducible refine (?_ : am_AW _ _ _ _ _ 4 _ _ _)); refine lp4' _ _  ?_ ?_)
    | refine And.intro (fun h => absurd h (by decide)) (fun _ => ?_)
    | refine And.intro (fun _ => ?_) (fun h => absurd (by decide) h)
    | refine And.intro (fun _ => ?_) (fun _ => ?_)
    | refine And.intro ?_ ?_
  all_goals (first | (with_reducible assumption) | decide | omega | assumption | (intros; omega) | (intros; simp only [am_c] at * <;> omega) | (simp only [am_c, am_up] at * <;> omega) | (simp [am_c, am_up] at * <;> omega))
theorem m_bagsFar {l : Launch} {μ : am_N} {Q : Option am_V → am_N → Prop} (a b t : Int) (hS : mi μ) (ha0 : 0 ≤ am_c a) (ha1 : am_c a < 4) (hb0 : 0 ≤ am_c b) (hb1 : am_c b < 4) (k : ∀ r : Int, Q (some (.inl r)) μ) : am_Does l 215 [.inr (.inr 83), .inl a, .inl b, .inl t] μ Q := by
  refine am_Does_of (Nat.le_of_ble_eq_true rfl) (Nat.le_of_ble_eq_true rfl) (Nat.le_of_ble_eq_true rfl) ?_
  have hb := mi_all hS
  have lp9 : ∀ (m : Nat) (x y i : Int) , 0 ≤ i → i ≤ 6 → 6 - i < (m : Int) → am_AW l 0 (fun _ => 0) 215 Q 9 [some (.inr (.inr 83)), some (.inl a), some (.inl b), some (.inl t), some (.inl x), some (.inl y), some (.inl i)] [] μ := by
    intro m
    induction m with
    | zero =>
      intro x y i  hv0 hv1 hm
      exfalso
      omega
    | succ m ih =>
      intro x y i  hv0 hv1 hm
      refine am_go (ct := fun pc => Nat.beq pc 9) am_oX7_bagsFar 300 ?_
      conv => whnf
      repeat' first
        | (refine (?_ : am_wp _ _ _ _ _ _ _ _ _ _ _ _); conv => whnf)
        | (refine (?_ : am_sw _ _ _ _); conv => whnf)
        | refine And.intro trivial ?_
        | exact trivial
        | (with_reducible assumption)
        | ((with_reducible refine (?_ : _ ∧ _)); first | (with_reducible first | refine am_jn am_q1 ?_ | refine am_jn am_q2 ?_ | refine am_jn am_q3 ?_ | refine am_jn am_q4 ?_ | refine am_jn am_q6 ?_ | refine am_jn am_q9 ?_ | refine am_jn am_p1 ?_ | refine am_jy am_p0 ?_ | refine am_kn am_q1 ?_ | refine am_kn am_q2 ?_ | refine am_kn am_q3 ?_ | refine am_kn am_q4 ?_ | refine am_kn am_q6 ?_ | refine am_kn am_q9 ?_ | refine am_kn am_p1 ?_ | refine am_ky am_p0 ?_) | refine And.intro (fun h => absurd h (by decide)) (fun _ => ?_) | refine And.intro (fun _ => ?_) (fun h => absurd (by decide) h) | refine And.intro (fun _ => ?_) (fun _ => ?_) | refine And.intro ?_ ?_)
        | exact k _
        | ((with_reducible refine (?_ : am_Does _ 164 _ _ _)); refine m_timeOf _ ?_ ?_ ?_ (fun _ => ?_))
        | ((with_reducible refine (?_ : am_Does _ 193 _ _ _)); refine m_aheadBy _ _ _ _ ?_ ?_ ?_ ?_ ?_ (fun _ => ?_))
        | ((with_reducible refine (?_ : am_AW _ _ _ _ _ 9 _ _ _)); refine ih _ _ _  ?_ ?_ ?_)
        | refine And.intro (fun h => absurd h (by decide)) (fun _ => ?_)
        | refine And.intro (fun _ => ?_) (fun h => absurd (by decide) h)
        | refine And.intro (fun _ => ?_) (fun _ => ?_)
        | refine And.intro ?_ ?_
      all_goals (first | (with_reducible assumption) | decide | omega | assumption | (intros; omega) | (intros; simp only [am_c] at * <;> omega) | (simp only [am_c, am_up] at * <;> omega) | (simp [am_c, am_up] at * <;> omega))
  have lp9' : ∀ (x y i : Int) , 0 ≤ i → i ≤ 6 → am_AW l 0 (fun _ => 0) 215 Q 9 [some (.inr (.inr 83)), some (.inl a), some (.inl b), some (.inl t), some (.inl x), some (.inl y), some (.inl i)] [] μ := fun x y i  hv0 hv1 => lp9 ((6 - i) + 1).toNat x y i  hv0 hv1 (by omega)
  refine am_go (ct := fun pc => Nat.beq pc 9) am_oX7_bagsFar 300 ?_
  conv => whnf
  repeat' first
    | (refine (?_ : am_wp _ _ _ _ _ _ _ _ _ _ _ _); conv => whnf)
    | (refine (?_ : am_sw _ _ _ _); conv => whnf)
    | refine And.intro trivial ?_
    | exact trivial
    | (with_reducible assumption)
    | ((with_reducible refine (?_ : _ ∧ _)); first | (with_reducible first | refine am_jn am_q1 ?_ | refine am_jn am_q2 ?_ | refine am_jn am_q3 ?_ | refine am_jn am_q4 ?_ | refine am_jn am_q6 ?_ | refine am_jn am_q9 ?_ | refine am_jn am_p1 ?_ | refine am_jy am_p0 ?_ | refine am_kn am_q1 ?_ | refine am_kn am_q2 ?_ | refine am_kn am_q3 ?_ | refine am_kn am_q4 ?_ | refine am_kn am_q6 ?_ | refine am_kn am_q9 ?_ | refine am_kn am_p1 ?_ | refine am_ky am_p0 ?_) | refine And.intro (fun h => absurd h (by decide)) (fun _ => ?_) | refine And.intro (fun _ => ?_) (fun h => absurd (by decide) h) | refine And.intro (fun _ => ?_) (fun _ => ?_) | refine And.intro ?_ ?_)
    | exact k _
    | ((with_reducible refine (?_ : am_Does _ 164 _ _ _)); refine m_timeOf _ ?_ ?_ ?_ (fun _ => ?_))
    | ((with_reducible refine (?_ : am_Does _ 193 _ _ _)); refine m_aheadBy _ _ _ _ ?_ ?_ ?_ ?_ ?_ (fun _ => ?_))
    | ((with_reducible refine (?_ : am_AW _ _ _ _ _ 9 _ _ _)); refine lp9' _ _ _  ?_ ?_)
    | refine And.intro (fun h => absurd h (by decide)) (fun _ => ?_)
    | refine And.intro (fun _ => ?_) (fun h => absurd (by decide) h)
    | refine And.intro (fun _ => ?_) (fun _ => ?_)
    | refine And.intro ?_ ?_
  all_goals (first | (with_reducible assumption) | decide | omega | assumption | (intros; omega) | (intros; simp only [am_c] at * <;> omega) | (simp only [am_c, am_up] at * <;> omega) | (simp [am_c, am_up] at * <;> omega))
theorem am_xor3n : ∀ a : Nat, a < 4 → ∀ b : Nat, b < 4 → 0 ≤ am_xor (a : Int) (b : Int) ∧ am_xor (a : Int) (b : Int) ≤ 3 := by decide +kernel
theorem am_xor3 {a b : Int} (h0 : 0 ≤ a) (h1 : a ≤ 3) (h2 : 0 ≤ b) (h3 : b ≤ 3) : 0 ≤ am_xor a b ∧ am_xor a b ≤ 3 := by
  obtain ⟨x, rfl⟩ := Int.eq_ofNat_of_zero_le h0
  obtain ⟨y, rfl⟩ := Int.eq_ofNat_of_zero_le h2
  exact am_xor3n x (by omega) y (by omega)
theorem m_partner {l : Launch} {μ : am_N} {Q : Option am_V → am_N → Prop} (r b : Int) (hr0 : 0 ≤ r) (hr1 : r ≤ 3) (hb0 : 0 ≤ b) (hb1 : b ≤ 2) (k : ∀ w, 0 ≤ w → w ≤ 3 → Q (some (.inl w)) μ) : am_Does l 218 [.inl r, .inl b] μ Q := by
  refine am_Does_of (Nat.le_of_ble_eq_true rfl) (Nat.le_of_ble_eq_true rfl) (Nat.le_of_ble_eq_true rfl) ?_
  refine am_go (ct := fun _ => false) am_oX7_partner 300 ?_
  conv => whnf
  repeat' first
    | (refine (?_ : am_wp _ _ _ _ _ _ _ _ _ _ _ _); conv => whnf)
    | (refine (?_ : am_sw _ _ _ _); conv => whnf)
    | refine And.intro trivial ?_
    | exact trivial
    | (with_reducible assumption)
    | ((with_reducible refine (?_ : _ ∧ _)); first | (with_reducible first | refine am_jn am_q1 ?_ | refine am_jn am_q2 ?_ | refine am_jn am_q3 ?_ | refine am_jn am_q4 ?_ | refine am_jn am_q6 ?_ | refine am_jn am_q9 ?_ | refine am_jn am_p1 ?_ | refine am_jy am_p0 ?_ | refine am_kn am_q1 ?_ | refine am_kn am_q2 ?_ | refine am_kn am_q3 ?_ | refine am_kn am_q4 ?_ | refine am_kn am_q6 ?_ | refine am_kn am_q9 ?_ | refine am_kn am_p1 ?_ | refine am_ky am_p0 ?_) | refine And.intro (fun h => absurd h (by decide)) (fun _ => ?_) | refine And.intro (fun _ => ?_) (fun h => absurd (by decide) h) | refine And.intro (fun _ => ?_) (fun _ => ?_) | refine And.intro ?_ ?_)
    | ((with_reducible refine (?_ : Q _ _)); refine k _ (am_xor3 (by omega) (by omega) (by omega) (by omega)).1 (am_xor3 (by omega) (by omega) (by omega) (by omega)).2)
    | refine And.intro (fun h => absurd h (by decide)) (fun _ => ?_)
    | refine And.intro (fun _ => ?_) (fun h => absurd (by decide) h)
    | refine And.intro (fun _ => ?_) (fun _ => ?_)
    | refine And.intro ?_ ?_
  all_goals (first | (with_reducible assumption) | decide | omega | assumption | (intros; omega) | (intros; simp only [am_c] at * <;> omega) | (simp only [am_c, am_up] at * <;> omega) | (simp [am_c, am_up] at * <;> omega))
theorem m_cupParts {l : Launch} {μ : am_N} {Q : Option am_V → am_N → Prop} (r b : Int) (hS : mi μ) (hr0 : 0 ≤ r) (hr1 : r ≤ 3) (hb0 : 0 ≤ b) (hb1 : b ≤ 2) (k : ∀ r, Q (some (.inr (.inl r))) μ) : am_Does l 219 [.inr (.inr 83), .inl r, .inl b] μ Q := by
  refine am_Does_of (Nat.le_of_ble_eq_true rfl) (Nat.le_of_ble_eq_true rfl) (Nat.le_of_ble_eq_true rfl) ?_
  have hb := mi_all hS
  have lp12 : ∀ (m : Nat) (w u i : Int) , 0 ≤ w → w ≤ 3 → 0 ≤ i → i ≤ 4 → 4 - i < (m : Int) → am_AW l 0 (fun _ => 0) 219 Q 12 [some (.inr (.inr 83)), some (.inl r), some (.inl b), some (.inl w), some (.inr (.inl u)), none, some (.inl i)] [] μ := by
    intro m
    induction m with
    | zero =>
      intro w u i  hv0 hv1 hv2 hv3 hm
      exfalso
      omega
    | succ m ih =>
      intro w u i  hv0 hv1 hv2 hv3 hm
      refine am_go (ct := fun pc => Nat.beq pc 12) am_oX7_cupParts 300 ?_
      conv => whnf
      repeat' first
        | (refine (?_ : am_wp _ _ _ _ _ _ _ _ _ _ _ _); conv => whnf)
        | (refine (?_ : am_sw _ _ _ _); conv => whnf)
        | refine And.intro trivial ?_
        | exact trivial
        | (with_reducible assumption)
        | ((with_reducible refine (?_ : _ ∧ _)); first | (with_reducible first | refine am_jn am_q1 ?_ | refine am_jn am_q2 ?_ | refine am_jn am_q3 ?_ | refine am_jn am_q4 ?_ | refine am_jn am_q6 ?_ | refine am_jn am_q9 ?_ | refine am_jn am_p1 ?_ | refine am_jy am_p0 ?_ | refine am_kn am_q1 ?_ | refine am_kn am_q2 ?_ | refine am_kn am_q3 ?_ | refine am_kn am_q4 ?_ | refine am_kn am_q6 ?_ | refine am_kn am_q9 ?_ | refine am_kn am_p1 ?_ | refine am_ky am_p0 ?_) | refine And.intro (fun h => absurd h (by decide)) (fun _ => ?_) | refine And.intro (fun _ => ?_) (fun h => absurd (by decide) h) | refine And.intro (fun _ => ?_) (fun _ => ?_) | refine And.intro ?_ ?_)
        | exact k _
        | ((with_reducible refine (?_ : am_Does _ 218 _ _ _)); refine m_partner _ _ ?_ ?_ ?_ ?_ (fun _ _ _ => ?_))
        | ((with_reducible refine (?_ : am_Does _ 194 _ _ _)); refine m_aheadOf _ _ ?_ ?_ ?_ ?_ ?_ (fun _ => ?_))
        | ((with_reducible refine (?_ : am_AW _ _ _ _ _ 12 _ _ _)); refine ih _ _ _  ?_ ?_ ?_ ?_ ?_)
        | refine And.intro (fun h => absurd h (by decide)) (fun _ => ?_)
        | refine And.intro (fun _ => ?_) (fun h => absurd (by decide) h)
        | refine And.intro (fun _ => ?_) (fun _ => ?_)
        | refine And.intro ?_ ?_
      all_goals (first | (with_reducible assumption) | decide | omega | assumption | (intros; omega) | (intros; simp only [am_c] at * <;> omega) | (simp only [am_c, am_up] at * <;> omega) | (simp [am_c, am_up] at * <;> omega))
  have lp12' : ∀ (w u i : Int) , 0 ≤ w → w ≤ 3 → 0 ≤ i → i ≤ 4 → am_AW l 0 (fun _ => 0) 219 Q 12 [some (.inr (.inr 83)), some (.inl r), some (.inl b), some (.inl w), some (.inr (.inl u)), none, some (.inl i)] [] μ := fun w u i  hv0 hv1 hv2 hv3 => lp12 ((4 - i) + 1).toNat w u i  hv0 hv1 hv2 hv3 (by omega)
  refine am_go (ct := fun pc => Nat.beq pc 12) am_oX7_cupParts 300 ?_
  conv => whnf
  repeat' first
    | (refine (?_ : am_wp _ _ _ _ _ _ _ _ _ _ _ _); conv => whnf)
    | (refine (?_ : am_sw _ _ _ _); conv => whnf)
    | refine And.intro trivial ?_
    | exact trivial
    | (with_reducible assumption)
    | ((with_reducible refine (?_ : _ ∧ _)); first | (with_reducible first | refine am_jn am_q1 ?_ | refine am_jn am_q2 ?_ | refine am_jn am_q3 ?_ | refine am_jn am_q4 ?_ | refine am_jn am_q6 ?_ | refine am_jn am_q9 ?_ | refine am_jn am_p1 ?_ | refine am_jy am_p0 ?_ | refine am_kn am_q1 ?_ | refine am_kn am_q2 ?_ | refine am_kn am_q3 ?_ | refine am_kn am_q4 ?_ | refine am_kn am_q6 ?_ | refine am_kn am_q9 ?_ | refine am_kn am_p1 ?_ | refine am_ky am_p0 ?_) | refine And.intro (fun h => absurd h (by decide)) (fun _ => ?_) | refine And.intro (fun _ => ?_) (fun h => absurd (by decide) h) | refine And.intro (fun _ => ?_) (fun _ => ?_) | refine And.intro ?_ ?_)
    | exact k _
    | ((with_reducible refine (?_ : am_Does _ 218 _ _ _)); refine m_partner _ _ ?_ ?_ ?_ ?_ (fun _ _ _ => ?_))
    | ((with_reducible refine (?_ : am_Does _ 194 _ _ _)); refine m_aheadOf _ _ ?_ ?_ ?_ ?_ ?_ (fun _ => ?_))
    | ((with_reducible refine (?_ : am_AW _ _ _ _ _ 12 _ _ _)); refine lp12' _ _ _  ?_ ?_ ?_ ?_)
    | refine And.intro (fun h => absurd h (by decide)) (fun _ => ?_)
    | refine And.intro (fun _ => ?_) (fun h => absurd (by decide) h)
    | refine And.intro (fun _ => ?_) (fun _ => ?_)
    | refine And.intro ?_ ?_
  all_goals (first | (with_reducible assumption) | decide | omega | assumption | (intros; omega) | (intros; simp only [am_c] at * <;> omega) | (simp only [am_c, am_up] at * <;> omega) | (simp [am_c, am_up] at * <;> omega))
theorem m_leaguePoints {l : Launch} {μ : am_N} {Q : Option am_V → am_N → Prop} (r : Int) (hS : mi μ) (hr0 : 0 ≤ am_c r) (hr1 : am_c r < 4) (k : ∀ r : Int, Q (some (.inl r)) μ) : am_Does l 222 [.inr (.inr 83), .inl r] μ Q := by
  refine am_Does_of (Nat.le_of_ble_eq_true rfl) (Nat.le_of_ble_eq_true rfl) (Nat.le_of_ble_eq_true rfl) ?_
  have hb := mi_all hS
  have lp4 : ∀ (m : Nat) (a i : Int) , 0 ≤ i → i ≤ 4 → 4 - i < (m : Int) → am_AW l 0 (fun _ => 0) 222 Q 4 [some (.inr (.inr 83)), some (.inl r), some (.inl a), some (.inl i)] [] μ := by
    intro m
    induction m with
    | zero =>
      intro a i  hv0 hv1 hm
      exfalso
      omega
    | succ m ih =>
      intro a i  hv0 hv1 hm
      refine am_go (ct := fun pc => Nat.beq pc 4) am_oX7_leaguePoints 300 ?_
      conv => whnf
      repeat' first
        | (refine (?_ : am_wp _ _ _ _ _ _ _ _ _ _ _ _); conv => whnf)
        | (refine (?_ : am_sw _ _ _ _); conv => whnf)
        | refine And.intro trivial ?_
        | exact trivial
        | (with_reducible assumption)
        | ((with_reducible refine (?_ : _ ∧ _)); first | (with_reducible first | refine am_jn am_q1 ?_ | refine am_jn am_q2 ?_ | refine am_jn am_q3 ?_ | refine am_jn am_q4 ?_ | refine am_jn am_q6 ?_ | refine am_jn am_q9 ?_ | refine am_jn am_p1 ?_ | refine am_jy am_p0 ?_ | refine am_kn am_q1 ?_ | refine am_kn am_q2 ?_ | refine am_kn am_q3 ?_ | refine am_kn am_q4 ?_ | refine am_kn am_q6 ?_ | refine am_kn am_q9 ?_ | refine am_kn am_p1 ?_ | refine am_ky am_p0 ?_) | refine And.intro (fun h => absurd h (by decide)) (fun _ => ?_) | refine And.intro (fun _ => ?_) (fun h => absurd (by decide) h) | refine And.intro (fun _ => ?_) (fun _ => ?_) | refine And.intro ?_ ?_)
        | exact k _
        | ((with_reducible refine (?_ : am_Does _ 194 _ _ _)); refine m_aheadOf _ _ ?_ ?_ ?_ ?_ ?_ (fun _ => ?_))
        | ((with_reducible refine (?_ : am_AW _ _ _ _ _ 4 _ _ _)); refine ih _ _  ?_ ?_ ?_)
        | refine And.intro (fun h => absurd h (by decide)) (fun _ => ?_)
        | refine And.intro (fun _ => ?_) (fun h => absurd (by decide) h)
        | refine And.intro (fun _ => ?_) (fun _ => ?_)
        | refine And.intro ?_ ?_
      all_goals (first | (with_reducible assumption) | decide | omega | assumption | (intros; omega) | (intros; simp only [am_c] at * <;> omega) | (simp only [am_c, am_up] at * <;> omega) | (simp [am_c, am_up] at * <;> omega))
  have lp4' : ∀ (a i : Int) , 0 ≤ i → i ≤ 4 → am_AW l 0 (fun _ => 0) 222 Q 4 [some (.inr (.inr 83)), some (.inl r), some (.inl a), some (.inl i)] [] μ := fun a i  hv0 hv1 => lp4 ((4 - i) + 1).toNat a i  hv0 hv1 (by omega)
  refine am_go (ct := fun pc => Nat.beq pc 4) am_oX7_leaguePoints 300 ?_
  conv => whnf
  repeat' first
    | (refine (?_ : am_wp _ _ _ _ _ _ _ _ _ _ _ _); conv => whnf)
    | (refine (?_ : am_sw _ _ _ _); conv => whnf)
    | refine And.intro trivial ?_
    | exact trivial
    | (with_reducible assumption)
    | ((with_reducible refine (?_ : _ ∧ _)); first | (with_reducible first | refine am_jn am_q1 ?_ | refine am_jn am_q2 ?_ | refine am_jn am_q3 ?_ | refine am_jn am_q4 ?_ | refine am_jn am_q6 ?_ | refine am_jn am_q9 ?_ | refine am_jn am_p1 ?_ | refine am_jy am_p0 ?_ | refine am_kn am_q1 ?_ | refine am_kn am_q2 ?_ | refine am_kn am_q3 ?_ | refine am_kn am_q4 ?_ | refine am_kn am_q6 ?_ | refine am_kn am_q9 ?_ | refine am_kn am_p1 ?_ | refine am_ky am_p0 ?_) | refine And.intro (fun h => absurd h (by decide)) (fun _ => ?_) | refine And.intro (fun _ => ?_) (fun h => absurd (by decide) h) | refine And.intro (fun _ => ?_) (fun _ => ?_) | refine And.intro ?_ ?_)
    | exact k _
    | ((with_reducible refine (?_ : am_Does _ 194 _ _ _)); refine m_aheadOf _ _ ?_ ?_ ?_ ?_ ?_ (fun _ => ?_))
    | ((with_reducible refine (?_ : am_AW _ _ _ _ _ 4 _ _ _)); refine lp4' _ _  ?_ ?_)
    | refine And.intro (fun h => absurd h (by decide)) (fun _ => ?_)
    | refine And.intro (fun _ => ?_) (fun h => absurd (by decide) h)
    | refine And.intro (fun _ => ?_) (fun _ => ?_)
    | refine And.intro ?_ ?_
  all_goals (first | (with_reducible assumption) | decide | omega | assumption | (intros; omega) | (intros; simp only [am_c] at * <;> omega) | (simp only [am_c, am_up] at * <;> omega) | (simp [am_c, am_up] at * <;> omega))
theorem m_legsBy {l : Launch} {μ : am_N} {Q : Option am_V → am_N → Prop} (a b t : Int) (hS : mi μ) (ha0 : 0 ≤ am_c a) (ha1 : am_c a < 4) (hb0 : 0 ≤ am_c b) (hb1 : am_c b < 4) (k : ∀ r : Int, Q (some (.inl r)) μ) : am_Does l 227 [.inr (.inr 83), .inl a, .inl b, .inl t] μ Q := by
  refine am_Does_of (Nat.le_of_ble_eq_true rfl) (Nat.le_of_ble_eq_true rfl) (Nat.le_of_ble_eq_true rfl) ?_
  have hb := mi_all hS
  refine am_go (ct := fun _ => false) am_oX7_legsBy 300 ?_
  conv => whnf
  repeat' first
    | (refine (?_ : am_wp _ _ _ _ _ _ _ _ _ _ _ _); conv => whnf)
    | (refine (?_ : am_sw _ _ _ _); conv => whnf)
    | refine And.intro trivial ?_
    | exact trivial
    | (with_reducible assumption)
    | ((with_reducible refine (?_ : _ ∧ _)); first | (with_reducible first | refine am_jn am_q1 ?_ | refine am_jn am_q2 ?_ | refine am_jn am_q3 ?_ | refine am_jn am_q4 ?_ | refine am_jn am_q6 ?_ | refine am_jn am_q9 ?_ | refine am_jn am_p1 ?_ | refine am_jy am_p0 ?_ | refine am_kn am_q1 ?_ | refine am_kn am_q2 ?_ | refine am_kn am_q3 ?_ | refine am_kn am_q4 ?_ | refine am_kn am_q6 ?_ | refine am_kn am_q9 ?_ | refine am_kn am_p1 ?_ | refine am_ky am_p0 ?_) | refine And.intro (fun h => absurd h (by decide)) (fun _ => ?_) | refine And.intro (fun _ => ?_) (fun h => absurd (by decide) h) | refine And.intro (fun _ => ?_) (fun _ => ?_) | refine And.intro ?_ ?_)
    | exact k _
    | ((with_reducible refine (?_ : am_Does _ 162 _ _ _)); refine m_timeOver _ _ _ ?_ ?_ ?_ (fun _ => ?_))
    | refine And.intro (fun h => absurd h (by decide)) (fun _ => ?_)
    | refine And.intro (fun _ => ?_) (fun h => absurd (by decide) h)
    | refine And.intro (fun _ => ?_) (fun _ => ?_)
    | refine And.intro ?_ ?_
  all_goals (first | (with_reducible assumption) | decide | omega | assumption | (intros; omega) | (intros; simp only [am_c] at * <;> omega) | (simp only [am_c, am_up] at * <;> omega) | (simp [am_c, am_up] at * <;> omega))
theorem m_areBets {l : Launch} {μ : am_N} {Q : Option am_V → am_N → Prop}  (hS : mi μ)  (k : ∀ r : Int, Q (some (.inl r)) μ) : am_Does l 229 [.inr (.inr 83)] μ Q := by
  refine am_Does_of (Nat.le_of_ble_eq_true rfl) (Nat.le_of_ble_eq_true rfl) (Nat.le_of_ble_eq_true rfl) ?_
  have hb := mi_all hS
  have lp2 : ∀ (m : Nat) (i : Int) , 0 ≤ i → i ≤ 12 → 12 - i < (m : Int) → am_AW l 0 (fun _ => 0) 229 Q 2 [some (.inr (.inr 83)), some (.inl i)] [] μ := by
    intro m
    induction m with
    | zero =>
      intro i  hv0 hv1 hm
      exfalso
      omega
    | succ m ih =>
      intro i  hv0 hv1 hm
      refine am_go (ct := fun pc => Nat.beq pc 2) am_oX7_areBets 300 ?_
      conv => whnf
      repeat' first
        | (refine (?_ : am_wp _ _ _ _ _ _ _ _ _ _ _ _); conv => whnf)
        | (refine (?_ : am_sw _ _ _ _); conv => whnf)
        | refine And.intro trivial ?_
        | exact trivial
        | (with_reducible assumption)
        | ((with_reducible refine (?_ : _ ∧ _)); first | (with_reducible first | refine am_jn am_q1 ?_ | refine am_jn am_q2 ?_ | refine am_jn am_q3 ?_ | refine am_jn am_q4 ?_ | refine am_jn am_q6 ?_ | refine am_jn am_q9 ?_ | refine am_jn am_p1 ?_ | refine am_jy am_p0 ?_ | refine am_kn am_q1 ?_ | refine am_kn am_q2 ?_ | refine am_kn am_q3 ?_ | refine am_kn am_q4 ?_ | refine am_kn am_q6 ?_ | refine am_kn am_q9 ?_ | refine am_kn am_p1 ?_ | refine am_ky am_p0 ?_) | refine And.intro (fun h => absurd h (by decide)) (fun _ => ?_) | refine And.intro (fun _ => ?_) (fun h => absurd (by decide) h) | refine And.intro (fun _ => ?_) (fun _ => ?_) | refine And.intro ?_ ?_)
        | exact k _
        | ((with_reducible refine (?_ : am_Does _ 143 _ _ _)); refine m_isIn _ _ _ (fun _ _ => ?_) (fun _ => ?_))
        | ((with_reducible refine (?_ : am_AW _ _ _ _ _ 2 _ _ _)); refine ih _  ?_ ?_ ?_)
        | refine And.intro (fun h => absurd h (by decide)) (fun _ => ?_)
        | refine And.intro (fun _ => ?_) (fun h => absurd (by decide) h)
        | refine And.intro (fun _ => ?_) (fun _ => ?_)
        | refine And.intro ?_ ?_
      all_goals (first | (with_reducible assumption) | decide | omega | assumption | (intros; omega) | (intros; simp only [am_c] at * <;> omega) | (simp only [am_c, am_up] at * <;> omega) | (simp [am_c, am_up] at * <;> omega))
  have lp2' : ∀ (i : Int) , 0 ≤ i → i ≤ 12 → am_AW l 0 (fun _ => 0) 229 Q 2 [some (.inr (.inr 83)), some (.inl i)] [] μ := fun i  hv0 hv1 => lp2 ((12 - i) + 1).toNat i  hv0 hv1 (by omega)
  refine am_go (ct := fun pc => Nat.beq pc 2) am_oX7_areBets 300 ?_
  conv => whnf
  repeat' first
    | (refine (?_ : am_wp _ _ _ _ _ _ _ _ _ _ _ _); conv => whnf)
    | (refine (?_ : am_sw _ _ _ _); conv => whnf)
    | refine And.intro trivial ?_
    | exact trivial
    | (with_reducible assumption)
    | ((with_reducible refine (?_ : _ ∧ _)); first | (with_reducible first | refine am_jn am_q1 ?_ | refine am_jn am_q2 ?_ | refine am_jn am_q3 ?_ | refine am_jn am_q4 ?_ | refine am_jn am_q6 ?_ | refine am_jn am_q9 ?_ | refine am_jn am_p1 ?_ | refine am_jy am_p0 ?_ | refine am_kn am_q1 ?_ | refine am_kn am_q2 ?_ | refine am_kn am_q3 ?_ | refine am_kn am_q4 ?_ | refine am_kn am_q6 ?_ | refine am_kn am_q9 ?_ | refine am_kn am_p1 ?_ | refine am_ky am_p0 ?_) | refine And.intro (fun h => absurd h (by decide)) (fun _ => ?_) | refine And.intro (fun _ => ?_) (fun h => absurd (by decide) h) | refine And.intro (fun _ => ?_) (fun _ => ?_) | refine And.intro ?_ ?_)
    | exact k _
    | ((with_reducible refine (?_ : am_Does _ 143 _ _ _)); refine m_isIn _ _ _ (fun _ _ => ?_) (fun _ => ?_))
    | ((with_reducible refine (?_ : am_AW _ _ _ _ _ 2 _ _ _)); refine lp2' _  ?_ ?_)
    | refine And.intro (fun h => absurd h (by decide)) (fun _ => ?_)
    | refine And.intro (fun _ => ?_) (fun h => absurd (by decide) h)
    | refine And.intro (fun _ => ?_) (fun _ => ?_)
    | refine And.intro ?_ ?_
  all_goals (first | (with_reducible assumption) | decide | omega | assumption | (intros; omega) | (intros; simp only [am_c] at * <;> omega) | (simp only [am_c, am_up] at * <;> omega) | (simp [am_c, am_up] at * <;> omega))
theorem m_isWhom {l : Launch} {μ : am_N} {Q : Option am_V → am_N → Prop} (r w : Int) (hS : mi μ) (h1 : 1 ≤ μ 83 14) (k : ∀ r : Int, Q (some (.inl r)) μ) : am_Does l 235 [.inr (.inr 83), .inl r, .inl w] μ Q := by
  refine am_Does_of (Nat.le_of_ble_eq_true rfl) (Nat.le_of_ble_eq_true rfl) (Nat.le_of_ble_eq_true rfl) ?_
  have hb := mi_all hS
  refine am_go (ct := fun _ => false) am_oX7_isWhom 300 ?_
  conv => whnf
  repeat' first
    | (refine (?_ : am_wp _ _ _ _ _ _ _ _ _ _ _ _); conv => whnf)
    | (refine (?_ : am_sw _ _ _ _); conv => whnf)
    | refine And.intro trivial ?_
    | exact trivial
    | (with_reducible assumption)
    | ((with_reducible refine (?_ : _ ∧ _)); first | (with_reducible first | refine am_jn am_q1 ?_ | refine am_jn am_q2 ?_ | refine am_jn am_q3 ?_ | refine am_jn am_q4 ?_ | refine am_jn am_q6 ?_ | refine am_jn am_q9 ?_ | refine am_jn am_p1 ?_ | refine am_jy am_p0 ?_ | refine am_kn am_q1 ?_ | refine am_kn am_q2 ?_ | refine am_kn am_q3 ?_ | refine am_kn am_q4 ?_ | refine am_kn am_q6 ?_ | refine am_kn am_q9 ?_ | refine am_kn am_p1 ?_ | refine am_ky am_p0 ?_) | refine And.intro (fun h => absurd h (by decide)) (fun _ => ?_) | refine And.intro (fun _ => ?_) (fun h => absurd (by decide) h) | refine And.intro (fun _ => ?_) (fun _ => ?_) | refine And.intro ?_ ?_)
    | exact k _
    | refine And.intro (fun h => absurd h (by decide)) (fun _ => ?_)
    | refine And.intro (fun _ => ?_) (fun h => absurd (by decide) h)
    | refine And.intro (fun _ => ?_) (fun _ => ?_)
    | refine And.intro ?_ ?_
  all_goals (first | (with_reducible assumption) | decide | omega | assumption | (intros; omega) | (intros; simp only [am_c] at * <;> omega) | (simp only [am_c, am_up] at * <;> omega) | (simp [am_c, am_up] at * <;> omega))
/-! contracts: the model's helpers that write scratch, races in mind (weak) -/
def mR (k j : Nat) : Bool := Nat.beq k 89 || (Nat.beq k 90 || (Nat.beq k 83 && Nat.beq j 11))
theorem am_c3l {z : Int} (h : 0 ≤ z) (h1 : z ≤ 3) : 0 ≤ am_c z := by simp only [am_c]; omega
theorem am_c3h {z : Int} (h : 0 ≤ z) (h1 : z ≤ 3) : am_c z < 4 := by simp only [am_c]; omega
theorem am_c3k {z : Int} (h : 0 ≤ z) (h1 : z ≤ 3) : am_c z ≤ 3 := by simp only [am_c]; omega
abbrev mAR : Nat → Nat → Bool := mo mT mR
theorem m_no {l : Launch} {μ : am_N} {Q : Option am_V → am_N → Prop} {ν : am_N} (w : Int) (hS : gm ms ν μ) (h0 : -6 ≤ w) (h1 : w ≤ -1) (k : ∀ (r : Int) (μ' : am_N), gm ms ν μ' → r = w → Q (some (.inl r)) μ') : am_Does l 140 [.inr (.inr 83), .inl w] μ Q := by
  refine am_Does_of (Nat.le_of_ble_eq_true rfl) (Nat.le_of_ble_eq_true rfl) (Nat.le_of_ble_eq_true rfl) ?_
  have hb := mi_all hS.1
  refine am_go (ct := fun _ => false) am_oX7_no 300 ?_
  conv => whnf
  repeat' first
    | (refine (?_ : am_wp _ _ _ _ _ _ _ _ _ _ _ _); conv => whnf)
    | (refine (?_ : am_sw _ _ _ _); conv => whnf)
    | refine And.intro trivial ?_
    | exact trivial
    | (with_reducible assumption)
    | exact fun _ _ h => h
    | exact fun _ _ h => (Bool.or_eq_false_iff.mp h).1
    | ((with_reducible refine (?_ : _ ∧ _)); first | (with_reducible first | refine am_jn am_q1 ?_ | refine am_jn am_q2 ?_ | refine am_jn am_q3 ?_ | refine am_jn am_q4 ?_ | refine am_jn am_q6 ?_ | refine am_jn am_q9 ?_ | refine am_jn am_p1 ?_ | refine am_jy am_p0 ?_ | refine am_kn am_q1 ?_ | refine am_kn am_q2 ?_ | refine am_kn am_q3 ?_ | refine am_kn am_q4 ?_ | refine am_kn am_q6 ?_ | refine am_kn am_q9 ?_ | refine am_kn am_p1 ?_ | refine am_ky am_p0 ?_) | refine And.intro (fun h => absurd h (by decide)) (fun _ => ?_) | refine And.intro (fun _ => ?_) (fun h => absurd (by decide) h) | refine And.intro (fun _ => ?_) (fun _ => ?_) | refine And.intro ?_ ?_)
    | refine k _ _ ?_ ?_
    | refine gm_up ?_ rfl rfl
    | refine gm_100 ?_ rfl ?_ ?_
    | refine gm_tr ?_ (by assumption) ?_
    | exact gm_i (by assumption)
    | refine mi_up ?_ rfl
    | refine And.intro (fun h => absurd h (by decide)) (fun _ => ?_)
    | refine And.intro (fun _ => ?_) (fun h => absurd (by decide) h)
    | refine And.intro (fun _ => ?_) (fun _ => ?_)
    | refine And.intro ?_ ?_
  all_goals (first | (with_reducible assumption) | decide | omega | assumption | (intros; omega) | (intros; simp only [am_c] at * <;> omega) | (simp only [am_c, am_up] at * <;> omega) | (simp [am_c, am_up] at * <;> omega))
theorem m_lower {l : Launch} {μ : am_N} {Q : Option am_V → am_N → Prop} {ν : am_N} (w : Int) (hS : gm ms ν μ) (h0 : -6 ≤ w) (h1 : w ≤ -1) (k : ∀ (r : Int) (μ' : am_N), gm ms ν μ' → Q (some (.inl r)) μ') : am_Does l 141 [.inr (.inr 83), .inl w] μ Q := by
  refine am_Does_of (Nat.le_of_ble_eq_true rfl) (Nat.le_of_ble_eq_true rfl) (Nat.le_of_ble_eq_true rfl) ?_
  have hb := mi_all hS.1
  refine am_go (ct := fun _ => false) am_oX7_lower 300 ?_
  conv => whnf
  repeat' first
    | (refine (?_ : am_wp _ _ _ _ _ _ _ _ _ _ _ _); conv => whnf)
    | (refine (?_ : am_sw _ _ _ _); conv => whnf)
    | refine And.intro trivial ?_
    | exact trivial
    | (with_reducible assumption)
    | exact fun _ _ h => h
    | exact fun _ _ h => (Bool.or_eq_false_iff.mp h).1
    | ((with_reducible refine (?_ : _ ∧ _)); first | (with_reducible first | refine am_jn am_q1 ?_ | refine am_jn am_q2 ?_ | refine am_jn am_q3 ?_ | refine am_jn am_q4 ?_ | refine am_jn am_q6 ?_ | refine am_jn am_q9 ?_ | refine am_jn am_p1 ?_ | refine am_jy am_p0 ?_ | refine am_kn am_q1 ?_ | refine am_kn am_q2 ?_ | refine am_kn am_q3 ?_ | refine am_kn am_q4 ?_ | refine am_kn am_q6 ?_ | refine am_kn am_q9 ?_ | refine am_kn am_p1 ?_ | refine am_ky am_p0 ?_) | refine And.intro (fun h => absurd h (by decide)) (fun _ => ?_) | refine And.intro (fun _ => ?_) (fun h => absurd (by decide) h) | refine And.intro (fun _ => ?_) (fun _ => ?_) | refine And.intro ?_ ?_)
    | refine k _ _ ?_
    | refine gm_up ?_ rfl rfl
    | refine gm_100 ?_ rfl ?_ ?_
    | refine gm_tr ?_ (by assumption) ?_
    | exact gm_i (by assumption)
    | refine mi_up ?_ rfl
    | refine And.intro (fun h => absurd h (by decide)) (fun _ => ?_)
    | refine And.intro (fun _ => ?_) (fun h => absurd (by decide) h)
    | refine And.intro (fun _ => ?_) (fun _ => ?_)
    | refine And.intro ?_ ?_
  all_goals (first | (with_reducible assumption) | decide | omega | assumption | (intros; omega) | (intros; simp only [am_c] at * <;> omega) | (simp only [am_c, am_up] at * <;> omega) | (simp [am_c, am_up] at * <;> omega))
theorem m_lowest {l : Launch} {μ : am_N} {Q : Option am_V → am_N → Prop} {ν : am_N} (w : Int) (hS : gm ms ν μ) (h0 : -6 ≤ w) (h1 : w ≤ -1) (k : ∀ (r : Int) (μ' : am_N), gm ms ν μ' → Q (some (.inr (.inl r))) μ') : am_Does l 142 [.inr (.inr 83), .inl w] μ Q := by
  refine am_Does_of (Nat.le_of_ble_eq_true rfl) (Nat.le_of_ble_eq_true rfl) (Nat.le_of_ble_eq_true rfl) ?_
  have hb := mi_all hS.1
  refine am_go (ct := fun _ => false) am_oX7_lowest 300 ?_
  conv => whnf
  repeat' first
    | (refine (?_ : am_wp _ _ _ _ _ _ _ _ _ _ _ _); conv => whnf)
    | (refine (?_ : am_sw _ _ _ _); conv => whnf)
    | refine And.intro trivial ?_
    | exact trivial
    | (with_reducible assumption)
    | exact fun _ _ h => h
    | exact fun _ _ h => (Bool.or_eq_false_iff.mp h).1
    | ((with_reducible refine (?_ : _ ∧ _)); first | (with_reducible first | refine am_jn am_q1 ?_ | refine am_jn am_q2 ?_ | refine am_jn am_q3 ?_ | refine am_jn am_q4 ?_ | refine am_jn am_q6 ?_ | refine am_jn am_q9 ?_ | refine am_jn am_p1 ?_ | refine am_jy am_p0 ?_ | refine am_kn am_q1 ?_ | refine am_kn am_q2 ?_ | refine am_kn am_q3 ?_ | refine am_kn am_q4 ?_ | refine am_kn am_q6 ?_ | refine am_kn am_q9 ?_ | refine am_kn am_p1 ?_ | refine am_ky am_p0 ?_) | refine And.intro (fun h => absurd h (by decide)) (fun _ => ?_) | refine And.intro (fun _ => ?_) (fun h => absurd (by decide) h) | refine And.intro (fun _ => ?_) (fun _ => ?_) | refine And.intro ?_ ?_)
    | refine k _ _ ?_
    | refine gm_up ?_ rfl rfl
    | refine gm_100 ?_ rfl ?_ ?_
    | refine gm_tr ?_ (by assumption) ?_
    | exact gm_i (by assumption)
    | refine mi_up ?_ rfl
    | refine And.intro (fun h => absurd h (by decide)) (fun _ => ?_)
    | refine And.intro (fun _ => ?_) (fun h => absurd (by decide) h)
    | refine And.intro (fun _ => ?_) (fun _ => ?_)
    | refine And.intro ?_ ?_
  all_goals (first | (with_reducible assumption) | decide | omega | assumption | (intros; omega) | (intros; simp only [am_c] at * <;> omega) | (simp only [am_c, am_up] at * <;> omega) | (simp [am_c, am_up] at * <;> omega))
theorem m_sorts {l : Launch} {μ : am_N} {Q : Option am_V → am_N → Prop} {ν : am_N}  (hS : gm mT ν μ)  (k : ∀ μ' : am_N, gm mT ν μ' → μ' 83 14 = ν 83 14 → 0 ≤ μ' 100 0 → μ' 100 0 ≤ 3 → Q none μ') : am_Does l 165 [.inr (.inr 83)] μ Q := by
  refine am_Does_of (Nat.le_of_ble_eq_true rfl) (Nat.le_of_ble_eq_true rfl) (Nat.le_of_ble_eq_true rfl) ?_
  have hb := mi_all hS.1
  have lp12 : ∀ (m : Nat) (i q : Int) (μ : am_N) , gm mT ν μ → 0 ≤ i → i < μ 83 14 → 0 ≤ q → q ≤ i → (∀ (o2 : Option am_V) (μ : am_N), gm mT ν μ → i + 1 ≤ μ 83 14 → am_AW l 0 (fun _ => 0) 165 Q 2 [some (.inr (.inr 83)), some (.inl (i + 1)), o2] [] μ) → q < (m : Int) → am_AW l 0 (fun _ => 0) 165 Q 12 [some (.inr (.inr 83)), some (.inl i), some (.inl q)] [] μ := by
    intro m
    induction m with
    | zero =>
      intro i q μ hv0 hv1 hv2 hv3 hv4 hv5 hm
      have hb := mi_all hv0.1
      exfalso
      omega
    | succ m ih =>
      intro i q μ hv0 hv1 hv2 hv3 hv4 hv5 hm
      have hb := mi_all hv0.1
      have ho := mi_or hv0.1 (am_c (q - 1)).toNat
      refine am_go (ct := fun pc => Nat.beq pc 12 || Nat.beq pc 2) am_oX7_sorts 300 ?_
      conv => whnf
      repeat' first
        | (refine (?_ : am_wp _ _ _ _ _ _ _ _ _ _ _ _); conv => whnf)
        | (refine (?_ : am_sw _ _ _ _); conv => whnf)
        | refine And.intro trivial ?_
        | exact trivial
        | (with_reducible assumption)
        | refine hv5 _ _ ?_ ?_
        | exact fun _ _ h => h
        | exact fun _ _ h => (Bool.or_eq_false_iff.mp h).1
        | ((with_reducible refine (?_ : _ ∧ _)); first | (with_reducible first | refine am_jn am_q1 ?_ | refine am_jn am_q2 ?_ | refine am_jn am_q3 ?_ | refine am_jn am_q4 ?_ | refine am_jn am_q6 ?_ | refine am_jn am_q9 ?_ | refine am_jn am_p1 ?_ | refine am_jy am_p0 ?_ | refine am_kn am_q1 ?_ | refine am_kn am_q2 ?_ | refine am_kn am_q3 ?_ | refine am_kn am_q4 ?_ | refine am_kn am_q6 ?_ | refine am_kn am_q9 ?_ | refine am_kn am_p1 ?_ | refine am_ky am_p0 ?_) | refine And.intro (fun h => absurd h (by decide)) (fun _ => ?_) | refine And.intro (fun _ => ?_) (fun h => absurd (by decide) h) | refine And.intro (fun _ => ?_) (fun _ => ?_) | refine And.intro ?_ ?_)
        | refine k _ ?_ ?_ ?_ ?_
        | refine gm_up ?_ rfl rfl
        | refine gm_100 ?_ rfl ?_ ?_
        | refine gm_tr ?_ (by assumption) ?_
        | exact gm_i (by assumption)
        | refine mi_up ?_ rfl
        | ((with_reducible refine (?_ : am_AW _ _ _ _ _ 12 _ _ _)); refine ih _ _ _ ?_ ?_ ?_ ?_ ?_ ?_ ?_)
        | refine And.intro (fun h => absurd h (by decide)) (fun _ => ?_)
        | refine And.intro (fun _ => ?_) (fun h => absurd (by decide) h)
        | refine And.intro (fun _ => ?_) (fun _ => ?_)
        | refine And.intro ?_ ?_
      all_goals (first | (with_reducible assumption) | decide | omega | assumption | (intros; omega) | (intros; simp only [am_c] at * <;> omega) | (simp only [am_c, am_up] at * <;> omega) | (simp [am_c, am_up] at * <;> omega))
  have lp12' : ∀ (i q : Int) (μ : am_N) , gm mT ν μ → 0 ≤ i → i < μ 83 14 → 0 ≤ q → q ≤ i → (∀ (o2 : Option am_V) (μ : am_N), gm mT ν μ → i + 1 ≤ μ 83 14 → am_AW l 0 (fun _ => 0) 165 Q 2 [some (.inr (.inr 83)), some (.inl (i + 1)), o2] [] μ) → am_AW l 0 (fun _ => 0) 165 Q 12 [some (.inr (.inr 83)), some (.inl i), some (.inl q)] [] μ := fun i q μ hv0 hv1 hv2 hv3 hv4 hv5 => lp12 ((q) + 1).toNat i q μ hv0 hv1 hv2 hv3 hv4 hv5 (by omega)
  have lp2 : ∀ (m : Nat) (i : Int) (o2 : Option am_V) (μ : am_N) , gm mT ν μ → 0 ≤ i → i ≤ μ 83 14 → 4 - i < (m : Int) → am_AW l 0 (fun _ => 0) 165 Q 2 [some (.inr (.inr 83)), some (.inl i), o2] [] μ := by
    intro m
    induction m with
    | zero =>
      intro i o2 μ hv0 hv1 hv2 hm
      have hb := mi_all hv0.1
      exfalso
      omega
    | succ m ih =>
      intro i o2 μ hv0 hv1 hv2 hm
      have hb := mi_all hv0.1
      have e14 : μ 83 14 = ν 83 14 := hv0.2 83 14 rfl
      refine am_go (ct := fun pc => Nat.beq pc 12 || Nat.beq pc 2) am_oX7_sorts 300 ?_
      conv => whnf
      repeat' first
        | (refine (?_ : am_wp _ _ _ _ _ _ _ _ _ _ _ _); conv => whnf)
        | (refine (?_ : am_sw _ _ _ _); conv => whnf)
        | refine And.intro trivial ?_
        | exact trivial
        | (with_reducible assumption)
        | (refine fun _ _ _ _ => ih _ _ _ ?_ ?_ ?_ ?_)
        | exact fun _ _ h => h
        | exact fun _ _ h => (Bool.or_eq_false_iff.mp h).1
        | ((with_reducible refine (?_ : _ ∧ _)); first | (with_reducible first | refine am_jn am_q1 ?_ | refine am_jn am_q2 ?_ | refine am_jn am_q3 ?_ | refine am_jn am_q4 ?_ | refine am_jn am_q6 ?_ | refine am_jn am_q9 ?_ | refine am_jn am_p1 ?_ | refine am_jy am_p0 ?_ | refine am_kn am_q1 ?_ | refine am_kn am_q2 ?_ | refine am_kn am_q3 ?_ | refine am_kn am_q4 ?_ | refine am_kn am_q6 ?_ | refine am_kn am_q9 ?_ | refine am_kn am_p1 ?_ | refine am_ky am_p0 ?_) | refine And.intro (fun h => absurd h (by decide)) (fun _ => ?_) | refine And.intro (fun _ => ?_) (fun h => absurd (by decide) h) | refine And.intro (fun _ => ?_) (fun _ => ?_) | refine And.intro ?_ ?_)
        | refine k _ ?_ ?_ ?_ ?_
        | refine gm_up ?_ rfl rfl
        | refine gm_100 ?_ rfl ?_ ?_
        | refine gm_tr ?_ (by assumption) ?_
        | exact gm_i (by assumption)
        | refine mi_up ?_ rfl
        | ((with_reducible refine (?_ : am_AW _ _ _ _ _ 2 _ _ _)); refine ih _ _ _ ?_ ?_ ?_ ?_)
        | ((with_reducible refine (?_ : am_AW _ _ _ _ _ 12 _ _ _)); refine lp12' _ _ _ ?_ ?_ ?_ ?_ ?_ ?_)
        | refine And.intro (fun h => absurd h (by decide)) (fun _ => ?_)
        | refine And.intro (fun _ => ?_) (fun h => absurd (by decide) h)
        | refine And.intro (fun _ => ?_) (fun _ => ?_)
        | refine And.intro ?_ ?_
      all_goals (first | (with_reducible assumption) | decide | omega | assumption | (intros; omega) | (intros; simp only [am_c] at * <;> omega) | (simp only [am_c, am_up] at * <;> omega) | (simp [am_c, am_up] at * <;> omega))
  have lp2' : ∀ (i : Int) (o2 : Option am_V) (μ : am_N) , gm mT ν μ → 0 ≤ i → i ≤ μ 83 14 → am_AW l 0 (fun _ => 0) 165 Q 2 [some (.inr (.inr 83)), some (.inl i), o2] [] μ := fun i o2 μ hv0 hv1 hv2 => lp2 ((4 - i) + 1).toNat i o2 μ hv0 hv1 hv2 (by omega)
  refine am_go (ct := fun pc => Nat.beq pc 12 || Nat.beq pc 2) am_oX7_sorts 300 ?_
  conv => whnf
  repeat' first
    | (refine (?_ : am_wp _ _ _ _ _ _ _ _ _ _ _ _); conv => whnf)
    | (refine (?_ : am_sw _ _ _ _); conv => whnf)
    | refine And.intro trivial ?_
    | exact trivial
    | (with_reducible assumption)
    | exact fun _ _ h => h
    | exact fun _ _ h => (Bool.or_eq_false_iff.mp h).1
    | ((with_reducible refine (?_ : _ ∧ _)); first | (with_reducible first | refine am_jn am_q1 ?_ | refine am_jn am_q2 ?_ | refine am_jn am_q3 ?_ | refine am_jn am_q4 ?_ | refine am_jn am_q6 ?_ | refine am_jn am_q9 ?_ | refine am_jn am_p1 ?_ | refine am_jy am_p0 ?_ | refine am_kn am_q1 ?_ | refine am_kn am_q2 ?_ | refine am_kn am_q3 ?_ | refine am_kn am_q4 ?_ | refine am_kn am_q6 ?_ | refine am_kn am_q9 ?_ | refine am_kn am_p1 ?_ | refine am_ky am_p0 ?_) | refine And.intro (fun h => absurd h (by decide)) (fun _ => ?_) | refine And.intro (fun _ => ?_) (fun h => absurd (by decide) h) | refine And.intro (fun _ => ?_) (fun _ => ?_) | refine And.intro ?_ ?_)
    | refine k _ ?_ ?_ ?_ ?_
    | refine gm_up ?_ rfl rfl
    | refine gm_100 ?_ rfl ?_ ?_
    | refine gm_tr ?_ (by assumption) ?_
    | exact gm_i (by assumption)
    | refine mi_up ?_ rfl
    | ((with_reducible refine (?_ : am_AW _ _ _ _ _ 2 _ _ _)); refine lp2' _ _ _ ?_ ?_ ?_)
    | ((with_reducible refine (?_ : am_AW _ _ _ _ _ 12 _ _ _)); refine lp12' _ _ _ ?_ ?_ ?_ ?_ ?_ ?_)
    | refine And.intro (fun h => absurd h (by decide)) (fun _ => ?_)
    | refine And.intro (fun _ => ?_) (fun h => absurd (by decide) h)
    | refine And.intro (fun _ => ?_) (fun _ => ?_)
    | refine And.intro ?_ ?_
  all_goals (first | (with_reducible assumption) | decide | omega | assumption | (intros; omega) | (intros; simp only [am_c] at * <;> omega) | (simp only [am_c, am_up] at * <;> omega) | (simp [am_c, am_up] at * <;> omega))
theorem m_takesTimes {l : Launch} {μ : am_N} {Q : Option am_V → am_N → Prop} {ν : am_N}  (hS : gm mT ν μ)  (k : ∀ μ' : am_N, gm mT ν μ' → μ' 83 14 = ν 83 14 → 0 ≤ μ' 100 0 → μ' 100 0 ≤ 3 → Q none μ') : am_Does l 166 [.inr (.inr 83)] μ Q := by
  refine am_Does_of (Nat.le_of_ble_eq_true rfl) (Nat.le_of_ble_eq_true rfl) (Nat.le_of_ble_eq_true rfl) ?_
  have hb := mi_all hS.1
  have lp2 : ∀ (m : Nat) (i : Int) (μ : am_N) , gm mT ν μ → 0 ≤ i → i ≤ 4 → 4 - i < (m : Int) → am_AW l 0 (fun _ => 0) 166 Q 2 [some (.inr (.inr 83)), some (.inl i)] [] μ := by
    intro m
    induction m with
    | zero =>
      intro i μ hv0 hv1 hv2 hm
      have hb := mi_all hv0.1
      exfalso
      omega
    | succ m ih =>
      intro i μ hv0 hv1 hv2 hm
      have hb := mi_all hv0.1
      have e14 : μ 83 14 = ν 83 14 := hv0.2 83 14 rfl
      refine am_go (ct := fun pc => Nat.beq pc 2) am_oX7_takesTimes 300 ?_
      conv => whnf
      repeat' first
        | (refine (?_ : am_wp _ _ _ _ _ _ _ _ _ _ _ _); conv => whnf)
        | (refine (?_ : am_sw _ _ _ _); conv => whnf)
        | refine And.intro trivial ?_
        | exact trivial
        | (with_reducible assumption)
        | exact fun _ _ h => h
        | exact fun _ _ h => (Bool.or_eq_false_iff.mp h).1
        | ((with_reducible refine (?_ : _ ∧ _)); first | (with_reducible first | refine am_jn am_q1 ?_ | refine am_jn am_q2 ?_ | refine am_jn am_q3 ?_ | refine am_jn am_q4 ?_ | refine am_jn am_q6 ?_ | refine am_jn am_q9 ?_ | refine am_jn am_p1 ?_ | refine am_jy am_p0 ?_ | refine am_kn am_q1 ?_ | refine am_kn am_q2 ?_ | refine am_kn am_q3 ?_ | refine am_kn am_q4 ?_ | refine am_kn am_q6 ?_ | refine am_kn am_q9 ?_ | refine am_kn am_p1 ?_ | refine am_ky am_p0 ?_) | refine And.intro (fun h => absurd h (by decide)) (fun _ => ?_) | refine And.intro (fun _ => ?_) (fun h => absurd (by decide) h) | refine And.intro (fun _ => ?_) (fun _ => ?_) | refine And.intro ?_ ?_)
        | refine k _ ?_ ?_ ?_ ?_
        | ((with_reducible refine (?_ : am_Does _ 164 _ _ _)); refine m_timeOf _ ?_ ?_ ?_ (fun _ => ?_))
        | ((with_reducible refine (?_ : am_Does _ 165 _ _ _)); refine m_sorts  (gm_rf (by repeat' first | assumption | exact gm_i (by assumption) | refine mi_up ?_ rfl | refine mi_100 ?_ ?_ ?_ | (simp only [am_c] at * <;> omega)))  (fun _ _ _ _ _ => ?_))
        | refine gm_up ?_ rfl rfl
        | refine gm_100 ?_ rfl ?_ ?_
        | refine gm_tr ?_ (by assumption) ?_
        | exact gm_i (by assumption)
        | refine mi_up ?_ rfl
        | ((with_reducible refine (?_ : am_AW _ _ _ _ _ 2 _ _ _)); refine ih _ _ ?_ ?_ ?_ ?_)
        | refine And.intro (fun h => absurd h (by decide)) (fun _ => ?_)
        | refine And.intro (fun _ => ?_) (fun h => absurd (by decide) h)
        | refine And.intro (fun _ => ?_) (fun _ => ?_)
        | refine And.intro ?_ ?_
      all_goals (first | (with_reducible assumption) | decide | omega | assumption | (intros; omega) | (intros; simp only [am_c] at * <;> omega) | (simp only [am_c, am_up] at * <;> omega) | (simp [am_c, am_up] at * <;> omega))
  have lp2' : ∀ (i : Int) (μ : am_N) , gm mT ν μ → 0 ≤ i → i ≤ 4 → am_AW l 0 (fun _ => 0) 166 Q 2 [some (.inr (.inr 83)), some (.inl i)] [] μ := fun i μ hv0 hv1 hv2 => lp2 ((4 - i) + 1).toNat i μ hv0 hv1 hv2 (by omega)
  refine am_go (ct := fun pc => Nat.beq pc 2) am_oX7_takesTimes 300 ?_
  conv => whnf
  repeat' first
    | (refine (?_ : am_wp _ _ _ _ _ _ _ _ _ _ _ _); conv => whnf)
    | (refine (?_ : am_sw _ _ _ _); conv => whnf)
    | refine And.intro trivial ?_
    | exact trivial
    | (with_reducible assumption)
    | exact fun _ _ h => h
    | exact fun _ _ h => (Bool.or_eq_false_iff.mp h).1
    | ((with_reducible refine (?_ : _ ∧ _)); first | (with_reducible first | refine am_jn am_q1 ?_ | refine am_jn am_q2 ?_ | refine am_jn am_q3 ?_ | refine am_jn am_q4 ?_ | refine am_jn am_q6 ?_ | refine am_jn am_q9 ?_ | refine am_jn am_p1 ?_ | refine am_jy am_p0 ?_ | refine am_kn am_q1 ?_ | refine am_kn am_q2 ?_ | refine am_kn am_q3 ?_ | refine am_kn am_q4 ?_ | refine am_kn am_q6 ?_ | refine am_kn am_q9 ?_ | refine am_kn am_p1 ?_ | refine am_ky am_p0 ?_) | refine And.intro (fun h => absurd h (by decide)) (fun _ => ?_) | refine And.intro (fun _ => ?_) (fun h => absurd (by decide) h) | refine And.intro (fun _ => ?_) (fun _ => ?_) | refine And.intro ?_ ?_)
    | refine k _ ?_ ?_ ?_ ?_
    | ((with_reducible refine (?_ : am_Does _ 164 _ _ _)); refine m_timeOf _ ?_ ?_ ?_ (fun _ => ?_))
    | ((with_reducible refine (?_ : am_Does _ 165 _ _ _)); refine m_sorts  (gm_rf (by repeat' first | assumption | exact gm_i (by assumption) | refine mi_up ?_ rfl | refine mi_100 ?_ ?_ ?_ | (simp only [am_c] at * <;> omega)))  (fun _ _ _ _ _ => ?_))
    | refine gm_up ?_ rfl rfl
    | refine gm_100 ?_ rfl ?_ ?_
    | refine gm_tr ?_ (by assumption) ?_
    | exact gm_i (by assumption)
    | refine mi_up ?_ rfl
    | ((with_reducible refine (?_ : am_AW _ _ _ _ _ 2 _ _ _)); refine lp2' _ _ ?_ ?_ ?_)
    | refine And.intro (fun h => absurd h (by decide)) (fun _ => ?_)
    | refine And.intro (fun _ => ?_) (fun h => absurd (by decide) h)
    | refine And.intro (fun _ => ?_) (fun _ => ?_)
    | refine And.intro ?_ ?_
  all_goals (first | (with_reducible assumption) | decide | omega | assumption | (intros; omega) | (intros; simp only [am_c] at * <;> omega) | (simp only [am_c, am_up] at * <;> omega) | (simp [am_c, am_up] at * <;> omega))
theorem m_takesParts {l : Launch} {μ : am_N} {Q : Option am_V → am_N → Prop} {ν : am_N} (a : Int) (hS : gm mT ν μ)  (k : ∀ μ' : am_N, gm mT ν μ' → μ' 83 14 = ν 83 14 → 0 ≤ μ' 100 0 → μ' 100 0 ≤ 3 → Q none μ') : am_Does l 168 [.inr (.inr 83), .inl a] μ Q := by
  refine am_Does_of (Nat.le_of_ble_eq_true rfl) (Nat.le_of_ble_eq_true rfl) (Nat.le_of_ble_eq_true rfl) ?_
  have hb := mi_all hS.1
  have lp2 : ∀ (m : Nat) (i : Int) (μ : am_N) , gm mT ν μ → 0 ≤ i → i ≤ 4 → 4 - i < (m : Int) → am_AW l 0 (fun _ => 0) 168 Q 2 [some (.inr (.inr 83)), some (.inl a), some (.inl i)] [] μ := by
    intro m
    induction m with
    | zero =>
      intro i μ hv0 hv1 hv2 hm
      have hb := mi_all hv0.1
      exfalso
      omega
    | succ m ih =>
      intro i μ hv0 hv1 hv2 hm
      have hb := mi_all hv0.1
      have e14 : μ 83 14 = ν 83 14 := hv0.2 83 14 rfl
      refine am_go (ct := fun pc => Nat.beq pc 2) am_oX7_takesParts 300 ?_
      conv => whnf
      repeat' first
        | (refine (?_ : am_wp _ _ _ _ _ _ _ _ _ _ _ _); conv => whnf)
        | (refine (?_ : am_sw _ _ _ _); conv => whnf)
        | refine And.intro trivial ?_
        | exact trivial
        | (with_reducible assumption)
        | exact fun _ _ h => h
        | exact fun _ _ h => (Bool.or_eq_false_iff.mp h).1
        | ((with_reducible refine (?_ : _ ∧ _)); first | (with_reducible first | refine am_jn am_q1 ?_ | refine am_jn am_q2 ?_ | refine am_jn am_q3 ?_ | refine am_jn am_q4 ?_ | refine am_jn am_q6 ?_ | refine am_jn am_q9 ?_ | refine am_jn am_p1 ?_ | refine am_jy am_p0 ?_ | refine am_kn am_q1 ?_ | refine am_kn am_q2 ?_ | refine am_kn am_q3 ?_ | refine am_kn am_q4 ?_ | refine am_kn am_q6 ?_ | refine am_kn am_q9 ?_ | refine am_kn am_p1 ?_ | refine am_ky am_p0 ?_) | refine And.intro (fun h => absurd h (by decide)) (fun _ => ?_) | refine And.intro (fun _ => ?_) (fun h => absurd (by decide) h) | refine And.intro (fun _ => ?_) (fun _ => ?_) | refine And.intro ?_ ?_)
        | refine k _ ?_ ?_ ?_ ?_
        | ((with_reducible refine (?_ : am_Does _ 167 _ _ _)); refine m_partTime _ _ ?_ ?_ ?_ (fun _ => ?_))
        | ((with_reducible refine (?_ : am_Does _ 165 _ _ _)); refine m_sorts  (gm_rf (by repeat' first | assumption | exact gm_i (by assumption) | refine mi_up ?_ rfl | refine mi_100 ?_ ?_ ?_ | (simp only [am_c] at * <;> omega)))  (fun _ _ _ _ _ => ?_))
        | refine gm_up ?_ rfl rfl
        | refine gm_100 ?_ rfl ?_ ?_
        | refine gm_tr ?_ (by assumption) ?_
        | exact gm_i (by assumption)
        | refine mi_up ?_ rfl
        | ((with_reducible refine (?_ : am_AW _ _ _ _ _ 2 _ _ _)); refine ih _ _ ?_ ?_ ?_ ?_)
        | refine And.intro (fun h => absurd h (by decide)) (fun _ => ?_)
        | refine And.intro (fun _ => ?_) (fun h => absurd (by decide) h)
        | refine And.intro (fun _ => ?_) (fun _ => ?_)
        | refine And.intro ?_ ?_
      all_goals (first | (with_reducible assumption) | decide | omega | assumption | (intros; omega) | (intros; simp only [am_c] at * <;> omega) | (simp only [am_c, am_up] at * <;> omega) | (simp [am_c, am_up] at * <;> omega))
  have lp2' : ∀ (i : Int) (μ : am_N) , gm mT ν μ → 0 ≤ i → i ≤ 4 → am_AW l 0 (fun _ => 0) 168 Q 2 [some (.inr (.inr 83)), some (.inl a), some (.inl i)] [] μ := fun i μ hv0 hv1 hv2 => lp2 ((4 - i) + 1).toNat i μ hv0 hv1 hv2 (by omega)
  refine am_go (ct := fun pc => Nat.beq pc 2) am_oX7_takesParts 300 ?_
  conv => whnf
  repeat' first
    | (refine (?_ : am_wp _ _ _ _ _ _ _ _ _ _ _ _); conv => whnf)
    | (refine (?_ : am_sw _ _ _ _); conv => whnf)
    | refine And.intro trivial ?_
    | exact trivial
    | (with_reducible assumption)
    | exact fun _ _ h => h
    | exact fun _ _ h => (Bool.or_eq_false_iff.mp h).1
    | ((with_reducible refine (?_ : _ ∧ _)); first | (with_reducible first | refine am_jn am_q1 ?_ | refine am_jn am_q2 ?_ | refine am_jn am_q3 ?_ | refine am_jn am_q4 ?_ | refine am_jn am_q6 ?_ | refine am_jn am_q9 ?_ | refine am_jn am_p1 ?_ | refine am_jy am_p0 ?_ | refine am_kn am_q1 ?_ | refine am_kn am_q2 ?_ | refine am_kn am_q3 ?_ | refine am_kn am_q4 ?_ | refine am_kn am_q6 ?_ | refine am_kn am_q9 ?_ | refine am_kn am_p1 ?_ | refine am_ky am_p0 ?_) | refine And.intro (fun h => absurd h (by decide)) (fun _ => ?_) | refine And.intro (fun _ => ?_) (fun h => absurd (by decide) h) | refine And.intro (fun _ => ?_) (fun _ => ?_) | refine And.intro ?_ ?_)
    | refine k _ ?_ ?_ ?_ ?_
    | ((with_reducible refine (?_ : am_Does _ 167 _ _ _)); refine m_partTime _ _ ?_ ?_ ?_ (fun _ => ?_))
    | ((with_reducible refine (?_ : am_Does _ 165 _ _ _)); refine m_sorts  (gm_rf (by repeat' first | assumption | exact gm_i (by assumption) | refine mi_up ?_ rfl | refine mi_100 ?_ ?_ ?_ | (simp only [am_c] at * <;> omega)))  (fun _ _ _ _ _ => ?_))
    | refine gm_up ?_ rfl rfl
    | refine gm_100 ?_ rfl ?_ ?_
    | refine gm_tr ?_ (by assumption) ?_
    | exact gm_i (by assumption)
    | refine mi_up ?_ rfl
    | ((with_reducible refine (?_ : am_AW _ _ _ _ _ 2 _ _ _)); refine lp2' _ _ ?_ ?_ ?_)
    | refine And.intro (fun h => absurd h (by decide)) (fun _ => ?_)
    | refine And.intro (fun _ => ?_) (fun h => absurd (by decide) h)
    | refine And.intro (fun _ => ?_) (fun _ => ?_)
    | refine And.intro ?_ ?_
  all_goals (first | (with_reducible assumption) | decide | omega | assumption | (intros; omega) | (intros; simp only [am_c] at * <;> omega) | (simp only [am_c, am_up] at * <;> omega) | (simp [am_c, am_up] at * <;> omega))
theorem m_findFirsts {l : Launch} {μ : am_N} {Q : Option am_V → am_N → Prop} {ν : am_N}  (hS : gm mT ν μ)  (k : ∀ μ' : am_N, gm mT ν μ' → Q none μ') : am_Does l 182 [.inr (.inr 83)] μ Q := by
  refine am_Does_of (Nat.le_of_ble_eq_true rfl) (Nat.le_of_ble_eq_true rfl) (Nat.le_of_ble_eq_true rfl) ?_
  have hb := mi_all hS.1
  have lp22 : ∀ (m : Nat) (i : Int) (μ : am_N) , gm mT ν μ → 0 ≤ i → (i ≤ am_c (am_shl 1 (2 * ν 83 14)) ∨ i = 0) → max (am_c (am_shl 1 (2 * ν 83 14)) - i) 0 < (m : Int) → am_AW l 0 (fun _ => 0) 182 Q 22 [some (.inr (.inr 83)), some (.inl i)] [] μ := by
    intro m
    induction m with
    | zero =>
      intro i μ hv0 hv1 hv2 hm
      have hb := mi_all hv0.1
      exfalso
      omega
    | succ m ih =>
      intro i μ hv0 hv1 hv2 hm
      have hb := mi_all hv0.1
      have e14 : μ 83 14 = ν 83 14 := hv0.2 83 14 rfl
      refine am_go (ct := fun pc => Nat.beq pc 22 || Nat.beq pc 2) am_oX7_findFirsts 300 ?_
      conv => whnf
      repeat' first
        | (refine (?_ : am_wp _ _ _ _ _ _ _ _ _ _ _ _); conv => whnf)
        | (refine (?_ : am_sw _ _ _ _); conv => whnf)
        | refine And.intro trivial ?_
        | exact trivial
        | (with_reducible assumption)
        | exact fun _ _ h => h
        | exact fun _ _ h => (Bool.or_eq_false_iff.mp h).1
        | ((with_reducible refine (?_ : _ ∧ _)); first | (with_reducible first | refine am_jn am_q1 ?_ | refine am_jn am_q2 ?_ | refine am_jn am_q3 ?_ | refine am_jn am_q4 ?_ | refine am_jn am_q6 ?_ | refine am_jn am_q9 ?_ | refine am_jn am_p1 ?_ | refine am_jy am_p0 ?_ | refine am_kn am_q1 ?_ | refine am_kn am_q2 ?_ | refine am_kn am_q3 ?_ | refine am_kn am_q4 ?_ | refine am_kn am_q6 ?_ | refine am_kn am_q9 ?_ | refine am_kn am_p1 ?_ | refine am_ky am_p0 ?_) | refine And.intro (fun h => absurd h (by decide)) (fun _ => ?_) | refine And.intro (fun _ => ?_) (fun h => absurd (by decide) h) | refine And.intro (fun _ => ?_) (fun _ => ?_) | refine And.intro ?_ ?_)
        | refine k _ ?_
        | ((with_reducible refine (?_ : am_Does _ 169 _ _ _)); refine m_races ?_)
        | ((with_reducible refine (?_ : am_Does _ 168 _ _ _)); refine m_takesParts _ (gm_rf (by repeat' first | assumption | exact gm_i (by assumption) | refine mi_up ?_ rfl | refine mi_100 ?_ ?_ ?_ | (simp only [am_c] at * <;> omega)))  (fun _ _ _ _ _ => ?_))
        | refine gm_up ?_ rfl rfl
        | refine gm_100 ?_ rfl ?_ ?_
        | refine gm_tr ?_ (by assumption) ?_
        | exact gm_i (by assumption)
        | refine mi_up ?_ rfl
        | ((with_reducible refine (?_ : am_AW _ _ _ _ _ 22 _ _ _)); refine ih _ _ ?_ ?_ ?_ ?_)
        | refine And.intro (fun h => absurd h (by decide)) (fun _ => ?_)
        | refine And.intro (fun _ => ?_) (fun h => absurd (by decide) h)
        | refine And.intro (fun _ => ?_) (fun _ => ?_)
        | refine And.intro ?_ ?_
      all_goals (first | (with_reducible assumption) | decide | omega | assumption | (simp only [e14] at * <;> omega) | (simp only [e14, am_c] at * <;> omega) | exact am_c3l (by assumption) (by assumption) | exact am_c3h (by assumption) (by assumption) | exact am_c3k (by assumption) (by assumption) | (trace_state; fail))
  have lp22' : ∀ (i : Int) (μ : am_N) , gm mT ν μ → 0 ≤ i → (i ≤ am_c (am_shl 1 (2 * ν 83 14)) ∨ i = 0) → am_AW l 0 (fun _ => 0) 182 Q 22 [some (.inr (.inr 83)), some (.inl i)] [] μ := fun i μ hv0 hv1 hv2 => lp22 ((max (am_c (am_shl 1 (2 * ν 83 14)) - i) 0) + 1).toNat i μ hv0 hv1 hv2 (by omega)
  have lp2 : ∀ (m : Nat) (i : Int) (μ : am_N) , gm mT ν μ → 0 ≤ i → i ≤ 4 → 4 - i < (m : Int) → am_AW l 0 (fun _ => 0) 182 Q 2 [some (.inr (.inr 83)), some (.inl i)] [] μ := by
    intro m
    induction m with
    | zero =>
      intro i μ hv0 hv1 hv2 hm
      have hb := mi_all hv0.1
      exfalso
      omega
    | succ m ih =>
      intro i μ hv0 hv1 hv2 hm
      have hb := mi_all hv0.1
      refine am_go (ct := fun pc => Nat.beq pc 22 || Nat.beq pc 2) am_oX7_findFirsts 300 ?_
      conv => whnf
      repeat' first
        | (refine (?_ : am_wp _ _ _ _ _ _ _ _ _ _ _ _); conv => whnf)
        | (refine (?_ : am_sw _ _ _ _); conv => whnf)
        | refine And.intro trivial ?_
        | exact trivial
        | (with_reducible assumption)
        | exact fun _ _ h => h
        | exact fun _ _ h => (Bool.or_eq_false_iff.mp h).1
        | ((with_reducible refine (?_ : _ ∧ _)); first | (with_reducible first | refine am_jn am_q1 ?_ | refine am_jn am_q2 ?_ | refine am_jn am_q3 ?_ | refine am_jn am_q4 ?_ | refine am_jn am_q6 ?_ | refine am_jn am_q9 ?_ | refine am_jn am_p1 ?_ | refine am_jy am_p0 ?_ | refine am_kn am_q1 ?_ | refine am_kn am_q2 ?_ | refine am_kn am_q3 ?_ | refine am_kn am_q4 ?_ | refine am_kn am_q6 ?_ | refine am_kn am_q9 ?_ | refine am_kn am_p1 ?_ | refine am_ky am_p0 ?_) | refine And.intro (fun h => absurd h (by decide)) (fun _ => ?_) | refine And.intro (fun _ => ?_) (fun h => absurd (by decide) h) | refine And.intro (fun _ => ?_) (fun _ => ?_) | refine And.intro ?_ ?_)
        | refine k _ ?_
        | ((with_reducible refine (?_ : am_Does _ 169 _ _ _)); refine m_races ?_)
        | ((with_reducible refine (?_ : am_Does _ 168 _ _ _)); refine m_takesParts _ (gm_rf (by repeat' first | assumption | exact gm_i (by assumption) | refine mi_up ?_ rfl | refine mi_100 ?_ ?_ ?_ | (simp only [am_c] at * <;> omega)))  (fun _ _ _ _ _ => ?_))
        | refine gm_up ?_ rfl rfl
        | refine gm_100 ?_ rfl ?_ ?_
        | refine gm_tr ?_ (by assumption) ?_
        | exact gm_i (by assumption)
        | refine mi_up ?_ rfl
        | ((with_reducible refine (?_ : am_AW _ _ _ _ _ 2 _ _ _)); refine ih _ _ ?_ ?_ ?_ ?_)
        | ((with_reducible refine (?_ : am_AW _ _ _ _ _ 22 _ _ _)); refine lp22' _ _ ?_ ?_ ?_)
        | refine And.intro (fun h => absurd h (by decide)) (fun _ => ?_)
        | refine And.intro (fun _ => ?_) (fun h => absurd (by decide) h)
        | refine And.intro (fun _ => ?_) (fun _ => ?_)
        | refine And.intro ?_ ?_
      all_goals (first | (with_reducible assumption) | decide | omega | assumption | (intros; omega) | (intros; simp only [am_c] at * <;> omega) | (simp only [am_c, am_up] at * <;> omega) | (simp [am_c, am_up] at * <;> omega))
  have lp2' : ∀ (i : Int) (μ : am_N) , gm mT ν μ → 0 ≤ i → i ≤ 4 → am_AW l 0 (fun _ => 0) 182 Q 2 [some (.inr (.inr 83)), some (.inl i)] [] μ := fun i μ hv0 hv1 hv2 => lp2 ((4 - i) + 1).toNat i μ hv0 hv1 hv2 (by omega)
  refine am_go (ct := fun pc => Nat.beq pc 22 || Nat.beq pc 2) am_oX7_findFirsts 300 ?_
  conv => whnf
  repeat' first
    | (refine (?_ : am_wp _ _ _ _ _ _ _ _ _ _ _ _); conv => whnf)
    | (refine (?_ : am_sw _ _ _ _); conv => whnf)
    | refine And.intro trivial ?_
    | exact trivial
    | (with_reducible assumption)
    | exact fun _ _ h => h
    | exact fun _ _ h => (Bool.or_eq_false_iff.mp h).1
    | ((with_reducible refine (?_ : _ ∧ _)); first | (with_reducible first | refine am_jn am_q1 ?_ | refine am_jn am_q2 ?_ | refine am_jn am_q3 ?_ | refine am_jn am_q4 ?_ | refine am_jn am_q6 ?_ | refine am_jn am_q9 ?_ | refine am_jn am_p1 ?_ | refine am_jy am_p0 ?_ | refine am_kn am_q1 ?_ | refine am_kn am_q2 ?_ | refine am_kn am_q3 ?_ | refine am_kn am_q4 ?_ | refine am_kn am_q6 ?_ | refine am_kn am_q9 ?_ | refine am_kn am_p1 ?_ | refine am_ky am_p0 ?_) | refine And.intro (fun h => absurd h (by decide)) (fun _ => ?_) | refine And.intro (fun _ => ?_) (fun h => absurd (by decide) h) | refine And.intro (fun _ => ?_) (fun _ => ?_) | refine And.intro ?_ ?_)
    | refine k _ ?_
    | ((with_reducible refine (?_ : am_Does _ 169 _ _ _)); refine m_races ?_)
    | ((with_reducible refine (?_ : am_Does _ 168 _ _ _)); refine m_takesParts _ (gm_rf (by repeat' first | assumption | exact gm_i (by assumption) | refine mi_up ?_ rfl | refine mi_100 ?_ ?_ ?_ | (simp only [am_c] at * <;> omega)))  (fun _ _ _ _ _ => ?_))
    | refine gm_up ?_ rfl rfl
    | refine gm_100 ?_ rfl ?_ ?_
    | refine gm_tr ?_ (by assumption) ?_
    | exact gm_i (by assumption)
    | refine mi_up ?_ rfl
    | ((with_reducible refine (?_ : am_AW _ _ _ _ _ 2 _ _ _)); refine lp2' _ _ ?_ ?_ ?_)
    | ((with_reducible refine (?_ : am_AW _ _ _ _ _ 22 _ _ _)); refine lp22' _ _ ?_ ?_ ?_)
    | refine And.intro (fun h => absurd h (by decide)) (fun _ => ?_)
    | refine And.intro (fun _ => ?_) (fun h => absurd (by decide) h)
    | refine And.intro (fun _ => ?_) (fun _ => ?_)
    | refine And.intro ?_ ?_
  all_goals (first | (with_reducible assumption) | decide | omega | assumption | (intros; omega) | (intros; simp only [am_c] at * <;> omega) | (simp only [am_c, am_up] at * <;> omega) | (simp [am_c, am_up] at * <;> omega))
theorem m_uneven {l : Launch} {μ : am_N} {Q : Option am_V → am_N → Prop} {ν : am_N}  (hS : gm mT ν μ)  (k : ∀ (r : Int) (μ' : am_N), gm mT ν μ' → Q (some (.inl r)) μ') : am_Does l 183 [.inr (.inr 83)] μ Q := by
  refine am_Does_of (Nat.le_of_ble_eq_true rfl) (Nat.le_of_ble_eq_true rfl) (Nat.le_of_ble_eq_true rfl) ?_
  have hb := mi_all hS.1
  have lp13 : ∀ (m : Nat) (a b i : Int) (μ : am_N) , gm mT ν μ → 0 ≤ i → i ≤ 4 → 4 - i < (m : Int) → am_AW l 0 (fun _ => 0) 183 Q 13 [some (.inr (.inr 83)), some (.inl a), some (.inl b), some (.inl i)] [] μ := by
    intro m
    induction m with
    | zero =>
      intro a b i μ hv0 hv1 hv2 hm
      have hb := mi_all hv0.1
      exfalso
      omega
    | succ m ih =>
      intro a b i μ hv0 hv1 hv2 hm
      have hb := mi_all hv0.1
      refine am_go (ct := fun pc => Nat.beq pc 13) am_oX7_uneven 300 ?_
      conv => whnf
      repeat' first
        | (refine (?_ : am_wp _ _ _ _ _ _ _ _ _ _ _ _); conv => whnf)
        | (refine (?_ : am_sw _ _ _ _); conv => whnf)
        | refine And.intro trivial ?_
        | exact trivial
        | (with_reducible assumption)
        | exact fun _ _ h => h
        | exact fun _ _ h => (Bool.or_eq_false_iff.mp h).1
        | ((with_reducible refine (?_ : _ ∧ _)); first | (with_reducible first | refine am_jn am_q1 ?_ | refine am_jn am_q2 ?_ | refine am_jn am_q3 ?_ | refine am_jn am_q4 ?_ | refine am_jn am_q6 ?_ | refine am_jn am_q9 ?_ | refine am_jn am_p1 ?_ | refine am_jy am_p0 ?_ | refine am_kn am_q1 ?_ | refine am_kn am_q2 ?_ | refine am_kn am_q3 ?_ | refine am_kn am_q4 ?_ | refine am_kn am_q6 ?_ | refine am_kn am_q9 ?_ | refine am_kn am_p1 ?_ | refine am_ky am_p0 ?_) | refine And.intro (fun h => absurd h (by decide)) (fun _ => ?_) | refine And.intro (fun _ => ?_) (fun h => absurd (by decide) h) | refine And.intro (fun _ => ?_) (fun _ => ?_) | refine And.intro ?_ ?_)
        | refine k _ _ ?_
        | ((with_reducible refine (?_ : am_Does _ 182 _ _ _)); refine m_findFirsts  (gm_rf (by repeat' first | assumption | exact gm_i (by assumption) | refine mi_up ?_ rfl | refine mi_100 ?_ ?_ ?_ | (simp only [am_c] at * <;> omega)))  (fun _ _ => ?_))
        | ((with_reducible refine (?_ : am_Does _ 169 _ _ _)); refine m_races ?_)
        | refine gm_up ?_ rfl rfl
        | refine gm_100 ?_ rfl ?_ ?_
        | refine gm_tr ?_ (by assumption) ?_
        | exact gm_i (by assumption)
        | refine mi_up ?_ rfl
        | ((with_reducible refine (?_ : am_AW _ _ _ _ _ 13 _ _ _)); refine ih _ _ _ _ ?_ ?_ ?_ ?_)
        | refine And.intro (fun h => absurd h (by decide)) (fun _ => ?_)
        | refine And.intro (fun _ => ?_) (fun h => absurd (by decide) h)
        | refine And.intro (fun _ => ?_) (fun _ => ?_)
        | refine And.intro ?_ ?_
      all_goals (first | (with_reducible assumption) | decide | omega | assumption | (intros; omega) | (intros; simp only [am_c] at * <;> omega) | (simp only [am_c, am_up] at * <;> omega) | (simp [am_c, am_up] at * <;> omega))
  have lp13' : ∀ (a b i : Int) (μ : am_N) , gm mT ν μ → 0 ≤ i → i ≤ 4 → am_AW l 0 (fun _ => 0) 183 Q 13 [some (.inr (.inr 83)), some (.inl a), some (.inl b), some (.inl i)] [] μ := fun a b i μ hv0 hv1 hv2 => lp13 ((4 - i) + 1).toNat a b i μ hv0 hv1 hv2 (by omega)
  refine am_go (ct := fun pc => Nat.beq pc 13) am_oX7_uneven 300 ?_
  conv => whnf
  repeat' first
    | (refine (?_ : am_wp _ _ _ _ _ _ _ _ _ _ _ _); conv => whnf)
    | (refine (?_ : am_sw _ _ _ _); conv => whnf)
    | refine And.intro trivial ?_
    | exact trivial
    | (with_reducible assumption)
    | exact fun _ _ h => h
    | exact fun _ _ h => (Bool.or_eq_false_iff.mp h).1
    | ((with_reducible refine (?_ : _ ∧ _)); first | (with_reducible first | refine am_jn am_q1 ?_ | refine am_jn am_q2 ?_ | refine am_jn am_q3 ?_ | refine am_jn am_q4 ?_ | refine am_jn am_q6 ?_ | refine am_jn am_q9 ?_ | refine am_jn am_p1 ?_ | refine am_jy am_p0 ?_ | refine am_kn am_q1 ?_ | refine am_kn am_q2 ?_ | refine am_kn am_q3 ?_ | refine am_kn am_q4 ?_ | refine am_kn am_q6 ?_ | refine am_kn am_q9 ?_ | refine am_kn am_p1 ?_ | refine am_ky am_p0 ?_) | refine And.intro (fun h => absurd h (by decide)) (fun _ => ?_) | refine And.intro (fun _ => ?_) (fun h => absurd (by decide) h) | refine And.intro (fun _ => ?_) (fun _ => ?_) | refine And.intro ?_ ?_)
    | refine k _ _ ?_
    | ((with_reducible refine (?_ : am_Does _ 182 _ _ _)); refine m_findFirsts  (gm_rf (by repeat' first | assumption | exact gm_i (by assumption) | refine mi_up ?_ rfl | refine mi_100 ?_ ?_ ?_ | (simp only [am_c] at * <;> omega)))  (fun _ _ => ?_))
    | ((with_reducible refine (?_ : am_Does _ 169 _ _ _)); refine m_races ?_)
    | refine gm_up ?_ rfl rfl
    | refine gm_100 ?_ rfl ?_ ?_
    | refine gm_tr ?_ (by assumption) ?_
    | exact gm_i (by assumption)
    | refine mi_up ?_ rfl
    | ((with_reducible refine (?_ : am_AW _ _ _ _ _ 13 _ _ _)); refine lp13' _ _ _ _ ?_ ?_ ?_)
    | refine And.intro (fun h => absurd h (by decide)) (fun _ => ?_)
    | refine And.intro (fun _ => ?_) (fun h => absurd (by decide) h)
    | refine And.intro (fun _ => ?_) (fun _ => ?_)
    | refine And.intro ?_ ?_
  all_goals (first | (with_reducible assumption) | decide | omega | assumption | (intros; omega) | (intros; simp only [am_c] at * <;> omega) | (simp only [am_c, am_up] at * <;> omega) | (simp [am_c, am_up] at * <;> omega))
theorem m_bestBet {l : Launch} {μ : am_N} {Q : Option am_V → am_N → Prop} {ν : am_N}  (hS : gm mT ν μ)  (k : ∀ (r : Int) (μ' : am_N), gm mT ν μ' → 0 ≤ r → r ≤ 3 → Q (some (.inl r)) μ') : am_Does l 230 [.inr (.inr 83)] μ Q := by
  refine am_Does_of (Nat.le_of_ble_eq_true rfl) (Nat.le_of_ble_eq_true rfl) (Nat.le_of_ble_eq_true rfl) ?_
  have hb := mi_all hS.1
  have lp8 : ∀ (m : Nat) (b i : Int) (μ : am_N) , gm mT ν μ → 0 ≤ b → b ≤ 3 → 1 ≤ i → i ≤ 5 → 5 - i < (m : Int) → am_AW l 0 (fun _ => 0) 230 Q 8 [some (.inr (.inr 83)), some (.inl b), some (.inl i)] [] μ := by
    intro m
    induction m with
    | zero =>
      intro b i μ hv0 hv1 hv2 hv3 hv4 hm
      have hb := mi_all hv0.1
      exfalso
      omega
    | succ m ih =>
      intro b i μ hv0 hv1 hv2 hv3 hv4 hm
      have hb := mi_all hv0.1
      refine am_go (ct := fun pc => Nat.beq pc 8) am_oX7_bestBet 300 ?_
      conv => whnf
      repeat' first
        | (refine (?_ : am_wp _ _ _ _ _ _ _ _ _ _ _ _); conv => whnf)
        | (refine (?_ : am_sw _ _ _ _); conv => whnf)
        | refine And.intro trivial ?_
        | exact trivial
        | (with_reducible assumption)
        | exact fun _ _ h => h
        | exact fun _ _ h => (Bool.or_eq_false_iff.mp h).1
        | ((with_reducible refine (?_ : _ ∧ _)); first | (with_reducible first | refine am_jn am_q1 ?_ | refine am_jn am_q2 ?_ | refine am_jn am_q3 ?_ | refine am_jn am_q4 ?_ | refine am_jn am_q6 ?_ | refine am_jn am_q9 ?_ | refine am_jn am_p1 ?_ | refine am_jy am_p0 ?_ | refine am_kn am_q1 ?_ | refine am_kn am_q2 ?_ | refine am_kn am_q3 ?_ | refine am_kn am_q4 ?_ | refine am_kn am_q6 ?_ | refine am_kn am_q9 ?_ | refine am_kn am_p1 ?_ | refine am_ky am_p0 ?_) | refine And.intro (fun h => absurd h (by decide)) (fun _ => ?_) | refine And.intro (fun _ => ?_) (fun h => absurd (by decide) h) | refine And.intro (fun _ => ?_) (fun _ => ?_) | refine And.intro ?_ ?_)
        | refine k _ _ ?_ ?_ ?_
        | ((with_reducible refine (?_ : am_Does _ 182 _ _ _)); refine m_findFirsts  (gm_rf (by repeat' first | assumption | exact gm_i (by assumption) | refine mi_up ?_ rfl | refine mi_100 ?_ ?_ ?_ | (simp only [am_c] at * <;> omega)))  (fun _ _ => ?_))
        | refine gm_up ?_ rfl rfl
        | refine gm_100 ?_ rfl ?_ ?_
        | refine gm_tr ?_ (by assumption) ?_
        | exact gm_i (by assumption)
        | refine mi_up ?_ rfl
        | ((with_reducible refine (?_ : am_AW _ _ _ _ _ 8 _ _ _)); refine ih _ _ _ ?_ ?_ ?_ ?_ ?_ ?_)
        | refine And.intro (fun h => absurd h (by decide)) (fun _ => ?_)
        | refine And.intro (fun _ => ?_) (fun h => absurd (by decide) h)
        | refine And.intro (fun _ => ?_) (fun _ => ?_)
        | refine And.intro ?_ ?_
      all_goals (first | (with_reducible assumption) | decide | omega | assumption | (intros; omega) | (intros; simp only [am_c] at * <;> omega) | (simp only [am_c, am_up] at * <;> omega) | (simp [am_c, am_up] at * <;> omega))
  have lp8' : ∀ (b i : Int) (μ : am_N) , gm mT ν μ → 0 ≤ b → b ≤ 3 → 1 ≤ i → i ≤ 5 → am_AW l 0 (fun _ => 0) 230 Q 8 [some (.inr (.inr 83)), some (.inl b), some (.inl i)] [] μ := fun b i μ hv0 hv1 hv2 hv3 hv4 => lp8 ((5 - i) + 1).toNat b i μ hv0 hv1 hv2 hv3 hv4 (by omega)
  refine am_go (ct := fun pc => Nat.beq pc 8) am_oX7_bestBet 300 ?_
  conv => whnf
  repeat' first
    | (refine (?_ : am_wp _ _ _ _ _ _ _ _ _ _ _ _); conv => whnf)
    | (refine (?_ : am_sw _ _ _ _); conv => whnf)
    | refine And.intro trivial ?_
    | exact trivial
    | (with_reducible assumption)
    | exact fun _ _ h => h
    | exact fun _ _ h => (Bool.or_eq_false_iff.mp h).1
    | ((with_reducible refine (?_ : _ ∧ _)); first | (with_reducible first | refine am_jn am_q1 ?_ | refine am_jn am_q2 ?_ | refine am_jn am_q3 ?_ | refine am_jn am_q4 ?_ | refine am_jn am_q6 ?_ | refine am_jn am_q9 ?_ | refine am_jn am_p1 ?_ | refine am_jy am_p0 ?_ | refine am_kn am_q1 ?_ | refine am_kn am_q2 ?_ | refine am_kn am_q3 ?_ | refine am_kn am_q4 ?_ | refine am_kn am_q6 ?_ | refine am_kn am_q9 ?_ | refine am_kn am_p1 ?_ | refine am_ky am_p0 ?_) | refine And.intro (fun h => absurd h (by decide)) (fun _ => ?_) | refine And.intro (fun _ => ?_) (fun h => absurd (by decide) h) | refine And.intro (fun _ => ?_) (fun _ => ?_) | refine And.intro ?_ ?_)
    | refine k _ _ ?_ ?_ ?_
    | ((with_reducible refine (?_ : am_Does _ 182 _ _ _)); refine m_findFirsts  (gm_rf (by repeat' first | assumption | exact gm_i (by assumption) | refine mi_up ?_ rfl | refine mi_100 ?_ ?_ ?_ | (simp only [am_c] at * <;> omega)))  (fun _ _ => ?_))
    | refine gm_up ?_ rfl rfl
    | refine gm_100 ?_ rfl ?_ ?_
    | refine gm_tr ?_ (by assumption) ?_
    | exact gm_i (by assumption)
    | refine mi_up ?_ rfl
    | ((with_reducible refine (?_ : am_AW _ _ _ _ _ 8 _ _ _)); refine lp8' _ _ _ ?_ ?_ ?_ ?_ ?_)
    | refine And.intro (fun h => absurd h (by decide)) (fun _ => ?_)
    | refine And.intro (fun _ => ?_) (fun h => absurd (by decide) h)
    | refine And.intro (fun _ => ?_) (fun _ => ?_)
    | refine And.intro ?_ ?_
  all_goals (first | (with_reducible assumption) | decide | omega | assumption | (intros; omega) | (intros; simp only [am_c] at * <;> omega) | (simp only [am_c, am_up] at * <;> omega) | (simp [am_c, am_up] at * <;> omega))
theorem m_mends {l : Launch} {μ : am_N} {Q : Option am_V → am_N → Prop} {ν : am_N}  (hS : gm mAR ν μ) (h1 : 1 ≤ μ 83 14) (k : ∀ μ' : am_N, gm mAR ν μ' → Q none μ') : am_Does l 171 [.inr (.inr 83)] μ Q := by
  refine am_Does_of (Nat.le_of_ble_eq_true rfl) (Nat.le_of_ble_eq_true rfl) (Nat.le_of_ble_eq_true rfl) ?_
  have hb := mi_all hS.1
  have ho := mi_or hS.1 (am_c (μ 83 14 - 1)).toNat
  have lp101 : ∀ (m : Nat) (f z i : Int) (μ : am_N) , gm mAR ν μ → 0 ≤ f → f ≤ 3 → 0 ≤ i → i ≤ 4 → 4 - i < (m : Int) → am_AW l 0 (fun _ => 0) 171 Q 101 [some (.inr (.inr 83)), some (.inl f), some (.inl z), some (.inl i)] [] μ := by
    intro m
    induction m with
    | zero =>
      intro f z i μ hv0 hv1 hv2 hv3 hv4 hm
      have hb := mi_all hv0.1
      exfalso
      omega
    | succ m ih =>
      intro f z i μ hv0 hv1 hv2 hv3 hv4 hm
      have hb := mi_all hv0.1
      refine am_go (ct := fun pc => Nat.beq pc 101 || Nat.beq pc 63) am_oX7_mends 300 ?_
      conv => whnf
      repeat' first
        | (refine (?_ : am_wp _ _ _ _ _ _ _ _ _ _ _ _); conv => whnf)
        | (refine (?_ : am_sw _ _ _ _); conv => whnf)
        | refine And.intro trivial ?_
        | exact trivial
        | (with_reducible assumption)
        | exact fun _ _ h => h
        | exact fun _ _ h => (Bool.or_eq_false_iff.mp h).1
        | ((with_reducible refine (?_ : _ ∧ _)); first | (with_reducible first | refine am_jn am_q1 ?_ | refine am_jn am_q2 ?_ | refine am_jn am_q3 ?_ | refine am_jn am_q4 ?_ | refine am_jn am_q6 ?_ | refine am_jn am_q9 ?_ | refine am_jn am_p1 ?_ | refine am_jy am_p0 ?_ | refine am_kn am_q1 ?_ | refine am_kn am_q2 ?_ | refine am_kn am_q3 ?_ | refine am_kn am_q4 ?_ | refine am_kn am_q6 ?_ | refine am_kn am_q9 ?_ | refine am_kn am_p1 ?_ | refine am_ky am_p0 ?_) | refine And.intro (fun h => absurd h (by decide)) (fun _ => ?_) | refine And.intro (fun _ => ?_) (fun h => absurd (by decide) h) | refine And.intro (fun _ => ?_) (fun _ => ?_) | refine And.intro ?_ ?_)
        | refine k _ ?_
        | ((with_reducible refine (?_ : am_Does _ 170 _ _ _)); refine m_held _   (fun _ => ?_))
        | refine gm_up ?_ rfl rfl
        | refine gm_100 ?_ rfl ?_ ?_
        | refine gm_tr ?_ (by assumption) ?_
        | exact gm_i (by assumption)
        | refine mi_up ?_ rfl
        | ((with_reducible refine (?_ : am_AW _ _ _ _ _ 101 _ _ _)); refine ih _ _ _ _ ?_ ?_ ?_ ?_ ?_ ?_)
        | refine And.intro (fun h => absurd h (by decide)) (fun _ => ?_)
        | refine And.intro (fun _ => ?_) (fun h => absurd (by decide) h)
        | refine And.intro (fun _ => ?_) (fun _ => ?_)
        | refine And.intro ?_ ?_
      all_goals (first | (with_reducible assumption) | decide | omega | assumption | (intros; omega) | (intros; simp only [am_c] at * <;> omega) | (simp only [am_c, am_up] at * <;> omega) | (simp [am_c, am_up] at * <;> omega))
  have lp101' : ∀ (f z i : Int) (μ : am_N) , gm mAR ν μ → 0 ≤ f → f ≤ 3 → 0 ≤ i → i ≤ 4 → am_AW l 0 (fun _ => 0) 171 Q 101 [some (.inr (.inr 83)), some (.inl f), some (.inl z), some (.inl i)] [] μ := fun f z i μ hv0 hv1 hv2 hv3 hv4 => lp101 ((4 - i) + 1).toNat f z i μ hv0 hv1 hv2 hv3 hv4 (by omega)
  have lp63 : ∀ (f z : Int) (μ : am_N), gm mAR ν μ → 0 ≤ f → f ≤ 3 → 0 ≤ z → z ≤ 3 → am_AW l 0 (fun _ => 0) 171 Q 63 [some (.inr (.inr 83)), some (.inl f), some (.inl z), none] [] μ := by
    intro f z μ hv0 hv1 hv2 hv3 hv4
    refine am_go (ct := fun pc => Nat.beq pc 101 || Nat.beq pc 63) am_oX7_mends 300 ?_
    conv => whnf
    repeat' first
      | (refine (?_ : am_wp _ _ _ _ _ _ _ _ _ _ _ _); conv => whnf)
      | (refine (?_ : am_sw _ _ _ _); conv => whnf)
      | refine And.intro trivial ?_
      | exact trivial
      | (with_reducible assumption)
      | exact fun _ _ h => h
      | exact fun _ _ h => (Bool.or_eq_false_iff.mp h).1
      | ((with_reducible refine (?_ : _ ∧ _)); first | (with_reducible first | refine am_jn am_q1 ?_ | refine am_jn am_q2 ?_ | refine am_jn am_q3 ?_ | refine am_jn am_q4 ?_ | refine am_jn am_q6 ?_ | refine am_jn am_q9 ?_ | refine am_jn am_p1 ?_ | refine am_jy am_p0 ?_ | refine am_kn am_q1 ?_ | refine am_kn am_q2 ?_ | refine am_kn am_q3 ?_ | refine am_kn am_q4 ?_ | refine am_kn am_q6 ?_ | refine am_kn am_q9 ?_ | refine am_kn am_p1 ?_ | refine am_ky am_p0 ?_) | refine And.intro (fun h => absurd h (by decide)) (fun _ => ?_) | refine And.intro (fun _ => ?_) (fun h => absurd (by decide) h) | refine And.intro (fun _ => ?_) (fun _ => ?_) | refine And.intro ?_ ?_)
      | refine k _ ?_
      | ((with_reducible refine (?_ : am_Does _ 170 _ _ _)); refine m_held _   (fun _ => ?_))
      | refine gm_up ?_ rfl rfl
      | refine gm_100 ?_ rfl ?_ ?_
      | refine gm_tr ?_ (by assumption) ?_
      | exact gm_i (by assumption)
      | refine mi_up ?_ rfl
      | ((with_reducible refine (?_ : am_AW _ _ _ _ _ 101 _ _ _)); refine lp101' _ _ _ _ ?_ ?_ ?_ ?_ ?_)
      | refine And.intro (fun h => absurd h (by decide)) (fun _ => ?_)
      | refine And.intro (fun _ => ?_) (fun h => absurd (by decide) h)
      | refine And.intro (fun _ => ?_) (fun _ => ?_)
      | refine And.intro ?_ ?_
    all_goals (first | (with_reducible assumption) | decide | omega | assumption | (intros; omega) | (intros; simp only [am_c] at * <;> omega) | (simp only [am_c, am_up] at * <;> omega) | (simp [am_c, am_up] at * <;> omega))
  refine am_go (ct := fun pc => Nat.beq pc 101 || Nat.beq pc 63) am_oX7_mends 300 ?_
  conv => whnf
  repeat' first
    | (refine (?_ : am_wp _ _ _ _ _ _ _ _ _ _ _ _); conv => whnf)
    | (refine (?_ : am_sw _ _ _ _); conv => whnf)
    | refine And.intro trivial ?_
    | exact trivial
    | (with_reducible assumption)
    | exact fun _ _ h => h
    | exact fun _ _ h => (Bool.or_eq_false_iff.mp h).1
    | ((with_reducible refine (?_ : _ ∧ _)); first | (with_reducible first | refine am_jn am_q1 ?_ | refine am_jn am_q2 ?_ | refine am_jn am_q3 ?_ | refine am_jn am_q4 ?_ | refine am_jn am_q6 ?_ | refine am_jn am_q9 ?_ | refine am_jn am_p1 ?_ | refine am_jy am_p0 ?_ | refine am_kn am_q1 ?_ | refine am_kn am_q2 ?_ | refine am_kn am_q3 ?_ | refine am_kn am_q4 ?_ | refine am_kn am_q6 ?_ | refine am_kn am_q9 ?_ | refine am_kn am_p1 ?_ | refine am_ky am_p0 ?_) | refine And.intro (fun h => absurd h (by decide)) (fun _ => ?_) | refine And.intro (fun _ => ?_) (fun h => absurd (by decide) h) | refine And.intro (fun _ => ?_) (fun _ => ?_) | refine And.intro ?_ ?_)
    | refine k _ ?_
    | ((with_reducible refine (?_ : am_Does _ 170 _ _ _)); refine m_held _   (fun _ => ?_))
    | refine gm_up ?_ rfl rfl
    | refine gm_100 ?_ rfl ?_ ?_
    | refine gm_tr ?_ (by assumption) ?_
    | exact gm_i (by assumption)
    | refine mi_up ?_ rfl
    | ((with_reducible refine (?_ : am_AW _ _ _ _ _ 63 _ _ _)); refine lp63 _ _ _ ?_ ?_ ?_ ?_ ?_)
    | ((with_reducible refine (?_ : am_AW _ _ _ _ _ 101 _ _ _)); refine lp101' _ _ _ _ ?_ ?_ ?_ ?_ ?_)
    | refine And.intro (fun h => absurd h (by decide)) (fun _ => ?_)
    | refine And.intro (fun _ => ?_) (fun h => absurd (by decide) h)
    | refine And.intro (fun _ => ?_) (fun _ => ?_)
    | refine And.intro ?_ ?_
  all_goals (first | (with_reducible assumption) | decide | omega | assumption | (intros; omega) | (intros; simp only [am_c] at * <;> omega) | (simp only [am_c, am_up] at * <;> omega) | (simp [am_c, am_up] at * <;> omega))
theorem m_runs {l : Launch} {μ : am_N} {Q : Option am_V → am_N → Prop} {ν : am_N}  (hS : gm mAR ν μ) (h1 : 1 ≤ μ 83 14) (k : ∀ (r : Int) (μ' : am_N), gm mAR ν μ' → Q (some (.inl r)) μ') : am_Does l 172 [.inr (.inr 83)] μ Q := by
  refine am_Does_of (Nat.le_of_ble_eq_true rfl) (Nat.le_of_ble_eq_true rfl) (Nat.le_of_ble_eq_true rfl) ?_
  have hb := mi_all hS.1
  refine am_go (ct := fun _ => false) am_oX7_runs 300 ?_
  conv => whnf
  repeat' first
    | (refine (?_ : am_wp _ _ _ _ _ _ _ _ _ _ _ _); conv => whnf)
    | (refine (?_ : am_sw _ _ _ _); conv => whnf)
    | refine And.intro trivial ?_
    | exact trivial
    | (with_reducible assumption)
    | exact fun _ _ h => h
    | exact fun _ _ h => (Bool.or_eq_false_iff.mp h).1
    | ((with_reducible refine (?_ : _ ∧ _)); first | (with_reducible first | refine am_jn am_q1 ?_ | refine am_jn am_q2 ?_ | refine am_jn am_q3 ?_ | refine am_jn am_q4 ?_ | refine am_jn am_q6 ?_ | refine am_jn am_q9 ?_ | refine am_jn am_p1 ?_ | refine am_jy am_p0 ?_ | refine am_kn am_q1 ?_ | refine am_kn am_q2 ?_ | refine am_kn am_q3 ?_ | refine am_kn am_q4 ?_ | refine am_kn am_q6 ?_ | refine am_kn am_q9 ?_ | refine am_kn am_p1 ?_ | refine am_ky am_p0 ?_) | refine And.intro (fun h => absurd h (by decide)) (fun _ => ?_) | refine And.intro (fun _ => ?_) (fun h => absurd (by decide) h) | refine And.intro (fun _ => ?_) (fun _ => ?_) | refine And.intro ?_ ?_)
    | refine k _ _ ?_
    | ((with_reducible refine (?_ : am_Does _ 166 _ _ _)); refine m_takesTimes  (gm_rf (by repeat' first | assumption | exact gm_i (by assumption) | refine mi_up ?_ rfl | refine mi_100 ?_ ?_ ?_ | (simp only [am_c] at * <;> omega)))  (fun _ _ _ _ _ => ?_))
    | ((with_reducible refine (?_ : am_Does _ 171 _ _ _)); refine m_mends  (gm_rf (by repeat' first | assumption | exact gm_i (by assumption) | refine mi_up ?_ rfl | refine mi_100 ?_ ?_ ?_ | (simp only [am_c] at * <;> omega))) ?_ (fun _ _ => ?_))
    | refine gm_up ?_ rfl rfl
    | refine gm_100 ?_ rfl ?_ ?_
    | refine gm_tr ?_ (by assumption) ?_
    | exact gm_i (by assumption)
    | refine mi_up ?_ rfl
    | refine And.intro (fun h => absurd h (by decide)) (fun _ => ?_)
    | refine And.intro (fun _ => ?_) (fun h => absurd (by decide) h)
    | refine And.intro (fun _ => ?_) (fun _ => ?_)
    | refine And.intro ?_ ?_
  all_goals (first | (with_reducible assumption) | decide | omega | assumption | (intros; omega) | (intros; simp only [am_c] at * <;> omega) | (simp only [am_c, am_up] at * <;> omega) | (simp [am_c, am_up] at * <;> omega))
/-! more of what stays: single numbers with bounds, subsets of cells -/
theorem am_upE {μ : am_N} {k j a b : Nat} {v : Int} (h : ¬ (a = k ∧ b = j)) : am_up μ k j v a b = μ a b := if_neg h
def mo1 (A : Nat → Nat → Bool) (a b : Nat) : Nat → Nat → Bool := fun k j => A k j || (Nat.beq k a && Nat.beq j b)
theorem mo1_self {A : Nat → Nat → Bool} {a b : Nat} : mo1 A a b a b = true := by simp [mo1]
theorem mo1_sub {A : Nat → Nat → Bool} {a b : Nat} : ∀ k j, mo1 A a b k j = false → A k j = false := fun _ _ h => (Bool.or_eq_false_iff.mp h).1
theorem mo1_one {A B : Nat → Nat → Bool} {a b : Nat} (hs : ∀ k j, A k j = false → B k j = false) : ∀ k j, mo1 A a b k j = false → B k j = false := fun k j h => hs k j (Bool.or_eq_false_iff.mp h).1
/-- what was changed for a while is put back -/
theorem gm_put {A : Nat → Nat → Bool} {ν μ : am_N} {k j : Nat} {v : Int} (h : gm (mo1 A k j) ν μ) (hv : v = ν k j) (hk : mi_b k j = false) : gm A ν (am_up μ k j v) := ⟨mi_up h.1 hk, fun a b q => by
  by_cases e : a = k ∧ b = j
  · rw [am_upS, if_pos e, hv, e.1, e.2]
  · rw [am_upE e]
    refine h.2 a b ?_
    simp only [mo1, q, Bool.false_or]
    cases h1 : Nat.beq a k with
    | false => rfl
    | true =>
      cases h2 : Nat.beq b j with
      | false => rfl
      | true => exact absurd ⟨Nat.eq_of_beq_eq_true h1, Nat.eq_of_beq_eq_true h2⟩ e⟩
theorem mi_14 {μ : am_N} {v : Int} (h : mi μ) (h0 : 0 ≤ v) (h1 : v ≤ 4) : mi (am_up μ 83 14 v) := by
  have e : ∀ a b, (a ≠ 83 ∨ b ≠ 14) → am_up μ 83 14 v a b = μ a b := fun a b q => am_upE (fun z => q.elim (fun w => w z.1) (fun w => w z.2))
  have f : am_up μ 83 14 v 83 14 = v := if_pos ⟨rfl, rfl⟩
  unfold mi at h ⊢
  rw [f, e 83 15 (Or.inr (by decide)), e 83 16 (Or.inr (by decide)), e 83 21 (Or.inr (by decide)), e 83 33 (Or.inr (by decide)), e 83 40 (Or.inr (by decide)), e 83 42 (Or.inr (by decide)), e 98 44 (Or.inl (by decide)), e 98 38 (Or.inl (by decide)), e 98 39 (Or.inl (by decide))]
  have g : sx_3 (am_up μ 83 14 v) 100 := fun p hp => by
    rw [e 100 p (Or.inl (by decide))]
    exact h.2.2.2.2.2.2.2.2.2.2 p hp
  refine ⟨?_, ?_, ?_, ?_, ?_, ?_, ?_, h.2.2.2.2.2.2.2.1, h.2.2.2.2.2.2.2.2.1, h.2.2.2.2.2.2.2.2.2.1, g⟩ <;> first | exact ⟨h0, h1⟩ | exact h.1 | exact h.2.1 | exact h.2.2.1 | exact h.2.2.2.1 | exact h.2.2.2.2.1 | exact h.2.2.2.2.2.1 | exact h.2.2.2.2.2.2.1
theorem gm_14 {A : Nat → Nat → Bool} {ν μ : am_N} {v : Int} (h : gm A ν μ) (hA : A 83 14 = true) (h0 : 0 ≤ v) (h1 : v ≤ 4) : gm A ν (am_up μ 83 14 v) := ⟨mi_14 h.1 h0 h1, fun a b q => by
  rw [am_upE (fun z => by rw [z.1, z.2, hA] at q; cases q)]
  exact h.2 a b q⟩
theorem mi_15 {μ : am_N} {v : Int} (h : mi μ) (h0 : 0 ≤ v) (h1 : v ≤ 6) : mi (am_up μ 83 15 v) := by
  have e : ∀ a b, (a ≠ 83 ∨ b ≠ 15) → am_up μ 83 15 v a b = μ a b := fun a b q => am_upE (fun z => q.elim (fun w => w z.1) (fun w => w z.2))
  have f : am_up μ 83 15 v 83 15 = v := if_pos ⟨rfl, rfl⟩
  unfold mi at h ⊢
  rw [e 83 14 (Or.inr (by decide)), f, e 83 16 (Or.inr (by decide)), e 83 21 (Or.inr (by decide)), e 83 33 (Or.inr (by decide)), e 83 40 (Or.inr (by decide)), e 83 42 (Or.inr (by decide)), e 98 44 (Or.inl (by decide)), e 98 38 (Or.inl (by decide)), e 98 39 (Or.inl (by decide))]
  have g : sx_3 (am_up μ 83 15 v) 100 := fun p hp => by
    rw [e 100 p (Or.inl (by decide))]
    exact h.2.2.2.2.2.2.2.2.2.2 p hp
  refine ⟨?_, ?_, ?_, ?_, ?_, ?_, ?_, h.2.2.2.2.2.2.2.1, h.2.2.2.2.2.2.2.2.1, h.2.2.2.2.2.2.2.2.2.1, g⟩ <;> first | exact ⟨h0, h1⟩ | exact h.1 | exact h.2.1 | exact h.2.2.1 | exact h.2.2.2.1 | exact h.2.2.2.2.1 | exact h.2.2.2.2.2.1 | exact h.2.2.2.2.2.2.1
theorem gm_15 {A : Nat → Nat → Bool} {ν μ : am_N} {v : Int} (h : gm A ν μ) (hA : A 83 15 = true) (h0 : 0 ≤ v) (h1 : v ≤ 6) : gm A ν (am_up μ 83 15 v) := ⟨mi_15 h.1 h0 h1, fun a b q => by
  rw [am_upE (fun z => by rw [z.1, z.2, hA] at q; cases q)]
  exact h.2 a b q⟩
theorem mi_16 {μ : am_N} {v : Int} (h : mi μ) (h0 : 0 ≤ v) (h1 : v ≤ 4) : mi (am_up μ 83 16 v) := by
  have e : ∀ a b, (a ≠ 83 ∨ b ≠ 16) → am_up μ 83 16 v a b = μ a b := fun a b q => am_upE (fun z => q.elim (fun w => w z.1) (fun w => w z.2))
  have f : am_up μ 83 16 v 83 16 = v := if_pos ⟨rfl, rfl⟩
  unfold mi at h ⊢
  rw [e 83 14 (Or.inr (by decide)), e 83 15 (Or.inr (by decide)), f, e 83 21 (Or.inr (by decide)), e 83 33 (Or.inr (by decide)), e 83 40 (Or.inr (by decide)), e 83 42 (Or.inr (by decide)), e 98 44 (Or.inl (by decide)), e 98 38 (Or.inl (by decide)), e 98 39 (Or.inl (by decide))]
  have g : sx_3 (am_up μ 83 16 v) 100 := fun p hp => by
    rw [e 100 p (Or.inl (by decide))]
    exact h.2.2.2.2.2.2.2.2.2.2 p hp
  refine ⟨?_, ?_, ?_, ?_, ?_, ?_, ?_, h.2.2.2.2.2.2.2.1, h.2.2.2.2.2.2.2.2.1, h.2.2.2.2.2.2.2.2.2.1, g⟩ <;> first | exact ⟨h0, h1⟩ | exact h.1 | exact h.2.1 | exact h.2.2.1 | exact h.2.2.2.1 | exact h.2.2.2.2.1 | exact h.2.2.2.2.2.1 | exact h.2.2.2.2.2.2.1
theorem gm_16 {A : Nat → Nat → Bool} {ν μ : am_N} {v : Int} (h : gm A ν μ) (hA : A 83 16 = true) (h0 : 0 ≤ v) (h1 : v ≤ 4) : gm A ν (am_up μ 83 16 v) := ⟨mi_16 h.1 h0 h1, fun a b q => by
  rw [am_upE (fun z => by rw [z.1, z.2, hA] at q; cases q)]
  exact h.2 a b q⟩
theorem mi_21 {μ : am_N} {v : Int} (h : mi μ) (h0 : 0 ≤ v) (h1 : v ≤ 96) : mi (am_up μ 83 21 v) := by
  have e : ∀ a b, (a ≠ 83 ∨ b ≠ 21) → am_up μ 83 21 v a b = μ a b := fun a b q => am_upE (fun z => q.elim (fun w => w z.1) (fun w => w z.2))
  have f : am_up μ 83 21 v 83 21 = v := if_pos ⟨rfl, rfl⟩
  unfold mi at h ⊢
  rw [e 83 14 (Or.inr (by decide)), e 83 15 (Or.inr (by decide)), e 83 16 (Or.inr (by decide)), f, e 83 33 (Or.inr (by decide)), e 83 40 (Or.inr (by decide)), e 83 42 (Or.inr (by decide)), e 98 44 (Or.inl (by decide)), e 98 38 (Or.inl (by decide)), e 98 39 (Or.inl (by decide))]
  have g : sx_3 (am_up μ 83 21 v) 100 := fun p hp => by
    rw [e 100 p (Or.inl (by decide))]
    exact h.2.2.2.2.2.2.2.2.2.2 p hp
  refine ⟨?_, ?_, ?_, ?_, ?_, ?_, ?_, h.2.2.2.2.2.2.2.1, h.2.2.2.2.2.2.2.2.1, h.2.2.2.2.2.2.2.2.2.1, g⟩ <;> first | exact ⟨h0, h1⟩ | exact h.1 | exact h.2.1 | exact h.2.2.1 | exact h.2.2.2.1 | exact h.2.2.2.2.1 | exact h.2.2.2.2.2.1 | exact h.2.2.2.2.2.2.1
theorem gm_21 {A : Nat → Nat → Bool} {ν μ : am_N} {v : Int} (h : gm A ν μ) (hA : A 83 21 = true) (h0 : 0 ≤ v) (h1 : v ≤ 96) : gm A ν (am_up μ 83 21 v) := ⟨mi_21 h.1 h0 h1, fun a b q => by
  rw [am_upE (fun z => by rw [z.1, z.2, hA] at q; cases q)]
  exact h.2 a b q⟩
theorem mi_33 {μ : am_N} {v : Int} (h : mi μ) (h0 : 0 ≤ v) (h1 : v ≤ 6) : mi (am_up μ 83 33 v) := by
  have e : ∀ a b, (a ≠ 83 ∨ b ≠ 33) → am_up μ 83 33 v a b = μ a b := fun a b q => am_upE (fun z => q.elim (fun w => w z.1) (fun w => w z.2))
  have f : am_up μ 83 33 v 83 33 = v := if_pos ⟨rfl, rfl⟩
  unfold mi at h ⊢
  rw [e 83 14 (Or.inr (by decide)), e 83 15 (Or.inr (by decide)), e 83 16 (Or.inr (by decide)), e 83 21 (Or.inr (by decide)), f, e 83 40 (Or.inr (by decide)), e 83 42 (Or.inr (by decide)), e 98 44 (Or.inl (by decide)), e 98 38 (Or.inl (by decide)), e 98 39 (Or.inl (by decide))]
  have g : sx_3 (am_up μ 83 33 v) 100 := fun p hp => by
    rw [e 100 p (Or.inl (by decide))]
    exact h.2.2.2.2.2.2.2.2.2.2 p hp
  refine ⟨?_, ?_, ?_, ?_, ?_, ?_, ?_, h.2.2.2.2.2.2.2.1, h.2.2.2.2.2.2.2.2.1, h.2.2.2.2.2.2.2.2.2.1, g⟩ <;> first | exact ⟨h0, h1⟩ | exact h.1 | exact h.2.1 | exact h.2.2.1 | exact h.2.2.2.1 | exact h.2.2.2.2.1 | exact h.2.2.2.2.2.1 | exact h.2.2.2.2.2.2.1
theorem gm_33 {A : Nat → Nat → Bool} {ν μ : am_N} {v : Int} (h : gm A ν μ) (hA : A 83 33 = true) (h0 : 0 ≤ v) (h1 : v ≤ 6) : gm A ν (am_up μ 83 33 v) := ⟨mi_33 h.1 h0 h1, fun a b q => by
  rw [am_upE (fun z => by rw [z.1, z.2, hA] at q; cases q)]
  exact h.2 a b q⟩
theorem mi_40 {μ : am_N} {v : Int} (h : mi μ) (h0 : 0 ≤ v) (h1 : v ≤ 6) : mi (am_up μ 83 40 v) := by
  have e : ∀ a b, (a ≠ 83 ∨ b ≠ 40) → am_up μ 83 40 v a b = μ a b := fun a b q => am_upE (fun z => q.elim (fun w => w z.1) (fun w => w z.2))
  have f : am_up μ 83 40 v 83 40 = v := if_pos ⟨rfl, rfl⟩
  unfold mi at h ⊢
  rw [e 83 14 (Or.inr (by decide)), e 83 15 (Or.inr (by decide)), e 83 16 (Or.inr (by decide)), e 83 21 (Or.inr (by decide)), e 83 33 (Or.inr (by decide)), f, e 83 42 (Or.inr (by decide)), e 98 44 (Or.inl (by decide)), e 98 38 (Or.inl (by decide)), e 98 39 (Or.inl (by decide))]
  have g : sx_3 (am_up μ 83 40 v) 100 := fun p hp => by
    rw [e 100 p (Or.inl (by decide))]
    exact h.2.2.2.2.2.2.2.2.2.2 p hp
  refine ⟨?_, ?_, ?_, ?_, ?_, ?_, ?_, h.2.2.2.2.2.2.2.1, h.2.2.2.2.2.2.2.2.1, h.2.2.2.2.2.2.2.2.2.1, g⟩ <;> first | exact ⟨h0, h1⟩ | exact h.1 | exact h.2.1 | exact h.2.2.1 | exact h.2.2.2.1 | exact h.2.2.2.2.1 | exact h.2.2.2.2.2.1 | exact h.2.2.2.2.2.2.1
theorem gm_40 {A : Nat → Nat → Bool} {ν μ : am_N} {v : Int} (h : gm A ν μ) (hA : A 83 40 = true) (h0 : 0 ≤ v) (h1 : v ≤ 6) : gm A ν (am_up μ 83 40 v) := ⟨mi_40 h.1 h0 h1, fun a b q => by
  rw [am_upE (fun z => by rw [z.1, z.2, hA] at q; cases q)]
  exact h.2 a b q⟩
theorem mi_42 {μ : am_N} {v : Int} (h : mi μ) (h0 : 0 ≤ v) (h1 : v ≤ 12) : mi (am_up μ 83 42 v) := by
  have e : ∀ a b, (a ≠ 83 ∨ b ≠ 42) → am_up μ 83 42 v a b = μ a b := fun a b q => am_upE (fun z => q.elim (fun w => w z.1) (fun w => w z.2))
  have f : am_up μ 83 42 v 83 42 = v := if_pos ⟨rfl, rfl⟩
  unfold mi at h ⊢
  rw [e 83 14 (Or.inr (by decide)), e 83 15 (Or.inr (by decide)), e 83 16 (Or.inr (by decide)), e 83 21 (Or.inr (by decide)), e 83 33 (Or.inr (by decide)), e 83 40 (Or.inr (by decide)), f, e 98 44 (Or.inl (by decide)), e 98 38 (Or.inl (by decide)), e 98 39 (Or.inl (by decide))]
  have g : sx_3 (am_up μ 83 42 v) 100 := fun p hp => by
    rw [e 100 p (Or.inl (by decide))]
    exact h.2.2.2.2.2.2.2.2.2.2 p hp
  refine ⟨?_, ?_, ?_, ?_, ?_, ?_, ?_, h.2.2.2.2.2.2.2.1, h.2.2.2.2.2.2.2.2.1, h.2.2.2.2.2.2.2.2.2.1, g⟩ <;> first | exact ⟨h0, h1⟩ | exact h.1 | exact h.2.1 | exact h.2.2.1 | exact h.2.2.2.1 | exact h.2.2.2.2.1 | exact h.2.2.2.2.2.1 | exact h.2.2.2.2.2.2.1
theorem gm_42 {A : Nat → Nat → Bool} {ν μ : am_N} {v : Int} (h : gm A ν μ) (hA : A 83 42 = true) (h0 : 0 ≤ v) (h1 : v ≤ 12) : gm A ν (am_up μ 83 42 v) := ⟨mi_42 h.1 h0 h1, fun a b q => by
  rw [am_upE (fun z => by rw [z.1, z.2, hA] at q; cases q)]
  exact h.2 a b q⟩
/-- what a LANE changes -/
def mL1 (k j : Nat) : Bool := (Nat.ble 85 k && Nat.ble k 88) || (Nat.beq k 83 && (Nat.beq j 10 || (Nat.beq j 12 || (Nat.beq j 13 || Nat.beq j 14))))
abbrev mL : Nat → Nat → Bool := mo mAR mL1
/-! contracts: the model reads its script (weak) -/
