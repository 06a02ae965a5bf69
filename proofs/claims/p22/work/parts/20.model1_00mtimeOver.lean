/-! what stays, what is within bounds: the model's side -/
def mi (μ : am_N) : Prop := (0 ≤ μ 83 14 ∧ μ 83 14 ≤ 4) ∧ (0 ≤ μ 83 15 ∧ μ 83 15 ≤ 6) ∧ (0 ≤ μ 83 16 ∧ μ 83 16 ≤ 4) ∧ (0 ≤ μ 83 21 ∧ μ 83 21 ≤ 96) ∧ (0 ≤ μ 83 33 ∧ μ 83 33 ≤ 6) ∧ (0 ≤ μ 83 40 ∧ μ 83 40 ≤ 6) ∧ (0 ≤ μ 83 42 ∧ μ 83 42 ≤ 12) ∧ (0 ≤ μ 98 44 ∧ μ 98 44 ≤ 4) ∧ (0 ≤ μ 98 38 ∧ μ 98 38 ≤ 6) ∧ (0 ≤ μ 98 39 ∧ μ 98 39 ≤ 4) ∧ sx_3 μ 100
/-- scratch of the model's own races -/
def mT (k _ : Nat) : Bool := Nat.beq k 99 || (Nat.beq k 100 || Nat.beq k 104)
/-- scratch of the model: without the kept rows -/
def ms (k j : Nat) : Bool := mT k j || (Nat.beq k 84 || (Nat.beq k 95 || (Nat.beq k 96 || (Nat.beq k 97 || (Nat.beq k 83 && (Nat.beq j 22 || (Nat.beq j 23 || (Nat.beq j 26 || (Nat.beq j 27 || (Nat.beq j 35 || (Nat.beq j 36 || (Nat.beq j 37 || Nat.beq j 38))))))))))))
def mo (A B : Nat → Nat → Bool) : Nat → Nat → Bool := fun k j => A k j || B k j
/-- all bounds hold; outside A nothing is other than in ν -/
def gm (A : Nat → Nat → Bool) (ν μ : am_N) : Prop := mi μ ∧ ∀ k j, A k j = false → μ k j = ν k j
theorem gm_rf {A : Nat → Nat → Bool} {μ : am_N} (h : mi μ) : gm A μ μ := ⟨h, fun _ _ _ => rfl⟩
theorem gm_i {A : Nat → Nat → Bool} {ν μ : am_N} (h : gm A ν μ) : mi μ := h.1
theorem gm_tr {A B : Nat → Nat → Bool} {ν μ μ' : am_N} (h : gm A ν μ) (h2 : gm B μ μ') (hs : ∀ k j, A k j = false → B k j = false) : gm A ν μ' := ⟨h2.1, fun k j hk => (h2.2 k j (hs k j hk)).trans (h.2 k j hk)⟩
/-- cells whose bounds the invariant tells -/
def mi_b (k j : Nat) : Bool := (Nat.beq k 83 && (Nat.beq j 14 || (Nat.beq j 15 || (Nat.beq j 16 || (Nat.beq j 21 || (Nat.beq j 33 || (Nat.beq j 40 || Nat.beq j 42))))))) || ((Nat.beq k 98 && Nat.blt j 60) || Nat.beq k 100)
theorem mi_up {μ : am_N} {k j : Nat} {v : Int} (h : mi μ) (hk : mi_b k j = false) : mi (am_up μ k j v) := by
  have e : ∀ a b, mi_b a b = true → am_up μ k j v a b = μ a b := fun a b q => by
    rw [am_upS, if_neg (fun z => by rw [z.1, z.2, hk] at q; cases q)]
  unfold mi at h ⊢
  rw [e 83 14 rfl, e 83 15 rfl, e 83 16 rfl, e 83 21 rfl, e 83 33 rfl, e 83 40 rfl, e 83 42 rfl, e 98 44 rfl, e 98 38 rfl, e 98 39 rfl]
  refine ⟨h.1, h.2.1, h.2.2.1, h.2.2.2.1, h.2.2.2.2.1, h.2.2.2.2.2.1, h.2.2.2.2.2.2.1, h.2.2.2.2.2.2.2.1, h.2.2.2.2.2.2.2.2.1, h.2.2.2.2.2.2.2.2.2.1, fun p hp => ?_⟩
  rw [e 100 p (by simp [mi_b])]
  exact h.2.2.2.2.2.2.2.2.2.2 p hp
theorem mi_100 {μ : am_N} {j : Nat} {v : Int} (h : mi μ) (h0 : 0 ≤ v) (h1 : v ≤ 3) : mi (am_up μ 100 j v) := by
  have e : ∀ a b, a ≠ 100 → am_up μ 100 j v a b = μ a b := fun a b q => am_upN q
  unfold mi at h ⊢
  rw [e 83 14 (by decide), e 83 15 (by decide), e 83 16 (by decide), e 83 21 (by decide), e 83 33 (by decide), e 83 40 (by decide), e 83 42 (by decide), e 98 44 (by decide), e 98 38 (by decide), e 98 39 (by decide)]
  exact ⟨h.1, h.2.1, h.2.2.1, h.2.2.2.1, h.2.2.2.2.1, h.2.2.2.2.2.1, h.2.2.2.2.2.2.1, h.2.2.2.2.2.2.2.1, h.2.2.2.2.2.2.2.2.1, h.2.2.2.2.2.2.2.2.2.1, sx_3S h.2.2.2.2.2.2.2.2.2.2 h0 h1⟩
theorem gm_up {A : Nat → Nat → Bool} {ν μ : am_N} {k j : Nat} {v : Int} (h : gm A ν μ) (hA : A k j = true) (hk : mi_b k j = false) : gm A ν (am_up μ k j v) := ⟨mi_up h.1 hk, fun a b q => by
  rw [am_upS, if_neg (fun z => by rw [z.1, z.2, hA] at q; cases q)]
  exact h.2 a b q⟩
theorem gm_100 {A : Nat → Nat → Bool} {ν μ : am_N} {j : Nat} {v : Int} (h : gm A ν μ) (hA : A 100 j = true) (h0 : 0 ≤ v) (h1 : v ≤ 3) : gm A ν (am_up μ 100 j v) := ⟨mi_100 h.1 h0 h1, fun a b q => by
  rw [am_upS, if_neg (fun z => by rw [z.1, z.2, hA] at q; cases q)]
  exact h.2 a b q⟩
theorem mi_all {μ : am_N} (h : mi μ) : (0 ≤ μ 83 14 ∧ μ 83 14 ≤ 4) ∧ (0 ≤ μ 83 15 ∧ μ 83 15 ≤ 6) ∧ (0 ≤ μ 83 16 ∧ μ 83 16 ≤ 4) ∧ (0 ≤ μ 83 21 ∧ μ 83 21 ≤ 96) ∧ (0 ≤ μ 83 33 ∧ μ 83 33 ≤ 6) ∧ (0 ≤ μ 83 40 ∧ μ 83 40 ≤ 6) ∧ (0 ≤ μ 83 42 ∧ μ 83 42 ≤ 12) ∧ (0 ≤ μ 100 0 ∧ μ 100 0 ≤ 3) ∧ (0 ≤ μ 100 1 ∧ μ 100 1 ≤ 3) ∧ (0 ≤ μ 100 2 ∧ μ 100 2 ≤ 3) ∧ (0 ≤ μ 100 3 ∧ μ 100 3 ≤ 3) :=
  ⟨h.1, h.2.1, h.2.2.1, h.2.2.2.1, h.2.2.2.2.1, h.2.2.2.2.2.1, h.2.2.2.2.2.2.1, h.2.2.2.2.2.2.2.2.2.2 0 (by decide), h.2.2.2.2.2.2.2.2.2.2 1 (by decide), h.2.2.2.2.2.2.2.2.2.2 2 (by decide), h.2.2.2.2.2.2.2.2.2.2 3 (by decide)⟩
theorem mi_or {μ : am_N} (h : mi μ) (p : Nat) (hp : p < 4) : 0 ≤ μ 100 p ∧ μ 100 p ≤ 3 := h.2.2.2.2.2.2.2.2.2.2 p hp

theorem m_isIn {l : Launch} {μ : am_N} {Q : Option am_V → am_N → Prop} (v a b : Int) (k1 : am_c a ≤ am_c v → am_c v ≤ am_c b → Q (some (.inl 1)) μ) (k2 : (am_c v < am_c a ∨ am_c b < am_c v) → Q (some (.inl 0)) μ) : am_Does l 143 [.inl v, .inl a, .inl b] μ Q := by
  refine am_Does_of (Nat.le_of_ble_eq_true rfl) (Nat.le_of_ble_eq_true rfl) (Nat.le_of_ble_eq_true rfl) ?_
  refine am_go (ct := fun _ => false) am_oX7_isIn 300 ?_
  conv => whnf
  repeat' first
    | (refine (?_ : am_wp _ _ _ _ _ _ _ _ _ _ _ _); conv => whnf)
    | (refine (?_ : am_sw _ _ _ _); conv => whnf)
    | refine And.intro trivial ?_
    | exact trivial
    | assumption
    | ((with_reducible refine (?_ : _ ∧ _)); first | (with_reducible first | refine am_jn am_q1 ?_ | refine am_jn am_q2 ?_ | refine am_jn am_q3 ?_ | refine am_jn am_q4 ?_ | refine am_jn am_q6 ?_ | refine am_jn am_q9 ?_ | refine am_jn am_p1 ?_ | refine am_jy am_p0 ?_ | refine am_kn am_q1 ?_ | refine am_kn am_q2 ?_ | refine am_kn am_q3 ?_ | refine am_kn am_q4 ?_ | refine am_kn am_q6 ?_ | refine am_kn am_q9 ?_ | refine am_kn am_p1 ?_ | refine am_ky am_p0 ?_) | refine And.intro (fun h => absurd h (by decide)) (fun _ => ?_) | refine And.intro (fun _ => ?_) (fun h => absurd (by decide) h) | refine And.intro (fun _ => ?_) (fun _ => ?_) | refine And.intro ?_ ?_)
    | refine k1 ?_ ?_
    | refine k2 ?_
    | refine And.intro (fun h => absurd h (by decide)) (fun _ => ?_)
    | refine And.intro (fun _ => ?_) (fun h => absurd (by decide) h)
    | refine And.intro (fun _ => ?_) (fun _ => ?_)
    | refine And.intro ?_ ?_
  all_goals (first | assumption | decide | omega | (intros; omega) | (intros; simp only [am_c] at * <;> omega) | (simp only [am_c, am_up] at * <;> omega) | (simp [am_c, am_up] at * <;> omega))
theorem m_bound {l : Launch} {μ : am_N} {Q : Option am_V → am_N → Prop} (v a b : Int) (k1 : am_c v < am_c a → Q (some (.inl (-4))) μ) (k2 : am_c a ≤ am_c v → am_c b < am_c v → Q (some (.inl (-6))) μ) (k3 : am_c a ≤ am_c v → am_c v ≤ am_c b → Q (some (.inl 0)) μ) : am_Does l 144 [.inl v, .inl a, .inl b] μ Q := by
  refine am_Does_of (Nat.le_of_ble_eq_true rfl) (Nat.le_of_ble_eq_true rfl) (Nat.le_of_ble_eq_true rfl) ?_
  refine am_go (ct := fun _ => false) am_oX7_bound 300 ?_
  conv => whnf
  repeat' first
    | (refine (?_ : am_wp _ _ _ _ _ _ _ _ _ _ _ _); conv => whnf)
    | (refine (?_ : am_sw _ _ _ _); conv => whnf)
    | refine And.intro trivial ?_
    | exact trivial
    | assumption
    | ((with_reducible refine (?_ : _ ∧ _)); first | (with_reducible first | refine am_jn am_q1 ?_ | refine am_jn am_q2 ?_ | refine am_jn am_q3 ?_ | refine am_jn am_q4 ?_ | refine am_jn am_q6 ?_ | refine am_jn am_q9 ?_ | refine am_jn am_p1 ?_ | refine am_jy am_p0 ?_ | refine am_kn am_q1 ?_ | refine am_kn am_q2 ?_ | refine am_kn am_q3 ?_ | refine am_kn am_q4 ?_ | refine am_kn am_q6 ?_ | refine am_kn am_q9 ?_ | refine am_kn am_p1 ?_ | refine am_ky am_p0 ?_) | refine And.intro (fun h => absurd h (by decide)) (fun _ => ?_) | refine And.intro (fun _ => ?_) (fun h => absurd (by decide) h) | refine And.intro (fun _ => ?_) (fun _ => ?_) | refine And.intro ?_ ?_)
    | refine k1 ?_
    | refine k2 ?_ ?_
    | refine k3 ?_ ?_
    | refine And.intro (fun h => absurd h (by decide)) (fun _ => ?_)
    | refine And.intro (fun _ => ?_) (fun h => absurd (by decide) h)
    | refine And.intro (fun _ => ?_) (fun _ => ?_)
    | refine And.intro ?_ ?_
  all_goals (first | assumption | decide | omega | (intros; omega) | (intros; simp only [am_c] at * <;> omega) | (simp only [am_c, am_up] at * <;> omega) | (simp [am_c, am_up] at * <;> omega))
theorem m_atLeastOne {l : Launch} {μ : am_N} {Q : Option am_V → am_N → Prop} (v : Int)   (k : ∀ r : Int, Q (some (.inl r)) μ) : am_Does l 145 [.inl v] μ Q := by
  refine am_Does_of (Nat.le_of_ble_eq_true rfl) (Nat.le_of_ble_eq_true rfl) (Nat.le_of_ble_eq_true rfl) ?_
  refine am_go (ct := fun _ => false) am_oX7_atLeastOne 300 ?_
  conv => whnf
  repeat' first
    | (refine (?_ : am_wp _ _ _ _ _ _ _ _ _ _ _ _); conv => whnf)
    | (refine (?_ : am_sw _ _ _ _); conv => whnf)
    | refine And.intro trivial ?_
    | exact trivial
    | assumption
    | ((with_reducible refine (?_ : _ ∧ _)); first | (with_reducible first | refine am_jn am_q1 ?_ | refine am_jn am_q2 ?_ | refine am_jn am_q3 ?_ | refine am_jn am_q4 ?_ | refine am_jn am_q6 ?_ | refine am_jn am_q9 ?_ | refine am_jn am_p1 ?_ | refine am_jy am_p0 ?_ | refine am_kn am_q1 ?_ | refine am_kn am_q2 ?_ | refine am_kn am_q3 ?_ | refine am_kn am_q4 ?_ | refine am_kn am_q6 ?_ | refine am_kn am_q9 ?_ | refine am_kn am_p1 ?_ | refine am_ky am_p0 ?_) | refine And.intro (fun h => absurd h (by decide)) (fun _ => ?_) | refine And.intro (fun _ => ?_) (fun h => absurd (by decide) h) | refine And.intro (fun _ => ?_) (fun _ => ?_) | refine And.intro ?_ ?_)
    | exact k _
    | refine And.intro (fun h => absurd h (by decide)) (fun _ => ?_)
    | refine And.intro (fun _ => ?_) (fun h => absurd (by decide) h)
    | refine And.intro (fun _ => ?_) (fun _ => ?_)
    | refine And.intro ?_ ?_
  all_goals (first | assumption | decide | omega | (intros; omega) | (intros; simp only [am_c] at * <;> omega) | (simp only [am_c, am_up] at * <;> omega) | (simp [am_c, am_up] at * <;> omega))
theorem m_isRunner {l : Launch} {μ : am_N} {Q : Option am_V → am_N → Prop} (r : Int) (hS : mi μ) (k1 : 0 ≤ am_c r → am_c r < μ 83 14 → am_c r < 4 → Q (some (.inl 1)) μ) (k2 : (am_c r < 0 ∨ μ 83 14 ≤ am_c r) → Q (some (.inl 0)) μ) : am_Does l 146 [.inr (.inr 83), .inl r] μ Q := by
  refine am_Does_of (Nat.le_of_ble_eq_true rfl) (Nat.le_of_ble_eq_true rfl) (Nat.le_of_ble_eq_true rfl) ?_
  have hb := mi_all hS
  refine am_go (ct := fun _ => false) am_oX7_isRunner 300 ?_
  conv => whnf
  repeat' first
    | (refine (?_ : am_wp _ _ _ _ _ _ _ _ _ _ _ _); conv => whnf)
    | (refine (?_ : am_sw _ _ _ _); conv => whnf)
    | refine And.intro trivial ?_
    | exact trivial
    | assumption
    | ((with_reducible refine (?_ : _ ∧ _)); first | (with_reducible first | refine am_jn am_q1 ?_ | refine am_jn am_q2 ?_ | refine am_jn am_q3 ?_ | refine am_jn am_q4 ?_ | refine am_jn am_q6 ?_ | refine am_jn am_q9 ?_ | refine am_jn am_p1 ?_ | refine am_jy am_p0 ?_ | refine am_kn am_q1 ?_ | refine am_kn am_q2 ?_ | refine am_kn am_q3 ?_ | refine am_kn am_q4 ?_ | refine am_kn am_q6 ?_ | refine am_kn am_q9 ?_ | refine am_kn am_p1 ?_ | refine am_ky am_p0 ?_) | refine And.intro (fun h => absurd h (by decide)) (fun _ => ?_) | refine And.intro (fun _ => ?_) (fun h => absurd (by decide) h) | refine And.intro (fun _ => ?_) (fun _ => ?_) | refine And.intro ?_ ?_)
    | refine k1 ?_ ?_ ?_
    | refine k2 ?_
    | refine And.intro (fun h => absurd h (by decide)) (fun _ => ?_)
    | refine And.intro (fun _ => ?_) (fun h => absurd (by decide) h)
    | refine And.intro (fun _ => ?_) (fun _ => ?_)
    | refine And.intro ?_ ?_
  all_goals (first | assumption | decide | omega | (intros; omega) | (intros; simp only [am_c] at * <;> omega) | (simp only [am_c, am_up] at * <;> omega) | (simp [am_c, am_up] at * <;> omega))
theorem m_areTwo {l : Launch} {μ : am_N} {Q : Option am_V → am_N → Prop} (a b : Int) (hS : mi μ) (k1 : 0 ≤ am_c a → am_c a < 4 → 0 ≤ am_c b → am_c b < 4 → 2 ≤ μ 83 14 → Q (some (.inl 1)) μ) (k2 : Q (some (.inl 0)) μ) : am_Does l 147 [.inr (.inr 83), .inl a, .inl b] μ Q := by
  refine am_Does_of (Nat.le_of_ble_eq_true rfl) (Nat.le_of_ble_eq_true rfl) (Nat.le_of_ble_eq_true rfl) ?_
  have hb := mi_all hS
  refine am_go (ct := fun _ => false) am_oX7_areTwo 300 ?_
  conv => whnf
  repeat' first
    | (refine (?_ : am_wp _ _ _ _ _ _ _ _ _ _ _ _); conv => whnf)
    | (refine (?_ : am_sw _ _ _ _); conv => whnf)
    | refine And.intro trivial ?_
    | exact trivial
    | assumption
    | exact k2
    | ((with_reducible refine (?_ : _ ∧ _)); first | (with_reducible first | refine am_jn am_q1 ?_ | refine am_jn am_q2 ?_ | refine am_jn am_q3 ?_ | refine am_jn am_q4 ?_ | refine am_jn am_q6 ?_ | refine am_jn am_q9 ?_ | refine am_jn am_p1 ?_ | refine am_jy am_p0 ?_ | refine am_kn am_q1 ?_ | refine am_kn am_q2 ?_ | refine am_kn am_q3 ?_ | refine am_kn am_q4 ?_ | refine am_kn am_q6 ?_ | refine am_kn am_q9 ?_ | refine am_kn am_p1 ?_ | refine am_ky am_p0 ?_) | refine And.intro (fun h => absurd h (by decide)) (fun _ => ?_) | refine And.intro (fun _ => ?_) (fun h => absurd (by decide) h) | refine And.intro (fun _ => ?_) (fun _ => ?_) | refine And.intro ?_ ?_)
    | refine k1 ?_ ?_ ?_ ?_ ?_
    | ((with_reducible refine (?_ : am_Does _ 146 _ _ _)); refine m_isRunner _ ?_ (fun _ _ _ => ?_) (fun _ => ?_))
    | refine And.intro (fun h => absurd h (by decide)) (fun _ => ?_)
    | refine And.intro (fun _ => ?_) (fun h => absurd (by decide) h)
    | refine And.intro (fun _ => ?_) (fun _ => ?_)
    | refine And.intro ?_ ?_
  all_goals (first | assumption | decide | omega | (intros; omega) | (intros; simp only [am_c] at * <;> omega) | (simp only [am_c, am_up] at * <;> omega) | (simp [am_c, am_up] at * <;> omega))
theorem m_timeOver {l : Launch} {μ : am_N} {Q : Option am_V → am_N → Prop} (r y s : Int) (hS : mi μ) (hr0 : 0 ≤ am_c r) (hr1 : am_c r < 4) (k : ∀ r : Int, Q (some (.inl r)) μ) : am_Does l 162 [.inr (.inr 83), .inl r, .inl y, .inl s] μ Q := by
  refine am_Does_of (Nat.le_of_ble_eq_true rfl) (Nat.le_of_ble_eq_true rfl) (Nat.le_of_ble_eq_true rfl) ?_
  have hb := mi_all hS
  have lp81 : ∀ (y4 p5 t6 s7 : Int), am_AW l 0 (fun _ => 0) 162 Q 81 [some (.inr (.inr 83)), some (.inl r), some (.inl y), some (.inl s), some (.inl y4), some (.inl p5), some (.inl t6), some (.inl s7)] [] μ := by
    intro y4 p5 t6 s7  
    refine am_go (ct := fun pc => Nat.beq pc 81 || Nat.beq pc 57) am_oX7_timeOver 300 ?_
    conv => whnf
    repeat' first
      | (refine (?_ : am_wp _ _ _ _ _ _ _ _ _ _ _ _); conv => whnf)
      | (refine (?_ : am_sw _ _ _ _); conv => whnf)
      | refine And.intro trivial ?_
      | exact trivial
      | assumption
      | ((with_reducible refine (?_ : _ ∧ _)); first | (with_reducible first | refine am_jn am_q1 ?_ | refine am_jn am_q2 ?_ | refine am_jn am_q3 ?_ | refine am_jn am_q4 ?_ | refine am_jn am_q6 ?_ | refine am_jn am_q9 ?_ | refine am_jn am_p1 ?_ | refine am_jy am_p0 ?_ | refine am_kn am_q1 ?_ | refine am_kn am_q2 ?_ | refine am_kn am_q3 ?_ | refine am_kn am_q4 ?_ | refine am_kn am_q6 ?_ | refine am_kn am_q9 ?_ | refine am_kn am_p1 ?_ | refine am_ky am_p0 ?_) | refine And.intro (fun h => absurd h (by decide)) (fun _ => ?_) | refine And.intro (fun _ => ?_) (fun h => absurd (by decide) h) | refine And.intro (fun _ => ?_) (fun _ => ?_) | refine And.intro ?_ ?_)
      | exact k _
      | ((with_reducible refine (?_ : am_Does _ 145 _ _ _)); refine m_atLeastOne _   (fun _ => ?_))
      | refine And.intro (fun h => absurd h (by decide)) (fun _ => ?_)
      | refine And.intro (fun _ => ?_) (fun h => absurd (by decide) h)
      | refine And.intro (fun _ => ?_) (fun _ => ?_)
      | refine And.intro ?_ ?_
    all_goals (first | assumption | decide | omega | (intros; omega) | (intros; simp only [am_c] at * <;> omega) | (simp only [am_c, am_up] at * <;> omega) | (simp [am_c, am_up] at * <;> omega))
  have lp57 : ∀ (y4 p5 t6 : Int), am_AW l 0 (fun _ => 0) 162 Q 57 [some (.inr (.inr 83)), some (.inl r), some (.inl y), some (.inl s), some (.inl y4), some (.inl p5), some (.inl t6), none] [] μ := by
    intro y4 p5 t6  
    refine am_go (ct := fun pc => Nat.beq pc 81 || Nat.beq pc 57) am_oX7_timeOver 300 ?_
    conv => whnf
    repeat' first
      | (refine (?_ : am_wp _ _ _ _ _ _ _ _ _ _ _ _); conv => whnf)
      | (refine (?_ : am_sw _ _ _ _); conv => whnf)
      | refine And.intro trivial ?_
      | exact trivial
      | assumption
      | ((with_reducible refine (?_ : _ ∧ _)); first | (with_reducible first | refine am_jn am_q1 ?_ | refine am_jn am_q2 ?_ | refine am_jn am_q3 ?_ | refine am_jn am_q4 ?_ | refine am_jn am_q6 ?_ | refine am_jn am_q9 ?_ | refine am_jn am_p1 ?_ | refine am_jy am_p0 ?_ | refine am_kn am_q1 ?_ | refine am_kn am_q2 ?_ | refine am_kn am_q3 ?_ | refine am_kn am_q4 ?_ | refine am_kn am_q6 ?_ | refine am_kn am_q9 ?_ | refine am_kn am_p1 ?_ | refine am_ky am_p0 ?_) | refine And.intro (fun h => absurd h (by decide)) (fun _ => ?_) | refine And.intro (fun _ => ?_) (fun h => absurd (by decide) h) | refine And.intro (fun _ => ?_) (fun _ => ?_) | refine And.intro ?_ ?_)
      | exact k _
      | ((with_reducible refine (?_ : am_Does _ 145 _ _ _)); refine m_atLeastOne _   (fun _ => ?_))
      | ((with_reducible refine (?_ : am_AW _ _ _ _ _ 81 _ _ _)); refine lp81 _ _ _ _  )
      | refine And.intro (fun h => absurd h (by decide)) (fun _ => ?_)
      | refine And.intro (fun _ => ?_) (fun h => absurd (by decide) h)
      | refine And.intro (fun _ => ?_) (fun _ => ?_)
      | refine And.intro ?_ ?_
    all_goals (first | assumption | decide | omega | (intros; omega) | (intros; simp only [am_c] at * <;> omega) | (simp only [am_c, am_up] at * <;> omega) | (simp [am_c, am_up] at * <;> omega))
  refine am_go (ct := fun pc => Nat.beq pc 81 || Nat.beq pc 57) am_oX7_timeOver 300 ?_
  conv => whnf
  repeat' first
    | (refine (?_ : am_wp _ _ _ _ _ _ _ _ _ _ _ _); conv => whnf)
    | (refine (?_ : am_sw _ _ _ _); conv => whnf)
    | refine And.intro trivial ?_
    | exact trivial
    | assumption
    | ((with_reducible refine (?_ : _ ∧ _)); first | (with_reducible first | refine am_jn am_q1 ?_ | refine am_jn am_q2 ?_ | refine am_jn am_q3 ?_ | refine am_jn am_q4 ?_ | refine am_jn am_q6 ?_ | refine am_jn am_q9 ?_ | refine am_jn am_p1 ?_ | refine am_jy am_p0 ?_ | refine am_kn am_q1 ?_ | refine am_kn am_q2 ?_ | refine am_kn am_q3 ?_ | refine am_kn am_q4 ?_ | refine am_kn am_q6 ?_ | refine am_kn am_q9 ?_ | refine am_kn am_p1 ?_ | refine am_ky am_p0 ?_) | refine And.intro (fun h => absurd h (by decide)) (fun _ => ?_) | refine And.intro (fun _ => ?_) (fun h => absurd (by decide) h) | refine And.intro (fun _ => ?_) (fun _ => ?_) | refine And.intro ?_ ?_)
    | exact k _
    | ((with_reducible refine (?_ : am_Does _ 145 _ _ _)); refine m_atLeastOne _   (fun _ => ?_))
    | ((with_reducible refine (?_ : am_AW _ _ _ _ _ 57 _ _ _)); refine lp57 _ _ _  )
    | ((with_reducible refine (?_ : am_AW _ _ _ _ _ 81 _ _ _)); refine lp81 _ _ _ _  )
    | refine And.intro (fun h => absurd h (by decide)) (fun _ => ?_)
    | refine And.intro (fun _ => ?_) (fun h => absurd (by decide) h)
    | refine And.intro (fun _ => ?_) (fun _ => ?_)
    | refine And.intro ?_ ?_
  all_goals (first | assumption | decide | omega | (intros; omega) | (intros; simp only [am_c] at * <;> omega) | (simp only [am_c, am_up] at * <;> omega) | (simp [am_c, am_up] at * <;> omega))
