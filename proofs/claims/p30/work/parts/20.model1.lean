/-! what stays, what is within bounds: the model's side -/
def mi (μ : am_N) : Prop := (0 ≤ μ 83 14 ∧ μ 83 14 ≤ 4) ∧ (0 ≤ μ 83 15 ∧ μ 83 15 ≤ 6) ∧ (0 ≤ μ 83 16 ∧ μ 83 16 ≤ 4) ∧ (0 ≤ μ 83 21 ∧ μ 83 21 ≤ 96) ∧ (0 ≤ μ 83 33 ∧ μ 83 33 ≤ 6) ∧ (0 ≤ μ 83 40 ∧ μ 83 40 ≤ 6) ∧ (0 ≤ μ 83 42 ∧ μ 83 42 ≤ 12) ∧ (0 ≤ μ 98 44 ∧ μ 98 44 ≤ 4) ∧ (0 ≤ μ 98 38 ∧ μ 98 38 ≤ 6) ∧ (0 ≤ μ 98 39 ∧ μ 98 39 ≤ 4) ∧ sx_3 μ 100
/-- scratch of the model's own races -/
def mT (k _ : Nat) : Bool := Nat.beq k 99 || (Nat.beq k 100 || Nat.beq k 104)
/-- scratch of the model: without the kept rows -/
def ms (k j : Nat) : Bool := mT k j || (Nat.beq k 84 || (Nat.beq k 95 || (Nat.beq k 96 || (Nat.beq k 97 || (Nat.beq k 83 && (Nat.beq j 22 || (Nat.beq j 23 || (Nat.beq j 26 || (Nat.beq j 27 || (Nat.beq j 35 || (Nat.beq j 36 || (Nat.beq j 37 || Nat.beq j 38))))))))))))
def mo (A B : Nat → Nat → Bool) : Nat → Nat → Bool := fun k j => A k j || B k j
/-- all bounds hold; outside A nothing is other than in ν -/
def gm (A : Nat → Nat → Bool) (ν μ : am_N) : Prop := mi μ ∧ ∀ k j, A k j = false → μ k j = ν k j
theorem gm_rf {A : Nat → Nat → Bool} {μ : am_N} (h : mi μ) : gm A μ μ := ⟨h, fun _ _ _ => rfl⟩
theorem gm_i {A : Nat → Nat → Bool} {ν μ : am_N} (h : gm A ν μ) : mi μ := h.1
theorem gm_tr {A B : Nat → Nat → Bool} {ν μ μ' : am_N} (h : gm A ν μ) (h2 : gm B μ μ') (hs : ∀ k j, A k j = false → B k j = false) : gm A ν μ' := ⟨h2.1, fun k j hk => (h2.2 k j (hs k j hk)).trans (h.2 k j hk)⟩
/-- cells whose bounds the invariant tells -/
def mi_b (k j : Nat) : Bool := (Nat.beq k 83 && (Nat.beq j 14 || (Nat.beq j 15 || (Nat.beq j 16 || (Nat.beq j 21 || (Nat.beq j 33 || (Nat.beq j 40 || Nat.beq j 42))))))) || ((Nat.beq k 98 && Nat.blt j 60) || Nat.beq k 100)
theorem mi_up {μ : am_N} {k j : Nat} {v : Int} (h : mi μ) (hk : mi_b k j = false) : mi (am_up μ k j v) := by
  have e : ∀ a b, mi_b a b = true → am_up μ k j v a b = μ a b := fun a b q => by
    rw [am_upS, if_neg (fun z => by rw [z.1, z.2, hk] at q; cases q)]
  unfold mi at h ⊢
  rw [e 83 14 rfl, e 83 15 rfl, e 83 16 rfl, e 83 21 rfl, e 83 33 rfl, e 83 40 rfl, e 83 42 rfl, e 98 44 rfl, e 98 38 rfl, e 98 39 rfl]
  refine ⟨h.1, h.2.1, h.2.2.1, h.2.2.2.1, h.2.2.2.2.1, h.2.2.2.2.2.1, h.2.2.2.2.2.2.1, h.2.2.2.2.2.2.2.1, h.2.2.2.2.2.2.2.2.1, h.2.2.2.2.2.2.2.2.2.1, fun p hp => ?_⟩
  rw [e 100 p (by simp [mi_b])]
  exact h.2.2.2.2.2.2.2.2.2.2 p hp
theorem mi_100 {μ : am_N} {j : Nat} {v : Int} (h : mi μ) (h0 : 0 ≤ v) (h1 : v ≤ 3) : mi (am_up μ 100 j v) := by
  have e : ∀ a b, a ≠ 100 → am_up μ 100 j v a b = μ a b := fun a b q => am_upN q
  unfold mi at h ⊢
  rw [e 83 14 (by decide), e 83 15 (by decide), e 83 16 (by decide), e 83 21 (by decide), e 83 33 (by decide), e 83 40 (by decide), e 83 42 (by decide), e 98 44 (by decide), e 98 38 (by decide), e 98 39 (by decide)]
  exact ⟨h.1, h.2.1, h.2.2.1, h.2.2.2.1, h.2.2.2.2.1, h.2.2.2.2.2.1, h.2.2.2.2.2.2.1, h.2.2.2.2.2.2.2.1, h.2.2.2.2.2.2.2.2.1, h.2.2.2.2.2.2.2.2.2.1, sx_3S h.2.2.2.2.2.2.2.2.2.2 h0 h1⟩
theorem gm_up {A : Nat → Nat → Bool} {ν μ : am_N} {k j : Nat} {v : Int} (h : gm A ν μ) (hA : A k j = true) (hk : mi_b k j = false) : gm A ν (am_up μ k j v) := ⟨mi_up h.1 hk, fun a b q => by
  rw [am_upS, if_neg (fun z => by rw [z.1, z.2, hA] at q; cases q)]
  exact h.2 a b q⟩
theorem gm_100 {A : Nat → Nat → Bool} {ν μ : am_N} {j : Nat} {v : Int} (h : gm A ν μ) (hA : A 100 j = true) (h0 : 0 ≤ v) (h1 : v ≤ 3) : gm A ν (am_up μ 100 j v) := ⟨mi_100 h.1 h0 h1, fun a b q => by
  rw [am_upS, if_neg (fun z => by rw [z.1, z.2, hA] at q; cases q)]
  exact h.2 a b q⟩
theorem mi_all {μ : am_N} (h : mi μ) : (0 ≤ μ 83 14 ∧ μ 83 14 ≤ 4) ∧ (0 ≤ μ 83 15 ∧ μ 83 15 ≤ 6) ∧ (0 ≤ μ 83 16 ∧ μ 83 16 ≤ 4) ∧ (0 ≤ μ 83 21 ∧ μ 83 21 ≤ 96) ∧ (0 ≤ μ 83 33 ∧ μ 83 33 ≤ 6) ∧ (0 ≤ μ 83 40 ∧ μ 83 40 ≤ 6) ∧ (0 ≤ μ 83 42 ∧ μ 83 42 ≤ 12) ∧ (0 ≤ μ 100 0 ∧ μ 100 0 ≤ 3) ∧ (0 ≤ μ 100 1 ∧ μ 100 1 ≤ 3) ∧ (0 ≤ μ 100 2 ∧ μ 100 2 ≤ 3) ∧ (0 ≤ μ 100 3 ∧ μ 100 3 ≤ 3) :=
  ⟨h.1, h.2.1, h.2.2.1, h.2.2.2.1, h.2.2.2.2.1, h.2.2.2.2.2.1, h.2.2.2.2.2.2.1, h.2.2.2.2.2.2.2.2.2.2 0 (by decide), h.2.2.2.2.2.2.2.2.2.2 1 (by decide), h.2.2.2.2.2.2.2.2.2.2 2 (by decide), h.2.2.2.2.2.2.2.2.2.2 3 (by decide)⟩
theorem mi_or {μ : am_N} (h : mi μ) (p : Nat) (hp : p < 4) : 0 ≤ μ 100 p ∧ μ 100 p ≤ 3 := h.2.2.2.2.2.2.2.2.2.2 p hp

theorem m_isIn {l : Launch} {μ : am_N} {Q : Option am_V → am_N → Prop} (v a b : Int) (k1 : am_c a ≤ am_c v → am_c v ≤ am_c b → Q (some (.inl 1)) μ) (k2 : (am_c v < am_c a ∨ am_c b < am_c v) → Q (some (.inl 0)) μ) : am_Does l 143 [.inl v, .inl a, .inl b] μ Q := by
  refine am_Does_of (Nat.le_of_ble_eq_true rfl) (Nat.le_of_ble_eq_true rfl) (Nat.le_of_ble_eq_true rfl) ?_
  refine am_go (ct := fun _ => false) am_oX7_isIn 300 ?_
  conv => whnf
  repeat' first
    | (refine (?_ : am_wp _ _ _ _ _ _ _ _ _ _ _ _); conv => whnf)
    | (refine (?_ : am_sw _ _ _ _); conv => whnf)
    | refine And.intro trivial ?_
    | exact trivial
    | assumption
    | refine k1 ?_ ?_
    | refine k2 ?_
    | refine And.intro (fun h => absurd h (by decide)) (fun _ => ?_)
    | refine And.intro (fun _ => ?_) (fun h => absurd (by decide) h)
    | refine And.intro (fun _ => ?_) (fun _ => ?_)
    | refine And.intro ?_ ?_
  all_goals (first | assumption | decide | omega | (intros; omega) | (intros; simp only [am_c] at * <;> omega) | (simp only [am_c, am_up] at * <;> omega) | (simp [am_c, am_up] at * <;> omega))
theorem m_bound {l : Launch} {μ : am_N} {Q : Option am_V → am_N → Prop} (v a b : Int) (k1 : am_c v < am_c a → Q (some (.inl (-4))) μ) (k2 : am_c a ≤ am_c v → am_c b < am_c v → Q (some (.inl (-6))) μ) (k3 : am_c a ≤ am_c v → am_c v ≤ am_c b → Q (some (.inl 0)) μ) : am_Does l 144 [.inl v, .inl a, .inl b] μ Q := by
  refine am_Does_of (Nat.le_of_ble_eq_true rfl) (Nat.le_of_ble_eq_true rfl) (Nat.le_of_ble_eq_true rfl) ?_
  refine am_go (ct := fun _ => false) am_oX7_bound 300 ?_
  conv => whnf
  repeat' first
    | (refine (?_ : am_wp _ _ _ _ _ _ _ _ _ _ _ _); conv => whnf)
    | (refine (?_ : am_sw _ _ _ _); conv => whnf)
    | refine And.intro trivial ?_
    | exact trivial
    | assumption
    | refine k1 ?_
    | refine k2 ?_ ?_
    | refine k3 ?_ ?_
    | refine And.intro (fun h => absurd h (by decide)) (fun _ => ?_)
    | refine And.intro (fun _ => ?_) (fun h => absurd (by decide) h)
    | refine And.intro (fun _ => ?_) (fun _ => ?_)
    | refine And.intro ?_ ?_
  all_goals (first | assumption | decide | omega | (intros; omega) | (intros; simp only [am_c] at * <;> omega) | (simp only [am_c, am_up] at * <;> omega) | (simp [am_c, am_up] at * <;> omega))
theorem m_atLeastOne {l : Launch} {μ : am_N} {Q : Option am_V → am_N → Prop} (v : Int)   (k : ∀ r : Int, Q (some (.inl r)) μ) : am_Does l 145 [.inl v] μ Q := by
  refine am_Does_of (Nat.le_of_ble_eq_true rfl) (Nat.le_of_ble_eq_true rfl) (Nat.le_of_ble_eq_true rfl) ?_
  refine am_go (ct := fun _ => false) am_oX7_atLeastOne 300 ?_
  conv => whnf
  repeat' first
    | (refine (?_ : am_wp _ _ _ _ _ _ _ _ _ _ _ _); conv => whnf)
    | (refine (?_ : am_sw _ _ _ _); conv => whnf)
    | refine And.intro trivial ?_
    | exact trivial
    | assumption
    | exact k _
    | refine And.intro (fun h => absurd h (by decide)) (fun _ => ?_)
    | refine And.intro (fun _ => ?_) (fun h => absurd (by decide) h)
    | refine And.intro (fun _ => ?_) (fun _ => ?_)
    | refine And.intro ?_ ?_
  all_goals (first | assumption | decide | omega | (intros; omega) | (intros; simp only [am_c] at * <;> omega) | (simp only [am_c, am_up] at * <;> omega) | (simp [am_c, am_up] at * <;> omega))
theorem m_isRunner {l : Launch} {μ : am_N} {Q : Option am_V → am_N → Prop} (r : Int) (hS : mi μ) (k1 : 0 ≤ am_c r → am_c r < μ 83 14 → am_c r < 4 → Q (some (.inl 1)) μ) (k2 : (am_c r < 0 ∨ μ 83 14 ≤ am_c r) → Q (some (.inl 0)) μ) : am_Does l 146 [.inr (.inr 83), .inl r] μ Q := by
  refine am_Does_of (Nat.le_of_ble_eq_true rfl) (Nat.le_of_ble_eq_true rfl) (Nat.le_of_ble_eq_true rfl) ?_
  have hb := mi_all hS
  refine am_go (ct := fun _ => false) am_oX7_isRunner 300 ?_
  conv => whnf
  repeat' first
    | (refine (?_ : am_wp _ _ _ _ _ _ _ _ _ _ _ _); conv => whnf)
    | (refine (?_ : am_sw _ _ _ _); conv => whnf)
    | refine And.intro trivial ?_
    | exact trivial
    | assumption
    | refine k1 ?_ ?_ ?_
    | refine k2 ?_
    | refine And.intro (fun h => absurd h (by decide)) (fun _ => ?_)
    | refine And.intro (fun _ => ?_) (fun h => absurd (by decide) h)
    | refine And.intro (fun _ => ?_) (fun _ => ?_)
    | refine And.intro ?_ ?_
  all_goals (first | assumption | decide | omega | (intros; omega) | (intros; simp only [am_c] at * <;> omega) | (simp only [am_c, am_up] at * <;> omega) | (simp [am_c, am_up] at * <;> omega))
theorem m_areTwo {l : Launch} {μ : am_N} {Q : Option am_V → am_N → Prop} (a b : Int) (hS : mi μ) (k1 : 0 ≤ am_c a → am_c a < 4 → 0 ≤ am_c b → am_c b < 4 → 2 ≤ μ 83 14 → Q (some (.inl 1)) μ) (k2 : Q (some (.inl 0)) μ) : am_Does l 147 [.inr (.inr 83), .inl a, .inl b] μ Q := by
  refine am_Does_of (Nat.le_of_ble_eq_true rfl) (Nat.le_of_ble_eq_true rfl) (Nat.le_of_ble_eq_true rfl) ?_
  have hb := mi_all hS
  refine am_go (ct := fun _ => false) am_oX7_areTwo 300 ?_
  conv => whnf
  repeat' first
    | (refine (?_ : am_wp _ _ _ _ _ _ _ _ _ _ _ _); conv => whnf)
    | (refine (?_ : am_sw _ _ _ _); conv => whnf)
    | refine And.intro trivial ?_
    | exact trivial
    | assumption
    | refine k1 ?_ ?_ ?_ ?_ ?_
    | exact k2
    | refine m_isRunner _ ?_ (fun _ _ _ => ?_) (fun _ => ?_)
    | refine And.intro (fun h => absurd h (by decide)) (fun _ => ?_)
    | refine And.intro (fun _ => ?_) (fun h => absurd (by decide) h)
    | refine And.intro (fun _ => ?_) (fun _ => ?_)
    | refine And.intro ?_ ?_
  all_goals (first | assumption | decide | omega | (intros; omega) | (intros; simp only [am_c] at * <;> omega) | (simp only [am_c, am_up] at * <;> omega) | (simp [am_c, am_up] at * <;> omega))
theorem m_next {l : Launch} {μ : am_N} {Q : Option am_V → am_N → Prop}  (hS : mi μ) (h0 : 0 ≤ μ 83 22) (h1 : μ 83 22 ≤ 100000) (k : ∀ r : Int, (r = -1 ∨ μ 83 22 < μ 83 21) → Q (some (.inl r)) μ) : am_Does l 149 [.inr (.inr 83)] μ Q := by
  refine am_Does_of (Nat.le_of_ble_eq_true rfl) (Nat.le_of_ble_eq_true rfl) (Nat.le_of_ble_eq_true rfl) ?_
  have hb := mi_all hS
  refine am_go (ct := fun _ => false) am_oX7_next 300 ?_
  conv => whnf
  repeat' first
    | (refine (?_ : am_wp _ _ _ _ _ _ _ _ _ _ _ _); conv => whnf)
    | (refine (?_ : am_sw _ _ _ _); conv => whnf)
    | refine And.intro trivial ?_
    | exact trivial
    | assumption
    | refine k _ ?_
    | refine And.intro (fun h => absurd h (by decide)) (fun _ => ?_)
    | refine And.intro (fun _ => ?_) (fun h => absurd (by decide) h)
    | refine And.intro (fun _ => ?_) (fun _ => ?_)
    | refine And.intro ?_ ?_
  all_goals (first | assumption | decide | omega | (intros; omega) | (intros; simp only [am_c] at * <;> omega) | (simp only [am_c, am_up] at * <;> omega) | (simp [am_c, am_up] at * <;> omega))
theorem m_timeOver {l : Launch} {μ : am_N} {Q : Option am_V → am_N → Prop} (r y s : Int) (hS : mi μ) (hr0 : 0 ≤ am_c r) (hr1 : am_c r < 4) (k : ∀ r : Int, Q (some (.inl r)) μ) : am_Does l 162 [.inr (.inr 83), .inl r, .inl y, .inl s] μ Q := by
  refine am_Does_of (Nat.le_of_ble_eq_true rfl) (Nat.le_of_ble_eq_true rfl) (Nat.le_of_ble_eq_true rfl) ?_
  have hb := mi_all hS
  have lp81 : ∀ (y4 p5 t6 s7 : Int), am_AW l 0 (fun _ => 0) 162 Q 81 [some (.inr (.inr 83)), some (.inl r), some (.inl y), some (.inl s), some (.inl y4), some (.inl p5), some (.inl t6), some (.inl s7)] [] μ := by
    intro y4 p5 t6 s7  
    refine am_go (ct := fun pc => Nat.beq pc 81 || Nat.beq pc 57) am_oX7_timeOver 300 ?_
    conv => whnf
    repeat' first
      | (refine (?_ : am_wp _ _ _ _ _ _ _ _ _ _ _ _); conv => whnf)
      | (refine (?_ : am_sw _ _ _ _); conv => whnf)
      | refine And.intro trivial ?_
      | exact trivial
      | assumption
      | exact k _
      | refine m_atLeastOne _   (fun _ => ?_)
      | refine And.intro (fun h => absurd h (by decide)) (fun _ => ?_)
      | refine And.intro (fun _ => ?_) (fun h => absurd (by decide) h)
      | refine And.intro (fun _ => ?_) (fun _ => ?_)
      | refine And.intro ?_ ?_
    all_goals (first | assumption | decide | omega | (intros; omega) | (intros; simp only [am_c] at * <;> omega) | (simp only [am_c, am_up] at * <;> omega) | (simp [am_c, am_up] at * <;> omega))
  have lp57 : ∀ (y4 p5 t6 : Int), am_AW l 0 (fun _ => 0) 162 Q 57 [some (.inr (.inr 83)), some (.inl r), some (.inl y), some (.inl s), some (.inl y4), some (.inl p5), some (.inl t6), none] [] μ := by
    intro y4 p5 t6  
    refine am_go (ct := fun pc => Nat.beq pc 81 || Nat.beq pc 57) am_oX7_timeOver 300 ?_
    conv => whnf
    repeat' first
      | (refine (?_ : am_wp _ _ _ _ _ _ _ _ _ _ _ _); conv => whnf)
      | (refine (?_ : am_sw _ _ _ _); conv => whnf)
      | refine And.intro trivial ?_
      | exact trivial
      | assumption
      | exact k _
      | refine m_atLeastOne _   (fun _ => ?_)
      | refine lp81 _ _ _ _  
      | refine And.intro (fun h => absurd h (by decide)) (fun _ => ?_)
      | refine And.intro (fun _ => ?_) (fun h => absurd (by decide) h)
      | refine And.intro (fun _ => ?_) (fun _ => ?_)
      | refine And.intro ?_ ?_
    all_goals (first | assumption | decide | omega | (intros; omega) | (intros; simp only [am_c] at * <;> omega) | (simp only [am_c, am_up] at * <;> omega) | (simp [am_c, am_up] at * <;> omega))
  refine am_go (ct := fun pc => Nat.beq pc 81 || Nat.beq pc 57) am_oX7_timeOver 300 ?_
  conv => whnf
  repeat' first
    | (refine (?_ : am_wp _ _ _ _ _ _ _ _ _ _ _ _); conv => whnf)
    | (refine (?_ : am_sw _ _ _ _); conv => whnf)
    | refine And.intro trivial ?_
    | exact trivial
    | assumption
    | exact k _
    | refine m_atLeastOne _   (fun _ => ?_)
    | refine lp57 _ _ _  
    | refine lp81 _ _ _ _  
    | refine And.intro (fun h => absurd h (by decide)) (fun _ => ?_)
    | refine And.intro (fun _ => ?_) (fun h => absurd (by decide) h)
    | refine And.intro (fun _ => ?_) (fun _ => ?_)
    | refine And.intro ?_ ?_
  all_goals (first | assumption | decide | omega | (intros; omega) | (intros; simp only [am_c] at * <;> omega) | (simp only [am_c, am_up] at * <;> omega) | (simp [am_c, am_up] at * <;> omega))
theorem m_timeBy {l : Launch} {μ : am_N} {Q : Option am_V → am_N → Prop} (r s : Int) (hS : mi μ) (hr0 : 0 ≤ am_c r) (hr1 : am_c r < 4) (k : ∀ r : Int, Q (some (.inl r)) μ) : am_Does l 163 [.inr (.inr 83), .inl r, .inl s] μ Q := by
  refine am_Does_of (Nat.le_of_ble_eq_true rfl) (Nat.le_of_ble_eq_true rfl) (Nat.le_of_ble_eq_true rfl) ?_
  have hb := mi_all hS
  refine am_go (ct := fun _ => false) am_oX7_timeBy 300 ?_
  conv => whnf
  repeat' first
    | (refine (?_ : am_wp _ _ _ _ _ _ _ _ _ _ _ _); conv => whnf)
    | (refine (?_ : am_sw _ _ _ _); conv => whnf)
    | refine And.intro trivial ?_
    | exact trivial
    | assumption
    | exact k _
    | refine m_timeOver _ _ _ ?_ ?_ ?_ (fun _ => ?_)
    | refine And.intro (fun h => absurd h (by decide)) (fun _ => ?_)
    | refine And.intro (fun _ => ?_) (fun h => absurd (by decide) h)
    | refine And.intro (fun _ => ?_) (fun _ => ?_)
    | refine And.intro ?_ ?_
  all_goals (first | assumption | decide | omega | (intros; omega) | (intros; simp only [am_c] at * <;> omega) | (simp only [am_c, am_up] at * <;> omega) | (simp [am_c, am_up] at * <;> omega))
theorem m_timeOf {l : Launch} {μ : am_N} {Q : Option am_V → am_N → Prop} (r : Int) (hS : mi μ) (hr0 : 0 ≤ am_c r) (hr1 : am_c r < 4) (k : ∀ r : Int, Q (some (.inl r)) μ) : am_Does l 164 [.inr (.inr 83), .inl r] μ Q := by
  refine am_Does_of (Nat.le_of_ble_eq_true rfl) (Nat.le_of_ble_eq_true rfl) (Nat.le_of_ble_eq_true rfl) ?_
  have hb := mi_all hS
  refine am_go (ct := fun _ => false) am_oX7_timeOf 300 ?_
  conv => whnf
  repeat' first
    | (refine (?_ : am_wp _ _ _ _ _ _ _ _ _ _ _ _); conv => whnf)
    | (refine (?_ : am_sw _ _ _ _); conv => whnf)
    | refine And.intro trivial ?_
    | exact trivial
    | assumption
    | exact k _
    | refine m_timeBy _ _ ?_ ?_ ?_ (fun _ => ?_)
    | refine And.intro (fun h => absurd h (by decide)) (fun _ => ?_)
    | refine And.intro (fun _ => ?_) (fun h => absurd (by decide) h)
    | refine And.intro (fun _ => ?_) (fun _ => ?_)
    | refine And.intro ?_ ?_
  all_goals (first | assumption | decide | omega | (intros; omega) | (intros; simp only [am_c] at * <;> omega) | (simp only [am_c, am_up] at * <;> omega) | (simp [am_c, am_up] at * <;> omega))
theorem m_partTime {l : Launch} {μ : am_N} {Q : Option am_V → am_N → Prop} (r p : Int) (hS : mi μ) (hr0 : 0 ≤ am_c r) (hr1 : am_c r < 4) (k : ∀ r : Int, Q (some (.inl r)) μ) : am_Does l 167 [.inr (.inr 83), .inl r, .inl p] μ Q := by
  refine am_Does_of (Nat.le_of_ble_eq_true rfl) (Nat.le_of_ble_eq_true rfl) (Nat.le_of_ble_eq_true rfl) ?_
  have hb := mi_all hS
  refine am_go (ct := fun _ => false) am_oX7_partTime 300 ?_
  conv => whnf
  repeat' first
    | (refine (?_ : am_wp _ _ _ _ _ _ _ _ _ _ _ _); conv => whnf)
    | (refine (?_ : am_sw _ _ _ _); conv => whnf)
    | refine And.intro trivial ?_
    | exact trivial
    | assumption
    | exact k _
    | refine m_timeOf _ ?_ ?_ ?_ (fun _ => ?_)
    | refine m_atLeastOne _   (fun _ => ?_)
    | refine And.intro (fun h => absurd h (by decide)) (fun _ => ?_)
    | refine And.intro (fun _ => ?_) (fun h => absurd (by decide) h)
    | refine And.intro (fun _ => ?_) (fun _ => ?_)
    | refine And.intro ?_ ?_
  all_goals (first | assumption | decide | omega | (intros; omega) | (intros; simp only [am_c] at * <;> omega) | (simp only [am_c, am_up] at * <;> omega) | (simp [am_c, am_up] at * <;> omega))
theorem m_races {l : Launch} {μ : am_N} {Q : Option am_V → am_N → Prop} (k : Q (some (.inl (am_shl 1 (2 * μ 83 14)))) μ) : am_Does l 169 [.inr (.inr 83)] μ Q := by
  refine am_Does_of (Nat.le_of_ble_eq_true rfl) (Nat.le_of_ble_eq_true rfl) (Nat.le_of_ble_eq_true rfl) ?_
  refine am_go (ct := fun _ => false) am_oX7_races 300 ?_
  conv => whnf
  repeat' first
    | (refine (?_ : am_wp _ _ _ _ _ _ _ _ _ _ _ _); conv => whnf)
    | (refine (?_ : am_sw _ _ _ _); conv => whnf)
    | refine And.intro trivial ?_
    | exact trivial
    | assumption
    | exact k
    | refine And.intro (fun h => absurd h (by decide)) (fun _ => ?_)
    | refine And.intro (fun _ => ?_) (fun h => absurd (by decide) h)
    | refine And.intro (fun _ => ?_) (fun _ => ?_)
    | refine And.intro ?_ ?_
  all_goals (first | assumption | decide | omega | (intros; omega) | (intros; simp only [am_c] at * <;> omega) | (simp only [am_c, am_up] at * <;> omega) | (simp [am_c, am_up] at * <;> omega))
theorem m_held {l : Launch} {μ : am_N} {Q : Option am_V → am_N → Prop} (v : Int)   (k : ∀ r : Int, Q (some (.inl r)) μ) : am_Does l 170 [.inl v] μ Q := by
  refine am_Does_of (Nat.le_of_ble_eq_true rfl) (Nat.le_of_ble_eq_true rfl) (Nat.le_of_ble_eq_true rfl) ?_
  refine am_go (ct := fun _ => false) am_oX7_held 300 ?_
  conv => whnf
  repeat' first
    | (refine (?_ : am_wp _ _ _ _ _ _ _ _ _ _ _ _); conv => whnf)
    | (refine (?_ : am_sw _ _ _ _); conv => whnf)
    | refine And.intro trivial ?_
    | exact trivial
    | assumption
    | exact k _
    | refine And.intro (fun h => absurd h (by decide)) (fun _ => ?_)
    | refine And.intro (fun _ => ?_) (fun h => absurd (by decide) h)
    | refine And.intro (fun _ => ?_) (fun _ => ?_)
    | refine And.intro ?_ ?_
  all_goals (first | assumption | decide | omega | (intros; omega) | (intros; simp only [am_c] at * <;> omega) | (simp only [am_c, am_up] at * <;> omega) | (simp [am_c, am_up] at * <;> omega))
theorem m_digits {l : Launch} {μ : am_N} {Q : Option am_V → am_N → Prop}  (hS : mi μ)  (k : ∀ r : Int, Q (some (.inl r)) μ) : am_Does l 178 [.inr (.inr 83)] μ Q := by
  refine am_Does_of (Nat.le_of_ble_eq_true rfl) (Nat.le_of_ble_eq_true rfl) (Nat.le_of_ble_eq_true rfl) ?_
  have hb := mi_all hS
  have lp9 : ∀ (m : Nat) (a i : Int) , -1 ≤ i → i ≤ 3 → i + 1 < (m : Int) → am_AW l 0 (fun _ => 0) 178 Q 9 [some (.inr (.inr 83)), some (.inl a), some (.inl i)] [] μ := by
    intro m
    induction m with
    | zero =>
      intro a i  hv0 hv1 hm
      exfalso
      omega
    | succ m ih =>
      intro a i  hv0 hv1 hm
      refine am_go (ct := fun pc => Nat.beq pc 9) am_oX7_digits 300 ?_
      conv => whnf
      repeat' first
        | (refine (?_ : am_wp _ _ _ _ _ _ _ _ _ _ _ _); conv => whnf)
        | (refine (?_ : am_sw _ _ _ _); conv => whnf)
        | refine And.intro trivial ?_
        | exact trivial
        | assumption
        | exact k _
        | refine ih _ _  ?_ ?_ ?_
        | refine And.intro (fun h => absurd h (by decide)) (fun _ => ?_)
        | refine And.intro (fun _ => ?_) (fun h => absurd (by decide) h)
        | refine And.intro (fun _ => ?_) (fun _ => ?_)
        | refine And.intro ?_ ?_
      all_goals (first | assumption | decide | omega | (intros; omega) | (intros; simp only [am_c] at * <;> omega) | (simp only [am_c, am_up] at * <;> omega) | (simp [am_c, am_up] at * <;> omega))
  have lp9' : ∀ (a i : Int) , -1 ≤ i → i ≤ 3 → am_AW l 0 (fun _ => 0) 178 Q 9 [some (.inr (.inr 83)), some (.inl a), some (.inl i)] [] μ := fun a i  hv0 hv1 => lp9 ((i + 1) + 1).toNat a i  hv0 hv1 (by omega)
  refine am_go (ct := fun pc => Nat.beq pc 9) am_oX7_digits 300 ?_
  conv => whnf
  repeat' first
    | (refine (?_ : am_wp _ _ _ _ _ _ _ _ _ _ _ _); conv => whnf)
    | (refine (?_ : am_sw _ _ _ _); conv => whnf)
    | refine And.intro trivial ?_
    | exact trivial
    | assumption
    | exact k _
    | refine lp9' _ _  ?_ ?_
    | refine And.intro (fun h => absurd h (by decide)) (fun _ => ?_)
    | refine And.intro (fun _ => ?_) (fun h => absurd (by decide) h)
    | refine And.intro (fun _ => ?_) (fun _ => ?_)
    | refine And.intro ?_ ?_
  all_goals (first | assumption | decide | omega | (intros; omega) | (intros; simp only [am_c] at * <;> omega) | (simp only [am_c, am_up] at * <;> omega) | (simp [am_c, am_up] at * <;> omega))
theorem m_isOrder {l : Launch} {μ : am_N} {Q : Option am_V → am_N → Prop} (d : Int) (hS : mi μ)  (k : ∀ r : Int, Q (some (.inl r)) μ) : am_Does l 187 [.inr (.inr 83), .inl d] μ Q := by
  refine am_Does_of (Nat.le_of_ble_eq_true rfl) (Nat.le_of_ble_eq_true rfl) (Nat.le_of_ble_eq_true rfl) ?_
  have hb := mi_all hS
  have lp7 : ∀ (m : Nat) (a b i : Int) (o5 : Option am_V) , 0 ≤ i → i ≤ 4 → 4 - i < (m : Int) → am_AW l 0 (fun _ => 0) 187 Q 7 [some (.inr (.inr 83)), some (.inl d), some (.inl a), some (.inl b), some (.inl i), o5] [] μ := by
    intro m
    induction m with
    | zero =>
      intro a b i o5  hv0 hv1 hm
      exfalso
      omega
    | succ m ih =>
      intro a b i o5  hv0 hv1 hm
      refine am_go (ct := fun pc => Nat.beq pc 7) am_oX7_isOrder 300 ?_
      conv => whnf
      repeat' first
        | (refine (?_ : am_wp _ _ _ _ _ _ _ _ _ _ _ _); conv => whnf)
        | (refine (?_ : am_sw _ _ _ _); conv => whnf)
        | refine And.intro trivial ?_
        | exact trivial
        | assumption
        | exact k _
        | refine m_isRunner _ ?_ (fun _ _ _ => ?_) (fun _ => ?_)
        | refine ih _ _ _ _  ?_ ?_ ?_
        | refine And.intro (fun h => absurd h (by decide)) (fun _ => ?_)
        | refine And.intro (fun _ => ?_) (fun h => absurd (by decide) h)
        | refine And.intro (fun _ => ?_) (fun _ => ?_)
        | refine And.intro ?_ ?_
      all_goals (first | assumption | decide | omega | (intros; omega) | (intros; simp only [am_c] at * <;> omega) | (simp only [am_c, am_up] at * <;> omega) | (simp [am_c, am_up] at * <;> omega))
  have lp7' : ∀ (a b i : Int) (o5 : Option am_V) , 0 ≤ i → i ≤ 4 → am_AW l 0 (fun _ => 0) 187 Q 7 [some (.inr (.inr 83)), some (.inl d), some (.inl a), some (.inl b), some (.inl i), o5] [] μ := fun a b i o5  hv0 hv1 => lp7 ((4 - i) + 1).toNat a b i o5  hv0 hv1 (by omega)
  refine am_go (ct := fun pc => Nat.beq pc 7) am_oX7_isOrder 300 ?_
  conv => whnf
  repeat' first
    | (refine (?_ : am_wp _ _ _ _ _ _ _ _ _ _ _ _); conv => whnf)
    | (refine (?_ : am_sw _ _ _ _); conv => whnf)
    | refine And.intro trivial ?_
    | exact trivial
    | assumption
    | exact k _
    | refine m_isRunner _ ?_ (fun _ _ _ => ?_) (fun _ => ?_)
    | refine lp7' _ _ _ _  ?_ ?_
    | refine And.intro (fun h => absurd h (by decide)) (fun _ => ?_)
    | refine And.intro (fun _ => ?_) (fun h => absurd (by decide) h)
    | refine And.intro (fun _ => ?_) (fun _ => ?_)
    | refine And.intro ?_ ?_
  all_goals (first | assumption | decide | omega | (intros; omega) | (intros; simp only [am_c] at * <;> omega) | (simp only [am_c, am_up] at * <;> omega) | (simp [am_c, am_up] at * <;> omega))
theorem m_gap {l : Launch} {μ : am_N} {Q : Option am_V → am_N → Prop}  (hS : mi μ)  (k : ∀ r : Int, Q (some (.inl r)) μ) : am_Does l 189 [.inr (.inr 83)] μ Q := by
  refine am_Does_of (Nat.le_of_ble_eq_true rfl) (Nat.le_of_ble_eq_true rfl) (Nat.le_of_ble_eq_true rfl) ?_
  have hb := mi_all hS
  refine am_go (ct := fun _ => false) am_oX7_gap 300 ?_
  conv => whnf
  repeat' first
    | (refine (?_ : am_wp _ _ _ _ _ _ _ _ _ _ _ _); conv => whnf)
    | (refine (?_ : am_sw _ _ _ _); conv => whnf)
    | refine And.intro trivial ?_
    | exact trivial
    | assumption
    | exact k _
    | refine And.intro (fun h => absurd h (by decide)) (fun _ => ?_)
    | refine And.intro (fun _ => ?_) (fun h => absurd (by decide) h)
    | refine And.intro (fun _ => ?_) (fun _ => ?_)
    | refine And.intro ?_ ?_
  all_goals (first | assumption | decide | omega | (intros; omega) | (intros; simp only [am_c] at * <;> omega) | (simp only [am_c, am_up] at * <;> omega) | (simp [am_c, am_up] at * <;> omega))
theorem m_partBy {l : Launch} {μ : am_N} {Q : Option am_V → am_N → Prop} (a b c : Int)   (k : ∀ r : Int, Q (some (.inl r)) μ) : am_Does l 192 [.inl a, .inl b, .inl c] μ Q := by
  refine am_Does_of (Nat.le_of_ble_eq_true rfl) (Nat.le_of_ble_eq_true rfl) (Nat.le_of_ble_eq_true rfl) ?_
  refine am_go (ct := fun _ => false) am_oX7_partBy 300 ?_
  conv => whnf
  repeat' first
    | (refine (?_ : am_wp _ _ _ _ _ _ _ _ _ _ _ _); conv => whnf)
    | (refine (?_ : am_sw _ _ _ _); conv => whnf)
    | refine And.intro trivial ?_
    | exact trivial
    | assumption
    | exact k _
    | refine m_atLeastOne _   (fun _ => ?_)
    | refine And.intro (fun h => absurd h (by decide)) (fun _ => ?_)
    | refine And.intro (fun _ => ?_) (fun h => absurd (by decide) h)
    | refine And.intro (fun _ => ?_) (fun _ => ?_)
    | refine And.intro ?_ ?_
  all_goals (first | assumption | decide | omega | (intros; omega) | (intros; simp only [am_c] at * <;> omega) | (simp only [am_c, am_up] at * <;> omega) | (simp [am_c, am_up] at * <;> omega))
theorem m_aheadBy {l : Launch} {μ : am_N} {Q : Option am_V → am_N → Prop} (a s b t : Int) (hS : mi μ) (ha0 : 0 ≤ am_c a) (ha1 : am_c a < 4) (hb0 : 0 ≤ am_c b) (hb1 : am_c b < 4) (k : ∀ r : Int, Q (some (.inl r)) μ) : am_Does l 193 [.inr (.inr 83), .inl a, .inl s, .inl b, .inl t] μ Q := by
  refine am_Does_of (Nat.le_of_ble_eq_true rfl) (Nat.le_of_ble_eq_true rfl) (Nat.le_of_ble_eq_true rfl) ?_
  have hb := mi_all hS
  have lp6 : ∀ (m : Nat) (n i : Int) (o7 o8 : Option am_V) , 0 ≤ i → i ≤ 16 → 16 - i < (m : Int) → am_AW l 0 (fun _ => 0) 193 Q 6 [some (.inr (.inr 83)), some (.inl a), some (.inl s), some (.inl b), some (.inl t), some (.inl n), some (.inl i), o7, o8] [] μ := by
    intro m
    induction m with
    | zero =>
      intro n i o7 o8  hv0 hv1 hm
      exfalso
      omega
    | succ m ih =>
      intro n i o7 o8  hv0 hv1 hm
      refine am_go (ct := fun pc => Nat.beq pc 6) am_oX7_aheadBy 300 ?_
      conv => whnf
      repeat' first
        | (refine (?_ : am_wp _ _ _ _ _ _ _ _ _ _ _ _); conv => whnf)
        | (refine (?_ : am_sw _ _ _ _); conv => whnf)
        | refine And.intro trivial ?_
        | exact trivial
        | assumption
        | exact k _
        | refine m_partBy _ _ _   (fun _ => ?_)
        | refine ih _ _ _ _  ?_ ?_ ?_
        | refine And.intro (fun h => absurd h (by decide)) (fun _ => ?_)
        | refine And.intro (fun _ => ?_) (fun h => absurd (by decide) h)
        | refine And.intro (fun _ => ?_) (fun _ => ?_)
        | refine And.intro ?_ ?_
      all_goals (first | assumption | decide | omega | (intros; omega) | (intros; simp only [am_c] at * <;> omega) | (simp only [am_c, am_up] at * <;> omega) | (simp [am_c, am_up] at * <;> omega))
  have lp6' : ∀ (n i : Int) (o7 o8 : Option am_V) , 0 ≤ i → i ≤ 16 → am_AW l 0 (fun _ => 0) 193 Q 6 [some (.inr (.inr 83)), some (.inl a), some (.inl s), some (.inl b), some (.inl t), some (.inl n), some (.inl i), o7, o8] [] μ := fun n i o7 o8  hv0 hv1 => lp6 ((16 - i) + 1).toNat n i o7 o8  hv0 hv1 (by omega)
  refine am_go (ct := fun pc => Nat.beq pc 6) am_oX7_aheadBy 300 ?_
  conv => whnf
  repeat' first
    | (refine (?_ : am_wp _ _ _ _ _ _ _ _ _ _ _ _); conv => whnf)
    | (refine (?_ : am_sw _ _ _ _); conv => whnf)
    | refine And.intro trivial ?_
    | exact trivial
    | assumption
    | exact k _
    | refine m_partBy _ _ _   (fun _ => ?_)
    | refine lp6' _ _ _ _  ?_ ?_
    | refine And.intro (fun h => absurd h (by decide)) (fun _ => ?_)
    | refine And.intro (fun _ => ?_) (fun h => absurd (by decide) h)
    | refine And.intro (fun _ => ?_) (fun _ => ?_)
    | refine And.intro ?_ ?_
  all_goals (first | assumption | decide | omega | (intros; omega) | (intros; simp only [am_c] at * <;> omega) | (simp only [am_c, am_up] at * <;> omega) | (simp [am_c, am_up] at * <;> omega))
theorem m_aheadOf {l : Launch} {μ : am_N} {Q : Option am_V → am_N → Prop} (a b : Int) (hS : mi μ) (ha0 : 0 ≤ am_c a) (ha1 : am_c a < 4) (hb0 : 0 ≤ am_c b) (hb1 : am_c b < 4) (k : ∀ r : Int, Q (some (.inl r)) μ) : am_Does l 194 [.inr (.inr 83), .inl a, .inl b] μ Q := by
  refine am_Does_of (Nat.le_of_ble_eq_true rfl) (Nat.le_of_ble_eq_true rfl) (Nat.le_of_ble_eq_true rfl) ?_
  have hb := mi_all hS
  refine am_go (ct := fun _ => false) am_oX7_aheadOf 300 ?_
  conv => whnf
  repeat' first
    | (refine (?_ : am_wp _ _ _ _ _ _ _ _ _ _ _ _); conv => whnf)
    | (refine (?_ : am_sw _ _ _ _); conv => whnf)
    | refine And.intro trivial ?_
    | exact trivial
    | assumption
    | exact k _
    | refine m_timeOf _ ?_ ?_ ?_ (fun _ => ?_)
    | refine m_aheadBy _ _ _ _ ?_ ?_ ?_ ?_ ?_ (fun _ => ?_)
    | refine And.intro (fun h => absurd h (by decide)) (fun _ => ?_)
    | refine And.intro (fun _ => ?_) (fun h => absurd (by decide) h)
    | refine And.intro (fun _ => ?_) (fun _ => ?_)
    | refine And.intro ?_ ?_
  all_goals (first | assumption | decide | omega | (intros; omega) | (intros; simp only [am_c] at * <;> omega) | (simp only [am_c, am_up] at * <;> omega) | (simp [am_c, am_up] at * <;> omega))
theorem m_startsNumber {l : Launch} {μ : am_N} {Q : Option am_V → am_N → Prop}  (hS : mi μ)  (k : ∀ r : Int, Q (some (.inl r)) μ) : am_Does l 201 [.inr (.inr 83)] μ Q := by
  refine am_Does_of (Nat.le_of_ble_eq_true rfl) (Nat.le_of_ble_eq_true rfl) (Nat.le_of_ble_eq_true rfl) ?_
  have hb := mi_all hS
  have lp4 : ∀ (m : Nat) (a i : Int) , 0 ≤ i → i ≤ 4 → 4 - i < (m : Int) → am_AW l 0 (fun _ => 0) 201 Q 4 [some (.inr (.inr 83)), some (.inl a), some (.inl i)] [] μ := by
    intro m
    induction m with
    | zero =>
      intro a i  hv0 hv1 hm
      exfalso
      omega
    | succ m ih =>
      intro a i  hv0 hv1 hm
      refine am_go (ct := fun pc => Nat.beq pc 4) am_oX7_startsNumber 300 ?_
      conv => whnf
      repeat' first
        | (refine (?_ : am_wp _ _ _ _ _ _ _ _ _ _ _ _); conv => whnf)
        | (refine (?_ : am_sw _ _ _ _); conv => whnf)
        | refine And.intro trivial ?_
        | exact trivial
        | assumption
        | exact k _
        | refine ih _ _  ?_ ?_ ?_
        | refine And.intro (fun h => absurd h (by decide)) (fun _ => ?_)
        | refine And.intro (fun _ => ?_) (fun h => absurd (by decide) h)
        | refine And.intro (fun _ => ?_) (fun _ => ?_)
        | refine And.intro ?_ ?_
      all_goals (first | assumption | decide | omega | (intros; omega) | (intros; simp only [am_c] at * <;> omega) | (simp only [am_c, am_up] at * <;> omega) | (simp [am_c, am_up] at * <;> omega))
  have lp4' : ∀ (a i : Int) , 0 ≤ i → i ≤ 4 → am_AW l 0 (fun _ => 0) 201 Q 4 [some (.inr (.inr 83)), some (.inl a), some (.inl i)] [] μ := fun a i  hv0 hv1 => lp4 ((4 - i) + 1).toNat a i  hv0 hv1 (by omega)
  refine am_go (ct := fun pc => Nat.beq pc 4) am_oX7_startsNumber 300 ?_
  conv => whnf
  repeat' first
    | (refine (?_ : am_wp _ _ _ _ _ _ _ _ _ _ _ _); conv => whnf)
    | (refine (?_ : am_sw _ _ _ _); conv => whnf)
    | refine And.intro trivial ?_
    | exact trivial
    | assumption
    | exact k _
    | refine lp4' _ _  ?_ ?_
    | refine And.intro (fun h => absurd h (by decide)) (fun _ => ?_)
    | refine And.intro (fun _ => ?_) (fun h => absurd (by decide) h)
    | refine And.intro (fun _ => ?_) (fun _ => ?_)
    | refine And.intro ?_ ?_
  all_goals (first | assumption | decide | omega | (intros; omega) | (intros; simp only [am_c] at * <;> omega) | (simp only [am_c, am_up] at * <;> omega) | (simp [am_c, am_up] at * <;> omega))
theorem m_worthOf {l : Launch} {μ : am_N} {Q : Option am_V → am_N → Prop} (r s : Int) (hS : mi μ) (hr0 : 0 ≤ am_c r) (hr1 : am_c r < 4) (k : ∀ r : Int, Q (some (.inl r)) μ) : am_Does l 206 [.inr (.inr 83), .inl r, .inl s] μ Q := by
  refine am_Does_of (Nat.le_of_ble_eq_true rfl) (Nat.le_of_ble_eq_true rfl) (Nat.le_of_ble_eq_true rfl) ?_
  have hb := mi_all hS
  refine am_go (ct := fun _ => false) am_oX7_worthOf 300 ?_
  conv => whnf
  repeat' first
    | (refine (?_ : am_wp _ _ _ _ _ _ _ _ _ _ _ _); conv => whnf)
    | (refine (?_ : am_sw _ _ _ _); conv => whnf)
    | refine And.intro trivial ?_
    | exact trivial
    | assumption
    | exact k _
    | refine m_timeBy _ _ ?_ ?_ ?_ (fun _ => ?_)
    | refine And.intro (fun h => absurd h (by decide)) (fun _ => ?_)
    | refine And.intro (fun _ => ?_) (fun h => absurd (by decide) h)
    | refine And.intro (fun _ => ?_) (fun _ => ?_)
    | refine And.intro ?_ ?_
  all_goals (first | assumption | decide | omega | (intros; omega) | (intros; simp only [am_c] at * <;> omega) | (simp only [am_c, am_up] at * <;> omega) | (simp [am_c, am_up] at * <;> omega))
theorem m_apartBy {l : Launch} {μ : am_N} {Q : Option am_V → am_N → Prop} (b : Int) (hS : mi μ)  (k : ∀ r : Int, Q (some (.inl r)) μ) : am_Does l 209 [.inr (.inr 83), .inl b] μ Q := by
  refine am_Does_of (Nat.le_of_ble_eq_true rfl) (Nat.le_of_ble_eq_true rfl) (Nat.le_of_ble_eq_true rfl) ?_
  have hb := mi_all hS
  have lp4 : ∀ (m : Nat) (a i : Int) , 0 ≤ i → i ≤ 4 → 4 - i < (m : Int) → am_AW l 0 (fun _ => 0) 209 Q 4 [some (.inr (.inr 83)), some (.inl b), some (.inl a), some (.inl i)] [] μ := by
    intro m
    induction m with
    | zero =>
      intro a i  hv0 hv1 hm
      exfalso
      omega
    | succ m ih =>
      intro a i  hv0 hv1 hm
      refine am_go (ct := fun pc => Nat.beq pc 4) am_oX7_apartBy 300 ?_
      conv => whnf
      repeat' first
        | (refine (?_ : am_wp _ _ _ _ _ _ _ _ _ _ _ _); conv => whnf)
        | (refine (?_ : am_sw _ _ _ _); conv => whnf)
        | refine And.intro trivial ?_
        | exact trivial
        | assumption
        | exact k _
        | refine m_timeOver _ _ _ ?_ ?_ ?_ (fun _ => ?_)
        | refine ih _ _  ?_ ?_ ?_
        | refine And.intro (fun h => absurd h (by decide)) (fun _ => ?_)
        | refine And.intro (fun _ => ?_) (fun h => absurd (by decide) h)
        | refine And.intro (fun _ => ?_) (fun _ => ?_)
        | refine And.intro ?_ ?_
      all_goals (first | assumption | decide | omega | (intros; omega) | (intros; simp only [am_c] at * <;> omega) | (simp only [am_c, am_up] at * <;> omega) | (simp [am_c, am_up] at * <;> omega))
  have lp4' : ∀ (a i : Int) , 0 ≤ i → i ≤ 4 → am_AW l 0 (fun _ => 0) 209 Q 4 [some (.inr (.inr 83)), some (.inl b), some (.inl a), some (.inl i)] [] μ := fun a i  hv0 hv1 => lp4 ((4 - i) + 1).toNat a i  hv0 hv1 (by omega)
  refine am_go (ct := fun pc => Nat.beq pc 4) am_oX7_apartBy 300 ?_
  conv => whnf
  repeat' first
    | (refine (?_ : am_wp _ _ _ _ _ _ _ _ _ _ _ _); conv => whnf)
    | (refine (?_ : am_sw _ _ _ _); conv => whnf)
    | refine And.intro trivial ?_
    | exact trivial
    | assumption
    | exact k _
    | refine m_timeOver _ _ _ ?_ ?_ ?_ (fun _ => ?_)
    | refine lp4' _ _  ?_ ?_
    | refine And.intro (fun h => absurd h (by decide)) (fun _ => ?_)
    | refine And.intro (fun _ => ?_) (fun h => absurd (by decide) h)
    | refine And.intro (fun _ => ?_) (fun _ => ?_)
    | refine And.intro ?_ ?_
  all_goals (first | assumption | decide | omega | (intros; omega) | (intros; simp only [am_c] at * <;> omega) | (simp only [am_c, am_up] at * <;> omega) | (simp [am_c, am_up] at * <;> omega))
theorem m_bagsFar {l : Launch} {μ : am_N} {Q : Option am_V → am_N → Prop} (a b t : Int) (hS : mi μ) (ha0 : 0 ≤ am_c a) (ha1 : am_c a < 4) (hb0 : 0 ≤ am_c b) (hb1 : am_c b < 4) (k : ∀ r : Int, Q (some (.inl r)) μ) : am_Does l 215 [.inr (.inr 83), .inl a, .inl b, .inl t] μ Q := by
  refine am_Does_of (Nat.le_of_ble_eq_true rfl) (Nat.le_of_ble_eq_true rfl) (Nat.le_of_ble_eq_true rfl) ?_
  have hb := mi_all hS
  have lp9 : ∀ (m : Nat) (x y i : Int) , 0 ≤ i → i ≤ 6 → 6 - i < (m : Int) → am_AW l 0 (fun _ => 0) 215 Q 9 [some (.inr (.inr 83)), some (.inl a), some (.inl b), some (.inl t), some (.inl x), some (.inl y), some (.inl i)] [] μ := by
    intro m
    induction m with
    | zero =>
      intro x y i  hv0 hv1 hm
      exfalso
      omega
    | succ m ih =>
      intro x y i  hv0 hv1 hm
      refine am_go (ct := fun pc => Nat.beq pc 9) am_oX7_bagsFar 300 ?_
      conv => whnf
      repeat' first
        | (refine (?_ : am_wp _ _ _ _ _ _ _ _ _ _ _ _); conv => whnf)
        | (refine (?_ : am_sw _ _ _ _); conv => whnf)
        | refine And.intro trivial ?_
        | exact trivial
        | assumption
        | exact k _
        | refine m_timeOf _ ?_ ?_ ?_ (fun _ => ?_)
        | refine m_aheadBy _ _ _ _ ?_ ?_ ?_ ?_ ?_ (fun _ => ?_)
        | refine ih _ _ _  ?_ ?_ ?_
        | refine And.intro (fun h => absurd h (by decide)) (fun _ => ?_)
        | refine And.intro (fun _ => ?_) (fun h => absurd (by decide) h)
        | refine And.intro (fun _ => ?_) (fun _ => ?_)
        | refine And.intro ?_ ?_
      all_goals (first | assumption | decide | omega | (intros; omega) | (intros; simp only [am_c] at * <;> omega) | (simp only [am_c, am_up] at * <;> omega) | (simp [am_c, am_up] at * <;> omega))
  have lp9' : ∀ (x y i : Int) , 0 ≤ i → i ≤ 6 → am_AW l 0 (fun _ => 0) 215 Q 9 [some (.inr (.inr 83)), some (.inl a), some (.inl b), some (.inl t), some (.inl x), some (.inl y), some (.inl i)] [] μ := fun x y i  hv0 hv1 => lp9 ((6 - i) + 1).toNat x y i  hv0 hv1 (by omega)
  refine am_go (ct := fun pc => Nat.beq pc 9) am_oX7_bagsFar 300 ?_
  conv => whnf
  repeat' first
    | (refine (?_ : am_wp _ _ _ _ _ _ _ _ _ _ _ _); conv => whnf)
    | (refine (?_ : am_sw _ _ _ _); conv => whnf)
    | refine And.intro trivial ?_
    | exact trivial
    | assumption
    | exact k _
    | refine m_timeOf _ ?_ ?_ ?_ (fun _ => ?_)
    | refine m_aheadBy _ _ _ _ ?_ ?_ ?_ ?_ ?_ (fun _ => ?_)
    | refine lp9' _ _ _  ?_ ?_
    | refine And.intro (fun h => absurd h (by decide)) (fun _ => ?_)
    | refine And.intro (fun _ => ?_) (fun h => absurd (by decide) h)
    | refine And.intro (fun _ => ?_) (fun _ => ?_)
    | refine And.intro ?_ ?_
  all_goals (first | assumption | decide | omega | (intros; omega) | (intros; simp only [am_c] at * <;> omega) | (simp only [am_c, am_up] at * <;> omega) | (simp [am_c, am_up] at * <;> omega))
theorem am_xor3n : ∀ a : Nat, a < 4 → ∀ b : Nat, b < 4 → 0 ≤ am_xor (a : Int) (b : Int) ∧ am_xor (a : Int) (b : Int) ≤ 3 := by decide +kernel
theorem am_xor3 {a b : Int} (h0 : 0 ≤ a) (h1 : a ≤ 3) (h2 : 0 ≤ b) (h3 : b ≤ 3) : 0 ≤ am_xor a b ∧ am_xor a b ≤ 3 := by
  obtain ⟨x, rfl⟩ := Int.eq_ofNat_of_zero_le h0
  obtain ⟨y, rfl⟩ := Int.eq_ofNat_of_zero_le h2
  exact am_xor3n x (by omega) y (by omega)
theorem am_xorc {a b : Int} (h0 : 0 ≤ a) (h1 : a ≤ 3) (h2 : 0 ≤ b) (h3 : b ≤ 3) : 0 ≤ am_c (am_xor a b) ∧ am_c (am_xor a b) < 4 := by
  have h := am_xor3 h0 h1 h2 h3
  rw [am_cR (by omega) (by omega)]
  omega
theorem m_partner {l : Launch} {μ : am_N} {Q : Option am_V → am_N → Prop} (r b : Int) (hr0 : 0 ≤ r) (hr1 : r ≤ 3) (hb0 : 0 ≤ b) (hb1 : b ≤ 2) (k : ∀ w, 0 ≤ w → w ≤ 3 → Q (some (.inl w)) μ) : am_Does l 218 [.inl r, .inl b] μ Q := by
  refine am_Does_of (Nat.le_of_ble_eq_true rfl) (Nat.le_of_ble_eq_true rfl) (Nat.le_of_ble_eq_true rfl) ?_
  refine am_go (ct := fun _ => false) am_oX7_partner 300 ?_
  conv => whnf
  repeat' first
    | (refine (?_ : am_wp _ _ _ _ _ _ _ _ _ _ _ _); conv => whnf)
    | (refine (?_ : am_sw _ _ _ _); conv => whnf)
    | refine And.intro trivial ?_
    | exact trivial
    | assumption
    | refine k _ (am_xor3 (by omega) (by omega) (by omega) (by omega)).1 (am_xor3 (by omega) (by omega) (by omega) (by omega)).2
    | refine And.intro (fun h => absurd h (by decide)) (fun _ => ?_)
    | refine And.intro (fun _ => ?_) (fun h => absurd (by decide) h)
    | refine And.intro (fun _ => ?_) (fun _ => ?_)
    | refine And.intro ?_ ?_
  all_goals (first | assumption | decide | omega | (intros; omega) | (intros; simp only [am_c] at * <;> omega) | (simp only [am_c, am_up] at * <;> omega) | (simp [am_c, am_up] at * <;> omega))
theorem m_cupParts {l : Launch} {μ : am_N} {Q : Option am_V → am_N → Prop} (r b : Int) (hS : mi μ) (hr0 : 0 ≤ r) (hr1 : r ≤ 3) (hb0 : 0 ≤ b) (hb1 : b ≤ 2) (k : ∀ r, Q (some (.inr (.inl r))) μ) : am_Does l 219 [.inr (.inr 83), .inl r, .inl b] μ Q := by
  refine am_Does_of (Nat.le_of_ble_eq_true rfl) (Nat.le_of_ble_eq_true rfl) (Nat.le_of_ble_eq_true rfl) ?_
  have hb := mi_all hS
  have lp12 : ∀ (m : Nat) (w u i : Int) , 0 ≤ w → w ≤ 3 → 0 ≤ i → i ≤ 4 → 4 - i < (m : Int) → am_AW l 0 (fun _ => 0) 219 Q 12 [some (.inr (.inr 83)), some (.inl r), some (.inl b), some (.inl w), some (.inr (.inl u)), none, some (.inl i)] [] μ := by
    intro m
    induction m with
    | zero =>
      intro w u i  hv0 hv1 hv2 hv3 hm
      exfalso
      omega
    | succ m ih =>
      intro w u i  hv0 hv1 hv2 hv3 hm
      refine am_go (ct := fun pc => Nat.beq pc 12) am_oX7_cupParts 300 ?_
      conv => whnf
      repeat' first
        | (refine (?_ : am_wp _ _ _ _ _ _ _ _ _ _ _ _); conv => whnf)
        | (refine (?_ : am_sw _ _ _ _); conv => whnf)
        | refine And.intro trivial ?_
        | exact trivial
        | assumption
        | exact k _
        | refine m_partner _ _ ?_ ?_ ?_ ?_ (fun _ _ _ => ?_)
        | refine m_aheadOf _ _ ?_ ?_ ?_ ?_ ?_ (fun _ => ?_)
        | refine ih _ _ _  ?_ ?_ ?_ ?_ ?_
        | refine And.intro (fun h => absurd h (by decide)) (fun _ => ?_)
        | refine And.intro (fun _ => ?_) (fun h => absurd (by decide) h)
        | refine And.intro (fun _ => ?_) (fun _ => ?_)
        | refine And.intro ?_ ?_
      all_goals (first | assumption | decide | omega | (intros; omega) | (intros; simp only [am_c] at * <;> omega) | (simp only [am_c, am_up] at * <;> omega) | (simp [am_c, am_up] at * <;> omega))
  have lp12' : ∀ (w u i : Int) , 0 ≤ w → w ≤ 3 → 0 ≤ i → i ≤ 4 → am_AW l 0 (fun _ => 0) 219 Q 12 [some (.inr (.inr 83)), some (.inl r), some (.inl b), some (.inl w), some (.inr (.inl u)), none, some (.inl i)] [] μ := fun w u i  hv0 hv1 hv2 hv3 => lp12 ((4 - i) + 1).toNat w u i  hv0 hv1 hv2 hv3 (by omega)
  refine am_go (ct := fun pc => Nat.beq pc 12) am_oX7_cupParts 300 ?_
  conv => whnf
  repeat' first
    | (refine (?_ : am_wp _ _ _ _ _ _ _ _ _ _ _ _); conv => whnf)
    | (refine (?_ : am_sw _ _ _ _); conv => whnf)
    | refine And.intro trivial ?_
    | exact trivial
    | assumption
    | exact k _
    | refine m_partner _ _ ?_ ?_ ?_ ?_ (fun _ _ _ => ?_)
    | refine m_aheadOf _ _ ?_ ?_ ?_ ?_ ?_ (fun _ => ?_)
    | refine lp12' _ _ _  ?_ ?_ ?_ ?_
    | refine And.intro (fun h => absurd h (by decide)) (fun _ => ?_)
    | refine And.intro (fun _ => ?_) (fun h => absurd (by decide) h)
    | refine And.intro (fun _ => ?_) (fun _ => ?_)
    | refine And.intro ?_ ?_
  all_goals (first | assumption | decide | omega | (intros; omega) | (intros; simp only [am_c] at * <;> omega) | (simp only [am_c, am_up] at * <;> omega) | (simp [am_c, am_up] at * <;> omega))
theorem m_leaguePoints {l : Launch} {μ : am_N} {Q : Option am_V → am_N → Prop} (r : Int) (hS : mi μ) (hr0 : 0 ≤ am_c r) (hr1 : am_c r < 4) (k : ∀ r : Int, Q (some (.inl r)) μ) : am_Does l 222 [.inr (.inr 83), .inl r] μ Q := by
  refine am_Does_of (Nat.le_of_ble_eq_true rfl) (Nat.le_of_ble_eq_true rfl) (Nat.le_of_ble_eq_true rfl) ?_
  have hb := mi_all hS
  have lp4 : ∀ (m : Nat) (a i : Int) , 0 ≤ i → i ≤ 4 → 4 - i < (m : Int) → am_AW l 0 (fun _ => 0) 222 Q 4 [some (.inr (.inr 83)), some (.inl r), some (.inl a), some (.inl i)] [] μ := by
    intro m
    induction m with
    | zero =>
      intro a i  hv0 hv1 hm
      exfalso
      omega
    | succ m ih =>
      intro a i  hv0 hv1 hm
      refine am_go (ct := fun pc => Nat.beq pc 4) am_oX7_leaguePoints 300 ?_
      conv => whnf
      repeat' first
        | (refine (?_ : am_wp _ _ _ _ _ _ _ _ _ _ _ _); conv => whnf)
        | (refine (?_ : am_sw _ _ _ _); conv => whnf)
        | refine And.intro trivial ?_
        | exact trivial
        | assumption
        | exact k _
        | refine m_aheadOf _ _ ?_ ?_ ?_ ?_ ?_ (fun _ => ?_)
        | refine ih _ _  ?_ ?_ ?_
        | refine And.intro (fun h => absurd h (by decide)) (fun _ => ?_)
        | refine And.intro (fun _ => ?_) (fun h => absurd (by decide) h)
        | refine And.intro (fun _ => ?_) (fun _ => ?_)
        | refine And.intro ?_ ?_
      all_goals (first | assumption | decide | omega | (intros; omega) | (intros; simp only [am_c] at * <;> omega) | (simp only [am_c, am_up] at * <;> omega) | (simp [am_c, am_up] at * <;> omega))
  have lp4' : ∀ (a i : Int) , 0 ≤ i → i ≤ 4 → am_AW l 0 (fun _ => 0) 222 Q 4 [some (.inr (.inr 83)), some (.inl r), some (.inl a), some (.inl i)] [] μ := fun a i  hv0 hv1 => lp4 ((4 - i) + 1).toNat a i  hv0 hv1 (by omega)
  refine am_go (ct := fun pc => Nat.beq pc 4) am_oX7_leaguePoints 300 ?_
  conv => whnf
  repeat' first
    | (refine (?_ : am_wp _ _ _ _ _ _ _ _ _ _ _ _); conv => whnf)
    | (refine (?_ : am_sw _ _ _ _); conv => whnf)
    | refine And.intro trivial ?_
    | exact trivial
    | assumption
    | exact k _
    | refine m_aheadOf _ _ ?_ ?_ ?_ ?_ ?_ (fun _ => ?_)
    | refine lp4' _ _  ?_ ?_
    | refine And.intro (fun h => absurd h (by decide)) (fun _ => ?_)
    | refine And.intro (fun _ => ?_) (fun h => absurd (by decide) h)
    | refine And.intro (fun _ => ?_) (fun _ => ?_)
    | refine And.intro ?_ ?_
  all_goals (first | assumption | decide | omega | (intros; omega) | (intros; simp only [am_c] at * <;> omega) | (simp only [am_c, am_up] at * <;> omega) | (simp [am_c, am_up] at * <;> omega))
theorem m_legsBy {l : Launch} {μ : am_N} {Q : Option am_V → am_N → Prop} (a b t : Int) (hS : mi μ) (ha0 : 0 ≤ am_c a) (ha1 : am_c a < 4) (hb0 : 0 ≤ am_c b) (hb1 : am_c b < 4) (k : ∀ r : Int, Q (some (.inl r)) μ) : am_Does l 227 [.inr (.inr 83), .inl a, .inl b, .inl t] μ Q := by
  refine am_Does_of (Nat.le_of_ble_eq_true rfl) (Nat.le_of_ble_eq_true rfl) (Nat.le_of_ble_eq_true rfl) ?_
  have hb := mi_all hS
  refine am_go (ct := fun _ => false) am_oX7_legsBy 300 ?_
  conv => whnf
  repeat' first
    | (refine (?_ : am_wp _ _ _ _ _ _ _ _ _ _ _ _); conv => whnf)
    | (refine (?_ : am_sw _ _ _ _); conv => whnf)
    | refine And.intro trivial ?_
    | exact trivial
    | assumption
    | exact k _
    | refine m_timeOver _ _ _ ?_ ?_ ?_ (fun _ => ?_)
    | refine And.intro (fun h => absurd h (by decide)) (fun _ => ?_)
    | refine And.intro (fun _ => ?_) (fun h => absurd (by decide) h)
    | refine And.intro (fun _ => ?_) (fun _ => ?_)
    | refine And.intro ?_ ?_
  all_goals (first | assumption | decide | omega | (intros; omega) | (intros; simp only [am_c] at * <;> omega) | (simp only [am_c, am_up] at * <;> omega) | (simp [am_c, am_up] at * <;> omega))
theorem m_areBets {l : Launch} {μ : am_N} {Q : Option am_V → am_N → Prop}  (hS : mi μ)  (k : ∀ r : Int, Q (some (.inl r)) μ) : am_Does l 229 [.inr (.inr 83)] μ Q := by
  refine am_Does_of (Nat.le_of_ble_eq_true rfl) (Nat.le_of_ble_eq_true rfl) (Nat.le_of_ble_eq_true rfl) ?_
  have hb := mi_all hS
  have lp2 : ∀ (m : Nat) (i : Int) , 0 ≤ i → i ≤ 12 → 12 - i < (m : Int) → am_AW l 0 (fun _ => 0) 229 Q 2 [some (.inr (.inr 83)), some (.inl i)] [] μ := by
    intro m
    induction m with
    | zero =>
      intro i  hv0 hv1 hm
      exfalso
      omega
    | succ m ih =>
      intro i  hv0 hv1 hm
      refine am_go (ct := fun pc => Nat.beq pc 2) am_oX7_areBets 300 ?_
      conv => whnf
      repeat' first
        | (refine (?_ : am_wp _ _ _ _ _ _ _ _ _ _ _ _); conv => whnf)
        | (refine (?_ : am_sw _ _ _ _); conv => whnf)
        | refine And.intro trivial ?_
        | exact trivial
        | assumption
        | exact k _
        | refine m_isIn _ _ _ (fun _ _ => ?_) (fun _ => ?_)
        | refine ih _  ?_ ?_ ?_
        | refine And.intro (fun h => absurd h (by decide)) (fun _ => ?_)
        | refine And.intro (fun _ => ?_) (fun h => absurd (by decide) h)
        | refine And.intro (fun _ => ?_) (fun _ => ?_)
        | refine And.intro ?_ ?_
      all_goals (first | assumption | decide | omega | (intros; omega) | (intros; simp only [am_c] at * <;> omega) | (simp only [am_c, am_up] at * <;> omega) | (simp [am_c, am_up] at * <;> omega))
  have lp2' : ∀ (i : Int) , 0 ≤ i → i ≤ 12 → am_AW l 0 (fun _ => 0) 229 Q 2 [some (.inr (.inr 83)), some (.inl i)] [] μ := fun i  hv0 hv1 => lp2 ((12 - i) + 1).toNat i  hv0 hv1 (by omega)
  refine am_go (ct := fun pc => Nat.beq pc 2) am_oX7_areBets 300 ?_
  conv => whnf
  repeat' first
    | (refine (?_ : am_wp _ _ _ _ _ _ _ _ _ _ _ _); conv => whnf)
    | (refine (?_ : am_sw _ _ _ _); conv => whnf)
    | refine And.intro trivial ?_
    | exact trivial
    | assumption
    | exact k _
    | refine m_isIn _ _ _ (fun _ _ => ?_) (fun _ => ?_)
    | refine lp2' _  ?_ ?_
    | refine And.intro (fun h => absurd h (by decide)) (fun _ => ?_)
    | refine And.intro (fun _ => ?_) (fun h => absurd (by decide) h)
    | refine And.intro (fun _ => ?_) (fun _ => ?_)
    | refine And.intro ?_ ?_
  all_goals (first | assumption | decide | omega | (intros; omega) | (intros; simp only [am_c] at * <;> omega) | (simp only [am_c, am_up] at * <;> omega) | (simp [am_c, am_up] at * <;> omega))
theorem m_isWhom {l : Launch} {μ : am_N} {Q : Option am_V → am_N → Prop} (r w : Int) (hS : mi μ) (h1 : 1 ≤ μ 83 14) (k : ∀ r : Int, Q (some (.inl r)) μ) : am_Does l 235 [.inr (.inr 83), .inl r, .inl w] μ Q := by
  refine am_Does_of (Nat.le_of_ble_eq_true rfl) (Nat.le_of_ble_eq_true rfl) (Nat.le_of_ble_eq_true rfl) ?_
  have hb := mi_all hS
  refine am_go (ct := fun _ => false) am_oX7_isWhom 300 ?_
  conv => whnf
  repeat' first
    | (refine (?_ : am_wp _ _ _ _ _ _ _ _ _ _ _ _); conv => whnf)
    | (refine (?_ : am_sw _ _ _ _); conv => whnf)
    | refine And.intro trivial ?_
    | exact trivial
    | assumption
    | exact k _
    | refine And.intro (fun h => absurd h (by decide)) (fun _ => ?_)
    | refine And.intro (fun _ => ?_) (fun h => absurd (by decide) h)
    | refine And.intro (fun _ => ?_) (fun _ => ?_)
    | refine And.intro ?_ ?_
  all_goals (first | assumption | decide | omega | (intros; omega) | (intros; simp only [am_c] at * <;> omega) | (simp only [am_c, am_up] at * <;> omega) | (simp [am_c, am_up] at * <;> omega))
