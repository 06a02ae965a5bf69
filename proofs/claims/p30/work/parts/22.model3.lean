/-! more of what stays: single numbers with bounds, subsets of cells -/
theorem gm_sub {A B : Nat → Nat → Bool} {ν μ : am_N} (h : gm B ν μ) (hs : ∀ k j, A k j = false → B k j = false) : gm A ν μ := ⟨h.1, fun k j hk => h.2 k j (hs k j hk)⟩
theorem am_upE {μ : am_N} {k j a b : Nat} {v : Int} (h : ¬ (a = k ∧ b = j)) : am_up μ k j v a b = μ a b := if_neg h
def mo1 (A : Nat → Nat → Bool) (a b : Nat) : Nat → Nat → Bool := fun k j => A k j || (Nat.beq k a && Nat.beq j b)
theorem mo1_self {A : Nat → Nat → Bool} {a b : Nat} : mo1 A a b a b = true := by simp [mo1]
theorem mo1_sub {A : Nat → Nat → Bool} {a b : Nat} : ∀ k j, mo1 A a b k j = false → A k j = false := fun _ _ h => (Bool.or_eq_false_iff.mp h).1
theorem mo1_one {A B : Nat → Nat → Bool} {a b : Nat} (hs : ∀ k j, A k j = false → B k j = false) : ∀ k j, mo1 A a b k j = false → B k j = false := fun k j h => hs k j (Bool.or_eq_false_iff.mp h).1
theorem mo1_grow {A : Nat → Nat → Bool} {a b c d : Nat} : ∀ k j, mo1 (mo1 A a b) c d k j = false → mo1 A a b k j = false := mo1_sub
/-- what was changed for a while is put back -/
theorem gm_put {A : Nat → Nat → Bool} {ν μ : am_N} {k j : Nat} {v : Int} (h : gm (mo1 A k j) ν μ) (hv : v = ν k j) (hk : mi_b k j = false) : gm A ν (am_up μ k j v) := ⟨mi_up h.1 hk, fun a b q => by
  by_cases e : a = k ∧ b = j
  · rw [am_upS, if_pos e, hv, e.1, e.2]
  · rw [am_upE e]
    refine h.2 a b ?_
    simp only [mo1, q, Bool.false_or]
    cases h1 : Nat.beq a k with
    | false => rfl
    | true =>
      cases h2 : Nat.beq b j with
      | false => rfl
      | true => exact absurd ⟨Nat.eq_of_beq_eq_true h1, Nat.eq_of_beq_eq_true h2⟩ e⟩
theorem mi_14 {μ : am_N} {v : Int} (h : mi μ) (h0 : 0 ≤ v) (h1 : v ≤ 4) : mi (am_up μ 83 14 v) := by
  have e : ∀ a b, (a ≠ 83 ∨ b ≠ 14) → am_up μ 83 14 v a b = μ a b := fun a b q => am_upE (fun z => q.elim (fun w => w z.1) (fun w => w z.2))
  have f : am_up μ 83 14 v 83 14 = v := if_pos ⟨rfl, rfl⟩
  unfold mi at h ⊢
  rw [f, e 83 15 (Or.inr (by decide)), e 83 16 (Or.inr (by decide)), e 83 21 (Or.inr (by decide)), e 83 33 (Or.inr (by decide)), e 83 40 (Or.inr (by decide)), e 83 42 (Or.inr (by decide)), e 98 44 (Or.inl (by decide)), e 98 38 (Or.inl (by decide)), e 98 39 (Or.inl (by decide))]
  have g : sx_3 (am_up μ 83 14 v) 100 := fun p hp => by
    rw [e 100 p (Or.inl (by decide))]
    exact h.2.2.2.2.2.2.2.2.2.2 p hp
  refine ⟨?_, ?_, ?_, ?_, ?_, ?_, ?_, h.2.2.2.2.2.2.2.1, h.2.2.2.2.2.2.2.2.1, h.2.2.2.2.2.2.2.2.2.1, g⟩ <;> first | exact ⟨h0, h1⟩ | exact h.1 | exact h.2.1 | exact h.2.2.1 | exact h.2.2.2.1 | exact h.2.2.2.2.1 | exact h.2.2.2.2.2.1 | exact h.2.2.2.2.2.2.1
theorem gm_14 {A : Nat → Nat → Bool} {ν μ : am_N} {v : Int} (h : gm A ν μ) (hA : A 83 14 = true) (h0 : 0 ≤ v) (h1 : v ≤ 4) : gm A ν (am_up μ 83 14 v) := ⟨mi_14 h.1 h0 h1, fun a b q => by
  rw [am_upE (fun z => by rw [z.1, z.2, hA] at q; cases q)]
  exact h.2 a b q⟩
theorem mi_15 {μ : am_N} {v : Int} (h : mi μ) (h0 : 0 ≤ v) (h1 : v ≤ 6) : mi (am_up μ 83 15 v) := by
  have e : ∀ a b, (a ≠ 83 ∨ b ≠ 15) → am_up μ 83 15 v a b = μ a b := fun a b q => am_upE (fun z => q.elim (fun w => w z.1) (fun w => w z.2))
  have f : am_up μ 83 15 v 83 15 = v := if_pos ⟨rfl, rfl⟩
  unfold mi at h ⊢
  rw [e 83 14 (Or.inr (by decide)), f, e 83 16 (Or.inr (by decide)), e 83 21 (Or.inr (by decide)), e 83 33 (Or.inr (by decide)), e 83 40 (Or.inr (by decide)), e 83 42 (Or.inr (by decide)), e 98 44 (Or.inl (by decide)), e 98 38 (Or.inl (by decide)), e 98 39 (Or.inl (by decide))]
  have g : sx_3 (am_up μ 83 15 v) 100 := fun p hp => by
    rw [e 100 p (Or.inl (by decide))]
    exact h.2.2.2.2.2.2.2.2.2.2 p hp
  refine ⟨?_, ?_, ?_, ?_, ?_, ?_, ?_, h.2.2.2.2.2.2.2.1, h.2.2.2.2.2.2.2.2.1, h.2.2.2.2.2.2.2.2.2.1, g⟩ <;> first | exact ⟨h0, h1⟩ | exact h.1 | exact h.2.1 | exact h.2.2.1 | exact h.2.2.2.1 | exact h.2.2.2.2.1 | exact h.2.2.2.2.2.1 | exact h.2.2.2.2.2.2.1
theorem gm_15 {A : Nat → Nat → Bool} {ν μ : am_N} {v : Int} (h : gm A ν μ) (hA : A 83 15 = true) (h0 : 0 ≤ v) (h1 : v ≤ 6) : gm A ν (am_up μ 83 15 v) := ⟨mi_15 h.1 h0 h1, fun a b q => by
  rw [am_upE (fun z => by rw [z.1, z.2, hA] at q; cases q)]
  exact h.2 a b q⟩
theorem mi_16 {μ : am_N} {v : Int} (h : mi μ) (h0 : 0 ≤ v) (h1 : v ≤ 4) : mi (am_up μ 83 16 v) := by
  have e : ∀ a b, (a ≠ 83 ∨ b ≠ 16) → am_up μ 83 16 v a b = μ a b := fun a b q => am_upE (fun z => q.elim (fun w => w z.1) (fun w => w z.2))
  have f : am_up μ 83 16 v 83 16 = v := if_pos ⟨rfl, rfl⟩
  unfold mi at h ⊢
  rw [e 83 14 (Or.inr (by decide)), e 83 15 (Or.inr (by decide)), f, e 83 21 (Or.inr (by decide)), e 83 33 (Or.inr (by decide)), e 83 40 (Or.inr (by decide)), e 83 42 (Or.inr (by decide)), e 98 44 (Or.inl (by decide)), e 98 38 (Or.inl (by decide)), e 98 39 (Or.inl (by decide))]
  have g : sx_3 (am_up μ 83 16 v) 100 := fun p hp => by
    rw [e 100 p (Or.inl (by decide))]
    exact h.2.2.2.2.2.2.2.2.2.2 p hp
  refine ⟨?_, ?_, ?_, ?_, ?_, ?_, ?_, h.2.2.2.2.2.2.2.1, h.2.2.2.2.2.2.2.2.1, h.2.2.2.2.2.2.2.2.2.1, g⟩ <;> first | exact ⟨h0, h1⟩ | exact h.1 | exact h.2.1 | exact h.2.2.1 | exact h.2.2.2.1 | exact h.2.2.2.2.1 | exact h.2.2.2.2.2.1 | exact h.2.2.2.2.2.2.1
theorem gm_16 {A : Nat → Nat → Bool} {ν μ : am_N} {v : Int} (h : gm A ν μ) (hA : A 83 16 = true) (h0 : 0 ≤ v) (h1 : v ≤ 4) : gm A ν (am_up μ 83 16 v) := ⟨mi_16 h.1 h0 h1, fun a b q => by
  rw [am_upE (fun z => by rw [z.1, z.2, hA] at q; cases q)]
  exact h.2 a b q⟩
theorem mi_21 {μ : am_N} {v : Int} (h : mi μ) (h0 : 0 ≤ v) (h1 : v ≤ 96) : mi (am_up μ 83 21 v) := by
  have e : ∀ a b, (a ≠ 83 ∨ b ≠ 21) → am_up μ 83 21 v a b = μ a b := fun a b q => am_upE (fun z => q.elim (fun w => w z.1) (fun w => w z.2))
  have f : am_up μ 83 21 v 83 21 = v := if_pos ⟨rfl, rfl⟩
  unfold mi at h ⊢
  rw [e 83 14 (Or.inr (by decide)), e 83 15 (Or.inr (by decide)), e 83 16 (Or.inr (by decide)), f, e 83 33 (Or.inr (by decide)), e 83 40 (Or.inr (by decide)), e 83 42 (Or.inr (by decide)), e 98 44 (Or.inl (by decide)), e 98 38 (Or.inl (by decide)), e 98 39 (Or.inl (by decide))]
  have g : sx_3 (am_up μ 83 21 v) 100 := fun p hp => by
    rw [e 100 p (Or.inl (by decide))]
    exact h.2.2.2.2.2.2.2.2.2.2 p hp
  refine ⟨?_, ?_, ?_, ?_, ?_, ?_, ?_, h.2.2.2.2.2.2.2.1, h.2.2.2.2.2.2.2.2.1, h.2.2.2.2.2.2.2.2.2.1, g⟩ <;> first | exact ⟨h0, h1⟩ | exact h.1 | exact h.2.1 | exact h.2.2.1 | exact h.2.2.2.1 | exact h.2.2.2.2.1 | exact h.2.2.2.2.2.1 | exact h.2.2.2.2.2.2.1
theorem gm_21 {A : Nat → Nat → Bool} {ν μ : am_N} {v : Int} (h : gm A ν μ) (hA : A 83 21 = true) (h0 : 0 ≤ v) (h1 : v ≤ 96) : gm A ν (am_up μ 83 21 v) := ⟨mi_21 h.1 h0 h1, fun a b q => by
  rw [am_upE (fun z => by rw [z.1, z.2, hA] at q; cases q)]
  exact h.2 a b q⟩
theorem mi_33 {μ : am_N} {v : Int} (h : mi μ) (h0 : 0 ≤ v) (h1 : v ≤ 6) : mi (am_up μ 83 33 v) := by
  have e : ∀ a b, (a ≠ 83 ∨ b ≠ 33) → am_up μ 83 33 v a b = μ a b := fun a b q => am_upE (fun z => q.elim (fun w => w z.1) (fun w => w z.2))
  have f : am_up μ 83 33 v 83 33 = v := if_pos ⟨rfl, rfl⟩
  unfold mi at h ⊢
  rw [e 83 14 (Or.inr (by decide)), e 83 15 (Or.inr (by decide)), e 83 16 (Or.inr (by decide)), e 83 21 (Or.inr (by decide)), f, e 83 40 (Or.inr (by decide)), e 83 42 (Or.inr (by decide)), e 98 44 (Or.inl (by decide)), e 98 38 (Or.inl (by decide)), e 98 39 (Or.inl (by decide))]
  have g : sx_3 (am_up μ 83 33 v) 100 := fun p hp => by
    rw [e 100 p (Or.inl (by decide))]
    exact h.2.2.2.2.2.2.2.2.2.2 p hp
  refine ⟨?_, ?_, ?_, ?_, ?_, ?_, ?_, h.2.2.2.2.2.2.2.1, h.2.2.2.2.2.2.2.2.1, h.2.2.2.2.2.2.2.2.2.1, g⟩ <;> first | exact ⟨h0, h1⟩ | exact h.1 | exact h.2.1 | exact h.2.2.1 | exact h.2.2.2.1 | exact h.2.2.2.2.1 | exact h.2.2.2.2.2.1 | exact h.2.2.2.2.2.2.1
theorem gm_33 {A : Nat → Nat → Bool} {ν μ : am_N} {v : Int} (h : gm A ν μ) (hA : A 83 33 = true) (h0 : 0 ≤ v) (h1 : v ≤ 6) : gm A ν (am_up μ 83 33 v) := ⟨mi_33 h.1 h0 h1, fun a b q => by
  rw [am_upE (fun z => by rw [z.1, z.2, hA] at q; cases q)]
  exact h.2 a b q⟩
theorem mi_40 {μ : am_N} {v : Int} (h : mi μ) (h0 : 0 ≤ v) (h1 : v ≤ 6) : mi (am_up μ 83 40 v) := by
  have e : ∀ a b, (a ≠ 83 ∨ b ≠ 40) → am_up μ 83 40 v a b = μ a b := fun a b q => am_upE (fun z => q.elim (fun w => w z.1) (fun w => w z.2))
  have f : am_up μ 83 40 v 83 40 = v := if_pos ⟨rfl, rfl⟩
  unfold mi at h ⊢
  rw [e 83 14 (Or.inr (by decide)), e 83 15 (Or.inr (by decide)), e 83 16 (Or.inr (by decide)), e 83 21 (Or.inr (by decide)), e 83 33 (Or.inr (by decide)), f, e 83 42 (Or.inr (by decide)), e 98 44 (Or.inl (by decide)), e 98 38 (Or.inl (by decide)), e 98 39 (Or.inl (by decide))]
  have g : sx_3 (am_up μ 83 40 v) 100 := fun p hp => by
    rw [e 100 p (Or.inl (by decide))]
    exact h.2.2.2.2.2.2.2.2.2.2 p hp
  refine ⟨?_, ?_, ?_, ?_, ?_, ?_, ?_, h.2.2.2.2.2.2.2.1, h.2.2.2.2.2.2.2.2.1, h.2.2.2.2.2.2.2.2.2.1, g⟩ <;> first | exact ⟨h0, h1⟩ | exact h.1 | exact h.2.1 | exact h.2.2.1 | exact h.2.2.2.1 | exact h.2.2.2.2.1 | exact h.2.2.2.2.2.1 | exact h.2.2.2.2.2.2.1
theorem gm_40 {A : Nat → Nat → Bool} {ν μ : am_N} {v : Int} (h : gm A ν μ) (hA : A 83 40 = true) (h0 : 0 ≤ v) (h1 : v ≤ 6) : gm A ν (am_up μ 83 40 v) := ⟨mi_40 h.1 h0 h1, fun a b q => by
  rw [am_upE (fun z => by rw [z.1, z.2, hA] at q; cases q)]
  exact h.2 a b q⟩
theorem mi_42 {μ : am_N} {v : Int} (h : mi μ) (h0 : 0 ≤ v) (h1 : v ≤ 12) : mi (am_up μ 83 42 v) := by
  have e : ∀ a b, (a ≠ 83 ∨ b ≠ 42) → am_up μ 83 42 v a b = μ a b := fun a b q => am_upE (fun z => q.elim (fun w => w z.1) (fun w => w z.2))
  have f : am_up μ 83 42 v 83 42 = v := if_pos ⟨rfl, rfl⟩
  unfold mi at h ⊢
  rw [e 83 14 (Or.inr (by decide)), e 83 15 (Or.inr (by decide)), e 83 16 (Or.inr (by decide)), e 83 21 (Or.inr (by decide)), e 83 33 (Or.inr (by decide)), e 83 40 (Or.inr (by decide)), f, e 98 44 (Or.inl (by decide)), e 98 38 (Or.inl (by decide)), e 98 39 (Or.inl (by decide))]
  have g : sx_3 (am_up μ 83 42 v) 100 := fun p hp => by
    rw [e 100 p (Or.inl (by decide))]
    exact h.2.2.2.2.2.2.2.2.2.2 p hp
  refine ⟨?_, ?_, ?_, ?_, ?_, ?_, ?_, h.2.2.2.2.2.2.2.1, h.2.2.2.2.2.2.2.2.1, h.2.2.2.2.2.2.2.2.2.1, g⟩ <;> first | exact ⟨h0, h1⟩ | exact h.1 | exact h.2.1 | exact h.2.2.1 | exact h.2.2.2.1 | exact h.2.2.2.2.1 | exact h.2.2.2.2.2.1 | exact h.2.2.2.2.2.2.1
theorem gm_42 {A : Nat → Nat → Bool} {ν μ : am_N} {v : Int} (h : gm A ν μ) (hA : A 83 42 = true) (h0 : 0 ≤ v) (h1 : v ≤ 12) : gm A ν (am_up μ 83 42 v) := ⟨mi_42 h.1 h0 h1, fun a b q => by
  rw [am_upE (fun z => by rw [z.1, z.2, hA] at q; cases q)]
  exact h.2 a b q⟩
/-- what a LANE changes -/
def mL1 (k j : Nat) : Bool := (Nat.ble 85 k && Nat.ble k 88) || (Nat.beq k 83 && (Nat.beq j 10 || (Nat.beq j 12 || (Nat.beq j 13 || Nat.beq j 14))))
abbrev mL : Nat → Nat → Bool := mo mAR mL1
/-! contracts: the model reads its script (weak) -/
theorem m_readsNumber {l : Launch} {μ : am_N} {Q : Option am_V → am_N → Prop} {ν : am_N} (d a b : Int) (hS : gm ms ν μ) (hd0 : 0 ≤ d) (hd1 : d ≤ 239) (ha0 : 0 ≤ ν 83 22) (ha1 : ν 83 22 ≤ ν 83 21) (e0 : μ 83 22 = ν 83 22) (e3 : μ 83 23 = ν 83 23) (hb0 : 0 ≤ b) (hb1 : b ≤ 3) (k : ∀ (r : Int) (μ' : am_N), gm ms ν μ' → ν 83 22 ≤ μ' 83 22 → μ' 83 22 ≤ μ' 83 21 → μ' 83 21 = ν 83 21 → μ' 83 23 = ν 83 23 → (r = 0 ∨ r = 1) → Q (some (.inl r)) μ') : am_Does l 150 [.inr (.inr 83), .inl d, .inl a, .inl b] μ Q := by
  refine am_Does_of (Nat.le_of_ble_eq_true rfl) (Nat.le_of_ble_eq_true rfl) (Nat.le_of_ble_eq_true rfl) ?_
  have hb := mi_all hS.1
  have e21 : μ 83 21 = ν 83 21 := hS.2 83 21 rfl
  have lp6 : ∀ (m : Nat) (n i : Int) (μ : am_N) , gm ms ν μ → 0 ≤ i → i ≤ b → ν 83 22 ≤ μ 83 22 → μ 83 22 ≤ ν 83 21 → μ 83 23 = ν 83 23 → b - i < (m : Int) → am_AW l 0 (fun _ => 0) 150 Q 6 [some (.inr (.inr 83)), some (.inl d), some (.inl a), some (.inl b), some (.inl n), some (.inl i)] [] μ := by
    intro m
    induction m with
    | zero =>
      intro n i μ hv0 hv1 hv2 hv3 hv4 hv5 hm
      have hb := mi_all hv0.1
      exfalso
      omega
    | succ m ih =>
      intro n i μ hv0 hv1 hv2 hv3 hv4 hv5 hm
      have hb := mi_all hv0.1
      have e21 : μ 83 21 = ν 83 21 := hv0.2 83 21 rfl
      refine am_go (ct := fun pc => Nat.beq pc 6) am_oX7_readsNumber 300 ?_
      conv => whnf
      repeat' first
        | (refine (?_ : am_wp _ _ _ _ _ _ _ _ _ _ _ _); conv => whnf)
        | (refine (?_ : am_sw _ _ _ _); conv => whnf)
        | refine And.intro trivial ?_
        | exact trivial
        | assumption
        | refine k _ _ ?_ ?_ ?_ ?_ ?_ ?_
        | refine m_next  ?_ ?_ ?_ (fun _ _ => ?_)
        | refine m_isIn _ _ _ (fun _ _ => ?_) (fun _ => ?_)
        | refine gm_up ?_ rfl rfl
        | refine gm_100 ?_ rfl ?_ ?_
        | refine gm_tr ?_ (by assumption) ?_
        | exact gm_i (by assumption)
        | refine mi_up ?_ rfl
        | exact fun _ _ h => h
        | exact fun _ _ h => (Bool.or_eq_false_iff.mp h).1
        | refine gm_14 ?_ rfl ?_ ?_
        | exact fun _ _ h => (Bool.or_eq_false_iff.mp (Bool.or_eq_false_iff.mp h).1).1
        | refine ih _ _ _ ?_ ?_ ?_ ?_ ?_ ?_ ?_
        | refine And.intro (fun h => absurd h (by decide)) (fun _ => ?_)
        | refine And.intro (fun _ => ?_) (fun h => absurd (by decide) h)
        | refine And.intro (fun _ => ?_) (fun _ => ?_)
        | refine And.intro ?_ ?_
      all_goals (first | assumption | decide | omega | (intros; omega) | (intros; simp only [am_c] at * <;> omega) | (simp only [am_c, am_up] at * <;> omega) | (simp [am_c, am_up] at * <;> omega))
  have lp6' : ∀ (n i : Int) (μ : am_N) , gm ms ν μ → 0 ≤ i → i ≤ b → ν 83 22 ≤ μ 83 22 → μ 83 22 ≤ ν 83 21 → μ 83 23 = ν 83 23 → am_AW l 0 (fun _ => 0) 150 Q 6 [some (.inr (.inr 83)), some (.inl d), some (.inl a), some (.inl b), some (.inl n), some (.inl i)] [] μ := fun n i μ hv0 hv1 hv2 hv3 hv4 hv5 => lp6 ((b - i) + 1).toNat n i μ hv0 hv1 hv2 hv3 hv4 hv5 (by omega)
  refine am_go (ct := fun pc => Nat.beq pc 6) am_oX7_readsNumber 300 ?_
  conv => whnf
  repeat' first
    | (refine (?_ : am_wp _ _ _ _ _ _ _ _ _ _ _ _); conv => whnf)
    | (refine (?_ : am_sw _ _ _ _); conv => whnf)
    | refine And.intro trivial ?_
    | exact trivial
    | assumption
    | refine k _ _ ?_ ?_ ?_ ?_ ?_ ?_
    | refine m_next  ?_ ?_ ?_ (fun _ _ => ?_)
    | refine m_isIn _ _ _ (fun _ _ => ?_) (fun _ => ?_)
    | refine gm_up ?_ rfl rfl
    | refine gm_100 ?_ rfl ?_ ?_
    | refine gm_tr ?_ (by assumption) ?_
    | exact gm_i (by assumption)
    | refine mi_up ?_ rfl
    | exact fun _ _ h => h
    | exact fun _ _ h => (Bool.or_eq_false_iff.mp h).1
    | refine gm_14 ?_ rfl ?_ ?_
    | exact fun _ _ h => (Bool.or_eq_false_iff.mp (Bool.or_eq_false_iff.mp h).1).1
    | refine lp6' _ _ _ ?_ ?_ ?_ ?_ ?_ ?_
    | refine And.intro (fun h => absurd h (by decide)) (fun _ => ?_)
    | refine And.intro (fun _ => ?_) (fun h => absurd (by decide) h)
    | refine And.intro (fun _ => ?_) (fun _ => ?_)
    | refine And.intro ?_ ?_
  all_goals (first | assumption | decide | omega | (intros; omega) | (intros; simp only [am_c] at * <;> omega) | (simp only [am_c, am_up] at * <;> omega) | (simp [am_c, am_up] at * <;> omega))
theorem m_readsRunner {l : Launch} {μ : am_N} {Q : Option am_V → am_N → Prop} {ν : am_N} (d : Int) (hS : gm ms ν μ) (hd0 : 0 ≤ d) (hd1 : d ≤ 235) (ha0 : 0 ≤ ν 83 22) (ha1 : ν 83 22 ≤ ν 83 21) (e0 : μ 83 22 = ν 83 22) (e3 : μ 83 23 = ν 83 23) (k : ∀ (r : Int) (μ' : am_N), gm ms ν μ' → ν 83 22 ≤ μ' 83 22 → μ' 83 22 ≤ μ' 83 21 → μ' 83 21 = ν 83 21 → μ' 83 23 = ν 83 23 → (r = 0 ∨ r = 1) → Q (some (.inl r)) μ') : am_Does l 151 [.inr (.inr 83), .inl d] μ Q := by
  refine am_Does_of (Nat.le_of_ble_eq_true rfl) (Nat.le_of_ble_eq_true rfl) (Nat.le_of_ble_eq_true rfl) ?_
  have hb := mi_all hS.1
  have e21 : μ 83 21 = ν 83 21 := hS.2 83 21 rfl
  refine am_go (ct := fun _ => false) am_oX7_readsRunner 300 ?_
  conv => whnf
  repeat' first
    | (refine (?_ : am_wp _ _ _ _ _ _ _ _ _ _ _ _); conv => whnf)
    | (refine (?_ : am_sw _ _ _ _); conv => whnf)
    | refine And.intro trivial ?_
    | exact trivial
    | assumption
    | refine k _ _ ?_ ?_ ?_ ?_ ?_ ?_
    | refine m_readsNumber _ _ _ (gm_rf (by repeat' first | assumption | exact gm_i (by assumption) | refine mi_up ?_ rfl | refine mi_100 ?_ ?_ ?_ | (simp only [am_c] at * <;> omega))) ?_ ?_ ?_ ?_ ?_ ?_ ?_ ?_ (fun _ _ _ _ _ _ _ _ => ?_)
    | refine gm_up ?_ rfl rfl
    | refine gm_100 ?_ rfl ?_ ?_
    | refine gm_tr ?_ (by assumption) ?_
    | exact gm_i (by assumption)
    | refine mi_up ?_ rfl
    | exact fun _ _ h => h
    | exact fun _ _ h => (Bool.or_eq_false_iff.mp h).1
    | refine gm_14 ?_ rfl ?_ ?_
    | exact fun _ _ h => (Bool.or_eq_false_iff.mp (Bool.or_eq_false_iff.mp h).1).1
    | refine And.intro (fun h => absurd h (by decide)) (fun _ => ?_)
    | refine And.intro (fun _ => ?_) (fun h => absurd (by decide) h)
    | refine And.intro (fun _ => ?_) (fun _ => ?_)
    | refine And.intro ?_ ?_
  all_goals (first | assumption | decide | omega | (intros; omega) | (intros; simp only [am_c] at * <;> omega) | (simp only [am_c, am_up] at * <;> omega) | (simp [am_c, am_up] at * <;> omega))
theorem m_readsAll {l : Launch} {μ : am_N} {Q : Option am_V → am_N → Prop} {ν : am_N} (c d : Int) (hS : gm ms ν μ) (hd0 : 0 ≤ d) (hd1 : d ≤ 235) (ha0 : 0 ≤ ν 83 22) (ha1 : ν 83 22 ≤ ν 83 21) (e0 : μ 83 22 = ν 83 22) (e3 : μ 83 23 = ν 83 23) (k : ∀ (r : Int) (μ' : am_N), gm ms ν μ' → ν 83 22 ≤ μ' 83 22 → μ' 83 22 ≤ μ' 83 21 → μ' 83 21 = ν 83 21 → μ' 83 23 = ν 83 23 → (r = 0 ∨ r = 1) → Q (some (.inl r)) μ') : am_Does l 152 [.inr (.inr 83), .inl c, .inl d] μ Q := by
  refine am_Does_of (Nat.le_of_ble_eq_true rfl) (Nat.le_of_ble_eq_true rfl) (Nat.le_of_ble_eq_true rfl) ?_
  have hb := mi_all hS.1
  have e21 : μ 83 21 = ν 83 21 := hS.2 83 21 rfl
  refine am_go (ct := fun _ => false) am_oX7_readsAll 300 ?_
  conv => whnf
  repeat' first
    | (refine (?_ : am_wp _ _ _ _ _ _ _ _ _ _ _ _); conv => whnf)
    | (refine (?_ : am_sw _ _ _ _); conv => whnf)
    | refine And.intro trivial ?_
    | exact trivial
    | assumption
    | refine k _ _ ?_ ?_ ?_ ?_ ?_ ?_
    | refine m_readsNumber _ _ _ (gm_rf (by repeat' first | assumption | exact gm_i (by assumption) | refine mi_up ?_ rfl | refine mi_100 ?_ ?_ ?_ | (simp only [am_c] at * <;> omega))) ?_ ?_ ?_ ?_ ?_ ?_ ?_ ?_ (fun _ _ _ _ _ _ _ _ => ?_)
    | refine m_readsRunner _ (gm_rf (by repeat' first | assumption | exact gm_i (by assumption) | refine mi_up ?_ rfl | refine mi_100 ?_ ?_ ?_ | (simp only [am_c] at * <;> omega))) ?_ ?_ ?_ ?_ ?_ ?_ (fun _ _ _ _ _ _ _ _ => ?_)
    | refine gm_up ?_ rfl rfl
    | refine gm_100 ?_ rfl ?_ ?_
    | refine gm_tr ?_ (by assumption) ?_
    | exact gm_i (by assumption)
    | refine mi_up ?_ rfl
    | exact fun _ _ h => h
    | exact fun _ _ h => (Bool.or_eq_false_iff.mp h).1
    | refine gm_14 ?_ rfl ?_ ?_
    | exact fun _ _ h => (Bool.or_eq_false_iff.mp (Bool.or_eq_false_iff.mp h).1).1
    | refine And.intro (fun h => absurd h (by decide)) (fun _ => ?_)
    | refine And.intro (fun _ => ?_) (fun h => absurd (by decide) h)
    | refine And.intro (fun _ => ?_) (fun _ => ?_)
    | refine And.intro ?_ ?_
  all_goals (first | assumption | decide | omega | (intros; omega) | (intros; simp only [am_c] at * <;> omega) | (simp only [am_c, am_up] at * <;> omega) | (simp [am_c, am_up] at * <;> omega))
theorem m_statement {l : Launch} {μ : am_N} {Q : Option am_V → am_N → Prop} {ν : am_N}  (hS : gm ms ν μ) (ha0 : 0 ≤ ν 83 22) (ha1 : ν 83 22 ≤ ν 83 21) (e0 : μ 83 22 = ν 83 22) (e3 : μ 83 23 = ν 83 23) (hc0 : 0 ≤ ν 83 23) (hc1 : 2 * ν 83 23 ≤ ν 83 22) (k : ∀ (r : Int) (μ' : am_N), gm ms ν μ' → ν 83 22 ≤ μ' 83 22 → μ' 83 22 ≤ μ' 83 21 → μ' 83 21 = ν 83 21 → μ' 83 23 = ν 83 23 → (r = 0 ∨ r = 1) → (r = 1 → ν 83 22 + 2 ≤ μ' 83 22) → Q (some (.inl r)) μ') : am_Does l 153 [.inr (.inr 83)] μ Q := by
  refine am_Does_of (Nat.le_of_ble_eq_true rfl) (Nat.le_of_ble_eq_true rfl) (Nat.le_of_ble_eq_true rfl) ?_
  have hb := mi_all hS.1
  have e21 : μ 83 21 = ν 83 21 := hS.2 83 21 rfl
  have lp37 : ∀ (b : Int), μ 83 22 < μ 83 21 → am_AW l 0 (fun _ => 0) 153 Q 37 [some (.inr (.inr 83)), some (.inl b)] [] μ := by
    intro b  hv0
    refine am_go (ct := fun pc => Nat.beq pc 37) am_oX7_statement 300 ?_
    conv => whnf
    repeat' first
      | (refine (?_ : am_wp _ _ _ _ _ _ _ _ _ _ _ _); conv => whnf)
      | (refine (?_ : am_sw _ _ _ _); conv => whnf)
      | refine And.intro trivial ?_
      | exact trivial
      | assumption
      | refine k _ _ ?_ ?_ ?_ ?_ ?_ ?_ ?_
      | refine m_next  ?_ ?_ ?_ (fun _ _ => ?_)
      | refine m_readsAll _ _ (gm_rf (by repeat' first | assumption | exact gm_i (by assumption) | refine mi_up ?_ rfl | refine mi_100 ?_ ?_ ?_ | (simp only [am_c] at * <;> omega))) ?_ ?_ ?_ ?_ ?_ ?_ (fun _ _ _ _ _ _ _ _ => ?_)
      | refine gm_up ?_ rfl rfl
      | refine gm_100 ?_ rfl ?_ ?_
      | refine gm_tr ?_ (by assumption) ?_
      | exact gm_i (by assumption)
      | refine mi_up ?_ rfl
      | exact fun _ _ h => h
      | exact fun _ _ h => (Bool.or_eq_false_iff.mp h).1
      | refine gm_14 ?_ rfl ?_ ?_
      | exact fun _ _ h => (Bool.or_eq_false_iff.mp (Bool.or_eq_false_iff.mp h).1).1
      | refine And.intro (fun h => absurd h (by decide)) (fun _ => ?_)
      | refine And.intro (fun _ => ?_) (fun h => absurd (by decide) h)
      | refine And.intro (fun _ => ?_) (fun _ => ?_)
      | refine And.intro ?_ ?_
    all_goals (first | assumption | decide | omega | (intros; omega) | (intros; simp only [am_c] at * <;> omega) | (simp only [am_c, am_up] at * <;> omega) | (simp [am_c, am_up] at * <;> omega))
  refine am_go (ct := fun pc => Nat.beq pc 37) am_oX7_statement 300 ?_
  conv => whnf
  repeat' first
    | (refine (?_ : am_wp _ _ _ _ _ _ _ _ _ _ _ _); conv => whnf)
    | (refine (?_ : am_sw _ _ _ _); conv => whnf)
    | refine And.intro trivial ?_
    | exact trivial
    | assumption
    | refine k _ _ ?_ ?_ ?_ ?_ ?_ ?_ ?_
    | refine m_next  ?_ ?_ ?_ (fun _ _ => ?_)
    | refine m_readsAll _ _ (gm_rf (by repeat' first | assumption | exact gm_i (by assumption) | refine mi_up ?_ rfl | refine mi_100 ?_ ?_ ?_ | (simp only [am_c] at * <;> omega))) ?_ ?_ ?_ ?_ ?_ ?_ (fun _ _ _ _ _ _ _ _ => ?_)
    | refine gm_up ?_ rfl rfl
    | refine gm_100 ?_ rfl ?_ ?_
    | refine gm_tr ?_ (by assumption) ?_
    | exact gm_i (by assumption)
    | refine mi_up ?_ rfl
    | exact fun _ _ h => h
    | exact fun _ _ h => (Bool.or_eq_false_iff.mp h).1
    | refine gm_14 ?_ rfl ?_ ?_
    | exact fun _ _ h => (Bool.or_eq_false_iff.mp (Bool.or_eq_false_iff.mp h).1).1
    | refine lp37 _  ?_
    | refine And.intro (fun h => absurd h (by decide)) (fun _ => ?_)
    | refine And.intro (fun _ => ?_) (fun h => absurd (by decide) h)
    | refine And.intro (fun _ => ?_) (fun _ => ?_)
    | refine And.intro ?_ ?_
  all_goals (first | assumption | decide | omega | (intros; omega) | (intros; simp only [am_c] at * <;> omega) | (simp only [am_c, am_up] at * <;> omega) | (simp [am_c, am_up] at * <;> omega))
theorem m_comesRunner {l : Launch} {μ : am_N} {Q : Option am_V → am_N → Prop} {ν : am_N} (d : Int) (hS : gm mL ν μ) (hd0 : 0 ≤ d) (hd1 : d ≤ 235) (k : ∀ (r : Int) (μ' : am_N), gm mL ν μ' → (r = 0 ∨ r = 1) → Q (some (.inl r)) μ') : am_Does l 154 [.inr (.inr 83), .inl d] μ Q := by
  refine am_Does_of (Nat.le_of_ble_eq_true rfl) (Nat.le_of_ble_eq_true rfl) (Nat.le_of_ble_eq_true rfl) ?_
  have hb := mi_all hS.1
  refine am_go (ct := fun _ => false) am_oX7_comesRunner 300 ?_
  conv => whnf
  repeat' first
    | (refine (?_ : am_wp _ _ _ _ _ _ _ _ _ _ _ _); conv => whnf)
    | (refine (?_ : am_sw _ _ _ _); conv => whnf)
    | refine And.intro trivial ?_
    | exact trivial
    | assumption
    | refine k _ _ ?_ ?_
    | refine m_isIn _ _ _ (fun _ _ => ?_) (fun _ => ?_)
    | refine gm_up ?_ rfl rfl
    | refine gm_100 ?_ rfl ?_ ?_
    | refine gm_tr ?_ (by assumption) ?_
    | exact gm_i (by assumption)
    | refine mi_up ?_ rfl
    | exact fun _ _ h => h
    | exact fun _ _ h => (Bool.or_eq_false_iff.mp h).1
    | refine gm_14 ?_ rfl ?_ ?_
    | exact fun _ _ h => (Bool.or_eq_false_iff.mp (Bool.or_eq_false_iff.mp h).1).1
    | refine And.intro (fun h => absurd h (by decide)) (fun _ => ?_)
    | refine And.intro (fun _ => ?_) (fun h => absurd (by decide) h)
    | refine And.intro (fun _ => ?_) (fun _ => ?_)
    | refine And.intro ?_ ?_
  all_goals (first | assumption | decide | omega | (intros; omega) | (intros; simp only [am_c] at * <;> omega) | (simp only [am_c, am_up] at * <;> omega) | (simp [am_c, am_up] at * <;> omega))
theorem m_comes {l : Launch} {μ : am_N} {Q : Option am_V → am_N → Prop} {ν : am_N} (i : Int) (hS : gm mL ν μ) (hi0 : 0 ≤ i) (hi1 : i ≤ 47) (k : ∀ (r : Int) (μ' : am_N), gm mL ν μ' → (r = 0 ∨ r = 1) → Q (some (.inl r)) μ') : am_Does l 155 [.inr (.inr 83), .inl i] μ Q := by
  refine am_Does_of (Nat.le_of_ble_eq_true rfl) (Nat.le_of_ble_eq_true rfl) (Nat.le_of_ble_eq_true rfl) ?_
  have hb := mi_all hS.1
  have lp4 : ∀ (p : Int), 0 ≤ p → p ≤ 235 → am_AW l 0 (fun _ => 0) 155 Q 4 [some (.inr (.inr 83)), some (.inl i), some (.inl p)] [] μ := by
    intro p  hv0 hv1
    refine am_go (ct := fun pc => Nat.beq pc 4) am_oX7_comes 300 ?_
    conv => whnf
    repeat' first
      | (refine (?_ : am_wp _ _ _ _ _ _ _ _ _ _ _ _); conv => whnf)
      | (refine (?_ : am_sw _ _ _ _); conv => whnf)
      | refine And.intro trivial ?_
      | exact trivial
      | assumption
      | refine k _ _ ?_ ?_
      | refine m_isIn _ _ _ (fun _ _ => ?_) (fun _ => ?_)
      | refine m_comesRunner _ (gm_rf (by repeat' first | assumption | exact gm_i (by assumption) | refine mi_up ?_ rfl | refine mi_100 ?_ ?_ ?_ | (simp only [am_c] at * <;> omega))) ?_ ?_ (fun _ _ _ _ => ?_)
      | refine m_isRunner _ ?_ (fun _ _ _ => ?_) (fun _ => ?_)
      | refine m_runs  (gm_rf (by repeat' first | assumption | exact gm_i (by assumption) | refine mi_up ?_ rfl | refine mi_100 ?_ ?_ ?_ | (simp only [am_c] at * <;> omega))) ?_ (fun _ _ _ => ?_)
      | refine gm_up ?_ rfl rfl
      | refine gm_100 ?_ rfl ?_ ?_
      | refine gm_tr ?_ (by assumption) ?_
      | exact gm_i (by assumption)
      | refine mi_up ?_ rfl
      | exact fun _ _ h => h
      | exact fun _ _ h => (Bool.or_eq_false_iff.mp h).1
      | refine gm_14 ?_ rfl ?_ ?_
      | exact fun _ _ h => (Bool.or_eq_false_iff.mp (Bool.or_eq_false_iff.mp h).1).1
      | refine And.intro (fun h => absurd h (by decide)) (fun _ => ?_)
      | refine And.intro (fun _ => ?_) (fun h => absurd (by decide) h)
      | refine And.intro (fun _ => ?_) (fun _ => ?_)
      | refine And.intro ?_ ?_
    all_goals (first | assumption | decide | omega | (intros; omega) | (intros; simp only [am_c] at * <;> omega) | (simp only [am_c, am_up] at * <;> omega) | (simp [am_c, am_up] at * <;> omega))
  refine am_go (ct := fun pc => Nat.beq pc 4) am_oX7_comes 300 ?_
  conv => whnf
  repeat' first
    | (refine (?_ : am_wp _ _ _ _ _ _ _ _ _ _ _ _); conv => whnf)
    | (refine (?_ : am_sw _ _ _ _); conv => whnf)
    | refine And.intro trivial ?_
    | exact trivial
    | assumption
    | refine k _ _ ?_ ?_
    | refine m_isIn _ _ _ (fun _ _ => ?_) (fun _ => ?_)
    | refine m_comesRunner _ (gm_rf (by repeat' first | assumption | exact gm_i (by assumption) | refine mi_up ?_ rfl | refine mi_100 ?_ ?_ ?_ | (simp only [am_c] at * <;> omega))) ?_ ?_ (fun _ _ _ _ => ?_)
    | refine m_isRunner _ ?_ (fun _ _ _ => ?_) (fun _ => ?_)
    | refine m_runs  (gm_rf (by repeat' first | assumption | exact gm_i (by assumption) | refine mi_up ?_ rfl | refine mi_100 ?_ ?_ ?_ | (simp only [am_c] at * <;> omega))) ?_ (fun _ _ _ => ?_)
    | refine gm_up ?_ rfl rfl
    | refine gm_100 ?_ rfl ?_ ?_
    | refine gm_tr ?_ (by assumption) ?_
    | exact gm_i (by assumption)
    | refine mi_up ?_ rfl
    | exact fun _ _ h => h
    | exact fun _ _ h => (Bool.or_eq_false_iff.mp h).1
    | refine gm_14 ?_ rfl ?_ ?_
    | exact fun _ _ h => (Bool.or_eq_false_iff.mp (Bool.or_eq_false_iff.mp h).1).1
    | refine lp4 _  ?_ ?_
    | refine And.intro (fun h => absurd h (by decide)) (fun _ => ?_)
    | refine And.intro (fun _ => ?_) (fun h => absurd (by decide) h)
    | refine And.intro (fun _ => ?_) (fun _ => ?_)
    | refine And.intro ?_ ?_
  all_goals (first | assumption | decide | omega | (intros; omega) | (intros; simp only [am_c] at * <;> omega) | (simp only [am_c, am_up] at * <;> omega) | (simp [am_c, am_up] at * <;> omega))
