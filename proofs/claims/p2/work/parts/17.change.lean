/-! contracts: the system's changes (weak): what stays, what is within bounds -/
def gv (E : List Nat) (ν μ : am_N) : Prop := sx μ μ ∧ ∀ k j, (sx_p k && !(E.contains k)) = true → μ k j = ν k j
def gv_q (k j : Nat) : Bool := (sx_q k j || sx_p k) && (!(Nat.beq k 1 && Nat.beq j 4) && (!(Nat.beq k 22 && Nat.beq j 4) && (!(Nat.beq k 36 && Nat.beq j 1) && (!(Nat.beq k 44 && Nat.beq j 1) && (!(Nat.beq k 46 && Nat.beq j 1) && (!(Nat.beq k 48 && Nat.beq j 1) && (!(Nat.beq k 50 && Nat.beq j 1) && (!(Nat.beq k 53 && Nat.beq j 1) && (!(Nat.beq k 55 && Nat.beq j 1) && (!(Nat.beq k 58 && Nat.beq j 1) && (!(Nat.beq k 60 && Nat.beq j 1) && !(Nat.beq k 62 && Nat.beq j 3))))))))))))
theorem sx_rb {ν μ : am_N} (h : sx ν μ) : sx μ μ := ⟨fun _ _ _ => rfl, h.2.1, h.2.2.1, h.2.2.2.1, sx_px h⟩
theorem gv_i {E : List Nat} {ν μ : am_N} (h : gv E ν μ) : sx μ μ := h.1
theorem gv_rf {E : List Nat} {μ : am_N} (h : sx μ μ) : gv E μ μ := ⟨h, fun _ _ _ => rfl⟩
theorem gv_sx {E : List Nat} {ν μ μ' : am_N} (h : gv E ν μ) (h2 : sx μ μ') : gv E ν μ' := ⟨sx_rb h2, fun k j hk => (h2.1 k j (am_bb hk).1).trans (h.2 k j hk)⟩
theorem gv_px {μ : am_N} {k j : Nat} {v : Int} (h : px μ) (hk : ∀ a b, (a, b) ∈ [(1, 4), (22, 4), (36, 1), (44, 1), (46, 1), (48, 1), (50, 1), (53, 1), (55, 1), (58, 1), (60, 1), (62, 3)] → (Nat.beq k a && Nat.beq j b) = false) : px (am_up μ k j v) := by
  have e : ∀ a b, (a, b) ∈ [(1, 4), (22, 4), (36, 1), (44, 1), (46, 1), (48, 1), (50, 1), (53, 1), (55, 1), (58, 1), (60, 1), (62, 3)] → am_up μ k j v a b = μ a b := fun a b q => by
    have q := hk a b q
    rw [am_upS, if_neg (fun z => by rw [z.1, z.2] at q; simp at q)]
  unfold px at h ⊢
  rw [e 1 4 (by decide), e 22 4 (by decide), e 36 1 (by decide), e 44 1 (by decide), e 46 1 (by decide), e 48 1 (by decide), e 50 1 (by decide), e 53 1 (by decide), e 55 1 (by decide), e 58 1 (by decide), e 60 1 (by decide), e 62 3 (by decide)]
  exact h
theorem gv_up {E : List Nat} {ν μ : am_N} {k j : Nat} {v : Int} (h : gv E ν μ) (hE : (E.contains k || !(sx_p k)) = true) (hk : gv_q k j = true) : gv E ν (am_up μ k j v) := by
  obtain ⟨q0, q1, q2, q3, q4, q5, q6, q7, q8, q9, q10, q11, q12⟩ : (sx_q k j || sx_p k) = true ∧ (Nat.beq k 1 && Nat.beq j 4) = false ∧ (Nat.beq k 22 && Nat.beq j 4) = false ∧ (Nat.beq k 36 && Nat.beq j 1) = false ∧ (Nat.beq k 44 && Nat.beq j 1) = false ∧ (Nat.beq k 46 && Nat.beq j 1) = false ∧ (Nat.beq k 48 && Nat.beq j 1) = false ∧ (Nat.beq k 50 && Nat.beq j 1) = false ∧ (Nat.beq k 53 && Nat.beq j 1) = false ∧ (Nat.beq k 55 && Nat.beq j 1) = false ∧ (Nat.beq k 58 && Nat.beq j 1) = false ∧ (Nat.beq k 60 && Nat.beq j 1) = false ∧ (Nat.beq k 62 && Nat.beq j 3) = false := by
    simpa only [gv_q, Bool.and_eq_true, Bool.not_eq_true'] using hk
  have hpx : px (am_up μ k j v) := gv_px h.1.2.2.2.2 (fun a b hab => by
    simp only [List.mem_cons, Prod.mk.injEq, List.not_mem_nil, or_false] at hab
    rcases hab with ⟨rfl, rfl⟩ | ⟨rfl, rfl⟩ | ⟨rfl, rfl⟩ | ⟨rfl, rfl⟩ | ⟨rfl, rfl⟩ | ⟨rfl, rfl⟩ | ⟨rfl, rfl⟩ | ⟨rfl, rfl⟩ | ⟨rfl, rfl⟩ | ⟨rfl, rfl⟩ | ⟨rfl, rfl⟩ | ⟨rfl, rfl⟩ <;> assumption)
  refine ⟨?_, fun a b hab => ?_⟩
  · rcases Bool.or_eq_true_iff.mp q0 with q | q
    · exact sx_rb (sx_up h.1 q)
    · have ne : ∀ c, sx_p c = false → k ≠ c := fun c hc z => by rw [z, hc] at q; cases q
      have nb : ∀ c d, sx_p c = false → (Nat.beq k c && Nat.beq j d) = false := fun c d hc => by
        cases hb : Nat.beq k c with
        | false => rfl
        | true => exact absurd (Nat.eq_of_beq_eq_true hb) (ne c hc)
      exact ⟨fun _ _ _ => rfl, sx_3N h.1.2.1 (ne 34 rfl), sx_3N h.1.2.2.1 (ne 43 rfl), sx_4N h.1.2.2.2.1 (nb 8 4 rfl) (nb 15 4 rfl) (nb 29 0 rfl) (nb 38 0 rfl), hpx⟩
  · rw [am_upN (fun z => by
      subst z
      have h1 := (am_bb hab).1
      have h2 := (am_bb hab).2
      rw [h1] at hE
      simp only [Bool.not_true, Bool.or_false] at hE
      rw [hE] at h2
      cases h2)]
    exact h.2 a b hab
theorem gv_b1 {E : List Nat} {ν μ : am_N} {v : Int} (h : gv E ν μ) (hE : E.contains 1 = true) (h0 : 0 ≤ v ∧ v ≤ 4) : gv E ν (am_up μ 1 4 v) := by
  refine ⟨⟨fun _ _ _ => rfl, sx_3N h.1.2.1 (by decide), sx_3N h.1.2.2.1 (by decide), sx_4N h.1.2.2.2.1 rfl rfl rfl rfl, ?_⟩, fun a b hab => ?_⟩
  · have q := h.1.2.2.2.2
    simp only [px] at q ⊢
    simp [am_upS]
    omega
  · rw [am_upN (fun z => by subst z; rw [hE] at hab; simp at hab)]
    exact h.2 a b hab
theorem gv_b22 {E : List Nat} {ν μ : am_N} {v : Int} (h : gv E ν μ) (hE : E.contains 22 = true) (h0 : 0 ≤ v ∧ v ≤ 4) : gv E ν (am_up μ 22 4 v) := by
  refine ⟨⟨fun _ _ _ => rfl, sx_3N h.1.2.1 (by decide), sx_3N h.1.2.2.1 (by decide), sx_4N h.1.2.2.2.1 rfl rfl rfl rfl, ?_⟩, fun a b hab => ?_⟩
  · have q := h.1.2.2.2.2
    simp only [px] at q ⊢
    simp [am_upS]
    omega
  · rw [am_upN (fun z => by subst z; rw [hE] at hab; simp at hab)]
    exact h.2 a b hab
theorem gv_b36 {E : List Nat} {ν μ : am_N} {v : Int} (h : gv E ν μ) (hE : E.contains 36 = true) (h0 : 0 ≤ v ∧ v ≤ 96) : gv E ν (am_up μ 36 1 v) := by
  refine ⟨⟨fun _ _ _ => rfl, sx_3N h.1.2.1 (by decide), sx_3N h.1.2.2.1 (by decide), sx_4N h.1.2.2.2.1 rfl rfl rfl rfl, ?_⟩, fun a b hab => ?_⟩
  · have q := h.1.2.2.2.2
    simp only [px] at q ⊢
    simp [am_upS]
    omega
  · rw [am_upN (fun z => by subst z; rw [hE] at hab; simp at hab)]
    exact h.2 a b hab
theorem gv_b44 {E : List Nat} {ν μ : am_N} {v : Int} (h : gv E ν μ) (hE : E.contains 44 = true) (h0 : 0 ≤ v ∧ v ≤ 12) : gv E ν (am_up μ 44 1 v) := by
  refine ⟨⟨fun _ _ _ => rfl, sx_3N h.1.2.1 (by decide), sx_3N h.1.2.2.1 (by decide), sx_4N h.1.2.2.2.1 rfl rfl rfl rfl, ?_⟩, fun a b hab => ?_⟩
  · have q := h.1.2.2.2.2
    simp only [px] at q ⊢
    simp [am_upS]
    omega
  · rw [am_upN (fun z => by subst z; rw [hE] at hab; simp at hab)]
    exact h.2 a b hab
theorem gv_b46 {E : List Nat} {ν μ : am_N} {v : Int} (h : gv E ν μ) (hE : E.contains 46 = true) (h0 : 0 ≤ v ∧ v ≤ 6) : gv E ν (am_up μ 46 1 v) := by
  refine ⟨⟨fun _ _ _ => rfl, sx_3N h.1.2.1 (by decide), sx_3N h.1.2.2.1 (by decide), sx_4N h.1.2.2.2.1 rfl rfl rfl rfl, ?_⟩, fun a b hab => ?_⟩
  · have q := h.1.2.2.2.2
    simp only [px] at q ⊢
    simp [am_upS]
    omega
  · rw [am_upN (fun z => by subst z; rw [hE] at hab; simp at hab)]
    exact h.2 a b hab
theorem gv_b48 {E : List Nat} {ν μ : am_N} {v : Int} (h : gv E ν μ) (hE : E.contains 48 = true) (h0 : 0 ≤ v ∧ v ≤ 6) : gv E ν (am_up μ 48 1 v) := by
  refine ⟨⟨fun _ _ _ => rfl, sx_3N h.1.2.1 (by decide), sx_3N h.1.2.2.1 (by decide), sx_4N h.1.2.2.2.1 rfl rfl rfl rfl, ?_⟩, fun a b hab => ?_⟩
  · have q := h.1.2.2.2.2
    simp only [px] at q ⊢
    simp [am_upS]
    omega
  · rw [am_upN (fun z => by subst z; rw [hE] at hab; simp at hab)]
    exact h.2 a b hab
theorem gv_b50 {E : List Nat} {ν μ : am_N} {v : Int} (h : gv E ν μ) (hE : E.contains 50 = true) (h0 : 0 ≤ v ∧ v ≤ 6) : gv E ν (am_up μ 50 1 v) := by
  refine ⟨⟨fun _ _ _ => rfl, sx_3N h.1.2.1 (by decide), sx_3N h.1.2.2.1 (by decide), sx_4N h.1.2.2.2.1 rfl rfl rfl rfl, ?_⟩, fun a b hab => ?_⟩
  · have q := h.1.2.2.2.2
    simp only [px] at q ⊢
    simp [am_upS]
    omega
  · rw [am_upN (fun z => by subst z; rw [hE] at hab; simp at hab)]
    exact h.2 a b hab
theorem gv_b53 {E : List Nat} {ν μ : am_N} {v : Int} (h : gv E ν μ) (hE : E.contains 53 = true) (h0 : 0 ≤ v ∧ v ≤ 4) : gv E ν (am_up μ 53 1 v) := by
  refine ⟨⟨fun _ _ _ => rfl, sx_3N h.1.2.1 (by decide), sx_3N h.1.2.2.1 (by decide), sx_4N h.1.2.2.2.1 rfl rfl rfl rfl, ?_⟩, fun a b hab => ?_⟩
  · have q := h.1.2.2.2.2
    simp only [px] at q ⊢
    simp [am_upS]
    omega
  · rw [am_upN (fun z => by subst z; rw [hE] at hab; simp at hab)]
    exact h.2 a b hab
theorem gv_b55 {E : List Nat} {ν μ : am_N} {v : Int} (h : gv E ν μ) (hE : E.contains 55 = true) (h0 : 0 ≤ v ∧ v ≤ 4) : gv E ν (am_up μ 55 1 v) := by
  refine ⟨⟨fun _ _ _ => rfl, sx_3N h.1.2.1 (by decide), sx_3N h.1.2.2.1 (by decide), sx_4N h.1.2.2.2.1 rfl rfl rfl rfl, ?_⟩, fun a b hab => ?_⟩
  · have q := h.1.2.2.2.2
    simp only [px] at q ⊢
    simp [am_upS]
    omega
  · rw [am_upN (fun z => by subst z; rw [hE] at hab; simp at hab)]
    exact h.2 a b hab
theorem gv_b58 {E : List Nat} {ν μ : am_N} {v : Int} (h : gv E ν μ) (hE : E.contains 58 = true) (h0 : 0 ≤ v ∧ v ≤ 4) : gv E ν (am_up μ 58 1 v) := by
  refine ⟨⟨fun _ _ _ => rfl, sx_3N h.1.2.1 (by decide), sx_3N h.1.2.2.1 (by decide), sx_4N h.1.2.2.2.1 rfl rfl rfl rfl, ?_⟩, fun a b hab => ?_⟩
  · have q := h.1.2.2.2.2
    simp only [px] at q ⊢
    simp [am_upS]
    omega
  · rw [am_upN (fun z => by subst z; rw [hE] at hab; simp at hab)]
    exact h.2 a b hab
theorem gv_b60 {E : List Nat} {ν μ : am_N} {v : Int} (h : gv E ν μ) (hE : E.contains 60 = true) (h0 : 0 ≤ v ∧ v ≤ 4) : gv E ν (am_up μ 60 1 v) := by
  refine ⟨⟨fun _ _ _ => rfl, sx_3N h.1.2.1 (by decide), sx_3N h.1.2.2.1 (by decide), sx_4N h.1.2.2.2.1 rfl rfl rfl rfl, ?_⟩, fun a b hab => ?_⟩
  · have q := h.1.2.2.2.2
    simp only [px] at q ⊢
    simp [am_upS]
    omega
  · rw [am_upN (fun z => by subst z; rw [hE] at hab; simp at hab)]
    exact h.2 a b hab
theorem gv_b62 {E : List Nat} {ν μ : am_N} {v : Int} (h : gv E ν μ) (hE : E.contains 62 = true) (h0 : 0 ≤ v ∧ v ≤ 6) : gv E ν (am_up μ 62 3 v) := by
  refine ⟨⟨fun _ _ _ => rfl, sx_3N h.1.2.1 (by decide), sx_3N h.1.2.2.1 (by decide), sx_4N h.1.2.2.2.1 rfl rfl rfl rfl, ?_⟩, fun a b hab => ?_⟩
  · have q := h.1.2.2.2.2
    simp only [px] at q ⊢
    simp [am_upS]
    omega
  · rw [am_upN (fun z => by subst z; rw [hE] at hab; simp at hab)]
    exact h.2 a b hab
theorem v_drop_X4 {l : Launch} {μ : am_N} {Q : Option am_V → am_N → Prop} (k : Q none (am_up μ 62 3 0)) : am_Does l 49 [.inr (.inr 62)] μ Q := by
  refine am_Does_of (Nat.le_of_ble_eq_true rfl) (Nat.le_of_ble_eq_true rfl) (Nat.le_of_ble_eq_true rfl) ?_
  refine am_go (ct := fun _ => false) am_oX4_drop 300 ?_
  conv => whnf
  repeat' first
    | (refine (?_ : am_wp _ _ _ _ _ _ _ _ _ _ _ _); conv => whnf)
    | (refine (?_ : am_sw _ _ _ _); conv => whnf)
    | refine And.intro trivial ?_
    | exact trivial
    | assumption
    | exact k
    | refine And.intro (fun h => absurd h (by decide)) (fun _ => ?_)
    | refine And.intro (fun _ => ?_) (fun h => absurd (by decide) h)
    | refine And.intro (fun _ => ?_) (fun _ => ?_)
    | refine And.intro ?_ ?_
  all_goals (first | assumption | decide | omega | (intros; omega) | (intros; simp only [am_c] at * <;> omega) | (simp only [am_c, am_up] at * <;> omega) | (simp [am_c, am_up] at * <;> omega))
theorem v_drop_X3_36 {l : Launch} {μ : am_N} {Q : Option am_V → am_N → Prop} (k : Q (some (.inl (μ 36 1))) (am_up μ 36 1 0)) : am_Does l 44 [.inr (.inr 36)] μ Q := by
  refine am_Does_of (Nat.le_of_ble_eq_true rfl) (Nat.le_of_ble_eq_true rfl) (Nat.le_of_ble_eq_true rfl) ?_
  refine am_go (ct := fun _ => false) am_oX3_drop 300 ?_
  conv => whnf
  repeat' first
    | (refine (?_ : am_wp _ _ _ _ _ _ _ _ _ _ _ _); conv => whnf)
    | (refine (?_ : am_sw _ _ _ _); conv => whnf)
    | refine And.intro trivial ?_
    | exact trivial
    | assumption
    | exact k
    | refine And.intro (fun h => absurd h (by decide)) (fun _ => ?_)
    | refine And.intro (fun _ => ?_) (fun h => absurd (by decide) h)
    | refine And.intro (fun _ => ?_) (fun _ => ?_)
    | refine And.intro ?_ ?_
  all_goals (first | assumption | decide | omega | (intros; omega) | (intros; simp only [am_c] at * <;> omega) | (simp only [am_c, am_up] at * <;> omega) | (simp [am_c, am_up] at * <;> omega))
theorem v_full_X3_36 {l : Launch} {μ : am_N} {Q : Option am_V → am_N → Prop} {ν : am_N} (hS : sx ν μ) (k1 : μ 36 1 = 96 → Q (some (.inl 1)) μ) (k2 : μ 36 1 < 96 → Q (some (.inl 0)) μ) : am_Does l 41 [.inr (.inr 36)] μ Q := by
  refine am_Does_of (Nat.le_of_ble_eq_true rfl) (Nat.le_of_ble_eq_true rfl) (Nat.le_of_ble_eq_true rfl) ?_
  have hb := sx_all hS
  refine am_go (ct := fun _ => false) am_oX3_full 300 ?_
  conv => whnf
  repeat' first
    | (refine (?_ : am_wp _ _ _ _ _ _ _ _ _ _ _ _); conv => whnf)
    | (refine (?_ : am_sw _ _ _ _); conv => whnf)
    | refine And.intro trivial ?_
    | exact trivial
    | assumption
    | refine k1 ?_
    | refine k2 ?_
    | refine And.intro (fun h => absurd h (by decide)) (fun _ => ?_)
    | refine And.intro (fun _ => ?_) (fun h => absurd (by decide) h)
    | refine And.intro (fun _ => ?_) (fun _ => ?_)
    | refine And.intro ?_ ?_
  all_goals (first | assumption | decide | omega | (intros; omega) | (intros; simp only [am_c] at * <;> omega) | (simp only [am_c, am_up] at * <;> omega) | (simp [am_c, am_up] at * <;> omega))
theorem v_put_X3_36 {l : Launch} {μ : am_N} {Q : Option am_V → am_N → Prop} (v : Int) (hS : sx μ μ) (h1 : μ 36 1 < 96) (k : ∀ r μ', r = μ 36 1 + 1 → μ' = am_up (am_up μ 36 1 (μ 36 1 + 1)) 37 (μ 36 1).toNat v → Q (some (.inl r)) μ') : am_Does l 42 [.inr (.inr 36), .inl v] μ Q := by
  refine am_Does_of (Nat.le_of_ble_eq_true rfl) (Nat.le_of_ble_eq_true rfl) (Nat.le_of_ble_eq_true rfl) ?_
  have hb := sx_all hS
  have e1 : am_c (μ 36 1) = μ 36 1 := am_cR (by omega) (by omega)
  refine am_go (ct := fun _ => false) am_oX3_put 300 ?_
  conv => whnf
  repeat' first
    | (refine (?_ : am_wp _ _ _ _ _ _ _ _ _ _ _ _); conv => whnf)
    | (refine (?_ : am_sw _ _ _ _); conv => whnf)
    | refine And.intro trivial ?_
    | exact trivial
    | assumption
    | refine k _ _ ?_ ?_
    | refine v_full_X3_36 (ν := μ) hS (fun _ => ?_) (fun _ => ?_)
    | refine And.intro (fun h => absurd h (by decide)) (fun _ => ?_)
    | refine And.intro (fun _ => ?_) (fun h => absurd (by decide) h)
    | refine And.intro (fun _ => ?_) (fun _ => ?_)
    | refine And.intro ?_ ?_
  all_goals (first | assumption | decide | omega | (simp only [e1]; done) | (simp only [e1] at * <;> omega) | (simp only [am_c, am_up] at * <;> omega) | (simp [am_c, am_up] at * <;> omega))
theorem v_putE_X3_36 {l : Launch} {μ : am_N} {Q : Option am_V → am_N → Prop} (v : Int) (hS : sx μ μ) (h1 : μ 36 1 < 96) (k : Q (some (.inl (μ 36 1 + 1))) (am_up (am_up μ 36 1 (μ 36 1 + 1)) 37 (μ 36 1).toNat v)) : am_Does l 42 [.inr (.inr 36), .inl v] μ Q := v_put_X3_36 v hS h1 (fun r μ' e1 e2 => by subst e1; subst e2; exact k)
theorem v_drop_X3_44 {l : Launch} {μ : am_N} {Q : Option am_V → am_N → Prop} (k : Q (some (.inl (μ 44 1))) (am_up μ 44 1 0)) : am_Does l 44 [.inr (.inr 44)] μ Q := by
  refine am_Does_of (Nat.le_of_ble_eq_true rfl) (Nat.le_of_ble_eq_true rfl) (Nat.le_of_ble_eq_true rfl) ?_
  refine am_go (ct := fun _ => false) am_oX3_drop 300 ?_
  conv => whnf
  repeat' first
    | (refine (?_ : am_wp _ _ _ _ _ _ _ _ _ _ _ _); conv => whnf)
    | (refine (?_ : am_sw _ _ _ _); conv => whnf)
    | refine And.intro trivial ?_
    | exact trivial
    | assumption
    | exact k
    | refine And.intro (fun h => absurd h (by decide)) (fun _ => ?_)
    | refine And.intro (fun _ => ?_) (fun h => absurd (by decide) h)
    | refine And.intro (fun _ => ?_) (fun _ => ?_)
    | refine And.intro ?_ ?_
  all_goals (first | assumption | decide | omega | (intros; omega) | (intros; simp only [am_c] at * <;> omega) | (simp only [am_c, am_up] at * <;> omega) | (simp [am_c, am_up] at * <;> omega))
theorem v_full_X3_44 {l : Launch} {μ : am_N} {Q : Option am_V → am_N → Prop} {ν : am_N} (hS : sx ν μ) (k1 : μ 44 1 = 12 → Q (some (.inl 1)) μ) (k2 : μ 44 1 < 12 → Q (some (.inl 0)) μ) : am_Does l 41 [.inr (.inr 44)] μ Q := by
  refine am_Does_of (Nat.le_of_ble_eq_true rfl) (Nat.le_of_ble_eq_true rfl) (Nat.le_of_ble_eq_true rfl) ?_
  have hb := sx_all hS
  refine am_go (ct := fun _ => false) am_oX3_full 300 ?_
  conv => whnf
  repeat' first
    | (refine (?_ : am_wp _ _ _ _ _ _ _ _ _ _ _ _); conv => whnf)
    | (refine (?_ : am_sw _ _ _ _); conv => whnf)
    | refine And.intro trivial ?_
    | exact trivial
    | assumption
    | refine k1 ?_
    | refine k2 ?_
    | refine And.intro (fun h => absurd h (by decide)) (fun _ => ?_)
    | refine And.intro (fun _ => ?_) (fun h => absurd (by decide) h)
    | refine And.intro (fun _ => ?_) (fun _ => ?_)
    | refine And.intro ?_ ?_
  all_goals (first | assumption | decide | omega | (intros; omega) | (intros; simp only [am_c] at * <;> omega) | (simp only [am_c, am_up] at * <;> omega) | (simp [am_c, am_up] at * <;> omega))
theorem v_put_X3_44 {l : Launch} {μ : am_N} {Q : Option am_V → am_N → Prop} (v : Int) (hS : sx μ μ) (h1 : μ 44 1 < 12) (k : ∀ r μ', r = μ 44 1 + 1 → μ' = am_up (am_up μ 44 1 (μ 44 1 + 1)) 45 (μ 44 1).toNat v → Q (some (.inl r)) μ') : am_Does l 42 [.inr (.inr 44), .inl v] μ Q := by
  refine am_Does_of (Nat.le_of_ble_eq_true rfl) (Nat.le_of_ble_eq_true rfl) (Nat.le_of_ble_eq_true rfl) ?_
  have hb := sx_all hS
  have e1 : am_c (μ 44 1) = μ 44 1 := am_cR (by omega) (by omega)
  refine am_go (ct := fun _ => false) am_oX3_put 300 ?_
  conv => whnf
  repeat' first
    | (refine (?_ : am_wp _ _ _ _ _ _ _ _ _ _ _ _); conv => whnf)
    | (refine (?_ : am_sw _ _ _ _); conv => whnf)
    | refine And.intro trivial ?_
    | exact trivial
    | assumption
    | refine k _ _ ?_ ?_
    | refine v_full_X3_44 (ν := μ) hS (fun _ => ?_) (fun _ => ?_)
    | refine And.intro (fun h => absurd h (by decide)) (fun _ => ?_)
    | refine And.intro (fun _ => ?_) (fun h => absurd (by decide) h)
    | refine And.intro (fun _ => ?_) (fun _ => ?_)
    | refine And.intro ?_ ?_
  all_goals (first | assumption | decide | omega | (simp only [e1]; done) | (simp only [e1] at * <;> omega) | (simp only [am_c, am_up] at * <;> omega) | (simp [am_c, am_up] at * <;> omega))
theorem v_putE_X3_44 {l : Launch} {μ : am_N} {Q : Option am_V → am_N → Prop} (v : Int) (hS : sx μ μ) (h1 : μ 44 1 < 12) (k : Q (some (.inl (μ 44 1 + 1))) (am_up (am_up μ 44 1 (μ 44 1 + 1)) 45 (μ 44 1).toNat v)) : am_Does l 42 [.inr (.inr 44), .inl v] μ Q := v_put_X3_44 v hS h1 (fun r μ' e1 e2 => by subst e1; subst e2; exact k)
theorem v_drop_X3_46 {l : Launch} {μ : am_N} {Q : Option am_V → am_N → Prop} (k : Q (some (.inl (μ 46 1))) (am_up μ 46 1 0)) : am_Does l 44 [.inr (.inr 46)] μ Q := by
  refine am_Does_of (Nat.le_of_ble_eq_true rfl) (Nat.le_of_ble_eq_true rfl) (Nat.le_of_ble_eq_true rfl) ?_
  refine am_go (ct := fun _ => false) am_oX3_drop 300 ?_
  conv => whnf
  repeat' first
    | (refine (?_ : am_wp _ _ _ _ _ _ _ _ _ _ _ _); conv => whnf)
    | (refine (?_ : am_sw _ _ _ _); conv => whnf)
    | refine And.intro trivial ?_
    | exact trivial
    | assumption
    | exact k
    | refine And.intro (fun h => absurd h (by decide)) (fun _ => ?_)
    | refine And.intro (fun _ => ?_) (fun h => absurd (by decide) h)
    | refine And.intro (fun _ => ?_) (fun _ => ?_)
    | refine And.intro ?_ ?_
  all_goals (first | assumption | decide | omega | (intros; omega) | (intros; simp only [am_c] at * <;> omega) | (simp only [am_c, am_up] at * <;> omega) | (simp [am_c, am_up] at * <;> omega))
theorem v_full_X3_46 {l : Launch} {μ : am_N} {Q : Option am_V → am_N → Prop} {ν : am_N} (hS : sx ν μ) (k1 : μ 46 1 = 6 → Q (some (.inl 1)) μ) (k2 : μ 46 1 < 6 → Q (some (.inl 0)) μ) : am_Does l 41 [.inr (.inr 46)] μ Q := by
  refine am_Does_of (Nat.le_of_ble_eq_true rfl) (Nat.le_of_ble_eq_true rfl) (Nat.le_of_ble_eq_true rfl) ?_
  have hb := sx_all hS
  refine am_go (ct := fun _ => false) am_oX3_full 300 ?_
  conv => whnf
  repeat' first
    | (refine (?_ : am_wp _ _ _ _ _ _ _ _ _ _ _ _); conv => whnf)
    | (refine (?_ : am_sw _ _ _ _); conv => whnf)
    | refine And.intro trivial ?_
    | exact trivial
    | assumption
    | refine k1 ?_
    | refine k2 ?_
    | refine And.intro (fun h => absurd h (by decide)) (fun _ => ?_)
    | refine And.intro (fun _ => ?_) (fun h => absurd (by decide) h)
    | refine And.intro (fun _ => ?_) (fun _ => ?_)
    | refine And.intro ?_ ?_
  all_goals (first | assumption | decide | omega | (intros; omega) | (intros; simp only [am_c] at * <;> omega) | (simp only [am_c, am_up] at * <;> omega) | (simp [am_c, am_up] at * <;> omega))
theorem v_put_X3_46 {l : Launch} {μ : am_N} {Q : Option am_V → am_N → Prop} (v : Int) (hS : sx μ μ) (h1 : μ 46 1 < 6) (k : ∀ r μ', r = μ 46 1 + 1 → μ' = am_up (am_up μ 46 1 (μ 46 1 + 1)) 47 (μ 46 1).toNat v → Q (some (.inl r)) μ') : am_Does l 42 [.inr (.inr 46), .inl v] μ Q := by
  refine am_Does_of (Nat.le_of_ble_eq_true rfl) (Nat.le_of_ble_eq_true rfl) (Nat.le_of_ble_eq_true rfl) ?_
  have hb := sx_all hS
  have e1 : am_c (μ 46 1) = μ 46 1 := am_cR (by omega) (by omega)
  refine am_go (ct := fun _ => false) am_oX3_put 300 ?_
  conv => whnf
  repeat' first
    | (refine (?_ : am_wp _ _ _ _ _ _ _ _ _ _ _ _); conv => whnf)
    | (refine (?_ : am_sw _ _ _ _); conv => whnf)
    | refine And.intro trivial ?_
    | exact trivial
    | assumption
    | refine k _ _ ?_ ?_
    | refine v_full_X3_46 (ν := μ) hS (fun _ => ?_) (fun _ => ?_)
    | refine And.intro (fun h => absurd h (by decide)) (fun _ => ?_)
    | refine And.intro (fun _ => ?_) (fun h => absurd (by decide) h)
    | refine And.intro (fun _ => ?_) (fun _ => ?_)
    | refine And.intro ?_ ?_
  all_goals (first | assumption | decide | omega | (simp only [e1]; done) | (simp only [e1] at * <;> omega) | (simp only [am_c, am_up] at * <;> omega) | (simp [am_c, am_up] at * <;> omega))
theorem v_putE_X3_46 {l : Launch} {μ : am_N} {Q : Option am_V → am_N → Prop} (v : Int) (hS : sx μ μ) (h1 : μ 46 1 < 6) (k : Q (some (.inl (μ 46 1 + 1))) (am_up (am_up μ 46 1 (μ 46 1 + 1)) 47 (μ 46 1).toNat v)) : am_Does l 42 [.inr (.inr 46), .inl v] μ Q := v_put_X3_46 v hS h1 (fun r μ' e1 e2 => by subst e1; subst e2; exact k)
theorem v_drop_X3_48 {l : Launch} {μ : am_N} {Q : Option am_V → am_N → Prop} (k : Q (some (.inl (μ 48 1))) (am_up μ 48 1 0)) : am_Does l 44 [.inr (.inr 48)] μ Q := by
  refine am_Does_of (Nat.le_of_ble_eq_true rfl) (Nat.le_of_ble_eq_true rfl) (Nat.le_of_ble_eq_true rfl) ?_
  refine am_go (ct := fun _ => false) am_oX3_drop 300 ?_
  conv => whnf
  repeat' first
    | (refine (?_ : am_wp _ _ _ _ _ _ _ _ _ _ _ _); conv => whnf)
    | (refine (?_ : am_sw _ _ _ _); conv => whnf)
    | refine And.intro trivial ?_
    | exact trivial
    | assumption
    | exact k
    | refine And.intro (fun h => absurd h (by decide)) (fun _ => ?_)
    | refine And.intro (fun _ => ?_) (fun h => absurd (by decide) h)
    | refine And.intro (fun _ => ?_) (fun _ => ?_)
    | refine And.intro ?_ ?_
  all_goals (first | assumption | decide | omega | (intros; omega) | (intros; simp only [am_c] at * <;> omega) | (simp only [am_c, am_up] at * <;> omega) | (simp [am_c, am_up] at * <;> omega))
theorem v_full_X3_48 {l : Launch} {μ : am_N} {Q : Option am_V → am_N → Prop} {ν : am_N} (hS : sx ν μ) (k1 : μ 48 1 = 6 → Q (some (.inl 1)) μ) (k2 : μ 48 1 < 6 → Q (some (.inl 0)) μ) : am_Does l 41 [.inr (.inr 48)] μ Q := by
  refine am_Does_of (Nat.le_of_ble_eq_true rfl) (Nat.le_of_ble_eq_true rfl) (Nat.le_of_ble_eq_true rfl) ?_
  have hb := sx_all hS
  refine am_go (ct := fun _ => false) am_oX3_full 300 ?_
  conv => whnf
  repeat' first
    | (refine (?_ : am_wp _ _ _ _ _ _ _ _ _ _ _ _); conv => whnf)
    | (refine (?_ : am_sw _ _ _ _); conv => whnf)
    | refine And.intro trivial ?_
    | exact trivial
    | assumption
    | refine k1 ?_
    | refine k2 ?_
    | refine And.intro (fun h => absurd h (by decide)) (fun _ => ?_)
    | refine And.intro (fun _ => ?_) (fun h => absurd (by decide) h)
    | refine And.intro (fun _ => ?_) (fun _ => ?_)
    | refine And.intro ?_ ?_
  all_goals (first | assumption | decide | omega | (intros; omega) | (intros; simp only [am_c] at * <;> omega) | (simp only [am_c, am_up] at * <;> omega) | (simp [am_c, am_up] at * <;> omega))
theorem v_put_X3_48 {l : Launch} {μ : am_N} {Q : Option am_V → am_N → Prop} (v : Int) (hS : sx μ μ) (h1 : μ 48 1 < 6) (k : ∀ r μ', r = μ 48 1 + 1 → μ' = am_up (am_up μ 48 1 (μ 48 1 + 1)) 49 (μ 48 1).toNat v → Q (some (.inl r)) μ') : am_Does l 42 [.inr (.inr 48), .inl v] μ Q := by
  refine am_Does_of (Nat.le_of_ble_eq_true rfl) (Nat.le_of_ble_eq_true rfl) (Nat.le_of_ble_eq_true rfl) ?_
  have hb := sx_all hS
  have e1 : am_c (μ 48 1) = μ 48 1 := am_cR (by omega) (by omega)
  refine am_go (ct := fun _ => false) am_oX3_put 300 ?_
  conv => whnf
  repeat' first
    | (refine (?_ : am_wp _ _ _ _ _ _ _ _ _ _ _ _); conv => whnf)
    | (refine (?_ : am_sw _ _ _ _); conv => whnf)
    | refine And.intro trivial ?_
    | exact trivial
    | assumption
    | refine k _ _ ?_ ?_
    | refine v_full_X3_48 (ν := μ) hS (fun _ => ?_) (fun _ => ?_)
    | refine And.intro (fun h => absurd h (by decide)) (fun _ => ?_)
    | refine And.intro (fun _ => ?_) (fun h => absurd (by decide) h)
    | refine And.intro (fun _ => ?_) (fun _ => ?_)
    | refine And.intro ?_ ?_
  all_goals (first | assumption | decide | omega | (simp only [e1]; done) | (simp only [e1] at * <;> omega) | (simp only [am_c, am_up] at * <;> omega) | (simp [am_c, am_up] at * <;> omega))
theorem v_putE_X3_48 {l : Launch} {μ : am_N} {Q : Option am_V → am_N → Prop} (v : Int) (hS : sx μ μ) (h1 : μ 48 1 < 6) (k : Q (some (.inl (μ 48 1 + 1))) (am_up (am_up μ 48 1 (μ 48 1 + 1)) 49 (μ 48 1).toNat v)) : am_Does l 42 [.inr (.inr 48), .inl v] μ Q := v_put_X3_48 v hS h1 (fun r μ' e1 e2 => by subst e1; subst e2; exact k)
theorem v_drop_X3_53 {l : Launch} {μ : am_N} {Q : Option am_V → am_N → Prop} (k : Q (some (.inl (μ 53 1))) (am_up μ 53 1 0)) : am_Does l 44 [.inr (.inr 53)] μ Q := by
  refine am_Does_of (Nat.le_of_ble_eq_true rfl) (Nat.le_of_ble_eq_true rfl) (Nat.le_of_ble_eq_true rfl) ?_
  refine am_go (ct := fun _ => false) am_oX3_drop 300 ?_
  conv => whnf
  repeat' first
    | (refine (?_ : am_wp _ _ _ _ _ _ _ _ _ _ _ _); conv => whnf)
    | (refine (?_ : am_sw _ _ _ _); conv => whnf)
    | refine And.intro trivial ?_
    | exact trivial
    | assumption
    | exact k
    | refine And.intro (fun h => absurd h (by decide)) (fun _ => ?_)
    | refine And.intro (fun _ => ?_) (fun h => absurd (by decide) h)
    | refine And.intro (fun _ => ?_) (fun _ => ?_)
    | refine And.intro ?_ ?_
  all_goals (first | assumption | decide | omega | (intros; omega) | (intros; simp only [am_c] at * <;> omega) | (simp only [am_c, am_up] at * <;> omega) | (simp [am_c, am_up] at * <;> omega))
theorem v_full_X3_53 {l : Launch} {μ : am_N} {Q : Option am_V → am_N → Prop} {ν : am_N} (hS : sx ν μ) (k1 : μ 53 1 = 4 → Q (some (.inl 1)) μ) (k2 : μ 53 1 < 4 → Q (some (.inl 0)) μ) : am_Does l 41 [.inr (.inr 53)] μ Q := by
  refine am_Does_of (Nat.le_of_ble_eq_true rfl) (Nat.le_of_ble_eq_true rfl) (Nat.le_of_ble_eq_true rfl) ?_
  have hb := sx_all hS
  refine am_go (ct := fun _ => false) am_oX3_full 300 ?_
  conv => whnf
  repeat' first
    | (refine (?_ : am_wp _ _ _ _ _ _ _ _ _ _ _ _); conv => whnf)
    | (refine (?_ : am_sw _ _ _ _); conv => whnf)
    | refine And.intro trivial ?_
    | exact trivial
    | assumption
    | refine k1 ?_
    | refine k2 ?_
    | refine And.intro (fun h => absurd h (by decide)) (fun _ => ?_)
    | refine And.intro (fun _ => ?_) (fun h => absurd (by decide) h)
    | refine And.intro (fun _ => ?_) (fun _ => ?_)
    | refine And.intro ?_ ?_
  all_goals (first | assumption | decide | omega | (intros; omega) | (intros; simp only [am_c] at * <;> omega) | (simp only [am_c, am_up] at * <;> omega) | (simp [am_c, am_up] at * <;> omega))
theorem v_put_X3_53 {l : Launch} {μ : am_N} {Q : Option am_V → am_N → Prop} (v : Int) (hS : sx μ μ) (h1 : μ 53 1 < 4) (k : ∀ r μ', r = μ 53 1 + 1 → μ' = am_up (am_up μ 53 1 (μ 53 1 + 1)) 54 (μ 53 1).toNat v → Q (some (.inl r)) μ') : am_Does l 42 [.inr (.inr 53), .inl v] μ Q := by
  refine am_Does_of (Nat.le_of_ble_eq_true rfl) (Nat.le_of_ble_eq_true rfl) (Nat.le_of_ble_eq_true rfl) ?_
  have hb := sx_all hS
  have e1 : am_c (μ 53 1) = μ 53 1 := am_cR (by omega) (by omega)
  refine am_go (ct := fun _ => false) am_oX3_put 300 ?_
  conv => whnf
  repeat' first
    | (refine (?_ : am_wp _ _ _ _ _ _ _ _ _ _ _ _); conv => whnf)
    | (refine (?_ : am_sw _ _ _ _); conv => whnf)
    | refine And.intro trivial ?_
    | exact trivial
    | assumption
    | refine k _ _ ?_ ?_
    | refine v_full_X3_53 (ν := μ) hS (fun _ => ?_) (fun _ => ?_)
    | refine And.intro (fun h => absurd h (by decide)) (fun _ => ?_)
    | refine And.intro (fun _ => ?_) (fun h => absurd (by decide) h)
    | refine And.intro (fun _ => ?_) (fun _ => ?_)
    | refine And.intro ?_ ?_
  all_goals (first | assumption | decide | omega | (simp only [e1]; done) | (simp only [e1] at * <;> omega) | (simp only [am_c, am_up] at * <;> omega) | (simp [am_c, am_up] at * <;> omega))
theorem v_putE_X3_53 {l : Launch} {μ : am_N} {Q : Option am_V → am_N → Prop} (v : Int) (hS : sx μ μ) (h1 : μ 53 1 < 4) (k : Q (some (.inl (μ 53 1 + 1))) (am_up (am_up μ 53 1 (μ 53 1 + 1)) 54 (μ 53 1).toNat v)) : am_Does l 42 [.inr (.inr 53), .inl v] μ Q := v_put_X3_53 v hS h1 (fun r μ' e1 e2 => by subst e1; subst e2; exact k)
theorem v_drop_X3_55 {l : Launch} {μ : am_N} {Q : Option am_V → am_N → Prop} (k : Q (some (.inl (μ 55 1))) (am_up μ 55 1 0)) : am_Does l 44 [.inr (.inr 55)] μ Q := by
  refine am_Does_of (Nat.le_of_ble_eq_true rfl) (Nat.le_of_ble_eq_true rfl) (Nat.le_of_ble_eq_true rfl) ?_
  refine am_go (ct := fun _ => false) am_oX3_drop 300 ?_
  conv => whnf
  repeat' first
    | (refine (?_ : am_wp _ _ _ _ _ _ _ _ _ _ _ _); conv => whnf)
    | (refine (?_ : am_sw _ _ _ _); conv => whnf)
    | refine And.intro trivial ?_
    | exact trivial
    | assumption
    | exact k
    | refine And.intro (fun h => absurd h (by decide)) (fun _ => ?_)
    | refine And.intro (fun _ => ?_) (fun h => absurd (by decide) h)
    | refine And.intro (fun _ => ?_) (fun _ => ?_)
    | refine And.intro ?_ ?_
  all_goals (first | assumption | decide | omega | (intros; omega) | (intros; simp only [am_c] at * <;> omega) | (simp only [am_c, am_up] at * <;> omega) | (simp [am_c, am_up] at * <;> omega))
theorem v_full_X3_55 {l : Launch} {μ : am_N} {Q : Option am_V → am_N → Prop} {ν : am_N} (hS : sx ν μ) (k1 : μ 55 1 = 4 → Q (some (.inl 1)) μ) (k2 : μ 55 1 < 4 → Q (some (.inl 0)) μ) : am_Does l 41 [.inr (.inr 55)] μ Q := by
  refine am_Does_of (Nat.le_of_ble_eq_true rfl) (Nat.le_of_ble_eq_true rfl) (Nat.le_of_ble_eq_true rfl) ?_
  have hb := sx_all hS
  refine am_go (ct := fun _ => false) am_oX3_full 300 ?_
  conv => whnf
  repeat' first
    | (refine (?_ : am_wp _ _ _ _ _ _ _ _ _ _ _ _); conv => whnf)
    | (refine (?_ : am_sw _ _ _ _); conv => whnf)
    | refine And.intro trivial ?_
    | exact trivial
    | assumption
    | refine k1 ?_
    | refine k2 ?_
    | refine And.intro (fun h => absurd h (by decide)) (fun _ => ?_)
    | refine And.intro (fun _ => ?_) (fun h => absurd (by decide) h)
    | refine And.intro (fun _ => ?_) (fun _ => ?_)
    | refine And.intro ?_ ?_
  all_goals (first | assumption | decide | omega | (intros; omega) | (intros; simp only [am_c] at * <;> omega) | (simp only [am_c, am_up] at * <;> omega) | (simp [am_c, am_up] at * <;> omega))
theorem v_put_X3_55 {l : Launch} {μ : am_N} {Q : Option am_V → am_N → Prop} (v : Int) (hS : sx μ μ) (h1 : μ 55 1 < 4) (k : ∀ r μ', r = μ 55 1 + 1 → μ' = am_up (am_up μ 55 1 (μ 55 1 + 1)) 56 (μ 55 1).toNat v → Q (some (.inl r)) μ') : am_Does l 42 [.inr (.inr 55), .inl v] μ Q := by
  refine am_Does_of (Nat.le_of_ble_eq_true rfl) (Nat.le_of_ble_eq_true rfl) (Nat.le_of_ble_eq_true rfl) ?_
  have hb := sx_all hS
  have e1 : am_c (μ 55 1) = μ 55 1 := am_cR (by omega) (by omega)
  refine am_go (ct := fun _ => false) am_oX3_put 300 ?_
  conv => whnf
  repeat' first
    | (refine (?_ : am_wp _ _ _ _ _ _ _ _ _ _ _ _); conv => whnf)
    | (refine (?_ : am_sw _ _ _ _); conv => whnf)
    | refine And.intro trivial ?_
    | exact trivial
    | assumption
    | refine k _ _ ?_ ?_
    | refine v_full_X3_55 (ν := μ) hS (fun _ => ?_) (fun _ => ?_)
    | refine And.intro (fun h => absurd h (by decide)) (fun _ => ?_)
    | refine And.intro (fun _ => ?_) (fun h => absurd (by decide) h)
    | refine And.intro (fun _ => ?_) (fun _ => ?_)
    | refine And.intro ?_ ?_
  all_goals (first | assumption | decide | omega | (simp only [e1]; done) | (simp only [e1] at * <;> omega) | (simp only [am_c, am_up] at * <;> omega) | (simp [am_c, am_up] at * <;> omega))
theorem v_putE_X3_55 {l : Launch} {μ : am_N} {Q : Option am_V → am_N → Prop} (v : Int) (hS : sx μ μ) (h1 : μ 55 1 < 4) (k : Q (some (.inl (μ 55 1 + 1))) (am_up (am_up μ 55 1 (μ 55 1 + 1)) 56 (μ 55 1).toNat v)) : am_Does l 42 [.inr (.inr 55), .inl v] μ Q := v_put_X3_55 v hS h1 (fun r μ' e1 e2 => by subst e1; subst e2; exact k)
theorem am_aa6 {P : Nat → Prop} {a b c d e f : Nat} (h1 : P a) (h2 : P b) (h3 : P c) (h4 : P d) (h5 : P e) (h6 : P f) : ∀ (i j : Nat), ([a, b, c, d, e, f] : List Nat)[i]? = some j → P j
  | 0, j, h => by cases h; exact h1
  | 1, j, h => by cases h; exact h2
  | 2, j, h => by cases h; exact h3
  | 3, j, h => by cases h; exact h4
  | 4, j, h => by cases h; exact h5
  | 5, j, h => by cases h; exact h6
  | i + 6, j, h => by simp at h
theorem v_takeSettings_X0_1_8 {l : Launch} {μ : am_N} {Q : Option am_V → am_N → Prop} {ν : am_N}  (hS : gv [1, 2, 3, 4, 5, 6, 7, 36, 62] ν μ)  (k : ∀ μ', gv [1, 2, 3, 4, 5, 6, 7, 36, 62] ν μ' → Q none μ') : am_Does l 4 [.inr (.inr 1), .inr (.inr 8)] μ Q := by
  refine am_Does_of (Nat.le_of_ble_eq_true rfl) (Nat.le_of_ble_eq_true rfl) (Nat.le_of_ble_eq_true rfl) ?_
  have hb := sx_all hS.1
  refine am_go (ct := fun _ => false) am_oX0_takeSettings 300 ?_
  conv => whnf
  repeat' first
    | (refine (?_ : am_wp _ _ _ _ _ _ _ _ _ _ _ _); conv => whnf)
    | (refine (?_ : am_sw _ _ _ _); conv => whnf)
    | refine And.intro trivial ?_
    | exact trivial
    | assumption
    | refine k _ ?_
    | refine gv_up ?_ rfl rfl
    | refine gv_b1 ?_ rfl ?_
    | refine gv_b22 ?_ rfl ?_
    | refine gv_b36 ?_ rfl ?_
    | refine gv_b44 ?_ rfl ?_
    | refine gv_b46 ?_ rfl ?_
    | refine gv_b48 ?_ rfl ?_
    | refine gv_b50 ?_ rfl ?_
    | refine gv_b53 ?_ rfl ?_
    | refine gv_b55 ?_ rfl ?_
    | refine gv_b58 ?_ rfl ?_
    | refine gv_b60 ?_ rfl ?_
    | refine gv_b62 ?_ rfl ?_
    | refine gv_sx ?_ (by assumption)
    | exact sx_rb (by assumption)
    | exact hS.1
    | exact hv0.1
    | refine And.intro (fun h => absurd h (by decide)) (fun _ => ?_)
    | refine And.intro (fun _ => ?_) (fun h => absurd (by decide) h)
    | refine And.intro (fun _ => ?_) (fun _ => ?_)
    | refine And.intro ?_ ?_
  all_goals (first | assumption | decide | omega | (intros; omega) | (intros; simp only [am_c] at * <;> omega) | (simp only [am_c, am_up] at * <;> omega) | (simp [am_c, am_up] at * <;> omega))
theorem v_takeRunner_X0_1_8 {l : Launch} {μ : am_N} {Q : Option am_V → am_N → Prop} {ν : am_N} (i j : Int) (hS : gv [1, 2, 3, 4, 5, 6, 7, 36, 62] ν μ)  (k : ∀ μ', gv [1, 2, 3, 4, 5, 6, 7, 36, 62] ν μ' → Q none μ') : am_Does l 5 [.inr (.inr 1), .inl i, .inr (.inr 8), .inl j] μ Q := by
  refine am_Does_of (Nat.le_of_ble_eq_true rfl) (Nat.le_of_ble_eq_true rfl) (Nat.le_of_ble_eq_true rfl) ?_
  have hb := sx_all hS.1
  refine am_go (ct := fun _ => false) am_oX0_takeRunner 300 ?_
  conv => whnf
  repeat' first
    | (refine (?_ : am_wp _ _ _ _ _ _ _ _ _ _ _ _); conv => whnf)
    | (refine (?_ : am_sw _ _ _ _); conv => whnf)
    | refine And.intro trivial ?_
    | exact trivial
    | assumption
    | refine k _ ?_
    | refine gv_up ?_ rfl rfl
    | refine gv_b1 ?_ rfl ?_
    | refine gv_b22 ?_ rfl ?_
    | refine gv_b36 ?_ rfl ?_
    | refine gv_b44 ?_ rfl ?_
    | refine gv_b46 ?_ rfl ?_
    | refine gv_b48 ?_ rfl ?_
    | refine gv_b50 ?_ rfl ?_
    | refine gv_b53 ?_ rfl ?_
    | refine gv_b55 ?_ rfl ?_
    | refine gv_b58 ?_ rfl ?_
    | refine gv_b60 ?_ rfl ?_
    | refine gv_b62 ?_ rfl ?_
    | refine gv_sx ?_ (by assumption)
    | exact sx_rb (by assumption)
    | exact hS.1
    | exact hv0.1
    | refine And.intro (fun h => absurd h (by decide)) (fun _ => ?_)
    | refine And.intro (fun _ => ?_) (fun h => absurd (by decide) h)
    | refine And.intro (fun _ => ?_) (fun _ => ?_)
    | refine And.intro ?_ ?_
  all_goals (first | assumption | decide | omega | (intros; omega) | (intros; simp only [am_c] at * <;> omega) | (simp only [am_c, am_up] at * <;> omega) | (simp [am_c, am_up] at * <;> omega))
theorem v_take_X0_1_8 {l : Launch} {μ : am_N} {Q : Option am_V → am_N → Prop} {ν : am_N}  (hS : gv [1, 2, 3, 4, 5, 6, 7, 36, 62] ν μ)  (k : ∀ μ', gv [1, 2, 3, 4, 5, 6, 7, 36, 62] ν μ' → Q none μ') : am_Does l 2 [.inr (.inr 1), .inr (.inr 8)] μ Q := by
  refine am_Does_of (Nat.le_of_ble_eq_true rfl) (Nat.le_of_ble_eq_true rfl) (Nat.le_of_ble_eq_true rfl) ?_
  have hb := sx_all hS.1
  have lp15 : ∀ (m : Nat) (i : Int) (μ : am_N) , gv [1, 2, 3, 4, 5, 6, 7, 36, 62] ν μ → 0 ≤ i → i ≤ 4 → 4 - i < (m : Int) → am_AW l 0 (fun _ => 0) 2 Q 15 [some (.inr (.inr 1)), some (.inr (.inr 8)), some (.inl i)] [] μ := by
    intro m
    induction m with
    | zero =>
      intro i μ hv0 hv1 hv2 hm
      have hb := sx_all hv0.1
      exfalso
      omega
    | succ m ih =>
      intro i μ hv0 hv1 hv2 hm
      have hb := sx_all hv0.1
      refine am_go (ct := fun pc => Nat.beq pc 15) am_oX0_take 300 ?_
      conv => whnf
      repeat' first
        | (refine (?_ : am_wp _ _ _ _ _ _ _ _ _ _ _ _); conv => whnf)
        | (refine (?_ : am_sw _ _ _ _); conv => whnf)
        | refine And.intro trivial ?_
        | exact trivial
        | assumption
        | refine k _ ?_
        | refine v_takeSettings_X0_1_8 (ν := ν)  ?_  (fun _ _ => ?_)
        | refine v_takeRunner_X0_1_8 (ν := ν) _ _ ?_  (fun _ _ => ?_)
        | exact (sx_all (gv_i (E := [1, 2, 3, 4, 5, 6, 7, 36, 62]) (ν := ν) (by assumption))).2.1
        | refine w_takeSettings_X0_8_1  (gv_i (E := [1, 2, 3, 4, 5, 6, 7, 36, 62]) (ν := ν) (by repeat' first | assumption | refine gv_up ?_ rfl rfl | refine gv_sx ?_ (by assumption)))  (fun _ _ => ?_)
        | refine w_takeSettings_X0_15_8  (gv_i (E := [1, 2, 3, 4, 5, 6, 7, 36, 62]) (ν := ν) (by repeat' first | assumption | refine gv_up ?_ rfl rfl | refine gv_sx ?_ (by assumption)))  (fun _ _ => ?_)
        | refine w_takeSettings_X0_15_1  (gv_i (E := [1, 2, 3, 4, 5, 6, 7, 36, 62]) (ν := ν) (by repeat' first | assumption | refine gv_up ?_ rfl rfl | refine gv_sx ?_ (by assumption)))  (fun _ _ => ?_)
        | refine w_takeRunner_X0_8_1 _ _ (gv_i (E := [1, 2, 3, 4, 5, 6, 7, 36, 62]) (ν := ν) (by repeat' first | assumption | refine gv_up ?_ rfl rfl | refine gv_sx ?_ (by assumption)))  (fun _ _ => ?_)
        | refine w_takeRunner_X0_15_8 _ _ (gv_i (E := [1, 2, 3, 4, 5, 6, 7, 36, 62]) (ν := ν) (by repeat' first | assumption | refine gv_up ?_ rfl rfl | refine gv_sx ?_ (by assumption)))  (fun _ _ => ?_)
        | refine w_takeRunner_X0_15_1 _ _ (gv_i (E := [1, 2, 3, 4, 5, 6, 7, 36, 62]) (ν := ν) (by repeat' first | assumption | refine gv_up ?_ rfl rfl | refine gv_sx ?_ (by assumption)))  (fun _ _ => ?_)
        | refine gv_up ?_ rfl rfl
        | refine gv_b1 ?_ rfl ?_
        | refine gv_b22 ?_ rfl ?_
        | refine gv_b36 ?_ rfl ?_
        | refine gv_b44 ?_ rfl ?_
        | refine gv_b46 ?_ rfl ?_
        | refine gv_b48 ?_ rfl ?_
        | refine gv_b50 ?_ rfl ?_
        | refine gv_b53 ?_ rfl ?_
        | refine gv_b55 ?_ rfl ?_
        | refine gv_b58 ?_ rfl ?_
        | refine gv_b60 ?_ rfl ?_
        | refine gv_b62 ?_ rfl ?_
        | refine gv_sx ?_ (by assumption)
        | exact sx_rb (by assumption)
        | exact hS.1
        | exact hv0.1
        | refine ih _ _ ?_ ?_ ?_ ?_
        | refine And.intro (fun h => absurd h (by decide)) (fun _ => ?_)
        | refine And.intro (fun _ => ?_) (fun h => absurd (by decide) h)
        | refine And.intro (fun _ => ?_) (fun _ => ?_)
        | refine And.intro ?_ ?_
      all_goals (first | assumption | decide | omega | (intros; omega) | (intros; simp only [am_c] at * <;> omega) | (simp only [am_c, am_up] at * <;> omega) | (simp [am_c, am_up] at * <;> omega))
  have lp15' : ∀ (i : Int) (μ : am_N) , gv [1, 2, 3, 4, 5, 6, 7, 36, 62] ν μ → 0 ≤ i → i ≤ 4 → am_AW l 0 (fun _ => 0) 2 Q 15 [some (.inr (.inr 1)), some (.inr (.inr 8)), some (.inl i)] [] μ := fun i μ hv0 hv1 hv2 => lp15 ((4 - i) + 1).toNat i μ hv0 hv1 hv2 (by omega)
  refine am_go (ct := fun pc => Nat.beq pc 15) am_oX0_take 300 ?_
  conv => whnf
  repeat' first
    | (refine (?_ : am_wp _ _ _ _ _ _ _ _ _ _ _ _); conv => whnf)
    | (refine (?_ : am_sw _ _ _ _); conv => whnf)
    | refine And.intro trivial ?_
    | exact trivial
    | assumption
    | refine k _ ?_
    | refine v_takeSettings_X0_1_8 (ν := ν)  ?_  (fun _ _ => ?_)
    | refine v_takeRunner_X0_1_8 (ν := ν) _ _ ?_  (fun _ _ => ?_)
    | exact (sx_all (gv_i (E := [1, 2, 3, 4, 5, 6, 7, 36, 62]) (ν := ν) (by assumption))).2.1
    | refine w_takeSettings_X0_8_1  (gv_i (E := [1, 2, 3, 4, 5, 6, 7, 36, 62]) (ν := ν) (by repeat' first | assumption | refine gv_up ?_ rfl rfl | refine gv_sx ?_ (by assumption)))  (fun _ _ => ?_)
    | refine w_takeSettings_X0_15_8  (gv_i (E := [1, 2, 3, 4, 5, 6, 7, 36, 62]) (ν := ν) (by repeat' first | assumption | refine gv_up ?_ rfl rfl | refine gv_sx ?_ (by assumption)))  (fun _ _ => ?_)
    | refine w_takeSettings_X0_15_1  (gv_i (E := [1, 2, 3, 4, 5, 6, 7, 36, 62]) (ν := ν) (by repeat' first | assumption | refine gv_up ?_ rfl rfl | refine gv_sx ?_ (by assumption)))  (fun _ _ => ?_)
    | refine w_takeRunner_X0_8_1 _ _ (gv_i (E := [1, 2, 3, 4, 5, 6, 7, 36, 62]) (ν := ν) (by repeat' first | assumption | refine gv_up ?_ rfl rfl | refine gv_sx ?_ (by assumption)))  (fun _ _ => ?_)
    | refine w_takeRunner_X0_15_8 _ _ (gv_i (E := [1, 2, 3, 4, 5, 6, 7, 36, 62]) (ν := ν) (by repeat' first | assumption | refine gv_up ?_ rfl rfl | refine gv_sx ?_ (by assumption)))  (fun _ _ => ?_)
    | refine w_takeRunner_X0_15_1 _ _ (gv_i (E := [1, 2, 3, 4, 5, 6, 7, 36, 62]) (ν := ν) (by repeat' first | assumption | refine gv_up ?_ rfl rfl | refine gv_sx ?_ (by assumption)))  (fun _ _ => ?_)
    | refine gv_up ?_ rfl rfl
    | refine gv_b1 ?_ rfl ?_
    | refine gv_b22 ?_ rfl ?_
    | refine gv_b36 ?_ rfl ?_
    | refine gv_b44 ?_ rfl ?_
    | refine gv_b46 ?_ rfl ?_
    | refine gv_b48 ?_ rfl ?_
    | refine gv_b50 ?_ rfl ?_
    | refine gv_b53 ?_ rfl ?_
    | refine gv_b55 ?_ rfl ?_
    | refine gv_b58 ?_ rfl ?_
    | refine gv_b60 ?_ rfl ?_
    | refine gv_b62 ?_ rfl ?_
    | refine gv_sx ?_ (by assumption)
    | exact sx_rb (by assumption)
    | exact hS.1
    | exact hv0.1
    | refine lp15' _ _ ?_ ?_ ?_
    | refine And.intro (fun h => absurd h (by decide)) (fun _ => ?_)
    | refine And.intro (fun _ => ?_) (fun h => absurd (by decide) h)
    | refine And.intro (fun _ => ?_) (fun _ => ?_)
    | refine And.intro ?_ ?_
  all_goals (first | assumption | decide | omega | (intros; omega) | (intros; simp only [am_c] at * <;> omega) | (simp only [am_c, am_up] at * <;> omega) | (simp [am_c, am_up] at * <;> omega))
theorem v_takeSettings_X0_1_22 {l : Launch} {μ : am_N} {Q : Option am_V → am_N → Prop} {ν : am_N}  (hS : gv [1, 2, 3, 4, 5, 6, 7, 48, 49, 52, 53, 54, 55, 56, 62] ν μ)  (k : ∀ μ', gv [1, 2, 3, 4, 5, 6, 7, 48, 49, 52, 53, 54, 55, 56, 62] ν μ' → Q none μ') : am_Does l 4 [.inr (.inr 1), .inr (.inr 22)] μ Q := by
  refine am_Does_of (Nat.le_of_ble_eq_true rfl) (Nat.le_of_ble_eq_true rfl) (Nat.le_of_ble_eq_true rfl) ?_
  have hb := sx_all hS.1
  refine am_go (ct := fun _ => false) am_oX0_takeSettings 300 ?_
  conv => whnf
  repeat' first
    | (refine (?_ : am_wp _ _ _ _ _ _ _ _ _ _ _ _); conv => whnf)
    | (refine (?_ : am_sw _ _ _ _); conv => whnf)
    | refine And.intro trivial ?_
    | exact trivial
    | assumption
    | refine k _ ?_
    | refine gv_up ?_ rfl rfl
    | refine gv_b1 ?_ rfl ?_
    | refine gv_b22 ?_ rfl ?_
    | refine gv_b36 ?_ rfl ?_
    | refine gv_b44 ?_ rfl ?_
    | refine gv_b46 ?_ rfl ?_
    | refine gv_b48 ?_ rfl ?_
    | refine gv_b50 ?_ rfl ?_
    | refine gv_b53 ?_ rfl ?_
    | refine gv_b55 ?_ rfl ?_
    | refine gv_b58 ?_ rfl ?_
    | refine gv_b60 ?_ rfl ?_
    | refine gv_b62 ?_ rfl ?_
    | refine gv_sx ?_ (by assumption)
    | exact sx_rb (by assumption)
    | exact hS.1
    | exact hv0.1
    | refine And.intro (fun h => absurd h (by decide)) (fun _ => ?_)
    | refine And.intro (fun _ => ?_) (fun h => absurd (by decide) h)
    | refine And.intro (fun _ => ?_) (fun _ => ?_)
    | refine And.intro ?_ ?_
  all_goals (first | assumption | decide | omega | (intros; omega) | (intros; simp only [am_c] at * <;> omega) | (simp only [am_c, am_up] at * <;> omega) | (simp [am_c, am_up] at * <;> omega))
theorem v_takeRunner_X0_1_22 {l : Launch} {μ : am_N} {Q : Option am_V → am_N → Prop} {ν : am_N} (i j : Int) (hS : gv [1, 2, 3, 4, 5, 6, 7, 48, 49, 52, 53, 54, 55, 56, 62] ν μ)  (k : ∀ μ', gv [1, 2, 3, 4, 5, 6, 7, 48, 49, 52, 53, 54, 55, 56, 62] ν μ' → Q none μ') : am_Does l 5 [.inr (.inr 1), .inl i, .inr (.inr 22), .inl j] μ Q := by
  refine am_Does_of (Nat.le_of_ble_eq_true rfl) (Nat.le_of_ble_eq_true rfl) (Nat.le_of_ble_eq_true rfl) ?_
  have hb := sx_all hS.1
  refine am_go (ct := fun _ => false) am_oX0_takeRunner 300 ?_
  conv => whnf
  repeat' first
    | (refine (?_ : am_wp _ _ _ _ _ _ _ _ _ _ _ _); conv => whnf)
    | (refine (?_ : am_sw _ _ _ _); conv => whnf)
    | refine And.intro trivial ?_
    | exact trivial
    | assumption
    | refine k _ ?_
    | refine gv_up ?_ rfl rfl
    | refine gv_b1 ?_ rfl ?_
    | refine gv_b22 ?_ rfl ?_
    | refine gv_b36 ?_ rfl ?_
    | refine gv_b44 ?_ rfl ?_
    | refine gv_b46 ?_ rfl ?_
    | refine gv_b48 ?_ rfl ?_
    | refine gv_b50 ?_ rfl ?_
    | refine gv_b53 ?_ rfl ?_
    | refine gv_b55 ?_ rfl ?_
    | refine gv_b58 ?_ rfl ?_
    | refine gv_b60 ?_ rfl ?_
    | refine gv_b62 ?_ rfl ?_
    | refine gv_sx ?_ (by assumption)
    | exact sx_rb (by assumption)
    | exact hS.1
    | exact hv0.1
    | refine And.intro (fun h => absurd h (by decide)) (fun _ => ?_)
    | refine And.intro (fun _ => ?_) (fun h => absurd (by decide) h)
    | refine And.intro (fun _ => ?_) (fun _ => ?_)
    | refine And.intro ?_ ?_
  all_goals (first | assumption | decide | omega | (intros; omega) | (intros; simp only [am_c] at * <;> omega) | (simp only [am_c, am_up] at * <;> omega) | (simp [am_c, am_up] at * <;> omega))
theorem v_take_X0_1_22 {l : Launch} {μ : am_N} {Q : Option am_V → am_N → Prop} {ν : am_N}  (hS : gv [1, 2, 3, 4, 5, 6, 7, 48, 49, 52, 53, 54, 55, 56, 62] ν μ)  (k : ∀ μ', gv [1, 2, 3, 4, 5, 6, 7, 48, 49, 52, 53, 54, 55, 56, 62] ν μ' → Q none μ') : am_Does l 2 [.inr (.inr 1), .inr (.inr 22)] μ Q := by
  refine am_Does_of (Nat.le_of_ble_eq_true rfl) (Nat.le_of_ble_eq_true rfl) (Nat.le_of_ble_eq_true rfl) ?_
  have hb := sx_all hS.1
  have lp15 : ∀ (m : Nat) (i : Int) (μ : am_N) , gv [1, 2, 3, 4, 5, 6, 7, 48, 49, 52, 53, 54, 55, 56, 62] ν μ → 0 ≤ i → i ≤ 4 → 4 - i < (m : Int) → am_AW l 0 (fun _ => 0) 2 Q 15 [some (.inr (.inr 1)), some (.inr (.inr 22)), some (.inl i)] [] μ := by
    intro m
    induction m with
    | zero =>
      intro i μ hv0 hv1 hv2 hm
      have hb := sx_all hv0.1
      exfalso
      omega
    | succ m ih =>
      intro i μ hv0 hv1 hv2 hm
      have hb := sx_all hv0.1
      refine am_go (ct := fun pc => Nat.beq pc 15) am_oX0_take 300 ?_
      conv => whnf
      repeat' first
        | (refine (?_ : am_wp _ _ _ _ _ _ _ _ _ _ _ _); conv => whnf)
        | (refine (?_ : am_sw _ _ _ _); conv => whnf)
        | refine And.intro trivial ?_
        | exact trivial
        | assumption
        | refine k _ ?_
        | refine v_takeSettings_X0_1_22 (ν := ν)  ?_  (fun _ _ => ?_)
        | refine v_takeRunner_X0_1_22 (ν := ν) _ _ ?_  (fun _ _ => ?_)
        | exact (sx_all (gv_i (E := [1, 2, 3, 4, 5, 6, 7, 48, 49, 52, 53, 54, 55, 56, 62]) (ν := ν) (by assumption))).2.2.2.1
        | refine w_takeSettings_X0_8_1  (gv_i (E := [1, 2, 3, 4, 5, 6, 7, 48, 49, 52, 53, 54, 55, 56, 62]) (ν := ν) (by repeat' first | assumption | refine gv_up ?_ rfl rfl | refine gv_sx ?_ (by assumption)))  (fun _ _ => ?_)
        | refine w_takeSettings_X0_15_8  (gv_i (E := [1, 2, 3, 4, 5, 6, 7, 48, 49, 52, 53, 54, 55, 56, 62]) (ν := ν) (by repeat' first | assumption | refine gv_up ?_ rfl rfl | refine gv_sx ?_ (by assumption)))  (fun _ _ => ?_)
        | refine w_takeSettings_X0_15_1  (gv_i (E := [1, 2, 3, 4, 5, 6, 7, 48, 49, 52, 53, 54, 55, 56, 62]) (ν := ν) (by repeat' first | assumption | refine gv_up ?_ rfl rfl | refine gv_sx ?_ (by assumption)))  (fun _ _ => ?_)
        | refine w_takeRunner_X0_8_1 _ _ (gv_i (E := [1, 2, 3, 4, 5, 6, 7, 48, 49, 52, 53, 54, 55, 56, 62]) (ν := ν) (by repeat' first | assumption | refine gv_up ?_ rfl rfl | refine gv_sx ?_ (by assumption)))  (fun _ _ => ?_)
        | refine w_takeRunner_X0_15_8 _ _ (gv_i (E := [1, 2, 3, 4, 5, 6, 7, 48, 49, 52, 53, 54, 55, 56, 62]) (ν := ν) (by repeat' first | assumption | refine gv_up ?_ rfl rfl | refine gv_sx ?_ (by assumption)))  (fun _ _ => ?_)
        | refine w_takeRunner_X0_15_1 _ _ (gv_i (E := [1, 2, 3, 4, 5, 6, 7, 48, 49, 52, 53, 54, 55, 56, 62]) (ν := ν) (by repeat' first | assumption | refine gv_up ?_ rfl rfl | refine gv_sx ?_ (by assumption)))  (fun _ _ => ?_)
        | refine gv_up ?_ rfl rfl
        | refine gv_b1 ?_ rfl ?_
        | refine gv_b22 ?_ rfl ?_
        | refine gv_b36 ?_ rfl ?_
        | refine gv_b44 ?_ rfl ?_
        | refine gv_b46 ?_ rfl ?_
        | refine gv_b48 ?_ rfl ?_
        | refine gv_b50 ?_ rfl ?_
        | refine gv_b53 ?_ rfl ?_
        | refine gv_b55 ?_ rfl ?_
        | refine gv_b58 ?_ rfl ?_
        | refine gv_b60 ?_ rfl ?_
        | refine gv_b62 ?_ rfl ?_
        | refine gv_sx ?_ (by assumption)
        | exact sx_rb (by assumption)
        | exact hS.1
        | exact hv0.1
        | refine ih _ _ ?_ ?_ ?_ ?_
        | refine And.intro (fun h => absurd h (by decide)) (fun _ => ?_)
        | refine And.intro (fun _ => ?_) (fun h => absurd (by decide) h)
        | refine And.intro (fun _ => ?_) (fun _ => ?_)
        | refine And.intro ?_ ?_
      all_goals (first | assumption | decide | omega | (intros; omega) | (intros; simp only [am_c] at * <;> omega) | (simp only [am_c, am_up] at * <;> omega) | (simp [am_c, am_up] at * <;> omega))
  have lp15' : ∀ (i : Int) (μ : am_N) , gv [1, 2, 3, 4, 5, 6, 7, 48, 49, 52, 53, 54, 55, 56, 62] ν μ → 0 ≤ i → i ≤ 4 → am_AW l 0 (fun _ => 0) 2 Q 15 [some (.inr (.inr 1)), some (.inr (.inr 22)), some (.inl i)] [] μ := fun i μ hv0 hv1 hv2 => lp15 ((4 - i) + 1).toNat i μ hv0 hv1 hv2 (by omega)
  refine am_go (ct := fun pc => Nat.beq pc 15) am_oX0_take 300 ?_
  conv => whnf
  repeat' first
    | (refine (?_ : am_wp _ _ _ _ _ _ _ _ _ _ _ _); conv => whnf)
    | (refine (?_ : am_sw _ _ _ _); conv => whnf)
    | refine And.intro trivial ?_
    | exact trivial
    | assumption
    | refine k _ ?_
    | refine v_takeSettings_X0_1_22 (ν := ν)  ?_  (fun _ _ => ?_)
    | refine v_takeRunner_X0_1_22 (ν := ν) _ _ ?_  (fun _ _ => ?_)
    | exact (sx_all (gv_i (E := [1, 2, 3, 4, 5, 6, 7, 48, 49, 52, 53, 54, 55, 56, 62]) (ν := ν) (by assumption))).2.2.2.1
    | refine w_takeSettings_X0_8_1  (gv_i (E := [1, 2, 3, 4, 5, 6, 7, 48, 49, 52, 53, 54, 55, 56, 62]) (ν := ν) (by repeat' first | assumption | refine gv_up ?_ rfl rfl | refine gv_sx ?_ (by assumption)))  (fun _ _ => ?_)
    | refine w_takeSettings_X0_15_8  (gv_i (E := [1, 2, 3, 4, 5, 6, 7, 48, 49, 52, 53, 54, 55, 56, 62]) (ν := ν) (by repeat' first | assumption | refine gv_up ?_ rfl rfl | refine gv_sx ?_ (by assumption)))  (fun _ _ => ?_)
    | refine w_takeSettings_X0_15_1  (gv_i (E := [1, 2, 3, 4, 5, 6, 7, 48, 49, 52, 53, 54, 55, 56, 62]) (ν := ν) (by repeat' first | assumption | refine gv_up ?_ rfl rfl | refine gv_sx ?_ (by assumption)))  (fun _ _ => ?_)
    | refine w_takeRunner_X0_8_1 _ _ (gv_i (E := [1, 2, 3, 4, 5, 6, 7, 48, 49, 52, 53, 54, 55, 56, 62]) (ν := ν) (by repeat' first | assumption | refine gv_up ?_ rfl rfl | refine gv_sx ?_ (by assumption)))  (fun _ _ => ?_)
    | refine w_takeRunner_X0_15_8 _ _ (gv_i (E := [1, 2, 3, 4, 5, 6, 7, 48, 49, 52, 53, 54, 55, 56, 62]) (ν := ν) (by repeat' first | assumption | refine gv_up ?_ rfl rfl | refine gv_sx ?_ (by assumption)))  (fun _ _ => ?_)
    | refine w_takeRunner_X0_15_1 _ _ (gv_i (E := [1, 2, 3, 4, 5, 6, 7, 48, 49, 52, 53, 54, 55, 56, 62]) (ν := ν) (by repeat' first | assumption | refine gv_up ?_ rfl rfl | refine gv_sx ?_ (by assumption)))  (fun _ _ => ?_)
    | refine gv_up ?_ rfl rfl
    | refine gv_b1 ?_ rfl ?_
    | refine gv_b22 ?_ rfl ?_
    | refine gv_b36 ?_ rfl ?_
    | refine gv_b44 ?_ rfl ?_
    | refine gv_b46 ?_ rfl ?_
    | refine gv_b48 ?_ rfl ?_
    | refine gv_b50 ?_ rfl ?_
    | refine gv_b53 ?_ rfl ?_
    | refine gv_b55 ?_ rfl ?_
    | refine gv_b58 ?_ rfl ?_
    | refine gv_b60 ?_ rfl ?_
    | refine gv_b62 ?_ rfl ?_
    | refine gv_sx ?_ (by assumption)
    | exact sx_rb (by assumption)
    | exact hS.1
    | exact hv0.1
    | refine lp15' _ _ ?_ ?_ ?_
    | refine And.intro (fun h => absurd h (by decide)) (fun _ => ?_)
    | refine And.intro (fun _ => ?_) (fun h => absurd (by decide) h)
    | refine And.intro (fun _ => ?_) (fun _ => ?_)
    | refine And.intro ?_ ?_
  all_goals (first | assumption | decide | omega | (intros; omega) | (intros; simp only [am_c] at * <;> omega) | (simp only [am_c, am_up] at * <;> omega) | (simp [am_c, am_up] at * <;> omega))
theorem v_takeSettings_X0_22_1 {l : Launch} {μ : am_N} {Q : Option am_V → am_N → Prop} {ν : am_N}  (hS : gv [22, 23, 24, 25, 26, 27, 28, 50, 51, 57, 58, 59, 60, 61, 0] ν μ)  (k : ∀ μ', gv [22, 23, 24, 25, 26, 27, 28, 50, 51, 57, 58, 59, 60, 61, 0] ν μ' → Q none μ') : am_Does l 4 [.inr (.inr 22), .inr (.inr 1)] μ Q := by
  refine am_Does_of (Nat.le_of_ble_eq_true rfl) (Nat.le_of_ble_eq_true rfl) (Nat.le_of_ble_eq_true rfl) ?_
  have hb := sx_all hS.1
  refine am_go (ct := fun _ => false) am_oX0_takeSettings 300 ?_
  conv => whnf
  repeat' first
    | (refine (?_ : am_wp _ _ _ _ _ _ _ _ _ _ _ _); conv => whnf)
    | (refine (?_ : am_sw _ _ _ _); conv => whnf)
    | refine And.intro trivial ?_
    | exact trivial
    | assumption
    | refine k _ ?_
    | refine gv_up ?_ rfl rfl
    | refine gv_b1 ?_ rfl ?_
    | refine gv_b22 ?_ rfl ?_
    | refine gv_b36 ?_ rfl ?_
    | refine gv_b44 ?_ rfl ?_
    | refine gv_b46 ?_ rfl ?_
    | refine gv_b48 ?_ rfl ?_
    | refine gv_b50 ?_ rfl ?_
    | refine gv_b53 ?_ rfl ?_
    | refine gv_b55 ?_ rfl ?_
    | refine gv_b58 ?_ rfl ?_
    | refine gv_b60 ?_ rfl ?_
    | refine gv_b62 ?_ rfl ?_
    | refine gv_sx ?_ (by assumption)
    | exact sx_rb (by assumption)
    | exact hS.1
    | exact hv0.1
    | refine And.intro (fun h => absurd h (by decide)) (fun _ => ?_)
    | refine And.intro (fun _ => ?_) (fun h => absurd (by decide) h)
    | refine And.intro (fun _ => ?_) (fun _ => ?_)
    | refine And.intro ?_ ?_
  all_goals (first | assumption | decide | omega | (intros; omega) | (intros; simp only [am_c] at * <;> omega) | (simp only [am_c, am_up] at * <;> omega) | (simp [am_c, am_up] at * <;> omega))
theorem v_takeRunner_X0_22_1 {l : Launch} {μ : am_N} {Q : Option am_V → am_N → Prop} {ν : am_N} (i j : Int) (hS : gv [22, 23, 24, 25, 26, 27, 28, 50, 51, 57, 58, 59, 60, 61, 0] ν μ)  (k : ∀ μ', gv [22, 23, 24, 25, 26, 27, 28, 50, 51, 57, 58, 59, 60, 61, 0] ν μ' → Q none μ') : am_Does l 5 [.inr (.inr 22), .inl i, .inr (.inr 1), .inl j] μ Q := by
  refine am_Does_of (Nat.le_of_ble_eq_true rfl) (Nat.le_of_ble_eq_true rfl) (Nat.le_of_ble_eq_true rfl) ?_
  have hb := sx_all hS.1
  refine am_go (ct := fun _ => false) am_oX0_takeRunner 300 ?_
  conv => whnf
  repeat' first
    | (refine (?_ : am_wp _ _ _ _ _ _ _ _ _ _ _ _); conv => whnf)
    | (refine (?_ : am_sw _ _ _ _); conv => whnf)
    | refine And.intro trivial ?_
    | exact trivial
    | assumption
    | refine k _ ?_
    | refine gv_up ?_ rfl rfl
    | refine gv_b1 ?_ rfl ?_
    | refine gv_b22 ?_ rfl ?_
    | refine gv_b36 ?_ rfl ?_
    | refine gv_b44 ?_ rfl ?_
    | refine gv_b46 ?_ rfl ?_
    | refine gv_b48 ?_ rfl ?_
    | refine gv_b50 ?_ rfl ?_
    | refine gv_b53 ?_ rfl ?_
    | refine gv_b55 ?_ rfl ?_
    | refine gv_b58 ?_ rfl ?_
    | refine gv_b60 ?_ rfl ?_
    | refine gv_b62 ?_ rfl ?_
    | refine gv_sx ?_ (by assumption)
    | exact sx_rb (by assumption)
    | exact hS.1
    | exact hv0.1
    | refine And.intro (fun h => absurd h (by decide)) (fun _ => ?_)
    | refine And.intro (fun _ => ?_) (fun h => absurd (by decide) h)
    | refine And.intro (fun _ => ?_) (fun _ => ?_)
    | refine And.intro ?_ ?_
  all_goals (first | assumption | decide | omega | (intros; omega) | (intros; simp only [am_c] at * <;> omega) | (simp only [am_c, am_up] at * <;> omega) | (simp [am_c, am_up] at * <;> omega))
theorem v_take_X0_22_1 {l : Launch} {μ : am_N} {Q : Option am_V → am_N → Prop} {ν : am_N}  (hS : gv [22, 23, 24, 25, 26, 27, 28, 50, 51, 57, 58, 59, 60, 61, 0] ν μ)  (k : ∀ μ', gv [22, 23, 24, 25, 26, 27, 28, 50, 51, 57, 58, 59, 60, 61, 0] ν μ' → Q none μ') : am_Does l 2 [.inr (.inr 22), .inr (.inr 1)] μ Q := by
  refine am_Does_of (Nat.le_of_ble_eq_true rfl) (Nat.le_of_ble_eq_true rfl) (Nat.le_of_ble_eq_true rfl) ?_
  have hb := sx_all hS.1
  have lp15 : ∀ (m : Nat) (i : Int) (μ : am_N) , gv [22, 23, 24, 25, 26, 27, 28, 50, 51, 57, 58, 59, 60, 61, 0] ν μ → 0 ≤ i → i ≤ 4 → 4 - i < (m : Int) → am_AW l 0 (fun _ => 0) 2 Q 15 [some (.inr (.inr 22)), some (.inr (.inr 1)), some (.inl i)] [] μ := by
    intro m
    induction m with
    | zero =>
      intro i μ hv0 hv1 hv2 hm
      have hb := sx_all hv0.1
      exfalso
      omega
    | succ m ih =>
      intro i μ hv0 hv1 hv2 hm
      have hb := sx_all hv0.1
      refine am_go (ct := fun pc => Nat.beq pc 15) am_oX0_take 300 ?_
      conv => whnf
      repeat' first
        | (refine (?_ : am_wp _ _ _ _ _ _ _ _ _ _ _ _); conv => whnf)
        | (refine (?_ : am_sw _ _ _ _); conv => whnf)
        | refine And.intro trivial ?_
        | exact trivial
        | assumption
        | refine k _ ?_
        | refine v_takeSettings_X0_22_1 (ν := ν)  ?_  (fun _ _ => ?_)
        | refine v_takeRunner_X0_22_1 (ν := ν) _ _ ?_  (fun _ _ => ?_)
        | exact (sx_all (gv_i (E := [22, 23, 24, 25, 26, 27, 28, 50, 51, 57, 58, 59, 60, 61, 0]) (ν := ν) (by assumption))).1
        | refine w_takeSettings_X0_8_1  (gv_i (E := [22, 23, 24, 25, 26, 27, 28, 50, 51, 57, 58, 59, 60, 61, 0]) (ν := ν) (by repeat' first | assumption | refine gv_up ?_ rfl rfl | refine gv_sx ?_ (by assumption)))  (fun _ _ => ?_)
        | refine w_takeSettings_X0_15_8  (gv_i (E := [22, 23, 24, 25, 26, 27, 28, 50, 51, 57, 58, 59, 60, 61, 0]) (ν := ν) (by repeat' first | assumption | refine gv_up ?_ rfl rfl | refine gv_sx ?_ (by assumption)))  (fun _ _ => ?_)
        | refine w_takeSettings_X0_15_1  (gv_i (E := [22, 23, 24, 25, 26, 27, 28, 50, 51, 57, 58, 59, 60, 61, 0]) (ν := ν) (by repeat' first | assumption | refine gv_up ?_ rfl rfl | refine gv_sx ?_ (by assumption)))  (fun _ _ => ?_)
        | refine w_takeRunner_X0_8_1 _ _ (gv_i (E := [22, 23, 24, 25, 26, 27, 28, 50, 51, 57, 58, 59, 60, 61, 0]) (ν := ν) (by repeat' first | assumption | refine gv_up ?_ rfl rfl | refine gv_sx ?_ (by assumption)))  (fun _ _ => ?_)
        | refine w_takeRunner_X0_15_8 _ _ (gv_i (E := [22, 23, 24, 25, 26, 27, 28, 50, 51, 57, 58, 59, 60, 61, 0]) (ν := ν) (by repeat' first | assumption | refine gv_up ?_ rfl rfl | refine gv_sx ?_ (by assumption)))  (fun _ _ => ?_)
        | refine w_takeRunner_X0_15_1 _ _ (gv_i (E := [22, 23, 24, 25, 26, 27, 28, 50, 51, 57, 58, 59, 60, 61, 0]) (ν := ν) (by repeat' first | assumption | refine gv_up ?_ rfl rfl | refine gv_sx ?_ (by assumption)))  (fun _ _ => ?_)
        | refine gv_up ?_ rfl rfl
        | refine gv_b1 ?_ rfl ?_
        | refine gv_b22 ?_ rfl ?_
        | refine gv_b36 ?_ rfl ?_
        | refine gv_b44 ?_ rfl ?_
        | refine gv_b46 ?_ rfl ?_
        | refine gv_b48 ?_ rfl ?_
        | refine gv_b50 ?_ rfl ?_
        | refine gv_b53 ?_ rfl ?_
        | refine gv_b55 ?_ rfl ?_
        | refine gv_b58 ?_ rfl ?_
        | refine gv_b60 ?_ rfl ?_
        | refine gv_b62 ?_ rfl ?_
        | refine gv_sx ?_ (by assumption)
        | exact sx_rb (by assumption)
        | exact hS.1
        | exact hv0.1
        | refine ih _ _ ?_ ?_ ?_ ?_
        | refine And.intro (fun h => absurd h (by decide)) (fun _ => ?_)
        | refine And.intro (fun _ => ?_) (fun h => absurd (by decide) h)
        | refine And.intro (fun _ => ?_) (fun _ => ?_)
        | refine And.intro ?_ ?_
      all_goals (first | assumption | decide | omega | (intros; omega) | (intros; simp only [am_c] at * <;> omega) | (simp only [am_c, am_up] at * <;> omega) | (simp [am_c, am_up] at * <;> omega))
  have lp15' : ∀ (i : Int) (μ : am_N) , gv [22, 23, 24, 25, 26, 27, 28, 50, 51, 57, 58, 59, 60, 61, 0] ν μ → 0 ≤ i → i ≤ 4 → am_AW l 0 (fun _ => 0) 2 Q 15 [some (.inr (.inr 22)), some (.inr (.inr 1)), some (.inl i)] [] μ := fun i μ hv0 hv1 hv2 => lp15 ((4 - i) + 1).toNat i μ hv0 hv1 hv2 (by omega)
  refine am_go (ct := fun pc => Nat.beq pc 15) am_oX0_take 300 ?_
  conv => whnf
  repeat' first
    | (refine (?_ : am_wp _ _ _ _ _ _ _ _ _ _ _ _); conv => whnf)
    | (refine (?_ : am_sw _ _ _ _); conv => whnf)
    | refine And.intro trivial ?_
    | exact trivial
    | assumption
    | refine k _ ?_
    | refine v_takeSettings_X0_22_1 (ν := ν)  ?_  (fun _ _ => ?_)
    | refine v_takeRunner_X0_22_1 (ν := ν) _ _ ?_  (fun _ _ => ?_)
    | exact (sx_all (gv_i (E := [22, 23, 24, 25, 26, 27, 28, 50, 51, 57, 58, 59, 60, 61, 0]) (ν := ν) (by assumption))).1
    | refine w_takeSettings_X0_8_1  (gv_i (E := [22, 23, 24, 25, 26, 27, 28, 50, 51, 57, 58, 59, 60, 61, 0]) (ν := ν) (by repeat' first | assumption | refine gv_up ?_ rfl rfl | refine gv_sx ?_ (by assumption)))  (fun _ _ => ?_)
    | refine w_takeSettings_X0_15_8  (gv_i (E := [22, 23, 24, 25, 26, 27, 28, 50, 51, 57, 58, 59, 60, 61, 0]) (ν := ν) (by repeat' first | assumption | refine gv_up ?_ rfl rfl | refine gv_sx ?_ (by assumption)))  (fun _ _ => ?_)
    | refine w_takeSettings_X0_15_1  (gv_i (E := [22, 23, 24, 25, 26, 27, 28, 50, 51, 57, 58, 59, 60, 61, 0]) (ν := ν) (by repeat' first | assumption | refine gv_up ?_ rfl rfl | refine gv_sx ?_ (by assumption)))  (fun _ _ => ?_)
    | refine w_takeRunner_X0_8_1 _ _ (gv_i (E := [22, 23, 24, 25, 26, 27, 28, 50, 51, 57, 58, 59, 60, 61, 0]) (ν := ν) (by repeat' first | assumption | refine gv_up ?_ rfl rfl | refine gv_sx ?_ (by assumption)))  (fun _ _ => ?_)
    | refine w_takeRunner_X0_15_8 _ _ (gv_i (E := [22, 23, 24, 25, 26, 27, 28, 50, 51, 57, 58, 59, 60, 61, 0]) (ν := ν) (by repeat' first | assumption | refine gv_up ?_ rfl rfl | refine gv_sx ?_ (by assumption)))  (fun _ _ => ?_)
    | refine w_takeRunner_X0_15_1 _ _ (gv_i (E := [22, 23, 24, 25, 26, 27, 28, 50, 51, 57, 58, 59, 60, 61, 0]) (ν := ν) (by repeat' first | assumption | refine gv_up ?_ rfl rfl | refine gv_sx ?_ (by assumption)))  (fun _ _ => ?_)
    | refine gv_up ?_ rfl rfl
    | refine gv_b1 ?_ rfl ?_
    | refine gv_b22 ?_ rfl ?_
    | refine gv_b36 ?_ rfl ?_
    | refine gv_b44 ?_ rfl ?_
    | refine gv_b46 ?_ rfl ?_
    | refine gv_b48 ?_ rfl ?_
    | refine gv_b50 ?_ rfl ?_
    | refine gv_b53 ?_ rfl ?_
    | refine gv_b55 ?_ rfl ?_
    | refine gv_b58 ?_ rfl ?_
    | refine gv_b60 ?_ rfl ?_
    | refine gv_b62 ?_ rfl ?_
    | refine gv_sx ?_ (by assumption)
    | exact sx_rb (by assumption)
    | exact hS.1
    | exact hv0.1
    | refine lp15' _ _ ?_ ?_ ?_
    | refine And.intro (fun h => absurd h (by decide)) (fun _ => ?_)
    | refine And.intro (fun _ => ?_) (fun h => absurd (by decide) h)
    | refine And.intro (fun _ => ?_) (fun _ => ?_)
    | refine And.intro ?_ ?_
  all_goals (first | assumption | decide | omega | (intros; omega) | (intros; simp only [am_c] at * <;> omega) | (simp only [am_c, am_up] at * <;> omega) | (simp [am_c, am_up] at * <;> omega))
theorem v_take_X3_50_48 {l : Launch} {μ : am_N} {Q : Option am_V → am_N → Prop} {ν : am_N}  (hS : gv [22, 23, 24, 25, 26, 27, 28, 50, 51, 57, 58, 59, 60, 61, 0] ν μ)  (k : ∀ μ', gv [22, 23, 24, 25, 26, 27, 28, 50, 51, 57, 58, 59, 60, 61, 0] ν μ' → Q none μ') : am_Does l 45 [.inr (.inr 50), .inr (.inr 48)] μ Q := by
  refine am_Does_of (Nat.le_of_ble_eq_true rfl) (Nat.le_of_ble_eq_true rfl) (Nat.le_of_ble_eq_true rfl) ?_
  have hb := sx_all hS.1
  have lp18 : ∀ (m : Nat) (i : Int) (μ : am_N) , gv [22, 23, 24, 25, 26, 27, 28, 50, 51, 57, 58, 59, 60, 61, 0] ν μ → 0 ≤ i → i ≤ 6 → 6 - i < (m : Int) → am_AW l 0 (fun _ => 0) 45 Q 18 [some (.inr (.inr 50)), some (.inr (.inr 48)), some (.inl i)] [] μ := by
    intro m
    induction m with
    | zero =>
      intro i μ hv0 hv1 hv2 hm
      have hb := sx_all hv0.1
      exfalso
      omega
    | succ m ih =>
      intro i μ hv0 hv1 hv2 hm
      have hb := sx_all hv0.1
      refine am_go (ct := fun pc => Nat.beq pc 18) am_oX3_take 300 ?_
      conv => whnf
      repeat' first
        | (refine (?_ : am_wp _ _ _ _ _ _ _ _ _ _ _ _); conv => whnf)
        | (refine (?_ : am_sw _ _ _ _); conv => whnf)
        | refine And.intro trivial ?_
        | exact trivial
        | assumption
        | refine k _ ?_
        | refine w_at_X3_44 _ (gv_i (E := [22, 23, 24, 25, 26, 27, 28, 50, 51, 57, 58, 59, 60, 61, 0]) (ν := ν) (by repeat' first | assumption | refine gv_up ?_ rfl rfl | refine gv_sx ?_ (by assumption)))  (fun _ => ?_)
        | refine w_at_X3_46 _ (gv_i (E := [22, 23, 24, 25, 26, 27, 28, 50, 51, 57, 58, 59, 60, 61, 0]) (ν := ν) (by repeat' first | assumption | refine gv_up ?_ rfl rfl | refine gv_sx ?_ (by assumption)))  (fun _ => ?_)
        | refine w_at_X3_48 _ (gv_i (E := [22, 23, 24, 25, 26, 27, 28, 50, 51, 57, 58, 59, 60, 61, 0]) (ν := ν) (by repeat' first | assumption | refine gv_up ?_ rfl rfl | refine gv_sx ?_ (by assumption)))  (fun _ => ?_)
        | refine w_at_X3_50 _ (gv_i (E := [22, 23, 24, 25, 26, 27, 28, 50, 51, 57, 58, 59, 60, 61, 0]) (ν := ν) (by repeat' first | assumption | refine gv_up ?_ rfl rfl | refine gv_sx ?_ (by assumption)))  (fun _ => ?_)
        | refine w_at_X3_53 _ (gv_i (E := [22, 23, 24, 25, 26, 27, 28, 50, 51, 57, 58, 59, 60, 61, 0]) (ν := ν) (by repeat' first | assumption | refine gv_up ?_ rfl rfl | refine gv_sx ?_ (by assumption)))  (fun _ => ?_)
        | refine w_at_X3_55 _ (gv_i (E := [22, 23, 24, 25, 26, 27, 28, 50, 51, 57, 58, 59, 60, 61, 0]) (ν := ν) (by repeat' first | assumption | refine gv_up ?_ rfl rfl | refine gv_sx ?_ (by assumption)))  (fun _ => ?_)
        | refine w_at_X3_58 _ (gv_i (E := [22, 23, 24, 25, 26, 27, 28, 50, 51, 57, 58, 59, 60, 61, 0]) (ν := ν) (by repeat' first | assumption | refine gv_up ?_ rfl rfl | refine gv_sx ?_ (by assumption)))  (fun _ => ?_)
        | refine w_at_X3_60 _ (gv_i (E := [22, 23, 24, 25, 26, 27, 28, 50, 51, 57, 58, 59, 60, 61, 0]) (ν := ν) (by repeat' first | assumption | refine gv_up ?_ rfl rfl | refine gv_sx ?_ (by assumption)))  (fun _ => ?_)
        | refine w_at36 _ (gv_i (E := [22, 23, 24, 25, 26, 27, 28, 50, 51, 57, 58, 59, 60, 61, 0]) (ν := ν) (by repeat' first | assumption | refine gv_up ?_ rfl rfl | refine gv_sx ?_ (by assumption))) (fun _ _ _ => ?_) ?_
        | refine gv_up ?_ rfl rfl
        | refine gv_b1 ?_ rfl ?_
        | refine gv_b22 ?_ rfl ?_
        | refine gv_b36 ?_ rfl ?_
        | refine gv_b44 ?_ rfl ?_
        | refine gv_b46 ?_ rfl ?_
        | refine gv_b48 ?_ rfl ?_
        | refine gv_b50 ?_ rfl ?_
        | refine gv_b53 ?_ rfl ?_
        | refine gv_b55 ?_ rfl ?_
        | refine gv_b58 ?_ rfl ?_
        | refine gv_b60 ?_ rfl ?_
        | refine gv_b62 ?_ rfl ?_
        | refine gv_sx ?_ (by assumption)
        | exact sx_rb (by assumption)
        | exact hS.1
        | exact hv0.1
        | refine ih _ _ ?_ ?_ ?_ ?_
        | refine And.intro (fun h => absurd h (by decide)) (fun _ => ?_)
        | refine And.intro (fun _ => ?_) (fun h => absurd (by decide) h)
        | refine And.intro (fun _ => ?_) (fun _ => ?_)
        | refine And.intro ?_ ?_
      all_goals (first | assumption | decide | omega | (split <;> simp only [am_c] at * <;> omega) | (intros; omega) | (simp only [am_c, am_up] at * <;> omega) | (simp [am_c, am_up] at * <;> omega))
  have lp18' : ∀ (i : Int) (μ : am_N) , gv [22, 23, 24, 25, 26, 27, 28, 50, 51, 57, 58, 59, 60, 61, 0] ν μ → 0 ≤ i → i ≤ 6 → am_AW l 0 (fun _ => 0) 45 Q 18 [some (.inr (.inr 50)), some (.inr (.inr 48)), some (.inl i)] [] μ := fun i μ hv0 hv1 hv2 => lp18 ((6 - i) + 1).toNat i μ hv0 hv1 hv2 (by omega)
  refine am_go (ct := fun pc => Nat.beq pc 18) am_oX3_take 300 ?_
  conv => whnf
  repeat' first
    | (refine (?_ : am_wp _ _ _ _ _ _ _ _ _ _ _ _); conv => whnf)
    | (refine (?_ : am_sw _ _ _ _); conv => whnf)
    | refine And.intro trivial ?_
    | exact trivial
    | assumption
    | refine k _ ?_
    | refine w_at_X3_44 _ (gv_i (E := [22, 23, 24, 25, 26, 27, 28, 50, 51, 57, 58, 59, 60, 61, 0]) (ν := ν) (by repeat' first | assumption | refine gv_up ?_ rfl rfl | refine gv_sx ?_ (by assumption)))  (fun _ => ?_)
    | refine w_at_X3_46 _ (gv_i (E := [22, 23, 24, 25, 26, 27, 28, 50, 51, 57, 58, 59, 60, 61, 0]) (ν := ν) (by repeat' first | assumption | refine gv_up ?_ rfl rfl | refine gv_sx ?_ (by assumption)))  (fun _ => ?_)
    | refine w_at_X3_48 _ (gv_i (E := [22, 23, 24, 25, 26, 27, 28, 50, 51, 57, 58, 59, 60, 61, 0]) (ν := ν) (by repeat' first | assumption | refine gv_up ?_ rfl rfl | refine gv_sx ?_ (by assumption)))  (fun _ => ?_)
    | refine w_at_X3_50 _ (gv_i (E := [22, 23, 24, 25, 26, 27, 28, 50, 51, 57, 58, 59, 60, 61, 0]) (ν := ν) (by repeat' first | assumption | refine gv_up ?_ rfl rfl | refine gv_sx ?_ (by assumption)))  (fun _ => ?_)
    | refine w_at_X3_53 _ (gv_i (E := [22, 23, 24, 25, 26, 27, 28, 50, 51, 57, 58, 59, 60, 61, 0]) (ν := ν) (by repeat' first | assumption | refine gv_up ?_ rfl rfl | refine gv_sx ?_ (by assumption)))  (fun _ => ?_)
    | refine w_at_X3_55 _ (gv_i (E := [22, 23, 24, 25, 26, 27, 28, 50, 51, 57, 58, 59, 60, 61, 0]) (ν := ν) (by repeat' first | assumption | refine gv_up ?_ rfl rfl | refine gv_sx ?_ (by assumption)))  (fun _ => ?_)
    | refine w_at_X3_58 _ (gv_i (E := [22, 23, 24, 25, 26, 27, 28, 50, 51, 57, 58, 59, 60, 61, 0]) (ν := ν) (by repeat' first | assumption | refine gv_up ?_ rfl rfl | refine gv_sx ?_ (by assumption)))  (fun _ => ?_)
    | refine w_at_X3_60 _ (gv_i (E := [22, 23, 24, 25, 26, 27, 28, 50, 51, 57, 58, 59, 60, 61, 0]) (ν := ν) (by repeat' first | assumption | refine gv_up ?_ rfl rfl | refine gv_sx ?_ (by assumption)))  (fun _ => ?_)
    | refine w_at36 _ (gv_i (E := [22, 23, 24, 25, 26, 27, 28, 50, 51, 57, 58, 59, 60, 61, 0]) (ν := ν) (by repeat' first | assumption | refine gv_up ?_ rfl rfl | refine gv_sx ?_ (by assumption))) (fun _ _ _ => ?_) ?_
    | refine gv_up ?_ rfl rfl
    | refine gv_b1 ?_ rfl ?_
    | refine gv_b22 ?_ rfl ?_
    | refine gv_b36 ?_ rfl ?_
    | refine gv_b44 ?_ rfl ?_
    | refine gv_b46 ?_ rfl ?_
    | refine gv_b48 ?_ rfl ?_
    | refine gv_b50 ?_ rfl ?_
    | refine gv_b53 ?_ rfl ?_
    | refine gv_b55 ?_ rfl ?_
    | refine gv_b58 ?_ rfl ?_
    | refine gv_b60 ?_ rfl ?_
    | refine gv_b62 ?_ rfl ?_
    | refine gv_sx ?_ (by assumption)
    | exact sx_rb (by assumption)
    | exact hS.1
    | exact hv0.1
    | refine lp18' _ _ ?_ ?_ ?_
    | refine And.intro (fun h => absurd h (by decide)) (fun _ => ?_)
    | refine And.intro (fun _ => ?_) (fun h => absurd (by decide) h)
    | refine And.intro (fun _ => ?_) (fun _ => ?_)
    | refine And.intro ?_ ?_
  all_goals (first | assumption | decide | omega | (split <;> simp only [am_c] at * <;> omega) | (intros; omega) | (simp only [am_c, am_up] at * <;> omega) | (simp [am_c, am_up] at * <;> omega))
theorem v_take_X3_58_53 {l : Launch} {μ : am_N} {Q : Option am_V → am_N → Prop} {ν : am_N}  (hS : gv [22, 23, 24, 25, 26, 27, 28, 50, 51, 57, 58, 59, 60, 61, 0] ν μ)  (k : ∀ μ', gv [22, 23, 24, 25, 26, 27, 28, 50, 51, 57, 58, 59, 60, 61, 0] ν μ' → Q none μ') : am_Does l 45 [.inr (.inr 58), .inr (.inr 53)] μ Q := by
  refine am_Does_of (Nat.le_of_ble_eq_true rfl) (Nat.le_of_ble_eq_true rfl) (Nat.le_of_ble_eq_true rfl) ?_
  have hb := sx_all hS.1
  have lp18 : ∀ (m : Nat) (i : Int) (μ : am_N) , gv [22, 23, 24, 25, 26, 27, 28, 50, 51, 57, 58, 59, 60, 61, 0] ν μ → 0 ≤ i → i ≤ 4 → 4 - i < (m : Int) → am_AW l 0 (fun _ => 0) 45 Q 18 [some (.inr (.inr 58)), some (.inr (.inr 53)), some (.inl i)] [] μ := by
    intro m
    induction m with
    | zero =>
      intro i μ hv0 hv1 hv2 hm
      have hb := sx_all hv0.1
      exfalso
      omega
    | succ m ih =>
      intro i μ hv0 hv1 hv2 hm
      have hb := sx_all hv0.1
      refine am_go (ct := fun pc => Nat.beq pc 18) am_oX3_take 300 ?_
      conv => whnf
      repeat' first
        | (refine (?_ : am_wp _ _ _ _ _ _ _ _ _ _ _ _); conv => whnf)
        | (refine (?_ : am_sw _ _ _ _); conv => whnf)
        | refine And.intro trivial ?_
        | exact trivial
        | assumption
        | refine k _ ?_
        | refine w_at_X3_44 _ (gv_i (E := [22, 23, 24, 25, 26, 27, 28, 50, 51, 57, 58, 59, 60, 61, 0]) (ν := ν) (by repeat' first | assumption | refine gv_up ?_ rfl rfl | refine gv_sx ?_ (by assumption)))  (fun _ => ?_)
        | refine w_at_X3_46 _ (gv_i (E := [22, 23, 24, 25, 26, 27, 28, 50, 51, 57, 58, 59, 60, 61, 0]) (ν := ν) (by repeat' first | assumption | refine gv_up ?_ rfl rfl | refine gv_sx ?_ (by assumption)))  (fun _ => ?_)
        | refine w_at_X3_48 _ (gv_i (E := [22, 23, 24, 25, 26, 27, 28, 50, 51, 57, 58, 59, 60, 61, 0]) (ν := ν) (by repeat' first | assumption | refine gv_up ?_ rfl rfl | refine gv_sx ?_ (by assumption)))  (fun _ => ?_)
        | refine w_at_X3_50 _ (gv_i (E := [22, 23, 24, 25, 26, 27, 28, 50, 51, 57, 58, 59, 60, 61, 0]) (ν := ν) (by repeat' first | assumption | refine gv_up ?_ rfl rfl | refine gv_sx ?_ (by assumption)))  (fun _ => ?_)
        | refine w_at_X3_53 _ (gv_i (E := [22, 23, 24, 25, 26, 27, 28, 50, 51, 57, 58, 59, 60, 61, 0]) (ν := ν) (by repeat' first | assumption | refine gv_up ?_ rfl rfl | refine gv_sx ?_ (by assumption)))  (fun _ => ?_)
        | refine w_at_X3_55 _ (gv_i (E := [22, 23, 24, 25, 26, 27, 28, 50, 51, 57, 58, 59, 60, 61, 0]) (ν := ν) (by repeat' first | assumption | refine gv_up ?_ rfl rfl | refine gv_sx ?_ (by assumption)))  (fun _ => ?_)
        | refine w_at_X3_58 _ (gv_i (E := [22, 23, 24, 25, 26, 27, 28, 50, 51, 57, 58, 59, 60, 61, 0]) (ν := ν) (by repeat' first | assumption | refine gv_up ?_ rfl rfl | refine gv_sx ?_ (by assumption)))  (fun _ => ?_)
        | refine w_at_X3_60 _ (gv_i (E := [22, 23, 24, 25, 26, 27, 28, 50, 51, 57, 58, 59, 60, 61, 0]) (ν := ν) (by repeat' first | assumption | refine gv_up ?_ rfl rfl | refine gv_sx ?_ (by assumption)))  (fun _ => ?_)
        | refine w_at36 _ (gv_i (E := [22, 23, 24, 25, 26, 27, 28, 50, 51, 57, 58, 59, 60, 61, 0]) (ν := ν) (by repeat' first | assumption | refine gv_up ?_ rfl rfl | refine gv_sx ?_ (by assumption))) (fun _ _ _ => ?_) ?_
        | refine gv_up ?_ rfl rfl
        | refine gv_b1 ?_ rfl ?_
        | refine gv_b22 ?_ rfl ?_
        | refine gv_b36 ?_ rfl ?_
        | refine gv_b44 ?_ rfl ?_
        | refine gv_b46 ?_ rfl ?_
        | refine gv_b48 ?_ rfl ?_
        | refine gv_b50 ?_ rfl ?_
        | refine gv_b53 ?_ rfl ?_
        | refine gv_b55 ?_ rfl ?_
        | refine gv_b58 ?_ rfl ?_
        | refine gv_b60 ?_ rfl ?_
        | refine gv_b62 ?_ rfl ?_
        | refine gv_sx ?_ (by assumption)
        | exact sx_rb (by assumption)
        | exact hS.1
        | exact hv0.1
        | refine ih _ _ ?_ ?_ ?_ ?_
        | refine And.intro (fun h => absurd h (by decide)) (fun _ => ?_)
        | refine And.intro (fun _ => ?_) (fun h => absurd (by decide) h)
        | refine And.intro (fun _ => ?_) (fun _ => ?_)
        | refine And.intro ?_ ?_
      all_goals (first | assumption | decide | omega | (split <;> simp only [am_c] at * <;> omega) | (intros; omega) | (simp only [am_c, am_up] at * <;> omega) | (simp [am_c, am_up] at * <;> omega))
  have lp18' : ∀ (i : Int) (μ : am_N) , gv [22, 23, 24, 25, 26, 27, 28, 50, 51, 57, 58, 59, 60, 61, 0] ν μ → 0 ≤ i → i ≤ 4 → am_AW l 0 (fun _ => 0) 45 Q 18 [some (.inr (.inr 58)), some (.inr (.inr 53)), some (.inl i)] [] μ := fun i μ hv0 hv1 hv2 => lp18 ((4 - i) + 1).toNat i μ hv0 hv1 hv2 (by omega)
  refine am_go (ct := fun pc => Nat.beq pc 18) am_oX3_take 300 ?_
  conv => whnf
  repeat' first
    | (refine (?_ : am_wp _ _ _ _ _ _ _ _ _ _ _ _); conv => whnf)
    | (refine (?_ : am_sw _ _ _ _); conv => whnf)
    | refine And.intro trivial ?_
    | exact trivial
    | assumption
    | refine k _ ?_
    | refine w_at_X3_44 _ (gv_i (E := [22, 23, 24, 25, 26, 27, 28, 50, 51, 57, 58, 59, 60, 61, 0]) (ν := ν) (by repeat' first | assumption | refine gv_up ?_ rfl rfl | refine gv_sx ?_ (by assumption)))  (fun _ => ?_)
    | refine w_at_X3_46 _ (gv_i (E := [22, 23, 24, 25, 26, 27, 28, 50, 51, 57, 58, 59, 60, 61, 0]) (ν := ν) (by repeat' first | assumption | refine gv_up ?_ rfl rfl | refine gv_sx ?_ (by assumption)))  (fun _ => ?_)
    | refine w_at_X3_48 _ (gv_i (E := [22, 23, 24, 25, 26, 27, 28, 50, 51, 57, 58, 59, 60, 61, 0]) (ν := ν) (by repeat' first | assumption | refine gv_up ?_ rfl rfl | refine gv_sx ?_ (by assumption)))  (fun _ => ?_)
    | refine w_at_X3_50 _ (gv_i (E := [22, 23, 24, 25, 26, 27, 28, 50, 51, 57, 58, 59, 60, 61, 0]) (ν := ν) (by repeat' first | assumption | refine gv_up ?_ rfl rfl | refine gv_sx ?_ (by assumption)))  (fun _ => ?_)
    | refine w_at_X3_53 _ (gv_i (E := [22, 23, 24, 25, 26, 27, 28, 50, 51, 57, 58, 59, 60, 61, 0]) (ν := ν) (by repeat' first | assumption | refine gv_up ?_ rfl rfl | refine gv_sx ?_ (by assumption)))  (fun _ => ?_)
    | refine w_at_X3_55 _ (gv_i (E := [22, 23, 24, 25, 26, 27, 28, 50, 51, 57, 58, 59, 60, 61, 0]) (ν := ν) (by repeat' first | assumption | refine gv_up ?_ rfl rfl | refine gv_sx ?_ (by assumption)))  (fun _ => ?_)
    | refine w_at_X3_58 _ (gv_i (E := [22, 23, 24, 25, 26, 27, 28, 50, 51, 57, 58, 59, 60, 61, 0]) (ν := ν) (by repeat' first | assumption | refine gv_up ?_ rfl rfl | refine gv_sx ?_ (by assumption)))  (fun _ => ?_)
    | refine w_at_X3_60 _ (gv_i (E := [22, 23, 24, 25, 26, 27, 28, 50, 51, 57, 58, 59, 60, 61, 0]) (ν := ν) (by repeat' first | assumption | refine gv_up ?_ rfl rfl | refine gv_sx ?_ (by assumption)))  (fun _ => ?_)
    | refine w_at36 _ (gv_i (E := [22, 23, 24, 25, 26, 27, 28, 50, 51, 57, 58, 59, 60, 61, 0]) (ν := ν) (by repeat' first | assumption | refine gv_up ?_ rfl rfl | refine gv_sx ?_ (by assumption))) (fun _ _ _ => ?_) ?_
    | refine gv_up ?_ rfl rfl
    | refine gv_b1 ?_ rfl ?_
    | refine gv_b22 ?_ rfl ?_
    | refine gv_b36 ?_ rfl ?_
    | refine gv_b44 ?_ rfl ?_
    | refine gv_b46 ?_ rfl ?_
    | refine gv_b48 ?_ rfl ?_
    | refine gv_b50 ?_ rfl ?_
    | refine gv_b53 ?_ rfl ?_
    | refine gv_b55 ?_ rfl ?_
    | refine gv_b58 ?_ rfl ?_
    | refine gv_b60 ?_ rfl ?_
    | refine gv_b62 ?_ rfl ?_
    | refine gv_sx ?_ (by assumption)
    | exact sx_rb (by assumption)
    | exact hS.1
    | exact hv0.1
    | refine lp18' _ _ ?_ ?_ ?_
    | refine And.intro (fun h => absurd h (by decide)) (fun _ => ?_)
    | refine And.intro (fun _ => ?_) (fun h => absurd (by decide) h)
    | refine And.intro (fun _ => ?_) (fun _ => ?_)
    | refine And.intro ?_ ?_
  all_goals (first | assumption | decide | omega | (split <;> simp only [am_c] at * <;> omega) | (intros; omega) | (simp only [am_c, am_up] at * <;> omega) | (simp [am_c, am_up] at * <;> omega))
theorem v_take_X3_60_55 {l : Launch} {μ : am_N} {Q : Option am_V → am_N → Prop} {ν : am_N}  (hS : gv [22, 23, 24, 25, 26, 27, 28, 50, 51, 57, 58, 59, 60, 61, 0] ν μ)  (k : ∀ μ', gv [22, 23, 24, 25, 26, 27, 28, 50, 51, 57, 58, 59, 60, 61, 0] ν μ' → Q none μ') : am_Does l 45 [.inr (.inr 60), .inr (.inr 55)] μ Q := by
  refine am_Does_of (Nat.le_of_ble_eq_true rfl) (Nat.le_of_ble_eq_true rfl) (Nat.le_of_ble_eq_true rfl) ?_
  have hb := sx_all hS.1
  have lp18 : ∀ (m : Nat) (i : Int) (μ : am_N) , gv [22, 23, 24, 25, 26, 27, 28, 50, 51, 57, 58, 59, 60, 61, 0] ν μ → 0 ≤ i → i ≤ 4 → 4 - i < (m : Int) → am_AW l 0 (fun _ => 0) 45 Q 18 [some (.inr (.inr 60)), some (.inr (.inr 55)), some (.inl i)] [] μ := by
    intro m
    induction m with
    | zero =>
      intro i μ hv0 hv1 hv2 hm
      have hb := sx_all hv0.1
      exfalso
      omega
    | succ m ih =>
      intro i μ hv0 hv1 hv2 hm
      have hb := sx_all hv0.1
      refine am_go (ct := fun pc => Nat.beq pc 18) am_oX3_take 300 ?_
      conv => whnf
      repeat' first
        | (refine (?_ : am_wp _ _ _ _ _ _ _ _ _ _ _ _); conv => whnf)
        | (refine (?_ : am_sw _ _ _ _); conv => whnf)
        | refine And.intro trivial ?_
        | exact trivial
        | assumption
        | refine k _ ?_
        | refine w_at_X3_44 _ (gv_i (E := [22, 23, 24, 25, 26, 27, 28, 50, 51, 57, 58, 59, 60, 61, 0]) (ν := ν) (by repeat' first | assumption | refine gv_up ?_ rfl rfl | refine gv_sx ?_ (by assumption)))  (fun _ => ?_)
        | refine w_at_X3_46 _ (gv_i (E := [22, 23, 24, 25, 26, 27, 28, 50, 51, 57, 58, 59, 60, 61, 0]) (ν := ν) (by repeat' first | assumption | refine gv_up ?_ rfl rfl | refine gv_sx ?_ (by assumption)))  (fun _ => ?_)
        | refine w_at_X3_48 _ (gv_i (E := [22, 23, 24, 25, 26, 27, 28, 50, 51, 57, 58, 59, 60, 61, 0]) (ν := ν) (by repeat' first | assumption | refine gv_up ?_ rfl rfl | refine gv_sx ?_ (by assumption)))  (fun _ => ?_)
        | refine w_at_X3_50 _ (gv_i (E := [22, 23, 24, 25, 26, 27, 28, 50, 51, 57, 58, 59, 60, 61, 0]) (ν := ν) (by repeat' first | assumption | refine gv_up ?_ rfl rfl | refine gv_sx ?_ (by assumption)))  (fun _ => ?_)
        | refine w_at_X3_53 _ (gv_i (E := [22, 23, 24, 25, 26, 27, 28, 50, 51, 57, 58, 59, 60, 61, 0]) (ν := ν) (by repeat' first | assumption | refine gv_up ?_ rfl rfl | refine gv_sx ?_ (by assumption)))  (fun _ => ?_)
        | refine w_at_X3_55 _ (gv_i (E := [22, 23, 24, 25, 26, 27, 28, 50, 51, 57, 58, 59, 60, 61, 0]) (ν := ν) (by repeat' first | assumption | refine gv_up ?_ rfl rfl | refine gv_sx ?_ (by assumption)))  (fun _ => ?_)
        | refine w_at_X3_58 _ (gv_i (E := [22, 23, 24, 25, 26, 27, 28, 50, 51, 57, 58, 59, 60, 61, 0]) (ν := ν) (by repeat' first | assumption | refine gv_up ?_ rfl rfl | refine gv_sx ?_ (by assumption)))  (fun _ => ?_)
        | refine w_at_X3_60 _ (gv_i (E := [22, 23, 24, 25, 26, 27, 28, 50, 51, 57, 58, 59, 60, 61, 0]) (ν := ν) (by repeat' first | assumption | refine gv_up ?_ rfl rfl | refine gv_sx ?_ (by assumption)))  (fun _ => ?_)
        | refine w_at36 _ (gv_i (E := [22, 23, 24, 25, 26, 27, 28, 50, 51, 57, 58, 59, 60, 61, 0]) (ν := ν) (by repeat' first | assumption | refine gv_up ?_ rfl rfl | refine gv_sx ?_ (by assumption))) (fun _ _ _ => ?_) ?_
        | refine gv_up ?_ rfl rfl
        | refine gv_b1 ?_ rfl ?_
        | refine gv_b22 ?_ rfl ?_
        | refine gv_b36 ?_ rfl ?_
        | refine gv_b44 ?_ rfl ?_
        | refine gv_b46 ?_ rfl ?_
        | refine gv_b48 ?_ rfl ?_
        | refine gv_b50 ?_ rfl ?_
        | refine gv_b53 ?_ rfl ?_
        | refine gv_b55 ?_ rfl ?_
        | refine gv_b58 ?_ rfl ?_
        | refine gv_b60 ?_ rfl ?_
        | refine gv_b62 ?_ rfl ?_
        | refine gv_sx ?_ (by assumption)
        | exact sx_rb (by assumption)
        | exact hS.1
        | exact hv0.1
        | refine ih _ _ ?_ ?_ ?_ ?_
        | refine And.intro (fun h => absurd h (by decide)) (fun _ => ?_)
        | refine And.intro (fun _ => ?_) (fun h => absurd (by decide) h)
        | refine And.intro (fun _ => ?_) (fun _ => ?_)
        | refine And.intro ?_ ?_
      all_goals (first | assumption | decide | omega | (split <;> simp only [am_c] at * <;> omega) | (intros; omega) | (simp only [am_c, am_up] at * <;> omega) | (simp [am_c, am_up] at * <;> omega))
  have lp18' : ∀ (i : Int) (μ : am_N) , gv [22, 23, 24, 25, 26, 27, 28, 50, 51, 57, 58, 59, 60, 61, 0] ν μ → 0 ≤ i → i ≤ 4 → am_AW l 0 (fun _ => 0) 45 Q 18 [some (.inr (.inr 60)), some (.inr (.inr 55)), some (.inl i)] [] μ := fun i μ hv0 hv1 hv2 => lp18 ((4 - i) + 1).toNat i μ hv0 hv1 hv2 (by omega)
  refine am_go (ct := fun pc => Nat.beq pc 18) am_oX3_take 300 ?_
  conv => whnf
  repeat' first
    | (refine (?_ : am_wp _ _ _ _ _ _ _ _ _ _ _ _); conv => whnf)
    | (refine (?_ : am_sw _ _ _ _); conv => whnf)
    | refine And.intro trivial ?_
    | exact trivial
    | assumption
    | refine k _ ?_
    | refine w_at_X3_44 _ (gv_i (E := [22, 23, 24, 25, 26, 27, 28, 50, 51, 57, 58, 59, 60, 61, 0]) (ν := ν) (by repeat' first | assumption | refine gv_up ?_ rfl rfl | refine gv_sx ?_ (by assumption)))  (fun _ => ?_)
    | refine w_at_X3_46 _ (gv_i (E := [22, 23, 24, 25, 26, 27, 28, 50, 51, 57, 58, 59, 60, 61, 0]) (ν := ν) (by repeat' first | assumption | refine gv_up ?_ rfl rfl | refine gv_sx ?_ (by assumption)))  (fun _ => ?_)
    | refine w_at_X3_48 _ (gv_i (E := [22, 23, 24, 25, 26, 27, 28, 50, 51, 57, 58, 59, 60, 61, 0]) (ν := ν) (by repeat' first | assumption | refine gv_up ?_ rfl rfl | refine gv_sx ?_ (by assumption)))  (fun _ => ?_)
    | refine w_at_X3_50 _ (gv_i (E := [22, 23, 24, 25, 26, 27, 28, 50, 51, 57, 58, 59, 60, 61, 0]) (ν := ν) (by repeat' first | assumption | refine gv_up ?_ rfl rfl | refine gv_sx ?_ (by assumption)))  (fun _ => ?_)
    | refine w_at_X3_53 _ (gv_i (E := [22, 23, 24, 25, 26, 27, 28, 50, 51, 57, 58, 59, 60, 61, 0]) (ν := ν) (by repeat' first | assumption | refine gv_up ?_ rfl rfl | refine gv_sx ?_ (by assumption)))  (fun _ => ?_)
    | refine w_at_X3_55 _ (gv_i (E := [22, 23, 24, 25, 26, 27, 28, 50, 51, 57, 58, 59, 60, 61, 0]) (ν := ν) (by repeat' first | assumption | refine gv_up ?_ rfl rfl | refine gv_sx ?_ (by assumption)))  (fun _ => ?_)
    | refine w_at_X3_58 _ (gv_i (E := [22, 23, 24, 25, 26, 27, 28, 50, 51, 57, 58, 59, 60, 61, 0]) (ν := ν) (by repeat' first | assumption | refine gv_up ?_ rfl rfl | refine gv_sx ?_ (by assumption)))  (fun _ => ?_)
    | refine w_at_X3_60 _ (gv_i (E := [22, 23, 24, 25, 26, 27, 28, 50, 51, 57, 58, 59, 60, 61, 0]) (ν := ν) (by repeat' first | assumption | refine gv_up ?_ rfl rfl | refine gv_sx ?_ (by assumption)))  (fun _ => ?_)
    | refine w_at36 _ (gv_i (E := [22, 23, 24, 25, 26, 27, 28, 50, 51, 57, 58, 59, 60, 61, 0]) (ν := ν) (by repeat' first | assumption | refine gv_up ?_ rfl rfl | refine gv_sx ?_ (by assumption))) (fun _ _ _ => ?_) ?_
    | refine gv_up ?_ rfl rfl
    | refine gv_b1 ?_ rfl ?_
    | refine gv_b22 ?_ rfl ?_
    | refine gv_b36 ?_ rfl ?_
    | refine gv_b44 ?_ rfl ?_
    | refine gv_b46 ?_ rfl ?_
    | refine gv_b48 ?_ rfl ?_
    | refine gv_b50 ?_ rfl ?_
    | refine gv_b53 ?_ rfl ?_
    | refine gv_b55 ?_ rfl ?_
    | refine gv_b58 ?_ rfl ?_
    | refine gv_b60 ?_ rfl ?_
    | refine gv_b62 ?_ rfl ?_
    | refine gv_sx ?_ (by assumption)
    | exact sx_rb (by assumption)
    | exact hS.1
    | exact hv0.1
    | refine lp18' _ _ ?_ ?_ ?_
    | refine And.intro (fun h => absurd h (by decide)) (fun _ => ?_)
    | refine And.intro (fun _ => ?_) (fun h => absurd (by decide) h)
    | refine And.intro (fun _ => ?_) (fun _ => ?_)
    | refine And.intro ?_ ?_
  all_goals (first | assumption | decide | omega | (split <;> simp only [am_c] at * <;> omega) | (intros; omega) | (simp only [am_c, am_up] at * <;> omega) | (simp [am_c, am_up] at * <;> omega))
theorem v_take_X3_48_50 {l : Launch} {μ : am_N} {Q : Option am_V → am_N → Prop} {ν : am_N}  (hS : gv [1, 2, 3, 4, 5, 6, 7, 48, 49, 52, 53, 54, 55, 56, 62] ν μ)  (k : ∀ μ', gv [1, 2, 3, 4, 5, 6, 7, 48, 49, 52, 53, 54, 55, 56, 62] ν μ' → Q none μ') : am_Does l 45 [.inr (.inr 48), .inr (.inr 50)] μ Q := by
  refine am_Does_of (Nat.le_of_ble_eq_true rfl) (Nat.le_of_ble_eq_true rfl) (Nat.le_of_ble_eq_true rfl) ?_
  have hb := sx_all hS.1
  have lp18 : ∀ (m : Nat) (i : Int) (μ : am_N) , gv [1, 2, 3, 4, 5, 6, 7, 48, 49, 52, 53, 54, 55, 56, 62] ν μ → 0 ≤ i → i ≤ 6 → 6 - i < (m : Int) → am_AW l 0 (fun _ => 0) 45 Q 18 [some (.inr (.inr 48)), some (.inr (.inr 50)), some (.inl i)] [] μ := by
    intro m
    induction m with
    | zero =>
      intro i μ hv0 hv1 hv2 hm
      have hb := sx_all hv0.1
      exfalso
      omega
    | succ m ih =>
      intro i μ hv0 hv1 hv2 hm
      have hb := sx_all hv0.1
      refine am_go (ct := fun pc => Nat.beq pc 18) am_oX3_take 300 ?_
      conv => whnf
      repeat' first
        | (refine (?_ : am_wp _ _ _ _ _ _ _ _ _ _ _ _); conv => whnf)
        | (refine (?_ : am_sw _ _ _ _); conv => whnf)
        | refine And.intro trivial ?_
        | exact trivial
        | assumption
        | refine k _ ?_
        | refine w_at_X3_44 _ (gv_i (E := [1, 2, 3, 4, 5, 6, 7, 48, 49, 52, 53, 54, 55, 56, 62]) (ν := ν) (by repeat' first | assumption | refine gv_up ?_ rfl rfl | refine gv_sx ?_ (by assumption)))  (fun _ => ?_)
        | refine w_at_X3_46 _ (gv_i (E := [1, 2, 3, 4, 5, 6, 7, 48, 49, 52, 53, 54, 55, 56, 62]) (ν := ν) (by repeat' first | assumption | refine gv_up ?_ rfl rfl | refine gv_sx ?_ (by assumption)))  (fun _ => ?_)
        | refine w_at_X3_48 _ (gv_i (E := [1, 2, 3, 4, 5, 6, 7, 48, 49, 52, 53, 54, 55, 56, 62]) (ν := ν) (by repeat' first | assumption | refine gv_up ?_ rfl rfl | refine gv_sx ?_ (by assumption)))  (fun _ => ?_)
        | refine w_at_X3_50 _ (gv_i (E := [1, 2, 3, 4, 5, 6, 7, 48, 49, 52, 53, 54, 55, 56, 62]) (ν := ν) (by repeat' first | assumption | refine gv_up ?_ rfl rfl | refine gv_sx ?_ (by assumption)))  (fun _ => ?_)
        | refine w_at_X3_53 _ (gv_i (E := [1, 2, 3, 4, 5, 6, 7, 48, 49, 52, 53, 54, 55, 56, 62]) (ν := ν) (by repeat' first | assumption | refine gv_up ?_ rfl rfl | refine gv_sx ?_ (by assumption)))  (fun _ => ?_)
        | refine w_at_X3_55 _ (gv_i (E := [1, 2, 3, 4, 5, 6, 7, 48, 49, 52, 53, 54, 55, 56, 62]) (ν := ν) (by repeat' first | assumption | refine gv_up ?_ rfl rfl | refine gv_sx ?_ (by assumption)))  (fun _ => ?_)
        | refine w_at_X3_58 _ (gv_i (E := [1, 2, 3, 4, 5, 6, 7, 48, 49, 52, 53, 54, 55, 56, 62]) (ν := ν) (by repeat' first | assumption | refine gv_up ?_ rfl rfl | refine gv_sx ?_ (by assumption)))  (fun _ => ?_)
        | refine w_at_X3_60 _ (gv_i (E := [1, 2, 3, 4, 5, 6, 7, 48, 49, 52, 53, 54, 55, 56, 62]) (ν := ν) (by repeat' first | assumption | refine gv_up ?_ rfl rfl | refine gv_sx ?_ (by assumption)))  (fun _ => ?_)
        | refine w_at36 _ (gv_i (E := [1, 2, 3, 4, 5, 6, 7, 48, 49, 52, 53, 54, 55, 56, 62]) (ν := ν) (by repeat' first | assumption | refine gv_up ?_ rfl rfl | refine gv_sx ?_ (by assumption))) (fun _ _ _ => ?_) ?_
        | refine gv_up ?_ rfl rfl
        | refine gv_b1 ?_ rfl ?_
        | refine gv_b22 ?_ rfl ?_
        | refine gv_b36 ?_ rfl ?_
        | refine gv_b44 ?_ rfl ?_
        | refine gv_b46 ?_ rfl ?_
        | refine gv_b48 ?_ rfl ?_
        | refine gv_b50 ?_ rfl ?_
        | refine gv_b53 ?_ rfl ?_
        | refine gv_b55 ?_ rfl ?_
        | refine gv_b58 ?_ rfl ?_
        | refine gv_b60 ?_ rfl ?_
        | refine gv_b62 ?_ rfl ?_
        | refine gv_sx ?_ (by assumption)
        | exact sx_rb (by assumption)
        | exact hS.1
        | exact hv0.1
        | refine ih _ _ ?_ ?_ ?_ ?_
        | refine And.intro (fun h => absurd h (by decide)) (fun _ => ?_)
        | refine And.intro (fun _ => ?_) (fun h => absurd (by decide) h)
        | refine And.intro (fun _ => ?_) (fun _ => ?_)
        | refine And.intro ?_ ?_
      all_goals (first | assumption | decide | omega | (split <;> simp only [am_c] at * <;> omega) | (intros; omega) | (simp only [am_c, am_up] at * <;> omega) | (simp [am_c, am_up] at * <;> omega))
  have lp18' : ∀ (i : Int) (μ : am_N) , gv [1, 2, 3, 4, 5, 6, 7, 48, 49, 52, 53, 54, 55, 56, 62] ν μ → 0 ≤ i → i ≤ 6 → am_AW l 0 (fun _ => 0) 45 Q 18 [some (.inr (.inr 48)), some (.inr (.inr 50)), some (.inl i)] [] μ := fun i μ hv0 hv1 hv2 => lp18 ((6 - i) + 1).toNat i μ hv0 hv1 hv2 (by omega)
  refine am_go (ct := fun pc => Nat.beq pc 18) am_oX3_take 300 ?_
  conv => whnf
  repeat' first
    | (refine (?_ : am_wp _ _ _ _ _ _ _ _ _ _ _ _); conv => whnf)
    | (refine (?_ : am_sw _ _ _ _); conv => whnf)
    | refine And.intro trivial ?_
    | exact trivial
    | assumption
    | refine k _ ?_
    | refine w_at_X3_44 _ (gv_i (E := [1, 2, 3, 4, 5, 6, 7, 48, 49, 52, 53, 54, 55, 56, 62]) (ν := ν) (by repeat' first | assumption | refine gv_up ?_ rfl rfl | refine gv_sx ?_ (by assumption)))  (fun _ => ?_)
    | refine w_at_X3_46 _ (gv_i (E := [1, 2, 3, 4, 5, 6, 7, 48, 49, 52, 53, 54, 55, 56, 62]) (ν := ν) (by repeat' first | assumption | refine gv_up ?_ rfl rfl | refine gv_sx ?_ (by assumption)))  (fun _ => ?_)
    | refine w_at_X3_48 _ (gv_i (E := [1, 2, 3, 4, 5, 6, 7, 48, 49, 52, 53, 54, 55, 56, 62]) (ν := ν) (by repeat' first | assumption | refine gv_up ?_ rfl rfl | refine gv_sx ?_ (by assumption)))  (fun _ => ?_)
    | refine w_at_X3_50 _ (gv_i (E := [1, 2, 3, 4, 5, 6, 7, 48, 49, 52, 53, 54, 55, 56, 62]) (ν := ν) (by repeat' first | assumption | refine gv_up ?_ rfl rfl | refine gv_sx ?_ (by assumption)))  (fun _ => ?_)
    | refine w_at_X3_53 _ (gv_i (E := [1, 2, 3, 4, 5, 6, 7, 48, 49, 52, 53, 54, 55, 56, 62]) (ν := ν) (by repeat' first | assumption | refine gv_up ?_ rfl rfl | refine gv_sx ?_ (by assumption)))  (fun _ => ?_)
    | refine w_at_X3_55 _ (gv_i (E := [1, 2, 3, 4, 5, 6, 7, 48, 49, 52, 53, 54, 55, 56, 62]) (ν := ν) (by repeat' first | assumption | refine gv_up ?_ rfl rfl | refine gv_sx ?_ (by assumption)))  (fun _ => ?_)
    | refine w_at_X3_58 _ (gv_i (E := [1, 2, 3, 4, 5, 6, 7, 48, 49, 52, 53, 54, 55, 56, 62]) (ν := ν) (by repeat' first | assumption | refine gv_up ?_ rfl rfl | refine gv_sx ?_ (by assumption)))  (fun _ => ?_)
    | refine w_at_X3_60 _ (gv_i (E := [1, 2, 3, 4, 5, 6, 7, 48, 49, 52, 53, 54, 55, 56, 62]) (ν := ν) (by repeat' first | assumption | refine gv_up ?_ rfl rfl | refine gv_sx ?_ (by assumption)))  (fun _ => ?_)
    | refine w_at36 _ (gv_i (E := [1, 2, 3, 4, 5, 6, 7, 48, 49, 52, 53, 54, 55, 56, 62]) (ν := ν) (by repeat' first | assumption | refine gv_up ?_ rfl rfl | refine gv_sx ?_ (by assumption))) (fun _ _ _ => ?_) ?_
    | refine gv_up ?_ rfl rfl
    | refine gv_b1 ?_ rfl ?_
    | refine gv_b22 ?_ rfl ?_
    | refine gv_b36 ?_ rfl ?_
    | refine gv_b44 ?_ rfl ?_
    | refine gv_b46 ?_ rfl ?_
    | refine gv_b48 ?_ rfl ?_
    | refine gv_b50 ?_ rfl ?_
    | refine gv_b53 ?_ rfl ?_
    | refine gv_b55 ?_ rfl ?_
    | refine gv_b58 ?_ rfl ?_
    | refine gv_b60 ?_ rfl ?_
    | refine gv_b62 ?_ rfl ?_
    | refine gv_sx ?_ (by assumption)
    | exact sx_rb (by assumption)
    | exact hS.1
    | exact hv0.1
    | refine lp18' _ _ ?_ ?_ ?_
    | refine And.intro (fun h => absurd h (by decide)) (fun _ => ?_)
    | refine And.intro (fun _ => ?_) (fun h => absurd (by decide) h)
    | refine And.intro (fun _ => ?_) (fun _ => ?_)
    | refine And.intro ?_ ?_
  all_goals (first | assumption | decide | omega | (split <;> simp only [am_c] at * <;> omega) | (intros; omega) | (simp only [am_c, am_up] at * <;> omega) | (simp [am_c, am_up] at * <;> omega))
theorem v_take_X3_53_58 {l : Launch} {μ : am_N} {Q : Option am_V → am_N → Prop} {ν : am_N}  (hS : gv [1, 2, 3, 4, 5, 6, 7, 48, 49, 52, 53, 54, 55, 56, 62] ν μ)  (k : ∀ μ', gv [1, 2, 3, 4, 5, 6, 7, 48, 49, 52, 53, 54, 55, 56, 62] ν μ' → Q none μ') : am_Does l 45 [.inr (.inr 53), .inr (.inr 58)] μ Q := by
  refine am_Does_of (Nat.le_of_ble_eq_true rfl) (Nat.le_of_ble_eq_true rfl) (Nat.le_of_ble_eq_true rfl) ?_
  have hb := sx_all hS.1
  have lp18 : ∀ (m : Nat) (i : Int) (μ : am_N) , gv [1, 2, 3, 4, 5, 6, 7, 48, 49, 52, 53, 54, 55, 56, 62] ν μ → 0 ≤ i → i ≤ 4 → 4 - i < (m : Int) → am_AW l 0 (fun _ => 0) 45 Q 18 [some (.inr (.inr 53)), some (.inr (.inr 58)), some (.inl i)] [] μ := by
    intro m
    induction m with
    | zero =>
      intro i μ hv0 hv1 hv2 hm
      have hb := sx_all hv0.1
      exfalso
      omega
    | succ m ih =>
      intro i μ hv0 hv1 hv2 hm
      have hb := sx_all hv0.1
      refine am_go (ct := fun pc => Nat.beq pc 18) am_oX3_take 300 ?_
      conv => whnf
      repeat' first
        | (refine (?_ : am_wp _ _ _ _ _ _ _ _ _ _ _ _); conv => whnf)
        | (refine (?_ : am_sw _ _ _ _); conv => whnf)
        | refine And.intro trivial ?_
        | exact trivial
        | assumption
        | refine k _ ?_
        | refine w_at_X3_44 _ (gv_i (E := [1, 2, 3, 4, 5, 6, 7, 48, 49, 52, 53, 54, 55, 56, 62]) (ν := ν) (by repeat' first | assumption | refine gv_up ?_ rfl rfl | refine gv_sx ?_ (by assumption)))  (fun _ => ?_)
        | refine w_at_X3_46 _ (gv_i (E := [1, 2, 3, 4, 5, 6, 7, 48, 49, 52, 53, 54, 55, 56, 62]) (ν := ν) (by repeat' first | assumption | refine gv_up ?_ rfl rfl | refine gv_sx ?_ (by assumption)))  (fun _ => ?_)
        | refine w_at_X3_48 _ (gv_i (E := [1, 2, 3, 4, 5, 6, 7, 48, 49, 52, 53, 54, 55, 56, 62]) (ν := ν) (by repeat' first | assumption | refine gv_up ?_ rfl rfl | refine gv_sx ?_ (by assumption)))  (fun _ => ?_)
        | refine w_at_X3_50 _ (gv_i (E := [1, 2, 3, 4, 5, 6, 7, 48, 49, 52, 53, 54, 55, 56, 62]) (ν := ν) (by repeat' first | assumption | refine gv_up ?_ rfl rfl | refine gv_sx ?_ (by assumption)))  (fun _ => ?_)
        | refine w_at_X3_53 _ (gv_i (E := [1, 2, 3, 4, 5, 6, 7, 48, 49, 52, 53, 54, 55, 56, 62]) (ν := ν) (by repeat' first | assumption | refine gv_up ?_ rfl rfl | refine gv_sx ?_ (by assumption)))  (fun _ => ?_)
        | refine w_at_X3_55 _ (gv_i (E := [1, 2, 3, 4, 5, 6, 7, 48, 49, 52, 53, 54, 55, 56, 62]) (ν := ν) (by repeat' first | assumption | refine gv_up ?_ rfl rfl | refine gv_sx ?_ (by assumption)))  (fun _ => ?_)
        | refine w_at_X3_58 _ (gv_i (E := [1, 2, 3, 4, 5, 6, 7, 48, 49, 52, 53, 54, 55, 56, 62]) (ν := ν) (by repeat' first | assumption | refine gv_up ?_ rfl rfl | refine gv_sx ?_ (by assumption)))  (fun _ => ?_)
        | refine w_at_X3_60 _ (gv_i (E := [1, 2, 3, 4, 5, 6, 7, 48, 49, 52, 53, 54, 55, 56, 62]) (ν := ν) (by repeat' first | assumption | refine gv_up ?_ rfl rfl | refine gv_sx ?_ (by assumption)))  (fun _ => ?_)
        | refine w_at36 _ (gv_i (E := [1, 2, 3, 4, 5, 6, 7, 48, 49, 52, 53, 54, 55, 56, 62]) (ν := ν) (by repeat' first | assumption | refine gv_up ?_ rfl rfl | refine gv_sx ?_ (by assumption))) (fun _ _ _ => ?_) ?_
        | refine gv_up ?_ rfl rfl
        | refine gv_b1 ?_ rfl ?_
        | refine gv_b22 ?_ rfl ?_
        | refine gv_b36 ?_ rfl ?_
        | refine gv_b44 ?_ rfl ?_
        | refine gv_b46 ?_ rfl ?_
        | refine gv_b48 ?_ rfl ?_
        | refine gv_b50 ?_ rfl ?_
        | refine gv_b53 ?_ rfl ?_
        | refine gv_b55 ?_ rfl ?_
        | refine gv_b58 ?_ rfl ?_
        | refine gv_b60 ?_ rfl ?_
        | refine gv_b62 ?_ rfl ?_
        | refine gv_sx ?_ (by assumption)
        | exact sx_rb (by assumption)
        | exact hS.1
        | exact hv0.1
        | refine ih _ _ ?_ ?_ ?_ ?_
        | refine And.intro (fun h => absurd h (by decide)) (fun _ => ?_)
        | refine And.intro (fun _ => ?_) (fun h => absurd (by decide) h)
        | refine And.intro (fun _ => ?_) (fun _ => ?_)
        | refine And.intro ?_ ?_
      all_goals (first | assumption | decide | omega | (split <;> simp only [am_c] at * <;> omega) | (intros; omega) | (simp only [am_c, am_up] at * <;> omega) | (simp [am_c, am_up] at * <;> omega))
  have lp18' : ∀ (i : Int) (μ : am_N) , gv [1, 2, 3, 4, 5, 6, 7, 48, 49, 52, 53, 54, 55, 56, 62] ν μ → 0 ≤ i → i ≤ 4 → am_AW l 0 (fun _ => 0) 45 Q 18 [some (.inr (.inr 53)), some (.inr (.inr 58)), some (.inl i)] [] μ := fun i μ hv0 hv1 hv2 => lp18 ((4 - i) + 1).toNat i μ hv0 hv1 hv2 (by omega)
  refine am_go (ct := fun pc => Nat.beq pc 18) am_oX3_take 300 ?_
  conv => whnf
  repeat' first
    | (refine (?_ : am_wp _ _ _ _ _ _ _ _ _ _ _ _); conv => whnf)
    | (refine (?_ : am_sw _ _ _ _); conv => whnf)
    | refine And.intro trivial ?_
    | exact trivial
    | assumption
    | refine k _ ?_
    | refine w_at_X3_44 _ (gv_i (E := [1, 2, 3, 4, 5, 6, 7, 48, 49, 52, 53, 54, 55, 56, 62]) (ν := ν) (by repeat' first | assumption | refine gv_up ?_ rfl rfl | refine gv_sx ?_ (by assumption)))  (fun _ => ?_)
    | refine w_at_X3_46 _ (gv_i (E := [1, 2, 3, 4, 5, 6, 7, 48, 49, 52, 53, 54, 55, 56, 62]) (ν := ν) (by repeat' first | assumption | refine gv_up ?_ rfl rfl | refine gv_sx ?_ (by assumption)))  (fun _ => ?_)
    | refine w_at_X3_48 _ (gv_i (E := [1, 2, 3, 4, 5, 6, 7, 48, 49, 52, 53, 54, 55, 56, 62]) (ν := ν) (by repeat' first | assumption | refine gv_up ?_ rfl rfl | refine gv_sx ?_ (by assumption)))  (fun _ => ?_)
    | refine w_at_X3_50 _ (gv_i (E := [1, 2, 3, 4, 5, 6, 7, 48, 49, 52, 53, 54, 55, 56, 62]) (ν := ν) (by repeat' first | assumption | refine gv_up ?_ rfl rfl | refine gv_sx ?_ (by assumption)))  (fun _ => ?_)
    | refine w_at_X3_53 _ (gv_i (E := [1, 2, 3, 4, 5, 6, 7, 48, 49, 52, 53, 54, 55, 56, 62]) (ν := ν) (by repeat' first | assumption | refine gv_up ?_ rfl rfl | refine gv_sx ?_ (by assumption)))  (fun _ => ?_)
    | refine w_at_X3_55 _ (gv_i (E := [1, 2, 3, 4, 5, 6, 7, 48, 49, 52, 53, 54, 55, 56, 62]) (ν := ν) (by repeat' first | assumption | refine gv_up ?_ rfl rfl | refine gv_sx ?_ (by assumption)))  (fun _ => ?_)
    | refine w_at_X3_58 _ (gv_i (E := [1, 2, 3, 4, 5, 6, 7, 48, 49, 52, 53, 54, 55, 56, 62]) (ν := ν) (by repeat' first | assumption | refine gv_up ?_ rfl rfl | refine gv_sx ?_ (by assumption)))  (fun _ => ?_)
    | refine w_at_X3_60 _ (gv_i (E := [1, 2, 3, 4, 5, 6, 7, 48, 49, 52, 53, 54, 55, 56, 62]) (ν := ν) (by repeat' first | assumption | refine gv_up ?_ rfl rfl | refine gv_sx ?_ (by assumption)))  (fun _ => ?_)
    | refine w_at36 _ (gv_i (E := [1, 2, 3, 4, 5, 6, 7, 48, 49, 52, 53, 54, 55, 56, 62]) (ν := ν) (by repeat' first | assumption | refine gv_up ?_ rfl rfl | refine gv_sx ?_ (by assumption))) (fun _ _ _ => ?_) ?_
    | refine gv_up ?_ rfl rfl
    | refine gv_b1 ?_ rfl ?_
    | refine gv_b22 ?_ rfl ?_
    | refine gv_b36 ?_ rfl ?_
    | refine gv_b44 ?_ rfl ?_
    | refine gv_b46 ?_ rfl ?_
    | refine gv_b48 ?_ rfl ?_
    | refine gv_b50 ?_ rfl ?_
    | refine gv_b53 ?_ rfl ?_
    | refine gv_b55 ?_ rfl ?_
    | refine gv_b58 ?_ rfl ?_
    | refine gv_b60 ?_ rfl ?_
    | refine gv_b62 ?_ rfl ?_
    | refine gv_sx ?_ (by assumption)
    | exact sx_rb (by assumption)
    | exact hS.1
    | exact hv0.1
    | refine lp18' _ _ ?_ ?_ ?_
    | refine And.intro (fun h => absurd h (by decide)) (fun _ => ?_)
    | refine And.intro (fun _ => ?_) (fun h => absurd (by decide) h)
    | refine And.intro (fun _ => ?_) (fun _ => ?_)
    | refine And.intro ?_ ?_
  all_goals (first | assumption | decide | omega | (split <;> simp only [am_c] at * <;> omega) | (intros; omega) | (simp only [am_c, am_up] at * <;> omega) | (simp [am_c, am_up] at * <;> omega))
theorem v_take_X3_55_60 {l : Launch} {μ : am_N} {Q : Option am_V → am_N → Prop} {ν : am_N}  (hS : gv [1, 2, 3, 4, 5, 6, 7, 48, 49, 52, 53, 54, 55, 56, 62] ν μ)  (k : ∀ μ', gv [1, 2, 3, 4, 5, 6, 7, 48, 49, 52, 53, 54, 55, 56, 62] ν μ' → Q none μ') : am_Does l 45 [.inr (.inr 55), .inr (.inr 60)] μ Q := by
  refine am_Does_of (Nat.le_of_ble_eq_true rfl) (Nat.le_of_ble_eq_true rfl) (Nat.le_of_ble_eq_true rfl) ?_
  have hb := sx_all hS.1
  have lp18 : ∀ (m : Nat) (i : Int) (μ : am_N) , gv [1, 2, 3, 4, 5, 6, 7, 48, 49, 52, 53, 54, 55, 56, 62] ν μ → 0 ≤ i → i ≤ 4 → 4 - i < (m : Int) → am_AW l 0 (fun _ => 0) 45 Q 18 [some (.inr (.inr 55)), some (.inr (.inr 60)), some (.inl i)] [] μ := by
    intro m
    induction m with
    | zero =>
      intro i μ hv0 hv1 hv2 hm
      have hb := sx_all hv0.1
      exfalso
      omega
    | succ m ih =>
      intro i μ hv0 hv1 hv2 hm
      have hb := sx_all hv0.1
      refine am_go (ct := fun pc => Nat.beq pc 18) am_oX3_take 300 ?_
      conv => whnf
      repeat' first
        | (refine (?_ : am_wp _ _ _ _ _ _ _ _ _ _ _ _); conv => whnf)
        | (refine (?_ : am_sw _ _ _ _); conv => whnf)
        | refine And.intro trivial ?_
        | exact trivial
        | assumption
        | refine k _ ?_
        | refine w_at_X3_44 _ (gv_i (E := [1, 2, 3, 4, 5, 6, 7, 48, 49, 52, 53, 54, 55, 56, 62]) (ν := ν) (by repeat' first | assumption | refine gv_up ?_ rfl rfl | refine gv_sx ?_ (by assumption)))  (fun _ => ?_)
        | refine w_at_X3_46 _ (gv_i (E := [1, 2, 3, 4, 5, 6, 7, 48, 49, 52, 53, 54, 55, 56, 62]) (ν := ν) (by repeat' first | assumption | refine gv_up ?_ rfl rfl | refine gv_sx ?_ (by assumption)))  (fun _ => ?_)
        | refine w_at_X3_48 _ (gv_i (E := [1, 2, 3, 4, 5, 6, 7, 48, 49, 52, 53, 54, 55, 56, 62]) (ν := ν) (by repeat' first | assumption | refine gv_up ?_ rfl rfl | refine gv_sx ?_ (by assumption)))  (fun _ => ?_)
        | refine w_at_X3_50 _ (gv_i (E := [1, 2, 3, 4, 5, 6, 7, 48, 49, 52, 53, 54, 55, 56, 62]) (ν := ν) (by repeat' first | assumption | refine gv_up ?_ rfl rfl | refine gv_sx ?_ (by assumption)))  (fun _ => ?_)
        | refine w_at_X3_53 _ (gv_i (E := [1, 2, 3, 4, 5, 6, 7, 48, 49, 52, 53, 54, 55, 56, 62]) (ν := ν) (by repeat' first | assumption | refine gv_up ?_ rfl rfl | refine gv_sx ?_ (by assumption)))  (fun _ => ?_)
        | refine w_at_X3_55 _ (gv_i (E := [1, 2, 3, 4, 5, 6, 7, 48, 49, 52, 53, 54, 55, 56, 62]) (ν := ν) (by repeat' first | assumption | refine gv_up ?_ rfl rfl | refine gv_sx ?_ (by assumption)))  (fun _ => ?_)
        | refine w_at_X3_58 _ (gv_i (E := [1, 2, 3, 4, 5, 6, 7, 48, 49, 52, 53, 54, 55, 56, 62]) (ν := ν) (by repeat' first | assumption | refine gv_up ?_ rfl rfl | refine gv_sx ?_ (by assumption)))  (fun _ => ?_)
        | refine w_at_X3_60 _ (gv_i (E := [1, 2, 3, 4, 5, 6, 7, 48, 49, 52, 53, 54, 55, 56, 62]) (ν := ν) (by repeat' first | assumption | refine gv_up ?_ rfl rfl | refine gv_sx ?_ (by assumption)))  (fun _ => ?_)
        | refine w_at36 _ (gv_i (E := [1, 2, 3, 4, 5, 6, 7, 48, 49, 52, 53, 54, 55, 56, 62]) (ν := ν) (by repeat' first | assumption | refine gv_up ?_ rfl rfl | refine gv_sx ?_ (by assumption))) (fun _ _ _ => ?_) ?_
        | refine gv_up ?_ rfl rfl
        | refine gv_b1 ?_ rfl ?_
        | refine gv_b22 ?_ rfl ?_
        | refine gv_b36 ?_ rfl ?_
        | refine gv_b44 ?_ rfl ?_
        | refine gv_b46 ?_ rfl ?_
        | refine gv_b48 ?_ rfl ?_
        | refine gv_b50 ?_ rfl ?_
        | refine gv_b53 ?_ rfl ?_
        | refine gv_b55 ?_ rfl ?_
        | refine gv_b58 ?_ rfl ?_
        | refine gv_b60 ?_ rfl ?_
        | refine gv_b62 ?_ rfl ?_
        | refine gv_sx ?_ (by assumption)
        | exact sx_rb (by assumption)
        | exact hS.1
        | exact hv0.1
        | refine ih _ _ ?_ ?_ ?_ ?_
        | refine And.intro (fun h => absurd h (by decide)) (fun _ => ?_)
        | refine And.intro (fun _ => ?_) (fun h => absurd (by decide) h)
        | refine And.intro (fun _ => ?_) (fun _ => ?_)
        | refine And.intro ?_ ?_
      all_goals (first | assumption | decide | omega | (split <;> simp only [am_c] at * <;> omega) | (intros; omega) | (simp only [am_c, am_up] at * <;> omega) | (simp [am_c, am_up] at * <;> omega))
  have lp18' : ∀ (i : Int) (μ : am_N) , gv [1, 2, 3, 4, 5, 6, 7, 48, 49, 52, 53, 54, 55, 56, 62] ν μ → 0 ≤ i → i ≤ 4 → am_AW l 0 (fun _ => 0) 45 Q 18 [some (.inr (.inr 55)), some (.inr (.inr 60)), some (.inl i)] [] μ := fun i μ hv0 hv1 hv2 => lp18 ((4 - i) + 1).toNat i μ hv0 hv1 hv2 (by omega)
  refine am_go (ct := fun pc => Nat.beq pc 18) am_oX3_take 300 ?_
  conv => whnf
  repeat' first
    | (refine (?_ : am_wp _ _ _ _ _ _ _ _ _ _ _ _); conv => whnf)
    | (refine (?_ : am_sw _ _ _ _); conv => whnf)
    | refine And.intro trivial ?_
    | exact trivial
    | assumption
    | refine k _ ?_
    | refine w_at_X3_44 _ (gv_i (E := [1, 2, 3, 4, 5, 6, 7, 48, 49, 52, 53, 54, 55, 56, 62]) (ν := ν) (by repeat' first | assumption | refine gv_up ?_ rfl rfl | refine gv_sx ?_ (by assumption)))  (fun _ => ?_)
    | refine w_at_X3_46 _ (gv_i (E := [1, 2, 3, 4, 5, 6, 7, 48, 49, 52, 53, 54, 55, 56, 62]) (ν := ν) (by repeat' first | assumption | refine gv_up ?_ rfl rfl | refine gv_sx ?_ (by assumption)))  (fun _ => ?_)
    | refine w_at_X3_48 _ (gv_i (E := [1, 2, 3, 4, 5, 6, 7, 48, 49, 52, 53, 54, 55, 56, 62]) (ν := ν) (by repeat' first | assumption | refine gv_up ?_ rfl rfl | refine gv_sx ?_ (by assumption)))  (fun _ => ?_)
    | refine w_at_X3_50 _ (gv_i (E := [1, 2, 3, 4, 5, 6, 7, 48, 49, 52, 53, 54, 55, 56, 62]) (ν := ν) (by repeat' first | assumption | refine gv_up ?_ rfl rfl | refine gv_sx ?_ (by assumption)))  (fun _ => ?_)
    | refine w_at_X3_53 _ (gv_i (E := [1, 2, 3, 4, 5, 6, 7, 48, 49, 52, 53, 54, 55, 56, 62]) (ν := ν) (by repeat' first | assumption | refine gv_up ?_ rfl rfl | refine gv_sx ?_ (by assumption)))  (fun _ => ?_)
    | refine w_at_X3_55 _ (gv_i (E := [1, 2, 3, 4, 5, 6, 7, 48, 49, 52, 53, 54, 55, 56, 62]) (ν := ν) (by repeat' first | assumption | refine gv_up ?_ rfl rfl | refine gv_sx ?_ (by assumption)))  (fun _ => ?_)
    | refine w_at_X3_58 _ (gv_i (E := [1, 2, 3, 4, 5, 6, 7, 48, 49, 52, 53, 54, 55, 56, 62]) (ν := ν) (by repeat' first | assumption | refine gv_up ?_ rfl rfl | refine gv_sx ?_ (by assumption)))  (fun _ => ?_)
    | refine w_at_X3_60 _ (gv_i (E := [1, 2, 3, 4, 5, 6, 7, 48, 49, 52, 53, 54, 55, 56, 62]) (ν := ν) (by repeat' first | assumption | refine gv_up ?_ rfl rfl | refine gv_sx ?_ (by assumption)))  (fun _ => ?_)
    | refine w_at36 _ (gv_i (E := [1, 2, 3, 4, 5, 6, 7, 48, 49, 52, 53, 54, 55, 56, 62]) (ν := ν) (by repeat' first | assumption | refine gv_up ?_ rfl rfl | refine gv_sx ?_ (by assumption))) (fun _ _ _ => ?_) ?_
    | refine gv_up ?_ rfl rfl
    | refine gv_b1 ?_ rfl ?_
    | refine gv_b22 ?_ rfl ?_
    | refine gv_b36 ?_ rfl ?_
    | refine gv_b44 ?_ rfl ?_
    | refine gv_b46 ?_ rfl ?_
    | refine gv_b48 ?_ rfl ?_
    | refine gv_b50 ?_ rfl ?_
    | refine gv_b53 ?_ rfl ?_
    | refine gv_b55 ?_ rfl ?_
    | refine gv_b58 ?_ rfl ?_
    | refine gv_b60 ?_ rfl ?_
    | refine gv_b62 ?_ rfl ?_
    | refine gv_sx ?_ (by assumption)
    | exact sx_rb (by assumption)
    | exact hS.1
    | exact hv0.1
    | refine lp18' _ _ ?_ ?_ ?_
    | refine And.intro (fun h => absurd h (by decide)) (fun _ => ?_)
    | refine And.intro (fun _ => ?_) (fun h => absurd (by decide) h)
    | refine And.intro (fun _ => ?_) (fun _ => ?_)
    | refine And.intro ?_ ?_
  all_goals (first | assumption | decide | omega | (split <;> simp only [am_c] at * <;> omega) | (intros; omega) | (simp only [am_c, am_up] at * <;> omega) | (simp [am_c, am_up] at * <;> omega))
theorem v_take_X1_57_52 {l : Launch} {μ : am_N} {Q : Option am_V → am_N → Prop} {ν : am_N}  (hS : gv [22, 23, 24, 25, 26, 27, 28, 50, 51, 57, 58, 59, 60, 61, 0] ν μ)  (k : ∀ μ', gv [22, 23, 24, 25, 26, 27, 28, 50, 51, 57, 58, 59, 60, 61, 0] ν μ' → Q none μ') : am_Does l 18 [.inr (.inr 57), .inr (.inr 52)] μ Q := by
  refine am_Does_of (Nat.le_of_ble_eq_true rfl) (Nat.le_of_ble_eq_true rfl) (Nat.le_of_ble_eq_true rfl) ?_
  have hb := sx_all hS.1
  refine am_go (ct := fun _ => false) am_oX1_take 300 ?_
  conv => whnf
  repeat' first
    | (refine (?_ : am_wp _ _ _ _ _ _ _ _ _ _ _ _); conv => whnf)
    | (refine (?_ : am_sw _ _ _ _); conv => whnf)
    | refine And.intro trivial ?_
    | exact trivial
    | assumption
    | refine k _ ?_
    | refine v_take_X3_58_53 (ν := ν)  ?_  (fun _ _ => ?_)
    | refine v_take_X3_60_55 (ν := ν)  ?_  (fun _ _ => ?_)
    | refine gv_up ?_ rfl rfl
    | refine gv_b1 ?_ rfl ?_
    | refine gv_b22 ?_ rfl ?_
    | refine gv_b36 ?_ rfl ?_
    | refine gv_b44 ?_ rfl ?_
    | refine gv_b46 ?_ rfl ?_
    | refine gv_b48 ?_ rfl ?_
    | refine gv_b50 ?_ rfl ?_
    | refine gv_b53 ?_ rfl ?_
    | refine gv_b55 ?_ rfl ?_
    | refine gv_b58 ?_ rfl ?_
    | refine gv_b60 ?_ rfl ?_
    | refine gv_b62 ?_ rfl ?_
    | refine gv_sx ?_ (by assumption)
    | exact sx_rb (by assumption)
    | exact hS.1
    | exact hv0.1
    | refine And.intro (fun h => absurd h (by decide)) (fun _ => ?_)
    | refine And.intro (fun _ => ?_) (fun h => absurd (by decide) h)
    | refine And.intro (fun _ => ?_) (fun _ => ?_)
    | refine And.intro ?_ ?_
  all_goals (first | assumption | decide | omega | (intros; omega) | (intros; simp only [am_c] at * <;> omega) | (simp only [am_c, am_up] at * <;> omega) | (simp [am_c, am_up] at * <;> omega))
theorem v_take_X1_52_57 {l : Launch} {μ : am_N} {Q : Option am_V → am_N → Prop} {ν : am_N}  (hS : gv [1, 2, 3, 4, 5, 6, 7, 48, 49, 52, 53, 54, 55, 56, 62] ν μ)  (k : ∀ μ', gv [1, 2, 3, 4, 5, 6, 7, 48, 49, 52, 53, 54, 55, 56, 62] ν μ' → Q none μ') : am_Does l 18 [.inr (.inr 52), .inr (.inr 57)] μ Q := by
  refine am_Does_of (Nat.le_of_ble_eq_true rfl) (Nat.le_of_ble_eq_true rfl) (Nat.le_of_ble_eq_true rfl) ?_
  have hb := sx_all hS.1
  refine am_go (ct := fun _ => false) am_oX1_take 300 ?_
  conv => whnf
  repeat' first
    | (refine (?_ : am_wp _ _ _ _ _ _ _ _ _ _ _ _); conv => whnf)
    | (refine (?_ : am_sw _ _ _ _); conv => whnf)
    | refine And.intro trivial ?_
    | exact trivial
    | assumption
    | refine k _ ?_
    | refine v_take_X3_53_58 (ν := ν)  ?_  (fun _ _ => ?_)
    | refine v_take_X3_55_60 (ν := ν)  ?_  (fun _ _ => ?_)
    | refine gv_up ?_ rfl rfl
    | refine gv_b1 ?_ rfl ?_
    | refine gv_b22 ?_ rfl ?_
    | refine gv_b36 ?_ rfl ?_
    | refine gv_b44 ?_ rfl ?_
    | refine gv_b46 ?_ rfl ?_
    | refine gv_b48 ?_ rfl ?_
    | refine gv_b50 ?_ rfl ?_
    | refine gv_b53 ?_ rfl ?_
    | refine gv_b55 ?_ rfl ?_
    | refine gv_b58 ?_ rfl ?_
    | refine gv_b60 ?_ rfl ?_
    | refine gv_b62 ?_ rfl ?_
    | refine gv_sx ?_ (by assumption)
    | exact sx_rb (by assumption)
    | exact hS.1
    | exact hv0.1
    | refine And.intro (fun h => absurd h (by decide)) (fun _ => ?_)
    | refine And.intro (fun _ => ?_) (fun h => absurd (by decide) h)
    | refine And.intro (fun _ => ?_) (fun _ => ?_)
    | refine And.intro ?_ ?_
  all_goals (first | assumption | decide | omega | (intros; omega) | (intros; simp only [am_c] at * <;> omega) | (simp only [am_c, am_up] at * <;> omega) | (simp [am_c, am_up] at * <;> omega))
theorem v_more_X0_1 {l : Launch} {μ : am_N} {Q : Option am_V → am_N → Prop} {ν : am_N} (i v : Int) (hS : gv [1, 6, 7, 62, 63, 64, 65, 66, 67, 68, 69, 70, 71, 72, 73, 74, 75, 76, 77] ν μ)  (k : ∀ μ', gv [1, 6, 7, 62, 63, 64, 65, 66, 67, 68, 69, 70, 71, 72, 73, 74, 75, 76, 77] ν μ' → Q none μ') : am_Does l 11 [.inr (.inr 1), .inl i, .inl v] μ Q := by
  refine am_Does_of (Nat.le_of_ble_eq_true rfl) (Nat.le_of_ble_eq_true rfl) (Nat.le_of_ble_eq_true rfl) ?_
  have hb := sx_all hS.1
  refine am_go (ct := fun _ => false) am_oX0_more 300 ?_
  conv => whnf
  repeat' first
    | (refine (?_ : am_wp _ _ _ _ _ _ _ _ _ _ _ _); conv => whnf)
    | (refine (?_ : am_sw _ _ _ _); conv => whnf)
    | refine And.intro trivial ?_
    | exact trivial
    | assumption
    | refine k _ ?_
    | refine gv_up ?_ rfl rfl
    | refine gv_b1 ?_ rfl ?_
    | refine gv_b22 ?_ rfl ?_
    | refine gv_b36 ?_ rfl ?_
    | refine gv_b44 ?_ rfl ?_
    | refine gv_b46 ?_ rfl ?_
    | refine gv_b48 ?_ rfl ?_
    | refine gv_b50 ?_ rfl ?_
    | refine gv_b53 ?_ rfl ?_
    | refine gv_b55 ?_ rfl ?_
    | refine gv_b58 ?_ rfl ?_
    | refine gv_b60 ?_ rfl ?_
    | refine gv_b62 ?_ rfl ?_
    | refine gv_sx ?_ (by assumption)
    | exact sx_rb (by assumption)
    | exact hS.1
    | exact hv0.1
    | refine And.intro (fun h => absurd h (by decide)) (fun _ => ?_)
    | refine And.intro (fun _ => ?_) (fun h => absurd (by decide) h)
    | refine And.intro (fun _ => ?_) (fun _ => ?_)
    | refine And.intro ?_ ?_
  all_goals (first | assumption | decide | omega | (intros; omega) | (intros; simp only [am_c] at * <;> omega) | (simp only [am_c, am_up] at * <;> omega) | (simp [am_c, am_up] at * <;> omega))
theorem v_mend_X0_1 {l : Launch} {μ : am_N} {Q : Option am_V → am_N → Prop} {ν : am_N} (a b : Int) (hS : gv [1, 6, 7, 62, 63, 64, 65, 66, 67, 68, 69, 70, 71, 72, 73, 74, 75, 76, 77] ν μ)  (k : ∀ μ', gv [1, 6, 7, 62, 63, 64, 65, 66, 67, 68, 69, 70, 71, 72, 73, 74, 75, 76, 77] ν μ' → Q none μ') : am_Does l 12 [.inr (.inr 1), .inl a, .inl b] μ Q := by
  refine am_Does_of (Nat.le_of_ble_eq_true rfl) (Nat.le_of_ble_eq_true rfl) (Nat.le_of_ble_eq_true rfl) ?_
  have hb := sx_all hS.1
  have lp61 : ∀ (m : Nat) (i : Int) (μ : am_N) , gv [1, 6, 7, 62, 63, 64, 65, 66, 67, 68, 69, 70, 71, 72, 73, 74, 75, 76, 77] ν μ → 0 ≤ i → i ≤ 4 → 4 - i < (m : Int) → am_AW l 0 (fun _ => 0) 12 Q 61 [some (.inr (.inr 1)), some (.inl a), some (.inl b), some (.inl i)] [] μ := by
    intro m
    induction m with
    | zero =>
      intro i μ hv0 hv1 hv2 hm
      have hb := sx_all hv0.1
      exfalso
      omega
    | succ m ih =>
      intro i μ hv0 hv1 hv2 hm
      have hb := sx_all hv0.1
      refine am_go (ct := fun pc => Nat.beq pc 61 || Nat.beq pc 59 || Nat.beq pc 34) am_oX0_mend 300 ?_
      conv => whnf
      repeat' first
        | (refine (?_ : am_wp _ _ _ _ _ _ _ _ _ _ _ _); conv => whnf)
        | (refine (?_ : am_sw _ _ _ _); conv => whnf)
        | refine And.intro trivial ?_
        | exact trivial
        | assumption
        | refine k _ ?_
        | refine v_more_X0_1 (ν := ν) _ _ ?_  (fun _ _ => ?_)
        | refine w_more_X0_8 _ _ (gv_i (E := [1, 6, 7, 62, 63, 64, 65, 66, 67, 68, 69, 70, 71, 72, 73, 74, 75, 76, 77]) (ν := ν) (by repeat' first | assumption | refine gv_up ?_ rfl rfl | refine gv_sx ?_ (by assumption)))  (fun _ _ => ?_)
        | refine w_more_X0_15 _ _ (gv_i (E := [1, 6, 7, 62, 63, 64, 65, 66, 67, 68, 69, 70, 71, 72, 73, 74, 75, 76, 77]) (ν := ν) (by repeat' first | assumption | refine gv_up ?_ rfl rfl | refine gv_sx ?_ (by assumption)))  (fun _ _ => ?_)
        | refine gv_up ?_ rfl rfl
        | refine gv_b1 ?_ rfl ?_
        | refine gv_b22 ?_ rfl ?_
        | refine gv_b36 ?_ rfl ?_
        | refine gv_b44 ?_ rfl ?_
        | refine gv_b46 ?_ rfl ?_
        | refine gv_b48 ?_ rfl ?_
        | refine gv_b50 ?_ rfl ?_
        | refine gv_b53 ?_ rfl ?_
        | refine gv_b55 ?_ rfl ?_
        | refine gv_b58 ?_ rfl ?_
        | refine gv_b60 ?_ rfl ?_
        | refine gv_b62 ?_ rfl ?_
        | refine gv_sx ?_ (by assumption)
        | exact sx_rb (by assumption)
        | exact hS.1
        | exact hv0.1
        | refine ih _ _ ?_ ?_ ?_ ?_
        | refine And.intro (fun h => absurd h (by decide)) (fun _ => ?_)
        | refine And.intro (fun _ => ?_) (fun h => absurd (by decide) h)
        | refine And.intro (fun _ => ?_) (fun _ => ?_)
        | refine And.intro ?_ ?_
      all_goals (first | assumption | decide | omega | (intros; omega) | (intros; simp only [am_c] at * <;> omega) | (simp only [am_c, am_up] at * <;> omega) | (simp [am_c, am_up] at * <;> omega))
  have lp61' : ∀ (i : Int) (μ : am_N) , gv [1, 6, 7, 62, 63, 64, 65, 66, 67, 68, 69, 70, 71, 72, 73, 74, 75, 76, 77] ν μ → 0 ≤ i → i ≤ 4 → am_AW l 0 (fun _ => 0) 12 Q 61 [some (.inr (.inr 1)), some (.inl a), some (.inl b), some (.inl i)] [] μ := fun i μ hv0 hv1 hv2 => lp61 ((4 - i) + 1).toNat i μ hv0 hv1 hv2 (by omega)
  have lp59 : ∀  (μ : am_N), gv [1, 6, 7, 62, 63, 64, 65, 66, 67, 68, 69, 70, 71, 72, 73, 74, 75, 76, 77] ν μ → am_AW l 0 (fun _ => 0) 12 Q 59 [some (.inr (.inr 1)), some (.inl a), some (.inl b), none] [] μ := by
    intro  μ hv0
    refine am_go (ct := fun pc => Nat.beq pc 61 || Nat.beq pc 59 || Nat.beq pc 34) am_oX0_mend 300 ?_
    conv => whnf
    repeat' first
      | (refine (?_ : am_wp _ _ _ _ _ _ _ _ _ _ _ _); conv => whnf)
      | (refine (?_ : am_sw _ _ _ _); conv => whnf)
      | refine And.intro trivial ?_
      | exact trivial
      | assumption
      | refine k _ ?_
      | refine v_more_X0_1 (ν := ν) _ _ ?_  (fun _ _ => ?_)
      | refine w_more_X0_8 _ _ (gv_i (E := [1, 6, 7, 62, 63, 64, 65, 66, 67, 68, 69, 70, 71, 72, 73, 74, 75, 76, 77]) (ν := ν) (by repeat' first | assumption | refine gv_up ?_ rfl rfl | refine gv_sx ?_ (by assumption)))  (fun _ _ => ?_)
      | refine w_more_X0_15 _ _ (gv_i (E := [1, 6, 7, 62, 63, 64, 65, 66, 67, 68, 69, 70, 71, 72, 73, 74, 75, 76, 77]) (ν := ν) (by repeat' first | assumption | refine gv_up ?_ rfl rfl | refine gv_sx ?_ (by assumption)))  (fun _ _ => ?_)
      | refine gv_up ?_ rfl rfl
      | refine gv_b1 ?_ rfl ?_
      | refine gv_b22 ?_ rfl ?_
      | refine gv_b36 ?_ rfl ?_
      | refine gv_b44 ?_ rfl ?_
      | refine gv_b46 ?_ rfl ?_
      | refine gv_b48 ?_ rfl ?_
      | refine gv_b50 ?_ rfl ?_
      | refine gv_b53 ?_ rfl ?_
      | refine gv_b55 ?_ rfl ?_
      | refine gv_b58 ?_ rfl ?_
      | refine gv_b60 ?_ rfl ?_
      | refine gv_b62 ?_ rfl ?_
      | refine gv_sx ?_ (by assumption)
      | exact sx_rb (by assumption)
      | exact hS.1
      | exact hv0.1
      | refine lp61' _ _ ?_ ?_ ?_
      | refine And.intro (fun h => absurd h (by decide)) (fun _ => ?_)
      | refine And.intro (fun _ => ?_) (fun h => absurd (by decide) h)
      | refine And.intro (fun _ => ?_) (fun _ => ?_)
      | refine And.intro ?_ ?_
    all_goals (first | assumption | decide | omega | (intros; omega) | (intros; simp only [am_c] at * <;> omega) | (simp only [am_c, am_up] at * <;> omega) | (simp [am_c, am_up] at * <;> omega))
  have lp34 : ∀  (μ : am_N), gv [1, 6, 7, 62, 63, 64, 65, 66, 67, 68, 69, 70, 71, 72, 73, 74, 75, 76, 77] ν μ → am_AW l 0 (fun _ => 0) 12 Q 34 [some (.inr (.inr 1)), some (.inl a), some (.inl b), none] [] μ := by
    intro  μ hv0
    refine am_go (ct := fun pc => Nat.beq pc 61 || Nat.beq pc 59 || Nat.beq pc 34) am_oX0_mend 300 ?_
    conv => whnf
    repeat' first
      | (refine (?_ : am_wp _ _ _ _ _ _ _ _ _ _ _ _); conv => whnf)
      | (refine (?_ : am_sw _ _ _ _); conv => whnf)
      | refine And.intro trivial ?_
      | exact trivial
      | assumption
      | refine k _ ?_
      | refine v_more_X0_1 (ν := ν) _ _ ?_  (fun _ _ => ?_)
      | refine w_more_X0_8 _ _ (gv_i (E := [1, 6, 7, 62, 63, 64, 65, 66, 67, 68, 69, 70, 71, 72, 73, 74, 75, 76, 77]) (ν := ν) (by repeat' first | assumption | refine gv_up ?_ rfl rfl | refine gv_sx ?_ (by assumption)))  (fun _ _ => ?_)
      | refine w_more_X0_15 _ _ (gv_i (E := [1, 6, 7, 62, 63, 64, 65, 66, 67, 68, 69, 70, 71, 72, 73, 74, 75, 76, 77]) (ν := ν) (by repeat' first | assumption | refine gv_up ?_ rfl rfl | refine gv_sx ?_ (by assumption)))  (fun _ _ => ?_)
      | refine gv_up ?_ rfl rfl
      | refine gv_b1 ?_ rfl ?_
      | refine gv_b22 ?_ rfl ?_
      | refine gv_b36 ?_ rfl ?_
      | refine gv_b44 ?_ rfl ?_
      | refine gv_b46 ?_ rfl ?_
      | refine gv_b48 ?_ rfl ?_
      | refine gv_b50 ?_ rfl ?_
      | refine gv_b53 ?_ rfl ?_
      | refine gv_b55 ?_ rfl ?_
      | refine gv_b58 ?_ rfl ?_
      | refine gv_b60 ?_ rfl ?_
      | refine gv_b62 ?_ rfl ?_
      | refine gv_sx ?_ (by assumption)
      | exact sx_rb (by assumption)
      | exact hS.1
      | exact hv0.1
      | refine lp59  _ ?_
      | refine lp61' _ _ ?_ ?_ ?_
      | refine And.intro (fun h => absurd h (by decide)) (fun _ => ?_)
      | refine And.intro (fun _ => ?_) (fun h => absurd (by decide) h)
      | refine And.intro (fun _ => ?_) (fun _ => ?_)
      | refine And.intro ?_ ?_
    all_goals (first | assumption | decide | omega | (intros; omega) | (intros; simp only [am_c] at * <;> omega) | (simp only [am_c, am_up] at * <;> omega) | (simp [am_c, am_up] at * <;> omega))
  refine am_go (ct := fun pc => Nat.beq pc 61 || Nat.beq pc 59 || Nat.beq pc 34) am_oX0_mend 300 ?_
  conv => whnf
  repeat' first
    | (refine (?_ : am_wp _ _ _ _ _ _ _ _ _ _ _ _); conv => whnf)
    | (refine (?_ : am_sw _ _ _ _); conv => whnf)
    | refine And.intro trivial ?_
    | exact trivial
    | assumption
    | refine k _ ?_
    | refine v_more_X0_1 (ν := ν) _ _ ?_  (fun _ _ => ?_)
    | refine w_more_X0_8 _ _ (gv_i (E := [1, 6, 7, 62, 63, 64, 65, 66, 67, 68, 69, 70, 71, 72, 73, 74, 75, 76, 77]) (ν := ν) (by repeat' first | assumption | refine gv_up ?_ rfl rfl | refine gv_sx ?_ (by assumption)))  (fun _ _ => ?_)
    | refine w_more_X0_15 _ _ (gv_i (E := [1, 6, 7, 62, 63, 64, 65, 66, 67, 68, 69, 70, 71, 72, 73, 74, 75, 76, 77]) (ν := ν) (by repeat' first | assumption | refine gv_up ?_ rfl rfl | refine gv_sx ?_ (by assumption)))  (fun _ _ => ?_)
    | refine gv_up ?_ rfl rfl
    | refine gv_b1 ?_ rfl ?_
    | refine gv_b22 ?_ rfl ?_
    | refine gv_b36 ?_ rfl ?_
    | refine gv_b44 ?_ rfl ?_
    | refine gv_b46 ?_ rfl ?_
    | refine gv_b48 ?_ rfl ?_
    | refine gv_b50 ?_ rfl ?_
    | refine gv_b53 ?_ rfl ?_
    | refine gv_b55 ?_ rfl ?_
    | refine gv_b58 ?_ rfl ?_
    | refine gv_b60 ?_ rfl ?_
    | refine gv_b62 ?_ rfl ?_
    | refine gv_sx ?_ (by assumption)
    | exact sx_rb (by assumption)
    | exact hS.1
    | exact hv0.1
    | refine lp34  _ ?_
    | refine lp59  _ ?_
    | refine lp61' _ _ ?_ ?_ ?_
    | refine And.intro (fun h => absurd h (by decide)) (fun _ => ?_)
    | refine And.intro (fun _ => ?_) (fun h => absurd (by decide) h)
    | refine And.intro (fun _ => ?_) (fun _ => ?_)
    | refine And.intro ?_ ?_
  all_goals (first | assumption | decide | omega | (intros; omega) | (intros; simp only [am_c] at * <;> omega) | (simp only [am_c, am_up] at * <;> omega) | (simp [am_c, am_up] at * <;> omega))
theorem v_behind_X2_1 {l : Launch} {μ : am_N} {Q : Option am_V → am_N → Prop} {ν : am_N}  (hS : gv [1, 6, 7, 62, 63, 64, 65, 66, 67, 68, 69, 70, 71, 72, 73, 74, 75, 76, 77] ν μ)  (k : ∀ μ', gv [1, 6, 7, 62, 63, 64, 65, 66, 67, 68, 69, 70, 71, 72, 73, 74, 75, 76, 77] ν μ' → Q none μ') : am_Does l 35 [.inr (.inr 29), .inr (.inr 1)] μ Q := by
  refine am_Does_of (Nat.le_of_ble_eq_true rfl) (Nat.le_of_ble_eq_true rfl) (Nat.le_of_ble_eq_true rfl) ?_
  have hb := sx_all hS.1
  refine am_go (ct := fun _ => false) am_oX2_behind 300 ?_
  conv => whnf
  repeat' first
    | (refine (?_ : am_wp _ _ _ _ _ _ _ _ _ _ _ _); conv => whnf)
    | (refine (?_ : am_sw _ _ _ _); conv => whnf)
    | refine And.intro trivial ?_
    | exact trivial
    | assumption
    | refine k _ ?_
    | refine v_mend_X0_1 (ν := ν) _ _ ?_  (fun _ _ => ?_)
    | refine w_first_X2_29  (gv_i (E := [1, 6, 7, 62, 63, 64, 65, 66, 67, 68, 69, 70, 71, 72, 73, 74, 75, 76, 77]) (ν := ν) (by repeat' first | assumption | refine gv_up ?_ rfl rfl | refine gv_sx ?_ (by assumption)))  (fun _ => ?_)
    | refine w_first_X2_38  (gv_i (E := [1, 6, 7, 62, 63, 64, 65, 66, 67, 68, 69, 70, 71, 72, 73, 74, 75, 76, 77]) (ν := ν) (by repeat' first | assumption | refine gv_up ?_ rfl rfl | refine gv_sx ?_ (by assumption)))  (fun _ => ?_)
    | refine w_last_X2_29  (gv_i (E := [1, 6, 7, 62, 63, 64, 65, 66, 67, 68, 69, 70, 71, 72, 73, 74, 75, 76, 77]) (ν := ν) (by repeat' first | assumption | refine gv_up ?_ rfl rfl | refine gv_sx ?_ (by assumption)))  (fun _ => ?_)
    | refine w_last_X2_38  (gv_i (E := [1, 6, 7, 62, 63, 64, 65, 66, 67, 68, 69, 70, 71, 72, 73, 74, 75, 76, 77]) (ν := ν) (by repeat' first | assumption | refine gv_up ?_ rfl rfl | refine gv_sx ?_ (by assumption)))  (fun _ => ?_)
    | refine w_mend_X0_8 _ _ (gv_i (E := [1, 6, 7, 62, 63, 64, 65, 66, 67, 68, 69, 70, 71, 72, 73, 74, 75, 76, 77]) (ν := ν) (by repeat' first | assumption | refine gv_up ?_ rfl rfl | refine gv_sx ?_ (by assumption)))  (fun _ _ => ?_)
    | refine w_mend_X0_15 _ _ (gv_i (E := [1, 6, 7, 62, 63, 64, 65, 66, 67, 68, 69, 70, 71, 72, 73, 74, 75, 76, 77]) (ν := ν) (by repeat' first | assumption | refine gv_up ?_ rfl rfl | refine gv_sx ?_ (by assumption)))  (fun _ _ => ?_)
    | refine gv_up ?_ rfl rfl
    | refine gv_b1 ?_ rfl ?_
    | refine gv_b22 ?_ rfl ?_
    | refine gv_b36 ?_ rfl ?_
    | refine gv_b44 ?_ rfl ?_
    | refine gv_b46 ?_ rfl ?_
    | refine gv_b48 ?_ rfl ?_
    | refine gv_b50 ?_ rfl ?_
    | refine gv_b53 ?_ rfl ?_
    | refine gv_b55 ?_ rfl ?_
    | refine gv_b58 ?_ rfl ?_
    | refine gv_b60 ?_ rfl ?_
    | refine gv_b62 ?_ rfl ?_
    | refine gv_sx ?_ (by assumption)
    | exact sx_rb (by assumption)
    | exact hS.1
    | exact hv0.1
    | refine And.intro (fun h => absurd h (by decide)) (fun _ => ?_)
    | refine And.intro (fun _ => ?_) (fun h => absurd (by decide) h)
    | refine And.intro (fun _ => ?_) (fun _ => ?_)
    | refine And.intro ?_ ?_
  all_goals (first | assumption | decide | omega | (intros; omega) | (intros; simp only [am_c] at * <;> omega) | (simp only [am_c, am_up] at * <;> omega) | (simp [am_c, am_up] at * <;> omega))
theorem v_goOn_X2_1 {l : Launch} {μ : am_N} {Q : Option am_V → am_N → Prop} {ν : am_N}  (hS : gv [1, 6, 7, 62, 63, 64, 65, 66, 67, 68, 69, 70, 71, 72, 73, 74, 75, 76, 77] ν μ)  (k : ∀ r μ', gv [1, 6, 7, 62, 63, 64, 65, 66, 67, 68, 69, 70, 71, 72, 73, 74, 75, 76, 77] ν μ' → Q (some (.inl r)) μ') : am_Does l 34 [.inr (.inr 29), .inr (.inr 1)] μ Q := by
  refine am_Does_of (Nat.le_of_ble_eq_true rfl) (Nat.le_of_ble_eq_true rfl) (Nat.le_of_ble_eq_true rfl) ?_
  have hb := sx_all hS.1
  refine am_go (ct := fun _ => false) am_oX2_goOn 300 ?_
  conv => whnf
  repeat' first
    | (refine (?_ : am_wp _ _ _ _ _ _ _ _ _ _ _ _); conv => whnf)
    | (refine (?_ : am_sw _ _ _ _); conv => whnf)
    | refine And.intro trivial ?_
    | exact trivial
    | assumption
    | refine k _ _ ?_
    | refine v_behind_X2_1 (ν := ν)  ?_  (fun _ _ => ?_)
    | refine w_asRule_X2_29_1  (gv_i (E := [1, 6, 7, 62, 63, 64, 65, 66, 67, 68, 69, 70, 71, 72, 73, 74, 75, 76, 77]) (ν := ν) (by repeat' first | assumption | refine gv_up ?_ rfl rfl | refine gv_sx ?_ (by assumption)))  (fun _ _ => ?_)
    | refine w_asRule_X2_29_8  (gv_i (E := [1, 6, 7, 62, 63, 64, 65, 66, 67, 68, 69, 70, 71, 72, 73, 74, 75, 76, 77]) (ν := ν) (by repeat' first | assumption | refine gv_up ?_ rfl rfl | refine gv_sx ?_ (by assumption)))  (fun _ _ => ?_)
    | refine w_asRule_X2_29_15  (gv_i (E := [1, 6, 7, 62, 63, 64, 65, 66, 67, 68, 69, 70, 71, 72, 73, 74, 75, 76, 77]) (ν := ν) (by repeat' first | assumption | refine gv_up ?_ rfl rfl | refine gv_sx ?_ (by assumption)))  (fun _ _ => ?_)
    | refine w_asRule_X2_38_8  (gv_i (E := [1, 6, 7, 62, 63, 64, 65, 66, 67, 68, 69, 70, 71, 72, 73, 74, 75, 76, 77]) (ν := ν) (by repeat' first | assumption | refine gv_up ?_ rfl rfl | refine gv_sx ?_ (by assumption)))  (fun _ _ => ?_)
    | refine w_first_X2_29  (gv_i (E := [1, 6, 7, 62, 63, 64, 65, 66, 67, 68, 69, 70, 71, 72, 73, 74, 75, 76, 77]) (ν := ν) (by repeat' first | assumption | refine gv_up ?_ rfl rfl | refine gv_sx ?_ (by assumption)))  (fun _ => ?_)
    | refine w_first_X2_38  (gv_i (E := [1, 6, 7, 62, 63, 64, 65, 66, 67, 68, 69, 70, 71, 72, 73, 74, 75, 76, 77]) (ν := ν) (by repeat' first | assumption | refine gv_up ?_ rfl rfl | refine gv_sx ?_ (by assumption)))  (fun _ => ?_)
    | refine w_has_X0_1 _ (gv_i (E := [1, 6, 7, 62, 63, 64, 65, 66, 67, 68, 69, 70, 71, 72, 73, 74, 75, 76, 77]) (ν := ν) (by repeat' first | assumption | refine gv_up ?_ rfl rfl | refine gv_sx ?_ (by assumption))) (fun _ _ _ => ?_) (fun _ => ?_)
    | refine w_has_X0_8 _ (gv_i (E := [1, 6, 7, 62, 63, 64, 65, 66, 67, 68, 69, 70, 71, 72, 73, 74, 75, 76, 77]) (ν := ν) (by repeat' first | assumption | refine gv_up ?_ rfl rfl | refine gv_sx ?_ (by assumption))) (fun _ _ _ => ?_) (fun _ => ?_)
    | refine w_has_X0_15 _ (gv_i (E := [1, 6, 7, 62, 63, 64, 65, 66, 67, 68, 69, 70, 71, 72, 73, 74, 75, 76, 77]) (ν := ν) (by repeat' first | assumption | refine gv_up ?_ rfl rfl | refine gv_sx ?_ (by assumption))) (fun _ _ _ => ?_) (fun _ => ?_)
    | refine w_behind_X2_38_8  (gv_i (E := [1, 6, 7, 62, 63, 64, 65, 66, 67, 68, 69, 70, 71, 72, 73, 74, 75, 76, 77]) (ν := ν) (by repeat' first | assumption | refine gv_up ?_ rfl rfl | refine gv_sx ?_ (by assumption)))  (fun _ _ => ?_)
    | refine w_behind_X2_29_8  (gv_i (E := [1, 6, 7, 62, 63, 64, 65, 66, 67, 68, 69, 70, 71, 72, 73, 74, 75, 76, 77]) (ν := ν) (by repeat' first | assumption | refine gv_up ?_ rfl rfl | refine gv_sx ?_ (by assumption)))  (fun _ _ => ?_)
    | refine w_behind_X2_29_15  (gv_i (E := [1, 6, 7, 62, 63, 64, 65, 66, 67, 68, 69, 70, 71, 72, 73, 74, 75, 76, 77]) (ν := ν) (by repeat' first | assumption | refine gv_up ?_ rfl rfl | refine gv_sx ?_ (by assumption)))  (fun _ _ => ?_)
    | refine gv_up ?_ rfl rfl
    | refine gv_b1 ?_ rfl ?_
    | refine gv_b22 ?_ rfl ?_
    | refine gv_b36 ?_ rfl ?_
    | refine gv_b44 ?_ rfl ?_
    | refine gv_b46 ?_ rfl ?_
    | refine gv_b48 ?_ rfl ?_
    | refine gv_b50 ?_ rfl ?_
    | refine gv_b53 ?_ rfl ?_
    | refine gv_b55 ?_ rfl ?_
    | refine gv_b58 ?_ rfl ?_
    | refine gv_b60 ?_ rfl ?_
    | refine gv_b62 ?_ rfl ?_
    | refine gv_sx ?_ (by assumption)
    | exact sx_rb (by assumption)
    | exact hS.1
    | exact hv0.1
    | refine And.intro (fun h => absurd h (by decide)) (fun _ => ?_)
    | refine And.intro (fun _ => ?_) (fun h => absurd (by decide) h)
    | refine And.intro (fun _ => ?_) (fun _ => ?_)
    | refine And.intro ?_ ?_
  all_goals (first | assumption | decide | omega | (intros; omega) | (intros; simp only [am_c] at * <;> omega) | (simp only [am_c, am_up] at * <;> omega) | (simp [am_c, am_up] at * <;> omega))
theorem am_aa1 {P : Nat → Prop} {l : List Nat} {i a : Nat} (h : l[i]? = some a) (hp : P a) : ∀ j : Nat, l[i]? = some j → P j := fun j hj => by
  rw [h] at hj
  cases hj
  exact hp
theorem v_loseOldest_X4 {l : Launch} {μ : am_N} {Q : Option am_V → am_N → Prop} {ν : am_N}  (hS : gv [1, 6, 7, 62, 63, 64, 65, 66, 67, 68, 69, 70, 71, 72, 73, 74, 75, 76, 77] ν μ)  (k : ∀ μ', gv [1, 6, 7, 62, 63, 64, 65, 66, 67, 68, 69, 70, 71, 72, 73, 74, 75, 76, 77] ν μ' → μ' 62 3 = 5 → Q none μ') : am_Does l 47 [.inr (.inr 62)] μ Q := by
  refine am_Does_of (Nat.le_of_ble_eq_true rfl) (Nat.le_of_ble_eq_true rfl) (Nat.le_of_ble_eq_true rfl) ?_
  have hb := sx_all hS.1
  refine am_go (ct := fun _ => false) am_oX4_loseOldest 900 ?_
  conv => whnf
  repeat' first
    | (refine (?_ : am_wp _ _ _ _ _ _ _ _ _ _ _ _); conv => whnf)
    | (refine (?_ : am_sw _ _ _ _); conv => whnf)
    | refine And.intro trivial ?_
    | exact trivial
    | assumption
    | refine k _ ?_ ?_
    | refine am_aa1 rfl ?_
    | refine gv_b62 ?_ rfl (by decide)
    | refine gv_up ?_ rfl rfl
    | refine gv_b1 ?_ rfl ?_
    | refine gv_b22 ?_ rfl ?_
    | refine gv_b36 ?_ rfl ?_
    | refine gv_b44 ?_ rfl ?_
    | refine gv_b46 ?_ rfl ?_
    | refine gv_b48 ?_ rfl ?_
    | refine gv_b50 ?_ rfl ?_
    | refine gv_b53 ?_ rfl ?_
    | refine gv_b55 ?_ rfl ?_
    | refine gv_b58 ?_ rfl ?_
    | refine gv_b60 ?_ rfl ?_
    | refine gv_b62 ?_ rfl ?_
    | refine gv_sx ?_ (by assumption)
    | exact sx_rb (by assumption)
    | exact hS.1
    | exact hv0.1
    | refine And.intro (fun h => absurd h (by decide)) (fun _ => ?_)
    | refine And.intro (fun _ => ?_) (fun h => absurd (by decide) h)
    | refine And.intro (fun _ => ?_) (fun _ => ?_)
    | refine And.intro ?_ ?_
  all_goals (first | decide | assumption | rfl | omega)
theorem v_keep_X4 {l : Launch} {μ : am_N} {Q : Option am_V → am_N → Prop} {ν : am_N}  (hS : gv [1, 6, 7, 62, 63, 64, 65, 66, 67, 68, 69, 70, 71, 72, 73, 74, 75, 76, 77] ν μ)  (k : ∀ μ', gv [1, 6, 7, 62, 63, 64, 65, 66, 67, 68, 69, 70, 71, 72, 73, 74, 75, 76, 77] ν μ' → Q none μ') : am_Does l 46 [.inr (.inr 62), .inr (.inr 1)] μ Q := by
  refine am_Does_of (Nat.le_of_ble_eq_true rfl) (Nat.le_of_ble_eq_true rfl) (Nat.le_of_ble_eq_true rfl) ?_
  have hb := sx_all hS.1
  have lp15 : ∀ (m : Nat) (i : Int) (μ : am_N) , gv [1, 6, 7, 62, 63, 64, 65, 66, 67, 68, 69, 70, 71, 72, 73, 74, 75, 76, 77] ν μ → 0 ≤ i → i ≤ 4 → μ 62 3 ≤ 5 → 4 - i < (m : Int) → am_AW l 0 (fun _ => 0) 46 Q 15 [some (.inr (.inr 62)), some (.inr (.inr 1)), some (.inl i)] [] μ := by
    intro m
    induction m with
    | zero =>
      intro i μ hv0 hv1 hv2 hv3 hm
      have hb := sx_all hv0.1
      exfalso
      omega
    | succ m ih =>
      intro i μ hv0 hv1 hv2 hv3 hm
      have hb := sx_all hv0.1
      refine am_go (ct := fun pc => Nat.beq pc 15 || Nat.beq pc 13) am_oX4_keep 300 ?_
      conv => whnf
      repeat' first
        | (refine (?_ : am_wp _ _ _ _ _ _ _ _ _ _ _ _); conv => whnf)
        | (refine (?_ : am_sw _ _ _ _); conv => whnf)
        | refine And.intro trivial ?_
        | exact trivial
        | assumption
        | refine k _ ?_
        | refine am_aa6 ?_ ?_ ?_ ?_ ?_ ?_ _
        | refine v_loseOldest_X4 (ν := ν)  ?_  (fun _ _ _ => ?_)
        | refine gv_up ?_ rfl rfl
        | refine gv_b1 ?_ rfl ?_
        | refine gv_b22 ?_ rfl ?_
        | refine gv_b36 ?_ rfl ?_
        | refine gv_b44 ?_ rfl ?_
        | refine gv_b46 ?_ rfl ?_
        | refine gv_b48 ?_ rfl ?_
        | refine gv_b50 ?_ rfl ?_
        | refine gv_b53 ?_ rfl ?_
        | refine gv_b55 ?_ rfl ?_
        | refine gv_b58 ?_ rfl ?_
        | refine gv_b60 ?_ rfl ?_
        | refine gv_b62 ?_ rfl ?_
        | refine gv_sx ?_ (by assumption)
        | exact sx_rb (by assumption)
        | exact hS.1
        | exact hv0.1
        | refine ih _ _ ?_ ?_ ?_ ?_ ?_
        | refine And.intro (fun h => absurd h (by decide)) (fun _ => ?_)
        | refine And.intro (fun _ => ?_) (fun h => absurd (by decide) h)
        | refine And.intro (fun _ => ?_) (fun _ => ?_)
        | refine And.intro ?_ ?_
      all_goals (first | assumption | decide | omega | (intros; omega) | (intros; simp only [am_c] at * <;> omega) | (simp only [am_c, am_up] at * <;> omega) | (simp [am_c, am_up] at * <;> omega))
  have lp15' : ∀ (i : Int) (μ : am_N) , gv [1, 6, 7, 62, 63, 64, 65, 66, 67, 68, 69, 70, 71, 72, 73, 74, 75, 76, 77] ν μ → 0 ≤ i → i ≤ 4 → μ 62 3 ≤ 5 → am_AW l 0 (fun _ => 0) 46 Q 15 [some (.inr (.inr 62)), some (.inr (.inr 1)), some (.inl i)] [] μ := fun i μ hv0 hv1 hv2 hv3 => lp15 ((4 - i) + 1).toNat i μ hv0 hv1 hv2 hv3 (by omega)
  have lp13 : ∀  (μ : am_N), gv [1, 6, 7, 62, 63, 64, 65, 66, 67, 68, 69, 70, 71, 72, 73, 74, 75, 76, 77] ν μ → μ 62 3 ≤ 5 → am_AW l 0 (fun _ => 0) 46 Q 13 [some (.inr (.inr 62)), some (.inr (.inr 1)), none] [] μ := by
    intro  μ hv0 hv1
    refine am_go (ct := fun pc => Nat.beq pc 15 || Nat.beq pc 13) am_oX4_keep 300 ?_
    conv => whnf
    repeat' first
      | (refine (?_ : am_wp _ _ _ _ _ _ _ _ _ _ _ _); conv => whnf)
      | (refine (?_ : am_sw _ _ _ _); conv => whnf)
      | refine And.intro trivial ?_
      | exact trivial
      | assumption
      | refine k _ ?_
      | refine am_aa6 ?_ ?_ ?_ ?_ ?_ ?_ _
      | refine v_loseOldest_X4 (ν := ν)  ?_  (fun _ _ _ => ?_)
      | refine gv_up ?_ rfl rfl
      | refine gv_b1 ?_ rfl ?_
      | refine gv_b22 ?_ rfl ?_
      | refine gv_b36 ?_ rfl ?_
      | refine gv_b44 ?_ rfl ?_
      | refine gv_b46 ?_ rfl ?_
      | refine gv_b48 ?_ rfl ?_
      | refine gv_b50 ?_ rfl ?_
      | refine gv_b53 ?_ rfl ?_
      | refine gv_b55 ?_ rfl ?_
      | refine gv_b58 ?_ rfl ?_
      | refine gv_b60 ?_ rfl ?_
      | refine gv_b62 ?_ rfl ?_
      | refine gv_sx ?_ (by assumption)
      | exact sx_rb (by assumption)
      | exact hS.1
      | exact hv0.1
      | refine lp15' _ _ ?_ ?_ ?_ ?_
      | refine And.intro (fun h => absurd h (by decide)) (fun _ => ?_)
      | refine And.intro (fun _ => ?_) (fun h => absurd (by decide) h)
      | refine And.intro (fun _ => ?_) (fun _ => ?_)
      | refine And.intro ?_ ?_
    all_goals (first | assumption | decide | omega | (intros; omega) | (intros; simp only [am_c] at * <;> omega) | (simp only [am_c, am_up] at * <;> omega) | (simp [am_c, am_up] at * <;> omega))
  refine am_go (ct := fun pc => Nat.beq pc 15 || Nat.beq pc 13) am_oX4_keep 300 ?_
  conv => whnf
  repeat' first
    | (refine (?_ : am_wp _ _ _ _ _ _ _ _ _ _ _ _); conv => whnf)
    | (refine (?_ : am_sw _ _ _ _); conv => whnf)
    | refine And.intro trivial ?_
    | exact trivial
    | assumption
    | refine k _ ?_
    | refine am_aa6 ?_ ?_ ?_ ?_ ?_ ?_ _
    | refine v_loseOldest_X4 (ν := ν)  ?_  (fun _ _ _ => ?_)
    | refine gv_up ?_ rfl rfl
    | refine gv_b1 ?_ rfl ?_
    | refine gv_b22 ?_ rfl ?_
    | refine gv_b36 ?_ rfl ?_
    | refine gv_b44 ?_ rfl ?_
    | refine gv_b46 ?_ rfl ?_
    | refine gv_b48 ?_ rfl ?_
    | refine gv_b50 ?_ rfl ?_
    | refine gv_b53 ?_ rfl ?_
    | refine gv_b55 ?_ rfl ?_
    | refine gv_b58 ?_ rfl ?_
    | refine gv_b60 ?_ rfl ?_
    | refine gv_b62 ?_ rfl ?_
    | refine gv_sx ?_ (by assumption)
    | exact sx_rb (by assumption)
    | exact hS.1
    | exact hv0.1
    | refine lp13  _ ?_ ?_
    | refine lp15' _ _ ?_ ?_ ?_ ?_
    | refine And.intro (fun h => absurd h (by decide)) (fun _ => ?_)
    | refine And.intro (fun _ => ?_) (fun h => absurd (by decide) h)
    | refine And.intro (fun _ => ?_) (fun _ => ?_)
    | refine And.intro ?_ ?_
  all_goals (first | assumption | decide | omega | (intros; omega) | (intros; simp only [am_c] at * <;> omega) | (simp only [am_c, am_up] at * <;> omega) | (simp [am_c, am_up] at * <;> omega))
theorem v_bring_X4 {l : Launch} {μ : am_N} {Q : Option am_V → am_N → Prop} {ν : am_N}  (hS : gv [1, 6, 7, 62] ν μ)  (k : ∀ r μ', gv [1, 6, 7, 62] ν μ' → Q (some (.inl r)) μ') : am_Does l 48 [.inr (.inr 62), .inr (.inr 1)] μ Q := by
  refine am_Does_of (Nat.le_of_ble_eq_true rfl) (Nat.le_of_ble_eq_true rfl) (Nat.le_of_ble_eq_true rfl) ?_
  have hb := sx_all hS.1
  have lp21 : ∀ (m : Nat) (i : Int) (μ : am_N) , gv [1, 6, 7, 62] ν μ → 0 ≤ i → i ≤ 4 → μ 62 3 ≤ 5 → 4 - i < (m : Int) → am_AW l 0 (fun _ => 0) 48 Q 21 [some (.inr (.inr 62)), some (.inr (.inr 1)), some (.inl i)] [] μ := by
    intro m
    induction m with
    | zero =>
      intro i μ hv0 hv1 hv2 hv3 hm
      have hb := sx_all hv0.1
      exfalso
      omega
    | succ m ih =>
      intro i μ hv0 hv1 hv2 hv3 hm
      have hb := sx_all hv0.1
      refine am_go (ct := fun pc => Nat.beq pc 21) am_oX4_bring 300 ?_
      conv => whnf
      repeat' first
        | (refine (?_ : am_wp _ _ _ _ _ _ _ _ _ _ _ _); conv => whnf)
        | (refine (?_ : am_sw _ _ _ _); conv => whnf)
        | refine And.intro trivial ?_
        | exact trivial
        | assumption
        | refine k _ _ ?_
        | refine am_aa6 ?_ ?_ ?_ ?_ ?_ ?_ _
        | refine gv_up ?_ rfl rfl
        | refine gv_b1 ?_ rfl ?_
        | refine gv_b22 ?_ rfl ?_
        | refine gv_b36 ?_ rfl ?_
        | refine gv_b44 ?_ rfl ?_
        | refine gv_b46 ?_ rfl ?_
        | refine gv_b48 ?_ rfl ?_
        | refine gv_b50 ?_ rfl ?_
        | refine gv_b53 ?_ rfl ?_
        | refine gv_b55 ?_ rfl ?_
        | refine gv_b58 ?_ rfl ?_
        | refine gv_b60 ?_ rfl ?_
        | refine gv_b62 ?_ rfl ?_
        | refine gv_sx ?_ (by assumption)
        | exact sx_rb (by assumption)
        | exact hS.1
        | exact hv0.1
        | refine ih _ _ ?_ ?_ ?_ ?_ ?_
        | refine And.intro (fun h => absurd h (by decide)) (fun _ => ?_)
        | refine And.intro (fun _ => ?_) (fun h => absurd (by decide) h)
        | refine And.intro (fun _ => ?_) (fun _ => ?_)
        | refine And.intro ?_ ?_
      all_goals (first | assumption | decide | omega | (intros; omega) | (intros; simp only [am_c] at * <;> omega) | (simp only [am_c, am_up] at * <;> omega) | (simp [am_c, am_up] at * <;> omega))
  have lp21' : ∀ (i : Int) (μ : am_N) , gv [1, 6, 7, 62] ν μ → 0 ≤ i → i ≤ 4 → μ 62 3 ≤ 5 → am_AW l 0 (fun _ => 0) 48 Q 21 [some (.inr (.inr 62)), some (.inr (.inr 1)), some (.inl i)] [] μ := fun i μ hv0 hv1 hv2 hv3 => lp21 ((4 - i) + 1).toNat i μ hv0 hv1 hv2 hv3 (by omega)
  refine am_go (ct := fun pc => Nat.beq pc 21) am_oX4_bring 300 ?_
  conv => whnf
  repeat' first
    | (refine (?_ : am_wp _ _ _ _ _ _ _ _ _ _ _ _); conv => whnf)
    | (refine (?_ : am_sw _ _ _ _); conv => whnf)
    | refine And.intro trivial ?_
    | exact trivial
    | assumption
    | refine k _ _ ?_
    | refine am_aa6 ?_ ?_ ?_ ?_ ?_ ?_ _
    | refine gv_up ?_ rfl rfl
    | refine gv_b1 ?_ rfl ?_
    | refine gv_b22 ?_ rfl ?_
    | refine gv_b36 ?_ rfl ?_
    | refine gv_b44 ?_ rfl ?_
    | refine gv_b46 ?_ rfl ?_
    | refine gv_b48 ?_ rfl ?_
    | refine gv_b50 ?_ rfl ?_
    | refine gv_b53 ?_ rfl ?_
    | refine gv_b55 ?_ rfl ?_
    | refine gv_b58 ?_ rfl ?_
    | refine gv_b60 ?_ rfl ?_
    | refine gv_b62 ?_ rfl ?_
    | refine gv_sx ?_ (by assumption)
    | exact sx_rb (by assumption)
    | exact hS.1
    | exact hv0.1
    | refine lp21' _ _ ?_ ?_ ?_ ?_
    | refine And.intro (fun h => absurd h (by decide)) (fun _ => ?_)
    | refine And.intro (fun _ => ?_) (fun h => absurd (by decide) h)
    | refine And.intro (fun _ => ?_) (fun _ => ?_)
    | refine And.intro ?_ ?_
  all_goals (first | assumption | decide | omega | (intros; omega) | (intros; simp only [am_c] at * <;> omega) | (simp only [am_c, am_up] at * <;> omega) | (simp [am_c, am_up] at * <;> omega))
theorem v_become_X0_1 {l : Launch} {μ : am_N} {Q : Option am_V → am_N → Prop} {ν : am_N} (a b : Int) (hS : gv [1, 62] ν μ)  (k : ∀ μ', gv [1, 62] ν μ' → Q none μ') : am_Does l 7 [.inr (.inr 1), .inl a, .inl b] μ Q := by
  refine am_Does_of (Nat.le_of_ble_eq_true rfl) (Nat.le_of_ble_eq_true rfl) (Nat.le_of_ble_eq_true rfl) ?_
  have hb := sx_all hS.1
  refine am_go (ct := fun _ => false) am_oX0_become 300 ?_
  conv => whnf
  repeat' first
    | (refine (?_ : am_wp _ _ _ _ _ _ _ _ _ _ _ _); conv => whnf)
    | (refine (?_ : am_sw _ _ _ _); conv => whnf)
    | refine And.intro trivial ?_
    | exact trivial
    | assumption
    | refine k _ ?_
    | refine gv_up ?_ rfl rfl
    | refine gv_b1 ?_ rfl ?_
    | refine gv_b22 ?_ rfl ?_
    | refine gv_b36 ?_ rfl ?_
    | refine gv_b44 ?_ rfl ?_
    | refine gv_b46 ?_ rfl ?_
    | refine gv_b48 ?_ rfl ?_
    | refine gv_b50 ?_ rfl ?_
    | refine gv_b53 ?_ rfl ?_
    | refine gv_b55 ?_ rfl ?_
    | refine gv_b58 ?_ rfl ?_
    | refine gv_b60 ?_ rfl ?_
    | refine gv_b62 ?_ rfl ?_
    | refine gv_sx ?_ (by assumption)
    | exact sx_rb (by assumption)
    | exact hS.1
    | exact hv0.1
    | refine And.intro (fun h => absurd h (by decide)) (fun _ => ?_)
    | refine And.intro (fun _ => ?_) (fun h => absurd (by decide) h)
    | refine And.intro (fun _ => ?_) (fun _ => ?_)
    | refine And.intro ?_ ?_
  all_goals (first | assumption | decide | omega | (intros; omega) | (intros; simp only [am_c] at * <;> omega) | (simp only [am_c, am_up] at * <;> omega) | (simp [am_c, am_up] at * <;> omega))
theorem v_put_X3_55 {l : Launch} {μ : am_N} {Q : Option am_V → am_N → Prop} {ν : am_N} (v : Int) (hS : gv [52, 53, 54, 55, 56] ν μ)  (k : ∀ r μ', gv [52, 53, 54, 55, 56] ν μ' → Q (some (.inl r)) μ') : am_Does l 42 [.inr (.inr 55), .inl v] μ Q := by
  refine am_Does_of (Nat.le_of_ble_eq_true rfl) (Nat.le_of_ble_eq_true rfl) (Nat.le_of_ble_eq_true rfl) ?_
  have hb := sx_all hS.1
  refine am_go (ct := fun _ => false) am_oX3_put 300 ?_
  conv => whnf
  repeat' first
    | (refine (?_ : am_wp _ _ _ _ _ _ _ _ _ _ _ _); conv => whnf)
    | (refine (?_ : am_sw _ _ _ _); conv => whnf)
    | refine And.intro trivial ?_
    | exact trivial
    | assumption
    | refine k _ _ ?_
    | refine gv_up ?_ rfl rfl
    | refine gv_b1 ?_ rfl ?_
    | refine gv_b22 ?_ rfl ?_
    | refine gv_b36 ?_ rfl ?_
    | refine gv_b44 ?_ rfl ?_
    | refine gv_b46 ?_ rfl ?_
    | refine gv_b48 ?_ rfl ?_
    | refine gv_b50 ?_ rfl ?_
    | refine gv_b53 ?_ rfl ?_
    | refine gv_b55 ?_ rfl ?_
    | refine gv_b58 ?_ rfl ?_
    | refine gv_b60 ?_ rfl ?_
    | refine gv_b62 ?_ rfl ?_
    | refine gv_sx ?_ (by assumption)
    | exact sx_rb (by assumption)
    | exact hS.1
    | exact hv0.1
    | refine And.intro (fun h => absurd h (by decide)) (fun _ => ?_)
    | refine And.intro (fun _ => ?_) (fun h => absurd (by decide) h)
    | refine And.intro (fun _ => ?_) (fun _ => ?_)
    | refine And.intro ?_ ?_
  all_goals (first | assumption | decide | omega | (intros; omega) | (intros; simp only [am_c] at * <;> omega) | (simp only [am_c, am_up] at * <;> omega) | (simp [am_c, am_up] at * <;> omega))
theorem v_put_X3_53 {l : Launch} {μ : am_N} {Q : Option am_V → am_N → Prop} {ν : am_N} (v : Int) (hS : gv [52, 53, 54, 55, 56] ν μ)  (k : ∀ r μ', gv [52, 53, 54, 55, 56] ν μ' → Q (some (.inl r)) μ') : am_Does l 42 [.inr (.inr 53), .inl v] μ Q := by
  refine am_Does_of (Nat.le_of_ble_eq_true rfl) (Nat.le_of_ble_eq_true rfl) (Nat.le_of_ble_eq_true rfl) ?_
  have hb := sx_all hS.1
  refine am_go (ct := fun _ => false) am_oX3_put 300 ?_
  conv => whnf
  repeat' first
    | (refine (?_ : am_wp _ _ _ _ _ _ _ _ _ _ _ _); conv => whnf)
    | (refine (?_ : am_sw _ _ _ _); conv => whnf)
    | refine And.intro trivial ?_
    | exact trivial
    | assumption
    | refine k _ _ ?_
    | refine gv_up ?_ rfl rfl
    | refine gv_b1 ?_ rfl ?_
    | refine gv_b22 ?_ rfl ?_
    | refine gv_b36 ?_ rfl ?_
    | refine gv_b44 ?_ rfl ?_
    | refine gv_b46 ?_ rfl ?_
    | refine gv_b48 ?_ rfl ?_
    | refine gv_b50 ?_ rfl ?_
    | refine gv_b53 ?_ rfl ?_
    | refine gv_b55 ?_ rfl ?_
    | refine gv_b58 ?_ rfl ?_
    | refine gv_b60 ?_ rfl ?_
    | refine gv_b62 ?_ rfl ?_
    | refine gv_sx ?_ (by assumption)
    | exact sx_rb (by assumption)
    | exact hS.1
    | exact hv0.1
    | refine And.intro (fun h => absurd h (by decide)) (fun _ => ?_)
    | refine And.intro (fun _ => ?_) (fun h => absurd (by decide) h)
    | refine And.intro (fun _ => ?_) (fun _ => ?_)
    | refine And.intro ?_ ?_
  all_goals (first | assumption | decide | omega | (intros; omega) | (intros; simp only [am_c] at * <;> omega) | (simp only [am_c, am_up] at * <;> omega) | (simp [am_c, am_up] at * <;> omega))
theorem v_put_X1 {l : Launch} {μ : am_N} {Q : Option am_V → am_N → Prop} {ν : am_N} (v w : Int) (hS : gv [52, 53, 54, 55, 56] ν μ)  (k : ∀ r μ', gv [52, 53, 54, 55, 56] ν μ' → Q (some (.inl r)) μ') : am_Does l 16 [.inr (.inr 52), .inl v, .inl w] μ Q := by
  refine am_Does_of (Nat.le_of_ble_eq_true rfl) (Nat.le_of_ble_eq_true rfl) (Nat.le_of_ble_eq_true rfl) ?_
  have hb := sx_all hS.1
  refine am_go (ct := fun _ => false) am_oX1_put 300 ?_
  conv => whnf
  repeat' first
    | (refine (?_ : am_wp _ _ _ _ _ _ _ _ _ _ _ _); conv => whnf)
    | (refine (?_ : am_sw _ _ _ _); conv => whnf)
    | refine And.intro trivial ?_
    | exact trivial
    | assumption
    | refine k _ _ ?_
    | refine v_put_X3_55 (ν := ν) _ ?_  (fun _ _ _ => ?_)
    | refine v_put_X3_53 (ν := ν) _ ?_  (fun _ _ _ => ?_)
    | refine gv_up ?_ rfl rfl
    | refine gv_b1 ?_ rfl ?_
    | refine gv_b22 ?_ rfl ?_
    | refine gv_b36 ?_ rfl ?_
    | refine gv_b44 ?_ rfl ?_
    | refine gv_b46 ?_ rfl ?_
    | refine gv_b48 ?_ rfl ?_
    | refine gv_b50 ?_ rfl ?_
    | refine gv_b53 ?_ rfl ?_
    | refine gv_b55 ?_ rfl ?_
    | refine gv_b58 ?_ rfl ?_
    | refine gv_b60 ?_ rfl ?_
    | refine gv_b62 ?_ rfl ?_
    | refine gv_sx ?_ (by assumption)
    | exact sx_rb (by assumption)
    | exact hS.1
    | exact hv0.1
    | refine And.intro (fun h => absurd h (by decide)) (fun _ => ?_)
    | refine And.intro (fun _ => ?_) (fun h => absurd (by decide) h)
    | refine And.intro (fun _ => ?_) (fun _ => ?_)
    | refine And.intro ?_ ?_
  all_goals (first | assumption | decide | omega | (intros; omega) | (intros; simp only [am_c] at * <;> omega) | (simp only [am_c, am_up] at * <;> omega) | (simp [am_c, am_up] at * <;> omega))
theorem v_drop_X1 {l : Launch} {μ : am_N} {Q : Option am_V → am_N → Prop} {ν : am_N}  (hS : gv [53, 55] ν μ)  (k : ∀ r μ', gv [53, 55] ν μ' → Q (some (.inl r)) μ') : am_Does l 17 [.inr (.inr 52)] μ Q := by
  refine am_Does_of (Nat.le_of_ble_eq_true rfl) (Nat.le_of_ble_eq_true rfl) (Nat.le_of_ble_eq_true rfl) ?_
  have hb := sx_all hS.1
  refine am_go (ct := fun _ => false) am_oX1_drop 300 ?_
  conv => whnf
  repeat' first
    | (refine (?_ : am_wp _ _ _ _ _ _ _ _ _ _ _ _); conv => whnf)
    | (refine (?_ : am_sw _ _ _ _); conv => whnf)
    | refine And.intro trivial ?_
    | exact trivial
    | assumption
    | refine k _ _ ?_
    | refine v_drop_X3_53 ?_
    | refine v_drop_X3_55 ?_
    | refine gv_up ?_ rfl rfl
    | refine gv_b1 ?_ rfl ?_
    | refine gv_b22 ?_ rfl ?_
    | refine gv_b36 ?_ rfl ?_
    | refine gv_b44 ?_ rfl ?_
    | refine gv_b46 ?_ rfl ?_
    | refine gv_b48 ?_ rfl ?_
    | refine gv_b50 ?_ rfl ?_
    | refine gv_b53 ?_ rfl ?_
    | refine gv_b55 ?_ rfl ?_
    | refine gv_b58 ?_ rfl ?_
    | refine gv_b60 ?_ rfl ?_
    | refine gv_b62 ?_ rfl ?_
    | refine gv_sx ?_ (by assumption)
    | exact sx_rb (by assumption)
    | exact hS.1
    | exact hv0.1
    | refine And.intro (fun h => absurd h (by decide)) (fun _ => ?_)
    | refine And.intro (fun _ => ?_) (fun h => absurd (by decide) h)
    | refine And.intro (fun _ => ?_) (fun _ => ?_)
    | refine And.intro ?_ ?_
  all_goals (first | assumption | decide | omega | (intros; omega) | (intros; simp only [am_c] at * <;> omega) | (simp only [am_c, am_up] at * <;> omega) | (simp [am_c, am_up] at * <;> omega))
