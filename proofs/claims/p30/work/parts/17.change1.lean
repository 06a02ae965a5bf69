/-! contracts: the system's changes (weak): what stays, what is within bounds -/
def gv (E : List Nat) (ν μ : am_N) : Prop := sx μ μ ∧ ∀ k j, (sx_p k && !(E.contains k)) = true → μ k j = ν k j
def gv_q (k j : Nat) : Bool := (sx_q k j || sx_p k) && (!(Nat.beq k 1 && Nat.beq j 4) && (!(Nat.beq k 22 && Nat.beq j 4) && (!(Nat.beq k 36 && Nat.beq j 1) && (!(Nat.beq k 44 && Nat.beq j 1) && (!(Nat.beq k 46 && Nat.beq j 1) && (!(Nat.beq k 48 && Nat.beq j 1) && (!(Nat.beq k 50 && Nat.beq j 1) && (!(Nat.beq k 53 && Nat.beq j 1) && (!(Nat.beq k 55 && Nat.beq j 1) && (!(Nat.beq k 58 && Nat.beq j 1) && (!(Nat.beq k 60 && Nat.beq j 1) && !(Nat.beq k 62 && Nat.beq j 3))))))))))))
theorem sx_rb {ν μ : am_N} (h : sx ν μ) : sx μ μ := ⟨fun _ _ _ => rfl, h.2.1, h.2.2.1, h.2.2.2.1, sx_px h⟩
theorem gv_i {E : List Nat} {ν μ : am_N} (h : gv E ν μ) : sx μ μ := h.1
theorem gv_rf {E : List Nat} {μ : am_N} (h : sx μ μ) : gv E μ μ := ⟨h, fun _ _ _ => rfl⟩
theorem gv_sx {E : List Nat} {ν μ μ' : am_N} (h : gv E ν μ) (h2 : sx μ μ') : gv E ν μ' := ⟨sx_rb h2, fun k j hk => (h2.1 k j (am_bb hk).1).trans (h.2 k j hk)⟩
theorem gv_px {μ : am_N} {k j : Nat} {v : Int} (h : px μ) (hk : ∀ a b, (a, b) ∈ [(1, 4), (22, 4), (36, 1), (44, 1), (46, 1), (48, 1), (50, 1), (53, 1), (55, 1), (58, 1), (60, 1), (62, 3)] → (Nat.beq k a && Nat.beq j b) = false) : px (am_up μ k j v) := by
  have e : ∀ a b, (a, b) ∈ [(1, 4), (22, 4), (36, 1), (44, 1), (46, 1), (48, 1), (50, 1), (53, 1), (55, 1), (58, 1), (60, 1), (62, 3)] → am_up μ k j v a b = μ a b := fun a b q => by
    have q := hk a b q
    rw [am_upS, if_neg (fun z => by rw [z.1, z.2] at q; simp at q)]
  unfold px at h ⊢
  rw [e 1 4 (by decide), e 22 4 (by decide), e 36 1 (by decide), e 44 1 (by decide), e 46 1 (by decide), e 48 1 (by decide), e 50 1 (by decide), e 53 1 (by decide), e 55 1 (by decide), e 58 1 (by decide), e 60 1 (by decide), e 62 3 (by decide)]
  exact h
theorem gv_up {E : List Nat} {ν μ : am_N} {k j : Nat} {v : Int} (h : gv E ν μ) (hE : (E.contains k || !(sx_p k)) = true) (hk : gv_q k j = true) : gv E ν (am_up μ k j v) := by
  obtain ⟨q0, q1, q2, q3, q4, q5, q6, q7, q8, q9, q10, q11, q12⟩ : (sx_q k j || sx_p k) = true ∧ (Nat.beq k 1 && Nat.beq j 4) = false ∧ (Nat.beq k 22 && Nat.beq j 4) = false ∧ (Nat.beq k 36 && Nat.beq j 1) = false ∧ (Nat.beq k 44 && Nat.beq j 1) = false ∧ (Nat.beq k 46 && Nat.beq j 1) = false ∧ (Nat.beq k 48 && Nat.beq j 1) = false ∧ (Nat.beq k 50 && Nat.beq j 1) = false ∧ (Nat.beq k 53 && Nat.beq j 1) = false ∧ (Nat.beq k 55 && Nat.beq j 1) = false ∧ (Nat.beq k 58 && Nat.beq j 1) = false ∧ (Nat.beq k 60 && Nat.beq j 1) = false ∧ (Nat.beq k 62 && Nat.beq j 3) = false := by
    simpa only [gv_q, Bool.and_eq_true, Bool.not_eq_true'] using hk
  have hpx : px (am_up μ k j v) := gv_px h.1.2.2.2.2 (fun a b hab => by
    simp only [List.mem_cons, Prod.mk.injEq, List.not_mem_nil, or_false] at hab
    rcases hab with ⟨rfl, rfl⟩ | ⟨rfl, rfl⟩ | ⟨rfl, rfl⟩ | ⟨rfl, rfl⟩ | ⟨rfl, rfl⟩ | ⟨rfl, rfl⟩ | ⟨rfl, rfl⟩ | ⟨rfl, rfl⟩ | ⟨rfl, rfl⟩ | ⟨rfl, rfl⟩ | ⟨rfl, rfl⟩ | ⟨rfl, rfl⟩ <;> assumption)
  refine ⟨?_, fun a b hab => ?_⟩
  · rcases Bool.or_eq_true_iff.mp q0 with q | q
    · exact sx_rb (sx_up h.1 q)
    · have ne : ∀ c, sx_p c = false → k ≠ c := fun c hc z => by rw [z, hc] at q; cases q
      have nb : ∀ c d, sx_p c = false → (Nat.beq k c && Nat.beq j d) = false := fun c d hc => by
        cases hb : Nat.beq k c with
        | false => rfl
        | true => exact absurd (Nat.eq_of_beq_eq_true hb) (ne c hc)
      exact ⟨fun _ _ _ => rfl, sx_3N h.1.2.1 (ne 34 rfl), sx_3N h.1.2.2.1 (ne 43 rfl), sx_4N h.1.2.2.2.1 (nb 8 4 rfl) (nb 15 4 rfl) (nb 29 0 rfl) (nb 38 0 rfl), hpx⟩
  · rw [am_upN (fun z => by
      subst z
      have h1 := (am_bb hab).1
      have h2 := (am_bb hab).2
      rw [h1] at hE
      simp only [Bool.not_true, Bool.or_false] at hE
      rw [hE] at h2
      cases h2)]
    exact h.2 a b hab
theorem gv_b1 {E : List Nat} {ν μ : am_N} {v : Int} (h : gv E ν μ) (hE : E.contains 1 = true) (h0 : 0 ≤ v ∧ v ≤ 4) : gv E ν (am_up μ 1 4 v) := by
  refine ⟨⟨fun _ _ _ => rfl, sx_3N h.1.2.1 (by decide), sx_3N h.1.2.2.1 (by decide), sx_4N h.1.2.2.2.1 rfl rfl rfl rfl, ?_⟩, fun a b hab => ?_⟩
  · have q := h.1.2.2.2.2
    simp only [px] at q ⊢
    simp [am_upS]
    omega
  · rw [am_upN (fun z => by subst z; rw [hE] at hab; simp at hab)]
    exact h.2 a b hab
theorem gv_b22 {E : List Nat} {ν μ : am_N} {v : Int} (h : gv E ν μ) (hE : E.contains 22 = true) (h0 : 0 ≤ v ∧ v ≤ 4) : gv E ν (am_up μ 22 4 v) := by
  refine ⟨⟨fun _ _ _ => rfl, sx_3N h.1.2.1 (by decide), sx_3N h.1.2.2.1 (by decide), sx_4N h.1.2.2.2.1 rfl rfl rfl rfl, ?_⟩, fun a b hab => ?_⟩
  · have q := h.1.2.2.2.2
    simp only [px] at q ⊢
    simp [am_upS]
    omega
  · rw [am_upN (fun z => by subst z; rw [hE] at hab; simp at hab)]
    exact h.2 a b hab
theorem gv_b36 {E : List Nat} {ν μ : am_N} {v : Int} (h : gv E ν μ) (hE : E.contains 36 = true) (h0 : 0 ≤ v ∧ v ≤ 96) : gv E ν (am_up μ 36 1 v) := by
  refine ⟨⟨fun _ _ _ => rfl, sx_3N h.1.2.1 (by decide), sx_3N h.1.2.2.1 (by decide), sx_4N h.1.2.2.2.1 rfl rfl rfl rfl, ?_⟩, fun a b hab => ?_⟩
  · have q := h.1.2.2.2.2
    simp only [px] at q ⊢
    simp [am_upS]
    omega
  · rw [am_upN (fun z => by subst z; rw [hE] at hab; simp at hab)]
    exact h.2 a b hab
theorem gv_b44 {E : List Nat} {ν μ : am_N} {v : Int} (h : gv E ν μ) (hE : E.contains 44 = true) (h0 : 0 ≤ v ∧ v ≤ 12) : gv E ν (am_up μ 44 1 v) := by
  refine ⟨⟨fun _ _ _ => rfl, sx_3N h.1.2.1 (by decide), sx_3N h.1.2.2.1 (by decide), sx_4N h.1.2.2.2.1 rfl rfl rfl rfl, ?_⟩, fun a b hab => ?_⟩
  · have q := h.1.2.2.2.2
    simp only [px] at q ⊢
    simp [am_upS]
    omega
  · rw [am_upN (fun z => by subst z; rw [hE] at hab; simp at hab)]
    exact h.2 a b hab
theorem gv_b46 {E : List Nat} {ν μ : am_N} {v : Int} (h : gv E ν μ) (hE : E.contains 46 = true) (h0 : 0 ≤ v ∧ v ≤ 6) : gv E ν (am_up μ 46 1 v) := by
  refine ⟨⟨fun _ _ _ => rfl, sx_3N h.1.2.1 (by decide), sx_3N h.1.2.2.1 (by decide), sx_4N h.1.2.2.2.1 rfl rfl rfl rfl, ?_⟩, fun a b hab => ?_⟩
  · have q := h.1.2.2.2.2
    simp only [px] at q ⊢
    simp [am_upS]
    omega
  · rw [am_upN (fun z => by subst z; rw [hE] at hab; simp at hab)]
    exact h.2 a b hab
theorem gv_b48 {E : List Nat} {ν μ : am_N} {v : Int} (h : gv E ν μ) (hE : E.contains 48 = true) (h0 : 0 ≤ v ∧ v ≤ 6) : gv E ν (am_up μ 48 1 v) := by
  refine ⟨⟨fun _ _ _ => rfl, sx_3N h.1.2.1 (by decide), sx_3N h.1.2.2.1 (by decide), sx_4N h.1.2.2.2.1 rfl rfl rfl rfl, ?_⟩, fun a b hab => ?_⟩
  · have q := h.1.2.2.2.2
    simp only [px] at q ⊢
    simp [am_upS]
    omega
  · rw [am_upN (fun z => by subst z; rw [hE] at hab; simp at hab)]
    exact h.2 a b hab
theorem gv_b50 {E : List Nat} {ν μ : am_N} {v : Int} (h : gv E ν μ) (hE : E.contains 50 = true) (h0 : 0 ≤ v ∧ v ≤ 6) : gv E ν (am_up μ 50 1 v) := by
  refine ⟨⟨fun _ _ _ => rfl, sx_3N h.1.2.1 (by decide), sx_3N h.1.2.2.1 (by decide), sx_4N h.1.2.2.2.1 rfl rfl rfl rfl, ?_⟩, fun a b hab => ?_⟩
  · have q := h.1.2.2.2.2
    simp only [px] at q ⊢
    simp [am_upS]
    omega
  · rw [am_upN (fun z => by subst z; rw [hE] at hab; simp at hab)]
    exact h.2 a b hab
theorem gv_b53 {E : List Nat} {ν μ : am_N} {v : Int} (h : gv E ν μ) (hE : E.contains 53 = true) (h0 : 0 ≤ v ∧ v ≤ 4) : gv E ν (am_up μ 53 1 v) := by
  refine ⟨⟨fun _ _ _ => rfl, sx_3N h.1.2.1 (by decide), sx_3N h.1.2.2.1 (by decide), sx_4N h.1.2.2.2.1 rfl rfl rfl rfl, ?_⟩, fun a b hab => ?_⟩
  · have q := h.1.2.2.2.2
    simp only [px] at q ⊢
    simp [am_upS]
    omega
  · rw [am_upN (fun z => by subst z; rw [hE] at hab; simp at hab)]
    exact h.2 a b hab
theorem gv_b55 {E : List Nat} {ν μ : am_N} {v : Int} (h : gv E ν μ) (hE : E.contains 55 = true) (h0 : 0 ≤ v ∧ v ≤ 4) : gv E ν (am_up μ 55 1 v) := by
  refine ⟨⟨fun _ _ _ => rfl, sx_3N h.1.2.1 (by decide), sx_3N h.1.2.2.1 (by decide), sx_4N h.1.2.2.2.1 rfl rfl rfl rfl, ?_⟩, fun a b hab => ?_⟩
  · have q := h.1.2.2.2.2
    simp only [px] at q ⊢
    simp [am_upS]
    omega
  · rw [am_upN (fun z => by subst z; rw [hE] at hab; simp at hab)]
    exact h.2 a b hab
theorem gv_b58 {E : List Nat} {ν μ : am_N} {v : Int} (h : gv E ν μ) (hE : E.contains 58 = true) (h0 : 0 ≤ v ∧ v ≤ 4) : gv E ν (am_up μ 58 1 v) := by
  refine ⟨⟨fun _ _ _ => rfl, sx_3N h.1.2.1 (by decide), sx_3N h.1.2.2.1 (by decide), sx_4N h.1.2.2.2.1 rfl rfl rfl rfl, ?_⟩, fun a b hab => ?_⟩
  · have q := h.1.2.2.2.2
    simp only [px] at q ⊢
    simp [am_upS]
    omega
  · rw [am_upN (fun z => by subst z; rw [hE] at hab; simp at hab)]
    exact h.2 a b hab
theorem gv_b60 {E : List Nat} {ν μ : am_N} {v : Int} (h : gv E ν μ) (hE : E.contains 60 = true) (h0 : 0 ≤ v ∧ v ≤ 4) : gv E ν (am_up μ 60 1 v) := by
  refine ⟨⟨fun _ _ _ => rfl, sx_3N h.1.2.1 (by decide), sx_3N h.1.2.2.1 (by decide), sx_4N h.1.2.2.2.1 rfl rfl rfl rfl, ?_⟩, fun a b hab => ?_⟩
  · have q := h.1.2.2.2.2
    simp only [px] at q ⊢
    simp [am_upS]
    omega
  · rw [am_upN (fun z => by subst z; rw [hE] at hab; simp at hab)]
    exact h.2 a b hab
theorem gv_b62 {E : List Nat} {ν μ : am_N} {v : Int} (h : gv E ν μ) (hE : E.contains 62 = true) (h0 : 0 ≤ v ∧ v ≤ 6) : gv E ν (am_up μ 62 3 v) := by
  refine ⟨⟨fun _ _ _ => rfl, sx_3N h.1.2.1 (by decide), sx_3N h.1.2.2.1 (by decide), sx_4N h.1.2.2.2.1 rfl rfl rfl rfl, ?_⟩, fun a b hab => ?_⟩
  · have q := h.1.2.2.2.2
    simp only [px] at q ⊢
    simp [am_upS]
    omega
  · rw [am_upN (fun z => by subst z; rw [hE] at hab; simp at hab)]
    exact h.2 a b hab
theorem v_drop_X4 {l : Launch} {μ : am_N} {Q : Option am_V → am_N → Prop} (k : Q none (am_up μ 62 3 0)) : am_Does l 49 [.inr (.inr 62)] μ Q := by
  refine am_Does_of (Nat.le_of_ble_eq_true rfl) (Nat.le_of_ble_eq_true rfl) (Nat.le_of_ble_eq_true rfl) ?_
  refine am_go (ct := fun _ => false) am_oX4_drop 300 ?_
  conv => whnf
  repeat' first
    | (refine (?_ : am_wp _ _ _ _ _ _ _ _ _ _ _ _); conv => whnf)
    | (refine (?_ : am_sw _ _ _ _); conv => whnf)
    | refine And.intro trivial ?_
    | exact trivial
    | (with_reducible assumption)
    | exact k
    | ((with_reducible refine (?_ : _ ∧ _)); first | (with_reducible first | refine am_jn am_q1 ?_ | refine am_jn am_q2 ?_ | refine am_jn am_q3 ?_ | refine am_jn am_q4 ?_ | refine am_jn am_q6 ?_ | refine am_jn am_q9 ?_ | refine am_jn am_p1 ?_ | refine am_jy am_p0 ?_ | refine am_kn am_q1 ?_ | refine am_kn am_q2 ?_ | refine am_kn am_q3 ?_ | refine am_kn am_q4 ?_ | refine am_kn am_q6 ?_ | refine am_kn am_q9 ?_ | refine am_kn am_p1 ?_ | refine am_ky am_p0 ?_) | refine And.intro (fun h => absurd h (by decide)) (fun _ => ?_) | refine And.intro (fun _ => ?_) (fun h => absurd (by decide) h) | refine And.intro (fun _ => ?_) (fun _ => ?_) | refine And.intro ?_ ?_)
    | refine And.intro (fun h => absurd h (by decide)) (fun _ => ?_)
    | refine And.intro (fun _ => ?_) (fun h => absurd (by decide) h)
    | refine And.intro (fun _ => ?_) (fun _ => ?_)
    | refine And.intro ?_ ?_
  all_goals (first | (with_reducible assumption) | decide | omega | assumption | (intros; omega) | (intros; simp only [am_c] at * <;> omega) | (simp only [am_c, am_up] at * <;> omega) | (simp [am_c, am_up] at * <;> omega))
theorem v_drop_X3_36 {l : Launch} {μ : am_N} {Q : Option am_V → am_N → Prop} (k : Q (some (.inl (μ 36 1))) (am_up μ 36 1 0)) : am_Does l 44 [.inr (.inr 36)] μ Q := by
  refine am_Does_of (Nat.le_of_ble_eq_true rfl) (Nat.le_of_ble_eq_true rfl) (Nat.le_of_ble_eq_true rfl) ?_
  refine am_go (ct := fun _ => false) am_oX3_drop 300 ?_
  conv => whnf
  repeat' first
    | (refine (?_ : am_wp _ _ _ _ _ _ _ _ _ _ _ _); conv => whnf)
    | (refine (?_ : am_sw _ _ _ _); conv => whnf)
    | refine And.intro trivial ?_
    | exact trivial
    | (with_reducible assumption)
    | exact k
    | ((with_reducible refine (?_ : _ ∧ _)); first | (with_reducible first | refine am_jn am_q1 ?_ | refine am_jn am_q2 ?_ | refine am_jn am_q3 ?_ | refine am_jn am_q4 ?_ | refine am_jn am_q6 ?_ | refine am_jn am_q9 ?_ | refine am_jn am_p1 ?_ | refine am_jy am_p0 ?_ | refine am_kn am_q1 ?_ | refine am_kn am_q2 ?_ | refine am_kn am_q3 ?_ | refine am_kn am_q4 ?_ | refine am_kn am_q6 ?_ | refine am_kn am_q9 ?_ | refine am_kn am_p1 ?_ | refine am_ky am_p0 ?_) | refine And.intro (fun h => absurd h (by decide)) (fun _ => ?_) | refine And.intro (fun _ => ?_) (fun h => absurd (by decide) h) | refine And.intro (fun _ => ?_) (fun _ => ?_) | refine And.intro ?_ ?_)
    | refine And.intro (fun h => absurd h (by decide)) (fun _ => ?_)
    | refine And.intro (fun _ => ?_) (fun h => absurd (by decide) h)
    | refine And.intro (fun _ => ?_) (fun _ => ?_)
    | refine And.intro ?_ ?_
  all_goals (first | (with_reducible assumption) | decide | omega | assumption | (intros; omega) | (intros; simp only [am_c] at * <;> omega) | (simp only [am_c, am_up] at * <;> omega) | (simp [am_c, am_up] at * <;> omega))
theorem v_full_X3_36 {l : Launch} {μ : am_N} {Q : Option am_V → am_N → Prop} {ν : am_N} (hS : sx ν μ) (k1 : μ 36 1 = 96 → Q (some (.inl 1)) μ) (k2 : μ 36 1 < 96 → Q (some (.inl 0)) μ) : am_Does l 41 [.inr (.inr 36)] μ Q := by
  refine am_Does_of (Nat.le_of_ble_eq_true rfl) (Nat.le_of_ble_eq_true rfl) (Nat.le_of_ble_eq_true rfl) ?_
  have hb := sx_all hS
  refine am_go (ct := fun _ => false) am_oX3_full 300 ?_
  conv => whnf
  repeat' first
    | (refine (?_ : am_wp _ _ _ _ _ _ _ _ _ _ _ _); conv => whnf)
    | (refine (?_ : am_sw _ _ _ _); conv => whnf)
    | refine And.intro trivial ?_
    | exact trivial
    | (with_reducible assumption)
    | ((with_reducible refine (?_ : _ ∧ _)); first | (with_reducible first | refine am_jn am_q1 ?_ | refine am_jn am_q2 ?_ | refine am_jn am_q3 ?_ | refine am_jn am_q4 ?_ | refine am_jn am_q6 ?_ | refine am_jn am_q9 ?_ | refine am_jn am_p1 ?_ | refine am_jy am_p0 ?_ | refine am_kn am_q1 ?_ | refine am_kn am_q2 ?_ | refine am_kn am_q3 ?_ | refine am_kn am_q4 ?_ | refine am_kn am_q6 ?_ | refine am_kn am_q9 ?_ | refine am_kn am_p1 ?_ | refine am_ky am_p0 ?_) | refine And.intro (fun h => absurd h (by decide)) (fun _ => ?_) | refine And.intro (fun _ => ?_) (fun h => absurd (by decide) h) | refine And.intro (fun _ => ?_) (fun _ => ?_) | refine And.intro ?_ ?_)
    | refine k1 ?_
    | refine k2 ?_
    | refine And.intro (fun h => absurd h (by decide)) (fun _ => ?_)
    | refine And.intro (fun _ => ?_) (fun h => absurd (by decide) h)
    | refine And.intro (fun _ => ?_) (fun _ => ?_)
    | refine And.intro ?_ ?_
  all_goals (first | (with_reducible assumption) | decide | omega | assumption | (intros; omega) | (intros; simp only [am_c] at * <;> omega) | (simp only [am_c, am_up] at * <;> omega) | (simp [am_c, am_up] at * <;> omega))
theorem v_put_X3_36 {l : Launch} {μ : am_N} {Q : Option am_V → am_N → Prop} (v : Int) (hS : sx μ μ) (h1 : μ 36 1 < 96) (k : ∀ r μ', r = μ 36 1 + 1 → μ' = am_up (am_up μ 36 1 (μ 36 1 + 1)) 37 (μ 36 1).toNat v → Q (some (.inl r)) μ') : am_Does l 42 [.inr (.inr 36), .inl v] μ Q := by
  refine am_Does_of (Nat.le_of_ble_eq_true rfl) (Nat.le_of_ble_eq_true rfl) (Nat.le_of_ble_eq_true rfl) ?_
  have hb := sx_all hS
  have e1 : am_c (μ 36 1) = μ 36 1 := am_cR (by omega) (by omega)
  refine am_go (ct := fun _ => false) am_oX3_put 300 ?_
  conv => whnf
  repeat' first
    | (refine (?_ : am_wp _ _ _ _ _ _ _ _ _ _ _ _); conv => whnf)
    | (refine (?_ : am_sw _ _ _ _); conv => whnf)
    | refine And.intro trivial ?_
    | exact trivial
    | (with_reducible assumption)
    | ((with_reducible refine (?_ : _ ∧ _)); first | (with_reducible first | refine am_jn am_q1 ?_ | refine am_jn am_q2 ?_ | refine am_jn am_q3 ?_ | refine am_jn am_q4 ?_ | refine am_jn am_q6 ?_ | refine am_jn am_q9 ?_ | refine am_jn am_p1 ?_ | refine am_jy am_p0 ?_ | refine am_kn am_q1 ?_ | refine am_kn am_q2 ?_ | refine am_kn am_q3 ?_ | refine am_kn am_q4 ?_ | refine am_kn am_q6 ?_ | refine am_kn am_q9 ?_ | refine am_kn am_p1 ?_ | refine am_ky am_p0 ?_) | refine And.intro (fun h => absurd h (by decide)) (fun _ => ?_) | refine And.intro (fun _ => ?_) (fun h => absurd (by decide) h) | refine And.intro (fun _ => ?_) (fun _ => ?_) | refine And.intro ?_ ?_)
    | refine k _ _ ?_ ?_
    | ((with_reducible refine (?_ : am_Does _ 41 _ _ _)); refine v_full_X3_36 (ν := μ) hS (fun _ => ?_) (fun _ => ?_))
    | refine And.intro (fun h => absurd h (by decide)) (fun _ => ?_)
    | refine And.intro (fun _ => ?_) (fun h => absurd (by decide) h)
    | refine And.intro (fun _ => ?_) (fun _ => ?_)
    | refine And.intro ?_ ?_
  all_goals (first | (with_reducible assumption) | decide | omega | assumption | (simp only [e1]; done) | (simp only [e1] at * <;> omega) | (simp only [am_c, am_up] at * <;> omega) | (simp [am_c, am_up] at * <;> omega))
theorem v_putE_X3_36 {l : Launch} {μ : am_N} {Q : Option am_V → am_N → Prop} (v : Int) (hS : sx μ μ) (h1 : μ 36 1 < 96) (k : Q (some (.inl (μ 36 1 + 1))) (am_up (am_up μ 36 1 (μ 36 1 + 1)) 37 (μ 36 1).toNat v)) : am_Does l 42 [.inr (.inr 36), .inl v] μ Q := v_put_X3_36 v hS h1 (fun r μ' e1 e2 => by subst e1; subst e2; exact k)
theorem v_drop_X3_44 {l : Launch} {μ : am_N} {Q : Option am_V → am_N → Prop} (k : Q (some (.inl (μ 44 1))) (am_up μ 44 1 0)) : am_Does l 44 [.inr (.inr 44)] μ Q := by
  refine am_Does_of (Nat.le_of_ble_eq_true rfl) (Nat.le_of_ble_eq_true rfl) (Nat.le_of_ble_eq_true rfl) ?_
  refine am_go (ct := fun _ => false) am_oX3_drop 300 ?_
  conv => whnf
  repeat' first
    | (refine (?_ : am_wp _ _ _ _ _ _ _ _ _ _ _ _); conv => whnf)
    | (refine (?_ : am_sw _ _ _ _); conv => whnf)
    | refine And.intro trivial ?_
    | exact trivial
    | (with_reducible assumption)
    | exact k
    | ((with_reducible refine (?_ : _ ∧ _)); first | (with_reducible first | refine am_jn am_q1 ?_ | refine am_jn am_q2 ?_ | refine am_jn am_q3 ?_ | refine am_jn am_q4 ?_ | refine am_jn am_q6 ?_ | refine am_jn am_q9 ?_ | refine am_jn am_p1 ?_ | refine am_jy am_p0 ?_ | refine am_kn am_q1 ?_ | refine am_kn am_q2 ?_ | refine am_kn am_q3 ?_ | refine am_kn am_q4 ?_ | refine am_kn am_q6 ?_ | refine am_kn am_q9 ?_ | refine am_kn am_p1 ?_ | refine am_ky am_p0 ?_) | refine And.intro (fun h => absurd h (by decide)) (fun _ => ?_) | refine And.intro (fun _ => ?_) (fun h => absurd (by decide) h) | refine And.intro (fun _ => ?_) (fun _ => ?_) | refine And.intro ?_ ?_)
    | refine And.intro (fun h => absurd h (by decide)) (fun _ => ?_)
    | refine And.intro (fun _ => ?_) (fun h => absurd (by decide) h)
    | refine And.intro (fun _ => ?_) (fun _ => ?_)
    | refine And.intro ?_ ?_
  all_goals (first | (with_reducible assumption) | decide | omega | assumption | (intros; omega) | (intros; simp only [am_c] at * <;> omega) | (simp only [am_c, am_up] at * <;> omega) | (simp [am_c, am_up] at * <;> omega))
theorem v_full_X3_44 {l : Launch} {μ : am_N} {Q : Option am_V → am_N → Prop} {ν : am_N} (hS : sx ν μ) (k1 : μ 44 1 = 12 → Q (some (.inl 1)) μ) (k2 : μ 44 1 < 12 → Q (some (.inl 0)) μ) : am_Does l 41 [.inr (.inr 44)] μ Q := by
  refine am_Does_of (Nat.le_of_ble_eq_true rfl) (Nat.le_of_ble_eq_true rfl) (Nat.le_of_ble_eq_true rfl) ?_
  have hb := sx_all hS
  refine am_go (ct := fun _ => false) am_oX3_full 300 ?_
  conv => whnf
  repeat' first
    | (refine (?_ : am_wp _ _ _ _ _ _ _ _ _ _ _ _); conv => whnf)
    | (refine (?_ : am_sw _ _ _ _); conv => whnf)
    | refine And.intro trivial ?_
    | exact trivial
    | (with_reducible assumption)
    | ((with_reducible refine (?_ : _ ∧ _)); first | (with_reducible first | refine am_jn am_q1 ?_ | refine am_jn am_q2 ?_ | refine am_jn am_q3 ?_ | refine am_jn am_q4 ?_ | refine am_jn am_q6 ?_ | refine am_jn am_q9 ?_ | refine am_jn am_p1 ?_ | refine am_jy am_p0 ?_ | refine am_kn am_q1 ?_ | refine am_kn am_q2 ?_ | refine am_kn am_q3 ?_ | refine am_kn am_q4 ?_ | refine am_kn am_q6 ?_ | refine am_kn am_q9 ?_ | refine am_kn am_p1 ?_ | refine am_ky am_p0 ?_) | refine And.intro (fun h => absurd h (by decide)) (fun _ => ?_) | refine And.intro (fun _ => ?_) (fun h => absurd (by decide) h) | refine And.intro (fun _ => ?_) (fun _ => ?_) | refine And.intro ?_ ?_)
    | refine k1 ?_
    | refine k2 ?_
    | refine And.intro (fun h => absurd h (by decide)) (fun _ => ?_)
    | refine And.intro (fun _ => ?_) (fun h => absurd (by decide) h)
    | refine And.intro (fun _ => ?_) (fun _ => ?_)
    | refine And.intro ?_ ?_
  all_goals (first | (with_reducible assumption) | decide | omega | assumption | (intros; omega) | (intros; simp only [am_c] at * <;> omega) | (simp only [am_c, am_up] at * <;> omega) | (simp [am_c, am_up] at * <;> omega))
theorem v_put_X3_44 {l : Launch} {μ : am_N} {Q : Option am_V → am_N → Prop} (v : Int) (hS : sx μ μ) (h1 : μ 44 1 < 12) (k : ∀ r μ', r = μ 44 1 + 1 → μ' = am_up (am_up μ 44 1 (μ 44 1 + 1)) 45 (μ 44 1).toNat v → Q (some (.inl r)) μ') : am_Does l 42 [.inr (.inr 44), .inl v] μ Q := by
  refine am_Does_of (Nat.le_of_ble_eq_true rfl) (Nat.le_of_ble_eq_true rfl) (Nat.le_of_ble_eq_true rfl) ?_
  have hb := sx_all hS
  have e1 : am_c (μ 44 1) = μ 44 1 := am_cR (by omega) (by omega)
  refine am_go (ct := fun _ => false) am_oX3_put 300 ?_
  conv => whnf
  repeat' first
    | (refine (?_ : am_wp _ _ _ _ _ _ _ _ _ _ _ _); conv => whnf)
    | (refine (?_ : am_sw _ _ _ _); conv => whnf)
    | refine And.intro trivial ?_
    | exact trivial
    | (with_reducible assumption)
    | ((with_reducible refine (?_ : _ ∧ _)); first | (with_reducible first | refine am_jn am_q1 ?_ | refine am_jn am_q2 ?_ | refine am_jn am_q3 ?_ | refine am_jn am_q4 ?_ | refine am_jn am_q6 ?_ | refine am_jn am_q9 ?_ | refine am_jn am_p1 ?_ | refine am_jy am_p0 ?_ | refine am_kn am_q1 ?_ | refine am_kn am_q2 ?_ | refine am_kn am_q3 ?_ | refine am_kn am_q4 ?_ | refine am_kn am_q6 ?_ | refine am_kn am_q9 ?_ | refine am_kn am_p1 ?_ | refine am_ky am_p0 ?_) | refine And.intro (fun h => absurd h (by decide)) (fun _ => ?_) | refine And.intro (fun _ => ?_) (fun h => absurd (by decide) h) | refine And.intro (fun _ => ?_) (fun _ => ?_) | refine And.intro ?_ ?_)
    | refine k _ _ ?_ ?_
    | ((with_reducible refine (?_ : am_Does _ 41 _ _ _)); refine v_full_X3_44 (ν := μ) hS (fun _ => ?_) (fun _ => ?_))
    | refine And.intro (fun h => absurd h (by decide)) (fun _ => ?_)
    | refine And.intro (fun _ => ?_) (fun h => absurd (by decide) h)
    | refine And.intro (fun _ => ?_) (fun _ => ?_)
    | refine And.intro ?_ ?_
  all_goals (first | (with_reducible assumption) | decide | omega | assumption | (simp only [e1]; done) | (simp only [e1] at * <;> omega) | (simp only [am_c, am_up] at * <;> omega) | (simp [am_c, am_up] at * <;> omega))
theorem v_putE_X3_44 {l : Launch} {μ : am_N} {Q : Option am_V → am_N → Prop} (v : Int) (hS : sx μ μ) (h1 : μ 44 1 < 12) (k : Q (some (.inl (μ 44 1 + 1))) (am_up (am_up μ 44 1 (μ 44 1 + 1)) 45 (μ 44 1).toNat v)) : am_Does l 42 [.inr (.inr 44), .inl v] μ Q := v_put_X3_44 v hS h1 (fun r μ' e1 e2 => by subst e1; subst e2; exact k)
theorem v_drop_X3_46 {l : Launch} {μ : am_N} {Q : Option am_V → am_N → Prop} (k : Q (some (.inl (μ 46 1))) (am_up μ 46 1 0)) : am_Does l 44 [.inr (.inr 46)] μ Q := by
  refine am_Does_of (Nat.le_of_ble_eq_true rfl) (Nat.le_of_ble_eq_true rfl) (Nat.le_of_ble_eq_true rfl) ?_
  refine am_go (ct := fun _ => false) am_oX3_drop 300 ?_
  conv => whnf
  repeat' first
    | (refine (?_ : am_wp _ _ _ _ _ _ _ _ _ _ _ _); conv => whnf)
    | (refine (?_ : am_sw _ _ _ _); conv => whnf)
    | refine And.intro trivial ?_
    | exact trivial
    | (with_reducible assumption)
    | exact k
    | ((with_reducible refine (?_ : _ ∧ _)); first | (with_reducible first | refine am_jn am_q1 ?_ | refine am_jn am_q2 ?_ | refine am_jn am_q3 ?_ | refine am_jn am_q4 ?_ | refine am_jn am_q6 ?_ | refine am_jn am_q9 ?_ | refine am_jn am_p1 ?_ | refine am_jy am_p0 ?_ | refine am_kn am_q1 ?_ | refine am_kn am_q2 ?_ | refine am_kn am_q3 ?_ | refine am_kn am_q4 ?_ | refine am_kn am_q6 ?_ | refine am_kn am_q9 ?_ | refine am_kn am_p1 ?_ | refine am_ky am_p0 ?_) | refine And.intro (fun h => absurd h (by decide)) (fun _ => ?_) | refine And.intro (fun _ => ?_) (fun h => absurd (by decide) h) | refine And.intro (fun _ => ?_) (fun _ => ?_) | refine And.intro ?_ ?_)
    | refine And.intro (fun h => absurd h (by decide)) (fun _ => ?_)
    | refine And.intro (fun _ => ?_) (fun h => absurd (by decide) h)
    | refine And.intro (fun _ => ?_) (fun _ => ?_)
    | refine And.intro ?_ ?_
  all_goals (first | (with_reducible assumption) | decide | omega | assumption | (intros; omega) | (intros; simp only [am_c] at * <;> omega) | (simp only [am_c, am_up] at * <;> omega) | (simp [am_c, am_up] at * <;> omega))
theorem v_full_X3_46 {l : Launch} {μ : am_N} {Q : Option am_V → am_N → Prop} {ν : am_N} (hS : sx ν μ) (k1 : μ 46 1 = 6 → Q (some (.inl 1)) μ) (k2 : μ 46 1 < 6 → Q (some (.inl 0)) μ) : am_Does l 41 [.inr (.inr 46)] μ Q := by
  refine am_Does_of (Nat.le_of_ble_eq_true rfl) (Nat.le_of_ble_eq_true rfl) (Nat.le_of_ble_eq_true rfl) ?_
  have hb := sx_all hS
  refine am_go (ct := fun _ => false) am_oX3_full 300 ?_
  conv => whnf
  repeat' first
    | (refine (?_ : am_wp _ _ _ _ _ _ _ _ _ _ _ _); conv => whnf)
    | (refine (?_ : am_sw _ _ _ _); conv => whnf)
    | refine And.intro trivial ?_
    | exact trivial
    | (with_reducible assumption)
    | ((with_reducible refine (?_ : _ ∧ _)); first | (with_reducible first | refine am_jn am_q1 ?_ | refine am_jn am_q2 ?_ | refine am_jn am_q3 ?_ | refine am_jn am_q4 ?_ | refine am_jn am_q6 ?_ | refine am_jn am_q9 ?_ | refine am_jn am_p1 ?_ | refine am_jy am_p0 ?_ | refine am_kn am_q1 ?_ | refine am_kn am_q2 ?_ | refine am_kn am_q3 ?_ | refine am_kn am_q4 ?_ | refine am_kn am_q6 ?_ | refine am_kn am_q9 ?_ | refine am_kn am_p1 ?_ | refine am_ky am_p0 ?_) | refine And.intro (fun h => absurd h (by decide)) (fun _ => ?_) | refine And.intro (fun _ => ?_) (fun h => absurd (by decide) h) | refine And.intro (fun _ => ?_) (fun _ => ?_) | refine And.intro ?_ ?_)
    | refine k1 ?_
    | refine k2 ?_
    | refine And.intro (fun h => absurd h (by decide)) (fun _ => ?_)
    | refine And.intro (fun _ => ?_) (fun h => absurd (by decide) h)
    | refine And.intro (fun _ => ?_) (fun _ => ?_)
    | refine And.intro ?_ ?_
  all_goals (first | (with_reducible assumption) | decide | omega | assumption | (intros; omega) | (intros; simp only [am_c] at * <;> omega) | (simp only [am_c, am_up] at * <;> omega) | (simp [am_c, am_up] at * <;> omega))
theorem v_put_X3_46 {l : Launch} {μ : am_N} {Q : Option am_V → am_N → Prop} (v : Int) (hS : sx μ μ) (h1 : μ 46 1 < 6) (k : ∀ r μ', r = μ 46 1 + 1 → μ' = am_up (am_up μ 46 1 (μ 46 1 + 1)) 47 (μ 46 1).toNat v → Q (some (.inl r)) μ') : am_Does l 42 [.inr (.inr 46), .inl v] μ Q := by
  refine am_Does_of (Nat.le_of_ble_eq_true rfl) (Nat.le_of_ble_eq_true rfl) (Nat.le_of_ble_eq_true rfl) ?_
  have hb := sx_all hS
  have e1 : am_c (μ 46 1) = μ 46 1 := am_cR (by omega) (by omega)
  refine am_go (ct := fun _ => false) am_oX3_put 300 ?_
  conv => whnf
  repeat' first
    | (refine (?_ : am_wp _ _ _ _ _ _ _ _ _ _ _ _); conv => whnf)
    | (refine (?_ : am_sw _ _ _ _); conv => whnf)
    | refine And.intro trivial ?_
    | exact trivial
    | (with_reducible assumption)
    | ((with_reducible refine (?_ : _ ∧ _)); first | (with_reducible first | refine am_jn am_q1 ?_ | refine am_jn am_q2 ?_ | refine am_jn am_q3 ?_ | refine am_jn am_q4 ?_ | refine am_jn am_q6 ?_ | refine am_jn am_q9 ?_ | refine am_jn am_p1 ?_ | refine am_jy am_p0 ?_ | refine am_kn am_q1 ?_ | refine am_kn am_q2 ?_ | refine am_kn am_q3 ?_ | refine am_kn am_q4 ?_ | refine am_kn am_q6 ?_ | refine am_kn am_q9 ?_ | refine am_kn am_p1 ?_ | refine am_ky am_p0 ?_) | refine And.intro (fun h => absurd h (by decide)) (fun _ => ?_) | refine And.intro (fun _ => ?_) (fun h => absurd (by decide) h) | refine And.intro (fun _ => ?_) (fun _ => ?_) | refine And.intro ?_ ?_)
    | refine k _ _ ?_ ?_
    | ((with_reducible refine (?_ : am_Does _ 41 _ _ _)); refine v_full_X3_46 (ν := μ) hS (fun _ => ?_) (fun _ => ?_))
    | refine And.intro (fun h => absurd h (by decide)) (fun _ => ?_)
    | refine And.intro (fun _ => ?_) (fun h => absurd (by decide) h)
    | refine And.intro (fun _ => ?_) (fun _ => ?_)
    | refine And.intro ?_ ?_
  all_goals (first | (with_reducible assumption) | decide | omega | assumption | (simp only [e1]; done) | (simp only [e1] at * <;> omega) | (simp only [am_c, am_up] at * <;> omega) | (simp [am_c, am_up] at * <;> omega))
theorem v_putE_X3_46 {l : Launch} {μ : am_N} {Q : Option am_V → am_N → Prop} (v : Int) (hS : sx μ μ) (h1 : μ 46 1 < 6) (k : Q (some (.inl (μ 46 1 + 1))) (am_up (am_up μ 46 1 (μ 46 1 + 1)) 47 (μ 46 1).toNat v)) : am_Does l 42 [.inr (.inr 46), .inl v] μ Q := v_put_X3_46 v hS h1 (fun r μ' e1 e2 => by subst e1; subst e2; exact k)
theorem v_drop_X3_48 {l : Launch} {μ : am_N} {Q : Option am_V → am_N → Prop} (k : Q (some (.inl (μ 48 1))) (am_up μ 48 1 0)) : am_Does l 44 [.inr (.inr 48)] μ Q := by
  refine am_Does_of (Nat.le_of_ble_eq_true rfl) (Nat.le_of_ble_eq_true rfl) (Nat.le_of_ble_eq_true rfl) ?_
  refine am_go (ct := fun _ => false) am_oX3_drop 300 ?_
  conv => whnf
  repeat' first
    | (refine (?_ : am_wp _ _ _ _ _ _ _ _ _ _ _ _); conv => whnf)
    | (refine (?_ : am_sw _ _ _ _); conv => whnf)
    | refine And.intro trivial ?_
    | exact trivial
    | (with_reducible assumption)
    | exact k
    | ((with_reducible refine (?_ : _ ∧ _)); first | (with_reducible first | refine am_jn am_q1 ?_ | refine am_jn am_q2 ?_ | refine am_jn am_q3 ?_ | refine am_jn am_q4 ?_ | refine am_jn am_q6 ?_ | refine am_jn am_q9 ?_ | refine am_jn am_p1 ?_ | refine am_jy am_p0 ?_ | refine am_kn am_q1 ?_ | refine am_kn am_q2 ?_ | refine am_kn am_q3 ?_ | refine am_kn am_q4 ?_ | refine am_kn am_q6 ?_ | refine am_kn am_q9 ?_ | refine am_kn am_p1 ?_ | refine am_ky am_p0 ?_) | refine And.intro (fun h => absurd h (by decide)) (fun _ => ?_) | refine And.intro (fun _ => ?_) (fun h => absurd (by decide) h) | refine And.intro (fun _ => ?_) (fun _ => ?_) | refine And.intro ?_ ?_)
    | refine And.intro (fun h => absurd h (by decide)) (fun _ => ?_)
    | refine And.intro (fun _ => ?_) (fun h => absurd (by decide) h)
    | refine And.intro (fun _ => ?_) (fun _ => ?_)
    | refine And.intro ?_ ?_
  all_goals (first | (with_reducible assumption) | decide | omega | assumption | (intros; omega) | (intros; simp only [am_c] at * <;> omega) | (simp only [am_c, am_up] at * <;> omega) | (simp [am_c, am_up] at * <;> omega))
theorem v_full_X3_48 {l : Launch} {μ : am_N} {Q : Option am_V → am_N → Prop} {ν : am_N} (hS : sx ν μ) (k1 : μ 48 1 = 6 → Q (some (.inl 1)) μ) (k2 : μ 48 1 < 6 → Q (some (.inl 0)) μ) : am_Does l 41 [.inr (.inr 48)] μ Q := by
  refine am_Does_of (Nat.le_of_ble_eq_true rfl) (Nat.le_of_ble_eq_true rfl) (Nat.le_of_ble_eq_true rfl) ?_
  have hb := sx_all hS
  refine am_go (ct := fun _ => false) am_oX3_full 300 ?_
  conv => whnf
  repeat' first
    | (refine (?_ : am_wp _ _ _ _ _ _ _ _ _ _ _ _); conv => whnf)
    | (refine (?_ : am_sw _ _ _ _); conv => whnf)
    | refine And.intro trivial ?_
    | exact trivial
    | (with_reducible assumption)
    | ((with_reducible refine (?_ : _ ∧ _)); first | (with_reducible first | refine am_jn am_q1 ?_ | refine am_jn am_q2 ?_ | refine am_jn am_q3 ?_ | refine am_jn am_q4 ?_ | refine am_jn am_q6 ?_ | refine am_jn am_q9 ?_ | refine am_jn am_p1 ?_ | refine am_jy am_p0 ?_ | refine am_kn am_q1 ?_ | refine am_kn am_q2 ?_ | refine am_kn am_q3 ?_ | refine am_kn am_q4 ?_ | refine am_kn am_q6 ?_ | refine am_kn am_q9 ?_ | refine am_kn am_p1 ?_ | refine am_ky am_p0 ?_) | refine And.intro (fun h => absurd h (by decide)) (fun _ => ?_) | refine And.intro (fun _ => ?_) (fun h => absurd (by decide) h) | refine And.intro (fun _ => ?_) (fun _ => ?_) | refine And.intro ?_ ?_)
    | refine k1 ?_
    | refine k2 ?_
    | refine And.intro (fun h => absurd h (by decide)) (fun _ => ?_)
    | refine And.intro (fun _ => ?_) (fun h => absurd (by decide) h)
    | refine And.intro (fun _ => ?_) (fun _ => ?_)
    | refine And.intro ?_ ?_
  all_goals (first | (with_reducible assumption) | decide | omega | assumption | (intros; omega) | (intros; simp only [am_c] at * <;> omega) | (simp only [am_c, am_up] at * <;> omega) | (simp [am_c, am_up] at * <;> omega))
theorem v_put_X3_48 {l : Launch} {μ : am_N} {Q : Option am_V → am_N → Prop} (v : Int) (hS : sx μ μ) (h1 : μ 48 1 < 6) (k : ∀ r μ', r = μ 48 1 + 1 → μ' = am_up (am_up μ 48 1 (μ 48 1 + 1)) 49 (μ 48 1).toNat v → Q (some (.inl r)) μ') : am_Does l 42 [.inr (.inr 48), .inl v] μ Q := by
  refine am_Does_of (Nat.le_of_ble_eq_true rfl) (Nat.le_of_ble_eq_true rfl) (Nat.le_of_ble_eq_true rfl) ?_
  have hb := sx_all hS
  have e1 : am_c (μ 48 1) = μ 48 1 := am_cR (by omega) (by omega)
  refine am_go (ct := fun _ => false) am_oX3_put 300 ?_
  conv => whnf
  repeat' first
    | (refine (?_ : am_wp _ _ _ _ _ _ _ _ _ _ _ _); conv => whnf)
    | (refine (?_ : am_sw _ _ _ _); conv => whnf)
    | refine And.intro trivial ?_
    | exact trivial
    | (with_reducible assumption)
    | ((with_reducible refine (?_ : _ ∧ _)); first | (with_reducible first | refine am_jn am_q1 ?_ | refine am_jn am_q2 ?_ | refine am_jn am_q3 ?_ | refine am_jn am_q4 ?_ | refine am_jn am_q6 ?_ | refine am_jn am_q9 ?_ | refine am_jn am_p1 ?_ | refine am_jy am_p0 ?_ | refine am_kn am_q1 ?_ | refine am_kn am_q2 ?_ | refine am_kn am_q3 ?_ | refine am_kn am_q4 ?_ | refine am_kn am_q6 ?_ | refine am_kn am_q9 ?_ | refine am_kn am_p1 ?_ | refine am_ky am_p0 ?_) | refine And.intro (fun h => absurd h (by decide)) (fun _ => ?_) | refine And.intro (fun _ => ?_) (fun h => absurd (by decide) h) | refine And.intro (fun _ => ?_) (fun _ => ?_) | refine And.intro ?_ ?_)
    | refine k _ _ ?_ ?_
    | ((with_reducible refine (?_ : am_Does _ 41 _ _ _)); refine v_full_X3_48 (ν := μ) hS (fun _ => ?_) (fun _ => ?_))
    | refine And.intro (fun h => absurd h (by decide)) (fun _ => ?_)
    | refine And.intro (fun _ => ?_) (fun h => absurd (by decide) h)
    | refine And.intro (fun _ => ?_) (fun _ => ?_)
    | refine And.intro ?_ ?_
  all_goals (first | (with_reducible assumption) | decide | omega | assumption | (simp only [e1]; done) | (simp only [e1] at * <;> omega) | (simp only [am_c, am_up] at * <;> omega) | (simp [am_c, am_up] at * <;> omega))
theorem v_putE_X3_48 {l : Launch} {μ : am_N} {Q : Option am_V → am_N → Prop} (v : Int) (hS : sx μ μ) (h1 : μ 48 1 < 6) (k : Q (some (.inl (μ 48 1 + 1))) (am_up (am_up μ 48 1 (μ 48 1 + 1)) 49 (μ 48 1).toNat v)) : am_Does l 42 [.inr (.inr 48), .inl v] μ Q := v_put_X3_48 v hS h1 (fun r μ' e1 e2 => by subst e1; subst e2; exact k)
theorem v_drop_X3_53 {l : Launch} {μ : am_N} {Q : Option am_V → am_N → Prop} (k : Q (some (.inl (μ 53 1))) (am_up μ 53 1 0)) : am_Does l 44 [.inr (.inr 53)] μ Q := by
  refine am_Does_of (Nat.le_of_ble_eq_true rfl) (Nat.le_of_ble_eq_true rfl) (Nat.le_of_ble_eq_true rfl) ?_
  refine am_go (ct := fun _ => false) am_oX3_drop 300 ?_
  conv => whnf
  repeat' first
    | (refine (?_ : am_wp _ _ _ _ _ _ _ _ _ _ _ _); conv => whnf)
    | (refine (?_ : am_sw _ _ _ _); conv => whnf)
    | refine And.intro trivial ?_
    | exact trivial
    | (with_reducible assumption)
    | exact k
    | ((with_reducible refine (?_ : _ ∧ _)); first | (with_reducible first | refine am_jn am_q1 ?_ | refine am_jn am_q2 ?_ | refine am_jn am_q3 ?_ | refine am_jn am_q4 ?_ | refine am_jn am_q6 ?_ | refine am_jn am_q9 ?_ | refine am_jn am_p1 ?_ | refine am_jy am_p0 ?_ | refine am_kn am_q1 ?_ | refine am_kn am_q2 ?_ | refine am_kn am_q3 ?_ | refine am_kn am_q4 ?_ | refine am_kn am_q6 ?_ | refine am_kn am_q9 ?_ | refine am_kn am_p1 ?_ | refine am_ky am_p0 ?_) | refine And.intro (fun h => absurd h (by decide)) (fun _ => ?_) | refine And.intro (fun _ => ?_) (fun h => absurd (by decide) h) | refine And.intro (fun _ => ?_) (fun _ => ?_) | refine And.intro ?_ ?_)
    | refine And.intro (fun h => absurd h (by decide)) (fun _ => ?_)
    | refine And.intro (fun _ => ?_) (fun h => absurd (by decide) h)
    | refine And.intro (fun _ => ?_) (fun _ => ?_)
    | refine And.intro ?_ ?_
  all_goals (first | (with_reducible assumption) | decide | omega | assumption | (intros; omega) | (intros; simp only [am_c] at * <;> omega) | (simp only [am_c, am_up] at * <;> omega) | (simp [am_c, am_up] at * <;> omega))
theorem v_full_X3_53 {l : Launch} {μ : am_N} {Q : Option am_V → am_N → Prop} {ν : am_N} (hS : sx ν μ) (k1 : μ 53 1 = 4 → Q (some (.inl 1)) μ) (k2 : μ 53 1 < 4 → Q (some (.inl 0)) μ) : am_Does l 41 [.inr (.inr 53)] μ Q := by
  refine am_Does_of (Nat.le_of_ble_eq_true rfl) (Nat.le_of_ble_eq_true rfl) (Nat.le_of_ble_eq_true rfl) ?_
  have hb := sx_all hS
  refine am_go (ct := fun _ => false) am_oX3_full 300 ?_
  conv => whnf
  repeat' first
    | (refine (?_ : am_wp _ _ _ _ _ _ _ _ _ _ _ _); conv => whnf)
    | (refine (?_ : am_sw _ _ _ _); conv => whnf)
    | refine And.intro trivial ?_
    | exact trivial
    | (with_reducible assumption)
    | ((with_reducible refine (?_ : _ ∧ _)); first | (with_reducible first | refine am_jn am_q1 ?_ | refine am_jn am_q2 ?_ | refine am_jn am_q3 ?_ | refine am_jn am_q4 ?_ | refine am_jn am_q6 ?_ | refine am_jn am_q9 ?_ | refine am_jn am_p1 ?_ | refine am_jy am_p0 ?_ | refine am_kn am_q1 ?_ | refine am_kn am_q2 ?_ | refine am_kn am_q3 ?_ | refine am_kn am_q4 ?_ | refine am_kn am_q6 ?_ | refine am_kn am_q9 ?_ | refine am_kn am_p1 ?_ | refine am_ky am_p0 ?_) | refine And.intro (fun h => absurd h (by decide)) (fun _ => ?_) | refine And.intro (fun _ => ?_) (fun h => absurd (by decide) h) | refine And.intro (fun _ => ?_) (fun _ => ?_) | refine And.intro ?_ ?_)
    | refine k1 ?_
    | refine k2 ?_
    | refine And.intro (fun h => absurd h (by decide)) (fun _ => ?_)
    | refine And.intro (fun _ => ?_) (fun h => absurd (by decide) h)
    | refine And.intro (fun _ => ?_) (fun _ => ?_)
    | refine And.intro ?_ ?_
  all_goals (first | (with_reducible assumption) | decide | omega | assumption | (intros; omega) | (intros; simp only [am_c] at * <;> omega) | (simp only [am_c, am_up] at * <;> omega) | (simp [am_c, am_up] at * <;> omega))
theorem v_drop_X3_55 {l : Launch} {μ : am_N} {Q : Option am_V → am_N → Prop} (k : Q (some (.inl (μ 55 1))) (am_up μ 55 1 0)) : am_Does l 44 [.inr (.inr 55)] μ Q := by
  refine am_Does_of (Nat.le_of_ble_eq_true rfl) (Nat.le_of_ble_eq_true rfl) (Nat.le_of_ble_eq_true rfl) ?_
  refine am_go (ct := fun _ => false) am_oX3_drop 300 ?_
  conv => whnf
  repeat' first
    | (refine (?_ : am_wp _ _ _ _ _ _ _ _ _ _ _ _); conv => whnf)
    | (refine (?_ : am_sw _ _ _ _); conv => whnf)
    | refine And.intro trivial ?_
    | exact trivial
    | (with_reducible assumption)
    | exact k
    | ((with_reducible refine (?_ : _ ∧ _)); first | (with_reducible first | refine am_jn am_q1 ?_ | refine am_jn am_q2 ?_ | refine am_jn am_q3 ?_ | refine am_jn am_q4 ?_ | refine am_jn am_q6 ?_ | refine am_jn am_q9 ?_ | refine am_jn am_p1 ?_ | refine am_jy am_p0 ?_ | refine am_kn am_q1 ?_ | refine am_kn am_q2 ?_ | refine am_kn am_q3 ?_ | refine am_kn am_q4 ?_ | refine am_kn am_q6 ?_ | refine am_kn am_q9 ?_ | refine am_kn am_p1 ?_ | refine am_ky am_p0 ?_) | refine And.intro (fun h => absurd h (by decide)) (fun _ => ?_) | refine And.intro (fun _ => ?_) (fun h => absurd (by decide) h) | refine And.intro (fun _ => ?_) (fun _ => ?_) | refine And.intro ?_ ?_)
    | refine And.intro (fun h => absurd h (by decide)) (fun _ => ?_)
    | refine And.intro (fun _ => ?_) (fun h => absurd (by decide) h)
    | refine And.intro (fun _ => ?_) (fun _ => ?_)
    | refine And.intro ?_ ?_
  all_goals (first | (with_reducible assumption) | decide | omega | assumption | (intros; omega) | (intros; simp only [am_c] at * <;> omega) | (simp only [am_c, am_up] at * <;> omega) | (simp [am_c, am_up] at * <;> omega))
theorem v_full_X3_55 {l : Launch} {μ : am_N} {Q : Option am_V → am_N → Prop} {ν : am_N} (hS : sx ν μ) (k1 : μ 55 1 = 4 → Q (some (.inl 1)) μ) (k2 : μ 55 1 < 4 → Q (some (.inl 0)) μ) : am_Does l 41 [.inr (.inr 55)] μ Q := by
  refine am_Does_of (Nat.le_of_ble_eq_true rfl) (Nat.le_of_ble_eq_true rfl) (Nat.le_of_ble_eq_true rfl) ?_
  have hb := sx_all hS
  refine am_go (ct := fun _ => false) am_oX3_full 300 ?_
  conv => whnf
  repeat' first
    | (refine (?_ : am_wp _ _ _ _ _ _ _ _ _ _ _ _); conv => whnf)
    | (refine (?_ : am_sw _ _ _ _); conv => whnf)
    | refine And.intro trivial ?_
    | exact trivial
    | (with_reducible assumption)
    | ((with_reducible refine (?_ : _ ∧ _)); first | (with_reducible first | refine am_jn am_q1 ?_ | refine am_jn am_q2 ?_ | refine am_jn am_q3 ?_ | refine am_jn am_q4 ?_ | refine am_jn am_q6 ?_ | refine am_jn am_q9 ?_ | refine am_jn am_p1 ?_ | refine am_jy am_p0 ?_ | refine am_kn am_q1 ?_ | refine am_kn am_q2 ?_ | refine am_kn am_q3 ?_ | refine am_kn am_q4 ?_ | refine am_kn am_q6 ?_ | refine am_kn am_q9 ?_ | refine am_kn am_p1 ?_ | refine am_ky am_p0 ?_) | refine And.intro (fun h => absurd h (by decide)) (fun _ => ?_) | refine And.intro (fun _ => ?_) (fun h => absurd (by decide) h) | refine And.intro (fun _ => ?_) (fun _ => ?_) | refine And.intro ?_ ?_)
    | refine k1 ?_
    | refine k2 ?_
    | refine And.intro (fun h => absurd h (by decide)) (fun _ => ?_)
    | refine And.intro (fun _ => ?_) (fun h => absurd (by decide) h)
    | refine And.intro (fun _ => ?_) (fun _ => ?_)
    | refine And.intro ?_ ?_
  all_goals (first | (with_reducible assumption) | decide | omega | assumption | (intros; omega) | (intros; simp only [am_c] at * <;> omega) | (simp only [am_c, am_up] at * <;> omega) | (simp [am_c, am_up] at * <;> omega))
theorem v_put_X3_h55 {l : Launch} {μ : am_N} {Q : Option am_V → am_N → Prop} {ν : am_N} (v : Int) (hS : gv [52, 53, 54, 55, 56] ν μ)  (k : ∀ r μ', gv [52, 53, 54, 55, 56] ν μ' → Q (some (.inl r)) μ') : am_Does l 42 [.inr (.inr 55), .inl v] μ Q := by
  refine am_Does_of (Nat.le_of_ble_eq_true rfl) (Nat.le_of_ble_eq_true rfl) (Nat.le_of_ble_eq_true rfl) ?_
  have hb := sx_all hS.1
  refine am_go (ct := fun _ => false) am_oX3_put 300 ?_
  conv => whnf
  repeat' first
    | (refine (?_ : am_wp _ _ _ _ _ _ _ _ _ _ _ _); conv => whnf)
    | (refine (?_ : am_sw _ _ _ _); conv => whnf)
    | refine And.intro trivial ?_
    | exact trivial
    | (with_reducible assumption)
    | refine gv_up ?_ rfl rfl
    | refine gv_b1 ?_ rfl ?_
    | refine gv_b22 ?_ rfl ?_
    | refine gv_b36 ?_ rfl ?_
    | refine gv_b44 ?_ rfl ?_
    | refine gv_b46 ?_ rfl ?_
    | refine gv_b48 ?_ rfl ?_
    | refine gv_b50 ?_ rfl ?_
    | refine gv_b53 ?_ rfl ?_
    | refine gv_b55 ?_ rfl ?_
    | refine gv_b58 ?_ rfl ?_
    | refine gv_b60 ?_ rfl ?_
    | refine gv_b62 ?_ rfl ?_
    | refine gv_sx ?_ (by assumption)
    | exact sx_rb (by assumption)
    | exact hS.1
    | exact hv0.1
    | ((with_reducible refine (?_ : _ ∧ _)); first | (with_reducible first | refine am_jn am_q1 ?_ | refine am_jn am_q2 ?_ | refine am_jn am_q3 ?_ | refine am_jn am_q4 ?_ | refine am_jn am_q6 ?_ | refine am_jn am_q9 ?_ | refine am_jn am_p1 ?_ | refine am_jy am_p0 ?_ | refine am_kn am_q1 ?_ | refine am_kn am_q2 ?_ | refine am_kn am_q3 ?_ | refine am_kn am_q4 ?_ | refine am_kn am_q6 ?_ | refine am_kn am_q9 ?_ | refine am_kn am_p1 ?_ | refine am_ky am_p0 ?_) | refine And.intro (fun h => absurd h (by decide)) (fun _ => ?_) | refine And.intro (fun _ => ?_) (fun h => absurd (by decide) h) | refine And.intro (fun _ => ?_) (fun _ => ?_) | refine And.intro ?_ ?_)
    | refine k _ _ ?_
    | ((with_reducible refine (?_ : am_Does _ 41 _ _ _)); refine v_full_X3_55 (ν := μ) ?_ (fun _ => ?_) (fun _ => ?_))
    | refine And.intro (fun h => absurd h (by decide)) (fun _ => ?_)
    | refine And.intro (fun _ => ?_) (fun h => absurd (by decide) h)
    | refine And.intro (fun _ => ?_) (fun _ => ?_)
    | refine And.intro ?_ ?_
  all_goals (first | (with_reducible assumption) | decide | omega | assumption | (intros; omega) | (intros; simp only [am_c] at * <;> omega) | (simp only [am_c, am_up] at * <;> omega) | (simp [am_c, am_up] at * <;> omega))
theorem v_put_X3_h53 {l : Launch} {μ : am_N} {Q : Option am_V → am_N → Prop} {ν : am_N} (v : Int) (hS : gv [52, 53, 54, 55, 56] ν μ)  (k : ∀ r μ', gv [52, 53, 54, 55, 56] ν μ' → Q (some (.inl r)) μ') : am_Does l 42 [.inr (.inr 53), .inl v] μ Q := by
  refine am_Does_of (Nat.le_of_ble_eq_true rfl) (Nat.le_of_ble_eq_true rfl) (Nat.le_of_ble_eq_true rfl) ?_
  have hb := sx_all hS.1
  refine am_go (ct := fun _ => false) am_oX3_put 300 ?_
  conv => whnf
  repeat' first
    | (refine (?_ : am_wp _ _ _ _ _ _ _ _ _ _ _ _); conv => whnf)
    | (refine (?_ : am_sw _ _ _ _); conv => whnf)
    | refine And.intro trivial ?_
    | exact trivial
    | (with_reducible assumption)
    | refine gv_up ?_ rfl rfl
    | refine gv_b1 ?_ rfl ?_
    | refine gv_b22 ?_ rfl ?_
    | refine gv_b36 ?_ rfl ?_
    | refine gv_b44 ?_ rfl ?_
    | refine gv_b46 ?_ rfl ?_
    | refine gv_b48 ?_ rfl ?_
    | refine gv_b50 ?_ rfl ?_
    | refine gv_b53 ?_ rfl ?_
    | refine gv_b55 ?_ rfl ?_
    | refine gv_b58 ?_ rfl ?_
    | refine gv_b60 ?_ rfl ?_
    | refine gv_b62 ?_ rfl ?_
    | refine gv_sx ?_ (by assumption)
    | exact sx_rb (by assumption)
    | exact hS.1
    | exact hv0.1
    | ((with_reducible refine (?_ : _ ∧ _)); first | (with_reducible first | refine am_jn am_q1 ?_ | refine am_jn am_q2 ?_ | refine am_jn am_q3 ?_ | refine am_jn am_q4 ?_ | refine am_jn am_q6 ?_ | refine am_jn am_q9 ?_ | refine am_jn am_p1 ?_ | refine am_jy am_p0 ?_ | refine am_kn am_q1 ?_ | refine am_kn am_q2 ?_ | refine am_kn am_q3 ?_ | refine am_kn am_q4 ?_ | refine am_kn am_q6 ?_ | refine am_kn am_q9 ?_ | refine am_kn am_p1 ?_ | refine am_ky am_p0 ?_) | refine And.intro (fun h => absurd h (by decide)) (fun _ => ?_) | refine And.intro (fun _ => ?_) (fun h => absurd (by decide) h) | refine And.intro (fun _ => ?_) (fun _ => ?_) | refine And.intro ?_ ?_)
    | refine k _ _ ?_
    | ((with_reducible refine (?_ : am_Does _ 41 _ _ _)); refine v_full_X3_53 (ν := μ) ?_ (fun _ => ?_) (fun _ => ?_))
    | refine And.intro (fun h => absurd h (by decide)) (fun _ => ?_)
    | refine And.intro (fun _ => ?_) (fun h => absurd (by decide) h)
    | refine And.intro (fun _ => ?_) (fun _ => ?_)
    | refine And.intro ?_ ?_
  all_goals (first | (with_reducible assumption) | decide | omega | assumption | (intros; omega) | (intros; simp only [am_c] at * <;> omega) | (simp only [am_c, am_up] at * <;> omega) | (simp [am_c, am_up] at * <;> omega))
theorem v_put_X1 {l : Launch} {μ : am_N} {Q : Option am_V → am_N → Prop} {ν : am_N} (v w : Int) (hS : gv [52, 53, 54, 55, 56] ν μ)  (k : ∀ r μ', gv [52, 53, 54, 55, 56] ν μ' → Q (some (.inl r)) μ') : am_Does l 16 [.inr (.inr 52), .inl v, .inl w] μ Q := by
  refine am_Does_of (Nat.le_of_ble_eq_true rfl) (Nat.le_of_ble_eq_true rfl) (Nat.le_of_ble_eq_true rfl) ?_
  have hb := sx_all hS.1
  refine am_go (ct := fun _ => false) am_oX1_put 300 ?_
  conv => whnf
  repeat' first
    | (refine (?_ : am_wp _ _ _ _ _ _ _ _ _ _ _ _); conv => whnf)
    | (refine (?_ : am_sw _ _ _ _); conv => whnf)
    | refine And.intro trivial ?_
    | exact trivial
    | (with_reducible assumption)
    | refine gv_up ?_ rfl rfl
    | refine gv_b1 ?_ rfl ?_
    | refine gv_b22 ?_ rfl ?_
    | refine gv_b36 ?_ rfl ?_
    | refine gv_b44 ?_ rfl ?_
    | refine gv_b46 ?_ rfl ?_
    | refine gv_b48 ?_ rfl ?_
    | refine gv_b50 ?_ rfl ?_
    | refine gv_b53 ?_ rfl ?_
    | refine gv_b55 ?_ rfl ?_
    | refine gv_b58 ?_ rfl ?_
    | refine gv_b60 ?_ rfl ?_
    | refine gv_b62 ?_ rfl ?_
    | refine gv_sx ?_ (by assumption)
    | exact sx_rb (by assumption)
    | exact hS.1
    | exact hv0.1
    | ((with_reducible refine (?_ : _ ∧ _)); first | (with_reducible first | refine am_jn am_q1 ?_ | refine am_jn am_q2 ?_ | refine am_jn am_q3 ?_ | refine am_jn am_q4 ?_ | refine am_jn am_q6 ?_ | refine am_jn am_q9 ?_ | refine am_jn am_p1 ?_ | refine am_jy am_p0 ?_ | refine am_kn am_q1 ?_ | refine am_kn am_q2 ?_ | refine am_kn am_q3 ?_ | refine am_kn am_q4 ?_ | refine am_kn am_q6 ?_ | refine am_kn am_q9 ?_ | refine am_kn am_p1 ?_ | refine am_ky am_p0 ?_) | refine And.intro (fun h => absurd h (by decide)) (fun _ => ?_) | refine And.intro (fun _ => ?_) (fun h => absurd (by decide) h) | refine And.intro (fun _ => ?_) (fun _ => ?_) | refine And.intro ?_ ?_)
    | refine k _ _ ?_
    | ((with_reducible refine (?_ : am_Does _ 42 _ _ _)); first | ((with_reducible refine (?_ : am_Does _ 42 (Sum.inr (Sum.inr 55) :: _) _ _)); refine v_put_X3_h55 (ν := ν) _ ?_  (fun _ _ _ => ?_)) | ((with_reducible refine (?_ : am_Does _ 42 (Sum.inr (Sum.inr 53) :: _) _ _)); refine v_put_X3_h53 (ν := ν) _ ?_  (fun _ _ _ => ?_)) | refine v_put_X3_h55 (ν := ν) _ ?_  (fun _ _ _ => ?_) | refine v_put_X3_h53 (ν := ν) _ ?_  (fun _ _ _ => ?_))
    | refine And.intro (fun h => absurd h (by decide)) (fun _ => ?_)
    | refine And.intro (fun _ => ?_) (fun h => absurd (by decide) h)
    | refine And.intro (fun _ => ?_) (fun _ => ?_)
    | refine And.intro ?_ ?_
  all_goals (first | (with_reducible assumption) | decide | omega | assumption | (intros; omega) | (intros; simp only [am_c] at * <;> omega) | (simp only [am_c, am_up] at * <;> omega) | (simp [am_c, am_up] at * <;> omega))
theorem v_drop_X1 {l : Launch} {μ : am_N} {Q : Option am_V → am_N → Prop} {ν : am_N}  (hS : gv [53, 55] ν μ)  (k : ∀ r μ', gv [53, 55] ν μ' → Q (some (.inl r)) μ') : am_Does l 17 [.inr (.inr 52)] μ Q := by
  refine am_Does_of (Nat.le_of_ble_eq_true rfl) (Nat.le_of_ble_eq_true rfl) (Nat.le_of_ble_eq_true rfl) ?_
  have hb := sx_all hS.1
  refine am_go (ct := fun _ => false) am_oX1_drop 300 ?_
  conv => whnf
  repeat' first
    | (refine (?_ : am_wp _ _ _ _ _ _ _ _ _ _ _ _); conv => whnf)
    | (refine (?_ : am_sw _ _ _ _); conv => whnf)
    | refine And.intro trivial ?_
    | exact trivial
    | (with_reducible assumption)
    | refine gv_up ?_ rfl rfl
    | refine gv_b1 ?_ rfl ?_
    | refine gv_b22 ?_ rfl ?_
    | refine gv_b36 ?_ rfl ?_
    | refine gv_b44 ?_ rfl ?_
    | refine gv_b46 ?_ rfl ?_
    | refine gv_b48 ?_ rfl ?_
    | refine gv_b50 ?_ rfl ?_
    | refine gv_b53 ?_ rfl ?_
    | refine gv_b55 ?_ rfl ?_
    | refine gv_b58 ?_ rfl ?_
    | refine gv_b60 ?_ rfl ?_
    | refine gv_b62 ?_ rfl ?_
    | refine gv_sx ?_ (by assumption)
    | exact sx_rb (by assumption)
    | exact hS.1
    | exact hv0.1
    | ((with_reducible refine (?_ : _ ∧ _)); first | (with_reducible first | refine am_jn am_q1 ?_ | refine am_jn am_q2 ?_ | refine am_jn am_q3 ?_ | refine am_jn am_q4 ?_ | refine am_jn am_q6 ?_ | refine am_jn am_q9 ?_ | refine am_jn am_p1 ?_ | refine am_jy am_p0 ?_ | refine am_kn am_q1 ?_ | refine am_kn am_q2 ?_ | refine am_kn am_q3 ?_ | refine am_kn am_q4 ?_ | refine am_kn am_q6 ?_ | refine am_kn am_q9 ?_ | refine am_kn am_p1 ?_ | refine am_ky am_p0 ?_) | refine And.intro (fun h => absurd h (by decide)) (fun _ => ?_) | refine And.intro (fun _ => ?_) (fun h => absurd (by decide) h) | refine And.intro (fun _ => ?_) (fun _ => ?_) | refine And.intro ?_ ?_)
    | refine k _ _ ?_
    | ((with_reducible refine (?_ : am_Does _ 44 _ _ _)); first | ((with_reducible refine (?_ : am_Does _ 44 (Sum.inr (Sum.inr 53) :: _) _ _)); refine v_drop_X3_53 ?_) | ((with_reducible refine (?_ : am_Does _ 44 (Sum.inr (Sum.inr 55) :: _) _ _)); refine v_drop_X3_55 ?_) | refine v_drop_X3_53 ?_ | refine v_drop_X3_55 ?_)
    | refine And.intro (fun h => absurd h (by decide)) (fun _ => ?_)
    | refine And.intro (fun _ => ?_) (fun h => absurd (by decide) h)
    | refine And.intro (fun _ => ?_) (fun _ => ?_)
    | refine And.intro ?_ ?_
  all_goals (first | (with_reducible assumption) | decide | omega | assumption | (intros; omega) | (intros; simp only [am_c] at * <;> omega) | (simp only [am_c, am_up] at * <;> omega) | (simp [am_c, am_up] at * <;> omega))
/-! contracts: the system's public changes (weak; rows exactly) -/
theorem v_row_X6 {l : Launch} {μ : am_N} {Q : Option am_V → am_N → Prop} (a : Int) (hS : sx μ μ) (ha0 : -2147483648 ≤ a) (ha1 : a ≤ 2147483647) (k : ∀ r μ', gv [44, 45] μ μ' → ((am_c a < 0 ∧ r = -4 ∧ μ' 44 1 = μ 44 1) ∨ (0 ≤ am_c a ∧ (99 < am_c a ∨ μ 44 1 = 12) ∧ r = -6 ∧ μ' 44 1 = μ 44 1) ∨ (0 ≤ am_c a ∧ am_c a ≤ 99 ∧ μ 44 1 < 12 ∧ r = μ 44 1 + 1 ∧ μ' 44 1 = μ 44 1 + 1)) → Q (some (.inl r)) μ') : am_Does l 86 [.inr (.inr 0), .inl a] μ Q := by
  refine am_Does_of (Nat.le_of_ble_eq_true rfl) (Nat.le_of_ble_eq_true rfl) (Nat.le_of_ble_eq_true rfl) ?_
  have hb := sx_all hS
  refine am_go (ct := fun _ => false) am_oX6_row 300 ?_
  conv => whnf
  repeat' first
    | (refine (?_ : am_wp _ _ _ _ _ _ _ _ _ _ _ _); conv => whnf)
    | (refine (?_ : am_sw _ _ _ _); conv => whnf)
    | refine And.intro trivial ?_
    | exact trivial
    | (with_reducible assumption)
    | refine gv_up ?_ rfl rfl
    | refine gv_b1 ?_ rfl ?_
    | refine gv_b22 ?_ rfl ?_
    | refine gv_b36 ?_ rfl ?_
    | refine gv_b44 ?_ rfl ?_
    | refine gv_b46 ?_ rfl ?_
    | refine gv_b48 ?_ rfl ?_
    | refine gv_b50 ?_ rfl ?_
    | refine gv_b53 ?_ rfl ?_
    | refine gv_b55 ?_ rfl ?_
    | refine gv_b58 ?_ rfl ?_
    | refine gv_b60 ?_ rfl ?_
    | refine gv_b62 ?_ rfl ?_
    | exact gv_rf hS
    | refine gv_sx ?_ (by assumption)
    | exact hS
    | ((with_reducible refine (?_ : _ ∧ _)); first | (with_reducible first | refine am_jn am_q1 ?_ | refine am_jn am_q2 ?_ | refine am_jn am_q3 ?_ | refine am_jn am_q4 ?_ | refine am_jn am_q6 ?_ | refine am_jn am_q9 ?_ | refine am_jn am_p1 ?_ | refine am_jy am_p0 ?_ | refine am_kn am_q1 ?_ | refine am_kn am_q2 ?_ | refine am_kn am_q3 ?_ | refine am_kn am_q4 ?_ | refine am_kn am_q6 ?_ | refine am_kn am_q9 ?_ | refine am_kn am_p1 ?_ | refine am_ky am_p0 ?_) | refine And.intro (fun h => absurd h (by decide)) (fun _ => ?_) | refine And.intro (fun _ => ?_) (fun h => absurd (by decide) h) | refine And.intro (fun _ => ?_) (fun _ => ?_) | refine And.intro ?_ ?_)
    | refine k _ _ ?_ ?_
    | ((with_reducible refine (?_ : am_Does _ 41 _ _ _)); refine v_full_X3_44 (ν := μ) ?_ (fun _ => ?_) (fun _ => ?_))
    | ((with_reducible refine (?_ : am_Does _ 42 _ _ _)); refine v_putE_X3_44 _ ?_ ?_ ?_)
    | ((with_reducible refine (?_ : am_Does _ 113 _ _ _)); refine w_refuse_X6 _ (gv_i (E := [44, 45]) (ν := μ) (by repeat' first | assumption | exact gv_rf hS | refine gv_up ?_ rfl rfl | refine gv_sx ?_ (by assumption))) ?_ ?_ (fun _ _ _ => ?_))
    | refine And.intro (fun h => absurd h (by decide)) (fun _ => ?_)
    | refine And.intro (fun _ => ?_) (fun h => absurd (by decide) h)
    | refine And.intro (fun _ => ?_) (fun _ => ?_)
    | refine And.intro ?_ ?_
  all_goals (first | (with_reducible assumption) | decide | omega | assumption | (subst_vars; simp [am_upS] at * <;> omega) | (intros; omega) | (simp only [am_c, am_up] at * <;> omega) | (simp [am_c, am_up] at * <;> omega))
theorem v_time_X6 {l : Launch} {μ : am_N} {Q : Option am_V → am_N → Prop} (a : Int) (hS : sx μ μ) (ha0 : -2147483648 ≤ a) (ha1 : a ≤ 2147483647) (k : ∀ r μ', gv [46, 47] μ μ' → ((am_c a < 0 ∧ r = -4 ∧ μ' 46 1 = μ 46 1) ∨ (0 ≤ am_c a ∧ (999 < am_c a ∨ μ 46 1 = 6) ∧ r = -6 ∧ μ' 46 1 = μ 46 1) ∨ (0 ≤ am_c a ∧ am_c a ≤ 999 ∧ μ 46 1 < 6 ∧ r = μ 46 1 + 1 ∧ μ' 46 1 = μ 46 1 + 1)) → Q (some (.inl r)) μ') : am_Does l 107 [.inr (.inr 0), .inl a] μ Q := by
  refine am_Does_of (Nat.le_of_ble_eq_true rfl) (Nat.le_of_ble_eq_true rfl) (Nat.le_of_ble_eq_true rfl) ?_
  have hb := sx_all hS
  refine am_go (ct := fun _ => false) am_oX6_time 300 ?_
  conv => whnf
  repeat' first
    | (refine (?_ : am_wp _ _ _ _ _ _ _ _ _ _ _ _); conv => whnf)
    | (refine (?_ : am_sw _ _ _ _); conv => whnf)
    | refine And.intro trivial ?_
    | exact trivial
    | (with_reducible assumption)
    | refine gv_up ?_ rfl rfl
    | refine gv_b1 ?_ rfl ?_
    | refine gv_b22 ?_ rfl ?_
    | refine gv_b36 ?_ rfl ?_
    | refine gv_b44 ?_ rfl ?_
    | refine gv_b46 ?_ rfl ?_
    | refine gv_b48 ?_ rfl ?_
    | refine gv_b50 ?_ rfl ?_
    | refine gv_b53 ?_ rfl ?_
    | refine gv_b55 ?_ rfl ?_
    | refine gv_b58 ?_ rfl ?_
    | refine gv_b60 ?_ rfl ?_
    | refine gv_b62 ?_ rfl ?_
    | exact gv_rf hS
    | refine gv_sx ?_ (by assumption)
    | exact hS
    | ((with_reducible refine (?_ : _ ∧ _)); first | (with_reducible first | refine am_jn am_q1 ?_ | refine am_jn am_q2 ?_ | refine am_jn am_q3 ?_ | refine am_jn am_q4 ?_ | refine am_jn am_q6 ?_ | refine am_jn am_q9 ?_ | refine am_jn am_p1 ?_ | refine am_jy am_p0 ?_ | refine am_kn am_q1 ?_ | refine am_kn am_q2 ?_ | refine am_kn am_q3 ?_ | refine am_kn am_q4 ?_ | refine am_kn am_q6 ?_ | refine am_kn am_q9 ?_ | refine am_kn am_p1 ?_ | refine am_ky am_p0 ?_) | refine And.intro (fun h => absurd h (by decide)) (fun _ => ?_) | refine And.intro (fun _ => ?_) (fun h => absurd (by decide) h) | refine And.intro (fun _ => ?_) (fun _ => ?_) | refine And.intro ?_ ?_)
    | refine k _ _ ?_ ?_
    | ((with_reducible refine (?_ : am_Does _ 41 _ _ _)); refine v_full_X3_46 (ν := μ) ?_ (fun _ => ?_) (fun _ => ?_))
    | ((with_reducible refine (?_ : am_Does _ 42 _ _ _)); refine v_putE_X3_46 _ ?_ ?_ ?_)
    | ((with_reducible refine (?_ : am_Does _ 113 _ _ _)); refine w_refuse_X6 _ (gv_i (E := [46, 47]) (ν := μ) (by repeat' first | assumption | exact gv_rf hS | refine gv_up ?_ rfl rfl | refine gv_sx ?_ (by assumption))) ?_ ?_ (fun _ _ _ => ?_))
    | refine And.intro (fun h => absurd h (by decide)) (fun _ => ?_)
    | refine And.intro (fun _ => ?_) (fun h => absurd (by decide) h)
    | refine And.intro (fun _ => ?_) (fun _ => ?_)
    | refine And.intro ?_ ?_
  all_goals (first | (with_reducible assumption) | decide | omega | assumption | (subst_vars; simp [am_upS] at * <;> omega) | (intros; omega) | (simp only [am_c, am_up] at * <;> omega) | (simp [am_c, am_up] at * <;> omega))
theorem v_bag_X6 {l : Launch} {μ : am_N} {Q : Option am_V → am_N → Prop} (a : Int) (hS : sx μ μ) (ha0 : -2147483648 ≤ a) (ha1 : a ≤ 2147483647) (k : ∀ r μ', gv [48, 49] μ μ' → ((am_c a < 1 ∧ r = -4 ∧ μ' 48 1 = μ 48 1) ∨ (1 ≤ am_c a ∧ (9 < am_c a ∨ μ 48 1 = 6) ∧ r = -6 ∧ μ' 48 1 = μ 48 1) ∨ (1 ≤ am_c a ∧ am_c a ≤ 9 ∧ μ 48 1 < 6 ∧ r = μ 48 1 + 1 ∧ μ' 48 1 = μ 48 1 + 1)) → Q (some (.inl r)) μ') : am_Does l 91 [.inr (.inr 0), .inl a] μ Q := by
  refine am_Does_of (Nat.le_of_ble_eq_true rfl) (Nat.le_of_ble_eq_true rfl) (Nat.le_of_ble_eq_true rfl) ?_
  have hb := sx_all hS
  refine am_go (ct := fun _ => false) am_oX6_bag 300 ?_
  conv => whnf
  repeat' first
    | (refine (?_ : am_wp _ _ _ _ _ _ _ _ _ _ _ _); conv => whnf)
    | (refine (?_ : am_sw _ _ _ _); conv => whnf)
    | refine And.intro trivial ?_
    | exact trivial
    | (with_reducible assumption)
    | refine gv_up ?_ rfl rfl
    | refine gv_b1 ?_ rfl ?_
    | refine gv_b22 ?_ rfl ?_
    | refine gv_b36 ?_ rfl ?_
    | refine gv_b44 ?_ rfl ?_
    | refine gv_b46 ?_ rfl ?_
    | refine gv_b48 ?_ rfl ?_
    | refine gv_b50 ?_ rfl ?_
    | refine gv_b53 ?_ rfl ?_
    | refine gv_b55 ?_ rfl ?_
    | refine gv_b58 ?_ rfl ?_
    | refine gv_b60 ?_ rfl ?_
    | refine gv_b62 ?_ rfl ?_
    | exact gv_rf hS
    | refine gv_sx ?_ (by assumption)
    | exact hS
    | ((with_reducible refine (?_ : _ ∧ _)); first | (with_reducible first | refine am_jn am_q1 ?_ | refine am_jn am_q2 ?_ | refine am_jn am_q3 ?_ | refine am_jn am_q4 ?_ | refine am_jn am_q6 ?_ | refine am_jn am_q9 ?_ | refine am_jn am_p1 ?_ | refine am_jy am_p0 ?_ | refine am_kn am_q1 ?_ | refine am_kn am_q2 ?_ | refine am_kn am_q3 ?_ | refine am_kn am_q4 ?_ | refine am_kn am_q6 ?_ | refine am_kn am_q9 ?_ | refine am_kn am_p1 ?_ | refine am_ky am_p0 ?_) | refine And.intro (fun h => absurd h (by decide)) (fun _ => ?_) | refine And.intro (fun _ => ?_) (fun h => absurd (by decide) h) | refine And.intro (fun _ => ?_) (fun _ => ?_) | refine And.intro ?_ ?_)
    | refine k _ _ ?_ ?_
    | ((with_reducible refine (?_ : am_Does _ 41 _ _ _)); refine v_full_X3_48 (ν := μ) ?_ (fun _ => ?_) (fun _ => ?_))
    | ((with_reducible refine (?_ : am_Does _ 42 _ _ _)); refine v_putE_X3_48 _ ?_ ?_ ?_)
    | ((with_reducible refine (?_ : am_Does _ 113 _ _ _)); refine w_refuse_X6 _ (gv_i (E := [48, 49]) (ν := μ) (by repeat' first | assumption | exact gv_rf hS | refine gv_up ?_ rfl rfl | refine gv_sx ?_ (by assumption))) ?_ ?_ (fun _ _ _ => ?_))
    | refine And.intro (fun h => absurd h (by decide)) (fun _ => ?_)
    | refine And.intro (fun _ => ?_) (fun h => absurd (by decide) h)
    | refine And.intro (fun _ => ?_) (fun _ => ?_)
    | refine And.intro ?_ ?_
  all_goals (first | (with_reducible assumption) | decide | omega | assumption | (subst_vars; simp [am_upS] at * <;> omega) | (intros; omega) | (simp only [am_c, am_up] at * <;> omega) | (simp [am_c, am_up] at * <;> omega))
theorem v_clear_X6 {l : Launch} {μ : am_N} {Q : Option am_V → am_N → Prop}  (hS : sx μ μ)  (k : ∀ r μ', gv [44] μ μ' → r = μ 44 1 → μ' 44 1 = 0 → Q (some (.inl r)) μ') : am_Does l 88 [.inr (.inr 0)] μ Q := by
  refine am_Does_of (Nat.le_of_ble_eq_true rfl) (Nat.le_of_ble_eq_true rfl) (Nat.le_of_ble_eq_true rfl) ?_
  have hb := sx_all hS
  refine am_go (ct := fun _ => false) am_oX6_clear 300 ?_
  conv => whnf
  repeat' first
    | (refine (?_ : am_wp _ _ _ _ _ _ _ _ _ _ _ _); conv => whnf)
    | (refine (?_ : am_sw _ _ _ _); conv => whnf)
    | refine And.intro trivial ?_
    | exact trivial
    | (with_reducible assumption)
    | refine gv_up ?_ rfl rfl
    | refine gv_b1 ?_ rfl ?_
    | refine gv_b22 ?_ rfl ?_
    | refine gv_b36 ?_ rfl ?_
    | refine gv_b44 ?_ rfl ?_
    | refine gv_b46 ?_ rfl ?_
    | refine gv_b48 ?_ rfl ?_
    | refine gv_b50 ?_ rfl ?_
    | refine gv_b53 ?_ rfl ?_
    | refine gv_b55 ?_ rfl ?_
    | refine gv_b58 ?_ rfl ?_
    | refine gv_b60 ?_ rfl ?_
    | refine gv_b62 ?_ rfl ?_
    | exact gv_rf hS
    | refine gv_sx ?_ (by assumption)
    | exact hS
    | ((with_reducible refine (?_ : _ ∧ _)); first | (with_reducible first | refine am_jn am_q1 ?_ | refine am_jn am_q2 ?_ | refine am_jn am_q3 ?_ | refine am_jn am_q4 ?_ | refine am_jn am_q6 ?_ | refine am_jn am_q9 ?_ | refine am_jn am_p1 ?_ | refine am_jy am_p0 ?_ | refine am_kn am_q1 ?_ | refine am_kn am_q2 ?_ | refine am_kn am_q3 ?_ | refine am_kn am_q4 ?_ | refine am_kn am_q6 ?_ | refine am_kn am_q9 ?_ | refine am_kn am_p1 ?_ | refine am_ky am_p0 ?_) | refine And.intro (fun h => absurd h (by decide)) (fun _ => ?_) | refine And.intro (fun _ => ?_) (fun h => absurd (by decide) h) | refine And.intro (fun _ => ?_) (fun _ => ?_) | refine And.intro ?_ ?_)
    | refine k _ _ ?_ ?_ ?_
    | ((with_reducible refine (?_ : am_Does _ 44 _ _ _)); refine v_drop_X3_44 ?_)
    | refine And.intro (fun h => absurd h (by decide)) (fun _ => ?_)
    | refine And.intro (fun _ => ?_) (fun h => absurd (by decide) h)
    | refine And.intro (fun _ => ?_) (fun _ => ?_)
    | refine And.intro ?_ ?_
  all_goals (first | (with_reducible assumption) | decide | omega | assumption | (subst_vars; simp [am_upS] at * <;> omega) | (intros; omega) | (simp only [am_c, am_up] at * <;> omega) | (simp [am_c, am_up] at * <;> omega))
theorem v_wipe_X6 {l : Launch} {μ : am_N} {Q : Option am_V → am_N → Prop}  (hS : sx μ μ)  (k : ∀ r μ', gv [46] μ μ' → r = μ 46 1 → μ' 46 1 = 0 → Q (some (.inl r)) μ') : am_Does l 109 [.inr (.inr 0)] μ Q := by
  refine am_Does_of (Nat.le_of_ble_eq_true rfl) (Nat.le_of_ble_eq_true rfl) (Nat.le_of_ble_eq_true rfl) ?_
  have hb := sx_all hS
  refine am_go (ct := fun _ => false) am_oX6_wipe 300 ?_
  conv => whnf
  repeat' first
    | (refine (?_ : am_wp _ _ _ _ _ _ _ _ _ _ _ _); conv => whnf)
    | (refine (?_ : am_sw _ _ _ _); conv => whnf)
    | refine And.intro trivial ?_
    | exact trivial
    | (with_reducible assumption)
    | refine gv_up ?_ rfl rfl
    | refine gv_b1 ?_ rfl ?_
    | refine gv_b22 ?_ rfl ?_
    | refine gv_b36 ?_ rfl ?_
    | refine gv_b44 ?_ rfl ?_
    | refine gv_b46 ?_ rfl ?_
    | refine gv_b48 ?_ rfl ?_
    | refine gv_b50 ?_ rfl ?_
    | refine gv_b53 ?_ rfl ?_
    | refine gv_b55 ?_ rfl ?_
    | refine gv_b58 ?_ rfl ?_
    | refine gv_b60 ?_ rfl ?_
    | refine gv_b62 ?_ rfl ?_
    | exact gv_rf hS
    | refine gv_sx ?_ (by assumption)
    | exact hS
    | ((with_reducible refine (?_ : _ ∧ _)); first | (with_reducible first | refine am_jn am_q1 ?_ | refine am_jn am_q2 ?_ | refine am_jn am_q3 ?_ | refine am_jn am_q4 ?_ | refine am_jn am_q6 ?_ | refine am_jn am_q9 ?_ | refine am_jn am_p1 ?_ | refine am_jy am_p0 ?_ | refine am_kn am_q1 ?_ | refine am_kn am_q2 ?_ | refine am_kn am_q3 ?_ | refine am_kn am_q4 ?_ | refine am_kn am_q6 ?_ | refine am_kn am_q9 ?_ | refine am_kn am_p1 ?_ | refine am_ky am_p0 ?_) | refine And.intro (fun h => absurd h (by decide)) (fun _ => ?_) | refine And.intro (fun _ => ?_) (fun h => absurd (by decide) h) | refine And.intro (fun _ => ?_) (fun _ => ?_) | refine And.intro ?_ ?_)
    | refine k _ _ ?_ ?_ ?_
    | ((with_reducible refine (?_ : am_Does _ 44 _ _ _)); refine v_drop_X3_46 ?_)
    | refine And.intro (fun h => absurd h (by decide)) (fun _ => ?_)
    | refine And.intro (fun _ => ?_) (fun h => absurd (by decide) h)
    | refine And.intro (fun _ => ?_) (fun _ => ?_)
    | refine And.intro ?_ ?_
  all_goals (first | (with_reducible assumption) | decide | omega | assumption | (subst_vars; simp [am_upS] at * <;> omega) | (intros; omega) | (simp only [am_c, am_up] at * <;> omega) | (simp [am_c, am_up] at * <;> omega))
theorem v_empty_X6 {l : Launch} {μ : am_N} {Q : Option am_V → am_N → Prop}  (hS : sx μ μ)  (k : ∀ r μ', gv [48] μ μ' → r = μ 48 1 → μ' 48 1 = 0 → Q (some (.inl r)) μ') : am_Does l 92 [.inr (.inr 0)] μ Q := by
  refine am_Does_of (Nat.le_of_ble_eq_true rfl) (Nat.le_of_ble_eq_true rfl) (Nat.le_of_ble_eq_true rfl) ?_
  have hb := sx_all hS
  refine am_go (ct := fun _ => false) am_oX6_empty 300 ?_
  conv => whnf
  repeat' first
    | (refine (?_ : am_wp _ _ _ _ _ _ _ _ _ _ _ _); conv => whnf)
    | (refine (?_ : am_sw _ _ _ _); conv => whnf)
    | refine And.intro trivial ?_
    | exact trivial
    | (with_reducible assumption)
    | refine gv_up ?_ rfl rfl
    | refine gv_b1 ?_ rfl ?_
    | refine gv_b22 ?_ rfl ?_
    | refine gv_b36 ?_ rfl ?_
    | refine gv_b44 ?_ rfl ?_
    | refine gv_b46 ?_ rfl ?_
    | refine gv_b48 ?_ rfl ?_
    | refine gv_b50 ?_ rfl ?_
    | refine gv_b53 ?_ rfl ?_
    | refine gv_b55 ?_ rfl ?_
    | refine gv_b58 ?_ rfl ?_
    | refine gv_b60 ?_ rfl ?_
    | refine gv_b62 ?_ rfl ?_
    | exact gv_rf hS
    | refine gv_sx ?_ (by assumption)
    | exact hS
    | ((with_reducible refine (?_ : _ ∧ _)); first | (with_reducible first | refine am_jn am_q1 ?_ | refine am_jn am_q2 ?_ | refine am_jn am_q3 ?_ | refine am_jn am_q4 ?_ | refine am_jn am_q6 ?_ | refine am_jn am_q9 ?_ | refine am_jn am_p1 ?_ | refine am_jy am_p0 ?_ | refine am_kn am_q1 ?_ | refine am_kn am_q2 ?_ | refine am_kn am_q3 ?_ | refine am_kn am_q4 ?_ | refine am_kn am_q6 ?_ | refine am_kn am_q9 ?_ | refine am_kn am_p1 ?_ | refine am_ky am_p0 ?_) | refine And.intro (fun h => absurd h (by decide)) (fun _ => ?_) | refine And.intro (fun _ => ?_) (fun h => absurd (by decide) h) | refine And.intro (fun _ => ?_) (fun _ => ?_) | refine And.intro ?_ ?_)
    | refine k _ _ ?_ ?_ ?_
    | ((with_reducible refine (?_ : am_Does _ 44 _ _ _)); refine v_drop_X3_48 ?_)
    | refine And.intro (fun h => absurd h (by decide)) (fun _ => ?_)
    | refine And.intro (fun _ => ?_) (fun h => absurd (by decide) h)
    | refine And.intro (fun _ => ?_) (fun _ => ?_)
    | refine And.intro ?_ ?_
  all_goals (first | (with_reducible assumption) | decide | omega | assumption | (subst_vars; simp [am_upS] at * <;> omega) | (intros; omega) | (simp only [am_c, am_up] at * <;> omega) | (simp [am_c, am_up] at * <;> omega))
theorem v_habit_X6 {l : Launch} {μ : am_N} {Q : Option am_V → am_N → Prop} (a b : Int) (hS : sx μ μ) (ha0 : -2147483648 ≤ a) (ha1 : a ≤ 2147483647) (hb0 : -2147483648 ≤ b) (hb1 : b ≤ 2147483647) (k : ∀ r μ', gv [52, 53, 54, 55, 56] μ μ' → Q (some (.inl r)) μ') : am_Does l 103 [.inr (.inr 0), .inl a, .inl b] μ Q := by
  refine am_Does_of (Nat.le_of_ble_eq_true rfl) (Nat.le_of_ble_eq_true rfl) (Nat.le_of_ble_eq_true rfl) ?_
  have hb := sx_all hS
  refine am_go (ct := fun _ => false) am_oX6_habit 300 ?_
  conv => whnf
  repeat' first
    | (refine (?_ : am_wp _ _ _ _ _ _ _ _ _ _ _ _); conv => whnf)
    | (refine (?_ : am_sw _ _ _ _); conv => whnf)
    | refine And.intro trivial ?_
    | exact trivial
    | (with_reducible assumption)
    | refine gv_up ?_ rfl rfl
    | refine gv_b1 ?_ rfl ?_
    | refine gv_b22 ?_ rfl ?_
    | refine gv_b36 ?_ rfl ?_
    | refine gv_b44 ?_ rfl ?_
    | refine gv_b46 ?_ rfl ?_
    | refine gv_b48 ?_ rfl ?_
    | refine gv_b50 ?_ rfl ?_
    | refine gv_b53 ?_ rfl ?_
    | refine gv_b55 ?_ rfl ?_
    | refine gv_b58 ?_ rfl ?_
    | refine gv_b60 ?_ rfl ?_
    | refine gv_b62 ?_ rfl ?_
    | exact gv_rf hS
    | refine gv_sx ?_ (by assumption)
    | exact hS
    | ((with_reducible refine (?_ : _ ∧ _)); first | (with_reducible first | refine am_jn am_q1 ?_ | refine am_jn am_q2 ?_ | refine am_jn am_q3 ?_ | refine am_jn am_q4 ?_ | refine am_jn am_q6 ?_ | refine am_jn am_q9 ?_ | refine am_jn am_p1 ?_ | refine am_jy am_p0 ?_ | refine am_kn am_q1 ?_ | refine am_kn am_q2 ?_ | refine am_kn am_q3 ?_ | refine am_kn am_q4 ?_ | refine am_kn am_q6 ?_ | refine am_kn am_q9 ?_ | refine am_kn am_p1 ?_ | refine am_ky am_p0 ?_) | refine And.intro (fun h => absurd h (by decide)) (fun _ => ?_) | refine And.intro (fun _ => ?_) (fun h => absurd (by decide) h) | refine And.intro (fun _ => ?_) (fun _ => ?_) | refine And.intro ?_ ?_)
    | refine k _ _ ?_
    | ((with_reducible refine (?_ : am_Does _ 16 _ _ _)); refine v_put_X1 (ν := μ) _ _ ?_  (fun _ _ _ => ?_))
    | ((with_reducible refine (?_ : am_Does _ 41 _ _ _)); refine v_full_X3_53 (ν := μ) ?_ (fun _ => ?_) (fun _ => ?_))
    | ((with_reducible refine (?_ : am_Does _ 113 _ _ _)); refine w_refuse_X6 _ (gv_i (E := [52, 53, 54, 55, 56]) (ν := μ) (by repeat' first | assumption | exact gv_rf hS | refine gv_up ?_ rfl rfl | refine gv_sx ?_ (by assumption))) ?_ ?_ (fun _ _ _ => ?_))
    | refine And.intro (fun h => absurd h (by decide)) (fun _ => ?_)
    | refine And.intro (fun _ => ?_) (fun h => absurd (by decide) h)
    | refine And.intro (fun _ => ?_) (fun _ => ?_)
    | refine And.intro ?_ ?_
  all_goals (first | (with_reducible assumption) | decide | omega | assumption | (subst_vars; simp [am_upS] at * <;> omega) | (intros; omega) | (simp only [am_c, am_up] at * <;> omega) | (simp [am_c, am_up] at * <;> omega))
theorem v_forget_X6 {l : Launch} {μ : am_N} {Q : Option am_V → am_N → Prop}  (hS : sx μ μ)  (k : ∀ r μ', gv [53, 55] μ μ' → Q (some (.inl r)) μ') : am_Does l 104 [.inr (.inr 0)] μ Q := by
  refine am_Does_of (Nat.le_of_ble_eq_true rfl) (Nat.le_of_ble_eq_true rfl) (Nat.le_of_ble_eq_true rfl) ?_
  have hb := sx_all hS
  refine am_go (ct := fun _ => false) am_oX6_forget 300 ?_
  conv => whnf
  repeat' first
    | (refine (?_ : am_wp _ _ _ _ _ _ _ _ _ _ _ _); conv => whnf)
    | (refine (?_ : am_sw _ _ _ _); conv => whnf)
    | refine And.intro trivial ?_
    | exact trivial
    | (with_reducible assumption)
    | refine gv_up ?_ rfl rfl
    | refine gv_b1 ?_ rfl ?_
    | refine gv_b22 ?_ rfl ?_
    | refine gv_b36 ?_ rfl ?_
    | refine gv_b44 ?_ rfl ?_
    | refine gv_b46 ?_ rfl ?_
    | refine gv_b48 ?_ rfl ?_
    | refine gv_b50 ?_ rfl ?_
    | refine gv_b53 ?_ rfl ?_
    | refine gv_b55 ?_ rfl ?_
    | refine gv_b58 ?_ rfl ?_
    | refine gv_b60 ?_ rfl ?_
    | refine gv_b62 ?_ rfl ?_
    | exact gv_rf hS
    | refine gv_sx ?_ (by assumption)
    | exact hS
    | ((with_reducible refine (?_ : _ ∧ _)); first | (with_reducible first | refine am_jn am_q1 ?_ | refine am_jn am_q2 ?_ | refine am_jn am_q3 ?_ | refine am_jn am_q4 ?_ | refine am_jn am_q6 ?_ | refine am_jn am_q9 ?_ | refine am_jn am_p1 ?_ | refine am_jy am_p0 ?_ | refine am_kn am_q1 ?_ | refine am_kn am_q2 ?_ | refine am_kn am_q3 ?_ | refine am_kn am_q4 ?_ | refine am_kn am_q6 ?_ | refine am_kn am_q9 ?_ | refine am_kn am_p1 ?_ | refine am_ky am_p0 ?_) | refine And.intro (fun h => absurd h (by decide)) (fun _ => ?_) | refine And.intro (fun _ => ?_) (fun h => absurd (by decide) h) | refine And.intro (fun _ => ?_) (fun _ => ?_) | refine And.intro ?_ ?_)
    | refine k _ _ ?_
    | ((with_reducible refine (?_ : am_Does _ 17 _ _ _)); refine v_drop_X1 (ν := μ)  ?_  (fun _ _ _ => ?_))
    | refine And.intro (fun h => absurd h (by decide)) (fun _ => ?_)
    | refine And.intro (fun _ => ?_) (fun h => absurd (by decide) h)
    | refine And.intro (fun _ => ?_) (fun _ => ?_)
    | refine And.intro ?_ ?_
  all_goals (first | (with_reducible assumption) | decide | omega | assumption | (subst_vars; simp [am_upS] at * <;> omega) | (intros; omega) | (simp only [am_c, am_up] at * <;> omega) | (simp [am_c, am_up] at * <;> omega))
theorem v_judge_X6 {l : Launch} {μ : am_N} {Q : Option am_V → am_N → Prop}  (hS : sx μ μ)  (k : ∀ r μ', gv [44] μ μ' → μ' 44 1 = 0 → Q (some (.inl r)) μ') : am_Does l 87 [.inr (.inr 0)] μ Q := by
  refine am_Does_of (Nat.le_of_ble_eq_true rfl) (Nat.le_of_ble_eq_true rfl) (Nat.le_of_ble_eq_true rfl) ?_
  have hb := sx_all hS
  refine am_go (ct := fun _ => false) am_oX6_judge 300 ?_
  conv => whnf
  repeat' first
    | (refine (?_ : am_wp _ _ _ _ _ _ _ _ _ _ _ _); conv => whnf)
    | (refine (?_ : am_sw _ _ _ _); conv => whnf)
    | refine And.intro trivial ?_
    | exact trivial
    | (with_reducible assumption)
    | refine gv_up ?_ rfl rfl
    | refine gv_b1 ?_ rfl ?_
    | refine gv_b22 ?_ rfl ?_
    | refine gv_b36 ?_ rfl ?_
    | refine gv_b44 ?_ rfl ?_
    | refine gv_b46 ?_ rfl ?_
    | refine gv_b48 ?_ rfl ?_
    | refine gv_b50 ?_ rfl ?_
    | refine gv_b53 ?_ rfl ?_
    | refine gv_b55 ?_ rfl ?_
    | refine gv_b58 ?_ rfl ?_
    | refine gv_b60 ?_ rfl ?_
    | refine gv_b62 ?_ rfl ?_
    | exact gv_rf hS
    | refine gv_sx ?_ (by assumption)
    | exact hS
    | ((with_reducible refine (?_ : _ ∧ _)); first | (with_reducible first | refine am_jn am_q1 ?_ | refine am_jn am_q2 ?_ | refine am_jn am_q3 ?_ | refine am_jn am_q4 ?_ | refine am_jn am_q6 ?_ | refine am_jn am_q9 ?_ | refine am_jn am_p1 ?_ | refine am_jy am_p0 ?_ | refine am_kn am_q1 ?_ | refine am_kn am_q2 ?_ | refine am_kn am_q3 ?_ | refine am_kn am_q4 ?_ | refine am_kn am_q6 ?_ | refine am_kn am_q9 ?_ | refine am_kn am_p1 ?_ | refine am_ky am_p0 ?_) | refine And.intro (fun h => absurd h (by decide)) (fun _ => ?_) | refine And.intro (fun _ => ?_) (fun h => absurd (by decide) h) | refine And.intro (fun _ => ?_) (fun _ => ?_) | refine And.intro ?_ ?_)
    | refine k _ _ ?_ ?_
    | ((with_reducible refine (?_ : am_Does _ 44 _ _ _)); refine v_drop_X3_44 ?_)
    | ((with_reducible refine (?_ : am_Does _ 2 _ _ _)); first | ((with_reducible refine (?_ : am_Does _ 2 (Sum.inr (Sum.inr 8) :: Sum.inr (Sum.inr 1) :: _) _ _)); refine w_take_X0_8_1  (gv_i (E := [44]) (ν := μ) (by repeat' first | assumption | exact gv_rf hS | refine gv_up ?_ rfl rfl | refine gv_sx ?_ (by assumption)))  (fun _ _ => ?_)) | ((with_reducible refine (?_ : am_Does _ 2 (Sum.inr (Sum.inr 15) :: Sum.inr (Sum.inr 8) :: _) _ _)); refine w_take_X0_15_8  (gv_i (E := [44]) (ν := μ) (by repeat' first | assumption | exact gv_rf hS | refine gv_up ?_ rfl rfl | refine gv_sx ?_ (by assumption)))  (fun _ _ => ?_)) | refine w_take_X0_8_1  (gv_i (E := [44]) (ν := μ) (by repeat' first | assumption | exact gv_rf hS | refine gv_up ?_ rfl rfl | refine gv_sx ?_ (by assumption)))  (fun _ _ => ?_) | refine w_take_X0_15_8  (gv_i (E := [44]) (ν := μ) (by repeat' first | assumption | exact gv_rf hS | refine gv_up ?_ rfl rfl | refine gv_sx ?_ (by assumption)))  (fun _ _ => ?_))
    | ((with_reducible refine (?_ : am_Does _ 130 _ _ _)); refine w_firstNotSo_X6  (gv_i (E := [44]) (ν := μ) (by repeat' first | assumption | exact gv_rf hS | refine gv_up ?_ rfl rfl | refine gv_sx ?_ (by assumption)))  (fun _ _ _ => ?_))
    | refine And.intro (fun h => absurd h (by decide)) (fun _ => ?_)
    | refine And.intro (fun _ => ?_) (fun h => absurd (by decide) h)
    | refine And.intro (fun _ => ?_) (fun _ => ?_)
    | refine And.intro ?_ ?_
  all_goals (first | (with_reducible assumption) | decide | omega | assumption | (subst_vars; simp [am_upS] at * <;> omega) | (intros; omega) | (simp only [am_c, am_up] at * <;> omega) | (simp [am_c, am_up] at * <;> omega))
/-! contracts: the system's public questions (weak) -/
theorem am_t99n : ∀ n : Nat, n < 51 → 5 ≤ n → 1 ≤ (99 : Int).tdiv (n : Int) ∧ (99 : Int).tdiv (n : Int) ≤ 19 := by decide +kernel
theorem am_t99 (x : Int) : 5 ≤ x → x ≤ 50 → (1 ≤ (am_c 99).tdiv x ∧ (am_c 99).tdiv x ≤ 19) := fun h1 h2 => by
  obtain ⟨n, rfl⟩ := Int.eq_ofNat_of_zero_le (show 0 ≤ x by omega)
  rw [show am_c 99 = 99 by decide]
  exact am_t99n n (by omega) (by omega)
theorem w_order_X6 {l : Launch} {μ : am_N} {Q : Option am_V → am_N → Prop} {ν : am_N}  (hS : sx ν μ)  (k : ∀ r μ', sx ν μ' → Q (some (.inl r)) μ') : am_Does l 68 [.inr (.inr 0)] μ Q := by
  refine am_Does_of (Nat.le_of_ble_eq_true rfl) (Nat.le_of_ble_eq_true rfl) (Nat.le_of_ble_eq_true rfl) ?_
  have hb := sx_all hS
  refine am_go (ct := fun _ => false) am_oX6_order 300 ?_
  conv => whnf
  repeat' first
    | (refine (?_ : am_wp _ _ _ _ _ _ _ _ _ _ _ _); conv => whnf)
    | (refine (?_ : am_sw _ _ _ _); conv => whnf)
    | refine And.intro trivial ?_
    | exact trivial
    | (with_reducible assumption)
    | ((with_reducible refine (?_ : _ ∧ _)); first | (with_reducible first | refine am_jn am_q1 ?_ | refine am_jn am_q2 ?_ | refine am_jn am_q3 ?_ | refine am_jn am_q4 ?_ | refine am_jn am_q6 ?_ | refine am_jn am_q9 ?_ | refine am_jn am_p1 ?_ | refine am_jy am_p0 ?_ | refine am_kn am_q1 ?_ | refine am_kn am_q2 ?_ | refine am_kn am_q3 ?_ | refine am_kn am_q4 ?_ | refine am_kn am_q6 ?_ | refine am_kn am_q9 ?_ | refine am_kn am_p1 ?_ | refine am_ky am_p0 ?_) | refine And.intro (fun h => absurd h (by decide)) (fun _ => ?_) | refine And.intro (fun _ => ?_) (fun h => absurd (by decide) h) | refine And.intro (fun _ => ?_) (fun _ => ?_) | refine And.intro ?_ ?_)
    | refine k _ _ ?_
    | refine sx_up ?_ rfl
    | ((with_reducible refine (?_ : am_Does _ 33 _ _ _)); first | ((with_reducible refine (?_ : am_Does _ 33 (Sum.inr (Sum.inr 29) :: Sum.inr (Sum.inr 1) :: _) _ _)); refine w_asRule_X2_29_1 (ν := ν)  ?_  (fun _ _ => ?_)) | ((with_reducible refine (?_ : am_Does _ 33 (Sum.inr (Sum.inr 29) :: Sum.inr (Sum.inr 8) :: _) _ _)); refine w_asRule_X2_29_8 (ν := ν)  ?_  (fun _ _ => ?_)) | ((with_reducible refine (?_ : am_Does _ 33 (Sum.inr (Sum.inr 29) :: Sum.inr (Sum.inr 15) :: _) _ _)); refine w_asRule_X2_29_15 (ν := ν)  ?_  (fun _ _ => ?_)) | ((with_reducible refine (?_ : am_Does _ 33 (Sum.inr (Sum.inr 38) :: Sum.inr (Sum.inr 8) :: _) _ _)); refine w_asRule_X2_38_8 (ν := ν)  ?_  (fun _ _ => ?_)) | refine w_asRule_X2_29_1 (ν := ν)  ?_  (fun _ _ => ?_) | refine w_asRule_X2_29_8 (ν := ν)  ?_  (fun _ _ => ?_) | refine w_asRule_X2_29_15 (ν := ν)  ?_  (fun _ _ => ?_) | refine w_asRule_X2_38_8 (ν := ν)  ?_  (fun _ _ => ?_))
    | ((with_reducible refine (?_ : am_Does _ 40 _ _ _)); refine w_digits_X2_29 (ν := ν)  ?_  (fun _ => ?_))
    | refine And.intro (fun h => absurd h (by decide)) (fun _ => ?_)
    | refine And.intro (fun _ => ?_) (fun h => absurd (by decide) h)
    | refine And.intro (fun _ => ?_) (fun _ => ?_)
    | refine And.intro ?_ ?_
  all_goals (first | (with_reducible assumption) | decide | omega | assumption | (intros; omega) | (intros; simp only [am_c] at * <;> omega) | (simp only [am_c, am_up] at * <;> omega) | (simp [am_c, am_up] at * <;> omega))
theorem w_likely_X6 {l : Launch} {μ : am_N} {Q : Option am_V → am_N → Prop} {ν : am_N} (a b : Int) (hS : sx ν μ) (ha0 : -2147483648 ≤ a) (ha1 : a ≤ 2147483647) (hb0 : -2147483648 ≤ b) (hb1 : b ≤ 2147483647) (k : ∀ r μ', sx ν μ' → Q (some (.inr (.inl r))) μ') : am_Does l 69 [.inr (.inr 0), .inl a, .inl b] μ Q := by
  refine am_Does_of (Nat.le_of_ble_eq_true rfl) (Nat.le_of_ble_eq_true rfl) (Nat.le_of_ble_eq_true rfl) ?_
  have hb := sx_all hS
  refine am_go (ct := fun _ => false) am_oX6_likely 300 ?_
  conv => whnf
  repeat' first
    | (refine (?_ : am_wp _ _ _ _ _ _ _ _ _ _ _ _); conv => whnf)
    | (refine (?_ : am_sw _ _ _ _); conv => whnf)
    | refine And.intro trivial ?_
    | exact trivial
    | (with_reducible assumption)
    | ((with_reducible refine (?_ : _ ∧ _)); first | (with_reducible first | refine am_jn am_q1 ?_ | refine am_jn am_q2 ?_ | refine am_jn am_q3 ?_ | refine am_jn am_q4 ?_ | refine am_jn am_q6 ?_ | refine am_jn am_q9 ?_ | refine am_jn am_p1 ?_ | refine am_jy am_p0 ?_ | refine am_kn am_q1 ?_ | refine am_kn am_q2 ?_ | refine am_kn am_q3 ?_ | refine am_kn am_q4 ?_ | refine am_kn am_q6 ?_ | refine am_kn am_q9 ?_ | refine am_kn am_p1 ?_ | refine am_ky am_p0 ?_) | refine And.intro (fun h => absurd h (by decide)) (fun _ => ?_) | refine And.intro (fun _ => ?_) (fun h => absurd (by decide) h) | refine And.intro (fun _ => ?_) (fun _ => ?_) | refine And.intro ?_ ?_)
    | refine k _ _ ?_
    | refine sx_up ?_ rfl
    | ((with_reducible refine (?_ : am_Does _ 1 _ _ _)); first | ((with_reducible refine (?_ : am_Does _ 1 (Sum.inr (Sum.inr 1) :: _) _ _)); refine w_has_X0_1 (ν := ν) _ ?_ (fun _ _ _ => ?_) (fun _ => ?_)) | ((with_reducible refine (?_ : am_Does _ 1 (Sum.inr (Sum.inr 8) :: _) _ _)); refine w_has_X0_8 (ν := ν) _ ?_ (fun _ _ _ => ?_) (fun _ => ?_)) | ((with_reducible refine (?_ : am_Does _ 1 (Sum.inr (Sum.inr 15) :: _) _ _)); refine w_has_X0_15 (ν := ν) _ ?_ (fun _ _ _ => ?_) (fun _ => ?_)) | refine w_has_X0_1 (ν := ν) _ ?_ (fun _ _ _ => ?_) (fun _ => ?_) | refine w_has_X0_8 (ν := ν) _ ?_ (fun _ _ _ => ?_) (fun _ => ?_) | refine w_has_X0_15 (ν := ν) _ ?_ (fun _ _ _ => ?_) (fun _ => ?_))
    | ((with_reducible refine (?_ : am_Does _ 115 _ _ _)); refine w_refuseLong_X6 (ν := ν) _ ?_ ?_ ?_ (fun _ _ _ => ?_))
    | ((with_reducible refine (?_ : am_Does _ 116 _ _ _)); refine w_noPart_X6 _ ?_ (fun _ => ?_))
    | ((with_reducible refine (?_ : am_Does _ 21 _ _ _)); first | ((with_reducible refine (?_ : am_Does _ 21 (Sum.inr (Sum.inr 29) :: Sum.inr (Sum.inr 1) :: _) _ _)); refine w_draw_X2_29_1 (ν := ν)  ?_  (fun _ _ => ?_)) | ((with_reducible refine (?_ : am_Does _ 21 (Sum.inr (Sum.inr 29) :: Sum.inr (Sum.inr 8) :: _) _ _)); refine w_draw_X2_29_8 (ν := ν)  ?_  (fun _ _ => ?_)) | ((with_reducible refine (?_ : am_Does _ 21 (Sum.inr (Sum.inr 29) :: Sum.inr (Sum.inr 15) :: _) _ _)); refine w_draw_X2_29_15 (ν := ν)  ?_  (fun _ _ => ?_)) | refine w_draw_X2_29_1 (ν := ν)  ?_  (fun _ _ => ?_) | refine w_draw_X2_29_8 (ν := ν)  ?_  (fun _ _ => ?_) | refine w_draw_X2_29_15 (ν := ν)  ?_  (fun _ _ => ?_))
    | ((with_reducible refine (?_ : am_Does _ 24 _ _ _)); refine w_ways_X2_29 (ν := ν) _ ?_  (fun _ => ?_))
    | ((with_reducible refine (?_ : am_Does _ 23 _ _ _)); refine w_allWays_X2_29 (ν := ν)  ?_  (fun _ => ?_))
    | ((with_reducible refine (?_ : am_Does _ 118 _ _ _)); refine w_fraction_X6 (ν := ν) _ _ _ ?_  (fun _ => ?_))
    | refine And.intro (fun h => absurd h (by decide)) (fun _ => ?_)
    | refine And.intro (fun _ => ?_) (fun h => absurd (by decide) h)
    | refine And.intro (fun _ => ?_) (fun _ => ?_)
    | refine And.intro ?_ ?_
  all_goals (first | (with_reducible assumption) | decide | omega | assumption | (intros; omega) | (intros; simp only [am_c] at * <;> omega) | (simp only [am_c, am_up] at * <;> omega) | (simp [am_c, am_up] at * <;> omega))
theorem w_ordered_X6 {l : Launch} {μ : am_N} {Q : Option am_V → am_N → Prop} {ν : am_N} (a b : Int) (hS : sx ν μ) (ha0 : -2147483648 ≤ a) (ha1 : a ≤ 2147483647) (hb0 : -2147483648 ≤ b) (hb1 : b ≤ 2147483647) (k : ∀ r μ', sx ν μ' → Q (some (.inr (.inl r))) μ') : am_Does l 70 [.inr (.inr 0), .inl a, .inl b] μ Q := by
  refine am_Does_of (Nat.le_of_ble_eq_true rfl) (Nat.le_of_ble_eq_true rfl) (Nat.le_of_ble_eq_true rfl) ?_
  have hb := sx_all hS
  refine am_go (ct := fun _ => false) am_oX6_ordered 300 ?_
  conv => whnf
  repeat' first
    | (refine (?_ : am_wp _ _ _ _ _ _ _ _ _ _ _ _); conv => whnf)
    | (refine (?_ : am_sw _ _ _ _); conv => whnf)
    | refine And.intro trivial ?_
    | exact trivial
    | (with_reducible assumption)
    | ((with_reducible refine (?_ : _ ∧ _)); first | (with_reducible first | refine am_jn am_q1 ?_ | refine am_jn am_q2 ?_ | refine am_jn am_q3 ?_ | refine am_jn am_q4 ?_ | refine am_jn am_q6 ?_ | refine am_jn am_q9 ?_ | refine am_jn am_p1 ?_ | refine am_jy am_p0 ?_ | refine am_kn am_q1 ?_ | refine am_kn am_q2 ?_ | refine am_kn am_q3 ?_ | refine am_kn am_q4 ?_ | refine am_kn am_q6 ?_ | refine am_kn am_q9 ?_ | refine am_kn am_p1 ?_ | refine am_ky am_p0 ?_) | refine And.intro (fun h => absurd h (by decide)) (fun _ => ?_) | refine And.intro (fun _ => ?_) (fun h => absurd (by decide) h) | refine And.intro (fun _ => ?_) (fun _ => ?_) | refine And.intro ?_ ?_)
    | refine k _ _ ?_
    | refine sx_up ?_ rfl
    | ((with_reducible refine (?_ : am_Does _ 15 _ _ _)); refine w_eachOnce_X0_1 (ν := ν) _ ?_  (fun _ => ?_))
    | ((with_reducible refine (?_ : am_Does _ 115 _ _ _)); refine w_refuseLong_X6 (ν := ν) _ ?_ ?_ ?_ (fun _ _ _ => ?_))
    | ((with_reducible refine (?_ : am_Does _ 116 _ _ _)); refine w_noPart_X6 _ ?_ (fun _ => ?_))
    | ((with_reducible refine (?_ : am_Does _ 21 _ _ _)); first | ((with_reducible refine (?_ : am_Does _ 21 (Sum.inr (Sum.inr 29) :: Sum.inr (Sum.inr 1) :: _) _ _)); refine w_draw_X2_29_1 (ν := ν)  ?_  (fun _ _ => ?_)) | ((with_reducible refine (?_ : am_Does _ 21 (Sum.inr (Sum.inr 29) :: Sum.inr (Sum.inr 8) :: _) _ _)); refine w_draw_X2_29_8 (ν := ν)  ?_  (fun _ _ => ?_)) | ((with_reducible refine (?_ : am_Does _ 21 (Sum.inr (Sum.inr 29) :: Sum.inr (Sum.inr 15) :: _) _ _)); refine w_draw_X2_29_15 (ν := ν)  ?_  (fun _ _ => ?_)) | refine w_draw_X2_29_1 (ν := ν)  ?_  (fun _ _ => ?_) | refine w_draw_X2_29_8 (ν := ν)  ?_  (fun _ _ => ?_) | refine w_draw_X2_29_15 (ν := ν)  ?_  (fun _ _ => ?_))
    | ((with_reducible refine (?_ : am_Does _ 30 _ _ _)); refine w_waysOf_X2_29 (ν := ν) _ ?_  (fun _ _ _ => ?_))
    | ((with_reducible refine (?_ : am_Does _ 23 _ _ _)); refine w_allWays_X2_29 (ν := ν)  ?_  (fun _ => ?_))
    | ((with_reducible refine (?_ : am_Does _ 118 _ _ _)); refine w_fraction_X6 (ν := ν) _ _ _ ?_  (fun _ => ?_))
    | refine And.intro (fun h => absurd h (by decide)) (fun _ => ?_)
    | refine And.intro (fun _ => ?_) (fun h => absurd (by decide) h)
    | refine And.intro (fun _ => ?_) (fun _ => ?_)
    | refine And.intro ?_ ?_
  all_goals (first | (with_reducible assumption) | decide | omega | assumption | (intros; omega) | (intros; simp only [am_c] at * <;> omega) | (simp only [am_c, am_up] at * <;> omega) | (simp [am_c, am_up] at * <;> omega))
theorem w_close_X6 {l : Launch} {μ : am_N} {Q : Option am_V → am_N → Prop} {ν : am_N} (a b : Int) (hS : sx ν μ) (ha0 : -2147483648 ≤ a) (ha1 : a ≤ 2147483647) (hb0 : -2147483648 ≤ b) (hb1 : b ≤ 2147483647) (k : ∀ r μ', sx ν μ' → Q (some (.inr (.inl r))) μ') : am_Does l 71 [.inr (.inr 0), .inl a, .inl b] μ Q := by
  refine am_Does_of (Nat.le_of_ble_eq_true rfl) (Nat.le_of_ble_eq_true rfl) (Nat.le_of_ble_eq_true rfl) ?_
  have hb := sx_all hS
  refine am_go (ct := fun _ => false) am_oX6_close 300 ?_
  conv => whnf
  repeat' first
    | (refine (?_ : am_wp _ _ _ _ _ _ _ _ _ _ _ _); conv => whnf)
    | (refine (?_ : am_sw _ _ _ _); conv => whnf)
    | refine And.intro trivial ?_
    | exact trivial
    | (with_reducible assumption)
    | ((with_reducible refine (?_ : _ ∧ _)); first | (with_reducible first | refine am_jn am_q1 ?_ | refine am_jn am_q2 ?_ | refine am_jn am_q3 ?_ | refine am_jn am_q4 ?_ | refine am_jn am_q6 ?_ | refine am_jn am_q9 ?_ | refine am_jn am_p1 ?_ | refine am_jy am_p0 ?_ | refine am_kn am_q1 ?_ | refine am_kn am_q2 ?_ | refine am_kn am_q3 ?_ | refine am_kn am_q4 ?_ | refine am_kn am_q6 ?_ | refine am_kn am_q9 ?_ | refine am_kn am_p1 ?_ | refine am_ky am_p0 ?_) | refine And.intro (fun h => absurd h (by decide)) (fun _ => ?_) | refine And.intro (fun _ => ?_) (fun h => absurd (by decide) h) | refine And.intro (fun _ => ?_) (fun _ => ?_) | refine And.intro ?_ ?_)
    | refine k _ _ ?_
    | refine sx_up ?_ rfl
    | ((with_reducible refine (?_ : am_Does _ 116 _ _ _)); refine w_noPart_X6 _ ?_ (fun _ => ?_))
    | ((with_reducible refine (?_ : am_Does _ 115 _ _ _)); refine w_refuseLong_X6 (ν := ν) _ ?_ ?_ ?_ (fun _ _ _ => ?_))
    | ((with_reducible refine (?_ : am_Does _ 21 _ _ _)); first | ((with_reducible refine (?_ : am_Does _ 21 (Sum.inr (Sum.inr 29) :: Sum.inr (Sum.inr 1) :: _) _ _)); refine w_draw_X2_29_1 (ν := ν)  ?_  (fun _ _ => ?_)) | ((with_reducible refine (?_ : am_Does _ 21 (Sum.inr (Sum.inr 29) :: Sum.inr (Sum.inr 8) :: _) _ _)); refine w_draw_X2_29_8 (ν := ν)  ?_  (fun _ _ => ?_)) | ((with_reducible refine (?_ : am_Does _ 21 (Sum.inr (Sum.inr 29) :: Sum.inr (Sum.inr 15) :: _) _ _)); refine w_draw_X2_29_15 (ν := ν)  ?_  (fun _ _ => ?_)) | refine w_draw_X2_29_1 (ν := ν)  ?_  (fun _ _ => ?_) | refine w_draw_X2_29_8 (ν := ν)  ?_  (fun _ _ => ?_) | refine w_draw_X2_29_15 (ν := ν)  ?_  (fun _ _ => ?_))
    | ((with_reducible refine (?_ : am_Does _ 31 _ _ _)); refine w_gapInAllWays_X2_29 (ν := ν)  ?_  (fun _ _ _ => ?_))
    | ((with_reducible refine (?_ : am_Does _ 27 _ _ _)); refine w_uneven_X2_29 (ν := ν)  ?_  (fun _ => ?_))
    | ((with_reducible refine (?_ : am_Does _ 23 _ _ _)); refine w_allWays_X2_29 (ν := ν)  ?_  (fun _ => ?_))
    | ((with_reducible refine (?_ : am_Does _ 118 _ _ _)); refine w_fraction_X6 (ν := ν) _ _ _ ?_  (fun _ => ?_))
    | refine And.intro (fun h => absurd h (by decide)) (fun _ => ?_)
    | refine And.intro (fun _ => ?_) (fun h => absurd (by decide) h)
    | refine And.intro (fun _ => ?_) (fun _ => ?_)
    | refine And.intro ?_ ?_
  all_goals (first | (with_reducible assumption) | decide | omega | assumption | (intros; omega) | (intros; simp only [am_c] at * <;> omega) | (simp only [am_c, am_up] at * <;> omega) | (simp [am_c, am_up] at * <;> omega))
theorem w_sure_X6 {l : Launch} {μ : am_N} {Q : Option am_V → am_N → Prop} {ν : am_N} (a : Int) (hS : sx ν μ) (ha0 : -2147483648 ≤ a) (ha1 : a ≤ 2147483647) (k : ∀ r μ', sx ν μ' → Q (some (.inl r)) μ') : am_Does l 72 [.inr (.inr 0), .inl a] μ Q := by
  refine am_Does_of (Nat.le_of_ble_eq_true rfl) (Nat.le_of_ble_eq_true rfl) (Nat.le_of_ble_eq_true rfl) ?_
  have hb := sx_all hS
  have lp46 : ∀ (m : Nat) (w s i : Int) (μ : am_N) , sx ν μ → 0 ≤ i → i ≤ 4 → 4 - i < (m : Int) → am_AW l 0 (fun _ => 0) 72 Q 46 [some (.inr (.inr 0)), some (.inl a), some (.inl w), some (.inl s), some (.inl i)] [] μ := by
    intro m
    induction m with
    | zero =>
      intro w s i μ hv0 hv1 hv2 hm
      have hb := sx_all hv0
      exfalso
      omega
    | succ m ih =>
      intro w s i μ hv0 hv1 hv2 hm
      have hb := sx_all hv0
      refine am_go (ct := fun pc => Nat.beq pc 46) am_oX6_sure 300 ?_
      conv => whnf
      repeat' first
        | (refine (?_ : am_wp _ _ _ _ _ _ _ _ _ _ _ _); conv => whnf)
        | (refine (?_ : am_sw _ _ _ _); conv => whnf)
        | refine And.intro trivial ?_
        | exact trivial
        | (with_reducible assumption)
        | ((with_reducible refine (?_ : _ ∧ _)); first | (with_reducible first | refine am_jn am_q1 ?_ | refine am_jn am_q2 ?_ | refine am_jn am_q3 ?_ | refine am_jn am_q4 ?_ | refine am_jn am_q6 ?_ | refine am_jn am_q9 ?_ | refine am_jn am_p1 ?_ | refine am_jy am_p0 ?_ | refine am_kn am_q1 ?_ | refine am_kn am_q2 ?_ | refine am_kn am_q3 ?_ | refine am_kn am_q4 ?_ | refine am_kn am_q6 ?_ | refine am_kn am_q9 ?_ | refine am_kn am_p1 ?_ | refine am_ky am_p0 ?_) | refine And.intro (fun h => absurd h (by decide)) (fun _ => ?_) | refine And.intro (fun _ => ?_) (fun h => absurd (by decide) h) | refine And.intro (fun _ => ?_) (fun _ => ?_) | refine And.intro ?_ ?_)
        | refine k _ _ ?_
        | refine sx_up ?_ rfl
        | ((with_reducible refine (?_ : am_Does _ 116 _ _ _)); refine w_noPart_X6 _ ?_ (fun _ => ?_))
        | ((with_reducible refine (?_ : am_Does _ 113 _ _ _)); refine w_refuse_X6 (ν := ν) _ ?_ ?_ ?_ (fun _ _ _ => ?_))
        | ((with_reducible refine (?_ : am_Does _ 21 _ _ _)); first | ((with_reducible refine (?_ : am_Does _ 21 (Sum.inr (Sum.inr 29) :: Sum.inr (Sum.inr 1) :: _) _ _)); refine w_draw_X2_29_1 (ν := ν)  ?_  (fun _ _ => ?_)) | ((with_reducible refine (?_ : am_Does _ 21 (Sum.inr (Sum.inr 29) :: Sum.inr (Sum.inr 8) :: _) _ _)); refine w_draw_X2_29_8 (ν := ν)  ?_  (fun _ _ => ?_)) | ((with_reducible refine (?_ : am_Does _ 21 (Sum.inr (Sum.inr 29) :: Sum.inr (Sum.inr 15) :: _) _ _)); refine w_draw_X2_29_15 (ν := ν)  ?_  (fun _ _ => ?_)) | refine w_draw_X2_29_1 (ν := ν)  ?_  (fun _ _ => ?_) | refine w_draw_X2_29_8 (ν := ν)  ?_  (fun _ _ => ?_) | refine w_draw_X2_29_15 (ν := ν)  ?_  (fun _ _ => ?_))
        | ((with_reducible refine (?_ : am_Does _ 23 _ _ _)); refine w_allWays_X2_29 (ν := ν)  ?_  (fun _ => ?_))
        | ((with_reducible refine (?_ : am_Does _ 24 _ _ _)); refine w_ways_X2_29 (ν := ν) _ ?_  (fun _ => ?_))
        | ((with_reducible refine (?_ : am_AW _ _ _ _ _ 46 _ _ _)); refine ih _ _ _ _ ?_ ?_ ?_ ?_)
        | refine And.intro (fun h => absurd h (by decide)) (fun _ => ?_)
        | refine And.intro (fun _ => ?_) (fun h => absurd (by decide) h)
        | refine And.intro (fun _ => ?_) (fun _ => ?_)
        | refine And.intro ?_ ?_
      all_goals (first | (with_reducible assumption) | decide | omega | assumption | (intros; omega) | (intros; simp only [am_c] at * <;> omega) | (simp only [am_c, am_up] at * <;> omega) | (simp [am_c, am_up] at * <;> omega))
  have lp46' : ∀ (w s i : Int) (μ : am_N) , sx ν μ → 0 ≤ i → i ≤ 4 → am_AW l 0 (fun _ => 0) 72 Q 46 [some (.inr (.inr 0)), some (.inl a), some (.inl w), some (.inl s), some (.inl i)] [] μ := fun w s i μ hv0 hv1 hv2 => lp46 ((4 - i) + 1).toNat w s i μ hv0 hv1 hv2 (by omega)
  refine am_go (ct := fun pc => Nat.beq pc 46) am_oX6_sure 300 ?_
  conv => whnf
  repeat' first
    | (refine (?_ : am_wp _ _ _ _ _ _ _ _ _ _ _ _); conv => whnf)
    | (refine (?_ : am_sw _ _ _ _); conv => whnf)
    | refine And.intro trivial ?_
    | exact trivial
    | (with_reducible assumption)
    | ((with_reducible refine (?_ : _ ∧ _)); first | (with_reducible first | refine am_jn am_q1 ?_ | refine am_jn am_q2 ?_ | refine am_jn am_q3 ?_ | refine am_jn am_q4 ?_ | refine am_jn am_q6 ?_ | refine am_jn am_q9 ?_ | refine am_jn am_p1 ?_ | refine am_jy am_p0 ?_ | refine am_kn am_q1 ?_ | refine am_kn am_q2 ?_ | refine am_kn am_q3 ?_ | refine am_kn am_q4 ?_ | refine am_kn am_q6 ?_ | refine am_kn am_q9 ?_ | refine am_kn am_p1 ?_ | refine am_ky am_p0 ?_) | refine And.intro (fun h => absurd h (by decide)) (fun _ => ?_) | refine And.intro (fun _ => ?_) (fun h => absurd (by decide) h) | refine And.intro (fun _ => ?_) (fun _ => ?_) | refine And.intro ?_ ?_)
    | refine k _ _ ?_
    | refine sx_up ?_ rfl
    | ((with_reducible refine (?_ : am_Does _ 116 _ _ _)); refine w_noPart_X6 _ ?_ (fun _ => ?_))
    | ((with_reducible refine (?_ : am_Does _ 113 _ _ _)); refine w_refuse_X6 (ν := ν) _ ?_ ?_ ?_ (fun _ _ _ => ?_))
    | ((with_reducible refine (?_ : am_Does _ 21 _ _ _)); first | ((with_reducible refine (?_ : am_Does _ 21 (Sum.inr (Sum.inr 29) :: Sum.inr (Sum.inr 1) :: _) _ _)); refine w_draw_X2_29_1 (ν := ν)  ?_  (fun _ _ => ?_)) | ((with_reducible refine (?_ : am_Does _ 21 (Sum.inr (Sum.inr 29) :: Sum.inr (Sum.inr 8) :: _) _ _)); refine w_draw_X2_29_8 (ν := ν)  ?_  (fun _ _ => ?_)) | ((with_reducible refine (?_ : am_Does _ 21 (Sum.inr (Sum.inr 29) :: Sum.inr (Sum.inr 15) :: _) _ _)); refine w_draw_X2_29_15 (ν := ν)  ?_  (fun _ _ => ?_)) | refine w_draw_X2_29_1 (ν := ν)  ?_  (fun _ _ => ?_) | refine w_draw_X2_29_8 (ν := ν)  ?_  (fun _ _ => ?_) | refine w_draw_X2_29_15 (ν := ν)  ?_  (fun _ _ => ?_))
    | ((with_reducible refine (?_ : am_Does _ 23 _ _ _)); refine w_allWays_X2_29 (ν := ν)  ?_  (fun _ => ?_))
    | ((with_reducible refine (?_ : am_Does _ 24 _ _ _)); refine w_ways_X2_29 (ν := ν) _ ?_  (fun _ => ?_))
    | ((with_reducible refine (?_ : am_AW _ _ _ _ _ 46 _ _ _)); refine lp46' _ _ _ _ ?_ ?_ ?_)
    | refine And.intro (fun h => absurd h (by decide)) (fun _ => ?_)
    | refine And.intro (fun _ => ?_) (fun h => absurd (by decide) h)
    | refine And.intro (fun _ => ?_) (fun _ => ?_)
    | refine And.intro ?_ ?_
  all_goals (first | (with_reducible assumption) | decide | omega | assumption | (intros; omega) | (intros; simp only [am_c] at * <;> omega) | (simp only [am_c, am_up] at * <;> omega) | (simp [am_c, am_up] at * <;> omega))
theorem w_even_X6 {l : Launch} {μ : am_N} {Q : Option am_V → am_N → Prop} {ν : am_N} (a b : Int) (hS : sx ν μ) (ha0 : -2147483648 ≤ a) (ha1 : a ≤ 2147483647) (hb0 : -2147483648 ≤ b) (hb1 : b ≤ 2147483647) (k : ∀ r μ', sx ν μ' → Q (some (.inl r)) μ') : am_Does l 73 [.inr (.inr 0), .inl a, .inl b] μ Q := by
  refine am_Does_of (Nat.le_of_ble_eq_true rfl) (Nat.le_of_ble_eq_true rfl) (Nat.le_of_ble_eq_true rfl) ?_
  have hb := sx_all hS
  have lp32 : ∀ (m : Nat) (p u v i : Int) (o7 : Option am_V) (μ : am_N) , sx ν μ → (p = 0 ∨ p = 1) → 0 ≤ i → i ≤ 100 → 100 - i < (m : Int) → am_AW l 0 (fun _ => 0) 73 Q 32 [some (.inr (.inr 0)), some (.inl a), some (.inl b), some (.inl p), some (.inl u), some (.inl v), some (.inl i), o7] [] μ := by
    intro m
    induction m with
    | zero =>
      intro p u v i o7 μ hv0 hv1 hv2 hv3 hm
      have hb := sx_all hv0
      exfalso
      omega
    | succ m ih =>
      intro p u v i o7 μ hv0 hv1 hv2 hv3 hm
      have hb := sx_all hv0
      refine am_go (ct := fun pc => Nat.beq pc 32) am_oX6_even 300 ?_
      conv => whnf
      repeat' first
        | (refine (?_ : am_wp _ _ _ _ _ _ _ _ _ _ _ _); conv => whnf)
        | (refine (?_ : am_sw _ _ _ _); conv => whnf)
        | refine And.intro trivial ?_
        | exact trivial
        | (with_reducible assumption)
        | ((with_reducible refine (?_ : _ ∧ _)); first | (with_reducible first | refine am_jn am_q1 ?_ | refine am_jn am_q2 ?_ | refine am_jn am_q3 ?_ | refine am_jn am_q4 ?_ | refine am_jn am_q6 ?_ | refine am_jn am_q9 ?_ | refine am_jn am_p1 ?_ | refine am_jy am_p0 ?_ | refine am_kn am_q1 ?_ | refine am_kn am_q2 ?_ | refine am_kn am_q3 ?_ | refine am_kn am_q4 ?_ | refine am_kn am_q6 ?_ | refine am_kn am_q9 ?_ | refine am_kn am_p1 ?_ | refine am_ky am_p0 ?_) | refine And.intro (fun h => absurd h (by decide)) (fun _ => ?_) | refine And.intro (fun _ => ?_) (fun h => absurd (by decide) h) | refine And.intro (fun _ => ?_) (fun _ => ?_) | refine And.intro ?_ ?_)
        | refine k _ _ ?_
        | refine sx_up ?_ rfl
        | ((with_reducible refine (?_ : am_Does _ 117 _ _ _)); refine w_notTwo_X6 (ν := ν) _ _ ?_ ?_ (fun _ _ _ _ => ?_))
        | ((with_reducible refine (?_ : am_Does _ 113 _ _ _)); refine w_refuse_X6 (ν := ν) _ ?_ ?_ ?_ (fun _ _ _ => ?_))
        | ((with_reducible refine (?_ : am_Does _ 121 _ _ _)); refine w_alone_X6 (ν := ν) _ _ ?_  (fun _ _ _ _ => ?_))
        | ((with_reducible refine (?_ : am_Does _ 21 _ _ _)); first | ((with_reducible refine (?_ : am_Does _ 21 (Sum.inr (Sum.inr 29) :: Sum.inr (Sum.inr 1) :: _) _ _)); refine w_draw_X2_29_1 (ν := ν)  ?_  (fun _ _ => ?_)) | ((with_reducible refine (?_ : am_Does _ 21 (Sum.inr (Sum.inr 29) :: Sum.inr (Sum.inr 8) :: _) _ _)); refine w_draw_X2_29_8 (ν := ν)  ?_  (fun _ _ => ?_)) | ((with_reducible refine (?_ : am_Does _ 21 (Sum.inr (Sum.inr 29) :: Sum.inr (Sum.inr 15) :: _) _ _)); refine w_draw_X2_29_15 (ν := ν)  ?_  (fun _ _ => ?_)) | refine w_draw_X2_29_1 (ν := ν)  ?_  (fun _ _ => ?_) | refine w_draw_X2_29_8 (ν := ν)  ?_  (fun _ _ => ?_) | refine w_draw_X2_29_15 (ν := ν)  ?_  (fun _ _ => ?_))
        | ((with_reducible refine (?_ : am_Does _ 24 _ _ _)); refine w_ways_X2_29 (ν := ν) _ ?_  (fun _ => ?_))
        | ((with_reducible refine (?_ : am_AW _ _ _ _ _ 32 _ _ _)); refine ih _ _ _ _ _ _ ?_ ?_ ?_ ?_ ?_)
        | refine And.intro (fun h => absurd h (by decide)) (fun _ => ?_)
        | refine And.intro (fun _ => ?_) (fun h => absurd (by decide) h)
        | refine And.intro (fun _ => ?_) (fun _ => ?_)
        | refine And.intro ?_ ?_
      all_goals (first | (with_reducible assumption) | decide | omega | assumption | (intros; omega) | (intros; simp only [am_c] at * <;> omega) | (simp only [am_c, am_up] at * <;> omega) | (simp [am_c, am_up] at * <;> omega))
  have lp32' : ∀ (p u v i : Int) (o7 : Option am_V) (μ : am_N) , sx ν μ → (p = 0 ∨ p = 1) → 0 ≤ i → i ≤ 100 → am_AW l 0 (fun _ => 0) 73 Q 32 [some (.inr (.inr 0)), some (.inl a), some (.inl b), some (.inl p), some (.inl u), some (.inl v), some (.inl i), o7] [] μ := fun p u v i o7 μ hv0 hv1 hv2 hv3 => lp32 ((100 - i) + 1).toNat p u v i o7 μ hv0 hv1 hv2 hv3 (by omega)
  refine am_go (ct := fun pc => Nat.beq pc 32) am_oX6_even 300 ?_
  conv => whnf
  repeat' first
    | (refine (?_ : am_wp _ _ _ _ _ _ _ _ _ _ _ _); conv => whnf)
    | (refine (?_ : am_sw _ _ _ _); conv => whnf)
    | refine And.intro trivial ?_
    | exact trivial
    | (with_reducible assumption)
    | ((with_reducible refine (?_ : _ ∧ _)); first | (with_reducible first | refine am_jn am_q1 ?_ | refine am_jn am_q2 ?_ | refine am_jn am_q3 ?_ | refine am_jn am_q4 ?_ | refine am_jn am_q6 ?_ | refine am_jn am_q9 ?_ | refine am_jn am_p1 ?_ | refine am_jy am_p0 ?_ | refine am_kn am_q1 ?_ | refine am_kn am_q2 ?_ | refine am_kn am_q3 ?_ | refine am_kn am_q4 ?_ | refine am_kn am_q6 ?_ | refine am_kn am_q9 ?_ | refine am_kn am_p1 ?_ | refine am_ky am_p0 ?_) | refine And.intro (fun h => absurd h (by decide)) (fun _ => ?_) | refine And.intro (fun _ => ?_) (fun h => absurd (by decide) h) | refine And.intro (fun _ => ?_) (fun _ => ?_) | refine And.intro ?_ ?_)
    | refine k _ _ ?_
    | refine sx_up ?_ rfl
    | ((with_reducible refine (?_ : am_Does _ 117 _ _ _)); refine w_notTwo_X6 (ν := ν) _ _ ?_ ?_ (fun _ _ _ _ => ?_))
    | ((with_reducible refine (?_ : am_Does _ 113 _ _ _)); refine w_refuse_X6 (ν := ν) _ ?_ ?_ ?_ (fun _ _ _ => ?_))
    | ((with_reducible refine (?_ : am_Does _ 121 _ _ _)); refine w_alone_X6 (ν := ν) _ _ ?_  (fun _ _ _ _ => ?_))
    | ((with_reducible refine (?_ : am_Does _ 21 _ _ _)); first | ((with_reducible refine (?_ : am_Does _ 21 (Sum.inr (Sum.inr 29) :: Sum.inr (Sum.inr 1) :: _) _ _)); refine w_draw_X2_29_1 (ν := ν)  ?_  (fun _ _ => ?_)) | ((with_reducible refine (?_ : am_Does _ 21 (Sum.inr (Sum.inr 29) :: Sum.inr (Sum.inr 8) :: _) _ _)); refine w_draw_X2_29_8 (ν := ν)  ?_  (fun _ _ => ?_)) | ((with_reducible refine (?_ : am_Does _ 21 (Sum.inr (Sum.inr 29) :: Sum.inr (Sum.inr 15) :: _) _ _)); refine w_draw_X2_29_15 (ν := ν)  ?_  (fun _ _ => ?_)) | refine w_draw_X2_29_1 (ν := ν)  ?_  (fun _ _ => ?_) | refine w_draw_X2_29_8 (ν := ν)  ?_  (fun _ _ => ?_) | refine w_draw_X2_29_15 (ν := ν)  ?_  (fun _ _ => ?_))
    | ((with_reducible refine (?_ : am_Does _ 24 _ _ _)); refine w_ways_X2_29 (ν := ν) _ ?_  (fun _ => ?_))
    | ((with_reducible refine (?_ : am_AW _ _ _ _ _ 32 _ _ _)); refine lp32' _ _ _ _ _ _ ?_ ?_ ?_ ?_)
    | refine And.intro (fun h => absurd h (by decide)) (fun _ => ?_)
    | refine And.intro (fun _ => ?_) (fun h => absurd (by decide) h)
    | refine And.intro (fun _ => ?_) (fun _ => ?_)
    | refine And.intro ?_ ?_
  all_goals (first | (with_reducible assumption) | decide | omega | assumption | (intros; omega) | (intros; simp only [am_c] at * <;> omega) | (simp only [am_c, am_up] at * <;> omega) | (simp [am_c, am_up] at * <;> omega))
theorem w_starts_X6 {l : Launch} {μ : am_N} {Q : Option am_V → am_N → Prop} {ν : am_N} (a b : Int) (hS : sx ν μ) (ha0 : -2147483648 ≤ a) (ha1 : a ≤ 2147483647) (hb0 : -2147483648 ≤ b) (hb1 : b ≤ 2147483647) (k : ∀ r μ', sx ν μ' → Q (some (.inl r)) μ') : am_Does l 74 [.inr (.inr 0), .inl a, .inl b] μ Q := by
  refine am_Does_of (Nat.le_of_ble_eq_true rfl) (Nat.le_of_ble_eq_true rfl) (Nat.le_of_ble_eq_true rfl) ?_
  have hb := sx_all hS
  have t1 := am_t99 (am_c a)
  have lp97 : ∀ (m : Nat) (u v r : Int) (μ : am_N) , sx ν μ → 1 ≤ u → u ≤ 20 → -1 ≤ r → r ≤ 3 → 0 ≤ b → b ≤ 4 → r + 1 < (m : Int) → am_AW l 0 (fun _ => 0) 74 Q 97 [some (.inr (.inr 0)), some (.inl a), some (.inl b), some (.inl u), some (.inl v), some (.inl r)] [] μ := by
    intro m
    induction m with
    | zero =>
      intro u v r μ hv0 hv1 hv2 hv3 hv4 hv5 hv6 hm
      have hb := sx_all hv0
      exfalso
      omega
    | succ m ih =>
      intro u v r μ hv0 hv1 hv2 hv3 hv4 hv5 hv6 hm
      have hb := sx_all hv0
      refine am_go (ct := fun pc => Nat.beq pc 97 || Nat.beq pc 86) am_oX6_starts 300 ?_
      conv => whnf
      repeat' first
        | (refine (?_ : am_wp _ _ _ _ _ _ _ _ _ _ _ _); conv => whnf)
        | (refine (?_ : am_sw _ _ _ _); conv => whnf)
        | refine And.intro trivial ?_
        | exact trivial
        | (with_reducible assumption)
        | ((with_reducible refine (?_ : _ ∧ _)); first | (with_reducible first | refine am_jn am_q1 ?_ | refine am_jn am_q2 ?_ | refine am_jn am_q3 ?_ | refine am_jn am_q4 ?_ | refine am_jn am_q6 ?_ | refine am_jn am_q9 ?_ | refine am_jn am_p1 ?_ | refine am_jy am_p0 ?_ | refine am_kn am_q1 ?_ | refine am_kn am_q2 ?_ | refine am_kn am_q3 ?_ | refine am_kn am_q4 ?_ | refine am_kn am_q6 ?_ | refine am_kn am_q9 ?_ | refine am_kn am_p1 ?_ | refine am_ky am_p0 ?_) | refine And.intro (fun h => absurd h (by decide)) (fun _ => ?_) | refine And.intro (fun _ => ?_) (fun h => absurd (by decide) h) | refine And.intro (fun _ => ?_) (fun _ => ?_) | refine And.intro ?_ ?_)
        | refine k _ _ ?_
        | refine sx_up ?_ rfl
        | ((with_reducible refine (?_ : am_Does _ 113 _ _ _)); refine w_refuse_X6 (ν := ν) _ ?_ ?_ ?_ (fun _ _ _ => ?_))
        | ((with_reducible refine (?_ : am_Does _ 123 _ _ _)); refine w_evenest_X6 (ν := ν) _ _ ?_ ?_ ?_ (fun _ _ _ => ?_))
        | ((with_reducible refine (?_ : am_AW _ _ _ _ _ 97 _ _ _)); refine ih _ _ _ _ ?_ ?_ ?_ ?_ ?_ ?_ ?_ ?_)
        | refine And.intro (fun h => absurd h (by decide)) (fun _ => ?_)
        | refine And.intro (fun _ => ?_) (fun h => absurd (by decide) h)
        | refine And.intro (fun _ => ?_) (fun _ => ?_)
        | refine And.intro ?_ ?_
      all_goals (first | (with_reducible assumption) | decide | omega | assumption | (intros; omega) | (intros; simp only [am_c] at * <;> omega) | (simp only [am_c, am_up] at * <;> omega) | (simp [am_c, am_up] at * <;> omega))
  have lp97' : ∀ (u v r : Int) (μ : am_N) , sx ν μ → 1 ≤ u → u ≤ 20 → -1 ≤ r → r ≤ 3 → 0 ≤ b → b ≤ 4 → am_AW l 0 (fun _ => 0) 74 Q 97 [some (.inr (.inr 0)), some (.inl a), some (.inl b), some (.inl u), some (.inl v), some (.inl r)] [] μ := fun u v r μ hv0 hv1 hv2 hv3 hv4 hv5 hv6 => lp97 ((r + 1) + 1).toNat u v r μ hv0 hv1 hv2 hv3 hv4 hv5 hv6 (by omega)
  have lp86 : ∀ (u v : Int) (μ : am_N), sx ν μ → 1 ≤ u → u ≤ 20 → 0 ≤ b → b ≤ 4 → am_AW l 0 (fun _ => 0) 74 Q 86 [some (.inr (.inr 0)), some (.inl a), some (.inl b), some (.inl u), some (.inl v), none] [] μ := by
    intro u v μ hv0 hv1 hv2 hv3 hv4
    have hb := sx_all hv0
    refine am_go (ct := fun pc => Nat.beq pc 97 || Nat.beq pc 86) am_oX6_starts 300 ?_
    conv => whnf
    repeat' first
      | (refine (?_ : am_wp _ _ _ _ _ _ _ _ _ _ _ _); conv => whnf)
      | (refine (?_ : am_sw _ _ _ _); conv => whnf)
      | refine And.intro trivial ?_
      | exact trivial
      | (with_reducible assumption)
      | ((with_reducible refine (?_ : _ ∧ _)); first | (with_reducible first | refine am_jn am_q1 ?_ | refine am_jn am_q2 ?_ | refine am_jn am_q3 ?_ | refine am_jn am_q4 ?_ | refine am_jn am_q6 ?_ | refine am_jn am_q9 ?_ | refine am_jn am_p1 ?_ | refine am_jy am_p0 ?_ | refine am_kn am_q1 ?_ | refine am_kn am_q2 ?_ | refine am_kn am_q3 ?_ | refine am_kn am_q4 ?_ | refine am_kn am_q6 ?_ | refine am_kn am_q9 ?_ | refine am_kn am_p1 ?_ | refine am_ky am_p0 ?_) | refine And.intro (fun h => absurd h (by decide)) (fun _ => ?_) | refine And.intro (fun _ => ?_) (fun h => absurd (by decide) h) | refine And.intro (fun _ => ?_) (fun _ => ?_) | refine And.intro ?_ ?_)
      | refine k _ _ ?_
      | refine sx_up ?_ rfl
      | ((with_reducible refine (?_ : am_Does _ 113 _ _ _)); refine w_refuse_X6 (ν := ν) _ ?_ ?_ ?_ (fun _ _ _ => ?_))
      | ((with_reducible refine (?_ : am_Does _ 123 _ _ _)); refine w_evenest_X6 (ν := ν) _ _ ?_ ?_ ?_ (fun _ _ _ => ?_))
      | ((with_reducible refine (?_ : am_AW _ _ _ _ _ 97 _ _ _)); refine lp97' _ _ _ _ ?_ ?_ ?_ ?_ ?_ ?_ ?_)
      | refine And.intro (fun h => absurd h (by decide)) (fun _ => ?_)
      | refine And.intro (fun _ => ?_) (fun h => absurd (by decide) h)
      | refine And.intro (fun _ => ?_) (fun _ => ?_)
      | refine And.intro ?_ ?_
    all_goals (first | (with_reducible assumption) | decide | omega | assumption | (intros; omega) | (intros; simp only [am_c] at * <;> omega) | (simp only [am_c, am_up] at * <;> omega) | (simp [am_c, am_up] at * <;> omega))
  refine am_go (ct := fun pc => Nat.beq pc 97 || Nat.beq pc 86) am_oX6_starts 300 ?_
  conv => whnf
  repeat' first
    | (refine (?_ : am_wp _ _ _ _ _ _ _ _ _ _ _ _); conv => whnf)
    | (refine (?_ : am_sw _ _ _ _); conv => whnf)
    | refine And.intro trivial ?_
    | exact trivial
    | (with_reducible assumption)
    | ((with_reducible refine (?_ : _ ∧ _)); first | (with_reducible first | refine am_jn am_q1 ?_ | refine am_jn am_q2 ?_ | refine am_jn am_q3 ?_ | refine am_jn am_q4 ?_ | refine am_jn am_q6 ?_ | refine am_jn am_q9 ?_ | refine am_jn am_p1 ?_ | refine am_jy am_p0 ?_ | refine am_kn am_q1 ?_ | refine am_kn am_q2 ?_ | refine am_kn am_q3 ?_ | refine am_kn am_q4 ?_ | refine am_kn am_q6 ?_ | refine am_kn am_q9 ?_ | refine am_kn am_p1 ?_ | refine am_ky am_p0 ?_) | refine And.intro (fun h => absurd h (by decide)) (fun _ => ?_) | refine And.intro (fun _ => ?_) (fun h => absurd (by decide) h) | refine And.intro (fun _ => ?_) (fun _ => ?_) | refine And.intro ?_ ?_)
    | refine k _ _ ?_
    | refine sx_up ?_ rfl
    | ((with_reducible refine (?_ : am_Does _ 113 _ _ _)); refine w_refuse_X6 (ν := ν) _ ?_ ?_ ?_ (fun _ _ _ => ?_))
    | ((with_reducible refine (?_ : am_Does _ 123 _ _ _)); refine w_evenest_X6 (ν := ν) _ _ ?_ ?_ ?_ (fun _ _ _ => ?_))
    | ((with_reducible refine (?_ : am_AW _ _ _ _ _ 86 _ _ _)); refine lp86 _ _ _ ?_ ?_ ?_ ?_ ?_)
    | ((with_reducible refine (?_ : am_AW _ _ _ _ _ 97 _ _ _)); refine lp97' _ _ _ _ ?_ ?_ ?_ ?_ ?_ ?_ ?_)
    | refine And.intro (fun h => absurd h (by decide)) (fun _ => ?_)
    | refine And.intro (fun _ => ?_) (fun h => absurd (by decide) h)
    | refine And.intro (fun _ => ?_) (fun _ => ?_)
    | refine And.intro ?_ ?_
  all_goals (first | (with_reducible assumption) | decide | omega | assumption | (intros; omega) | (intros; simp only [am_c] at * <;> omega) | (simp only [am_c, am_up] at * <;> omega) | (simp [am_c, am_up] at * <;> omega))
theorem w_load_X6 {l : Launch} {μ : am_N} {Q : Option am_V → am_N → Prop} {ν : am_N} (a : Int) (hS : sx ν μ) (ha0 : -2147483648 ≤ a) (ha1 : a ≤ 2147483647) (k : ∀ r μ', sx ν μ' → Q (some (.inl r)) μ') : am_Does l 75 [.inr (.inr 0), .inl a] μ Q := by
  refine am_Does_of (Nat.le_of_ble_eq_true rfl) (Nat.le_of_ble_eq_true rfl) (Nat.le_of_ble_eq_true rfl) ?_
  have hb := sx_all hS
  have lp45 : ∀ (m : Nat) (u v i : Int) (o5 : Option am_V) (μ : am_N) , sx ν μ → 0 ≤ am_c a → am_c a < 4 → 0 ≤ i → i ≤ 10 → 10 - i < (m : Int) → am_AW l 0 (fun _ => 0) 75 Q 45 [some (.inr (.inr 0)), some (.inl a), some (.inl u), some (.inl v), some (.inl i), o5] [] μ := by
    intro m
    induction m with
    | zero =>
      intro u v i o5 μ hv0 hv1 hv2 hv3 hv4 hm
      have hb := sx_all hv0
      exfalso
      omega
    | succ m ih =>
      intro u v i o5 μ hv0 hv1 hv2 hv3 hv4 hm
      have hb := sx_all hv0
      refine am_go (ct := fun pc => Nat.beq pc 45) am_oX6_load 300 ?_
      conv => whnf
      repeat' first
        | (refine (?_ : am_wp _ _ _ _ _ _ _ _ _ _ _ _); conv => whnf)
        | (refine (?_ : am_sw _ _ _ _); conv => whnf)
        | refine And.intro trivial ?_
        | exact trivial
        | (with_reducible assumption)
        | ((with_reducible refine (?_ : _ ∧ _)); first | (with_reducible first | refine am_jn am_q1 ?_ | refine am_jn am_q2 ?_ | refine am_jn am_q3 ?_ | refine am_jn am_q4 ?_ | refine am_jn am_q6 ?_ | refine am_jn am_q9 ?_ | refine am_jn am_p1 ?_ | refine am_jy am_p0 ?_ | refine am_kn am_q1 ?_ | refine am_kn am_q2 ?_ | refine am_kn am_q3 ?_ | refine am_kn am_q4 ?_ | refine am_kn am_q6 ?_ | refine am_kn am_q9 ?_ | refine am_kn am_p1 ?_ | refine am_ky am_p0 ?_) | refine And.intro (fun h => absurd h (by decide)) (fun _ => ?_) | refine And.intro (fun _ => ?_) (fun h => absurd (by decide) h) | refine And.intro (fun _ => ?_) (fun _ => ?_) | refine And.intro ?_ ?_)
        | refine k _ _ ?_
        | refine sx_up ?_ rfl
        | ((with_reducible refine (?_ : am_Does _ 1 _ _ _)); first | ((with_reducible refine (?_ : am_Does _ 1 (Sum.inr (Sum.inr 1) :: _) _ _)); refine w_has_X0_1 (ν := ν) _ ?_ (fun _ _ _ => ?_) (fun _ => ?_)) | ((with_reducible refine (?_ : am_Does _ 1 (Sum.inr (Sum.inr 8) :: _) _ _)); refine w_has_X0_8 (ν := ν) _ ?_ (fun _ _ _ => ?_) (fun _ => ?_)) | ((with_reducible refine (?_ : am_Does _ 1 (Sum.inr (Sum.inr 15) :: _) _ _)); refine w_has_X0_15 (ν := ν) _ ?_ (fun _ _ _ => ?_) (fun _ => ?_)) | refine w_has_X0_1 (ν := ν) _ ?_ (fun _ _ _ => ?_) (fun _ => ?_) | refine w_has_X0_8 (ν := ν) _ ?_ (fun _ _ _ => ?_) (fun _ => ?_) | refine w_has_X0_15 (ν := ν) _ ?_ (fun _ _ _ => ?_) (fun _ => ?_))
        | ((with_reducible refine (?_ : am_Does _ 113 _ _ _)); refine w_refuse_X6 (ν := ν) _ ?_ ?_ ?_ (fun _ _ _ => ?_))
        | ((with_reducible refine (?_ : am_Does _ 2 _ _ _)); first | ((with_reducible refine (?_ : am_Does _ 2 (Sum.inr (Sum.inr 8) :: Sum.inr (Sum.inr 1) :: _) _ _)); refine w_take_X0_8_1 (ν := ν)  ?_  (fun _ _ => ?_)) | ((with_reducible refine (?_ : am_Does _ 2 (Sum.inr (Sum.inr 15) :: Sum.inr (Sum.inr 8) :: _) _ _)); refine w_take_X0_15_8 (ν := ν)  ?_  (fun _ _ => ?_)) | refine w_take_X0_8_1 (ν := ν)  ?_  (fun _ _ => ?_) | refine w_take_X0_15_8 (ν := ν)  ?_  (fun _ _ => ?_))
        | ((with_reducible refine (?_ : am_Does _ 21 _ _ _)); first | ((with_reducible refine (?_ : am_Does _ 21 (Sum.inr (Sum.inr 29) :: Sum.inr (Sum.inr 1) :: _) _ _)); refine w_draw_X2_29_1 (ν := ν)  ?_  (fun _ _ => ?_)) | ((with_reducible refine (?_ : am_Does _ 21 (Sum.inr (Sum.inr 29) :: Sum.inr (Sum.inr 8) :: _) _ _)); refine w_draw_X2_29_8 (ν := ν)  ?_  (fun _ _ => ?_)) | ((with_reducible refine (?_ : am_Does _ 21 (Sum.inr (Sum.inr 29) :: Sum.inr (Sum.inr 15) :: _) _ _)); refine w_draw_X2_29_15 (ν := ν)  ?_  (fun _ _ => ?_)) | refine w_draw_X2_29_1 (ν := ν)  ?_  (fun _ _ => ?_) | refine w_draw_X2_29_8 (ν := ν)  ?_  (fun _ _ => ?_) | refine w_draw_X2_29_15 (ν := ν)  ?_  (fun _ _ => ?_))
        | ((with_reducible refine (?_ : am_Does _ 27 _ _ _)); refine w_uneven_X2_29 (ν := ν)  ?_  (fun _ => ?_))
        | ((with_reducible refine (?_ : am_AW _ _ _ _ _ 45 _ _ _)); refine ih _ _ _ _ _ ?_ ?_ ?_ ?_ ?_ ?_)
        | refine And.intro (fun h => absurd h (by decide)) (fun _ => ?_)
        | refine And.intro (fun _ => ?_) (fun h => absurd (by decide) h)
        | refine And.intro (fun _ => ?_) (fun _ => ?_)
        | refine And.intro ?_ ?_
      all_goals (first | (with_reducible assumption) | decide | omega | assumption | (intros; omega) | (intros; simp only [am_c] at * <;> omega) | (simp only [am_c, am_up] at * <;> omega) | (simp [am_c, am_up] at * <;> omega))
  have lp45' : ∀ (u v i : Int) (o5 : Option am_V) (μ : am_N) , sx ν μ → 0 ≤ am_c a → am_c a < 4 → 0 ≤ i → i ≤ 10 → am_AW l 0 (fun _ => 0) 75 Q 45 [some (.inr (.inr 0)), some (.inl a), some (.inl u), some (.inl v), some (.inl i), o5] [] μ := fun u v i o5 μ hv0 hv1 hv2 hv3 hv4 => lp45 ((10 - i) + 1).toNat u v i o5 μ hv0 hv1 hv2 hv3 hv4 (by omega)
  refine am_go (ct := fun pc => Nat.beq pc 45) am_oX6_load 300 ?_
  conv => whnf
  repeat' first
    | (refine (?_ : am_wp _ _ _ _ _ _ _ _ _ _ _ _); conv => whnf)
    | (refine (?_ : am_sw _ _ _ _); conv => whnf)
    | refine And.intro trivial ?_
    | exact trivial
    | (with_reducible assumption)
    | ((with_reducible refine (?_ : _ ∧ _)); first | (with_reducible first | refine am_jn am_q1 ?_ | refine am_jn am_q2 ?_ | refine am_jn am_q3 ?_ | refine am_jn am_q4 ?_ | refine am_jn am_q6 ?_ | refine am_jn am_q9 ?_ | refine am_jn am_p1 ?_ | refine am_jy am_p0 ?_ | refine am_kn am_q1 ?_ | refine am_kn am_q2 ?_ | refine am_kn am_q3 ?_ | refine am_kn am_q4 ?_ | refine am_kn am_q6 ?_ | refine am_kn am_q9 ?_ | refine am_kn am_p1 ?_ | refine am_ky am_p0 ?_) | refine And.intro (fun h => absurd h (by decide)) (fun _ => ?_) | refine And.intro (fun _ => ?_) (fun h => absurd (by decide) h) | refine And.intro (fun _ => ?_) (fun _ => ?_) | refine And.intro ?_ ?_)
    | refine k _ _ ?_
    | refine sx_up ?_ rfl
    | ((with_reducible refine (?_ : am_Does _ 1 _ _ _)); first | ((with_reducible refine (?_ : am_Does _ 1 (Sum.inr (Sum.inr 1) :: _) _ _)); refine w_has_X0_1 (ν := ν) _ ?_ (fun _ _ _ => ?_) (fun _ => ?_)) | ((with_reducible refine (?_ : am_Does _ 1 (Sum.inr (Sum.inr 8) :: _) _ _)); refine w_has_X0_8 (ν := ν) _ ?_ (fun _ _ _ => ?_) (fun _ => ?_)) | ((with_reducible refine (?_ : am_Does _ 1 (Sum.inr (Sum.inr 15) :: _) _ _)); refine w_has_X0_15 (ν := ν) _ ?_ (fun _ _ _ => ?_) (fun _ => ?_)) | refine w_has_X0_1 (ν := ν) _ ?_ (fun _ _ _ => ?_) (fun _ => ?_) | refine w_has_X0_8 (ν := ν) _ ?_ (fun _ _ _ => ?_) (fun _ => ?_) | refine w_has_X0_15 (ν := ν) _ ?_ (fun _ _ _ => ?_) (fun _ => ?_))
    | ((with_reducible refine (?_ : am_Does _ 113 _ _ _)); refine w_refuse_X6 (ν := ν) _ ?_ ?_ ?_ (fun _ _ _ => ?_))
    | ((with_reducible refine (?_ : am_Does _ 2 _ _ _)); first | ((with_reducible refine (?_ : am_Does _ 2 (Sum.inr (Sum.inr 8) :: Sum.inr (Sum.inr 1) :: _) _ _)); refine w_take_X0_8_1 (ν := ν)  ?_  (fun _ _ => ?_)) | ((with_reducible refine (?_ : am_Does _ 2 (Sum.inr (Sum.inr 15) :: Sum.inr (Sum.inr 8) :: _) _ _)); refine w_take_X0_15_8 (ν := ν)  ?_  (fun _ _ => ?_)) | refine w_take_X0_8_1 (ν := ν)  ?_  (fun _ _ => ?_) | refine w_take_X0_15_8 (ν := ν)  ?_  (fun _ _ => ?_))
    | ((with_reducible refine (?_ : am_Does _ 21 _ _ _)); first | ((with_reducible refine (?_ : am_Does _ 21 (Sum.inr (Sum.inr 29) :: Sum.inr (Sum.inr 1) :: _) _ _)); refine w_draw_X2_29_1 (ν := ν)  ?_  (fun _ _ => ?_)) | ((with_reducible refine (?_ : am_Does _ 21 (Sum.inr (Sum.inr 29) :: Sum.inr (Sum.inr 8) :: _) _ _)); refine w_draw_X2_29_8 (ν := ν)  ?_  (fun _ _ => ?_)) | ((with_reducible refine (?_ : am_Does _ 21 (Sum.inr (Sum.inr 29) :: Sum.inr (Sum.inr 15) :: _) _ _)); refine w_draw_X2_29_15 (ν := ν)  ?_  (fun _ _ => ?_)) | refine w_draw_X2_29_1 (ν := ν)  ?_  (fun _ _ => ?_) | refine w_draw_X2_29_8 (ν := ν)  ?_  (fun _ _ => ?_) | refine w_draw_X2_29_15 (ν := ν)  ?_  (fun _ _ => ?_))
    | ((with_reducible refine (?_ : am_Does _ 27 _ _ _)); refine w_uneven_X2_29 (ν := ν)  ?_  (fun _ => ?_))
    | ((with_reducible refine (?_ : am_AW _ _ _ _ _ 45 _ _ _)); refine lp45' _ _ _ _ _ ?_ ?_ ?_ ?_ ?_)
    | refine And.intro (fun h => absurd h (by decide)) (fun _ => ?_)
    | refine And.intro (fun _ => ?_) (fun h => absurd (by decide) h)
    | refine And.intro (fun _ => ?_) (fun _ => ?_)
    | refine And.intro ?_ ?_
  all_goals (first | (with_reducible assumption) | decide | omega | assumption | (intros; omega) | (intros; simp only [am_c] at * <;> omega) | (simp only [am_c, am_up] at * <;> omega) | (simp [am_c, am_up] at * <;> omega))
theorem w_on_X6 {l : Launch} {μ : am_N} {Q : Option am_V → am_N → Prop} {ν : am_N} (a b c : Int) (hS : sx ν μ) (ha0 : -2147483648 ≤ a) (ha1 : a ≤ 2147483647) (hb0 : -2147483648 ≤ b) (hb1 : b ≤ 2147483647) (hc0 : -2147483648 ≤ c) (hc1 : c ≤ 2147483647) (k : ∀ r μ', sx ν μ' → Q (some (.inl r)) μ') : am_Does l 76 [.inr (.inr 0), .inl a, .inl b, .inl c] μ Q := by
  refine am_Does_of (Nat.le_of_ble_eq_true rfl) (Nat.le_of_ble_eq_true rfl) (Nat.le_of_ble_eq_true rfl) ?_
  have hb := sx_all hS
  refine am_go (ct := fun _ => false) am_oX6_on 300 ?_
  conv => whnf
  repeat' first
    | (refine (?_ : am_wp _ _ _ _ _ _ _ _ _ _ _ _); conv => whnf)
    | (refine (?_ : am_sw _ _ _ _); conv => whnf)
    | refine And.intro trivial ?_
    | exact trivial
    | (with_reducible assumption)
    | ((with_reducible refine (?_ : _ ∧ _)); first | (with_reducible first | refine am_jn am_q1 ?_ | refine am_jn am_q2 ?_ | refine am_jn am_q3 ?_ | refine am_jn am_q4 ?_ | refine am_jn am_q6 ?_ | refine am_jn am_q9 ?_ | refine am_jn am_p1 ?_ | refine am_jy am_p0 ?_ | refine am_kn am_q1 ?_ | refine am_kn am_q2 ?_ | refine am_kn am_q3 ?_ | refine am_kn am_q4 ?_ | refine am_kn am_q6 ?_ | refine am_kn am_q9 ?_ | refine am_kn am_p1 ?_ | refine am_ky am_p0 ?_) | refine And.intro (fun h => absurd h (by decide)) (fun _ => ?_) | refine And.intro (fun _ => ?_) (fun h => absurd (by decide) h) | refine And.intro (fun _ => ?_) (fun _ => ?_) | refine And.intro ?_ ?_)
    | refine k _ _ ?_
    | refine sx_up ?_ rfl
    | ((with_reducible refine (?_ : am_Does _ 1 _ _ _)); first | ((with_reducible refine (?_ : am_Does _ 1 (Sum.inr (Sum.inr 1) :: _) _ _)); refine w_has_X0_1 (ν := ν) _ ?_ (fun _ _ _ => ?_) (fun _ => ?_)) | ((with_reducible refine (?_ : am_Does _ 1 (Sum.inr (Sum.inr 8) :: _) _ _)); refine w_has_X0_8 (ν := ν) _ ?_ (fun _ _ _ => ?_) (fun _ => ?_)) | ((with_reducible refine (?_ : am_Does _ 1 (Sum.inr (Sum.inr 15) :: _) _ _)); refine w_has_X0_15 (ν := ν) _ ?_ (fun _ _ _ => ?_) (fun _ => ?_)) | refine w_has_X0_1 (ν := ν) _ ?_ (fun _ _ _ => ?_) (fun _ => ?_) | refine w_has_X0_8 (ν := ν) _ ?_ (fun _ _ _ => ?_) (fun _ => ?_) | refine w_has_X0_15 (ν := ν) _ ?_ (fun _ _ _ => ?_) (fun _ => ?_))
    | ((with_reducible refine (?_ : am_Does _ 113 _ _ _)); refine w_refuse_X6 (ν := ν) _ ?_ ?_ ?_ (fun _ _ _ => ?_))
    | ((with_reducible refine (?_ : am_Does _ 116 _ _ _)); refine w_noPart_X6 _ ?_ (fun _ => ?_))
    | ((with_reducible refine (?_ : am_Does _ 2 _ _ _)); first | ((with_reducible refine (?_ : am_Does _ 2 (Sum.inr (Sum.inr 8) :: Sum.inr (Sum.inr 1) :: _) _ _)); refine w_take_X0_8_1 (ν := ν)  ?_  (fun _ _ => ?_)) | ((with_reducible refine (?_ : am_Does _ 2 (Sum.inr (Sum.inr 15) :: Sum.inr (Sum.inr 8) :: _) _ _)); refine w_take_X0_15_8 (ν := ν)  ?_  (fun _ _ => ?_)) | refine w_take_X0_8_1 (ν := ν)  ?_  (fun _ _ => ?_) | refine w_take_X0_15_8 (ν := ν)  ?_  (fun _ _ => ?_))
    | ((with_reducible refine (?_ : am_Does _ 125 _ _ _)); refine w_winsIn_X6 (ν := ν) _ _ ?_ ?_ ?_ (fun _ _ _ => ?_))
    | refine And.intro (fun h => absurd h (by decide)) (fun _ => ?_)
    | refine And.intro (fun _ => ?_) (fun h => absurd (by decide) h)
    | refine And.intro (fun _ => ?_) (fun _ => ?_)
    | refine And.intro ?_ ?_
  all_goals (first | (with_reducible assumption) | decide | omega | assumption | (intros; omega) | (intros; simp only [am_c] at * <;> omega) | (simp only [am_c, am_up] at * <;> omega) | (simp [am_c, am_up] at * <;> omega))
theorem w_settles_X6 {l : Launch} {μ : am_N} {Q : Option am_V → am_N → Prop} {ν : am_N}  (hS : sx ν μ)  (k : ∀ r μ', sx ν μ' → Q (some (.inl r)) μ') : am_Does l 77 [.inr (.inr 0)] μ Q := by
  refine am_Does_of (Nat.le_of_ble_eq_true rfl) (Nat.le_of_ble_eq_true rfl) (Nat.le_of_ble_eq_true rfl) ?_
  have hb := sx_all hS
  have lp32 : ∀ (m : Nat) (u i : Int) (μ : am_N) , sx ν μ → 0 ≤ i → i ≤ 60 → 60 - i < (m : Int) → am_AW l 0 (fun _ => 0) 77 Q 32 [some (.inr (.inr 0)), some (.inl u), some (.inl i)] [] μ := by
    intro m
    induction m with
    | zero =>
      intro u i μ hv0 hv1 hv2 hm
      have hb := sx_all hv0
      exfalso
      omega
    | succ m ih =>
      intro u i μ hv0 hv1 hv2 hm
      have hb := sx_all hv0
      refine am_go (ct := fun pc => Nat.beq pc 32) am_oX6_settles 300 ?_
      conv => whnf
      repeat' first
        | (refine (?_ : am_wp _ _ _ _ _ _ _ _ _ _ _ _); conv => whnf)
        | (refine (?_ : am_sw _ _ _ _); conv => whnf)
        | refine And.intro trivial ?_
        | exact trivial
        | (with_reducible assumption)
        | ((with_reducible refine (?_ : _ ∧ _)); first | (with_reducible first | refine am_jn am_q1 ?_ | refine am_jn am_q2 ?_ | refine am_jn am_q3 ?_ | refine am_jn am_q4 ?_ | refine am_jn am_q6 ?_ | refine am_jn am_q9 ?_ | refine am_jn am_p1 ?_ | refine am_jy am_p0 ?_ | refine am_kn am_q1 ?_ | refine am_kn am_q2 ?_ | refine am_kn am_q3 ?_ | refine am_kn am_q4 ?_ | refine am_kn am_q6 ?_ | refine am_kn am_q9 ?_ | refine am_kn am_p1 ?_ | refine am_ky am_p0 ?_) | refine And.intro (fun h => absurd h (by decide)) (fun _ => ?_) | refine And.intro (fun _ => ?_) (fun h => absurd (by decide) h) | refine And.intro (fun _ => ?_) (fun _ => ?_) | refine And.intro ?_ ?_)
        | refine k _ _ ?_
        | refine sx_up ?_ rfl
        | ((with_reducible refine (?_ : am_Does _ 113 _ _ _)); refine w_refuse_X6 (ν := ν) _ ?_ ?_ ?_ (fun _ _ _ => ?_))
        | ((with_reducible refine (?_ : am_Does _ 2 _ _ _)); first | ((with_reducible refine (?_ : am_Does _ 2 (Sum.inr (Sum.inr 8) :: Sum.inr (Sum.inr 1) :: _) _ _)); refine w_take_X0_8_1 (ν := ν)  ?_  (fun _ _ => ?_)) | ((with_reducible refine (?_ : am_Does _ 2 (Sum.inr (Sum.inr 15) :: Sum.inr (Sum.inr 8) :: _) _ _)); refine w_take_X0_15_8 (ν := ν)  ?_  (fun _ _ => ?_)) | refine w_take_X0_8_1 (ν := ν)  ?_  (fun _ _ => ?_) | refine w_take_X0_15_8 (ν := ν)  ?_  (fun _ _ => ?_))
        | ((with_reducible refine (?_ : am_Does _ 34 _ _ _)); first | ((with_reducible refine (?_ : am_Does _ 34 (Sum.inr (Sum.inr 38) :: Sum.inr (Sum.inr 8) :: _) _ _)); refine w_goOn_X2_38_8 (ν := ν)  ?_  (fun _ _ _ => ?_)) | ((with_reducible refine (?_ : am_Does _ 34 (Sum.inr (Sum.inr 29) :: Sum.inr (Sum.inr 8) :: _) _ _)); refine w_goOn_X2_29_8 (ν := ν)  ?_  (fun _ _ _ => ?_)) | refine w_goOn_X2_38_8 (ν := ν)  ?_  (fun _ _ _ => ?_) | refine w_goOn_X2_29_8 (ν := ν)  ?_  (fun _ _ _ => ?_))
        | ((with_reducible refine (?_ : am_Does _ 13 _ _ _)); refine w_startsAs_X0_8_15 (ν := ν)  ?_  (fun _ => ?_))
        | ((with_reducible refine (?_ : am_AW _ _ _ _ _ 32 _ _ _)); refine ih _ _ _ ?_ ?_ ?_ ?_)
        | refine And.intro (fun h => absurd h (by decide)) (fun _ => ?_)
        | refine And.intro (fun _ => ?_) (fun h => absurd (by decide) h)
        | refine And.intro (fun _ => ?_) (fun _ => ?_)
        | refine And.intro ?_ ?_
      all_goals (first | (with_reducible assumption) | decide | omega | assumption | (intros; omega) | (intros; simp only [am_c] at * <;> omega) | (simp only [am_c, am_up] at * <;> omega) | (simp [am_c, am_up] at * <;> omega))
  have lp32' : ∀ (u i : Int) (μ : am_N) , sx ν μ → 0 ≤ i → i ≤ 60 → am_AW l 0 (fun _ => 0) 77 Q 32 [some (.inr (.inr 0)), some (.inl u), some (.inl i)] [] μ := fun u i μ hv0 hv1 hv2 => lp32 ((60 - i) + 1).toNat u i μ hv0 hv1 hv2 (by omega)
  refine am_go (ct := fun pc => Nat.beq pc 32) am_oX6_settles 300 ?_
  conv => whnf
  repeat' first
    | (refine (?_ : am_wp _ _ _ _ _ _ _ _ _ _ _ _); conv => whnf)
    | (refine (?_ : am_sw _ _ _ _); conv => whnf)
    | refine And.intro trivial ?_
    | exact trivial
    | (with_reducible assumption)
    | ((with_reducible refine (?_ : _ ∧ _)); first | (with_reducible first | refine am_jn am_q1 ?_ | refine am_jn am_q2 ?_ | refine am_jn am_q3 ?_ | refine am_jn am_q4 ?_ | refine am_jn am_q6 ?_ | refine am_jn am_q9 ?_ | refine am_jn am_p1 ?_ | refine am_jy am_p0 ?_ | refine am_kn am_q1 ?_ | refine am_kn am_q2 ?_ | refine am_kn am_q3 ?_ | refine am_kn am_q4 ?_ | refine am_kn am_q6 ?_ | refine am_kn am_q9 ?_ | refine am_kn am_p1 ?_ | refine am_ky am_p0 ?_) | refine And.intro (fun h => absurd h (by decide)) (fun _ => ?_) | refine And.intro (fun _ => ?_) (fun h => absurd (by decide) h) | refine And.intro (fun _ => ?_) (fun _ => ?_) | refine And.intro ?_ ?_)
    | refine k _ _ ?_
    | refine sx_up ?_ rfl
    | ((with_reducible refine (?_ : am_Does _ 113 _ _ _)); refine w_refuse_X6 (ν := ν) _ ?_ ?_ ?_ (fun _ _ _ => ?_))
    | ((with_reducible refine (?_ : am_Does _ 2 _ _ _)); first | ((with_reducible refine (?_ : am_Does _ 2 (Sum.inr (Sum.inr 8) :: Sum.inr (Sum.inr 1) :: _) _ _)); refine w_take_X0_8_1 (ν := ν)  ?_  (fun _ _ => ?_)) | ((with_reducible refine (?_ : am_Does _ 2 (Sum.inr (Sum.inr 15) :: Sum.inr (Sum.inr 8) :: _) _ _)); refine w_take_X0_15_8 (ν := ν)  ?_  (fun _ _ => ?_)) | refine w_take_X0_8_1 (ν := ν)  ?_  (fun _ _ => ?_) | refine w_take_X0_15_8 (ν := ν)  ?_  (fun _ _ => ?_))
    | ((with_reducible refine (?_ : am_Does _ 34 _ _ _)); first | ((with_reducible refine (?_ : am_Does _ 34 (Sum.inr (Sum.inr 38) :: Sum.inr (Sum.inr 8) :: _) _ _)); refine w_goOn_X2_38_8 (ν := ν)  ?_  (fun _ _ _ => ?_)) | ((with_reducible refine (?_ : am_Does _ 34 (Sum.inr (Sum.inr 29) :: Sum.inr (Sum.inr 8) :: _) _ _)); refine w_goOn_X2_29_8 (ν := ν)  ?_  (fun _ _ _ => ?_)) | refine w_goOn_X2_38_8 (ν := ν)  ?_  (fun _ _ _ => ?_) | refine w_goOn_X2_29_8 (ν := ν)  ?_  (fun _ _ _ => ?_))
    | ((with_reducible refine (?_ : am_Does _ 13 _ _ _)); refine w_startsAs_X0_8_15 (ν := ν)  ?_  (fun _ => ?_))
    | ((with_reducible refine (?_ : am_AW _ _ _ _ _ 32 _ _ _)); refine lp32' _ _ _ ?_ ?_ ?_)
    | refine And.intro (fun h => absurd h (by decide)) (fun _ => ?_)
    | refine And.intro (fun _ => ?_) (fun h => absurd (by decide) h)
    | refine And.intro (fun _ => ?_) (fun _ => ?_)
    | refine And.intro ?_ ?_
  all_goals (first | (with_reducible assumption) | decide | omega | assumption | (intros; omega) | (intros; simp only [am_c] at * <;> omega) | (simp only [am_c, am_up] at * <;> omega) | (simp [am_c, am_up] at * <;> omega))
theorem w_best_X6 {l : Launch} {μ : am_N} {Q : Option am_V → am_N → Prop} {ν : am_N} (a : Int) (hS : sx ν μ) (ha0 : -2147483648 ≤ a) (ha1 : a ≤ 2147483647) (k : ∀ r μ', sx ν μ' → Q (some (.inl r)) μ') : am_Does l 78 [.inr (.inr 0), .inl a] μ Q := by
  refine am_Does_of (Nat.le_of_ble_eq_true rfl) (Nat.le_of_ble_eq_true rfl) (Nat.le_of_ble_eq_true rfl) ?_
  have hb := sx_all hS
  have lp50 : ∀ (m : Nat) (u v i : Int) (o5 : Option am_V) (μ : am_N) , sx ν μ → 1 ≤ a → a ≤ 60 → 0 ≤ i → i ≤ 5 → 5 - i < (m : Int) → am_AW l 0 (fun _ => 0) 78 Q 50 [some (.inr (.inr 0)), some (.inl a), some (.inl u), some (.inl v), some (.inl i), o5] [] μ := by
    intro m
    induction m with
    | zero =>
      intro u v i o5 μ hv0 hv1 hv2 hv3 hv4 hm
      have hb := sx_all hv0
      exfalso
      omega
    | succ m ih =>
      intro u v i o5 μ hv0 hv1 hv2 hv3 hv4 hm
      have hb := sx_all hv0
      refine am_go (ct := fun pc => Nat.beq pc 50) am_oX6_best 300 ?_
      conv => whnf
      repeat' first
        | (refine (?_ : am_wp _ _ _ _ _ _ _ _ _ _ _ _); conv => whnf)
        | (refine (?_ : am_sw _ _ _ _); conv => whnf)
        | refine And.intro trivial ?_
        | exact trivial
        | (with_reducible assumption)
        | ((with_reducible refine (?_ : _ ∧ _)); first | (with_reducible first | refine am_jn am_q1 ?_ | refine am_jn am_q2 ?_ | refine am_jn am_q3 ?_ | refine am_jn am_q4 ?_ | refine am_jn am_q6 ?_ | refine am_jn am_q9 ?_ | refine am_jn am_p1 ?_ | refine am_jy am_p0 ?_ | refine am_kn am_q1 ?_ | refine am_kn am_q2 ?_ | refine am_kn am_q3 ?_ | refine am_kn am_q4 ?_ | refine am_kn am_q6 ?_ | refine am_kn am_q9 ?_ | refine am_kn am_p1 ?_ | refine am_ky am_p0 ?_) | refine And.intro (fun h => absurd h (by decide)) (fun _ => ?_) | refine And.intro (fun _ => ?_) (fun h => absurd (by decide) h) | refine And.intro (fun _ => ?_) (fun _ => ?_) | refine And.intro ?_ ?_)
        | refine k _ _ ?_
        | refine sx_up ?_ rfl
        | ((with_reducible refine (?_ : am_Does _ 113 _ _ _)); refine w_refuse_X6 (ν := ν) _ ?_ ?_ ?_ (fun _ _ _ => ?_))
        | ((with_reducible refine (?_ : am_Does _ 2 _ _ _)); first | ((with_reducible refine (?_ : am_Does _ 2 (Sum.inr (Sum.inr 8) :: Sum.inr (Sum.inr 1) :: _) _ _)); refine w_take_X0_8_1 (ν := ν)  ?_  (fun _ _ => ?_)) | ((with_reducible refine (?_ : am_Does _ 2 (Sum.inr (Sum.inr 15) :: Sum.inr (Sum.inr 8) :: _) _ _)); refine w_take_X0_15_8 (ν := ν)  ?_  (fun _ _ => ?_)) | refine w_take_X0_8_1 (ν := ν)  ?_  (fun _ _ => ?_) | refine w_take_X0_15_8 (ν := ν)  ?_  (fun _ _ => ?_))
        | ((with_reducible refine (?_ : am_Does _ 127 _ _ _)); refine w_gaps_X6 (ν := ν) _ _ ?_ ?_ ?_ (fun _ _ _ => ?_))
        | ((with_reducible refine (?_ : am_AW _ _ _ _ _ 50 _ _ _)); refine ih _ _ _ _ _ ?_ ?_ ?_ ?_ ?_ ?_)
        | refine And.intro (fun h => absurd h (by decide)) (fun _ => ?_)
        | refine And.intro (fun _ => ?_) (fun h => absurd (by decide) h)
        | refine And.intro (fun _ => ?_) (fun _ => ?_)
        | refine And.intro ?_ ?_
      all_goals (first | (with_reducible assumption) | decide | omega | assumption | (intros; omega) | (intros; simp only [am_c] at * <;> omega) | (simp only [am_c, am_up] at * <;> omega) | (simp [am_c, am_up] at * <;> omega))
  have lp50' : ∀ (u v i : Int) (o5 : Option am_V) (μ : am_N) , sx ν μ → 1 ≤ a → a ≤ 60 → 0 ≤ i → i ≤ 5 → am_AW l 0 (fun _ => 0) 78 Q 50 [some (.inr (.inr 0)), some (.inl a), some (.inl u), some (.inl v), some (.inl i), o5] [] μ := fun u v i o5 μ hv0 hv1 hv2 hv3 hv4 => lp50 ((5 - i) + 1).toNat u v i o5 μ hv0 hv1 hv2 hv3 hv4 (by omega)
  refine am_go (ct := fun pc => Nat.beq pc 50) am_oX6_best 300 ?_
  conv => whnf
  repeat' first
    | (refine (?_ : am_wp _ _ _ _ _ _ _ _ _ _ _ _); conv => whnf)
    | (refine (?_ : am_sw _ _ _ _); conv => whnf)
    | refine And.intro trivial ?_
    | exact trivial
    | (with_reducible assumption)
    | ((with_reducible refine (?_ : _ ∧ _)); first | (with_reducible first | refine am_jn am_q1 ?_ | refine am_jn am_q2 ?_ | refine am_jn am_q3 ?_ | refine am_jn am_q4 ?_ | refine am_jn am_q6 ?_ | refine am_jn am_q9 ?_ | refine am_jn am_p1 ?_ | refine am_jy am_p0 ?_ | refine am_kn am_q1 ?_ | refine am_kn am_q2 ?_ | refine am_kn am_q3 ?_ | refine am_kn am_q4 ?_ | refine am_kn am_q6 ?_ | refine am_kn am_q9 ?_ | refine am_kn am_p1 ?_ | refine am_ky am_p0 ?_) | refine And.intro (fun h => absurd h (by decide)) (fun _ => ?_) | refine And.intro (fun _ => ?_) (fun h => absurd (by decide) h) | refine And.intro (fun _ => ?_) (fun _ => ?_) | refine And.intro ?_ ?_)
    | refine k _ _ ?_
    | refine sx_up ?_ rfl
    | ((with_reducible refine (?_ : am_Does _ 113 _ _ _)); refine w_refuse_X6 (ν := ν) _ ?_ ?_ ?_ (fun _ _ _ => ?_))
    | ((with_reducible refine (?_ : am_Does _ 2 _ _ _)); first | ((with_reducible refine (?_ : am_Does _ 2 (Sum.inr (Sum.inr 8) :: Sum.inr (Sum.inr 1) :: _) _ _)); refine w_take_X0_8_1 (ν := ν)  ?_  (fun _ _ => ?_)) | ((with_reducible refine (?_ : am_Does _ 2 (Sum.inr (Sum.inr 15) :: Sum.inr (Sum.inr 8) :: _) _ _)); refine w_take_X0_15_8 (ν := ν)  ?_  (fun _ _ => ?_)) | refine w_take_X0_8_1 (ν := ν)  ?_  (fun _ _ => ?_) | refine w_take_X0_15_8 (ν := ν)  ?_  (fun _ _ => ?_))
    | ((with_reducible refine (?_ : am_Does _ 127 _ _ _)); refine w_gaps_X6 (ν := ν) _ _ ?_ ?_ ?_ (fun _ _ _ => ?_))
    | ((with_reducible refine (?_ : am_AW _ _ _ _ _ 50 _ _ _)); refine lp50' _ _ _ _ _ ?_ ?_ ?_ ?_ ?_)
    | refine And.intro (fun h => absurd h (by decide)) (fun _ => ?_)
    | refine And.intro (fun _ => ?_) (fun h => absurd (by decide) h)
    | refine And.intro (fun _ => ?_) (fun _ => ?_)
    | refine And.intro ?_ ?_
  all_goals (first | (with_reducible assumption) | decide | omega | assumption | (intros; omega) | (intros; simp only [am_c] at * <;> omega) | (simp only [am_c, am_up] at * <;> omega) | (simp [am_c, am_up] at * <;> omega))
theorem w_pays_X6 {l : Launch} {μ : am_N} {Q : Option am_V → am_N → Prop} {ν : am_N} (a b : Int) (hS : sx ν μ) (ha0 : -2147483648 ≤ a) (ha1 : a ≤ 2147483647) (hb0 : -2147483648 ≤ b) (hb1 : b ≤ 2147483647) (k : ∀ r μ', sx ν μ' → Q (some (.inl r)) μ') : am_Does l 79 [.inr (.inr 0), .inl a, .inl b] μ Q := by
  refine am_Does_of (Nat.le_of_ble_eq_true rfl) (Nat.le_of_ble_eq_true rfl) (Nat.le_of_ble_eq_true rfl) ?_
  have hb := sx_all hS
  refine am_go (ct := fun _ => false) am_oX6_pays 300 ?_
  conv => whnf
  repeat' first
    | (refine (?_ : am_wp _ _ _ _ _ _ _ _ _ _ _ _); conv => whnf)
    | (refine (?_ : am_sw _ _ _ _); conv => whnf)
    | refine And.intro trivial ?_
    | exact trivial
    | (with_reducible assumption)
    | ((with_reducible refine (?_ : _ ∧ _)); first | (with_reducible first | refine am_jn am_q1 ?_ | refine am_jn am_q2 ?_ | refine am_jn am_q3 ?_ | refine am_jn am_q4 ?_ | refine am_jn am_q6 ?_ | refine am_jn am_q9 ?_ | refine am_jn am_p1 ?_ | refine am_jy am_p0 ?_ | refine am_kn am_q1 ?_ | refine am_kn am_q2 ?_ | refine am_kn am_q3 ?_ | refine am_kn am_q4 ?_ | refine am_kn am_q6 ?_ | refine am_kn am_q9 ?_ | refine am_kn am_p1 ?_ | refine am_ky am_p0 ?_) | refine And.intro (fun h => absurd h (by decide)) (fun _ => ?_) | refine And.intro (fun _ => ?_) (fun h => absurd (by decide) h) | refine And.intro (fun _ => ?_) (fun _ => ?_) | refine And.intro ?_ ?_)
    | refine k _ _ ?_
    | refine sx_up ?_ rfl
    | ((with_reducible refine (?_ : am_Does _ 1 _ _ _)); first | ((with_reducible refine (?_ : am_Does _ 1 (Sum.inr (Sum.inr 1) :: _) _ _)); refine w_has_X0_1 (ν := ν) _ ?_ (fun _ _ _ => ?_) (fun _ => ?_)) | ((with_reducible refine (?_ : am_Does _ 1 (Sum.inr (Sum.inr 8) :: _) _ _)); refine w_has_X0_8 (ν := ν) _ ?_ (fun _ _ _ => ?_) (fun _ => ?_)) | ((with_reducible refine (?_ : am_Does _ 1 (Sum.inr (Sum.inr 15) :: _) _ _)); refine w_has_X0_15 (ν := ν) _ ?_ (fun _ _ _ => ?_) (fun _ => ?_)) | refine w_has_X0_1 (ν := ν) _ ?_ (fun _ _ _ => ?_) (fun _ => ?_) | refine w_has_X0_8 (ν := ν) _ ?_ (fun _ _ _ => ?_) (fun _ => ?_) | refine w_has_X0_15 (ν := ν) _ ?_ (fun _ _ _ => ?_) (fun _ => ?_))
    | ((with_reducible refine (?_ : am_Does _ 114 _ _ _)); refine w_refuseHigh_X6 (ν := ν) _ ?_ ?_ ?_ (fun _ _ _ => ?_))
    | ((with_reducible refine (?_ : am_Does _ 126 _ _ _)); refine w_winsAs_X6 (ν := ν) _ _ _ ?_ ?_ ?_ ?_ ?_ (fun _ _ _ => ?_))
    | refine And.intro (fun h => absurd h (by decide)) (fun _ => ?_)
    | refine And.intro (fun _ => ?_) (fun h => absurd (by decide) h)
    | refine And.intro (fun _ => ?_) (fun _ => ?_)
    | refine And.intro ?_ ?_
  all_goals (first | (with_reducible assumption) | decide | omega | assumption | (intros; omega) | (intros; simp only [am_c] at * <;> omega) | (simp only [am_c, am_up] at * <;> omega) | (simp [am_c, am_up] at * <;> omega))
theorem w_worth_X6 {l : Launch} {μ : am_N} {Q : Option am_V → am_N → Prop} {ν : am_N} (a b : Int) (hS : sx ν μ) (ha0 : -2147483648 ≤ a) (ha1 : a ≤ 2147483647) (hb0 : -2147483648 ≤ b) (hb1 : b ≤ 2147483647) (k : ∀ r μ', sx ν μ' → Q (some (.inl r)) μ') : am_Does l 80 [.inr (.inr 0), .inl a, .inl b] μ Q := by
  refine am_Does_of (Nat.le_of_ble_eq_true rfl) (Nat.le_of_ble_eq_true rfl) (Nat.le_of_ble_eq_true rfl) ?_
  have hb := sx_all hS
  refine am_go (ct := fun _ => false) am_oX6_worth 300 ?_
  conv => whnf
  repeat' first
    | (refine (?_ : am_wp _ _ _ _ _ _ _ _ _ _ _ _); conv => whnf)
    | (refine (?_ : am_sw _ _ _ _); conv => whnf)
    | refine And.intro trivial ?_
    | exact trivial
    | (with_reducible assumption)
    | ((with_reducible refine (?_ : _ ∧ _)); first | (with_reducible first | refine am_jn am_q1 ?_ | refine am_jn am_q2 ?_ | refine am_jn am_q3 ?_ | refine am_jn am_q4 ?_ | refine am_jn am_q6 ?_ | refine am_jn am_q9 ?_ | refine am_jn am_p1 ?_ | refine am_jy am_p0 ?_ | refine am_kn am_q1 ?_ | refine am_kn am_q2 ?_ | refine am_kn am_q3 ?_ | refine am_kn am_q4 ?_ | refine am_kn am_q6 ?_ | refine am_kn am_q9 ?_ | refine am_kn am_p1 ?_ | refine am_ky am_p0 ?_) | refine And.intro (fun h => absurd h (by decide)) (fun _ => ?_) | refine And.intro (fun _ => ?_) (fun h => absurd (by decide) h) | refine And.intro (fun _ => ?_) (fun _ => ?_) | refine And.intro ?_ ?_)
    | refine k _ _ ?_
    | refine sx_up ?_ rfl
    | ((with_reducible refine (?_ : am_Does _ 1 _ _ _)); first | ((with_reducible refine (?_ : am_Does _ 1 (Sum.inr (Sum.inr 1) :: _) _ _)); refine w_has_X0_1 (ν := ν) _ ?_ (fun _ _ _ => ?_) (fun _ => ?_)) | ((with_reducible refine (?_ : am_Does _ 1 (Sum.inr (Sum.inr 8) :: _) _ _)); refine w_has_X0_8 (ν := ν) _ ?_ (fun _ _ _ => ?_) (fun _ => ?_)) | ((with_reducible refine (?_ : am_Does _ 1 (Sum.inr (Sum.inr 15) :: _) _ _)); refine w_has_X0_15 (ν := ν) _ ?_ (fun _ _ _ => ?_) (fun _ => ?_)) | refine w_has_X0_1 (ν := ν) _ ?_ (fun _ _ _ => ?_) (fun _ => ?_) | refine w_has_X0_8 (ν := ν) _ ?_ (fun _ _ _ => ?_) (fun _ => ?_) | refine w_has_X0_15 (ν := ν) _ ?_ (fun _ _ _ => ?_) (fun _ => ?_))
    | ((with_reducible refine (?_ : am_Does _ 114 _ _ _)); refine w_refuseHigh_X6 (ν := ν) _ ?_ ?_ ?_ (fun _ _ _ => ?_))
    | ((with_reducible refine (?_ : am_Does _ 128 _ _ _)); refine w_gained_X6 (ν := ν) _ _ ?_  (fun _ => ?_))
    | refine And.intro (fun h => absurd h (by decide)) (fun _ => ?_)
    | refine And.intro (fun _ => ?_) (fun h => absurd (by decide) h)
    | refine And.intro (fun _ => ?_) (fun _ => ?_)
    | refine And.intro ?_ ?_
  all_goals (first | (with_reducible assumption) | decide | omega | assumption | (intros; omega) | (intros; simp only [am_c] at * <;> omega) | (simp only [am_c, am_up] at * <;> omega) | (simp [am_c, am_up] at * <;> omega))
theorem w_same_X6 {l : Launch} {μ : am_N} {Q : Option am_V → am_N → Prop} {ν : am_N} (a b c : Int) (hS : sx ν μ) (ha0 : -2147483648 ≤ a) (ha1 : a ≤ 2147483647) (hb0 : -2147483648 ≤ b) (hb1 : b ≤ 2147483647) (hc0 : -2147483648 ≤ c) (hc1 : c ≤ 2147483647) (k : ∀ r μ', sx ν μ' → Q (some (.inl r)) μ') : am_Does l 81 [.inr (.inr 0), .inl a, .inl b, .inl c] μ Q := by
  refine am_Does_of (Nat.le_of_ble_eq_true rfl) (Nat.le_of_ble_eq_true rfl) (Nat.le_of_ble_eq_true rfl) ?_
  have hb := sx_all hS
  have lp50 : ∀ (m : Nat) (u i : Int) (μ : am_N) , sx ν μ → 0 ≤ i → i ≤ 100 → 100 - i < (m : Int) → am_AW l 0 (fun _ => 0) 81 Q 50 [some (.inr (.inr 0)), some (.inl a), some (.inl b), some (.inl c), some (.inl u), some (.inl i)] [] μ := by
    intro m
    induction m with
    | zero =>
      intro u i μ hv0 hv1 hv2 hm
      have hb := sx_all hv0
      exfalso
      omega
    | succ m ih =>
      intro u i μ hv0 hv1 hv2 hm
      have hb := sx_all hv0
      refine am_go (ct := fun pc => Nat.beq pc 50) am_oX6_same 300 ?_
      conv => whnf
      repeat' first
        | (refine (?_ : am_wp _ _ _ _ _ _ _ _ _ _ _ _); conv => whnf)
        | (refine (?_ : am_sw _ _ _ _); conv => whnf)
        | refine And.intro trivial ?_
        | exact trivial
        | (with_reducible assumption)
        | ((with_reducible refine (?_ : _ ∧ _)); first | (with_reducible first | refine am_jn am_q1 ?_ | refine am_jn am_q2 ?_ | refine am_jn am_q3 ?_ | refine am_jn am_q4 ?_ | refine am_jn am_q6 ?_ | refine am_jn am_q9 ?_ | refine am_jn am_p1 ?_ | refine am_jy am_p0 ?_ | refine am_kn am_q1 ?_ | refine am_kn am_q2 ?_ | refine am_kn am_q3 ?_ | refine am_kn am_q4 ?_ | refine am_kn am_q6 ?_ | refine am_kn am_q9 ?_ | refine am_kn am_p1 ?_ | refine am_ky am_p0 ?_) | refine And.intro (fun h => absurd h (by decide)) (fun _ => ?_) | refine And.intro (fun _ => ?_) (fun h => absurd (by decide) h) | refine And.intro (fun _ => ?_) (fun _ => ?_) | refine And.intro ?_ ?_)
        | refine k _ _ ?_
        | refine sx_up ?_ rfl
        | ((with_reducible refine (?_ : am_Does _ 117 _ _ _)); refine w_notTwo_X6 (ν := ν) _ _ ?_ ?_ (fun _ _ _ _ => ?_))
        | ((with_reducible refine (?_ : am_Does _ 113 _ _ _)); refine w_refuse_X6 (ν := ν) _ ?_ ?_ ?_ (fun _ _ _ => ?_))
        | ((with_reducible refine (?_ : am_Does _ 128 _ _ _)); refine w_gained_X6 (ν := ν) _ _ ?_  (fun _ => ?_))
        | ((with_reducible refine (?_ : am_AW _ _ _ _ _ 50 _ _ _)); refine ih _ _ _ ?_ ?_ ?_ ?_)
        | refine And.intro (fun h => absurd h (by decide)) (fun _ => ?_)
        | refine And.intro (fun _ => ?_) (fun h => absurd (by decide) h)
        | refine And.intro (fun _ => ?_) (fun _ => ?_)
        | refine And.intro ?_ ?_
      all_goals (first | (with_reducible assumption) | decide | omega | assumption | (intros; omega) | (intros; simp only [am_c] at * <;> omega) | (simp only [am_c, am_up] at * <;> omega) | (simp [am_c, am_up] at * <;> omega))
  have lp50' : ∀ (u i : Int) (μ : am_N) , sx ν μ → 0 ≤ i → i ≤ 100 → am_AW l 0 (fun _ => 0) 81 Q 50 [some (.inr (.inr 0)), some (.inl a), some (.inl b), some (.inl c), some (.inl u), some (.inl i)] [] μ := fun u i μ hv0 hv1 hv2 => lp50 ((100 - i) + 1).toNat u i μ hv0 hv1 hv2 (by omega)
  refine am_go (ct := fun pc => Nat.beq pc 50) am_oX6_same 300 ?_
  conv => whnf
  repeat' first
    | (refine (?_ : am_wp _ _ _ _ _ _ _ _ _ _ _ _); conv => whnf)
    | (refine (?_ : am_sw _ _ _ _); conv => whnf)
    | refine And.intro trivial ?_
    | exact trivial
    | (with_reducible assumption)
    | ((with_reducible refine (?_ : _ ∧ _)); first | (with_reducible first | refine am_jn am_q1 ?_ | refine am_jn am_q2 ?_ | refine am_jn am_q3 ?_ | refine am_jn am_q4 ?_ | refine am_jn am_q6 ?_ | refine am_jn am_q9 ?_ | refine am_jn am_p1 ?_ | refine am_jy am_p0 ?_ | refine am_kn am_q1 ?_ | refine am_kn am_q2 ?_ | refine am_kn am_q3 ?_ | refine am_kn am_q4 ?_ | refine am_kn am_q6 ?_ | refine am_kn am_q9 ?_ | refine am_kn am_p1 ?_ | refine am_ky am_p0 ?_) | refine And.intro (fun h => absurd h (by decide)) (fun _ => ?_) | refine And.intro (fun _ => ?_) (fun h => absurd (by decide) h) | refine And.intro (fun _ => ?_) (fun _ => ?_) | refine And.intro ?_ ?_)
    | refine k _ _ ?_
    | refine sx_up ?_ rfl
    | ((with_reducible refine (?_ : am_Does _ 117 _ _ _)); refine w_notTwo_X6 (ν := ν) _ _ ?_ ?_ (fun _ _ _ _ => ?_))
    | ((with_reducible refine (?_ : am_Does _ 113 _ _ _)); refine w_refuse_X6 (ν := ν) _ ?_ ?_ ?_ (fun _ _ _ => ?_))
    | ((with_reducible refine (?_ : am_Does _ 128 _ _ _)); refine w_gained_X6 (ν := ν) _ _ ?_  (fun _ => ?_))
    | ((with_reducible refine (?_ : am_AW _ _ _ _ _ 50 _ _ _)); refine lp50' _ _ _ ?_ ?_ ?_)
    | refine And.intro (fun h => absurd h (by decide)) (fun _ => ?_)
    | refine And.intro (fun _ => ?_) (fun h => absurd (by decide) h)
    | refine And.intro (fun _ => ?_) (fun _ => ?_)
    | refine And.intro ?_ ?_
  all_goals (first | (with_reducible assumption) | decide | omega | assumption | (intros; omega) | (intros; simp only [am_c] at * <;> omega) | (simp only [am_c, am_up] at * <;> omega) | (simp [am_c, am_up] at * <;> omega))
theorem w_teams_X6 {l : Launch} {μ : am_N} {Q : Option am_V → am_N → Prop} {ν : am_N} (a : Int) (hS : sx ν μ) (ha0 : -2147483648 ≤ a) (ha1 : a ≤ 2147483647) (k : ∀ r μ', sx ν μ' → Q (some (.inl r)) μ') : am_Does l 82 [.inr (.inr 0), .inl a] μ Q := by
  refine am_Does_of (Nat.le_of_ble_eq_true rfl) (Nat.le_of_ble_eq_true rfl) (Nat.le_of_ble_eq_true rfl) ?_
  have hb := sx_all hS
  have hsh := am_shl14 (n := μ 1 4) hb.1.1 hb.1.2
  have lp52 : ∀ (m : Nat) (q u v i : Int) (o6 : Option am_V) (μ : am_N) , sx ν μ → 1 ≤ i → i ≤ 17 → 0 ≤ q → q ≤ 15 → 17 - i < (m : Int) → am_AW l 0 (fun _ => 0) 82 Q 52 [some (.inr (.inr 0)), some (.inl a), some (.inl q), some (.inl u), some (.inl v), some (.inl i), o6] [] μ := by
    intro m
    induction m with
    | zero =>
      intro q u v i o6 μ hv0 hv1 hv2 hv3 hv4 hm
      have hb := sx_all hv0
      exfalso
      omega
    | succ m ih =>
      intro q u v i o6 μ hv0 hv1 hv2 hv3 hv4 hm
      have hb := sx_all hv0
      refine am_go (ct := fun pc => Nat.beq pc 52) am_oX6_teams 300 ?_
      conv => whnf
      repeat' first
        | (refine (?_ : am_wp _ _ _ _ _ _ _ _ _ _ _ _); conv => whnf)
        | (refine (?_ : am_sw _ _ _ _); conv => whnf)
        | refine And.intro trivial ?_
        | exact trivial
        | (with_reducible assumption)
        | ((with_reducible refine (?_ : _ ∧ _)); first | (with_reducible first | refine am_jn am_q1 ?_ | refine am_jn am_q2 ?_ | refine am_jn am_q3 ?_ | refine am_jn am_q4 ?_ | refine am_jn am_q6 ?_ | refine am_jn am_q9 ?_ | refine am_jn am_p1 ?_ | refine am_jy am_p0 ?_ | refine am_kn am_q1 ?_ | refine am_kn am_q2 ?_ | refine am_kn am_q3 ?_ | refine am_kn am_q4 ?_ | refine am_kn am_q6 ?_ | refine am_kn am_q9 ?_ | refine am_kn am_p1 ?_ | refine am_ky am_p0 ?_) | refine And.intro (fun h => absurd h (by decide)) (fun _ => ?_) | refine And.intro (fun _ => ?_) (fun h => absurd (by decide) h) | refine And.intro (fun _ => ?_) (fun _ => ?_) | refine And.intro ?_ ?_)
        | refine k _ _ ?_
        | refine sx_up ?_ rfl
        | ((with_reducible refine (?_ : am_Does _ 116 _ _ _)); refine w_noPart_X6 _ ?_ (fun _ => ?_))
        | ((with_reducible refine (?_ : am_Does _ 113 _ _ _)); refine w_refuse_X6 (ν := ν) _ ?_ ?_ ?_ (fun _ _ _ => ?_))
        | ((with_reducible refine (?_ : am_Does _ 129 _ _ _)); refine w_apart_X6 (ν := ν) _ ?_  (fun _ => ?_))
        | ((with_reducible refine (?_ : am_AW _ _ _ _ _ 52 _ _ _)); refine ih _ _ _ _ _ _ ?_ ?_ ?_ ?_ ?_ ?_)
        | refine And.intro (fun h => absurd h (by decide)) (fun _ => ?_)
        | refine And.intro (fun _ => ?_) (fun h => absurd (by decide) h)
        | refine And.intro (fun _ => ?_) (fun _ => ?_)
        | refine And.intro ?_ ?_
      all_goals (first | (with_reducible assumption) | decide | omega | assumption | (intros; omega) | (intros; simp only [am_c] at * <;> omega) | (simp only [am_c, am_up] at * <;> omega) | (simp [am_c, am_up] at * <;> omega))
  have lp52' : ∀ (q u v i : Int) (o6 : Option am_V) (μ : am_N) , sx ν μ → 1 ≤ i → i ≤ 17 → 0 ≤ q → q ≤ 15 → am_AW l 0 (fun _ => 0) 82 Q 52 [some (.inr (.inr 0)), some (.inl a), some (.inl q), some (.inl u), some (.inl v), some (.inl i), o6] [] μ := fun q u v i o6 μ hv0 hv1 hv2 hv3 hv4 => lp52 ((17 - i) + 1).toNat q u v i o6 μ hv0 hv1 hv2 hv3 hv4 (by omega)
  refine am_go (ct := fun pc => Nat.beq pc 52) am_oX6_teams 300 ?_
  conv => whnf
  repeat' first
    | (refine (?_ : am_wp _ _ _ _ _ _ _ _ _ _ _ _); conv => whnf)
    | (refine (?_ : am_sw _ _ _ _); conv => whnf)
    | refine And.intro trivial ?_
    | exact trivial
    | (with_reducible assumption)
    | ((with_reducible refine (?_ : _ ∧ _)); first | (with_reducible first | refine am_jn am_q1 ?_ | refine am_jn am_q2 ?_ | refine am_jn am_q3 ?_ | refine am_jn am_q4 ?_ | refine am_jn am_q6 ?_ | refine am_jn am_q9 ?_ | refine am_jn am_p1 ?_ | refine am_jy am_p0 ?_ | refine am_kn am_q1 ?_ | refine am_kn am_q2 ?_ | refine am_kn am_q3 ?_ | refine am_kn am_q4 ?_ | refine am_kn am_q6 ?_ | refine am_kn am_q9 ?_ | refine am_kn am_p1 ?_ | refine am_ky am_p0 ?_) | refine And.intro (fun h => absurd h (by decide)) (fun _ => ?_) | refine And.intro (fun _ => ?_) (fun h => absurd (by decide) h) | refine And.intro (fun _ => ?_) (fun _ => ?_) | refine And.intro ?_ ?_)
    | refine k _ _ ?_
    | refine sx_up ?_ rfl
    | ((with_reducible refine (?_ : am_Does _ 116 _ _ _)); refine w_noPart_X6 _ ?_ (fun _ => ?_))
    | ((with_reducible refine (?_ : am_Does _ 113 _ _ _)); refine w_refuse_X6 (ν := ν) _ ?_ ?_ ?_ (fun _ _ _ => ?_))
    | ((with_reducible refine (?_ : am_Does _ 129 _ _ _)); refine w_apart_X6 (ν := ν) _ ?_  (fun _ => ?_))
    | ((with_reducible refine (?_ : am_AW _ _ _ _ _ 52 _ _ _)); refine lp52' _ _ _ _ _ _ ?_ ?_ ?_ ?_ ?_)
    | refine And.intro (fun h => absurd h (by decide)) (fun _ => ?_)
    | refine And.intro (fun _ => ?_) (fun h => absurd (by decide) h)
    | refine And.intro (fun _ => ?_) (fun _ => ?_)
    | refine And.intro ?_ ?_
  all_goals (first | (with_reducible assumption) | decide | omega | assumption | (intros; omega) | (intros; simp only [am_c] at * <;> omega) | (simp only [am_c, am_up] at * <;> omega) | (simp [am_c, am_up] at * <;> omega))
theorem w_longer_X6 {l : Launch} {μ : am_N} {Q : Option am_V → am_N → Prop} {ν : am_N} (a : Int) (hS : sx ν μ) (ha0 : -2147483648 ≤ a) (ha1 : a ≤ 2147483647) (k : ∀ r μ', sx ν μ' → Q (some (.inl r)) μ') : am_Does l 83 [.inr (.inr 0), .inl a] μ Q := by
  refine am_Does_of (Nat.le_of_ble_eq_true rfl) (Nat.le_of_ble_eq_true rfl) (Nat.le_of_ble_eq_true rfl) ?_
  have hb := sx_all hS
  have lp31 : ∀ (m : Nat) (i : Int) (μ : am_N) , sx ν μ → 20 ≤ i → i ≤ 201 → 201 - i < (m : Int) → am_AW l 0 (fun _ => 0) 83 Q 31 [some (.inr (.inr 0)), some (.inl a), some (.inl i)] [] μ := by
    intro m
    induction m with
    | zero =>
      intro i μ hv0 hv1 hv2 hm
      have hb := sx_all hv0
      exfalso
      omega
    | succ m ih =>
      intro i μ hv0 hv1 hv2 hm
      have hb := sx_all hv0
      refine am_go (ct := fun pc => Nat.beq pc 31) am_oX6_longer 300 ?_
      conv => whnf
      repeat' first
        | (refine (?_ : am_wp _ _ _ _ _ _ _ _ _ _ _ _); conv => whnf)
        | (refine (?_ : am_sw _ _ _ _); conv => whnf)
        | refine And.intro trivial ?_
        | exact trivial
        | (with_reducible assumption)
        | ((with_reducible refine (?_ : _ ∧ _)); first | (with_reducible first | refine am_jn am_q1 ?_ | refine am_jn am_q2 ?_ | refine am_jn am_q3 ?_ | refine am_jn am_q4 ?_ | refine am_jn am_q6 ?_ | refine am_jn am_q9 ?_ | refine am_jn am_p1 ?_ | refine am_jy am_p0 ?_ | refine am_kn am_q1 ?_ | refine am_kn am_q2 ?_ | refine am_kn am_q3 ?_ | refine am_kn am_q4 ?_ | refine am_kn am_q6 ?_ | refine am_kn am_q9 ?_ | refine am_kn am_p1 ?_ | refine am_ky am_p0 ?_) | refine And.intro (fun h => absurd h (by decide)) (fun _ => ?_) | refine And.intro (fun _ => ?_) (fun h => absurd (by decide) h) | refine And.intro (fun _ => ?_) (fun _ => ?_) | refine And.intro ?_ ?_)
        | refine k _ _ ?_
        | refine sx_up ?_ rfl
        | ((with_reducible refine (?_ : am_Does _ 1 _ _ _)); first | ((with_reducible refine (?_ : am_Does _ 1 (Sum.inr (Sum.inr 1) :: _) _ _)); refine w_has_X0_1 (ν := ν) _ ?_ (fun _ _ _ => ?_) (fun _ => ?_)) | ((with_reducible refine (?_ : am_Does _ 1 (Sum.inr (Sum.inr 8) :: _) _ _)); refine w_has_X0_8 (ν := ν) _ ?_ (fun _ _ _ => ?_) (fun _ => ?_)) | ((with_reducible refine (?_ : am_Does _ 1 (Sum.inr (Sum.inr 15) :: _) _ _)); refine w_has_X0_15 (ν := ν) _ ?_ (fun _ _ _ => ?_) (fun _ => ?_)) | refine w_has_X0_1 (ν := ν) _ ?_ (fun _ _ _ => ?_) (fun _ => ?_) | refine w_has_X0_8 (ν := ν) _ ?_ (fun _ _ _ => ?_) (fun _ => ?_) | refine w_has_X0_15 (ν := ν) _ ?_ (fun _ _ _ => ?_) (fun _ => ?_))
        | ((with_reducible refine (?_ : am_Does _ 113 _ _ _)); refine w_refuse_X6 (ν := ν) _ ?_ ?_ ?_ (fun _ _ _ => ?_))
        | ((with_reducible refine (?_ : am_Does _ 2 _ _ _)); first | ((with_reducible refine (?_ : am_Does _ 2 (Sum.inr (Sum.inr 8) :: Sum.inr (Sum.inr 1) :: _) _ _)); refine w_take_X0_8_1 (ν := ν)  ?_  (fun _ _ => ?_)) | ((with_reducible refine (?_ : am_Does _ 2 (Sum.inr (Sum.inr 15) :: Sum.inr (Sum.inr 8) :: _) _ _)); refine w_take_X0_15_8 (ν := ν)  ?_  (fun _ _ => ?_)) | refine w_take_X0_8_1 (ν := ν)  ?_  (fun _ _ => ?_) | refine w_take_X0_15_8 (ν := ν)  ?_  (fun _ _ => ?_))
        | ((with_reducible refine (?_ : am_Does _ 21 _ _ _)); first | ((with_reducible refine (?_ : am_Does _ 21 (Sum.inr (Sum.inr 29) :: Sum.inr (Sum.inr 1) :: _) _ _)); refine w_draw_X2_29_1 (ν := ν)  ?_  (fun _ _ => ?_)) | ((with_reducible refine (?_ : am_Does _ 21 (Sum.inr (Sum.inr 29) :: Sum.inr (Sum.inr 8) :: _) _ _)); refine w_draw_X2_29_8 (ν := ν)  ?_  (fun _ _ => ?_)) | ((with_reducible refine (?_ : am_Does _ 21 (Sum.inr (Sum.inr 29) :: Sum.inr (Sum.inr 15) :: _) _ _)); refine w_draw_X2_29_15 (ν := ν)  ?_  (fun _ _ => ?_)) | refine w_draw_X2_29_1 (ν := ν)  ?_  (fun _ _ => ?_) | refine w_draw_X2_29_8 (ν := ν)  ?_  (fun _ _ => ?_) | refine w_draw_X2_29_15 (ν := ν)  ?_  (fun _ _ => ?_))
        | ((with_reducible refine (?_ : am_Does _ 24 _ _ _)); refine w_ways_X2_29 (ν := ν) _ ?_  (fun _ => ?_))
        | ((with_reducible refine (?_ : am_Does _ 23 _ _ _)); refine w_allWays_X2_29 (ν := ν)  ?_  (fun _ => ?_))
        | ((with_reducible refine (?_ : am_AW _ _ _ _ _ 31 _ _ _)); refine ih _ _ ?_ ?_ ?_ ?_)
        | refine And.intro (fun h => absurd h (by decide)) (fun _ => ?_)
        | refine And.intro (fun _ => ?_) (fun h => absurd (by decide) h)
        | refine And.intro (fun _ => ?_) (fun _ => ?_)
        | refine And.intro ?_ ?_
      all_goals (first | (with_reducible assumption) | decide | omega | assumption | (intros; omega) | (intros; simp only [am_c] at * <;> omega) | (simp only [am_c, am_up] at * <;> omega) | (simp [am_c, am_up] at * <;> omega))
  have lp31' : ∀ (i : Int) (μ : am_N) , sx ν μ → 20 ≤ i → i ≤ 201 → am_AW l 0 (fun _ => 0) 83 Q 31 [some (.inr (.inr 0)), some (.inl a), some (.inl i)] [] μ := fun i μ hv0 hv1 hv2 => lp31 ((201 - i) + 1).toNat i μ hv0 hv1 hv2 (by omega)
  refine am_go (ct := fun pc => Nat.beq pc 31) am_oX6_longer 300 ?_
  conv => whnf
  repeat' first
    | (refine (?_ : am_wp _ _ _ _ _ _ _ _ _ _ _ _); conv => whnf)
    | (refine (?_ : am_sw _ _ _ _); conv => whnf)
    | refine And.intro trivial ?_
    | exact trivial
    | (with_reducible assumption)
    | ((with_reducible refine (?_ : _ ∧ _)); first | (with_reducible first | refine am_jn am_q1 ?_ | refine am_jn am_q2 ?_ | refine am_jn am_q3 ?_ | refine am_jn am_q4 ?_ | refine am_jn am_q6 ?_ | refine am_jn am_q9 ?_ | refine am_jn am_p1 ?_ | refine am_jy am_p0 ?_ | refine am_kn am_q1 ?_ | refine am_kn am_q2 ?_ | refine am_kn am_q3 ?_ | refine am_kn am_q4 ?_ | refine am_kn am_q6 ?_ | refine am_kn am_q9 ?_ | refine am_kn am_p1 ?_ | refine am_ky am_p0 ?_) | refine And.intro (fun h => absurd h (by decide)) (fun _ => ?_) | refine And.intro (fun _ => ?_) (fun h => absurd (by decide) h) | refine And.intro (fun _ => ?_) (fun _ => ?_) | refine And.intro ?_ ?_)
    | refine k _ _ ?_
    | refine sx_up ?_ rfl
    | ((with_reducible refine (?_ : am_Does _ 1 _ _ _)); first | ((with_reducible refine (?_ : am_Does _ 1 (Sum.inr (Sum.inr 1) :: _) _ _)); refine w_has_X0_1 (ν := ν) _ ?_ (fun _ _ _ => ?_) (fun _ => ?_)) | ((with_reducible refine (?_ : am_Does _ 1 (Sum.inr (Sum.inr 8) :: _) _ _)); refine w_has_X0_8 (ν := ν) _ ?_ (fun _ _ _ => ?_) (fun _ => ?_)) | ((with_reducible refine (?_ : am_Does _ 1 (Sum.inr (Sum.inr 15) :: _) _ _)); refine w_has_X0_15 (ν := ν) _ ?_ (fun _ _ _ => ?_) (fun _ => ?_)) | refine w_has_X0_1 (ν := ν) _ ?_ (fun _ _ _ => ?_) (fun _ => ?_) | refine w_has_X0_8 (ν := ν) _ ?_ (fun _ _ _ => ?_) (fun _ => ?_) | refine w_has_X0_15 (ν := ν) _ ?_ (fun _ _ _ => ?_) (fun _ => ?_))
    | ((with_reducible refine (?_ : am_Does _ 113 _ _ _)); refine w_refuse_X6 (ν := ν) _ ?_ ?_ ?_ (fun _ _ _ => ?_))
    | ((with_reducible refine (?_ : am_Does _ 2 _ _ _)); first | ((with_reducible refine (?_ : am_Does _ 2 (Sum.inr (Sum.inr 8) :: Sum.inr (Sum.inr 1) :: _) _ _)); refine w_take_X0_8_1 (ν := ν)  ?_  (fun _ _ => ?_)) | ((with_reducible refine (?_ : am_Does _ 2 (Sum.inr (Sum.inr 15) :: Sum.inr (Sum.inr 8) :: _) _ _)); refine w_take_X0_15_8 (ν := ν)  ?_  (fun _ _ => ?_)) | refine w_take_X0_8_1 (ν := ν)  ?_  (fun _ _ => ?_) | refine w_take_X0_15_8 (ν := ν)  ?_  (fun _ _ => ?_))
    | ((with_reducible refine (?_ : am_Does _ 21 _ _ _)); first | ((with_reducible refine (?_ : am_Does _ 21 (Sum.inr (Sum.inr 29) :: Sum.inr (Sum.inr 1) :: _) _ _)); refine w_draw_X2_29_1 (ν := ν)  ?_  (fun _ _ => ?_)) | ((with_reducible refine (?_ : am_Does _ 21 (Sum.inr (Sum.inr 29) :: Sum.inr (Sum.inr 8) :: _) _ _)); refine w_draw_X2_29_8 (ν := ν)  ?_  (fun _ _ => ?_)) | ((with_reducible refine (?_ : am_Does _ 21 (Sum.inr (Sum.inr 29) :: Sum.inr (Sum.inr 15) :: _) _ _)); refine w_draw_X2_29_15 (ν := ν)  ?_  (fun _ _ => ?_)) | refine w_draw_X2_29_1 (ν := ν)  ?_  (fun _ _ => ?_) | refine w_draw_X2_29_8 (ν := ν)  ?_  (fun _ _ => ?_) | refine w_draw_X2_29_15 (ν := ν)  ?_  (fun _ _ => ?_))
    | ((with_reducible refine (?_ : am_Does _ 24 _ _ _)); refine w_ways_X2_29 (ν := ν) _ ?_  (fun _ => ?_))
    | ((with_reducible refine (?_ : am_Does _ 23 _ _ _)); refine w_allWays_X2_29 (ν := ν)  ?_  (fun _ => ?_))
    | ((with_reducible refine (?_ : am_AW _ _ _ _ _ 31 _ _ _)); refine lp31' _ _ ?_ ?_ ?_)
    | refine And.intro (fun h => absurd h (by decide)) (fun _ => ?_)
    | refine And.intro (fun _ => ?_) (fun h => absurd (by decide) h)
    | refine And.intro (fun _ => ?_) (fun _ => ?_)
    | refine And.intro ?_ ?_
  all_goals (first | (with_reducible assumption) | decide | omega | assumption | (intros; omega) | (intros; simp only [am_c] at * <;> omega) | (simp only [am_c, am_up] at * <;> omega) | (simp [am_c, am_up] at * <;> omega))
theorem w_fits_X6 {l : Launch} {μ : am_N} {Q : Option am_V → am_N → Prop} {ν : am_N} (a b : Int) (hS : sx ν μ) (ha0 : -2147483648 ≤ a) (ha1 : a ≤ 2147483647) (hb0 : -2147483648 ≤ b) (hb1 : b ≤ 2147483647) (k : ∀ r μ', sx ν μ' → Q (some (.inl r)) μ') : am_Does l 84 [.inr (.inr 0), .inl a, .inl b] μ Q := by
  refine am_Does_of (Nat.le_of_ble_eq_true rfl) (Nat.le_of_ble_eq_true rfl) (Nat.le_of_ble_eq_true rfl) ?_
  have hb := sx_all hS
  have lp41 : ∀ (m : Nat) (u v i : Int) (μ : am_N) , sx ν μ → 0 ≤ am_c a → am_c a < 4 → -1 ≤ i → i ≤ 99 → i + 1 < (m : Int) → am_AW l 0 (fun _ => 0) 84 Q 41 [some (.inr (.inr 0)), some (.inl a), some (.inl b), some (.inl u), some (.inl v), some (.inl i)] [] μ := by
    intro m
    induction m with
    | zero =>
      intro u v i μ hv0 hv1 hv2 hv3 hv4 hm
      have hb := sx_all hv0
      exfalso
      omega
    | succ m ih =>
      intro u v i μ hv0 hv1 hv2 hv3 hv4 hm
      have hb := sx_all hv0
      refine am_go (ct := fun pc => Nat.beq pc 41) am_oX6_fits 300 ?_
      conv => whnf
      repeat' first
        | (refine (?_ : am_wp _ _ _ _ _ _ _ _ _ _ _ _); conv => whnf)
        | (refine (?_ : am_sw _ _ _ _); conv => whnf)
        | refine And.intro trivial ?_
        | exact trivial
        | (with_reducible assumption)
        | ((with_reducible refine (?_ : _ ∧ _)); first | (with_reducible first | refine am_jn am_q1 ?_ | refine am_jn am_q2 ?_ | refine am_jn am_q3 ?_ | refine am_jn am_q4 ?_ | refine am_jn am_q6 ?_ | refine am_jn am_q9 ?_ | refine am_jn am_p1 ?_ | refine am_jy am_p0 ?_ | refine am_kn am_q1 ?_ | refine am_kn am_q2 ?_ | refine am_kn am_q3 ?_ | refine am_kn am_q4 ?_ | refine am_kn am_q6 ?_ | refine am_kn am_q9 ?_ | refine am_kn am_p1 ?_ | refine am_ky am_p0 ?_) | refine And.intro (fun h => absurd h (by decide)) (fun _ => ?_) | refine And.intro (fun _ => ?_) (fun h => absurd (by decide) h) | refine And.intro (fun _ => ?_) (fun _ => ?_) | refine And.intro ?_ ?_)
        | refine k _ _ ?_
        | refine sx_up ?_ rfl
        | ((with_reducible refine (?_ : am_Does _ 1 _ _ _)); first | ((with_reducible refine (?_ : am_Does _ 1 (Sum.inr (Sum.inr 1) :: _) _ _)); refine w_has_X0_1 (ν := ν) _ ?_ (fun _ _ _ => ?_) (fun _ => ?_)) | ((with_reducible refine (?_ : am_Does _ 1 (Sum.inr (Sum.inr 8) :: _) _ _)); refine w_has_X0_8 (ν := ν) _ ?_ (fun _ _ _ => ?_) (fun _ => ?_)) | ((with_reducible refine (?_ : am_Does _ 1 (Sum.inr (Sum.inr 15) :: _) _ _)); refine w_has_X0_15 (ν := ν) _ ?_ (fun _ _ _ => ?_) (fun _ => ?_)) | refine w_has_X0_1 (ν := ν) _ ?_ (fun _ _ _ => ?_) (fun _ => ?_) | refine w_has_X0_8 (ν := ν) _ ?_ (fun _ _ _ => ?_) (fun _ => ?_) | refine w_has_X0_15 (ν := ν) _ ?_ (fun _ _ _ => ?_) (fun _ => ?_))
        | ((with_reducible refine (?_ : am_Does _ 113 _ _ _)); refine w_refuse_X6 (ν := ν) _ ?_ ?_ ?_ (fun _ _ _ => ?_))
        | ((with_reducible refine (?_ : am_Does _ 116 _ _ _)); refine w_noPart_X6 _ ?_ (fun _ => ?_))
        | ((with_reducible refine (?_ : am_Does _ 2 _ _ _)); first | ((with_reducible refine (?_ : am_Does _ 2 (Sum.inr (Sum.inr 8) :: Sum.inr (Sum.inr 1) :: _) _ _)); refine w_take_X0_8_1 (ν := ν)  ?_  (fun _ _ => ?_)) | ((with_reducible refine (?_ : am_Does _ 2 (Sum.inr (Sum.inr 15) :: Sum.inr (Sum.inr 8) :: _) _ _)); refine w_take_X0_15_8 (ν := ν)  ?_  (fun _ _ => ?_)) | refine w_take_X0_8_1 (ν := ν)  ?_  (fun _ _ => ?_) | refine w_take_X0_15_8 (ν := ν)  ?_  (fun _ _ => ?_))
        | ((with_reducible refine (?_ : am_Does _ 130 _ _ _)); refine w_firstNotSo_X6 (ν := ν)  ?_  (fun _ _ _ => ?_))
        | ((with_reducible refine (?_ : am_AW _ _ _ _ _ 41 _ _ _)); refine ih _ _ _ _ ?_ ?_ ?_ ?_ ?_ ?_)
        | refine And.intro (fun h => absurd h (by decide)) (fun _ => ?_)
        | refine And.intro (fun _ => ?_) (fun h => absurd (by decide) h)
        | refine And.intro (fun _ => ?_) (fun _ => ?_)
        | refine And.intro ?_ ?_
      all_goals (first | (with_reducible assumption) | decide | omega | assumption | (intros; omega) | (intros; simp only [am_c] at * <;> omega) | (simp only [am_c, am_up] at * <;> omega) | (simp [am_c, am_up] at * <;> omega))
  have lp41' : ∀ (u v i : Int) (μ : am_N) , sx ν μ → 0 ≤ am_c a → am_c a < 4 → -1 ≤ i → i ≤ 99 → am_AW l 0 (fun _ => 0) 84 Q 41 [some (.inr (.inr 0)), some (.inl a), some (.inl b), some (.inl u), some (.inl v), some (.inl i)] [] μ := fun u v i μ hv0 hv1 hv2 hv3 hv4 => lp41 ((i + 1) + 1).toNat u v i μ hv0 hv1 hv2 hv3 hv4 (by omega)
  refine am_go (ct := fun pc => Nat.beq pc 41) am_oX6_fits 300 ?_
  conv => whnf
  repeat' first
    | (refine (?_ : am_wp _ _ _ _ _ _ _ _ _ _ _ _); conv => whnf)
    | (refine (?_ : am_sw _ _ _ _); conv => whnf)
    | refine And.intro trivial ?_
    | exact trivial
    | (with_reducible assumption)
    | ((with_reducible refine (?_ : _ ∧ _)); first | (with_reducible first | refine am_jn am_q1 ?_ | refine am_jn am_q2 ?_ | refine am_jn am_q3 ?_ | refine am_jn am_q4 ?_ | refine am_jn am_q6 ?_ | refine am_jn am_q9 ?_ | refine am_jn am_p1 ?_ | refine am_jy am_p0 ?_ | refine am_kn am_q1 ?_ | refine am_kn am_q2 ?_ | refine am_kn am_q3 ?_ | refine am_kn am_q4 ?_ | refine am_kn am_q6 ?_ | refine am_kn am_q9 ?_ | refine am_kn am_p1 ?_ | refine am_ky am_p0 ?_) | refine And.intro (fun h => absurd h (by decide)) (fun _ => ?_) | refine And.intro (fun _ => ?_) (fun h => absurd (by decide) h) | refine And.intro (fun _ => ?_) (fun _ => ?_) | refine And.intro ?_ ?_)
    | refine k _ _ ?_
    | refine sx_up ?_ rfl
    | ((with_reducible refine (?_ : am_Does _ 1 _ _ _)); first | ((with_reducible refine (?_ : am_Does _ 1 (Sum.inr (Sum.inr 1) :: _) _ _)); refine w_has_X0_1 (ν := ν) _ ?_ (fun _ _ _ => ?_) (fun _ => ?_)) | ((with_reducible refine (?_ : am_Does _ 1 (Sum.inr (Sum.inr 8) :: _) _ _)); refine w_has_X0_8 (ν := ν) _ ?_ (fun _ _ _ => ?_) (fun _ => ?_)) | ((with_reducible refine (?_ : am_Does _ 1 (Sum.inr (Sum.inr 15) :: _) _ _)); refine w_has_X0_15 (ν := ν) _ ?_ (fun _ _ _ => ?_) (fun _ => ?_)) | refine w_has_X0_1 (ν := ν) _ ?_ (fun _ _ _ => ?_) (fun _ => ?_) | refine w_has_X0_8 (ν := ν) _ ?_ (fun _ _ _ => ?_) (fun _ => ?_) | refine w_has_X0_15 (ν := ν) _ ?_ (fun _ _ _ => ?_) (fun _ => ?_))
    | ((with_reducible refine (?_ : am_Does _ 113 _ _ _)); refine w_refuse_X6 (ν := ν) _ ?_ ?_ ?_ (fun _ _ _ => ?_))
    | ((with_reducible refine (?_ : am_Does _ 116 _ _ _)); refine w_noPart_X6 _ ?_ (fun _ => ?_))
    | ((with_reducible refine (?_ : am_Does _ 2 _ _ _)); first | ((with_reducible refine (?_ : am_Does _ 2 (Sum.inr (Sum.inr 8) :: Sum.inr (Sum.inr 1) :: _) _ _)); refine w_take_X0_8_1 (ν := ν)  ?_  (fun _ _ => ?_)) | ((with_reducible refine (?_ : am_Does _ 2 (Sum.inr (Sum.inr 15) :: Sum.inr (Sum.inr 8) :: _) _ _)); refine w_take_X0_15_8 (ν := ν)  ?_  (fun _ _ => ?_)) | refine w_take_X0_8_1 (ν := ν)  ?_  (fun _ _ => ?_) | refine w_take_X0_15_8 (ν := ν)  ?_  (fun _ _ => ?_))
    | ((with_reducible refine (?_ : am_Does _ 130 _ _ _)); refine w_firstNotSo_X6 (ν := ν)  ?_  (fun _ _ _ => ?_))
    | ((with_reducible refine (?_ : am_AW _ _ _ _ _ 41 _ _ _)); refine lp41' _ _ _ _ ?_ ?_ ?_ ?_ ?_)
    | refine And.intro (fun h => absurd h (by decide)) (fun _ => ?_)
    | refine And.intro (fun _ => ?_) (fun h => absurd (by decide) h)
    | refine And.intro (fun _ => ?_) (fun _ => ?_)
    | refine And.intro ?_ ?_
  all_goals (first | (with_reducible assumption) | decide | omega | assumption | (intros; omega) | (intros; simp only [am_c] at * <;> omega) | (simp only [am_c, am_up] at * <;> omega) | (simp [am_c, am_up] at * <;> omega))
theorem w_let_X6 {l : Launch} {μ : am_N} {Q : Option am_V → am_N → Prop} {ν : am_N}  (hS : sx ν μ)  (k : ∀ r μ', sx ν μ' → Q (some (.inl r)) μ') : am_Does l 85 [.inr (.inr 0)] μ Q := by
  refine am_Does_of (Nat.le_of_ble_eq_true rfl) (Nat.le_of_ble_eq_true rfl) (Nat.le_of_ble_eq_true rfl) ?_
  have hb := sx_all hS
  have lp40 : ∀ (m : Nat) (u v i : Int) (μ : am_N) , sx ν μ → 0 ≤ i → i ≤ 4 → 4 - i < (m : Int) → am_AW l 0 (fun _ => 0) 85 Q 40 [some (.inr (.inr 0)), some (.inl u), some (.inl v), some (.inl i)] [] μ := by
    intro m
    induction m with
    | zero =>
      intro u v i μ hv0 hv1 hv2 hm
      have hb := sx_all hv0
      exfalso
      omega
    | succ m ih =>
      intro u v i μ hv0 hv1 hv2 hm
      have hb := sx_all hv0
      refine am_go (ct := fun pc => Nat.beq pc 40) am_oX6_let 300 ?_
      conv => whnf
      repeat' first
        | (refine (?_ : am_wp _ _ _ _ _ _ _ _ _ _ _ _); conv => whnf)
        | (refine (?_ : am_sw _ _ _ _); conv => whnf)
        | refine And.intro trivial ?_
        | exact trivial
        | (with_reducible assumption)
        | ((with_reducible refine (?_ : _ ∧ _)); first | (with_reducible first | refine am_jn am_q1 ?_ | refine am_jn am_q2 ?_ | refine am_jn am_q3 ?_ | refine am_jn am_q4 ?_ | refine am_jn am_q6 ?_ | refine am_jn am_q9 ?_ | refine am_jn am_p1 ?_ | refine am_jy am_p0 ?_ | refine am_kn am_q1 ?_ | refine am_kn am_q2 ?_ | refine am_kn am_q3 ?_ | refine am_kn am_q4 ?_ | refine am_kn am_q6 ?_ | refine am_kn am_q9 ?_ | refine am_kn am_p1 ?_ | refine am_ky am_p0 ?_) | refine And.intro (fun h => absurd h (by decide)) (fun _ => ?_) | refine And.intro (fun _ => ?_) (fun h => absurd (by decide) h) | refine And.intro (fun _ => ?_) (fun _ => ?_) | refine And.intro ?_ ?_)
        | refine k _ _ ?_
        | refine sx_up ?_ rfl
        | ((with_reducible refine (?_ : am_Does _ 113 _ _ _)); refine w_refuse_X6 (ν := ν) _ ?_ ?_ ?_ (fun _ _ _ => ?_))
        | ((with_reducible refine (?_ : am_Does _ 33 _ _ _)); first | ((with_reducible refine (?_ : am_Does _ 33 (Sum.inr (Sum.inr 29) :: Sum.inr (Sum.inr 1) :: _) _ _)); refine w_asRule_X2_29_1 (ν := ν)  ?_  (fun _ _ => ?_)) | ((with_reducible refine (?_ : am_Does _ 33 (Sum.inr (Sum.inr 29) :: Sum.inr (Sum.inr 8) :: _) _ _)); refine w_asRule_X2_29_8 (ν := ν)  ?_  (fun _ _ => ?_)) | ((with_reducible refine (?_ : am_Does _ 33 (Sum.inr (Sum.inr 29) :: Sum.inr (Sum.inr 15) :: _) _ _)); refine w_asRule_X2_29_15 (ν := ν)  ?_  (fun _ _ => ?_)) | ((with_reducible refine (?_ : am_Does _ 33 (Sum.inr (Sum.inr 38) :: Sum.inr (Sum.inr 8) :: _) _ _)); refine w_asRule_X2_38_8 (ν := ν)  ?_  (fun _ _ => ?_)) | refine w_asRule_X2_29_1 (ν := ν)  ?_  (fun _ _ => ?_) | refine w_asRule_X2_29_8 (ν := ν)  ?_  (fun _ _ => ?_) | refine w_asRule_X2_29_15 (ν := ν)  ?_  (fun _ _ => ?_) | refine w_asRule_X2_38_8 (ν := ν)  ?_  (fun _ _ => ?_))
        | ((with_reducible refine (?_ : am_Does _ 37 _ _ _)); first | ((with_reducible refine (?_ : am_Does _ 37 (Sum.inr (Sum.inr 29) :: _) _ _)); refine w_first_X2_29 (ν := ν)  ?_  (fun _ => ?_)) | ((with_reducible refine (?_ : am_Does _ 37 (Sum.inr (Sum.inr 38) :: _) _ _)); refine w_first_X2_38 (ν := ν)  ?_  (fun _ => ?_)) | refine w_first_X2_29 (ν := ν)  ?_  (fun _ => ?_) | refine w_first_X2_38 (ν := ν)  ?_  (fun _ => ?_))
        | ((with_reducible refine (?_ : am_Does _ 2 _ _ _)); first | ((with_reducible refine (?_ : am_Does _ 2 (Sum.inr (Sum.inr 8) :: Sum.inr (Sum.inr 1) :: _) _ _)); refine w_take_X0_8_1 (ν := ν)  ?_  (fun _ _ => ?_)) | ((with_reducible refine (?_ : am_Does _ 2 (Sum.inr (Sum.inr 15) :: Sum.inr (Sum.inr 8) :: _) _ _)); refine w_take_X0_15_8 (ν := ν)  ?_  (fun _ _ => ?_)) | refine w_take_X0_8_1 (ν := ν)  ?_  (fun _ _ => ?_) | refine w_take_X0_15_8 (ν := ν)  ?_  (fun _ _ => ?_))
        | ((with_reducible refine (?_ : am_AW _ _ _ _ _ 40 _ _ _)); refine ih _ _ _ _ ?_ ?_ ?_ ?_)
        | refine And.intro (fun h => absurd h (by decide)) (fun _ => ?_)
        | refine And.intro (fun _ => ?_) (fun h => absurd (by decide) h)
        | refine And.intro (fun _ => ?_) (fun _ => ?_)
        | refine And.intro ?_ ?_
      all_goals (first | (with_reducible assumption) | decide | omega | assumption | (intros; omega) | (intros; simp only [am_c] at * <;> omega) | (simp only [am_c, am_up] at * <;> omega) | (simp [am_c, am_up] at * <;> omega))
  have lp40' : ∀ (u v i : Int) (μ : am_N) , sx ν μ → 0 ≤ i → i ≤ 4 → am_AW l 0 (fun _ => 0) 85 Q 40 [some (.inr (.inr 0)), some (.inl u), some (.inl v), some (.inl i)] [] μ := fun u v i μ hv0 hv1 hv2 => lp40 ((4 - i) + 1).toNat u v i μ hv0 hv1 hv2 (by omega)
  refine am_go (ct := fun pc => Nat.beq pc 40) am_oX6_let 300 ?_
  conv => whnf
  repeat' first
    | (refine (?_ : am_wp _ _ _ _ _ _ _ _ _ _ _ _); conv => whnf)
    | (refine (?_ : am_sw _ _ _ _); conv => whnf)
    | refine And.intro trivial ?_
    | exact trivial
    | (with_reducible assumption)
    | ((with_reducible refine (?_ : _ ∧ _)); first | (with_reducible first | refine am_jn am_q1 ?_ | refine am_jn am_q2 ?_ | refine am_jn am_q3 ?_ | refine am_jn am_q4 ?_ | refine am_jn am_q6 ?_ | refine am_jn am_q9 ?_ | refine am_jn am_p1 ?_ | refine am_jy am_p0 ?_ | refine am_kn am_q1 ?_ | refine am_kn am_q2 ?_ | refine am_kn am_q3 ?_ | refine am_kn am_q4 ?_ | refine am_kn am_q6 ?_ | refine am_kn am_q9 ?_ | refine am_kn am_p1 ?_ | refine am_ky am_p0 ?_) | refine And.intro (fun h => absurd h (by decide)) (fun _ => ?_) | refine And.intro (fun _ => ?_) (fun h => absurd (by decide) h) | refine And.intro (fun _ => ?_) (fun _ => ?_) | refine And.intro ?_ ?_)
    | refine k _ _ ?_
    | refine sx_up ?_ rfl
    | ((with_reducible refine (?_ : am_Does _ 113 _ _ _)); refine w_refuse_X6 (ν := ν) _ ?_ ?_ ?_ (fun _ _ _ => ?_))
    | ((with_reducible refine (?_ : am_Does _ 33 _ _ _)); first | ((with_reducible refine (?_ : am_Does _ 33 (Sum.inr (Sum.inr 29) :: Sum.inr (Sum.inr 1) :: _) _ _)); refine w_asRule_X2_29_1 (ν := ν)  ?_  (fun _ _ => ?_)) | ((with_reducible refine (?_ : am_Does _ 33 (Sum.inr (Sum.inr 29) :: Sum.inr (Sum.inr 8) :: _) _ _)); refine w_asRule_X2_29_8 (ν := ν)  ?_  (fun _ _ => ?_)) | ((with_reducible refine (?_ : am_Does _ 33 (Sum.inr (Sum.inr 29) :: Sum.inr (Sum.inr 15) :: _) _ _)); refine w_asRule_X2_29_15 (ν := ν)  ?_  (fun _ _ => ?_)) | ((with_reducible refine (?_ : am_Does _ 33 (Sum.inr (Sum.inr 38) :: Sum.inr (Sum.inr 8) :: _) _ _)); refine w_asRule_X2_38_8 (ν := ν)  ?_  (fun _ _ => ?_)) | refine w_asRule_X2_29_1 (ν := ν)  ?_  (fun _ _ => ?_) | refine w_asRule_X2_29_8 (ν := ν)  ?_  (fun _ _ => ?_) | refine w_asRule_X2_29_15 (ν := ν)  ?_  (fun _ _ => ?_) | refine w_asRule_X2_38_8 (ν := ν)  ?_  (fun _ _ => ?_))
    | ((with_reducible refine (?_ : am_Does _ 37 _ _ _)); first | ((with_reducible refine (?_ : am_Does _ 37 (Sum.inr (Sum.inr 29) :: _) _ _)); refine w_first_X2_29 (ν := ν)  ?_  (fun _ => ?_)) | ((with_reducible refine (?_ : am_Does _ 37 (Sum.inr (Sum.inr 38) :: _) _ _)); refine w_first_X2_38 (ν := ν)  ?_  (fun _ => ?_)) | refine w_first_X2_29 (ν := ν)  ?_  (fun _ => ?_) | refine w_first_X2_38 (ν := ν)  ?_  (fun _ => ?_))
    | ((with_reducible refine (?_ : am_Does _ 2 _ _ _)); first | ((with_reducible refine (?_ : am_Does _ 2 (Sum.inr (Sum.inr 8) :: Sum.inr (Sum.inr 1) :: _) _ _)); refine w_take_X0_8_1 (ν := ν)  ?_  (fun _ _ => ?_)) | ((with_reducible refine (?_ : am_Does _ 2 (Sum.inr (Sum.inr 15) :: Sum.inr (Sum.inr 8) :: _) _ _)); refine w_take_X0_15_8 (ν := ν)  ?_  (fun _ _ => ?_)) | refine w_take_X0_8_1 (ν := ν)  ?_  (fun _ _ => ?_) | refine w_take_X0_15_8 (ν := ν)  ?_  (fun _ _ => ?_))
    | ((with_reducible refine (?_ : am_AW _ _ _ _ _ 40 _ _ _)); refine lp40' _ _ _ _ ?_ ?_ ?_)
    | refine And.intro (fun h => absurd h (by decide)) (fun _ => ?_)
    | refine And.intro (fun _ => ?_) (fun h => absurd (by decide) h)
    | refine And.intro (fun _ => ?_) (fun _ => ?_)
    | refine And.intro ?_ ?_
  all_goals (first | (with_reducible assumption) | decide | omega | assumption | (intros; omega) | (intros; simp only [am_c] at * <;> omega) | (simp only [am_c, am_up] at * <;> omega) | (simp [am_c, am_up] at * <;> omega))
theorem w_bags_X6 {l : Launch} {μ : am_N} {Q : Option am_V → am_N → Prop} {ν : am_N} (a b c : Int) (hS : sx ν μ) (ha0 : -2147483648 ≤ a) (ha1 : a ≤ 2147483647) (hb0 : -2147483648 ≤ b) (hb1 : b ≤ 2147483647) (hc0 : -2147483648 ≤ c) (hc1 : c ≤ 2147483647) (k : ∀ r μ', sx ν μ' → Q (some (.inl r)) μ') : am_Does l 93 [.inr (.inr 0), .inl a, .inl b, .inl c] μ Q := by
  refine am_Does_of (Nat.le_of_ble_eq_true rfl) (Nat.le_of_ble_eq_true rfl) (Nat.le_of_ble_eq_true rfl) ?_
  have hb := sx_all hS
  have lp39 : ∀ (m : Nat) (u v i : Int) (o7 : Option am_V) (μ : am_N) , sx ν μ → 0 ≤ am_c a → am_c a < 4 → 0 ≤ am_c b → am_c b < 4 → 0 ≤ i → (i ≤ am_c (am_shl 1 (ν 48 1)) ∨ i = 0) → max (am_c (am_shl 1 (ν 48 1)) - i) 0 < (m : Int) → am_AW l 0 (fun _ => 0) 93 Q 39 [some (.inr (.inr 0)), some (.inl a), some (.inl b), some (.inl c), some (.inl u), some (.inl v), some (.inl i), o7] [] μ := by
    intro m
    induction m with
    | zero =>
      intro u v i o7 μ hv0 hv1 hv2 hv3 hv4 hv5 hv6 hm
      have hb := sx_all hv0
      exfalso
      omega
    | succ m ih =>
      intro u v i o7 μ hv0 hv1 hv2 hv3 hv4 hv5 hv6 hm
      have hb := sx_all hv0
      have e48 : μ 48 1 = ν 48 1 := hv0.1 48 1 rfl
      refine am_go (ct := fun pc => Nat.beq pc 39) am_oX6_bags 300 ?_
      conv => whnf
      repeat' first
        | (refine (?_ : am_wp _ _ _ _ _ _ _ _ _ _ _ _); conv => whnf)
        | (refine (?_ : am_sw _ _ _ _); conv => whnf)
        | refine And.intro trivial ?_
        | exact trivial
        | (with_reducible assumption)
        | ((with_reducible refine (?_ : _ ∧ _)); first | (with_reducible first | refine am_jn am_q1 ?_ | refine am_jn am_q2 ?_ | refine am_jn am_q3 ?_ | refine am_jn am_q4 ?_ | refine am_jn am_q6 ?_ | refine am_jn am_q9 ?_ | refine am_jn am_p1 ?_ | refine am_jy am_p0 ?_ | refine am_kn am_q1 ?_ | refine am_kn am_q2 ?_ | refine am_kn am_q3 ?_ | refine am_kn am_q4 ?_ | refine am_kn am_q6 ?_ | refine am_kn am_q9 ?_ | refine am_kn am_p1 ?_ | refine am_ky am_p0 ?_) | refine And.intro (fun h => absurd h (by decide)) (fun _ => ?_) | refine And.intro (fun _ => ?_) (fun h => absurd (by decide) h) | refine And.intro (fun _ => ?_) (fun _ => ?_) | refine And.intro ?_ ?_)
        | refine k _ _ ?_
        | refine sx_up ?_ rfl
        | ((with_reducible refine (?_ : am_Does _ 117 _ _ _)); refine w_notTwo_X6 (ν := ν) _ _ ?_ ?_ (fun _ _ _ _ => ?_))
        | ((with_reducible refine (?_ : am_Does _ 113 _ _ _)); refine w_refuse_X6 (ν := ν) _ ?_ ?_ ?_ (fun _ _ _ => ?_))
        | ((with_reducible refine (?_ : am_Does _ 116 _ _ _)); refine w_noPart_X6 _ ?_ (fun _ => ?_))
        | ((with_reducible refine (?_ : am_Does _ 131 _ _ _)); refine w_carrying_X6 (ν := ν) _ _ _ ?_ ?_ ?_ ?_ ?_ (fun _ _ _ => ?_))
        | ((with_reducible refine (?_ : am_AW _ _ _ _ _ 39 _ _ _)); refine ih _ _ _ _ _ ?_ ?_ ?_ ?_ ?_ ?_ ?_ ?_)
        | refine And.intro (fun h => absurd h (by decide)) (fun _ => ?_)
        | refine And.intro (fun _ => ?_) (fun h => absurd (by decide) h)
        | refine And.intro (fun _ => ?_) (fun _ => ?_)
        | refine And.intro ?_ ?_
      all_goals (first | (with_reducible assumption) | decide | omega | assumption | (simp only [e48] at * <;> omega) | (simp only [e48, am_c] at * <;> omega))
  have lp39' : ∀ (u v i : Int) (o7 : Option am_V) (μ : am_N) , sx ν μ → 0 ≤ am_c a → am_c a < 4 → 0 ≤ am_c b → am_c b < 4 → 0 ≤ i → (i ≤ am_c (am_shl 1 (ν 48 1)) ∨ i = 0) → am_AW l 0 (fun _ => 0) 93 Q 39 [some (.inr (.inr 0)), some (.inl a), some (.inl b), some (.inl c), some (.inl u), some (.inl v), some (.inl i), o7] [] μ := fun u v i o7 μ hv0 hv1 hv2 hv3 hv4 hv5 hv6 => lp39 ((max (am_c (am_shl 1 (ν 48 1)) - i) 0) + 1).toNat u v i o7 μ hv0 hv1 hv2 hv3 hv4 hv5 hv6 (by omega)
  refine am_go (ct := fun pc => Nat.beq pc 39) am_oX6_bags 300 ?_
  conv => whnf
  repeat' first
    | (refine (?_ : am_wp _ _ _ _ _ _ _ _ _ _ _ _); conv => whnf)
    | (refine (?_ : am_sw _ _ _ _); conv => whnf)
    | refine And.intro trivial ?_
    | exact trivial
    | (with_reducible assumption)
    | ((with_reducible refine (?_ : _ ∧ _)); first | (with_reducible first | refine am_jn am_q1 ?_ | refine am_jn am_q2 ?_ | refine am_jn am_q3 ?_ | refine am_jn am_q4 ?_ | refine am_jn am_q6 ?_ | refine am_jn am_q9 ?_ | refine am_jn am_p1 ?_ | refine am_jy am_p0 ?_ | refine am_kn am_q1 ?_ | refine am_kn am_q2 ?_ | refine am_kn am_q3 ?_ | refine am_kn am_q4 ?_ | refine am_kn am_q6 ?_ | refine am_kn am_q9 ?_ | refine am_kn am_p1 ?_ | refine am_ky am_p0 ?_) | refine And.intro (fun h => absurd h (by decide)) (fun _ => ?_) | refine And.intro (fun _ => ?_) (fun h => absurd (by decide) h) | refine And.intro (fun _ => ?_) (fun _ => ?_) | refine And.intro ?_ ?_)
    | refine k _ _ ?_
    | refine sx_up ?_ rfl
    | ((with_reducible refine (?_ : am_Does _ 117 _ _ _)); refine w_notTwo_X6 (ν := ν) _ _ ?_ ?_ (fun _ _ _ _ => ?_))
    | ((with_reducible refine (?_ : am_Does _ 113 _ _ _)); refine w_refuse_X6 (ν := ν) _ ?_ ?_ ?_ (fun _ _ _ => ?_))
    | ((with_reducible refine (?_ : am_Does _ 116 _ _ _)); refine w_noPart_X6 _ ?_ (fun _ => ?_))
    | ((with_reducible refine (?_ : am_Does _ 131 _ _ _)); refine w_carrying_X6 (ν := ν) _ _ _ ?_ ?_ ?_ ?_ ?_ (fun _ _ _ => ?_))
    | ((with_reducible refine (?_ : am_AW _ _ _ _ _ 39 _ _ _)); refine lp39' _ _ _ _ _ ?_ ?_ ?_ ?_ ?_ ?_ ?_)
    | refine And.intro (fun h => absurd h (by decide)) (fun _ => ?_)
    | refine And.intro (fun _ => ?_) (fun h => absurd (by decide) h)
    | refine And.intro (fun _ => ?_) (fun _ => ?_)
    | refine And.intro ?_ ?_
  all_goals (first | (with_reducible assumption) | decide | omega | assumption | (intros; omega) | (intros; simp only [am_c] at * <;> omega) | (simp only [am_c, am_up] at * <;> omega) | (simp [am_c, am_up] at * <;> omega))
theorem w_ahead_X6 {l : Launch} {μ : am_N} {Q : Option am_V → am_N → Prop} {ν : am_N} (a b : Int) (hS : sx ν μ) (ha0 : -2147483648 ≤ a) (ha1 : a ≤ 2147483647) (hb0 : -2147483648 ≤ b) (hb1 : b ≤ 2147483647) (k : ∀ r μ', sx ν μ' → Q (some (.inl r)) μ') : am_Does l 94 [.inr (.inr 0), .inl a, .inl b] μ Q := by
  refine am_Does_of (Nat.le_of_ble_eq_true rfl) (Nat.le_of_ble_eq_true rfl) (Nat.le_of_ble_eq_true rfl) ?_
  have hb := sx_all hS
  refine am_go (ct := fun _ => false) am_oX6_ahead 300 ?_
  conv => whnf
  repeat' first
    | (refine (?_ : am_wp _ _ _ _ _ _ _ _ _ _ _ _); conv => whnf)
    | (refine (?_ : am_sw _ _ _ _); conv => whnf)
    | refine And.intro trivial ?_
    | exact trivial
    | (with_reducible assumption)
    | ((with_reducible refine (?_ : _ ∧ _)); first | (with_reducible first | refine am_jn am_q1 ?_ | refine am_jn am_q2 ?_ | refine am_jn am_q3 ?_ | refine am_jn am_q4 ?_ | refine am_jn am_q6 ?_ | refine am_jn am_q9 ?_ | refine am_jn am_p1 ?_ | refine am_jy am_p0 ?_ | refine am_kn am_q1 ?_ | refine am_kn am_q2 ?_ | refine am_kn am_q3 ?_ | refine am_kn am_q4 ?_ | refine am_kn am_q6 ?_ | refine am_kn am_q9 ?_ | refine am_kn am_p1 ?_ | refine am_ky am_p0 ?_) | refine And.intro (fun h => absurd h (by decide)) (fun _ => ?_) | refine And.intro (fun _ => ?_) (fun h => absurd (by decide) h) | refine And.intro (fun _ => ?_) (fun _ => ?_) | refine And.intro ?_ ?_)
    | refine k _ _ ?_
    | refine sx_up ?_ rfl
    | ((with_reducible refine (?_ : am_Does _ 117 _ _ _)); refine w_notTwo_X6 (ν := ν) _ _ ?_ ?_ (fun _ _ _ _ => ?_))
    | ((with_reducible refine (?_ : am_Does _ 113 _ _ _)); refine w_refuse_X6 (ν := ν) _ ?_ ?_ ?_ (fun _ _ _ => ?_))
    | ((with_reducible refine (?_ : am_Does _ 122 _ _ _)); refine w_sixteenths_X6 (ν := ν) _ _ ?_  (fun _ _ _ => ?_))
    | refine And.intro (fun h => absurd h (by decide)) (fun _ => ?_)
    | refine And.intro (fun _ => ?_) (fun h => absurd (by decide) h)
    | refine And.intro (fun _ => ?_) (fun _ => ?_)
    | refine And.intro ?_ ?_
  all_goals (first | (with_reducible assumption) | decide | omega | assumption | (intros; omega) | (intros; simp only [am_c] at * <;> omega) | (simp only [am_c, am_up] at * <;> omega) | (simp [am_c, am_up] at * <;> omega))
theorem w_cup_X6 {l : Launch} {μ : am_N} {Q : Option am_V → am_N → Prop} {ν : am_N} (a b c : Int) (hS : sx ν μ) (ha0 : -2147483648 ≤ a) (ha1 : a ≤ 2147483647) (hb0 : -2147483648 ≤ b) (hb1 : b ≤ 2147483647) (hc0 : -2147483648 ≤ c) (hc1 : c ≤ 2147483647) (k : ∀ r μ', sx ν μ' → Q (some (.inr (.inl r))) μ') : am_Does l 95 [.inr (.inr 0), .inl a, .inl b, .inl c] μ Q := by
  refine am_Does_of (Nat.le_of_ble_eq_true rfl) (Nat.le_of_ble_eq_true rfl) (Nat.le_of_ble_eq_true rfl) ?_
  have hb := sx_all hS
  refine am_go (ct := fun _ => false) am_oX6_cup 300 ?_
  conv => whnf
  repeat' first
    | (refine (?_ : am_wp _ _ _ _ _ _ _ _ _ _ _ _); conv => whnf)
    | (refine (?_ : am_sw _ _ _ _); conv => whnf)
    | refine And.intro trivial ?_
    | exact trivial
    | (with_reducible assumption)
    | ((with_reducible refine (?_ : _ ∧ _)); first | (with_reducible first | refine am_jn am_q1 ?_ | refine am_jn am_q2 ?_ | refine am_jn am_q3 ?_ | refine am_jn am_q4 ?_ | refine am_jn am_q6 ?_ | refine am_jn am_q9 ?_ | refine am_jn am_p1 ?_ | refine am_jy am_p0 ?_ | refine am_kn am_q1 ?_ | refine am_kn am_q2 ?_ | refine am_kn am_q3 ?_ | refine am_kn am_q4 ?_ | refine am_kn am_q6 ?_ | refine am_kn am_q9 ?_ | refine am_kn am_p1 ?_ | refine am_ky am_p0 ?_) | refine And.intro (fun h => absurd h (by decide)) (fun _ => ?_) | refine And.intro (fun _ => ?_) (fun h => absurd (by decide) h) | refine And.intro (fun _ => ?_) (fun _ => ?_) | refine And.intro ?_ ?_)
    | refine k _ _ ?_
    | refine sx_up ?_ rfl
    | ((with_reducible refine (?_ : am_Does _ 1 _ _ _)); first | ((with_reducible refine (?_ : am_Does _ 1 (Sum.inr (Sum.inr 1) :: _) _ _)); refine w_has_X0_1 (ν := ν) _ ?_ (fun _ _ _ => ?_) (fun _ => ?_)) | ((with_reducible refine (?_ : am_Does _ 1 (Sum.inr (Sum.inr 8) :: _) _ _)); refine w_has_X0_8 (ν := ν) _ ?_ (fun _ _ _ => ?_) (fun _ => ?_)) | ((with_reducible refine (?_ : am_Does _ 1 (Sum.inr (Sum.inr 15) :: _) _ _)); refine w_has_X0_15 (ν := ν) _ ?_ (fun _ _ _ => ?_) (fun _ => ?_)) | refine w_has_X0_1 (ν := ν) _ ?_ (fun _ _ _ => ?_) (fun _ => ?_) | refine w_has_X0_8 (ν := ν) _ ?_ (fun _ _ _ => ?_) (fun _ => ?_) | refine w_has_X0_15 (ν := ν) _ ?_ (fun _ _ _ => ?_) (fun _ => ?_))
    | ((with_reducible refine (?_ : am_Does _ 115 _ _ _)); refine w_refuseLong_X6 (ν := ν) _ ?_ ?_ ?_ (fun _ _ _ => ?_))
    | ((with_reducible refine (?_ : am_Does _ 116 _ _ _)); refine w_noPart_X6 _ ?_ (fun _ => ?_))
    | ((with_reducible refine (?_ : am_Does _ 132 _ _ _)); refine w_cupWays_X6 (ν := ν) _ _ ?_  (fun _ _ _ => ?_))
    | ((with_reducible refine (?_ : am_Does _ 118 _ _ _)); refine w_fraction_X6 (ν := ν) _ _ _ ?_  (fun _ => ?_))
    | refine And.intro (fun h => absurd h (by decide)) (fun _ => ?_)
    | refine And.intro (fun _ => ?_) (fun h => absurd (by decide) h)
    | refine And.intro (fun _ => ?_) (fun _ => ?_)
    | refine And.intro ?_ ?_
  all_goals (first | (with_reducible assumption) | decide | omega | assumption | (intros; omega) | (intros; simp only [am_c] at * <;> omega) | (simp only [am_c, am_up] at * <;> omega) | (simp [am_c, am_up] at * <;> omega))
theorem w_bracket_X6 {l : Launch} {μ : am_N} {Q : Option am_V → am_N → Prop} {ν : am_N} (a : Int) (hS : sx ν μ) (ha0 : -2147483648 ≤ a) (ha1 : a ≤ 2147483647) (k : ∀ r μ', sx ν μ' → Q (some (.inl r)) μ') : am_Does l 96 [.inr (.inr 0), .inl a] μ Q := by
  refine am_Does_of (Nat.le_of_ble_eq_true rfl) (Nat.le_of_ble_eq_true rfl) (Nat.le_of_ble_eq_true rfl) ?_
  have hb := sx_all hS
  have lp42 : ∀ (m : Nat) (u v i : Int) (o5 : Option am_V) (μ : am_N) , sx ν μ → 0 ≤ i → i ≤ 3 → 3 - i < (m : Int) → am_AW l 0 (fun _ => 0) 96 Q 42 [some (.inr (.inr 0)), some (.inl a), some (.inl u), some (.inl v), some (.inl i), o5] [] μ := by
    intro m
    induction m with
    | zero =>
      intro u v i o5 μ hv0 hv1 hv2 hm
      have hb := sx_all hv0
      exfalso
      omega
    | succ m ih =>
      intro u v i o5 μ hv0 hv1 hv2 hm
      have hb := sx_all hv0
      refine am_go (ct := fun pc => Nat.beq pc 42) am_oX6_bracket 300 ?_
      conv => whnf
      repeat' first
        | (refine (?_ : am_wp _ _ _ _ _ _ _ _ _ _ _ _); conv => whnf)
        | (refine (?_ : am_sw _ _ _ _); conv => whnf)
        | refine And.intro trivial ?_
        | exact trivial
        | (with_reducible assumption)
        | ((with_reducible refine (?_ : _ ∧ _)); first | (with_reducible first | refine am_jn am_q1 ?_ | refine am_jn am_q2 ?_ | refine am_jn am_q3 ?_ | refine am_jn am_q4 ?_ | refine am_jn am_q6 ?_ | refine am_jn am_q9 ?_ | refine am_jn am_p1 ?_ | refine am_jy am_p0 ?_ | refine am_kn am_q1 ?_ | refine am_kn am_q2 ?_ | refine am_kn am_q3 ?_ | refine am_kn am_q4 ?_ | refine am_kn am_q6 ?_ | refine am_kn am_q9 ?_ | refine am_kn am_p1 ?_ | refine am_ky am_p0 ?_) | refine And.intro (fun h => absurd h (by decide)) (fun _ => ?_) | refine And.intro (fun _ => ?_) (fun h => absurd (by decide) h) | refine And.intro (fun _ => ?_) (fun _ => ?_) | refine And.intro ?_ ?_)
        | refine k _ _ ?_
        | refine sx_up ?_ rfl
        | ((with_reducible refine (?_ : am_Does _ 1 _ _ _)); first | ((with_reducible refine (?_ : am_Does _ 1 (Sum.inr (Sum.inr 1) :: _) _ _)); refine w_has_X0_1 (ν := ν) _ ?_ (fun _ _ _ => ?_) (fun _ => ?_)) | ((with_reducible refine (?_ : am_Does _ 1 (Sum.inr (Sum.inr 8) :: _) _ _)); refine w_has_X0_8 (ν := ν) _ ?_ (fun _ _ _ => ?_) (fun _ => ?_)) | ((with_reducible refine (?_ : am_Does _ 1 (Sum.inr (Sum.inr 15) :: _) _ _)); refine w_has_X0_15 (ν := ν) _ ?_ (fun _ _ _ => ?_) (fun _ => ?_)) | refine w_has_X0_1 (ν := ν) _ ?_ (fun _ _ _ => ?_) (fun _ => ?_) | refine w_has_X0_8 (ν := ν) _ ?_ (fun _ _ _ => ?_) (fun _ => ?_) | refine w_has_X0_15 (ν := ν) _ ?_ (fun _ _ _ => ?_) (fun _ => ?_))
        | ((with_reducible refine (?_ : am_Does _ 113 _ _ _)); refine w_refuse_X6 (ν := ν) _ ?_ ?_ ?_ (fun _ _ _ => ?_))
        | ((with_reducible refine (?_ : am_Does _ 132 _ _ _)); refine w_cupWays_X6 (ν := ν) _ _ ?_  (fun _ _ _ => ?_))
        | ((with_reducible refine (?_ : am_AW _ _ _ _ _ 42 _ _ _)); refine ih _ _ _ _ _ ?_ ?_ ?_ ?_)
        | refine And.intro (fun h => absurd h (by decide)) (fun _ => ?_)
        | refine And.intro (fun _ => ?_) (fun h => absurd (by decide) h)
        | refine And.intro (fun _ => ?_) (fun _ => ?_)
        | refine And.intro ?_ ?_
      all_goals (first | (with_reducible assumption) | decide | omega | assumption | (intros; omega) | (intros; simp only [am_c] at * <;> omega) | (simp only [am_c, am_up] at * <;> omega) | (simp [am_c, am_up] at * <;> omega))
  have lp42' : ∀ (u v i : Int) (o5 : Option am_V) (μ : am_N) , sx ν μ → 0 ≤ i → i ≤ 3 → am_AW l 0 (fun _ => 0) 96 Q 42 [some (.inr (.inr 0)), some (.inl a), some (.inl u), some (.inl v), some (.inl i), o5] [] μ := fun u v i o5 μ hv0 hv1 hv2 => lp42 ((3 - i) + 1).toNat u v i o5 μ hv0 hv1 hv2 (by omega)
  refine am_go (ct := fun pc => Nat.beq pc 42) am_oX6_bracket 300 ?_
  conv => whnf
  repeat' first
    | (refine (?_ : am_wp _ _ _ _ _ _ _ _ _ _ _ _); conv => whnf)
    | (refine (?_ : am_sw _ _ _ _); conv => whnf)
    | refine And.intro trivial ?_
    | exact trivial
    | (with_reducible assumption)
    | ((with_reducible refine (?_ : _ ∧ _)); first | (with_reducible first | refine am_jn am_q1 ?_ | refine am_jn am_q2 ?_ | refine am_jn am_q3 ?_ | refine am_jn am_q4 ?_ | refine am_jn am_q6 ?_ | refine am_jn am_q9 ?_ | refine am_jn am_p1 ?_ | refine am_jy am_p0 ?_ | refine am_kn am_q1 ?_ | refine am_kn am_q2 ?_ | refine am_kn am_q3 ?_ | refine am_kn am_q4 ?_ | refine am_kn am_q6 ?_ | refine am_kn am_q9 ?_ | refine am_kn am_p1 ?_ | refine am_ky am_p0 ?_) | refine And.intro (fun h => absurd h (by decide)) (fun _ => ?_) | refine And.intro (fun _ => ?_) (fun h => absurd (by decide) h) | refine And.intro (fun _ => ?_) (fun _ => ?_) | refine And.intro ?_ ?_)
    | refine k _ _ ?_
    | refine sx_up ?_ rfl
    | ((with_reducible refine (?_ : am_Does _ 1 _ _ _)); first | ((with_reducible refine (?_ : am_Does _ 1 (Sum.inr (Sum.inr 1) :: _) _ _)); refine w_has_X0_1 (ν := ν) _ ?_ (fun _ _ _ => ?_) (fun _ => ?_)) | ((with_reducible refine (?_ : am_Does _ 1 (Sum.inr (Sum.inr 8) :: _) _ _)); refine w_has_X0_8 (ν := ν) _ ?_ (fun _ _ _ => ?_) (fun _ => ?_)) | ((with_reducible refine (?_ : am_Does _ 1 (Sum.inr (Sum.inr 15) :: _) _ _)); refine w_has_X0_15 (ν := ν) _ ?_ (fun _ _ _ => ?_) (fun _ => ?_)) | refine w_has_X0_1 (ν := ν) _ ?_ (fun _ _ _ => ?_) (fun _ => ?_) | refine w_has_X0_8 (ν := ν) _ ?_ (fun _ _ _ => ?_) (fun _ => ?_) | refine w_has_X0_15 (ν := ν) _ ?_ (fun _ _ _ => ?_) (fun _ => ?_))
    | ((with_reducible refine (?_ : am_Does _ 113 _ _ _)); refine w_refuse_X6 (ν := ν) _ ?_ ?_ ?_ (fun _ _ _ => ?_))
    | ((with_reducible refine (?_ : am_Does _ 132 _ _ _)); refine w_cupWays_X6 (ν := ν) _ _ ?_  (fun _ _ _ => ?_))
    | ((with_reducible refine (?_ : am_AW _ _ _ _ _ 42 _ _ _)); refine lp42' _ _ _ _ _ ?_ ?_ ?_)
    | refine And.intro (fun h => absurd h (by decide)) (fun _ => ?_)
    | refine And.intro (fun _ => ?_) (fun h => absurd (by decide) h)
    | refine And.intro (fun _ => ?_) (fun _ => ?_)
    | refine And.intro ?_ ?_
  all_goals (first | (with_reducible assumption) | decide | omega | assumption | (intros; omega) | (intros; simp only [am_c] at * <;> omega) | (simp only [am_c, am_up] at * <;> omega) | (simp [am_c, am_up] at * <;> omega))
theorem w_league_X6 {l : Launch} {μ : am_N} {Q : Option am_V → am_N → Prop} {ν : am_N} (a b : Int) (hS : sx ν μ) (ha0 : -2147483648 ≤ a) (ha1 : a ≤ 2147483647) (hb0 : -2147483648 ≤ b) (hb1 : b ≤ 2147483647) (k : ∀ r μ', sx ν μ' → Q (some (.inr (.inl r))) μ') : am_Does l 97 [.inr (.inr 0), .inl a, .inl b] μ Q := by
  refine am_Does_of (Nat.le_of_ble_eq_true rfl) (Nat.le_of_ble_eq_true rfl) (Nat.le_of_ble_eq_true rfl) ?_
  have hb := sx_all hS
  refine am_go (ct := fun _ => false) am_oX6_league 300 ?_
  conv => whnf
  repeat' first
    | (refine (?_ : am_wp _ _ _ _ _ _ _ _ _ _ _ _); conv => whnf)
    | (refine (?_ : am_sw _ _ _ _); conv => whnf)
    | refine And.intro trivial ?_
    | exact trivial
    | (with_reducible assumption)
    | ((with_reducible refine (?_ : _ ∧ _)); first | (with_reducible first | refine am_jn am_q1 ?_ | refine am_jn am_q2 ?_ | refine am_jn am_q3 ?_ | refine am_jn am_q4 ?_ | refine am_jn am_q6 ?_ | refine am_jn am_q9 ?_ | refine am_jn am_p1 ?_ | refine am_jy am_p0 ?_ | refine am_kn am_q1 ?_ | refine am_kn am_q2 ?_ | refine am_kn am_q3 ?_ | refine am_kn am_q4 ?_ | refine am_kn am_q6 ?_ | refine am_kn am_q9 ?_ | refine am_kn am_p1 ?_ | refine am_ky am_p0 ?_) | refine And.intro (fun h => absurd h (by decide)) (fun _ => ?_) | refine And.intro (fun _ => ?_) (fun h => absurd (by decide) h) | refine And.intro (fun _ => ?_) (fun _ => ?_) | refine And.intro ?_ ?_)
    | refine k _ _ ?_
    | refine sx_up ?_ rfl
    | ((with_reducible refine (?_ : am_Does _ 1 _ _ _)); first | ((with_reducible refine (?_ : am_Does _ 1 (Sum.inr (Sum.inr 1) :: _) _ _)); refine w_has_X0_1 (ν := ν) _ ?_ (fun _ _ _ => ?_) (fun _ => ?_)) | ((with_reducible refine (?_ : am_Does _ 1 (Sum.inr (Sum.inr 8) :: _) _ _)); refine w_has_X0_8 (ν := ν) _ ?_ (fun _ _ _ => ?_) (fun _ => ?_)) | ((with_reducible refine (?_ : am_Does _ 1 (Sum.inr (Sum.inr 15) :: _) _ _)); refine w_has_X0_15 (ν := ν) _ ?_ (fun _ _ _ => ?_) (fun _ => ?_)) | refine w_has_X0_1 (ν := ν) _ ?_ (fun _ _ _ => ?_) (fun _ => ?_) | refine w_has_X0_8 (ν := ν) _ ?_ (fun _ _ _ => ?_) (fun _ => ?_) | refine w_has_X0_15 (ν := ν) _ ?_ (fun _ _ _ => ?_) (fun _ => ?_))
    | ((with_reducible refine (?_ : am_Does _ 115 _ _ _)); refine w_refuseLong_X6 (ν := ν) _ ?_ ?_ ?_ (fun _ _ _ => ?_))
    | ((with_reducible refine (?_ : am_Does _ 116 _ _ _)); refine w_noPart_X6 _ ?_ (fun _ => ?_))
    | ((with_reducible refine (?_ : am_Does _ 133 _ _ _)); refine w_leagueWays_X6 (ν := ν) _ ?_  (fun _ _ _ => ?_))
    | ((with_reducible refine (?_ : am_Does _ 118 _ _ _)); refine w_fraction_X6 (ν := ν) _ _ _ ?_  (fun _ => ?_))
    | refine And.intro (fun h => absurd h (by decide)) (fun _ => ?_)
    | refine And.intro (fun _ => ?_) (fun h => absurd (by decide) h)
    | refine And.intro (fun _ => ?_) (fun _ => ?_)
    | refine And.intro ?_ ?_
  all_goals (first | (with_reducible assumption) | decide | omega | assumption | (intros; omega) | (intros; simp only [am_c] at * <;> omega) | (simp only [am_c, am_up] at * <;> omega) | (simp [am_c, am_up] at * <;> omega))
theorem w_ranks_X6 {l : Launch} {μ : am_N} {Q : Option am_V → am_N → Prop} {ν : am_N}  (hS : sx ν μ)  (k : ∀ r μ', sx ν μ' → Q (some (.inl r)) μ') : am_Does l 98 [.inr (.inr 0)] μ Q := by
  refine am_Does_of (Nat.le_of_ble_eq_true rfl) (Nat.le_of_ble_eq_true rfl) (Nat.le_of_ble_eq_true rfl) ?_
  have hb := sx_all hS
  have lp2 : ∀ (m : Nat) (i : Int) (μ : am_N) , sx ν μ → 0 ≤ i → i ≤ 4 → 4 - i < (m : Int) → am_AW l 0 (fun _ => 0) 98 Q 2 [some (.inr (.inr 0)), some (.inl i)] [] μ := by
    intro m
    induction m with
    | zero =>
      intro i μ hv0 hv1 hv2 hm
      have hb := sx_all hv0
      exfalso
      omega
    | succ m ih =>
      intro i μ hv0 hv1 hv2 hm
      have hb := sx_all hv0
      refine am_go (ct := fun pc => Nat.beq pc 2) am_oX6_ranks 300 ?_
      conv => whnf
      repeat' first
        | (refine (?_ : am_wp _ _ _ _ _ _ _ _ _ _ _ _); conv => whnf)
        | (refine (?_ : am_sw _ _ _ _); conv => whnf)
        | refine And.intro trivial ?_
        | exact trivial
        | (with_reducible assumption)
        | refine sx_c29 ?_ ?_
        | exact (sx_all (ν := ν) (by assumption)).1
        | ((with_reducible refine (?_ : _ ∧ _)); first | (with_reducible first | refine am_jn am_q1 ?_ | refine am_jn am_q2 ?_ | refine am_jn am_q3 ?_ | refine am_jn am_q4 ?_ | refine am_jn am_q6 ?_ | refine am_jn am_q9 ?_ | refine am_jn am_p1 ?_ | refine am_jy am_p0 ?_ | refine am_kn am_q1 ?_ | refine am_kn am_q2 ?_ | refine am_kn am_q3 ?_ | refine am_kn am_q4 ?_ | refine am_kn am_q6 ?_ | refine am_kn am_q9 ?_ | refine am_kn am_p1 ?_ | refine am_ky am_p0 ?_) | refine And.intro (fun h => absurd h (by decide)) (fun _ => ?_) | refine And.intro (fun _ => ?_) (fun h => absurd (by decide) h) | refine And.intro (fun _ => ?_) (fun _ => ?_) | refine And.intro ?_ ?_)
        | refine k _ _ ?_
        | refine sx_up ?_ rfl
        | ((with_reducible refine (?_ : am_Does _ 133 _ _ _)); refine w_leagueWays_X6 (ν := ν) _ ?_  (fun _ _ _ => ?_))
        | ((with_reducible refine (?_ : am_Does _ 36 _ _ _)); first | ((with_reducible refine (?_ : am_Does _ 36 (Sum.inr (Sum.inr 29) :: _) _ _)); refine w_line_X2_29 (ν := ν)  ?_  (fun _ _ => ?_)) | ((with_reducible refine (?_ : am_Does _ 36 (Sum.inr (Sum.inr 38) :: _) _ _)); refine w_line_X2_38 (ν := ν)  ?_  (fun _ _ => ?_)) | refine w_line_X2_29 (ν := ν)  ?_  (fun _ _ => ?_) | refine w_line_X2_38 (ν := ν)  ?_  (fun _ _ => ?_))
        | ((with_reducible refine (?_ : am_Does _ 40 _ _ _)); refine w_digits_X2_29 (ν := ν)  ?_  (fun _ => ?_))
        | ((with_reducible refine (?_ : am_AW _ _ _ _ _ 2 _ _ _)); refine ih _ _ ?_ ?_ ?_ ?_)
        | refine And.intro (fun h => absurd h (by decide)) (fun _ => ?_)
        | refine And.intro (fun _ => ?_) (fun h => absurd (by decide) h)
        | refine And.intro (fun _ => ?_) (fun _ => ?_)
        | refine And.intro ?_ ?_
      all_goals (first | (with_reducible assumption) | decide | omega | assumption | (intros; omega) | (intros; simp only [am_c] at * <;> omega) | (simp only [am_c, am_up] at * <;> omega) | (simp [am_c, am_up] at * <;> omega))
  have lp2' : ∀ (i : Int) (μ : am_N) , sx ν μ → 0 ≤ i → i ≤ 4 → am_AW l 0 (fun _ => 0) 98 Q 2 [some (.inr (.inr 0)), some (.inl i)] [] μ := fun i μ hv0 hv1 hv2 => lp2 ((4 - i) + 1).toNat i μ hv0 hv1 hv2 (by omega)
  refine am_go (ct := fun pc => Nat.beq pc 2) am_oX6_ranks 300 ?_
  conv => whnf
  repeat' first
    | (refine (?_ : am_wp _ _ _ _ _ _ _ _ _ _ _ _); conv => whnf)
    | (refine (?_ : am_sw _ _ _ _); conv => whnf)
    | refine And.intro trivial ?_
    | exact trivial
    | (with_reducible assumption)
    | refine sx_c29 ?_ ?_
    | exact (sx_all (ν := ν) (by assumption)).1
    | ((with_reducible refine (?_ : _ ∧ _)); first | (with_reducible first | refine am_jn am_q1 ?_ | refine am_jn am_q2 ?_ | refine am_jn am_q3 ?_ | refine am_jn am_q4 ?_ | refine am_jn am_q6 ?_ | refine am_jn am_q9 ?_ | refine am_jn am_p1 ?_ | refine am_jy am_p0 ?_ | refine am_kn am_q1 ?_ | refine am_kn am_q2 ?_ | refine am_kn am_q3 ?_ | refine am_kn am_q4 ?_ | refine am_kn am_q6 ?_ | refine am_kn am_q9 ?_ | refine am_kn am_p1 ?_ | refine am_ky am_p0 ?_) | refine And.intro (fun h => absurd h (by decide)) (fun _ => ?_) | refine And.intro (fun _ => ?_) (fun h => absurd (by decide) h) | refine And.intro (fun _ => ?_) (fun _ => ?_) | refine And.intro ?_ ?_)
    | refine k _ _ ?_
    | refine sx_up ?_ rfl
    | ((with_reducible refine (?_ : am_Does _ 133 _ _ _)); refine w_leagueWays_X6 (ν := ν) _ ?_  (fun _ _ _ => ?_))
    | ((with_reducible refine (?_ : am_Does _ 36 _ _ _)); first | ((with_reducible refine (?_ : am_Does _ 36 (Sum.inr (Sum.inr 29) :: _) _ _)); refine w_line_X2_29 (ν := ν)  ?_  (fun _ _ => ?_)) | ((with_reducible refine (?_ : am_Does _ 36 (Sum.inr (Sum.inr 38) :: _) _ _)); refine w_line_X2_38 (ν := ν)  ?_  (fun _ _ => ?_)) | refine w_line_X2_29 (ν := ν)  ?_  (fun _ _ => ?_) | refine w_line_X2_38 (ν := ν)  ?_  (fun _ _ => ?_))
    | ((with_reducible refine (?_ : am_Does _ 40 _ _ _)); refine w_digits_X2_29 (ν := ν)  ?_  (fun _ => ?_))
    | ((with_reducible refine (?_ : am_AW _ _ _ _ _ 2 _ _ _)); refine lp2' _ _ ?_ ?_ ?_)
    | refine And.intro (fun h => absurd h (by decide)) (fun _ => ?_)
    | refine And.intro (fun _ => ?_) (fun h => absurd (by decide) h)
    | refine And.intro (fun _ => ?_) (fun _ => ?_)
    | refine And.intro ?_ ?_
  all_goals (first | (with_reducible assumption) | decide | omega | assumption | (intros; omega) | (intros; simp only [am_c] at * <;> omega) | (simp only [am_c, am_up] at * <;> omega) | (simp [am_c, am_up] at * <;> omega))
theorem w_hold_X6 {l : Launch} {μ : am_N} {Q : Option am_V → am_N → Prop} {ν : am_N} (a b : Int) (hS : sx ν μ) (ha0 : -2147483648 ≤ a) (ha1 : a ≤ 2147483647) (hb0 : -2147483648 ≤ b) (hb1 : b ≤ 2147483647) (k : ∀ r μ', sx ν μ' → Q (some (.inl r)) μ') : am_Does l 99 [.inr (.inr 0), .inl a, .inl b] μ Q := by
  refine am_Does_of (Nat.le_of_ble_eq_true rfl) (Nat.le_of_ble_eq_true rfl) (Nat.le_of_ble_eq_true rfl) ?_
  have hb := sx_all hS
  have lp17 : ∀ (m : Nat) (i : Int) (o4 o5 o6 : Option am_V) (μ : am_N) , sx ν μ → 0 ≤ am_c a → am_c a < 4 → 0 ≤ am_c b → am_c b < 4 → 0 ≤ i → i ≤ 4 → 4 - i < (m : Int) → am_AW l 0 (fun _ => 0) 99 Q 17 [some (.inr (.inr 0)), some (.inl a), some (.inl b), some (.inl i), o4, o5, o6] [] μ := by
    intro m
    induction m with
    | zero =>
      intro i o4 o5 o6 μ hv0 hv1 hv2 hv3 hv4 hv5 hv6 hm
      have hb := sx_all hv0
      exfalso
      omega
    | succ m ih =>
      intro i o4 o5 o6 μ hv0 hv1 hv2 hv3 hv4 hv5 hv6 hm
      have hb := sx_all hv0
      refine am_go (ct := fun pc => Nat.beq pc 17) am_oX6_hold 300 ?_
      conv => whnf
      repeat' first
        | (refine (?_ : am_wp _ _ _ _ _ _ _ _ _ _ _ _); conv => whnf)
        | (refine (?_ : am_sw _ _ _ _); conv => whnf)
        | refine And.intro trivial ?_
        | exact trivial
        | (with_reducible assumption)
        | ((with_reducible refine (?_ : _ ∧ _)); first | (with_reducible first | refine am_jn am_q1 ?_ | refine am_jn am_q2 ?_ | refine am_jn am_q3 ?_ | refine am_jn am_q4 ?_ | refine am_jn am_q6 ?_ | refine am_jn am_q9 ?_ | refine am_jn am_p1 ?_ | refine am_jy am_p0 ?_ | refine am_kn am_q1 ?_ | refine am_kn am_q2 ?_ | refine am_kn am_q3 ?_ | refine am_kn am_q4 ?_ | refine am_kn am_q6 ?_ | refine am_kn am_q9 ?_ | refine am_kn am_p1 ?_ | refine am_ky am_p0 ?_) | refine And.intro (fun h => absurd h (by decide)) (fun _ => ?_) | refine And.intro (fun _ => ?_) (fun h => absurd (by decide) h) | refine And.intro (fun _ => ?_) (fun _ => ?_) | refine And.intro ?_ ?_)
        | refine k _ _ ?_
        | refine sx_up ?_ rfl
        | ((with_reducible refine (?_ : am_Does _ 117 _ _ _)); refine w_notTwo_X6 (ν := ν) _ _ ?_ ?_ (fun _ _ _ _ => ?_))
        | ((with_reducible refine (?_ : am_Does _ 113 _ _ _)); refine w_refuse_X6 (ν := ν) _ ?_ ?_ ?_ (fun _ _ _ => ?_))
        | ((with_reducible refine (?_ : am_Does _ 134 _ _ _)); refine w_holdWorth_X6 (ν := ν) _ _ _ ?_ ?_ ?_ ?_ ?_ (fun _ _ _ => ?_))
        | ((with_reducible refine (?_ : am_AW _ _ _ _ _ 17 _ _ _)); refine ih _ _ _ _ _ ?_ ?_ ?_ ?_ ?_ ?_ ?_ ?_)
        | refine And.intro (fun h => absurd h (by decide)) (fun _ => ?_)
        | refine And.intro (fun _ => ?_) (fun h => absurd (by decide) h)
        | refine And.intro (fun _ => ?_) (fun _ => ?_)
        | refine And.intro ?_ ?_
      all_goals (first | (with_reducible assumption) | decide | omega | assumption | (intros; omega) | (intros; simp only [am_c] at * <;> omega) | (simp only [am_c, am_up] at * <;> omega) | (simp [am_c, am_up] at * <;> omega))
  have lp17' : ∀ (i : Int) (o4 o5 o6 : Option am_V) (μ : am_N) , sx ν μ → 0 ≤ am_c a → am_c a < 4 → 0 ≤ am_c b → am_c b < 4 → 0 ≤ i → i ≤ 4 → am_AW l 0 (fun _ => 0) 99 Q 17 [some (.inr (.inr 0)), some (.inl a), some (.inl b), some (.inl i), o4, o5, o6] [] μ := fun i o4 o5 o6 μ hv0 hv1 hv2 hv3 hv4 hv5 hv6 => lp17 ((4 - i) + 1).toNat i o4 o5 o6 μ hv0 hv1 hv2 hv3 hv4 hv5 hv6 (by omega)
  refine am_go (ct := fun pc => Nat.beq pc 17) am_oX6_hold 300 ?_
  conv => whnf
  repeat' first
    | (refine (?_ : am_wp _ _ _ _ _ _ _ _ _ _ _ _); conv => whnf)
    | (refine (?_ : am_sw _ _ _ _); conv => whnf)
    | refine And.intro trivial ?_
    | exact trivial
    | (with_reducible assumption)
    | ((with_reducible refine (?_ : _ ∧ _)); first | (with_reducible first | refine am_jn am_q1 ?_ | refine am_jn am_q2 ?_ | refine am_jn am_q3 ?_ | refine am_jn am_q4 ?_ | refine am_jn am_q6 ?_ | refine am_jn am_q9 ?_ | refine am_jn am_p1 ?_ | refine am_jy am_p0 ?_ | refine am_kn am_q1 ?_ | refine am_kn am_q2 ?_ | refine am_kn am_q3 ?_ | refine am_kn am_q4 ?_ | refine am_kn am_q6 ?_ | refine am_kn am_q9 ?_ | refine am_kn am_p1 ?_ | refine am_ky am_p0 ?_) | refine And.intro (fun h => absurd h (by decide)) (fun _ => ?_) | refine And.intro (fun _ => ?_) (fun h => absurd (by decide) h) | refine And.intro (fun _ => ?_) (fun _ => ?_) | refine And.intro ?_ ?_)
    | refine k _ _ ?_
    | refine sx_up ?_ rfl
    | ((with_reducible refine (?_ : am_Does _ 117 _ _ _)); refine w_notTwo_X6 (ν := ν) _ _ ?_ ?_ (fun _ _ _ _ => ?_))
    | ((with_reducible refine (?_ : am_Does _ 113 _ _ _)); refine w_refuse_X6 (ν := ν) _ ?_ ?_ ?_ (fun _ _ _ => ?_))
    | ((with_reducible refine (?_ : am_Does _ 134 _ _ _)); refine w_holdWorth_X6 (ν := ν) _ _ _ ?_ ?_ ?_ ?_ ?_ (fun _ _ _ => ?_))
    | ((with_reducible refine (?_ : am_AW _ _ _ _ _ 17 _ _ _)); refine lp17' _ _ _ _ _ ?_ ?_ ?_ ?_ ?_ ?_ ?_)
    | refine And.intro (fun h => absurd h (by decide)) (fun _ => ?_)
    | refine And.intro (fun _ => ?_) (fun h => absurd (by decide) h)
    | refine And.intro (fun _ => ?_) (fun _ => ?_)
    | refine And.intro ?_ ?_
  all_goals (first | (with_reducible assumption) | decide | omega | assumption | (intros; omega) | (intros; simp only [am_c] at * <;> omega) | (simp only [am_c, am_up] at * <;> omega) | (simp [am_c, am_up] at * <;> omega))
theorem w_legs_X6 {l : Launch} {μ : am_N} {Q : Option am_V → am_N → Prop} {ν : am_N} (a b c d : Int) (hS : sx ν μ) (ha0 : -2147483648 ≤ a) (ha1 : a ≤ 2147483647) (hb0 : -2147483648 ≤ b) (hb1 : b ≤ 2147483647) (hc0 : -2147483648 ≤ c) (hc1 : c ≤ 2147483647) (hd0 : -2147483648 ≤ d) (hd1 : d ≤ 2147483647) (k : ∀ r μ', sx ν μ' → Q (some (.inl r)) μ') : am_Does l 100 [.inr (.inr 0), .inl a, .inl b, .inl c, .inl d] μ Q := by
  refine am_Does_of (Nat.le_of_ble_eq_true rfl) (Nat.le_of_ble_eq_true rfl) (Nat.le_of_ble_eq_true rfl) ?_
  have hb := sx_all hS
  refine am_go (ct := fun _ => false) am_oX6_legs 300 ?_
  conv => whnf
  repeat' first
    | (refine (?_ : am_wp _ _ _ _ _ _ _ _ _ _ _ _); conv => whnf)
    | (refine (?_ : am_sw _ _ _ _); conv => whnf)
    | refine And.intro trivial ?_
    | exact trivial
    | (with_reducible assumption)
    | ((with_reducible refine (?_ : _ ∧ _)); first | (with_reducible first | refine am_jn am_q1 ?_ | refine am_jn am_q2 ?_ | refine am_jn am_q3 ?_ | refine am_jn am_q4 ?_ | refine am_jn am_q6 ?_ | refine am_jn am_q9 ?_ | refine am_jn am_p1 ?_ | refine am_jy am_p0 ?_ | refine am_kn am_q1 ?_ | refine am_kn am_q2 ?_ | refine am_kn am_q3 ?_ | refine am_kn am_q4 ?_ | refine am_kn am_q6 ?_ | refine am_kn am_q9 ?_ | refine am_kn am_p1 ?_ | refine am_ky am_p0 ?_) | refine And.intro (fun h => absurd h (by decide)) (fun _ => ?_) | refine And.intro (fun _ => ?_) (fun h => absurd (by decide) h) | refine And.intro (fun _ => ?_) (fun _ => ?_) | refine And.intro ?_ ?_)
    | refine k _ _ ?_
    | refine sx_up ?_ rfl
    | ((with_reducible refine (?_ : am_Does _ 117 _ _ _)); refine w_notTwo_X6 (ν := ν) _ _ ?_ ?_ (fun _ _ _ _ => ?_))
    | ((with_reducible refine (?_ : am_Does _ 113 _ _ _)); refine w_refuse_X6 (ν := ν) _ ?_ ?_ ?_ (fun _ _ _ => ?_))
    | ((with_reducible refine (?_ : am_Does _ 116 _ _ _)); refine w_noPart_X6 _ ?_ (fun _ => ?_))
    | ((with_reducible refine (?_ : am_Does _ 135 _ _ _)); refine w_relay_X6 (ν := ν) _ _ _ ?_  (fun _ => ?_))
    | refine And.intro (fun h => absurd h (by decide)) (fun _ => ?_)
    | refine And.intro (fun _ => ?_) (fun h => absurd (by decide) h)
    | refine And.intro (fun _ => ?_) (fun _ => ?_)
    | refine And.intro ?_ ?_
  all_goals (first | (with_reducible assumption) | decide | omega | assumption | (intros; omega) | (intros; simp only [am_c] at * <;> omega) | (simp only [am_c, am_up] at * <;> omega) | (simp [am_c, am_up] at * <;> omega))
theorem w_bet_X6 {l : Launch} {μ : am_N} {Q : Option am_V → am_N → Prop} {ν : am_N}  (hS : sx ν μ)  (k : ∀ r μ', sx ν μ' → Q (some (.inl r)) μ') : am_Does l 101 [.inr (.inr 0)] μ Q := by
  refine am_Does_of (Nat.le_of_ble_eq_true rfl) (Nat.le_of_ble_eq_true rfl) (Nat.le_of_ble_eq_true rfl) ?_
  have hb := sx_all hS
  refine am_go (ct := fun _ => false) am_oX6_bet 300 ?_
  conv => whnf
  repeat' first
    | (refine (?_ : am_wp _ _ _ _ _ _ _ _ _ _ _ _); conv => whnf)
    | (refine (?_ : am_sw _ _ _ _); conv => whnf)
    | refine And.intro trivial ?_
    | exact trivial
    | (with_reducible assumption)
    | ((with_reducible refine (?_ : _ ∧ _)); first | (with_reducible first | refine am_jn am_q1 ?_ | refine am_jn am_q2 ?_ | refine am_jn am_q3 ?_ | refine am_jn am_q4 ?_ | refine am_jn am_q6 ?_ | refine am_jn am_q9 ?_ | refine am_jn am_p1 ?_ | refine am_jy am_p0 ?_ | refine am_kn am_q1 ?_ | refine am_kn am_q2 ?_ | refine am_kn am_q3 ?_ | refine am_kn am_q4 ?_ | refine am_kn am_q6 ?_ | refine am_kn am_q9 ?_ | refine am_kn am_p1 ?_ | refine am_ky am_p0 ?_) | refine And.intro (fun h => absurd h (by decide)) (fun _ => ?_) | refine And.intro (fun _ => ?_) (fun h => absurd (by decide) h) | refine And.intro (fun _ => ?_) (fun _ => ?_) | refine And.intro ?_ ?_)
    | refine k _ _ ?_
    | refine sx_up ?_ rfl
    | ((with_reducible refine (?_ : am_Does _ 136 _ _ _)); refine w_betsTold_X6 (ν := ν)  ?_  (fun _ => ?_))
    | ((with_reducible refine (?_ : am_Does _ 113 _ _ _)); refine w_refuse_X6 (ν := ν) _ ?_ ?_ ?_ (fun _ _ _ => ?_))
    | ((with_reducible refine (?_ : am_Does _ 137 _ _ _)); refine w_bestBet_X6 (ν := ν)  ?_  (fun _ _ _ => ?_))
    | refine And.intro (fun h => absurd h (by decide)) (fun _ => ?_)
    | refine And.intro (fun _ => ?_) (fun h => absurd (by decide) h)
    | refine And.intro (fun _ => ?_) (fun _ => ?_)
    | refine And.intro ?_ ?_
  all_goals (first | (with_reducible assumption) | decide | omega | assumption | (intros; omega) | (intros; simp only [am_c] at * <;> omega) | (simp only [am_c, am_up] at * <;> omega) | (simp [am_c, am_up] at * <;> omega))
theorem w_bets_X6 {l : Launch} {μ : am_N} {Q : Option am_V → am_N → Prop} {ν : am_N} (a : Int) (hS : sx ν μ) (ha0 : -2147483648 ≤ a) (ha1 : a ≤ 2147483647) (k : ∀ r μ', sx ν μ' → Q (some (.inr (.inl r))) μ') : am_Does l 102 [.inr (.inr 0), .inl a] μ Q := by
  refine am_Does_of (Nat.le_of_ble_eq_true rfl) (Nat.le_of_ble_eq_true rfl) (Nat.le_of_ble_eq_true rfl) ?_
  have hb := sx_all hS
  refine am_go (ct := fun _ => false) am_oX6_bets 300 ?_
  conv => whnf
  repeat' first
    | (refine (?_ : am_wp _ _ _ _ _ _ _ _ _ _ _ _); conv => whnf)
    | (refine (?_ : am_sw _ _ _ _); conv => whnf)
    | refine And.intro trivial ?_
    | exact trivial
    | (with_reducible assumption)
    | ((with_reducible refine (?_ : _ ∧ _)); first | (with_reducible first | refine am_jn am_q1 ?_ | refine am_jn am_q2 ?_ | refine am_jn am_q3 ?_ | refine am_jn am_q4 ?_ | refine am_jn am_q6 ?_ | refine am_jn am_q9 ?_ | refine am_jn am_p1 ?_ | refine am_jy am_p0 ?_ | refine am_kn am_q1 ?_ | refine am_kn am_q2 ?_ | refine am_kn am_q3 ?_ | refine am_kn am_q4 ?_ | refine am_kn am_q6 ?_ | refine am_kn am_q9 ?_ | refine am_kn am_p1 ?_ | refine am_ky am_p0 ?_) | refine And.intro (fun h => absurd h (by decide)) (fun _ => ?_) | refine And.intro (fun _ => ?_) (fun h => absurd (by decide) h) | refine And.intro (fun _ => ?_) (fun _ => ?_) | refine And.intro ?_ ?_)
    | refine k _ _ ?_
    | refine sx_up ?_ rfl
    | ((with_reducible refine (?_ : am_Does _ 136 _ _ _)); refine w_betsTold_X6 (ν := ν)  ?_  (fun _ => ?_))
    | ((with_reducible refine (?_ : am_Does _ 115 _ _ _)); refine w_refuseLong_X6 (ν := ν) _ ?_ ?_ ?_ (fun _ _ _ => ?_))
    | ((with_reducible refine (?_ : am_Does _ 116 _ _ _)); refine w_noPart_X6 _ ?_ (fun _ => ?_))
    | ((with_reducible refine (?_ : am_Does _ 137 _ _ _)); refine w_bestBet_X6 (ν := ν)  ?_  (fun _ _ _ => ?_))
    | ((with_reducible refine (?_ : am_Does _ 138 _ _ _)); refine w_betWays_X6 (ν := ν) _ ?_  (fun _ => ?_))
    | ((with_reducible refine (?_ : am_Does _ 23 _ _ _)); refine w_allWays_X2_29 (ν := ν)  ?_  (fun _ => ?_))
    | ((with_reducible refine (?_ : am_Does _ 118 _ _ _)); refine w_fraction_X6 (ν := ν) _ _ _ ?_  (fun _ => ?_))
    | refine And.intro (fun h => absurd h (by decide)) (fun _ => ?_)
    | refine And.intro (fun _ => ?_) (fun h => absurd (by decide) h)
    | refine And.intro (fun _ => ?_) (fun _ => ?_)
    | refine And.intro ?_ ?_
  all_goals (first | (with_reducible assumption) | decide | omega | assumption | (intros; omega) | (intros; simp only [am_c] at * <;> omega) | (simp only [am_c, am_up] at * <;> omega) | (simp [am_c, am_up] at * <;> omega))
theorem w_tried_X6 {l : Launch} {μ : am_N} {Q : Option am_V → am_N → Prop} {ν : am_N} (a b : Int) (hS : sx ν μ) (ha0 : -2147483648 ≤ a) (ha1 : a ≤ 2147483647) (hb0 : -2147483648 ≤ b) (hb1 : b ≤ 2147483647) (k : ∀ r μ', sx ν μ' → Q (some (.inl r)) μ') : am_Does l 105 [.inr (.inr 0), .inl a, .inl b] μ Q := by
  refine am_Does_of (Nat.le_of_ble_eq_true rfl) (Nat.le_of_ble_eq_true rfl) (Nat.le_of_ble_eq_true rfl) ?_
  have hb := sx_all hS
  refine am_go (ct := fun _ => false) am_oX6_tried 300 ?_
  conv => whnf
  repeat' first
    | (refine (?_ : am_wp _ _ _ _ _ _ _ _ _ _ _ _); conv => whnf)
    | (refine (?_ : am_sw _ _ _ _); conv => whnf)
    | refine And.intro trivial ?_
    | exact trivial
    | (with_reducible assumption)
    | ((with_reducible refine (?_ : _ ∧ _)); first | (with_reducible first | refine am_jn am_q1 ?_ | refine am_jn am_q2 ?_ | refine am_jn am_q3 ?_ | refine am_jn am_q4 ?_ | refine am_jn am_q6 ?_ | refine am_jn am_q9 ?_ | refine am_jn am_p1 ?_ | refine am_jy am_p0 ?_ | refine am_kn am_q1 ?_ | refine am_kn am_q2 ?_ | refine am_kn am_q3 ?_ | refine am_kn am_q4 ?_ | refine am_kn am_q6 ?_ | refine am_kn am_q9 ?_ | refine am_kn am_p1 ?_ | refine am_ky am_p0 ?_) | refine And.intro (fun h => absurd h (by decide)) (fun _ => ?_) | refine And.intro (fun _ => ?_) (fun h => absurd (by decide) h) | refine And.intro (fun _ => ?_) (fun _ => ?_) | refine And.intro ?_ ?_)
    | refine k _ _ ?_
    | refine sx_up ?_ rfl
    | ((with_reducible refine (?_ : am_Does _ 113 _ _ _)); refine w_refuse_X6 (ν := ν) _ ?_ ?_ ?_ (fun _ _ _ => ?_))
    | ((with_reducible refine (?_ : am_Does _ 116 _ _ _)); refine w_noPart_X6 _ ?_ (fun _ => ?_))
    | ((with_reducible refine (?_ : am_Does _ 2 _ _ _)); first | ((with_reducible refine (?_ : am_Does _ 2 (Sum.inr (Sum.inr 8) :: Sum.inr (Sum.inr 1) :: _) _ _)); refine w_take_X0_8_1 (ν := ν)  ?_  (fun _ _ => ?_)) | ((with_reducible refine (?_ : am_Does _ 2 (Sum.inr (Sum.inr 15) :: Sum.inr (Sum.inr 8) :: _) _ _)); refine w_take_X0_15_8 (ν := ν)  ?_  (fun _ _ => ?_)) | refine w_take_X0_8_1 (ν := ν)  ?_  (fun _ _ => ?_) | refine w_take_X0_15_8 (ν := ν)  ?_  (fun _ _ => ?_))
    | ((with_reducible refine (?_ : am_Does _ 127 _ _ _)); refine w_gaps_X6 (ν := ν) _ _ ?_ ?_ ?_ (fun _ _ _ => ?_))
    | refine And.intro (fun h => absurd h (by decide)) (fun _ => ?_)
    | refine And.intro (fun _ => ?_) (fun h => absurd (by decide) h)
    | refine And.intro (fun _ => ?_) (fun _ => ?_)
    | refine And.intro ?_ ?_
  all_goals (first | (with_reducible assumption) | decide | omega | assumption | (intros; omega) | (intros; simp only [am_c] at * <;> omega) | (simp only [am_c, am_up] at * <;> omega) | (simp [am_c, am_up] at * <;> omega))
theorem w_had_X6 {l : Launch} {μ : am_N} {Q : Option am_V → am_N → Prop} {ν : am_N} (a b c d : Int) (hS : sx ν μ) (ha0 : -2147483648 ≤ a) (ha1 : a ≤ 2147483647) (hb0 : -2147483648 ≤ b) (hb1 : b ≤ 2147483647) (hc0 : -2147483648 ≤ c) (hc1 : c ≤ 2147483647) (hd0 : -2147483648 ≤ d) (hd1 : d ≤ 2147483647) (k : ∀ r μ', sx ν μ' → Q (some (.inl r)) μ') : am_Does l 106 [.inr (.inr 0), .inl a, .inl b, .inl c, .inl d] μ Q := by
  refine am_Does_of (Nat.le_of_ble_eq_true rfl) (Nat.le_of_ble_eq_true rfl) (Nat.le_of_ble_eq_true rfl) ?_
  have hb := sx_all hS
  have lp76 : ∀ (m : Nat) (u v i : Int) (μ : am_N) , sx ν μ → 0 ≤ am_c a → am_c a < 4 → 0 ≤ b → b ≤ 60 → -1 ≤ i → i ≤ 99 → i + 1 < (m : Int) → am_AW l 0 (fun _ => 0) 106 Q 76 [some (.inr (.inr 0)), some (.inl a), some (.inl b), some (.inl c), some (.inl d), some (.inl u), some (.inl v), some (.inl i)] [] μ := by
    intro m
    induction m with
    | zero =>
      intro u v i μ hv0 hv1 hv2 hv3 hv4 hv5 hv6 hm
      have hb := sx_all hv0
      exfalso
      omega
    | succ m ih =>
      intro u v i μ hv0 hv1 hv2 hv3 hv4 hv5 hv6 hm
      have hb := sx_all hv0
      refine am_go (ct := fun pc => Nat.beq pc 76) am_oX6_had 300 ?_
      conv => whnf
      repeat' first
        | (refine (?_ : am_wp _ _ _ _ _ _ _ _ _ _ _ _); conv => whnf)
        | (refine (?_ : am_sw _ _ _ _); conv => whnf)
        | refine And.intro trivial ?_
        | exact trivial
        | (with_reducible assumption)
        | ((with_reducible refine (?_ : _ ∧ _)); first | (with_reducible first | refine am_jn am_q1 ?_ | refine am_jn am_q2 ?_ | refine am_jn am_q3 ?_ | refine am_jn am_q4 ?_ | refine am_jn am_q6 ?_ | refine am_jn am_q9 ?_ | refine am_jn am_p1 ?_ | refine am_jy am_p0 ?_ | refine am_kn am_q1 ?_ | refine am_kn am_q2 ?_ | refine am_kn am_q3 ?_ | refine am_kn am_q4 ?_ | refine am_kn am_q6 ?_ | refine am_kn am_q9 ?_ | refine am_kn am_p1 ?_ | refine am_ky am_p0 ?_) | refine And.intro (fun h => absurd h (by decide)) (fun _ => ?_) | refine And.intro (fun _ => ?_) (fun h => absurd (by decide) h) | refine And.intro (fun _ => ?_) (fun _ => ?_) | refine And.intro ?_ ?_)
        | refine k _ _ ?_
        | refine sx_up ?_ rfl
        | ((with_reducible refine (?_ : am_Does _ 1 _ _ _)); first | ((with_reducible refine (?_ : am_Does _ 1 (Sum.inr (Sum.inr 1) :: _) _ _)); refine w_has_X0_1 (ν := ν) _ ?_ (fun _ _ _ => ?_) (fun _ => ?_)) | ((with_reducible refine (?_ : am_Does _ 1 (Sum.inr (Sum.inr 8) :: _) _ _)); refine w_has_X0_8 (ν := ν) _ ?_ (fun _ _ _ => ?_) (fun _ => ?_)) | ((with_reducible refine (?_ : am_Does _ 1 (Sum.inr (Sum.inr 15) :: _) _ _)); refine w_has_X0_15 (ν := ν) _ ?_ (fun _ _ _ => ?_) (fun _ => ?_)) | refine w_has_X0_1 (ν := ν) _ ?_ (fun _ _ _ => ?_) (fun _ => ?_) | refine w_has_X0_8 (ν := ν) _ ?_ (fun _ _ _ => ?_) (fun _ => ?_) | refine w_has_X0_15 (ν := ν) _ ?_ (fun _ _ _ => ?_) (fun _ => ?_))
        | ((with_reducible refine (?_ : am_Does _ 113 _ _ _)); refine w_refuse_X6 (ν := ν) _ ?_ ?_ ?_ (fun _ _ _ => ?_))
        | ((with_reducible refine (?_ : am_Does _ 116 _ _ _)); refine w_noPart_X6 _ ?_ (fun _ => ?_))
        | ((with_reducible refine (?_ : am_Does _ 2 _ _ _)); first | ((with_reducible refine (?_ : am_Does _ 2 (Sum.inr (Sum.inr 8) :: Sum.inr (Sum.inr 1) :: _) _ _)); refine w_take_X0_8_1 (ν := ν)  ?_  (fun _ _ => ?_)) | ((with_reducible refine (?_ : am_Does _ 2 (Sum.inr (Sum.inr 15) :: Sum.inr (Sum.inr 8) :: _) _ _)); refine w_take_X0_15_8 (ν := ν)  ?_  (fun _ _ => ?_)) | refine w_take_X0_8_1 (ν := ν)  ?_  (fun _ _ => ?_) | refine w_take_X0_15_8 (ν := ν)  ?_  (fun _ _ => ?_))
        | ((with_reducible refine (?_ : am_Does _ 125 _ _ _)); refine w_winsIn_X6 (ν := ν) _ _ ?_ ?_ ?_ (fun _ _ _ => ?_))
        | ((with_reducible refine (?_ : am_AW _ _ _ _ _ 76 _ _ _)); refine ih _ _ _ _ ?_ ?_ ?_ ?_ ?_ ?_ ?_ ?_)
        | refine And.intro (fun h => absurd h (by decide)) (fun _ => ?_)
        | refine And.intro (fun _ => ?_) (fun h => absurd (by decide) h)
        | refine And.intro (fun _ => ?_) (fun _ => ?_)
        | refine And.intro ?_ ?_
      all_goals (first | (with_reducible assumption) | decide | omega | assumption | (intros; omega) | (intros; simp only [am_c] at * <;> omega) | (simp only [am_c, am_up] at * <;> omega) | (simp [am_c, am_up] at * <;> omega))
  have lp76' : ∀ (u v i : Int) (μ : am_N) , sx ν μ → 0 ≤ am_c a → am_c a < 4 → 0 ≤ b → b ≤ 60 → -1 ≤ i → i ≤ 99 → am_AW l 0 (fun _ => 0) 106 Q 76 [some (.inr (.inr 0)), some (.inl a), some (.inl b), some (.inl c), some (.inl d), some (.inl u), some (.inl v), some (.inl i)] [] μ := fun u v i μ hv0 hv1 hv2 hv3 hv4 hv5 hv6 => lp76 ((i + 1) + 1).toNat u v i μ hv0 hv1 hv2 hv3 hv4 hv5 hv6 (by omega)
  refine am_go (ct := fun pc => Nat.beq pc 76) am_oX6_had 300 ?_
  conv => whnf
  repeat' first
    | (refine (?_ : am_wp _ _ _ _ _ _ _ _ _ _ _ _); conv => whnf)
    | (refine (?_ : am_sw _ _ _ _); conv => whnf)
    | refine And.intro trivial ?_
    | exact trivial
    | (with_reducible assumption)
    | ((with_reducible refine (?_ : _ ∧ _)); first | (with_reducible first | refine am_jn am_q1 ?_ | refine am_jn am_q2 ?_ | refine am_jn am_q3 ?_ | refine am_jn am_q4 ?_ | refine am_jn am_q6 ?_ | refine am_jn am_q9 ?_ | refine am_jn am_p1 ?_ | refine am_jy am_p0 ?_ | refine am_kn am_q1 ?_ | refine am_kn am_q2 ?_ | refine am_kn am_q3 ?_ | refine am_kn am_q4 ?_ | refine am_kn am_q6 ?_ | refine am_kn am_q9 ?_ | refine am_kn am_p1 ?_ | refine am_ky am_p0 ?_) | refine And.intro (fun h => absurd h (by decide)) (fun _ => ?_) | refine And.intro (fun _ => ?_) (fun h => absurd (by decide) h) | refine And.intro (fun _ => ?_) (fun _ => ?_) | refine And.intro ?_ ?_)
    | refine k _ _ ?_
    | refine sx_up ?_ rfl
    | ((with_reducible refine (?_ : am_Does _ 1 _ _ _)); first | ((with_reducible refine (?_ : am_Does _ 1 (Sum.inr (Sum.inr 1) :: _) _ _)); refine w_has_X0_1 (ν := ν) _ ?_ (fun _ _ _ => ?_) (fun _ => ?_)) | ((with_reducible refine (?_ : am_Does _ 1 (Sum.inr (Sum.inr 8) :: _) _ _)); refine w_has_X0_8 (ν := ν) _ ?_ (fun _ _ _ => ?_) (fun _ => ?_)) | ((with_reducible refine (?_ : am_Does _ 1 (Sum.inr (Sum.inr 15) :: _) _ _)); refine w_has_X0_15 (ν := ν) _ ?_ (fun _ _ _ => ?_) (fun _ => ?_)) | refine w_has_X0_1 (ν := ν) _ ?_ (fun _ _ _ => ?_) (fun _ => ?_) | refine w_has_X0_8 (ν := ν) _ ?_ (fun _ _ _ => ?_) (fun _ => ?_) | refine w_has_X0_15 (ν := ν) _ ?_ (fun _ _ _ => ?_) (fun _ => ?_))
    | ((with_reducible refine (?_ : am_Does _ 113 _ _ _)); refine w_refuse_X6 (ν := ν) _ ?_ ?_ ?_ (fun _ _ _ => ?_))
    | ((with_reducible refine (?_ : am_Does _ 116 _ _ _)); refine w_noPart_X6 _ ?_ (fun _ => ?_))
    | ((with_reducible refine (?_ : am_Does _ 2 _ _ _)); first | ((with_reducible refine (?_ : am_Does _ 2 (Sum.inr (Sum.inr 8) :: Sum.inr (Sum.inr 1) :: _) _ _)); refine w_take_X0_8_1 (ν := ν)  ?_  (fun _ _ => ?_)) | ((with_reducible refine (?_ : am_Does _ 2 (Sum.inr (Sum.inr 15) :: Sum.inr (Sum.inr 8) :: _) _ _)); refine w_take_X0_15_8 (ν := ν)  ?_  (fun _ _ => ?_)) | refine w_take_X0_8_1 (ν := ν)  ?_  (fun _ _ => ?_) | refine w_take_X0_15_8 (ν := ν)  ?_  (fun _ _ => ?_))
    | ((with_reducible refine (?_ : am_Does _ 125 _ _ _)); refine w_winsIn_X6 (ν := ν) _ _ ?_ ?_ ?_ (fun _ _ _ => ?_))
    | ((with_reducible refine (?_ : am_AW _ _ _ _ _ 76 _ _ _)); refine lp76' _ _ _ _ ?_ ?_ ?_ ?_ ?_ ?_ ?_)
    | refine And.intro (fun h => absurd h (by decide)) (fun _ => ?_)
    | refine And.intro (fun _ => ?_) (fun h => absurd (by decide) h)
    | refine And.intro (fun _ => ?_) (fun _ => ?_)
    | refine And.intro ?_ ?_
  all_goals (first | (with_reducible assumption) | decide | omega | assumption | (intros; omega) | (intros; simp only [am_c] at * <;> omega) | (simp only [am_c, am_up] at * <;> omega) | (simp [am_c, am_up] at * <;> omega))
theorem w_past_X6 {l : Launch} {μ : am_N} {Q : Option am_V → am_N → Prop} {ν : am_N} (a b : Int) (hS : sx ν μ) (ha0 : -2147483648 ≤ a) (ha1 : a ≤ 2147483647) (hb0 : -2147483648 ≤ b) (hb1 : b ≤ 2147483647) (k : ∀ r μ', sx ν μ' → Q (some (.inl r)) μ') : am_Does l 108 [.inr (.inr 0), .inl a, .inl b] μ Q := by
  refine am_Does_of (Nat.le_of_ble_eq_true rfl) (Nat.le_of_ble_eq_true rfl) (Nat.le_of_ble_eq_true rfl) ?_
  have hb := sx_all hS
  have lp52 : ∀ (m : Nat) (u v i : Int) (μ : am_N) , sx ν μ → 0 ≤ am_c a → am_c a < 4 → -1 ≤ i → i ≤ 59 → i + 1 < (m : Int) → am_AW l 0 (fun _ => 0) 108 Q 52 [some (.inr (.inr 0)), some (.inl a), some (.inl b), some (.inl u), some (.inl v), some (.inl i)] [] μ := by
    intro m
    induction m with
    | zero =>
      intro u v i μ hv0 hv1 hv2 hv3 hv4 hm
      have hb := sx_all hv0
      exfalso
      omega
    | succ m ih =>
      intro u v i μ hv0 hv1 hv2 hv3 hv4 hm
      have hb := sx_all hv0
      refine am_go (ct := fun pc => Nat.beq pc 52) am_oX6_past 300 ?_
      conv => whnf
      repeat' first
        | (refine (?_ : am_wp _ _ _ _ _ _ _ _ _ _ _ _); conv => whnf)
        | (refine (?_ : am_sw _ _ _ _); conv => whnf)
        | refine And.intro trivial ?_
        | exact trivial
        | (with_reducible assumption)
        | ((with_reducible refine (?_ : _ ∧ _)); first | (with_reducible first | refine am_jn am_q1 ?_ | refine am_jn am_q2 ?_ | refine am_jn am_q3 ?_ | refine am_jn am_q4 ?_ | refine am_jn am_q6 ?_ | refine am_jn am_q9 ?_ | refine am_jn am_p1 ?_ | refine am_jy am_p0 ?_ | refine am_kn am_q1 ?_ | refine am_kn am_q2 ?_ | refine am_kn am_q3 ?_ | refine am_kn am_q4 ?_ | refine am_kn am_q6 ?_ | refine am_kn am_q9 ?_ | refine am_kn am_p1 ?_ | refine am_ky am_p0 ?_) | refine And.intro (fun h => absurd h (by decide)) (fun _ => ?_) | refine And.intro (fun _ => ?_) (fun h => absurd (by decide) h) | refine And.intro (fun _ => ?_) (fun _ => ?_) | refine And.intro ?_ ?_)
        | refine k _ _ ?_
        | refine sx_up ?_ rfl
        | ((with_reducible refine (?_ : am_Does _ 1 _ _ _)); first | ((with_reducible refine (?_ : am_Does _ 1 (Sum.inr (Sum.inr 1) :: _) _ _)); refine w_has_X0_1 (ν := ν) _ ?_ (fun _ _ _ => ?_) (fun _ => ?_)) | ((with_reducible refine (?_ : am_Does _ 1 (Sum.inr (Sum.inr 8) :: _) _ _)); refine w_has_X0_8 (ν := ν) _ ?_ (fun _ _ _ => ?_) (fun _ => ?_)) | ((with_reducible refine (?_ : am_Does _ 1 (Sum.inr (Sum.inr 15) :: _) _ _)); refine w_has_X0_15 (ν := ν) _ ?_ (fun _ _ _ => ?_) (fun _ => ?_)) | refine w_has_X0_1 (ν := ν) _ ?_ (fun _ _ _ => ?_) (fun _ => ?_) | refine w_has_X0_8 (ν := ν) _ ?_ (fun _ _ _ => ?_) (fun _ => ?_) | refine w_has_X0_15 (ν := ν) _ ?_ (fun _ _ _ => ?_) (fun _ => ?_))
        | ((with_reducible refine (?_ : am_Does _ 113 _ _ _)); refine w_refuse_X6 (ν := ν) _ ?_ ?_ ?_ (fun _ _ _ => ?_))
        | ((with_reducible refine (?_ : am_Does _ 116 _ _ _)); refine w_noPart_X6 _ ?_ (fun _ => ?_))
        | ((with_reducible refine (?_ : am_Does _ 2 _ _ _)); first | ((with_reducible refine (?_ : am_Does _ 2 (Sum.inr (Sum.inr 8) :: Sum.inr (Sum.inr 1) :: _) _ _)); refine w_take_X0_8_1 (ν := ν)  ?_  (fun _ _ => ?_)) | ((with_reducible refine (?_ : am_Does _ 2 (Sum.inr (Sum.inr 15) :: Sum.inr (Sum.inr 8) :: _) _ _)); refine w_take_X0_15_8 (ν := ν)  ?_  (fun _ _ => ?_)) | refine w_take_X0_8_1 (ν := ν)  ?_  (fun _ _ => ?_) | refine w_take_X0_15_8 (ν := ν)  ?_  (fun _ _ => ?_))
        | ((with_reducible refine (?_ : am_Does _ 139 _ _ _)); refine w_tookThese_X6 (ν := ν) _ ?_  (fun _ _ _ => ?_))
        | ((with_reducible refine (?_ : am_AW _ _ _ _ _ 52 _ _ _)); refine ih _ _ _ _ ?_ ?_ ?_ ?_ ?_ ?_)
        | refine And.intro (fun h => absurd h (by decide)) (fun _ => ?_)
        | refine And.intro (fun _ => ?_) (fun h => absurd (by decide) h)
        | refine And.intro (fun _ => ?_) (fun _ => ?_)
        | refine And.intro ?_ ?_
      all_goals (first | (with_reducible assumption) | decide | omega | assumption | (intros; omega) | (intros; simp only [am_c] at * <;> omega) | (simp only [am_c, am_up] at * <;> omega) | (simp [am_c, am_up] at * <;> omega))
  have lp52' : ∀ (u v i : Int) (μ : am_N) , sx ν μ → 0 ≤ am_c a → am_c a < 4 → -1 ≤ i → i ≤ 59 → am_AW l 0 (fun _ => 0) 108 Q 52 [some (.inr (.inr 0)), some (.inl a), some (.inl b), some (.inl u), some (.inl v), some (.inl i)] [] μ := fun u v i μ hv0 hv1 hv2 hv3 hv4 => lp52 ((i + 1) + 1).toNat u v i μ hv0 hv1 hv2 hv3 hv4 (by omega)
  refine am_go (ct := fun pc => Nat.beq pc 52) am_oX6_past 300 ?_
  conv => whnf
  repeat' first
    | (refine (?_ : am_wp _ _ _ _ _ _ _ _ _ _ _ _); conv => whnf)
    | (refine (?_ : am_sw _ _ _ _); conv => whnf)
    | refine And.intro trivial ?_
    | exact trivial
    | (with_reducible assumption)
    | ((with_reducible refine (?_ : _ ∧ _)); first | (with_reducible first | refine am_jn am_q1 ?_ | refine am_jn am_q2 ?_ | refine am_jn am_q3 ?_ | refine am_jn am_q4 ?_ | refine am_jn am_q6 ?_ | refine am_jn am_q9 ?_ | refine am_jn am_p1 ?_ | refine am_jy am_p0 ?_ | refine am_kn am_q1 ?_ | refine am_kn am_q2 ?_ | refine am_kn am_q3 ?_ | refine am_kn am_q4 ?_ | refine am_kn am_q6 ?_ | refine am_kn am_q9 ?_ | refine am_kn am_p1 ?_ | refine am_ky am_p0 ?_) | refine And.intro (fun h => absurd h (by decide)) (fun _ => ?_) | refine And.intro (fun _ => ?_) (fun h => absurd (by decide) h) | refine And.intro (fun _ => ?_) (fun _ => ?_) | refine And.intro ?_ ?_)
    | refine k _ _ ?_
    | refine sx_up ?_ rfl
    | ((with_reducible refine (?_ : am_Does _ 1 _ _ _)); first | ((with_reducible refine (?_ : am_Does _ 1 (Sum.inr (Sum.inr 1) :: _) _ _)); refine w_has_X0_1 (ν := ν) _ ?_ (fun _ _ _ => ?_) (fun _ => ?_)) | ((with_reducible refine (?_ : am_Does _ 1 (Sum.inr (Sum.inr 8) :: _) _ _)); refine w_has_X0_8 (ν := ν) _ ?_ (fun _ _ _ => ?_) (fun _ => ?_)) | ((with_reducible refine (?_ : am_Does _ 1 (Sum.inr (Sum.inr 15) :: _) _ _)); refine w_has_X0_15 (ν := ν) _ ?_ (fun _ _ _ => ?_) (fun _ => ?_)) | refine w_has_X0_1 (ν := ν) _ ?_ (fun _ _ _ => ?_) (fun _ => ?_) | refine w_has_X0_8 (ν := ν) _ ?_ (fun _ _ _ => ?_) (fun _ => ?_) | refine w_has_X0_15 (ν := ν) _ ?_ (fun _ _ _ => ?_) (fun _ => ?_))
    | ((with_reducible refine (?_ : am_Does _ 113 _ _ _)); refine w_refuse_X6 (ν := ν) _ ?_ ?_ ?_ (fun _ _ _ => ?_))
    | ((with_reducible refine (?_ : am_Does _ 116 _ _ _)); refine w_noPart_X6 _ ?_ (fun _ => ?_))
    | ((with_reducible refine (?_ : am_Does _ 2 _ _ _)); first | ((with_reducible refine (?_ : am_Does _ 2 (Sum.inr (Sum.inr 8) :: Sum.inr (Sum.inr 1) :: _) _ _)); refine w_take_X0_8_1 (ν := ν)  ?_  (fun _ _ => ?_)) | ((with_reducible refine (?_ : am_Does _ 2 (Sum.inr (Sum.inr 15) :: Sum.inr (Sum.inr 8) :: _) _ _)); refine w_take_X0_15_8 (ν := ν)  ?_  (fun _ _ => ?_)) | refine w_take_X0_8_1 (ν := ν)  ?_  (fun _ _ => ?_) | refine w_take_X0_15_8 (ν := ν)  ?_  (fun _ _ => ?_))
    | ((with_reducible refine (?_ : am_Does _ 139 _ _ _)); refine w_tookThese_X6 (ν := ν) _ ?_  (fun _ _ _ => ?_))
    | ((with_reducible refine (?_ : am_AW _ _ _ _ _ 52 _ _ _)); refine lp52' _ _ _ _ ?_ ?_ ?_ ?_ ?_)
    | refine And.intro (fun h => absurd h (by decide)) (fun _ => ?_)
    | refine And.intro (fun _ => ?_) (fun h => absurd (by decide) h)
    | refine And.intro (fun _ => ?_) (fun _ => ?_)
    | refine And.intro ?_ ?_
  all_goals (first | (with_reducible assumption) | decide | omega | assumption | (intros; omega) | (intros; simp only [am_c] at * <;> omega) | (simp only [am_c, am_up] at * <;> omega) | (simp [am_c, am_up] at * <;> omega))
theorem w_count_X6 {l : Launch} {μ : am_N} {Q : Option am_V → am_N → Prop} {ν : am_N} (a : Int) (hS : sx ν μ) (ha0 : -2147483648 ≤ a) (ha1 : a ≤ 2147483647) (k : ∀ r μ', sx ν μ' → Q (some (.inl r)) μ') : am_Does l 112 [.inr (.inr 0), .inl a] μ Q := by
  refine am_Does_of (Nat.le_of_ble_eq_true rfl) (Nat.le_of_ble_eq_true rfl) (Nat.le_of_ble_eq_true rfl) ?_
  have hb := sx_all hS
  refine am_go (ct := fun _ => false) am_oX6_count 300 ?_
  conv => whnf
  repeat' first
    | (refine (?_ : am_wp _ _ _ _ _ _ _ _ _ _ _ _); conv => whnf)
    | (refine (?_ : am_sw _ _ _ _); conv => whnf)
    | refine And.intro trivial ?_
    | exact trivial
    | (with_reducible assumption)
    | ((with_reducible refine (?_ : _ ∧ _)); first | (with_reducible first | refine am_jn am_q1 ?_ | refine am_jn am_q2 ?_ | refine am_jn am_q3 ?_ | refine am_jn am_q4 ?_ | refine am_jn am_q6 ?_ | refine am_jn am_q9 ?_ | refine am_jn am_p1 ?_ | refine am_jy am_p0 ?_ | refine am_kn am_q1 ?_ | refine am_kn am_q2 ?_ | refine am_kn am_q3 ?_ | refine am_kn am_q4 ?_ | refine am_kn am_q6 ?_ | refine am_kn am_q9 ?_ | refine am_kn am_p1 ?_ | refine am_ky am_p0 ?_) | refine And.intro (fun h => absurd h (by decide)) (fun _ => ?_) | refine And.intro (fun _ => ?_) (fun h => absurd (by decide) h) | refine And.intro (fun _ => ?_) (fun _ => ?_) | refine And.intro ?_ ?_)
    | refine k _ _ ?_
    | refine sx_up ?_ rfl
    | ((with_reducible refine (?_ : am_Does _ 14 _ _ _)); first | ((with_reducible refine (?_ : am_Does _ 14 (Sum.inr (Sum.inr 1) :: Sum.inr (Sum.inr 6) :: _) _ _)); refine w_sum_X0_6 (ν := ν)  ?_  (fun _ => ?_)) | ((with_reducible refine (?_ : am_Does _ 14 (Sum.inr (Sum.inr 1) :: Sum.inr (Sum.inr 7) :: _) _ _)); refine w_sum_X0_7 (ν := ν)  ?_  (fun _ => ?_)) | refine w_sum_X0_6 (ν := ν)  ?_  (fun _ => ?_) | refine w_sum_X0_7 (ν := ν)  ?_  (fun _ => ?_))
    | refine And.intro (fun h => absurd h (by decide)) (fun _ => ?_)
    | refine And.intro (fun _ => ?_) (fun h => absurd (by decide) h)
    | refine And.intro (fun _ => ?_) (fun _ => ?_)
    | refine And.intro ?_ ?_
  all_goals (first | (with_reducible assumption) | decide | omega | assumption | (intros; omega) | (intros; simp only [am_c] at * <;> omega) | (simp only [am_c, am_up] at * <;> omega) | (simp [am_c, am_up] at * <;> omega))
