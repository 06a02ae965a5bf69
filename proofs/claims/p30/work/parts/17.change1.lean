/-! contracts: the system's changes (weak): what stays, what is within bounds -/
def gv (E : List Nat) (ν μ : am_N) : Prop := sx μ μ ∧ ∀ k j, (sx_p k && !(E.contains k)) = true → μ k j = ν k j
def gv_q (k j : Nat) : Bool := (sx_q k j || sx_p k) && (!(Nat.beq k 1 && Nat.beq j 4) && (!(Nat.beq k 22 && Nat.beq j 4) && (!(Nat.beq k 36 && Nat.beq j 1) && (!(Nat.beq k 44 && Nat.beq j 1) && (!(Nat.beq k 46 && Nat.beq j 1) && (!(Nat.beq k 48 && Nat.beq j 1) && (!(Nat.beq k 50 && Nat.beq j 1) && (!(Nat.beq k 53 && Nat.beq j 1) && (!(Nat.beq k 55 && Nat.beq j 1) && (!(Nat.beq k 58 && Nat.beq j 1) && (!(Nat.beq k 60 && Nat.beq j 1) && !(Nat.beq k 62 && Nat.beq j 3))))))))))))
theorem sx_rb {ν μ : am_N} (h : sx ν μ) : sx μ μ := ⟨fun _ _ _ => rfl, h.2.1, h.2.2.1, h.2.2.2.1, sx_px h⟩
theorem gv_i {E : List Nat} {ν μ : am_N} (h : gv E ν μ) : sx μ μ := h.1
theorem gv_tr {E E1 : List Nat} {ν μ μ' : am_N} (h : gv E ν μ) (h2 : gv E1 μ μ') (hs : E1.all (fun k => E.contains k) = true) : gv E ν μ' := ⟨h2.1, fun k j hk => by
  refine (h2.2 k j ?_).trans (h.2 k j hk)
  obtain ⟨q1, q2⟩ := am_bb hk
  rw [q1]
  cases hc : E1.contains k with
  | false => rfl
  | true =>
    have q := List.all_eq_true.mp hs k (List.contains_iff_mem.mp hc)
    rw [q] at q2
    cases q2⟩
theorem gv_fr {E : List Nat} {ν μ : am_N} (h : gv E ν μ) (k j : Nat) (hk : (sx_p k && !(E.contains k)) = true) : μ k j = ν k j := h.2 k j hk
theorem gv_rf {E : List Nat} {μ : am_N} (h : sx μ μ) : gv E μ μ := ⟨h, fun _ _ _ => rfl⟩
theorem gv_sx {E : List Nat} {ν μ μ' : am_N} (h : gv E ν μ) (h2 : sx μ μ') : gv E ν μ' := ⟨sx_rb h2, fun k j hk => (h2.1 k j (am_bb hk).1).trans (h.2 k j hk)⟩
theorem gv_px {μ : am_N} {k j : Nat} {v : Int} (h : px μ) (hk : ∀ a b, (a, b) ∈ [(1, 4), (22, 4), (36, 1), (44, 1), (46, 1), (48, 1), (50, 1), (53, 1), (55, 1), (58, 1), (60, 1), (62, 3)] → (Nat.beq k a && Nat.beq j b) = false) : px (am_up μ k j v) := by
  have e : ∀ a b, (a, b) ∈ [(1, 4), (22, 4), (36, 1), (44, 1), (46, 1), (48, 1), (50, 1), (53, 1), (55, 1), (58, 1), (60, 1), (62, 3)] → am_up μ k j v a b = μ a b := fun a b q => by
    have q := hk a b q
    rw [am_upS, if_neg (fun z => by rw [z.1, z.2] at q; simp at q)]
  unfold px at h ⊢
  rw [e 1 4 (by decide), e 22 4 (by decide), e 36 1 (by decide), e 44 1 (by decide), e 46 1 (by decide), e 48 1 (by decide), e 50 1 (by decide), e 53 1 (by decide), e 55 1 (by decide), e 58 1 (by decide), e 60 1 (by decide), e 62 3 (by decide)]
  exact h
theorem gv_up {E : List Nat} {ν μ : am_N} {k j : Nat} {v : Int} (h : gv E ν μ) (hE : (E.contains k || !(sx_p k)) = true) (hk : gv_q k j = true) : gv E ν (am_up μ k j v) := by
  obtain ⟨q0, q1, q2, q3, q4, q5, q6, q7, q8, q9, q10, q11, q12⟩ : (sx_q k j || sx_p k) = true ∧ (Nat.beq k 1 && Nat.beq j 4) = false ∧ (Nat.beq k 22 && Nat.beq j 4) = false ∧ (Nat.beq k 36 && Nat.beq j 1) = false ∧ (Nat.beq k 44 && Nat.beq j 1) = false ∧ (Nat.beq k 46 && Nat.beq j 1) = false ∧ (Nat.beq k 48 && Nat.beq j 1) = false ∧ (Nat.beq k 50 && Nat.beq j 1) = false ∧ (Nat.beq k 53 && Nat.beq j 1) = false ∧ (Nat.beq k 55 && Nat.beq j 1) = false ∧ (Nat.beq k 58 && Nat.beq j 1) = false ∧ (Nat.beq k 60 && Nat.beq j 1) = false ∧ (Nat.beq k 62 && Nat.beq j 3) = false := by
    simpa only [gv_q, Bool.and_eq_true, Bool.not_eq_true'] using hk
  have hpx : px (am_up μ k j v) := gv_px h.1.2.2.2.2 (fun a b hab => by
    simp only [List.mem_cons, Prod.mk.injEq, List.not_mem_nil, or_false] at hab
    rcases hab with ⟨rfl, rfl⟩ | ⟨rfl, rfl⟩ | ⟨rfl, rfl⟩ | ⟨rfl, rfl⟩ | ⟨rfl, rfl⟩ | ⟨rfl, rfl⟩ | ⟨rfl, rfl⟩ | ⟨rfl, rfl⟩ | ⟨rfl, rfl⟩ | ⟨rfl, rfl⟩ | ⟨rfl, rfl⟩ | ⟨rfl, rfl⟩ <;> assumption)
  refine ⟨?_, fun a b hab => ?_⟩
  · rcases Bool.or_eq_true_iff.mp q0 with q | q
    · exact sx_rb (sx_up h.1 q)
    · have ne : ∀ c, sx_p c = false → k ≠ c := fun c hc z => by rw [z, hc] at q; cases q
      have nb : ∀ c d, sx_p c = false → (Nat.beq k c && Nat.beq j d) = false := fun c d hc => by
        cases hb : Nat.beq k c with
        | false => rfl
        | true => exact absurd (Nat.eq_of_beq_eq_true hb) (ne c hc)
      exact ⟨fun _ _ _ => rfl, sx_3N h.1.2.1 (ne 34 rfl), sx_3N h.1.2.2.1 (ne 43 rfl), sx_4N h.1.2.2.2.1 (nb 8 4 rfl) (nb 15 4 rfl) (nb 29 0 rfl) (nb 38 0 rfl), hpx⟩
  · rw [am_upN (fun z => by
      subst z
      have h1 := (am_bb hab).1
      have h2 := (am_bb hab).2
      rw [h1] at hE
      simp only [Bool.not_true, Bool.or_false] at hE
      rw [hE] at h2
      cases h2)]
    exact h.2 a b hab
theorem gv_b1 {E : List Nat} {ν μ : am_N} {v : Int} (h : gv E ν μ) (hE : E.contains 1 = true) (h0 : 0 ≤ v ∧ v ≤ 4) : gv E ν (am_up μ 1 4 v) := by
  refine ⟨⟨fun _ _ _ => rfl, sx_3N h.1.2.1 (by decide), sx_3N h.1.2.2.1 (by decide), sx_4N h.1.2.2.2.1 rfl rfl rfl rfl, ?_⟩, fun a b hab => ?_⟩
  · have q := h.1.2.2.2.2
    simp only [px] at q ⊢
    simp [am_upS]
    omega
  · rw [am_upN (fun z => by subst z; rw [hE] at hab; simp at hab)]
    exact h.2 a b hab
theorem gv_b22 {E : List Nat} {ν μ : am_N} {v : Int} (h : gv E ν μ) (hE : E.contains 22 = true) (h0 : 0 ≤ v ∧ v ≤ 4) : gv E ν (am_up μ 22 4 v) := by
  refine ⟨⟨fun _ _ _ => rfl, sx_3N h.1.2.1 (by decide), sx_3N h.1.2.2.1 (by decide), sx_4N h.1.2.2.2.1 rfl rfl rfl rfl, ?_⟩, fun a b hab => ?_⟩
  · have q := h.1.2.2.2.2
    simp only [px] at q ⊢
    simp [am_upS]
    omega
  · rw [am_upN (fun z => by subst z; rw [hE] at hab; simp at hab)]
    exact h.2 a b hab
theorem gv_b36 {E : List Nat} {ν μ : am_N} {v : Int} (h : gv E ν μ) (hE : E.contains 36 = true) (h0 : 0 ≤ v ∧ v ≤ 96) : gv E ν (am_up μ 36 1 v) := by
  refine ⟨⟨fun _ _ _ => rfl, sx_3N h.1.2.1 (by decide), sx_3N h.1.2.2.1 (by decide), sx_4N h.1.2.2.2.1 rfl rfl rfl rfl, ?_⟩, fun a b hab => ?_⟩
  · have q := h.1.2.2.2.2
    simp only [px] at q ⊢
    simp [am_upS]
    omega
  · rw [am_upN (fun z => by subst z; rw [hE] at hab; simp at hab)]
    exact h.2 a b hab
theorem gv_b44 {E : List Nat} {ν μ : am_N} {v : Int} (h : gv E ν μ) (hE : E.contains 44 = true) (h0 : 0 ≤ v ∧ v ≤ 12) : gv E ν (am_up μ 44 1 v) := by
  refine ⟨⟨fun _ _ _ => rfl, sx_3N h.1.2.1 (by decide), sx_3N h.1.2.2.1 (by decide), sx_4N h.1.2.2.2.1 rfl rfl rfl rfl, ?_⟩, fun a b hab => ?_⟩
  · have q := h.1.2.2.2.2
    simp only [px] at q ⊢
    simp [am_upS]
    omega
  · rw [am_upN (fun z => by subst z; rw [hE] at hab; simp at hab)]
    exact h.2 a b hab
theorem gv_b46 {E : List Nat} {ν μ : am_N} {v : Int} (h : gv E ν μ) (hE : E.contains 46 = true) (h0 : 0 ≤ v ∧ v ≤ 6) : gv E ν (am_up μ 46 1 v) := by
  refine ⟨⟨fun _ _ _ => rfl, sx_3N h.1.2.1 (by decide), sx_3N h.1.2.2.1 (by decide), sx_4N h.1.2.2.2.1 rfl rfl rfl rfl, ?_⟩, fun a b hab => ?_⟩
  · have q := h.1.2.2.2.2
    simp only [px] at q ⊢
    simp [am_upS]
    omega
  · rw [am_upN (fun z => by subst z; rw [hE] at hab; simp at hab)]
    exact h.2 a b hab
theorem gv_b48 {E : List Nat} {ν μ : am_N} {v : Int} (h : gv E ν μ) (hE : E.contains 48 = true) (h0 : 0 ≤ v ∧ v ≤ 6) : gv E ν (am_up μ 48 1 v) := by
  refine ⟨⟨fun _ _ _ => rfl, sx_3N h.1.2.1 (by decide), sx_3N h.1.2.2.1 (by decide), sx_4N h.1.2.2.2.1 rfl rfl rfl rfl, ?_⟩, fun a b hab => ?_⟩
  · have q := h.1.2.2.2.2
    simp only [px] at q ⊢
    simp [am_upS]
    omega
  · rw [am_upN (fun z => by subst z; rw [hE] at hab; simp at hab)]
    exact h.2 a b hab
theorem gv_b50 {E : List Nat} {ν μ : am_N} {v : Int} (h : gv E ν μ) (hE : E.contains 50 = true) (h0 : 0 ≤ v ∧ v ≤ 6) : gv E ν (am_up μ 50 1 v) := by
  refine ⟨⟨fun _ _ _ => rfl, sx_3N h.1.2.1 (by decide), sx_3N h.1.2.2.1 (by decide), sx_4N h.1.2.2.2.1 rfl rfl rfl rfl, ?_⟩, fun a b hab => ?_⟩
  · have q := h.1.2.2.2.2
    simp only [px] at q ⊢
    simp [am_upS]
    omega
  · rw [am_upN (fun z => by subst z; rw [hE] at hab; simp at hab)]
    exact h.2 a b hab
theorem gv_b53 {E : List Nat} {ν μ : am_N} {v : Int} (h : gv E ν μ) (hE : E.contains 53 = true) (h0 : 0 ≤ v ∧ v ≤ 4) : gv E ν (am_up μ 53 1 v) := by
  refine ⟨⟨fun _ _ _ => rfl, sx_3N h.1.2.1 (by decide), sx_3N h.1.2.2.1 (by decide), sx_4N h.1.2.2.2.1 rfl rfl rfl rfl, ?_⟩, fun a b hab => ?_⟩
  · have q := h.1.2.2.2.2
    simp only [px] at q ⊢
    simp [am_upS]
    omega
  · rw [am_upN (fun z => by subst z; rw [hE] at hab; simp at hab)]
    exact h.2 a b hab
theorem gv_b55 {E : List Nat} {ν μ : am_N} {v : Int} (h : gv E ν μ) (hE : E.contains 55 = true) (h0 : 0 ≤ v ∧ v ≤ 4) : gv E ν (am_up μ 55 1 v) := by
  refine ⟨⟨fun _ _ _ => rfl, sx_3N h.1.2.1 (by decide), sx_3N h.1.2.2.1 (by decide), sx_4N h.1.2.2.2.1 rfl rfl rfl rfl, ?_⟩, fun a b hab => ?_⟩
  · have q := h.1.2.2.2.2
    simp only [px] at q ⊢
    simp [am_upS]
    omega
  · rw [am_upN (fun z => by subst z; rw [hE] at hab; simp at hab)]
    exact h.2 a b hab
theorem gv_b58 {E : List Nat} {ν μ : am_N} {v : Int} (h : gv E ν μ) (hE : E.contains 58 = true) (h0 : 0 ≤ v ∧ v ≤ 4) : gv E ν (am_up μ 58 1 v) := by
  refine ⟨⟨fun _ _ _ => rfl, sx_3N h.1.2.1 (by decide), sx_3N h.1.2.2.1 (by decide), sx_4N h.1.2.2.2.1 rfl rfl rfl rfl, ?_⟩, fun a b hab => ?_⟩
  · have q := h.1.2.2.2.2
    simp only [px] at q ⊢
    simp [am_upS]
    omega
  · rw [am_upN (fun z => by subst z; rw [hE] at hab; simp at hab)]
    exact h.2 a b hab
theorem gv_b60 {E : List Nat} {ν μ : am_N} {v : Int} (h : gv E ν μ) (hE : E.contains 60 = true) (h0 : 0 ≤ v ∧ v ≤ 4) : gv E ν (am_up μ 60 1 v) := by
  refine ⟨⟨fun _ _ _ => rfl, sx_3N h.1.2.1 (by decide), sx_3N h.1.2.2.1 (by decide), sx_4N h.1.2.2.2.1 rfl rfl rfl rfl, ?_⟩, fun a b hab => ?_⟩
  · have q := h.1.2.2.2.2
    simp only [px] at q ⊢
    simp [am_upS]
    omega
  · rw [am_upN (fun z => by subst z; rw [hE] at hab; simp at hab)]
    exact h.2 a b hab
theorem gv_b62 {E : List Nat} {ν μ : am_N} {v : Int} (h : gv E ν μ) (hE : E.contains 62 = true) (h0 : 0 ≤ v ∧ v ≤ 6) : gv E ν (am_up μ 62 3 v) := by
  refine ⟨⟨fun _ _ _ => rfl, sx_3N h.1.2.1 (by decide), sx_3N h.1.2.2.1 (by decide), sx_4N h.1.2.2.2.1 rfl rfl rfl rfl, ?_⟩, fun a b hab => ?_⟩
  · have q := h.1.2.2.2.2
    simp only [px] at q ⊢
    simp [am_upS]
    omega
  · rw [am_upN (fun z => by subst z; rw [hE] at hab; simp at hab)]
    exact h.2 a b hab
theorem v_drop_X4 {l : Launch} {μ : am_N} {Q : Option am_V → am_N → Prop} (k : Q none (am_up μ 62 3 0)) : am_Does l 49 [.inr (.inr 62)] μ Q := by
  refine am_Does_of (Nat.le_of_ble_eq_true rfl) (Nat.le_of_ble_eq_true rfl) (Nat.le_of_ble_eq_true rfl) ?_
  refine am_go (ct := fun _ => false) am_oX4_drop 300 ?_
  conv => whnf
  repeat' first
    | (refine (?_ : am_wp _ _ _ _ _ _ _ _ _ _ _ _); conv => whnf)
    | (refine (?_ : am_sw _ _ _ _); conv => whnf)
    | refine And.intro trivial ?_
    | exact trivial
    | assumption
    | exact k
    | refine And.intro (fun h => absurd h (by decide)) (fun _ => ?_)
    | refine And.intro (fun _ => ?_) (fun h => absurd (by decide) h)
    | refine And.intro (fun _ => ?_) (fun _ => ?_)
    | refine And.intro ?_ ?_
  all_goals (first | assumption | decide | omega | (intros; omega) | (intros; simp only [am_c] at * <;> omega) | (simp only [am_c, am_up] at * <;> omega) | (simp [am_c, am_up] at * <;> omega))
theorem v_drop_X3_36 {l : Launch} {μ : am_N} {Q : Option am_V → am_N → Prop} (k : Q (some (.inl (μ 36 1))) (am_up μ 36 1 0)) : am_Does l 44 [.inr (.inr 36)] μ Q := by
  refine am_Does_of (Nat.le_of_ble_eq_true rfl) (Nat.le_of_ble_eq_true rfl) (Nat.le_of_ble_eq_true rfl) ?_
  refine am_go (ct := fun _ => false) am_oX3_drop 300 ?_
  conv => whnf
  repeat' first
    | (refine (?_ : am_wp _ _ _ _ _ _ _ _ _ _ _ _); conv => whnf)
    | (refine (?_ : am_sw _ _ _ _); conv => whnf)
    | refine And.intro trivial ?_
    | exact trivial
    | assumption
    | exact k
    | refine And.intro (fun h => absurd h (by decide)) (fun _ => ?_)
    | refine And.intro (fun _ => ?_) (fun h => absurd (by decide) h)
    | refine And.intro (fun _ => ?_) (fun _ => ?_)
    | refine And.intro ?_ ?_
  all_goals (first | assumption | decide | omega | (intros; omega) | (intros; simp only [am_c] at * <;> omega) | (simp only [am_c, am_up] at * <;> omega) | (simp [am_c, am_up] at * <;> omega))
theorem v_full_X3_36 {l : Launch} {μ : am_N} {Q : Option am_V → am_N → Prop} {ν : am_N} (hS : sx ν μ) (k1 : μ 36 1 = 96 → Q (some (.inl 1)) μ) (k2 : μ 36 1 < 96 → Q (some (.inl 0)) μ) : am_Does l 41 [.inr (.inr 36)] μ Q := by
  refine am_Does_of (Nat.le_of_ble_eq_true rfl) (Nat.le_of_ble_eq_true rfl) (Nat.le_of_ble_eq_true rfl) ?_
  have hb := sx_all hS
  refine am_go (ct := fun _ => false) am_oX3_full 300 ?_
  conv => whnf
  repeat' first
    | (refine (?_ : am_wp _ _ _ _ _ _ _ _ _ _ _ _); conv => whnf)
    | (refine (?_ : am_sw _ _ _ _); conv => whnf)
    | refine And.intro trivial ?_
    | exact trivial
    | assumption
    | refine k1 ?_
    | refine k2 ?_
    | refine And.intro (fun h => absurd h (by decide)) (fun _ => ?_)
    | refine And.intro (fun _ => ?_) (fun h => absurd (by decide) h)
    | refine And.intro (fun _ => ?_) (fun _ => ?_)
    | refine And.intro ?_ ?_
  all_goals (first | assumption | decide | omega | (intros; omega) | (intros; simp only [am_c] at * <;> omega) | (simp only [am_c, am_up] at * <;> omega) | (simp [am_c, am_up] at * <;> omega))
theorem v_put_X3_36 {l : Launch} {μ : am_N} {Q : Option am_V → am_N → Prop} (v : Int) (hS : sx μ μ) (h1 : μ 36 1 < 96) (k : ∀ r μ', r = μ 36 1 + 1 → μ' = am_up (am_up μ 36 1 (μ 36 1 + 1)) 37 (μ 36 1).toNat v → Q (some (.inl r)) μ') : am_Does l 42 [.inr (.inr 36), .inl v] μ Q := by
  refine am_Does_of (Nat.le_of_ble_eq_true rfl) (Nat.le_of_ble_eq_true rfl) (Nat.le_of_ble_eq_true rfl) ?_
  have hb := sx_all hS
  have e1 : am_c (μ 36 1) = μ 36 1 := am_cR (by omega) (by omega)
  refine am_go (ct := fun _ => false) am_oX3_put 300 ?_
  conv => whnf
  repeat' first
    | (refine (?_ : am_wp _ _ _ _ _ _ _ _ _ _ _ _); conv => whnf)
    | (refine (?_ : am_sw _ _ _ _); conv => whnf)
    | refine And.intro trivial ?_
    | exact trivial
    | assumption
    | refine k _ _ ?_ ?_
    | refine v_full_X3_36 (ν := μ) hS (fun _ => ?_) (fun _ => ?_)
    | refine And.intro (fun h => absurd h (by decide)) (fun _ => ?_)
    | refine And.intro (fun _ => ?_) (fun h => absurd (by decide) h)
    | refine And.intro (fun _ => ?_) (fun _ => ?_)
    | refine And.intro ?_ ?_
  all_goals (first | assumption | decide | omega | (simp only [e1]; done) | (simp only [e1] at * <;> omega) | (simp only [am_c, am_up] at * <;> omega) | (simp [am_c, am_up] at * <;> omega))
theorem v_putE_X3_36 {l : Launch} {μ : am_N} {Q : Option am_V → am_N → Prop} (v : Int) (hS : sx μ μ) (h1 : μ 36 1 < 96) (k : Q (some (.inl (μ 36 1 + 1))) (am_up (am_up μ 36 1 (μ 36 1 + 1)) 37 (μ 36 1).toNat v)) : am_Does l 42 [.inr (.inr 36), .inl v] μ Q := v_put_X3_36 v hS h1 (fun r μ' e1 e2 => by subst e1; subst e2; exact k)
theorem v_drop_X3_44 {l : Launch} {μ : am_N} {Q : Option am_V → am_N → Prop} (k : Q (some (.inl (μ 44 1))) (am_up μ 44 1 0)) : am_Does l 44 [.inr (.inr 44)] μ Q := by
  refine am_Does_of (Nat.le_of_ble_eq_true rfl) (Nat.le_of_ble_eq_true rfl) (Nat.le_of_ble_eq_true rfl) ?_
  refine am_go (ct := fun _ => false) am_oX3_drop 300 ?_
  conv => whnf
  repeat' first
    | (refine (?_ : am_wp _ _ _ _ _ _ _ _ _ _ _ _); conv => whnf)
    | (refine (?_ : am_sw _ _ _ _); conv => whnf)
    | refine And.intro trivial ?_
    | exact trivial
    | assumption
    | exact k
    | refine And.intro (fun h => absurd h (by decide)) (fun _ => ?_)
    | refine And.intro (fun _ => ?_) (fun h => absurd (by decide) h)
    | refine And.intro (fun _ => ?_) (fun _ => ?_)
    | refine And.intro ?_ ?_
  all_goals (first | assumption | decide | omega | (intros; omega) | (intros; simp only [am_c] at * <;> omega) | (simp only [am_c, am_up] at * <;> omega) | (simp [am_c, am_up] at * <;> omega))
theorem v_full_X3_44 {l : Launch} {μ : am_N} {Q : Option am_V → am_N → Prop} {ν : am_N} (hS : sx ν μ) (k1 : μ 44 1 = 12 → Q (some (.inl 1)) μ) (k2 : μ 44 1 < 12 → Q (some (.inl 0)) μ) : am_Does l 41 [.inr (.inr 44)] μ Q := by
  refine am_Does_of (Nat.le_of_ble_eq_true rfl) (Nat.le_of_ble_eq_true rfl) (Nat.le_of_ble_eq_true rfl) ?_
  have hb := sx_all hS
  refine am_go (ct := fun _ => false) am_oX3_full 300 ?_
  conv => whnf
  repeat' first
    | (refine (?_ : am_wp _ _ _ _ _ _ _ _ _ _ _ _); conv => whnf)
    | (refine (?_ : am_sw _ _ _ _); conv => whnf)
    | refine And.intro trivial ?_
    | exact trivial
    | assumption
    | refine k1 ?_
    | refine k2 ?_
    | refine And.intro (fun h => absurd h (by decide)) (fun _ => ?_)
    | refine And.intro (fun _ => ?_) (fun h => absurd (by decide) h)
    | refine And.intro (fun _ => ?_) (fun _ => ?_)
    | refine And.intro ?_ ?_
  all_goals (first | assumption | decide | omega | (intros; omega) | (intros; simp only [am_c] at * <;> omega) | (simp only [am_c, am_up] at * <;> omega) | (simp [am_c, am_up] at * <;> omega))
theorem v_put_X3_44 {l : Launch} {μ : am_N} {Q : Option am_V → am_N → Prop} (v : Int) (hS : sx μ μ) (h1 : μ 44 1 < 12) (k : ∀ r μ', r = μ 44 1 + 1 → μ' = am_up (am_up μ 44 1 (μ 44 1 + 1)) 45 (μ 44 1).toNat v → Q (some (.inl r)) μ') : am_Does l 42 [.inr (.inr 44), .inl v] μ Q := by
  refine am_Does_of (Nat.le_of_ble_eq_true rfl) (Nat.le_of_ble_eq_true rfl) (Nat.le_of_ble_eq_true rfl) ?_
  have hb := sx_all hS
  have e1 : am_c (μ 44 1) = μ 44 1 := am_cR (by omega) (by omega)
  refine am_go (ct := fun _ => false) am_oX3_put 300 ?_
  conv => whnf
  repeat' first
    | (refine (?_ : am_wp _ _ _ _ _ _ _ _ _ _ _ _); conv => whnf)
    | (refine (?_ : am_sw _ _ _ _); conv => whnf)
    | refine And.intro trivial ?_
    | exact trivial
    | assumption
    | refine k _ _ ?_ ?_
    | refine v_full_X3_44 (ν := μ) hS (fun _ => ?_) (fun _ => ?_)
    | refine And.intro (fun h => absurd h (by decide)) (fun _ => ?_)
    | refine And.intro (fun _ => ?_) (fun h => absurd (by decide) h)
    | refine And.intro (fun _ => ?_) (fun _ => ?_)
    | refine And.intro ?_ ?_
  all_goals (first | assumption | decide | omega | (simp only [e1]; done) | (simp only [e1] at * <;> omega) | (simp only [am_c, am_up] at * <;> omega) | (simp [am_c, am_up] at * <;> omega))
theorem v_putE_X3_44 {l : Launch} {μ : am_N} {Q : Option am_V → am_N → Prop} (v : Int) (hS : sx μ μ) (h1 : μ 44 1 < 12) (k : Q (some (.inl (μ 44 1 + 1))) (am_up (am_up μ 44 1 (μ 44 1 + 1)) 45 (μ 44 1).toNat v)) : am_Does l 42 [.inr (.inr 44), .inl v] μ Q := v_put_X3_44 v hS h1 (fun r μ' e1 e2 => by subst e1; subst e2; exact k)
theorem v_drop_X3_46 {l : Launch} {μ : am_N} {Q : Option am_V → am_N → Prop} (k : Q (some (.inl (μ 46 1))) (am_up μ 46 1 0)) : am_Does l 44 [.inr (.inr 46)] μ Q := by
  refine am_Does_of (Nat.le_of_ble_eq_true rfl) (Nat.le_of_ble_eq_true rfl) (Nat.le_of_ble_eq_true rfl) ?_
  refine am_go (ct := fun _ => false) am_oX3_drop 300 ?_
  conv => whnf
  repeat' first
    | (refine (?_ : am_wp _ _ _ _ _ _ _ _ _ _ _ _); conv => whnf)
    | (refine (?_ : am_sw _ _ _ _); conv => whnf)
    | refine And.intro trivial ?_
    | exact trivial
    | assumption
    | exact k
    | refine And.intro (fun h => absurd h (by decide)) (fun _ => ?_)
    | refine And.intro (fun _ => ?_) (fun h => absurd (by decide) h)
    | refine And.intro (fun _ => ?_) (fun _ => ?_)
    | refine And.intro ?_ ?_
  all_goals (first | assumption | decide | omega | (intros; omega) | (intros; simp only [am_c] at * <;> omega) | (simp only [am_c, am_up] at * <;> omega) | (simp [am_c, am_up] at * <;> omega))
theorem v_full_X3_46 {l : Launch} {μ : am_N} {Q : Option am_V → am_N → Prop} {ν : am_N} (hS : sx ν μ) (k1 : μ 46 1 = 6 → Q (some (.inl 1)) μ) (k2 : μ 46 1 < 6 → Q (some (.inl 0)) μ) : am_Does l 41 [.inr (.inr 46)] μ Q := by
  refine am_Does_of (Nat.le_of_ble_eq_true rfl) (Nat.le_of_ble_eq_true rfl) (Nat.le_of_ble_eq_true rfl) ?_
  have hb := sx_all hS
  refine am_go (ct := fun _ => false) am_oX3_full 300 ?_
  conv => whnf
  repeat' first
    | (refine (?_ : am_wp _ _ _ _ _ _ _ _ _ _ _ _); conv => whnf)
    | (refine (?_ : am_sw _ _ _ _); conv => whnf)
    | refine And.intro trivial ?_
    | exact trivial
    | assumption
    | refine k1 ?_
    | refine k2 ?_
    | refine And.intro (fun h => absurd h (by decide)) (fun _ => ?_)
    | refine And.intro (fun _ => ?_) (fun h => absurd (by decide) h)
    | refine And.intro (fun _ => ?_) (fun _ => ?_)
    | refine And.intro ?_ ?_
  all_goals (first | assumption | decide | omega | (intros; omega) | (intros; simp only [am_c] at * <;> omega) | (simp only [am_c, am_up] at * <;> omega) | (simp [am_c, am_up] at * <;> omega))
theorem v_put_X3_46 {l : Launch} {μ : am_N} {Q : Option am_V → am_N → Prop} (v : Int) (hS : sx μ μ) (h1 : μ 46 1 < 6) (k : ∀ r μ', r = μ 46 1 + 1 → μ' = am_up (am_up μ 46 1 (μ 46 1 + 1)) 47 (μ 46 1).toNat v → Q (some (.inl r)) μ') : am_Does l 42 [.inr (.inr 46), .inl v] μ Q := by
  refine am_Does_of (Nat.le_of_ble_eq_true rfl) (Nat.le_of_ble_eq_true rfl) (Nat.le_of_ble_eq_true rfl) ?_
  have hb := sx_all hS
  have e1 : am_c (μ 46 1) = μ 46 1 := am_cR (by omega) (by omega)
  refine am_go (ct := fun _ => false) am_oX3_put 300 ?_
  conv => whnf
  repeat' first
    | (refine (?_ : am_wp _ _ _ _ _ _ _ _ _ _ _ _); conv => whnf)
    | (refine (?_ : am_sw _ _ _ _); conv => whnf)
    | refine And.intro trivial ?_
    | exact trivial
    | assumption
    | refine k _ _ ?_ ?_
    | refine v_full_X3_46 (ν := μ) hS (fun _ => ?_) (fun _ => ?_)
    | refine And.intro (fun h => absurd h (by decide)) (fun _ => ?_)
    | refine And.intro (fun _ => ?_) (fun h => absurd (by decide) h)
    | refine And.intro (fun _ => ?_) (fun _ => ?_)
    | refine And.intro ?_ ?_
  all_goals (first | assumption | decide | omega | (simp only [e1]; done) | (simp only [e1] at * <;> omega) | (simp only [am_c, am_up] at * <;> omega) | (simp [am_c, am_up] at * <;> omega))
theorem v_putE_X3_46 {l : Launch} {μ : am_N} {Q : Option am_V → am_N → Prop} (v : Int) (hS : sx μ μ) (h1 : μ 46 1 < 6) (k : Q (some (.inl (μ 46 1 + 1))) (am_up (am_up μ 46 1 (μ 46 1 + 1)) 47 (μ 46 1).toNat v)) : am_Does l 42 [.inr (.inr 46), .inl v] μ Q := v_put_X3_46 v hS h1 (fun r μ' e1 e2 => by subst e1; subst e2; exact k)
theorem v_drop_X3_48 {l : Launch} {μ : am_N} {Q : Option am_V → am_N → Prop} (k : Q (some (.inl (μ 48 1))) (am_up μ 48 1 0)) : am_Does l 44 [.inr (.inr 48)] μ Q := by
  refine am_Does_of (Nat.le_of_ble_eq_true rfl) (Nat.le_of_ble_eq_true rfl) (Nat.le_of_ble_eq_true rfl) ?_
  refine am_go (ct := fun _ => false) am_oX3_drop 300 ?_
  conv => whnf
  repeat' first
    | (refine (?_ : am_wp _ _ _ _ _ _ _ _ _ _ _ _); conv => whnf)
    | (refine (?_ : am_sw _ _ _ _); conv => whnf)
    | refine And.intro trivial ?_
    | exact trivial
    | assumption
    | exact k
    | refine And.intro (fun h => absurd h (by decide)) (fun _ => ?_)
    | refine And.intro (fun _ => ?_) (fun h => absurd (by decide) h)
    | refine And.intro (fun _ => ?_) (fun _ => ?_)
    | refine And.intro ?_ ?_
  all_goals (first | assumption | decide | omega | (intros; omega) | (intros; simp only [am_c] at * <;> omega) | (simp only [am_c, am_up] at * <;> omega) | (simp [am_c, am_up] at * <;> omega))
theorem v_full_X3_48 {l : Launch} {μ : am_N} {Q : Option am_V → am_N → Prop} {ν : am_N} (hS : sx ν μ) (k1 : μ 48 1 = 6 → Q (some (.inl 1)) μ) (k2 : μ 48 1 < 6 → Q (some (.inl 0)) μ) : am_Does l 41 [.inr (.inr 48)] μ Q := by
  refine am_Does_of (Nat.le_of_ble_eq_true rfl) (Nat.le_of_ble_eq_true rfl) (Nat.le_of_ble_eq_true rfl) ?_
  have hb := sx_all hS
  refine am_go (ct := fun _ => false) am_oX3_full 300 ?_
  conv => whnf
  repeat' first
    | (refine (?_ : am_wp _ _ _ _ _ _ _ _ _ _ _ _); conv => whnf)
    | (refine (?_ : am_sw _ _ _ _); conv => whnf)
    | refine And.intro trivial ?_
    | exact trivial
    | assumption
    | refine k1 ?_
    | refine k2 ?_
    | refine And.intro (fun h => absurd h (by decide)) (fun _ => ?_)
    | refine And.intro (fun _ => ?_) (fun h => absurd (by decide) h)
    | refine And.intro (fun _ => ?_) (fun _ => ?_)
    | refine And.intro ?_ ?_
  all_goals (first | assumption | decide | omega | (intros; omega) | (intros; simp only [am_c] at * <;> omega) | (simp only [am_c, am_up] at * <;> omega) | (simp [am_c, am_up] at * <;> omega))
theorem v_put_X3_48 {l : Launch} {μ : am_N} {Q : Option am_V → am_N → Prop} (v : Int) (hS : sx μ μ) (h1 : μ 48 1 < 6) (k : ∀ r μ', r = μ 48 1 + 1 → μ' = am_up (am_up μ 48 1 (μ 48 1 + 1)) 49 (μ 48 1).toNat v → Q (some (.inl r)) μ') : am_Does l 42 [.inr (.inr 48), .inl v] μ Q := by
  refine am_Does_of (Nat.le_of_ble_eq_true rfl) (Nat.le_of_ble_eq_true rfl) (Nat.le_of_ble_eq_true rfl) ?_
  have hb := sx_all hS
  have e1 : am_c (μ 48 1) = μ 48 1 := am_cR (by omega) (by omega)
  refine am_go (ct := fun _ => false) am_oX3_put 300 ?_
  conv => whnf
  repeat' first
    | (refine (?_ : am_wp _ _ _ _ _ _ _ _ _ _ _ _); conv => whnf)
    | (refine (?_ : am_sw _ _ _ _); conv => whnf)
    | refine And.intro trivial ?_
    | exact trivial
    | assumption
    | refine k _ _ ?_ ?_
    | refine v_full_X3_48 (ν := μ) hS (fun _ => ?_) (fun _ => ?_)
    | refine And.intro (fun h => absurd h (by decide)) (fun _ => ?_)
    | refine And.intro (fun _ => ?_) (fun h => absurd (by decide) h)
    | refine And.intro (fun _ => ?_) (fun _ => ?_)
    | refine And.intro ?_ ?_
  all_goals (first | assumption | decide | omega | (simp only [e1]; done) | (simp only [e1] at * <;> omega) | (simp only [am_c, am_up] at * <;> omega) | (simp [am_c, am_up] at * <;> omega))
theorem v_putE_X3_48 {l : Launch} {μ : am_N} {Q : Option am_V → am_N → Prop} (v : Int) (hS : sx μ μ) (h1 : μ 48 1 < 6) (k : Q (some (.inl (μ 48 1 + 1))) (am_up (am_up μ 48 1 (μ 48 1 + 1)) 49 (μ 48 1).toNat v)) : am_Does l 42 [.inr (.inr 48), .inl v] μ Q := v_put_X3_48 v hS h1 (fun r μ' e1 e2 => by subst e1; subst e2; exact k)
theorem v_drop_X3_53 {l : Launch} {μ : am_N} {Q : Option am_V → am_N → Prop} (k : Q (some (.inl (μ 53 1))) (am_up μ 53 1 0)) : am_Does l 44 [.inr (.inr 53)] μ Q := by
  refine am_Does_of (Nat.le_of_ble_eq_true rfl) (Nat.le_of_ble_eq_true rfl) (Nat.le_of_ble_eq_true rfl) ?_
  refine am_go (ct := fun _ => false) am_oX3_drop 300 ?_
  conv => whnf
  repeat' first
    | (refine (?_ : am_wp _ _ _ _ _ _ _ _ _ _ _ _); conv => whnf)
    | (refine (?_ : am_sw _ _ _ _); conv => whnf)
    | refine And.intro trivial ?_
    | exact trivial
    | assumption
    | exact k
    | refine And.intro (fun h => absurd h (by decide)) (fun _ => ?_)
    | refine And.intro (fun _ => ?_) (fun h => absurd (by decide) h)
    | refine And.intro (fun _ => ?_) (fun _ => ?_)
    | refine And.intro ?_ ?_
  all_goals (first | assumption | decide | omega | (intros; omega) | (intros; simp only [am_c] at * <;> omega) | (simp only [am_c, am_up] at * <;> omega) | (simp [am_c, am_up] at * <;> omega))
theorem v_full_X3_53 {l : Launch} {μ : am_N} {Q : Option am_V → am_N → Prop} {ν : am_N} (hS : sx ν μ) (k1 : μ 53 1 = 4 → Q (some (.inl 1)) μ) (k2 : μ 53 1 < 4 → Q (some (.inl 0)) μ) : am_Does l 41 [.inr (.inr 53)] μ Q := by
  refine am_Does_of (Nat.le_of_ble_eq_true rfl) (Nat.le_of_ble_eq_true rfl) (Nat.le_of_ble_eq_true rfl) ?_
  have hb := sx_all hS
  refine am_go (ct := fun _ => false) am_oX3_full 300 ?_
  conv => whnf
  repeat' first
    | (refine (?_ : am_wp _ _ _ _ _ _ _ _ _ _ _ _); conv => whnf)
    | (refine (?_ : am_sw _ _ _ _); conv => whnf)
    | refine And.intro trivial ?_
    | exact trivial
    | assumption
    | refine k1 ?_
    | refine k2 ?_
    | refine And.intro (fun h => absurd h (by decide)) (fun _ => ?_)
    | refine And.intro (fun _ => ?_) (fun h => absurd (by decide) h)
    | refine And.intro (fun _ => ?_) (fun _ => ?_)
    | refine And.intro ?_ ?_
  all_goals (first | assumption | decide | omega | (intros; omega) | (intros; simp only [am_c] at * <;> omega) | (simp only [am_c, am_up] at * <;> omega) | (simp [am_c, am_up] at * <;> omega))
theorem v_put_X3_53 {l : Launch} {μ : am_N} {Q : Option am_V → am_N → Prop} (v : Int) (hS : sx μ μ) (h1 : μ 53 1 < 4) (k : ∀ r μ', r = μ 53 1 + 1 → μ' = am_up (am_up μ 53 1 (μ 53 1 + 1)) 54 (μ 53 1).toNat v → Q (some (.inl r)) μ') : am_Does l 42 [.inr (.inr 53), .inl v] μ Q := by
  refine am_Does_of (Nat.le_of_ble_eq_true rfl) (Nat.le_of_ble_eq_true rfl) (Nat.le_of_ble_eq_true rfl) ?_
  have hb := sx_all hS
  have e1 : am_c (μ 53 1) = μ 53 1 := am_cR (by omega) (by omega)
  refine am_go (ct := fun _ => false) am_oX3_put 300 ?_
  conv => whnf
  repeat' first
    | (refine (?_ : am_wp _ _ _ _ _ _ _ _ _ _ _ _); conv => whnf)
    | (refine (?_ : am_sw _ _ _ _); conv => whnf)
    | refine And.intro trivial ?_
    | exact trivial
    | assumption
    | refine k _ _ ?_ ?_
    | refine v_full_X3_53 (ν := μ) hS (fun _ => ?_) (fun _ => ?_)
    | refine And.intro (fun h => absurd h (by decide)) (fun _ => ?_)
    | refine And.intro (fun _ => ?_) (fun h => absurd (by decide) h)
    | refine And.intro (fun _ => ?_) (fun _ => ?_)
    | refine And.intro ?_ ?_
  all_goals (first | assumption | decide | omega | (simp only [e1]; done) | (simp only [e1] at * <;> omega) | (simp only [am_c, am_up] at * <;> omega) | (simp [am_c, am_up] at * <;> omega))
theorem v_putE_X3_53 {l : Launch} {μ : am_N} {Q : Option am_V → am_N → Prop} (v : Int) (hS : sx μ μ) (h1 : μ 53 1 < 4) (k : Q (some (.inl (μ 53 1 + 1))) (am_up (am_up μ 53 1 (μ 53 1 + 1)) 54 (μ 53 1).toNat v)) : am_Does l 42 [.inr (.inr 53), .inl v] μ Q := v_put_X3_53 v hS h1 (fun r μ' e1 e2 => by subst e1; subst e2; exact k)
theorem v_drop_X3_55 {l : Launch} {μ : am_N} {Q : Option am_V → am_N → Prop} (k : Q (some (.inl (μ 55 1))) (am_up μ 55 1 0)) : am_Does l 44 [.inr (.inr 55)] μ Q := by
  refine am_Does_of (Nat.le_of_ble_eq_true rfl) (Nat.le_of_ble_eq_true rfl) (Nat.le_of_ble_eq_true rfl) ?_
  refine am_go (ct := fun _ => false) am_oX3_drop 300 ?_
  conv => whnf
  repeat' first
    | (refine (?_ : am_wp _ _ _ _ _ _ _ _ _ _ _ _); conv => whnf)
    | (refine (?_ : am_sw _ _ _ _); conv => whnf)
    | refine And.intro trivial ?_
    | exact trivial
    | assumption
    | exact k
    | refine And.intro (fun h => absurd h (by decide)) (fun _ => ?_)
    | refine And.intro (fun _ => ?_) (fun h => absurd (by decide) h)
    | refine And.intro (fun _ => ?_) (fun _ => ?_)
    | refine And.intro ?_ ?_
  all_goals (first | assumption | decide | omega | (intros; omega) | (intros; simp only [am_c] at * <;> omega) | (simp only [am_c, am_up] at * <;> omega) | (simp [am_c, am_up] at * <;> omega))
theorem v_full_X3_55 {l : Launch} {μ : am_N} {Q : Option am_V → am_N → Prop} {ν : am_N} (hS : sx ν μ) (k1 : μ 55 1 = 4 → Q (some (.inl 1)) μ) (k2 : μ 55 1 < 4 → Q (some (.inl 0)) μ) : am_Does l 41 [.inr (.inr 55)] μ Q := by
  refine am_Does_of (Nat.le_of_ble_eq_true rfl) (Nat.le_of_ble_eq_true rfl) (Nat.le_of_ble_eq_true rfl) ?_
  have hb := sx_all hS
  refine am_go (ct := fun _ => false) am_oX3_full 300 ?_
  conv => whnf
  repeat' first
    | (refine (?_ : am_wp _ _ _ _ _ _ _ _ _ _ _ _); conv => whnf)
    | (refine (?_ : am_sw _ _ _ _); conv => whnf)
    | refine And.intro trivial ?_
    | exact trivial
    | assumption
    | refine k1 ?_
    | refine k2 ?_
    | refine And.intro (fun h => absurd h (by decide)) (fun _ => ?_)
    | refine And.intro (fun _ => ?_) (fun h => absurd (by decide) h)
    | refine And.intro (fun _ => ?_) (fun _ => ?_)
    | refine And.intro ?_ ?_
  all_goals (first | assumption | decide | omega | (intros; omega) | (intros; simp only [am_c] at * <;> omega) | (simp only [am_c, am_up] at * <;> omega) | (simp [am_c, am_up] at * <;> omega))
theorem v_put_X3_55 {l : Launch} {μ : am_N} {Q : Option am_V → am_N → Prop} (v : Int) (hS : sx μ μ) (h1 : μ 55 1 < 4) (k : ∀ r μ', r = μ 55 1 + 1 → μ' = am_up (am_up μ 55 1 (μ 55 1 + 1)) 56 (μ 55 1).toNat v → Q (some (.inl r)) μ') : am_Does l 42 [.inr (.inr 55), .inl v] μ Q := by
  refine am_Does_of (Nat.le_of_ble_eq_true rfl) (Nat.le_of_ble_eq_true rfl) (Nat.le_of_ble_eq_true rfl) ?_
  have hb := sx_all hS
  have e1 : am_c (μ 55 1) = μ 55 1 := am_cR (by omega) (by omega)
  refine am_go (ct := fun _ => false) am_oX3_put 300 ?_
  conv => whnf
  repeat' first
    | (refine (?_ : am_wp _ _ _ _ _ _ _ _ _ _ _ _); conv => whnf)
    | (refine (?_ : am_sw _ _ _ _); conv => whnf)
    | refine And.intro trivial ?_
    | exact trivial
    | assumption
    | refine k _ _ ?_ ?_
    | refine v_full_X3_55 (ν := μ) hS (fun _ => ?_) (fun _ => ?_)
    | refine And.intro (fun h => absurd h (by decide)) (fun _ => ?_)
    | refine And.intro (fun _ => ?_) (fun h => absurd (by decide) h)
    | refine And.intro (fun _ => ?_) (fun _ => ?_)
    | refine And.intro ?_ ?_
  all_goals (first | assumption | decide | omega | (simp only [e1]; done) | (simp only [e1] at * <;> omega) | (simp only [am_c, am_up] at * <;> omega) | (simp [am_c, am_up] at * <;> omega))
theorem v_putE_X3_55 {l : Launch} {μ : am_N} {Q : Option am_V → am_N → Prop} (v : Int) (hS : sx μ μ) (h1 : μ 55 1 < 4) (k : Q (some (.inl (μ 55 1 + 1))) (am_up (am_up μ 55 1 (μ 55 1 + 1)) 56 (μ 55 1).toNat v)) : am_Does l 42 [.inr (.inr 55), .inl v] μ Q := v_put_X3_55 v hS h1 (fun r μ' e1 e2 => by subst e1; subst e2; exact k)
theorem am_aa6 {P : Nat → Prop} {a b c d e f : Nat} (h1 : P a) (h2 : P b) (h3 : P c) (h4 : P d) (h5 : P e) (h6 : P f) : ∀ (i j : Nat), ([a, b, c, d, e, f] : List Nat)[i]? = some j → P j
  | 0, j, h => by cases h; exact h1
  | 1, j, h => by cases h; exact h2
  | 2, j, h => by cases h; exact h3
  | 3, j, h => by cases h; exact h4
  | 4, j, h => by cases h; exact h5
  | 5, j, h => by cases h; exact h6
  | i + 6, j, h => by simp at h
