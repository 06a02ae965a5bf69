theorem gv_b1 {E : List Nat} {ν μ : am_N} {v : Int} (h : gv E ν μ) (hE : E.contains 1 = true) (h0 : 0 ≤ v ∧ v ≤ 4) : gv E ν (am_up μ 1 4 v) := by
  refine ⟨⟨fun _ _ _ => rfl, sx_3N h.1.2.1 (by decide), sx_3N h.1.2.2.1 (by decide), sx_4N h.1.2.2.2.1 rfl rfl rfl rfl, ?_⟩, fun a b hab => ?_⟩
  · have q := h.1.2.2.2.2
    simp only [px] at q ⊢
    simp [am_upS]
    omega
  · rw [am_upN (fun z => by subst z; rw [hE] at hab; simp at hab)]
    exact h.2 a b hab
theorem gv_b22 {E : List Nat} {ν μ : am_N} {v : Int} (h : gv E ν μ) (hE : E.contains 22 = true) (h0 : 0 ≤ v ∧ v ≤ 4) : gv E ν (am_up μ 22 4 v) := by
  refine ⟨⟨fun _ _ _ => rfl, sx_3N h.1.2.1 (by decide), sx_3N h.1.2.2.1 (by decide), sx_4N h.1.2.2.2.1 rfl rfl rfl rfl, ?_⟩, fun a b hab => ?_⟩
  · have q := h.1.2.2.2.2
    simp only [px] at q ⊢
    simp [am_upS]
    omega
  · rw [am_upN (fun z => by subst z; rw [hE] at hab; simp at hab)]
    exact h.2 a b hab
theorem gv_b36 {E : List Nat} {ν μ : am_N} {v : Int} (h : gv E ν μ) (hE : E.contains 36 = true) (h0 : 0 ≤ v ∧ v ≤ 96) : gv E ν (am_up μ 36 1 v) := by
  refine ⟨⟨fun _ _ _ => rfl, sx_3N h.1.2.1 (by decide), sx_3N h.1.2.2.1 (by decide), sx_4N h.1.2.2.2.1 rfl rfl rfl rfl, ?_⟩, fun a b hab => ?_⟩
  · have q := h.1.2.2.2.2
    simp only [px] at q ⊢
    simp [am_upS]
    omega
  · rw [am_upN (fun z => by subst z; rw [hE] at hab; simp at hab)]
    exact h.2 a b hab
theorem gv_b44 {E : List Nat} {ν μ : am_N} {v : Int} (h : gv E ν μ) (hE : E.contains 44 = true) (h0 : 0 ≤ v ∧ v ≤ 12) : gv E ν (am_up μ 44 1 v) := by
  refine ⟨⟨fun _ _ _ => rfl, sx_3N h.1.2.1 (by decide), sx_3N h.1.2.2.1 (by decide), sx_4N h.1.2.2.2.1 rfl rfl rfl rfl, ?_⟩, fun a b hab => ?_⟩
  · have q := h.1.2.2.2.2
    simp only [px] at q ⊢
    simp [am_upS]
    omega
  · rw [am_upN (fun z => by subst z; rw [hE] at hab; simp at hab)]
    exact h.2 a b hab
theorem gv_b46 {E : List Nat} {ν μ : am_N} {v : Int} (h : gv E ν μ) (hE : E.contains 46 = true) (h0 : 0 ≤ v ∧ v ≤ 6) : gv E ν (am_up μ 46 1 v) := by
  refine ⟨⟨fun _ _ _ => rfl, sx_3N h.1.2.1 (by decide), sx_3N h.1.2.2.1 (by decide), sx_4N h.1.2.2.2.1 rfl rfl rfl rfl, ?_⟩, fun a b hab => ?_⟩
  · have q := h.1.2.2.2.2
    simp only [px] at q ⊢
    simp [am_upS]
    omega
  · rw [am_upN (fun z => by subst z; rw [hE] at hab; simp at hab)]
    exact h.2 a b hab
theorem gv_b48 {E : List Nat} {ν μ : am_N} {v : Int} (h : gv E ν μ) (hE : E.contains 48 = true) (h0 : 0 ≤ v ∧ v ≤ 6) : gv E ν (am_up μ 48 1 v) := by
  refine ⟨⟨fun _ _ _ => rfl, sx_3N h.1.2.1 (by decide), sx_3N h.1.2.2.1 (by decide), sx_4N h.1.2.2.2.1 rfl rfl rfl rfl, ?_⟩, fun a b hab => ?_⟩
  · have q := h.1.2.2.2.2
    simp only [px] at q ⊢
    simp [am_upS]
    omega
  · rw [am_upN (fun z => by subst z; rw [hE] at hab; simp at hab)]
    exact h.2 a b hab
theorem gv_b50 {E : List Nat} {ν μ : am_N} {v : Int} (h : gv E ν μ) (hE : E.contains 50 = true) (h0 : 0 ≤ v ∧ v ≤ 6) : gv E ν (am_up μ 50 1 v) := by
  refine ⟨⟨fun _ _ _ => rfl, sx_3N h.1.2.1 (by decide), sx_3N h.1.2.2.1 (by decide), sx_4N h.1.2.2.2.1 rfl rfl rfl rfl, ?_⟩, fun a b hab => ?_⟩
  · have q := h.1.2.2.2.2
    simp only [px] at q ⊢
    simp [am_upS]
    omega
  · rw [am_upN (fun z => by subst z; rw [hE] at hab; simp at hab)]
    exact h.2 a b hab
theorem gv_b53 {E : List Nat} {ν μ : am_N} {v : Int} (h : gv E ν μ) (hE : E.contains 53 = true) (h0 : 0 ≤ v ∧ v ≤ 4) : gv E ν (am_up μ 53 1 v) := by
  refine ⟨⟨fun _ _ _ => rfl, sx_3N h.1.2.1 (by decide), sx_3N h.1.2.2.1 (by decide), sx_4N h.1.2.2.2.1 rfl rfl rfl rfl, ?_⟩, fun a b hab => ?_⟩
  · have q := h.1.2.2.2.2
    simp only [px] at q ⊢
    simp [am_upS]
    omega
  · rw [am_upN (fun z => by subst z; rw [hE] at hab; simp at hab)]
    exact h.2 a b hab
theorem gv_b55 {E : List Nat} {ν μ : am_N} {v : Int} (h : gv E ν μ) (hE : E.contains 55 = true) (h0 : 0 ≤ v ∧ v ≤ 4) : gv E ν (am_up μ 55 1 v) := by
  refine ⟨⟨fun _ _ _ => rfl, sx_3N h.1.2.1 (by decide), sx_3N h.1.2.2.1 (by decide), sx_4N h.1.2.2.2.1 rfl rfl rfl rfl, ?_⟩, fun a b hab => ?_⟩
  · have q := h.1.2.2.2.2
    simp only [px] at q ⊢
    simp [am_upS]
    omega
  · rw [am_upN (fun z => by subst z; rw [hE] at hab; simp at hab)]
    exact h.2 a b hab
theorem gv_b58 {E : List Nat} {ν μ : am_N} {v : Int} (h : gv E ν μ) (hE : E.contains 58 = true) (h0 : 0 ≤ v ∧ v ≤ 4) : gv E ν (am_up μ 58 1 v) := by
  refine ⟨⟨fun _ _ _ => rfl, sx_3N h.1.2.1 (by decide), sx_3N h.1.2.2.1 (by decide), sx_4N h.1.2.2.2.1 rfl rfl rfl rfl, ?_⟩, fun a b hab => ?_⟩
  · have q := h.1.2.2.2.2
    simp only [px] at q ⊢
    simp [am_upS]
    omega
  · rw [am_upN (fun z => by subst z; rw [hE] at hab; simp at hab)]
    exact h.2 a b hab
theorem gv_b60 {E : List Nat} {ν μ : am_N} {v : Int} (h : gv E ν μ) (hE : E.contains 60 = true) (h0 : 0 ≤ v ∧ v ≤ 4) : gv E ν (am_up μ 60 1 v) := by
  refine ⟨⟨fun _ _ _ => rfl, sx_3N h.1.2.1 (by decide), sx_3N h.1.2.2.1 (by decide), sx_4N h.1.2.2.2.1 rfl rfl rfl rfl, ?_⟩, fun a b hab => ?_⟩
  · have q := h.1.2.2.2.2
    simp only [px] at q ⊢
    simp [am_upS]
    omega
  · rw [am_upN (fun z => by subst z; rw [hE] at hab; simp at hab)]
    exact h.2 a b hab
theorem gv_b62 {E : List Nat} {ν μ : am_N} {v : Int} (h : gv E ν μ) (hE : E.contains 62 = true) (h0 : 0 ≤ v ∧ v ≤ 6) : gv E ν (am_up μ 62 3 v) := by
  refine ⟨⟨fun _ _ _ => rfl, sx_3N h.1.2.1 (by decide), sx_3N h.1.2.2.1 (by decide), sx_4N h.1.2.2.2.1 rfl rfl rfl rfl, ?_⟩, fun a b hab => ?_⟩
  · have q := h.1.2.2.2.2
    simp only [px] at q ⊢
    simp [am_upS]
    omega
  · rw [am_upN (fun z => by subst z; rw [hE] at hab; simp at hab)]
    exact h.2 a b hab
theorem v_drop_X4 {l : Launch} {μ : am_N} {Q : Option am_V → am_N → Prop} (k : Q none (am_up μ 62 3 0)) : am_Does l 49 [.inr (.inr 62)] μ Q := by
  refine am_Does_of (Nat.le_of_ble_eq_true rfl) (Nat.le_of_ble_eq_true rfl) (Nat.le_of_ble_eq_true rfl) ?_
  refine am_go (ct := fun _ => false) am_oX4_drop 300 ?_
  conv => whnf
  repeat' first
    | (refine (?_ : am_wp _ _ _ _ _ _ _ _ _ _ _ _); conv => whnf)
    | (refine (?_ : am_sw _ _ _ _); conv => whnf)
    | refine And.intro trivial ?_
    | exact trivial
    | assumption
    | exact k
    | ((with_reducible refine (?_ : _ ∧ _)); first | (with_reducible first | refine am_jn am_q1 ?_ | refine am_jn am_q2 ?_ | refine am_jn am_q3 ?_ | refine am_jn am_q4 ?_ | refine am_jn am_q6 ?_ | refine am_jn am_q9 ?_ | refine am_jn am_p1 ?_ | refine am_jy am_p0 ?_ | refine am_kn am_q1 ?_ | refine am_kn am_q2 ?_ | refine am_kn am_q3 ?_ | refine am_kn am_q4 ?_ | refine am_kn am_q6 ?_ | refine am_kn am_q9 ?_ | refine am_kn am_p1 ?_ | refine am_ky am_p0 ?_) | refine And.intro (fun h => absurd h (by decide)) (fun _ => ?_) | refine And.intro (fun _ => ?_) (fun h => absurd (by decide) h) | refine And.intro (fun _ => ?_) (fun _ => ?_) | refine And.intro ?_ ?_)
    | refine And.intro (fun h => absurd h (by decide)) (fun _ => ?_)
    | refine And.intro (fun _ => ?_) (fun h => absurd (by decide) h)
    | refine And.intro (fun _ => ?_) (fun _ => ?_)
    | refine And.intro ?_ ?_
  all_goals (first | assumption | decide | omega | (intros; omega) | (intros; simp only [am_c] at * <;> omega) | (simp only [am_c, am_up] at * <;> omega) | (simp [am_c, am_up] at * <;> omega))
