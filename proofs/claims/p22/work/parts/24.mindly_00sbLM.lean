/-! races in mind and the model's public methods: words -/
theorem mo_l {A B : Nat → Nat → Bool} : ∀ k j, mo A B k j = false → A k j = false := fun _ _ h => (Bool.or_eq_false_iff.mp h).1
theorem mo_r {A B : Nat → Nat → Bool} : ∀ k j, mo A B k j = false → B k j = false := fun _ _ h => (Bool.or_eq_false_iff.mp h).2
theorem sb_id {A : Nat → Nat → Bool} : ∀ k j, A k j = false → A k j = false := fun _ _ h => h
theorem sb_T_s : ∀ k j, ms k j = false → mT k j = false := fun _ _ h => (Bool.or_eq_false_iff.mp h).1
theorem sb_T_Q : ∀ k j, mQ k j = false → mT k j = false := fun k j h => sb_T_s k j (mo_l k j h)
theorem sb_T_M : ∀ k j, mM k j = false → mT k j = false := fun k j h => sb_T_s k j (mo_l k j h)
theorem sb_R_M : ∀ k j, mM k j = false → mAR k j = false := fun k j h => by
  have h1 := sb_T_M k j h
  have h2 := mo_r k j h
  simp only [mM1, mR, mo, Bool.or_eq_false_iff, Bool.and_eq_false_iff] at h1 h2 ⊢
  refine ⟨h1, ?_, ?_, ?_⟩
  · cases q : Nat.beq k 89 with
    | false => rfl
    | true => have e := Nat.eq_of_beq_eq_true q; subst e; rcases h2.1 with z | z <;> cases z
  · cases q : Nat.beq k 90 with
    | false => rfl
    | true => have e := Nat.eq_of_beq_eq_true q; subst e; rcases h2.1 with z | z <;> cases z
  · cases q : Nat.beq j 11 with
    | false => exact Or.inr rfl
    | true => have e := Nat.eq_of_beq_eq_true q; subst e; rcases h2.2 with z | z | z <;> first | exact Or.inl z | cases z
theorem sb_L_M : ∀ k j, mM k j = false → mL k j = false := fun k j h => by
  refine Bool.or_eq_false_iff.mpr ⟨sb_R_M k j h, ?_⟩
  have h2 := mo_r k j h
  simp only [mM1, mL1, Bool.or_eq_false_iff, Bool.and_eq_false_iff] at h2 ⊢
  refine ⟨?_, ?_⟩
  · rcases h2.1 with z | z
    · exact Or.inl z
    · refine Or.inr ?_
      cases q : Nat.ble k 88 with
      | false => rfl
      | true => have e := Nat.ble_eq.mp q; rw [Nat.ble_eq.mpr (show k ≤ 90 by omega)] at z; cases z
  · rcases h2.2 with z | z | z
    · exact Or.inl z
    · refine Or.inr ?_
      have ne : ∀ c, 10 ≤ c → Nat.beq j c = false := fun c hc => by
        cases q : Nat.beq j c with
        | false => rfl
        | true => have e := Nat.eq_of_beq_eq_true q; rw [e, Nat.ble_eq.mpr hc] at z; cases z
      exact ⟨ne 10 (by decide), ne 12 (by decide), ne 13 (by decide), ne 14 (by decide)⟩
    · refine Or.inr ?_
      have ne : ∀ c, c ≤ 14 → Nat.beq j c = false := fun c hc => by
        cases q : Nat.beq j c with
        | false => rfl
        | true => have e := Nat.eq_of_beq_eq_true q; rw [e, Nat.ble_eq.mpr hc] at z; cases z
      exact ⟨ne 10 (by decide), ne 12 (by decide), ne 13 (by decide), ne 14 (by decide)⟩
