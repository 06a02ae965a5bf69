/-! more of what stays: single numbers with bounds, subsets of cells -/
theorem am_upE {μ : am_N} {k j a b : Nat} {v : Int} (h : ¬ (a = k ∧ b = j)) : am_up μ k j v a b = μ a b := if_neg h
def mo1 (A : Nat → Nat → Bool) (a b : Nat) : Nat → Nat → Bool := fun k j => A k j || (Nat.beq k a && Nat.beq j b)
theorem mo1_self {A : Nat → Nat → Bool} {a b : Nat} : mo1 A a b a b = true := by simp [mo1]
theorem mo1_sub {A : Nat → Nat → Bool} {a b : Nat} : ∀ k j, mo1 A a b k j = false → A k j = false := fun _ _ h => (Bool.or_eq_false_iff.mp h).1
theorem mo1_one {A B : Nat → Nat → Bool} {a b : Nat} (hs : ∀ k j, A k j = false → B k j = false) : ∀ k j, mo1 A a b k j = false → B k j = false := fun k j h => hs k j (Bool.or_eq_false_iff.mp h).1
/-- what was changed for a while is put back -/
theorem gm_put {A : Nat → Nat → Bool} {ν μ : am_N} {k j : Nat} {v : Int} (h : gm (mo1 A k j) ν μ) (hv : v = ν k j) (hk : mi_b k j = false) : gm A ν (am_up μ k j v) := ⟨mi_up h.1 hk, fun a b q => by
  by_cases e : a = k ∧ b = j
  · rw [am_upS, if_pos e, hv, e.1, e.2]
  · rw [am_upE e]
    refine h.2 a b ?_
    simp only [mo1, q, Bool.false_or]
    cases h1 : Nat.beq a k with
    | false => rfl
    | true =>
      cases h2 : Nat.beq b j with
      | false => rfl
      | true => exact absurd ⟨Nat.eq_of_beq_eq_true h1, Nat.eq_of_beq_eq_true h2⟩ e⟩
theorem mi_14 {μ : am_N} {v : Int} (h : mi μ) (h0 : 0 ≤ v) (h1 : v ≤ 4) : mi (am_up μ 83 14 v) := by
  have e : ∀ a b, (a ≠ 83 ∨ b ≠ 14) → am_up μ 83 14 v a b = μ a b := fun a b q => am_upE (fun z => q.elim (fun w => w z.1) (fun w => w z.2))
  have f : am_up μ 83 14 v 83 14 = v := if_pos ⟨rfl, rfl⟩
  unfold mi at h ⊢
  rw [f, e 83 15 (Or.inr (by decide)), e 83 16 (Or.inr (by decide)), e 83 21 (Or.inr (by decide)), e 83 33 (Or.inr (by decide)), e 83 40 (Or.inr (by decide)), e 83 42 (Or.inr (by decide)), e 98 44 (Or.inl (by decide)), e 98 38 (Or.inl (by decide)), e 98 39 (Or.inl (by decide))]
  have g : sx_3 (am_up μ 83 14 v) 100 := fun p hp => by
    rw [e 100 p (Or.inl (by decide))]
    exact h.2.2.2.2.2.2.2.2.2.2 p hp
  refine ⟨?_, ?_, ?_, ?_, ?_, ?_, ?_, h.2.2.2.2.2.2.2.1, h.2.2.2.2.2.2.2.2.1, h.2.2.2.2.2.2.2.2.2.1, g⟩ <;> first | exact ⟨h0, h1⟩ | exact h.1 | exact h.2.1 | exact h.2.2.1 | exact h.2.2.2.1 | exact h.2.2.2.2.1 | exact h.2.2.2.2.2.1 | exact h.2.2.2.2.2.2.1
