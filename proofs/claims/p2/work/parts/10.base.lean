/-! what stays, what is within bounds: the system's side -/
theorem am_cR {z : Int} (h1 : -2147483648 ≤ z) (h2 : z < 2147483648) : am_c z = z := by
  unfold am_c; omega
theorem am_cb (z : Int) : -2147483648 ≤ am_c z ∧ am_c z < 2147483648 := by
  unfold am_c; omega
/-- cells that a question leaves as they are -/
def sx_p (k : Nat) : Bool := !((Nat.ble 8 k && Nat.ble k 21) || ((Nat.ble 29 k && Nat.ble k 34) || ((Nat.ble 38 k && Nat.ble k 43) || (Nat.ble 78 k && Nat.ble k 82))))
def sx_q (k : Nat) : Bool := !(sx_p k) && (!(Nat.beq k 34) && !(Nat.beq k 43))
/-- numbers in bounds -/
def px (ν : am_N) : Prop := (0 ≤ ν 1 4 ∧ ν 1 4 ≤ 4) ∧ (0 ≤ ν 22 4 ∧ ν 22 4 ≤ 4) ∧ (0 ≤ ν 36 1 ∧ ν 36 1 ≤ 96) ∧ (0 ≤ ν 44 1 ∧ ν 44 1 ≤ 12) ∧ (0 ≤ ν 46 1 ∧ ν 46 1 ≤ 6) ∧ (0 ≤ ν 48 1 ∧ ν 48 1 ≤ 6) ∧ (0 ≤ ν 50 1 ∧ ν 50 1 ≤ 6) ∧ (0 ≤ ν 53 1 ∧ ν 53 1 ≤ 4) ∧ (0 ≤ ν 55 1 ∧ ν 55 1 ≤ 4) ∧ (0 ≤ ν 58 1 ∧ ν 58 1 ≤ 4) ∧ (0 ≤ ν 60 1 ∧ ν 60 1 ≤ 4) ∧ (0 ≤ ν 62 3 ∧ ν 62 3 ≤ 6)
def sx_3 (μ : am_N) (c : Nat) : Prop := ∀ p : Nat, p < 4 → 0 ≤ μ c p ∧ μ c p ≤ 3
def sx (ν μ : am_N) : Prop := (∀ k j, sx_p k = true → μ k j = ν k j) ∧ sx_3 μ 34 ∧ sx_3 μ 43 ∧ px ν
theorem sx_up {ν μ : am_N} {k j : Nat} {v : Int} (h : sx ν μ) (hk : sx_q k = true) : sx ν (am_up μ k j v) := by
  have hk2 : sx_p k = false ∧ k ≠ 34 ∧ k ≠ 43 := by
    simp only [sx_q, Bool.and_eq_true, Bool.not_eq_true'] at hk
    exact ⟨hk.1, fun e => by subst e; exact absurd hk.2.1 (by decide), fun e => by subst e; exact absurd hk.2.2 (by decide)⟩
  refine ⟨fun a b ha => ?_, fun p hp => ?_, fun p hp => ?_, h.2.2.2⟩
  · unfold am_up
    rw [if_neg (fun z => by rw [z.1, hk2.1] at ha; cases ha)]
    exact h.1 a b ha
  · unfold am_up
    rw [if_neg (fun z => hk2.2.1 z.1.symm)]
    exact h.2.1 p hp
  · unfold am_up
    rw [if_neg (fun z => hk2.2.2 z.1.symm)]
    exact h.2.2.1 p hp
theorem sx_34 {ν μ : am_N} {j : Nat} {v : Int} (h : sx ν μ) (h0 : 0 ≤ v) (h1 : v ≤ 3) : sx ν (am_up μ 34 j v) := by
  refine ⟨fun a b ha => ?_, fun p hp => ?_, fun p hp => ?_, h.2.2.2⟩
  · unfold am_up
    rw [if_neg (fun z => by rw [z.1] at ha; exact absurd ha (by decide))]
    exact h.1 a b ha
  · unfold am_up
    by_cases e : p = j
    · rw [if_pos ⟨rfl, e⟩]; exact ⟨h0, h1⟩
    · rw [if_neg (fun z => e z.2)]; exact h.2.1 p hp
  · unfold am_up
    rw [if_neg (fun z => absurd z.1 (by decide))]
    exact h.2.2.1 p hp
theorem sx_43 {ν μ : am_N} {j : Nat} {v : Int} (h : sx ν μ) (h0 : 0 ≤ v) (h1 : v ≤ 3) : sx ν (am_up μ 43 j v) := by
  refine ⟨fun a b ha => ?_, fun p hp => ?_, fun p hp => ?_, h.2.2.2⟩
  · unfold am_up
    rw [if_neg (fun z => by rw [z.1] at ha; exact absurd ha (by decide))]
    exact h.1 a b ha
  · unfold am_up
    rw [if_neg (fun z => absurd z.1 (by decide))]
    exact h.2.1 p hp
  · unfold am_up
    by_cases e : p = j
    · rw [if_pos ⟨rfl, e⟩]; exact ⟨h0, h1⟩
    · rw [if_neg (fun z => e z.2)]; exact h.2.2.1 p hp
theorem sx_rf {ν : am_N} (h1 : sx_3 ν 34) (h2 : sx_3 ν 43) (h : px ν) : sx ν ν := ⟨fun _ _ _ => rfl, h1, h2, h⟩
/-- how many runners there are -/
theorem sx_n {ν μ : am_N} (h : sx ν μ) : 0 ≤ μ 1 4 ∧ μ 1 4 ≤ 4 := by rw [h.1 1 4 rfl]; exact h.2.2.2.1
theorem am_upS {μ : am_N} {k j a b : Nat} {v : Int} : am_up μ k j v a b = if a = k ∧ b = j then v else μ a b := rfl
theorem am_upN {μ : am_N} {k j a b : Nat} {v : Int} (h : a ≠ k) : am_up μ k j v a b = μ a b := if_neg (fun z => h z.1)
