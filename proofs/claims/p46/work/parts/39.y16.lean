/-! two TEAMS -/
/-! who lets another win -/
theorem fv_tk {μ ν : am_N} (h0 : ∀ b : Nat, b < 5 → μ 8 b = ν 1 b) (h1 : ∀ a : Nat, 0 < a → a < 7 → ∀ b : Nat, b < 4 → μ (8 + a) b = ν (1 + a) b) : fv μ 8 = fv ν 1 := fp_ct_e (fun b hb => h0 b hb) (fun a b q1 q2 q3 => h1 a q1 q2 b q3)
theorem sx_lt {ν μ : am_N} (hS : sx ν ν) (f : ∀ a b, ¬(8 ≤ a ∧ a < 15) → a ≠ 33 → a ≠ 34 → ¬(a = 29 ∧ b = 0) → a ≠ 78 → μ a b = ν a b) (h34 : sx_3 μ 34) (h8 : 0 ≤ μ 8 4 ∧ μ 8 4 ≤ 4) (h29 : 0 ≤ μ 29 0 ∧ μ 29 0 ≤ 4) : sx ν μ := by
  have p : ∀ a, sx_p a = true → ¬(8 ≤ a ∧ a < 15) ∧ a ≠ 33 ∧ a ≠ 34 ∧ a ≠ 29 ∧ a ≠ 78 := fun a ha => by
    refine ⟨fun z => ?_, fun z => ?_, fun z => ?_, fun z => ?_, fun z => ?_⟩
    · rcases (show a = 8 ∨ a = 9 ∨ a = 10 ∨ a = 11 ∨ a = 12 ∨ a = 13 ∨ a = 14 by omega) with rfl | rfl | rfl | rfl | rfl | rfl | rfl <;> cases ha
    all_goals (rw [z] at ha; cases ha)
  refine ⟨fun a b ha => f a b (p a ha).1 (p a ha).2.1 (p a ha).2.2.1 (fun z => (p a ha).2.2.2.1 z.1) (p a ha).2.2.2.2, h34, fun q hq => ?_, ⟨h8, ?_, h29, ?_⟩, hS.2.2.2.2⟩
  · rw [f 43 q (by omega) (by omega) (by omega) (by omega) (by omega)]; exact hS.2.2.1 q hq
  · rw [f 15 4 (by omega) (by omega) (by omega) (by omega) (by omega)]; exact hS.2.2.2.1.2.1
  · rw [f 38 0 (by omega) (by omega) (by omega) (by omega) (by omega)]; exact hS.2.2.2.1.2.2.2
/-! races in mind -/
def fp_go (F : am_N) : Nat → am_N
  | 0 => F
  | k + 1 => fp_rn (fp_go F k)
theorem fw_go {W : Int} {F : am_N} (h : fp_fw W F) : ∀ k : Nat, fp_fw (W + (k : Int)) (fp_go F k) := by
  intro k
  induction k with
  | zero => rw [show W + ((0 : Nat) : Int) = W by omega]; exact h
  | succ k ih => exact fw_rn ih (by omega)
theorem fp_go_n (F : am_N) : ∀ k : Nat, fp_go F k 0 4 = F 0 4 := by
  intro k
  induction k with
  | zero => rfl
  | succ k ih => exact Eq.trans (show fp_rn (fp_go F k) 0 4 = fp_go F k 0 4 from rfl) ih
/-- cells of the field are no scratch -/
theorem mQ_fld {a b : Nat} (h : ((85 ≤ a ∧ a ≤ 90) ∧ b < 4) ∨ (a = 83 ∧ 10 ≤ b ∧ b ≤ 14)) : mQ a b = false := by
  rcases h with ⟨h1, h2⟩ | ⟨rfl, h1, h2⟩
  · rcases (show a = 85 ∨ a = 86 ∨ a = 87 ∨ a = 88 ∨ a = 89 ∨ a = 90 by omega) with rfl | rfl | rfl | rfl | rfl | rfl <;> rcases (show b = 0 ∨ b = 1 ∨ b = 2 ∨ b = 3 by omega) with rfl | rfl | rfl | rfl <;> rfl
  · rcases (show b = 10 ∨ b = 11 ∨ b = 12 ∨ b = 13 ∨ b = 14 by omega) with rfl | rfl | rfl | rfl | rfl <;> rfl
theorem mv_mQ {ν μ : am_N} (h : ∀ a b, mQ a b = false → μ a b = ν a b) : mv μ = mv ν := mv_keep4 (fun a b q => h a b (mQ_fld q))
theorem gm_runs {μ μ' : am_N} (h : mi μ) (f : ∀ a b, a ≠ 89 → a ≠ 90 → ¬(a = 83 ∧ b = 11) → a ≠ 99 → a ≠ 100 → μ' a b = μ a b) (p : sx_3 μ' 100) : gm mM μ μ' := by
  refine ⟨?_, fun a b q => f a b (fun z => by rw [z] at q; cases q) (fun z => by rw [z] at q; cases q) (fun z => by rw [z.1, z.2] at q; cases q) (fun z => by rw [z] at q; cases q) (fun z => by rw [z] at q; cases q)⟩
  unfold mi at h ⊢
  have e : ∀ a b, a = 98 ∨ (a = 83 ∧ b ≠ 11) → μ' a b = μ a b := fun a b q => f a b (by omega) (by omega) (by omega) (by omega) (by omega)
  rw [e 83 14 (by omega), e 83 15 (by omega), e 83 16 (by omega), e 83 21 (by omega), e 83 33 (by omega), e 83 40 (by omega), e 83 42 (by omega), e 98 44 (by omega), e 98 38 (by omega), e 98 39 (by omega)]
  exact ⟨h.1, h.2.1, h.2.2.1, h.2.2.2.1, h.2.2.2.2.1, h.2.2.2.2.2.1, h.2.2.2.2.2.2.1, h.2.2.2.2.2.2.2.1, h.2.2.2.2.2.2.2.2.1, h.2.2.2.2.2.2.2.2.2.1, p⟩
theorem gm_84 {A : Nat → Nat → Bool} {ν μ : am_N} (hA : ∀ b, A 84 b = true) (h : mi ν) (f : ∀ a b, a ≠ 84 → μ a b = ν a b) : gm A ν μ := ⟨(mi_84 h f).1, fun a b q => f a b (fun z => by rw [z, hA] at q; cases q)⟩
