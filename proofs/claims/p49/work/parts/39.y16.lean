/-! two TEAMS -/
/-! who lets another win -/
theorem fv_tk {μ ν : am_N} (h0 : ∀ b : Nat, b < 5 → μ 8 b = ν 1 b) (h1 : ∀ a : Nat, 0 < a → a < 7 → ∀ b : Nat, b < 4 → μ (8 + a) b = ν (1 + a) b) : fv μ 8 = fv ν 1 := fp_ct_e (fun b hb => h0 b hb) (fun a b q1 q2 q3 => h1 a q1 q2 b q3)
theorem sx_lt {ν μ : am_N} (hS : sx ν ν) (f : ∀ a b, ¬(8 ≤ a ∧ a < 15) → a ≠ 33 → a ≠ 34 → ¬(a = 29 ∧ b = 0) → a ≠ 78 → μ a b = ν a b) (h34 : sx_3 μ 34) (h8 : 0 ≤ μ 8 4 ∧ μ 8 4 ≤ 4) (h29 : 0 ≤ μ 29 0 ∧ μ 29 0 ≤ 4) : sx ν μ := by
  have p : ∀ a, sx_p a = true → ¬(8 ≤ a ∧ a < 15) ∧ a ≠ 33 ∧ a ≠ 34 ∧ a ≠ 29 ∧ a ≠ 78 := fun a ha => by
    refine ⟨fun z => ?_, fun z => ?_, fun z => ?_, fun z => ?_, fun z => ?_⟩
    · rcases (show a = 8 ∨ a = 9 ∨ a = 10 ∨ a = 11 ∨ a = 12 ∨ a = 13 ∨ a = 14 by omega) with rfl | rfl | rfl | rfl | rfl | rfl | rfl <;> cases ha
    all_goals (rw [z] at ha; cases ha)
  refine ⟨fun a b ha => f a b (p a ha).1 (p a ha).2.1 (p a ha).2.2.1 (fun z => (p a ha).2.2.2.1 z.1) (p a ha).2.2.2.2, h34, fun q hq => ?_, ⟨h8, ?_, h29, ?_⟩, hS.2.2.2.2⟩
  · rw [f 43 q (by omega) (by omega) (by omega) (by omega) (by omega)]; exact hS.2.2.1 q hq
  · rw [f 15 4 (by omega) (by omega) (by omega) (by omega) (by omega)]; exact hS.2.2.2.1.2.1
  · rw [f 38 0 (by omega) (by omega) (by omega) (by omega) (by omega)]; exact hS.2.2.2.1.2.2.2
/-! races in mind -/
/-- counted, and the least, upwards and downwards -/
def fq_cu (P : Nat → Bool) : Nat → Int
  | 0 => 0
  | t + 1 => bif P t then fq_cu P t + 1 else fq_cu P t
def fq_lu (P : Nat → Bool) : Nat → Int
  | 0 => -9
  | t + 1 => bif P t then (if fq_cu P t = 0 then (t : Int) else fq_lu P t) else fq_lu P t
def fq_cd (P : Nat → Bool) (N : Nat) : Nat → Int
  | 0 => 0
  | t + 1 => bif P (N - (t + 1)) then fq_cd P N t + 1 else fq_cd P N t
def fq_ld (P : Nat → Bool) (N : Nat) : Nat → Int
  | 0 => -9
  | t + 1 => bif P (N - (t + 1)) then ((N - (t + 1) : Nat) : Int) else fq_ld P N t
theorem fq_cu_b (P : Nat → Bool) : ∀ t : Nat, 0 ≤ fq_cu P t ∧ fq_cu P t ≤ (t : Int) := by
  intro t
  induction t with
  | zero => exact ⟨(by first | exact Int.le_refl 0 | (show (0 : Int) ≤ 1; decide) | (show (0 : Int) ≤ _; decide) | (show _ ≤ (0 : Int); decide) | (show (1 : Int) ≤ _; decide) | (show (0 : Int) < _; decide)), (by first | exact Int.le_refl 0 | (show (0 : Int) ≤ 1; decide) | (show (0 : Int) ≤ _; decide) | (show _ ≤ (0 : Int); decide) | (show (1 : Int) ≤ _; decide) | (show (0 : Int) < _; decide))⟩
  | succ t ih =>
    simp only [fq_cu]
    cases P t
    · exact ⟨ih.1, by show fq_cu P t ≤ _; omega⟩
    · exact ⟨by show 0 ≤ fq_cu P t + 1; omega, by show fq_cu P t + 1 ≤ _; omega⟩
theorem fq_lu_0 (P : Nat → Bool) : ∀ t : Nat, fq_cu P t = 0 → fq_lu P t = -9 := by
  intro t
  induction t with
  | zero => intro _; rfl
  | succ t ih =>
    have b := fq_cu_b P t
    simp only [fq_cu, fq_lu]
    cases P t
    · exact ih
    · intro h
      exfalso
      have h : fq_cu P t + 1 = 0 := h
      omega
theorem fq_c (P : Nat → Bool) (N : Nat) : ∀ t : Nat, t ≤ N → fq_cu P t + fq_cd P N (N - t) = fq_cd P N N := by
  intro t
  induction t with
  | zero => intro _; exact Int.zero_add _
  | succ t ih =>
    intro ht
    rw [← ih (by omega), show N - t = (N - (t + 1)) + 1 by omega]
    simp only [fq_cu, fq_cd]
    rw [show N - (N - (t + 1) + 1) = t by omega]
    cases P t
    · rfl
    · show fq_cu P t + 1 + fq_cd P N (N - (t + 1)) = fq_cu P t + (fq_cd P N (N - (t + 1)) + 1)
      omega
theorem fq_c_N (P : Nat → Bool) (N : Nat) : fq_cd P N N = fq_cu P N := by
  have h := fq_c P N N (Nat.le_refl _)
  rw [Nat.sub_self] at h
  rw [← h]
  exact Int.add_zero _
theorem fq_l (P : Nat → Bool) (N : Nat) : ∀ t : Nat, t ≤ N → (if fq_cu P t = 0 then fq_ld P N (N - t) else fq_lu P t) = fq_ld P N N := by
  intro t
  induction t with
  | zero => intro _; exact if_pos rfl
  | succ t ih =>
    intro ht
    have b := fq_cu_b P t
    rw [← ih (by omega), show N - t = (N - (t + 1)) + 1 by omega]
    simp only [fq_cu, fq_lu, fq_ld]
    rw [show N - (N - (t + 1) + 1) = t by omega]
    rcases Bool.eq_false_or_eq_true (P t) with d | d
    · simp only [d, cond_true]
      rw [if_neg (by omega)]
    · simp only [d, cond_false]
theorem fq_l_N (P : Nat → Bool) (N : Nat) : fq_ld P N N = fq_lu P N := by
  have h := fq_l P N N (Nat.le_refl _)
  rw [Nat.sub_self] at h
  rw [← h]
  by_cases d : fq_cu P N = 0
  · rw [if_pos d, fq_lu_0 P N d]; rfl
  · rw [if_neg d]
