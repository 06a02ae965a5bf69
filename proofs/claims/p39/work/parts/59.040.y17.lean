/-! needed -/
/-- counted, and the least, upwards and downwards -/
def fq_cu (P : Nat → Bool) : Nat → Int
  | 0 => 0
  | t + 1 => bif P t then fq_cu P t + 1 else fq_cu P t
def fq_lu (P : Nat → Bool) : Nat → Int
  | 0 => -9
  | t + 1 => bif P t then (if fq_cu P t = 0 then (t : Int) else fq_lu P t) else fq_lu P t
def fq_cd (P : Nat → Bool) (N : Nat) : Nat → Int
  | 0 => 0
  | t + 1 => bif P (N - (t + 1)) then fq_cd P N t + 1 else fq_cd P N t
def fq_ld (P : Nat → Bool) (N : Nat) : Nat → Int
  | 0 => -9
  | t + 1 => bif P (N - (t + 1)) then ((N - (t + 1) : Nat) : Int) else fq_ld P N t
theorem fq_cu_b (P : Nat → Bool) : ∀ t : Nat, 0 ≤ fq_cu P t ∧ fq_cu P t ≤ (t : Int) := by
  intro t
  induction t with
  | zero => exact ⟨(by first | exact Int.le_refl 0 | (show (0 : Int) ≤ 1; decide) | (show (0 : Int) ≤ _; decide) | (show _ ≤ (0 : Int); decide) | (show (1 : Int) ≤ _; decide) | (show (0 : Int) < _; decide)), (by first | exact Int.le_refl 0 | (show (0 : Int) ≤ 1; decide) | (show (0 : Int) ≤ _; decide) | (show _ ≤ (0 : Int); decide) | (show (1 : Int) ≤ _; decide) | (show (0 : Int) < _; decide))⟩
  | succ t ih =>
    simp only [fq_cu]
    cases P t
    · exact ⟨ih.1, by show fq_cu P t ≤ _; omega⟩
    · exact ⟨by show 0 ≤ fq_cu P t + 1; omega, by show fq_cu P t + 1 ≤ _; omega⟩
theorem fq_lu_0 (P : Nat → Bool) : ∀ t : Nat, fq_cu P t = 0 → fq_lu P t = -9 := by
  intro t
  induction t with
  | zero => intro _; rfl
  | succ t ih =>
    have b := fq_cu_b P t
    simp only [fq_cu, fq_lu]
    cases P t
    · exact ih
    · intro h
      exfalso
      have h : fq_cu P t + 1 = 0 := h
      omega
theorem fq_c (P : Nat → Bool) (N : Nat) : ∀ t : Nat, t ≤ N → fq_cu P t + fq_cd P N (N - t) = fq_cd P N N := by
  intro t
  induction t with
  | zero => intro _; exact Int.zero_add _
  | succ t ih =>
    intro ht
    rw [← ih (by omega), show N - t = (N - (t + 1)) + 1 by omega]
    simp only [fq_cu, fq_cd]
    rw [show N - (N - (t + 1) + 1) = t by omega]
    cases P t
    · rfl
    · show fq_cu P t + 1 + fq_cd P N (N - (t + 1)) = fq_cu P t + (fq_cd P N (N - (t + 1)) + 1)
      omega
theorem fq_c_N (P : Nat → Bool) (N : Nat) : fq_cd P N N = fq_cu P N := by
  have h := fq_c P N N (Nat.le_refl _)
  rw [Nat.sub_self] at h
  rw [← h]
  exact Int.add_zero _
theorem fq_l (P : Nat → Bool) (N : Nat) : ∀ t : Nat, t ≤ N → (if fq_cu P t = 0 then fq_ld P N (N - t) else fq_lu P t) = fq_ld P N N := by
  intro t
  induction t with
  | zero => intro _; exact if_pos rfl
  | succ t ih =>
    intro ht
    have b := fq_cu_b P t
    rw [← ih (by omega), show N - t = (N - (t + 1)) + 1 by omega]
    simp only [fq_cu, fq_lu, fq_ld]
    rw [show N - (N - (t + 1) + 1) = t by omega]
    rcases Bool.eq_false_or_eq_true (P t) with d | d
    · simp only [d, cond_true]
      rw [if_neg (by omega)]
    · simp only [d, cond_false]
theorem fq_l_N (P : Nat → Bool) (N : Nat) : fq_ld P N N = fq_lu P N := by
  have h := fq_l P N N (Nat.le_refl _)
  rw [Nat.sub_self] at h
  rw [← h]
  by_cases d : fq_cu P N = 0
  · rw [if_pos d, fq_lu_0 P N d]; rfl
  · rw [if_neg d]
