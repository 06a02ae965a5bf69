/-! two TEAMS -/
/-! who lets another win -/
theorem fp_orG : ∀ (x : Fin 16) (i : Fin 4), 0 ≤ am_or ((x : Nat) : Int) (am_shl 1 ((i : Nat) : Int)) ∧ am_or ((x : Nat) : Int) (am_shl 1 ((i : Nat) : Int)) ≤ 15 := by decide +kernel
theorem fp_or1 {x i : Int} (h0 : 0 ≤ x) (h1 : x ≤ 15) (i0 : 0 ≤ i) (i1 : i < 4) : 0 ≤ am_or x (am_shl 1 i) ∧ am_or x (am_shl 1 i) ≤ 15 := by
  have h := fp_orG ⟨x.toNat, by omega⟩ ⟨i.toNat, by omega⟩
  simp only [Int.toNat_of_nonneg h0, Int.toNat_of_nonneg i0] at h
  exact h
theorem fv_tk {μ ν : am_N} (h0 : ∀ b : Nat, b < 5 → μ 8 b = ν 1 b) (h1 : ∀ a : Nat, 0 < a → a < 7 → ∀ b : Nat, b < 4 → μ (8 + a) b = ν (1 + a) b) : fv μ 8 = fv ν 1 := fp_ct_e (fun b hb => h0 b hb) (fun a b q1 q2 q3 => h1 a q1 q2 b q3)
theorem sx_lt {ν μ : am_N} (hS : sx ν ν) (f : ∀ a b, ¬(8 ≤ a ∧ a < 15) → a ≠ 33 → a ≠ 34 → ¬(a = 29 ∧ b = 0) → a ≠ 78 → μ a b = ν a b) (h34 : sx_3 μ 34) (h8 : 0 ≤ μ 8 4 ∧ μ 8 4 ≤ 4) (h29 : 0 ≤ μ 29 0 ∧ μ 29 0 ≤ 4) : sx ν μ := by
  have p : ∀ a, sx_p a = true → ¬(8 ≤ a ∧ a < 15) ∧ a ≠ 33 ∧ a ≠ 34 ∧ a ≠ 29 ∧ a ≠ 78 := fun a ha => by
    refine ⟨fun z => ?_, fun z => ?_, fun z => ?_, fun z => ?_, fun z => ?_⟩
    · rcases (show a = 8 ∨ a = 9 ∨ a = 10 ∨ a = 11 ∨ a = 12 ∨ a = 13 ∨ a = 14 by omega) with rfl | rfl | rfl | rfl | rfl | rfl | rfl <;> cases ha
    all_goals (rw [z] at ha; cases ha)
  refine ⟨fun a b ha => f a b (p a ha).1 (p a ha).2.1 (p a ha).2.2.1 (fun z => (p a ha).2.2.2.1 z.1) (p a ha).2.2.2.2, h34, fun q hq => ?_, ⟨h8, ?_, h29, ?_⟩, hS.2.2.2.2⟩
  · rw [f 43 q (by omega) (by omega) (by omega) (by omega) (by omega)]; exact hS.2.2.1 q hq
  · rw [f 15 4 (by omega) (by omega) (by omega) (by omega) (by omega)]; exact hS.2.2.2.1.2.1
  · rw [f 38 0 (by omega) (by omega) (by omega) (by omega) (by omega)]; exact hS.2.2.2.1.2.2.2
/-! races in mind -/
def fp_go (F : am_N) : Nat → am_N
  | 0 => F
  | k + 1 => fp_rn (fp_go F k)
theorem fw_go {W : Int} {F : am_N} (h : fp_fw W F) : ∀ k : Nat, fp_fw (W + (k : Int)) (fp_go F k) := by
  intro k
  induction k with
  | zero => rw [show W + ((0 : Nat) : Int) = W by omega]; exact h
  | succ k ih => exact fw_rn ih (by omega)
theorem fp_go_n (F : am_N) : ∀ k : Nat, fp_go F k 0 4 = F 0 4 := by
  intro k
  induction k with
  | zero => rfl
  | succ k ih => exact Eq.trans (show fp_rn (fp_go F k) 0 4 = fp_go F k 0 4 from rfl) ih
/-- cells of the field are no scratch -/
theorem mQ_fld {a b : Nat} (h : ((85 ≤ a ∧ a ≤ 90) ∧ b < 4) ∨ (a = 83 ∧ 10 ≤ b ∧ b ≤ 14)) : mQ a b = false := by
  rcases h with ⟨h1, h2⟩ | ⟨rfl, h1, h2⟩
  · rcases (show a = 85 ∨ a = 86 ∨ a = 87 ∨ a = 88 ∨ a = 89 ∨ a = 90 by omega) with rfl | rfl | rfl | rfl | rfl | rfl <;> rcases (show b = 0 ∨ b = 1 ∨ b = 2 ∨ b = 3 by omega) with rfl | rfl | rfl | rfl <;> rfl
  · rcases (show b = 10 ∨ b = 11 ∨ b = 12 ∨ b = 13 ∨ b = 14 by omega) with rfl | rfl | rfl | rfl | rfl <;> rfl
theorem mv_mQ {ν μ : am_N} (h : ∀ a b, mQ a b = false → μ a b = ν a b) : mv μ = mv ν := mv_keep4 (fun a b q => h a b (mQ_fld q))
theorem gm_runs {μ μ' : am_N} (h : mi μ) (f : ∀ a b, a ≠ 89 → a ≠ 90 → ¬(a = 83 ∧ b = 11) → a ≠ 99 → a ≠ 100 → μ' a b = μ a b) (p : sx_3 μ' 100) : gm mM μ μ' := by
  refine ⟨?_, fun a b q => f a b (fun z => by rw [z] at q; cases q) (fun z => by rw [z] at q; cases q) (fun z => by rw [z.1, z.2] at q; cases q) (fun z => by rw [z] at q; cases q) (fun z => by rw [z] at q; cases q)⟩
  unfold mi at h ⊢
  have e : ∀ a b, a = 98 ∨ (a = 83 ∧ b ≠ 11) → μ' a b = μ a b := fun a b q => f a b (by omega) (by omega) (by omega) (by omega) (by omega)
  rw [e 83 14 (by omega), e 83 15 (by omega), e 83 16 (by omega), e 83 21 (by omega), e 83 33 (by omega), e 83 40 (by omega), e 83 42 (by omega), e 98 44 (by omega), e 98 38 (by omega), e 98 39 (by omega)]
  exact ⟨h.1, h.2.1, h.2.2.1, h.2.2.2.1, h.2.2.2.2.1, h.2.2.2.2.2.1, h.2.2.2.2.2.2.1, h.2.2.2.2.2.2.2.1, h.2.2.2.2.2.2.2.2.1, h.2.2.2.2.2.2.2.2.2.1, p⟩
theorem gm_84 {A : Nat → Nat → Bool} {ν μ : am_N} (hA : ∀ b, A 84 b = true) (h : mi ν) (f : ∀ a b, a ≠ 84 → μ a b = ν a b) : gm A ν μ := ⟨(mi_84 h f).1, fun a b q => f a b (fun z => by rw [z, hA] at q; cases q)⟩
def fp_sd (F : am_N) (i : Nat) (s : Int) : am_N := fp_ct (am_up F 5 i s)
theorem fw_sd {W : Int} {F : am_N} {i : Nat} {s : Int} (h : fp_fw W F) (hs : 0 ≤ s ∧ s ≤ 99) : fp_fw W (fp_sd F i s) := fw_ct (fw_arr h (by decide) (fun _ => hs) (Or.inr (by decide)))
/-- a field but for one cell -/
theorem mv_but {ν μ : am_N} {a j : Nat} {v : Int} (ha : a < 6) (h : ∀ x b, mQ x b = false → ¬(x = 85 + a ∧ b = j) → μ x b = ν x b) : mv (am_up μ (85 + a) j v) = fp_ct (am_up (mv ν) (a + 1) j v) := by
  rw [mv_up]
  refine fp_ct_e (fun b hb => ?_) (fun x b q1 q2 hb => ?_)
  · rw [am_upN (by omega), am_upN (by omega), mv_0 hb, mv_0 hb]
    exact h 83 (10 + b) (mQ_fld (Or.inr (by omega))) (by omega)
  · by_cases d : x = a + 1 ∧ b = j
    · rw [am_upS, if_pos d, am_upS, if_pos d]
    · rw [am_uE d, am_uE d]
      obtain ⟨x, rfl⟩ : ∃ e, x = e + 1 := ⟨x - 1, by omega⟩
      rw [mv_a (by omega) hb, mv_a (by omega) hb]
      exact h (85 + x) b (mQ_fld (Or.inl (by omega))) (by omega)
/-- counted, and the least, upwards and downwards -/
def fq_cu (P : Nat → Bool) : Nat → Int
  | 0 => 0
  | t + 1 => bif P t then fq_cu P t + 1 else fq_cu P t
def fq_lu (P : Nat → Bool) : Nat → Int
  | 0 => -9
  | t + 1 => bif P t then (if fq_cu P t = 0 then (t : Int) else fq_lu P t) else fq_lu P t
def fq_cd (P : Nat → Bool) (N : Nat) : Nat → Int
  | 0 => 0
  | t + 1 => bif P (N - (t + 1)) then fq_cd P N t + 1 else fq_cd P N t
def fq_ld (P : Nat → Bool) (N : Nat) : Nat → Int
  | 0 => -9
  | t + 1 => bif P (N - (t + 1)) then ((N - (t + 1) : Nat) : Int) else fq_ld P N t
theorem fq_cu_b (P : Nat → Bool) : ∀ t : Nat, 0 ≤ fq_cu P t ∧ fq_cu P t ≤ (t : Int) := by
  intro t
  induction t with
  | zero => exact ⟨(by first | exact Int.le_refl 0 | (show (0 : Int) ≤ 1; decide) | (show (0 : Int) ≤ _; decide) | (show _ ≤ (0 : Int); decide) | (show (1 : Int) ≤ _; decide) | (show (0 : Int) < _; decide)), (by first | exact Int.le_refl 0 | (show (0 : Int) ≤ 1; decide) | (show (0 : Int) ≤ _; decide) | (show _ ≤ (0 : Int); decide) | (show (1 : Int) ≤ _; decide) | (show (0 : Int) < _; decide))⟩
  | succ t ih =>
    simp only [fq_cu]
    cases P t
    · exact ⟨ih.1, by show fq_cu P t ≤ _; omega⟩
    · exact ⟨by show 0 ≤ fq_cu P t + 1; omega, by show fq_cu P t + 1 ≤ _; omega⟩
theorem fq_lu_0 (P : Nat → Bool) : ∀ t : Nat, fq_cu P t = 0 → fq_lu P t = -9 := by
  intro t
  induction t with
  | zero => intro _; rfl
  | succ t ih =>
    have b := fq_cu_b P t
    simp only [fq_cu, fq_lu]
    cases P t
    · exact ih
    · intro h
      exfalso
      have h : fq_cu P t + 1 = 0 := h
      omega
theorem fq_c (P : Nat → Bool) (N : Nat) : ∀ t : Nat, t ≤ N → fq_cu P t + fq_cd P N (N - t) = fq_cd P N N := by
  intro t
  induction t with
  | zero => intro _; exact Int.zero_add _
  | succ t ih =>
    intro ht
    rw [← ih (by omega), show N - t = (N - (t + 1)) + 1 by omega]
    simp only [fq_cu, fq_cd]
    rw [show N - (N - (t + 1) + 1) = t by omega]
    cases P t
    · rfl
    · show fq_cu P t + 1 + fq_cd P N (N - (t + 1)) = fq_cu P t + (fq_cd P N (N - (t + 1)) + 1)
      omega
theorem fq_c_N (P : Nat → Bool) (N : Nat) : fq_cd P N N = fq_cu P N := by
  have h := fq_c P N N (Nat.le_refl _)
  rw [Nat.sub_self] at h
  rw [← h]
  exact Int.add_zero _
theorem fq_l (P : Nat → Bool) (N : Nat) : ∀ t : Nat, t ≤ N → (if fq_cu P t = 0 then fq_ld P N (N - t) else fq_lu P t) = fq_ld P N N := by
  intro t
  induction t with
  | zero => intro _; exact if_pos rfl
  | succ t ih =>
    intro ht
    have b := fq_cu_b P t
    rw [← ih (by omega), show N - t = (N - (t + 1)) + 1 by omega]
    simp only [fq_cu, fq_lu, fq_ld]
    rw [show N - (N - (t + 1) + 1) = t by omega]
    rcases Bool.eq_false_or_eq_true (P t) with d | d
    · simp only [d, cond_true]
      rw [if_neg (by omega)]
    · simp only [d, cond_false]
theorem fq_l_N (P : Nat → Bool) (N : Nat) : fq_ld P N N = fq_lu P N := by
  have h := fq_l P N N (Nat.le_refl _)
  rw [Nat.sub_self] at h
  rw [← h]
  by_cases d : fq_cu P N = 0
  · rw [if_pos d, fq_lu_0 P N d]; rfl
  · rw [if_neg d]
/-- a down step -/
theorem fq_dn {P : Nat → Bool} {s : Int} (h0 : 0 ≤ s) (h1 : s ≤ 99) : fq_cd P 100 (99 - (s + -1)).toNat = (bif P s.toNat then fq_cd P 100 (99 - s).toNat + 1 else fq_cd P 100 (99 - s).toNat) ∧ fq_ld P 100 (99 - (s + -1)).toNat = (bif P s.toNat then s else fq_ld P 100 (99 - s).toNat) := by
  rw [show (99 - (s + -1)).toNat = (99 - s).toNat + 1 by omega]
  simp only [fq_cd, fq_ld]
  rw [show 100 - ((99 - s).toNat + 1) = s.toNat by omega, Int.toNat_of_nonneg h0]
  exact ⟨rfl, rfl⟩
