/-! the reading of a LANE -/
/-- the letter at a place, -1 if there is none -/
def am_nx (t : Nat → Int) (n q : Int) : Int := if 0 ≤ q ∧ q < n then t q.toNat else -1
def am_dt (t : Nat → Int) (n q : Int) : Int := if 48 ≤ am_nx t n q ∧ am_nx t n q ≤ 57 then am_nx t n q - 48 else -1
/-- the place behind m digits at most -/
def am_dn (t : Nat → Int) (n : Int) : Nat → Int → Int
  | 0, q => q
  | m + 1, q => if 0 ≤ am_dt t n q then am_dn t n m (q + 1) else q
/-- the number that m digits at most tell -/
def am_dv (t : Nat → Int) (n : Int) : Nat → Int → Int → Int
  | 0, _, v => v
  | m + 1, q, v => if 0 ≤ am_dt t n q then am_dv t n m (q + 1) (10 * v + am_dt t n q) else v
def am_ld (c : Int) : Int := if c = 119 then 3 else if c = 114 then 8 else if c = 109 then 2 else if c = 115 then 3 else if c = 103 then 0 else -1
def am_ls (c : Int) : Int := if c = 119 then 1 else am_ld c
/-- the place behind the STATEMENT at p, or -1 less the place of the fault -/
def am_bh (t : Nat → Int) (n p : Int) : Int :=
  if am_ld (am_nx t n p) < 0 then -1 - p
  else if am_dn t n (am_ld (am_nx t n p)).toNat (p + 1) - p - 1 < am_ls (am_nx t n p) ∨ am_nx t n (am_dn t n (am_ld (am_nx t n p)).toNat (p + 1)) ≠ 59 then -1 - am_dn t n (am_ld (am_nx t n p)).toNat (p + 1)
  else am_dn t n (am_ld (am_nx t n p)).toNat (p + 1) + 1
theorem am_dt_b (t : Nat → Int) (n q : Int) : -1 ≤ am_dt t n q ∧ am_dt t n q ≤ 9 := by
  unfold am_dt; split <;> omega
theorem am_dn_b (t : Nat → Int) (n : Int) : ∀ (m : Nat) (q : Int), q ≤ am_dn t n m q ∧ am_dn t n m q ≤ q + m
  | 0, q => ⟨Int.le_refl _, by simp [am_dn]⟩
  | m + 1, q => by
    simp only [am_dn]
    split
    · have h := am_dn_b t n m (q + 1); omega
    · omega
/-- digits lie before the end -/
theorem am_dn_n (t : Nat → Int) (n : Int) : ∀ (m : Nat) (q : Int), q ≤ n → am_dn t n m q ≤ n
  | 0, q, h => h
  | m + 1, q, h => by
    simp only [am_dn]
    split
    · next e =>
      have : q < n := by
        unfold am_dt am_nx at e
        split at e <;> (split at e <;> omega)
      exact am_dn_n t n m (q + 1) (by omega)
    · exact h
theorem am_dn_p {t : Nat → Int} {n q : Int} (m : Nat) (h : 0 ≤ am_dt t n q) : am_dn t n (m + 1) q = am_dn t n m (q + 1) := if_pos h
theorem am_dn_q {t : Nat → Int} {n q : Int} (m : Nat) (h : ¬0 ≤ am_dt t n q) : am_dn t n (m + 1) q = q := if_neg h
theorem am_dn_add (t : Nat → Int) (n : Int) (b : Nat) : ∀ (a : Nat) (q : Int), am_dn t n (a + b) q = if am_dn t n a q = q + a then am_dn t n b (q + a) else am_dn t n a q
  | 0, q => by simp [am_dn]
  | a + 1, q => by
    rw [show a + 1 + b = (a + b) + 1 by omega]
    by_cases e : 0 ≤ am_dt t n q
    · have p := am_dn_p a e
      rw [am_dn_p (a + b) e, am_dn_add t n b a (q + 1)]
      by_cases f : am_dn t n a (q + 1) = q + 1 + a
      · rw [if_pos f, if_pos (by omega), show q + ((a + 1 : Nat) : Int) = q + 1 + a by omega]
      · rw [if_neg f, if_neg (by omega), p]
    · have p := am_dn_q a e
      rw [am_dn_q (a + b) e, if_neg (by omega), p]
/-- all m are digits -/
theorem am_dn_d (t : Nat → Int) (n : Int) : ∀ (m : Nat) (q : Int), am_dn t n m q = q + m → ∀ i : Nat, i < m → 0 ≤ am_dt t n (q + i)
  | 0, _, _, i, hi => absurd hi (Nat.not_lt_zero _)
  | m + 1, q, h, i, hi => by
    simp only [am_dn] at h
    by_cases e : 0 ≤ am_dt t n q
    · rw [if_pos e] at h
      cases i with
      | zero => simpa using e
      | succ i =>
        have z := am_dn_d t n m (q + 1) (by omega) i (by omega)
        rw [show q + ((i + 1 : Nat) : Int) = q + 1 + i by omega]
        exact z
    · rw [if_neg e] at h
      omega
theorem am_dv_b (t : Nat → Int) (n : Int) : ∀ (m : Nat) (q v : Int), 0 ≤ v → v ≤ am_dv t n m q v ∧ am_dv t n m q v ≤ (v + 1) * 10 ^ m - 1
  | 0, q, v, h => by simp [am_dv]
  | m + 1, q, v, h => by
    simp only [am_dv]
    have hp : (1 : Int) ≤ 10 ^ m := Int.pow_pos (m := m) (by decide)
    have hd := am_dt_b t n q
    split
    · have z := am_dv_b t n m (q + 1) (10 * v + am_dt t n q) (by omega)
      refine ⟨by omega, Int.le_trans z.2 ?_⟩
      have y : (10 * v + am_dt t n q + 1) * 10 ^ m ≤ ((v + 1) * 10) * 10 ^ m := Int.mul_le_mul_of_nonneg_right (by omega) (by omega)
      rw [Int.pow_succ, Int.mul_comm (10 ^ m) 10, ← Int.mul_assoc]
      omega
    · refine ⟨Int.le_refl _, ?_⟩
      have y : (v + 1) * 1 ≤ (v + 1) * 10 ^ (m + 1) := Int.mul_le_mul_of_nonneg_left (Int.pow_pos (m := m + 1) (by decide)) (by omega)
      omega
theorem am_dv_2 (t : Nat → Int) (n q : Int) (h0 : 0 ≤ am_dt t n q) (h1 : 0 ≤ am_dt t n (q + 1)) : am_dv t n 2 q 0 = 10 * am_dt t n q + am_dt t n (q + 1) := by
  simp only [am_dv]
  rw [if_pos h0, if_pos h1]
  omega
theorem am_dv_1 (t : Nat → Int) (n q : Int) (h0 : 0 ≤ am_dt t n q) : am_dv t n 1 q 0 = am_dt t n q := by
  simp only [am_dv]
  rw [if_pos h0]
  omega
/-- a STATEMENT ends behind its place, and within the letters -/
theorem am_bh_b (t : Nat → Int) (n p : Int) (h0 : 0 ≤ p) (h1 : p ≤ n) : (0 ≤ am_bh t n p → p + 1 < am_bh t n p ∧ am_bh t n p ≤ n) ∧ (am_bh t n p < 0 → p ≤ -1 - am_bh t n p ∧ -1 - am_bh t n p ≤ n) := by
  unfold am_bh
  split
  · omega
  · next e0 =>
    have hp : p < n := by
      by_cases h : p < n
      · exact h
      · exact absurd (by rw [show am_nx t n p = -1 from if_neg (by omega)]; decide) e0
    have b := am_dn_b t n (am_ld (am_nx t n p)).toNat (p + 1)
    have c := am_dn_n t n (am_ld (am_nx t n p)).toNat (p + 1) (by omega)
    split
    · omega
    · next e =>
      have f : am_nx t n (am_dn t n (am_ld (am_nx t n p)).toNat (p + 1)) = 59 := by
        by_cases g : am_nx t n (am_dn t n (am_ld (am_nx t n p)).toNat (p + 1)) = 59
        · exact g
        · exact absurd (Or.inr g) e
      have g : am_dn t n (am_ld (am_nx t n p)).toNat (p + 1) < n := by
        by_cases h : am_dn t n (am_ld (am_nx t n p)).toNat (p + 1) < n
        · exact h
        · rw [show am_nx t n (am_dn t n (am_ld (am_nx t n p)).toNat (p + 1)) = -1 from if_neg (by omega)] at f
          omega
      omega
theorem am_nx_b {t : Nat → Int} {n : Int} (h : ∀ i : Nat, (i : Int) < n → 0 ≤ t i ∧ t i ≤ 255) (q : Int) : -1 ≤ am_nx t n q ∧ am_nx t n q ≤ 255 := by
  unfold am_nx
  split
  · next e => have := h q.toNat (by omega); omega
  · omega
theorem am_ld_b (c : Int) : -1 ≤ am_ld c ∧ am_ld c ≤ 8 := by
  unfold am_ld
  repeat' split
  all_goals omega
theorem am_ls_b (c : Int) : -1 ≤ am_ls c ∧ am_ls c ≤ 8 := by
  unfold am_ls
  have := am_ld_b c
  split <;> omega
/-- one digit on -/
theorem am_dn_s {t : Nat → Int} {n q : Int} {M j : Int} (h0 : j < M) (h1 : 0 ≤ am_dt t n q) : am_dn t n (M - j).toNat q = am_dn t n (M - (j + 1)).toNat (q + 1) := by
  rw [show (M - j).toNat = (M - (j + 1)).toNat + 1 by omega]
  exact am_dn_p _ h1
theorem am_dn_z {t : Nat → Int} {n q : Int} {M j : Int} (h : M ≤ j ∨ am_dt t n q < 0) : am_dn t n (M - j).toNat q = q := by
  by_cases e : M ≤ j
  · rw [show (M - j).toNat = 0 by omega]; rfl
  · rw [show (M - j).toNat = (M - (j + 1)).toNat + 1 by omega]
    exact am_dn_q _ (by omega)
theorem am_dv_s {t : Nat → Int} {n q v : Int} {M j : Int} (h0 : j < M) (h1 : 0 ≤ am_dt t n q) : am_dv t n (M - j).toNat q v = am_dv t n (M - (j + 1)).toNat (q + 1) (10 * v + am_dt t n q) := by
  rw [show (M - j).toNat = (M - (j + 1)).toNat + 1 by omega]
  exact if_pos h1
theorem am_dv_z {t : Nat → Int} {n q v : Int} {M j : Int} (h : M ≤ j ∨ am_dt t n q < 0) : am_dv t n (M - j).toNat q v = v := by
  by_cases e : M ≤ j
  · rw [show (M - j).toNat = 0 by omega]; rfl
  · rw [show (M - j).toNat = (M - (j + 1)).toNat + 1 by omega]
    exact if_neg (by omega)
theorem am_dt_i {t : Nat → Int} {n q : Int} (h0 : 48 ≤ am_nx t n q) (h1 : am_nx t n q ≤ 57) : am_dt t n q = am_nx t n q - 48 := if_pos ⟨h0, h1⟩
theorem am_dt_o {t : Nat → Int} {n q : Int} (h : am_nx t n q < 48 ∨ 57 < am_nx t n q) : am_dt t n q = -1 := if_neg (by omega)
theorem am_dn_o {t : Nat → Int} {n q : Int} {m : Nat} (k : Nat) (h : am_dn t n m q = q + m) : am_dn t n (m + k) q = am_dn t n k (q + m) := by
  rw [am_dn_add, if_pos h]
theorem am_dn_x {t : Nat → Int} {n q : Int} {m : Nat} (k : Nat) (h : am_dn t n m q ≠ q + m) : am_dn t n (m + k) q = am_dn t n m q := by
  rw [am_dn_add, if_neg h]
theorem am_dn8 {t : Nat → Int} {n a : Int} (e1 : am_dn t n 1 a = a + 1) (e2 : am_dn t n 1 (a + 1) = a + 1 + 1) (e3 : am_dn t n 2 (a + 2) = a + 2 + 2) (e4 : am_dn t n 2 (a + 4) = a + 4 + 2) (e5 : am_dn t n 2 (a + 6) = a + 6 + 2) : am_dn t n 8 a = a + 8 := by
  have h1 : am_dn t n 8 a = am_dn t n 7 (a + 1) := am_dn_o (m := 1) 7 e1
  have h2 : am_dn t n 7 (a + 1) = am_dn t n 6 (a + 1 + 1) := am_dn_o (m := 1) 6 e2
  have h3 : am_dn t n 6 (a + 2) = am_dn t n 4 (a + 2 + 2) := am_dn_o (m := 2) 4 e3
  have h4 : am_dn t n 4 (a + 4) = am_dn t n 2 (a + 4 + 2) := am_dn_o (m := 2) 2 e4
  rw [h1, h2, show a + 1 + 1 = a + 2 by omega, h3, show a + 2 + 2 = a + 4 by omega, h4, show a + 4 + 2 = a + 6 by omega, e5]
  omega
theorem am_dn8_1 {t : Nat → Int} {n a : Int} (e1 : am_dn t n 1 a ≠ a + 1) : am_dn t n 8 a = am_dn t n 1 a := am_dn_x (m := 1) 7 e1
theorem am_dn8_2 {t : Nat → Int} {n a : Int} (e1 : am_dn t n 1 a = a + 1) (e2 : am_dn t n 1 (a + 1) ≠ a + 1 + 1) : am_dn t n 8 a = am_dn t n 1 (a + 1) := by
  have h1 : am_dn t n 8 a = am_dn t n 7 (a + 1) := am_dn_o (m := 1) 7 e1
  have h2 : am_dn t n 7 (a + 1) = am_dn t n 1 (a + 1) := am_dn_x (m := 1) 6 e2
  rw [h1, h2]
theorem am_dn8_3 {t : Nat → Int} {n a : Int} (e1 : am_dn t n 1 a = a + 1) (e2 : am_dn t n 1 (a + 1) = a + 1 + 1) (e3 : am_dn t n 2 (a + 2) ≠ a + 2 + 2) : am_dn t n 8 a = am_dn t n 2 (a + 2) := by
  have h1 : am_dn t n 8 a = am_dn t n 7 (a + 1) := am_dn_o (m := 1) 7 e1
  have h2 : am_dn t n 7 (a + 1) = am_dn t n 6 (a + 1 + 1) := am_dn_o (m := 1) 6 e2
  have h3 : am_dn t n 6 (a + 2) = am_dn t n 2 (a + 2) := am_dn_x (m := 2) 4 e3
  rw [h1, h2, show a + 1 + 1 = a + 2 by omega, h3]
theorem am_dn8_4 {t : Nat → Int} {n a : Int} (e1 : am_dn t n 1 a = a + 1) (e2 : am_dn t n 1 (a + 1) = a + 1 + 1) (e3 : am_dn t n 2 (a + 2) = a + 2 + 2) (e4 : am_dn t n 2 (a + 4) ≠ a + 4 + 2) : am_dn t n 8 a = am_dn t n 2 (a + 4) := by
  have h1 : am_dn t n 8 a = am_dn t n 7 (a + 1) := am_dn_o (m := 1) 7 e1
  have h2 : am_dn t n 7 (a + 1) = am_dn t n 6 (a + 1 + 1) := am_dn_o (m := 1) 6 e2
  have h3 : am_dn t n 6 (a + 2) = am_dn t n 4 (a + 2 + 2) := am_dn_o (m := 2) 4 e3
  have h4 : am_dn t n 4 (a + 4) = am_dn t n 2 (a + 4) := am_dn_x (m := 2) 2 e4
  rw [h1, h2, show a + 1 + 1 = a + 2 by omega, h3, show a + 2 + 2 = a + 4 by omega, h4]
theorem am_dn8_5 {t : Nat → Int} {n a : Int} (e1 : am_dn t n 1 a = a + 1) (e2 : am_dn t n 1 (a + 1) = a + 1 + 1) (e3 : am_dn t n 2 (a + 2) = a + 2 + 2) (e4 : am_dn t n 2 (a + 4) = a + 4 + 2) : am_dn t n 8 a = am_dn t n 2 (a + 6) := by
  have h1 : am_dn t n 8 a = am_dn t n 7 (a + 1) := am_dn_o (m := 1) 7 e1
  have h2 : am_dn t n 7 (a + 1) = am_dn t n 6 (a + 1 + 1) := am_dn_o (m := 1) 6 e2
  have h3 : am_dn t n 6 (a + 2) = am_dn t n 4 (a + 2 + 2) := am_dn_o (m := 2) 4 e3
  have h4 : am_dn t n 4 (a + 4) = am_dn t n 2 (a + 4 + 2) := am_dn_o (m := 2) 2 e4
  rw [h1, h2, show a + 1 + 1 = a + 2 by omega, h3, show a + 2 + 2 = a + 4 by omega, h4, show a + 4 + 2 = a + 6 by omega]
/-! the places of STATEMENTS, what each brings -/
theorem am_bh_1 {t : Nat → Int} {n p : Int} (h : am_ld (am_nx t n p) < 0) : am_bh t n p = -1 - p := if_pos h
theorem am_bh_2 {t : Nat → Int} {n p M L q : Int} (eM : M = am_ld (am_nx t n p)) (eL : L = am_ls (am_nx t n p)) (h0 : 0 ≤ M) (eq : q = am_dn t n M.toNat (p + 1)) (h : q - p - 1 < L ∨ am_nx t n q ≠ 59) : am_bh t n p = -1 - q := by
  subst eM; subst eL; subst eq
  unfold am_bh
  rw [if_neg (by omega), if_pos h]
theorem am_bh_3 {t : Nat → Int} {n p M L q : Int} (eM : M = am_ld (am_nx t n p)) (eL : L = am_ls (am_nx t n p)) (h0 : 0 ≤ M) (eq : q = am_dn t n M.toNat (p + 1)) (h : ¬(q - p - 1 < L ∨ am_nx t n q ≠ 59)) : am_bh t n p = q + 1 := by
  subst eM; subst eL; subst eq
  unfold am_bh
  rw [if_neg (by omega), if_neg h]
/-- digits that must be there are -/
theorem am_bh_d {t : Nat → Int} {n p : Int} (h : 0 ≤ am_bh t n p) (h0 : 0 ≤ p) (hc : am_nx t n p ≠ 119) : ∀ i : Nat, (i : Int) < am_ld (am_nx t n p) → 0 ≤ am_dt t n (p + 1 + i) := by
  intro i hi
  have hl : am_ls (am_nx t n p) = am_ld (am_nx t n p) := if_neg hc
  have b := am_dn_b t n (am_ld (am_nx t n p)).toNat (p + 1)
  have e : am_dn t n (am_ld (am_nx t n p)).toNat (p + 1) = p + 1 + ((am_ld (am_nx t n p)).toNat : Nat) := by
    unfold am_bh at h
    rw [if_neg (by omega)] at h
    by_cases q : am_dn t n (am_ld (am_nx t n p)).toNat (p + 1) - p - 1 < am_ls (am_nx t n p) ∨ am_nx t n (am_dn t n (am_ld (am_nx t n p)).toNat (p + 1)) ≠ 59
    · rw [if_pos q] at h; omega
    · omega
  exact am_dn_d t n _ _ e i (by omega)
def fp_pk (t : Nat → Int) (n : Int) : Nat → Int
  | 0 => 0
  | k + 1 => am_bh t n (fp_pk t n k)
/-- K STATEMENTS stand well -/
def fp_pr (t : Nat → Int) (n : Int) (K : Nat) : Prop := ∀ j : Nat, j < K → fp_pk t n j < n ∧ 0 ≤ am_bh t n (fp_pk t n j)
theorem fp_pr_0 {t : Nat → Int} {n : Int} : fp_pr t n 0 := fun j h => absurd h (Nat.not_lt_zero j)
theorem fp_pr_s {t : Nat → Int} {n : Int} {K : Nat} (h : fp_pr t n K) (h1 : fp_pk t n K < n) (h2 : 0 ≤ am_bh t n (fp_pk t n K)) : fp_pr t n (K + 1) := fun j hj => by
  by_cases e : j = K
  · subst e; exact ⟨h1, h2⟩
  · exact h j (by omega)
theorem fp_pk_b {t : Nat → Int} {n : Int} (h0 : 0 ≤ n) : ∀ K : Nat, fp_pr t n K → 2 * (K : Int) ≤ fp_pk t n K ∧ fp_pk t n K ≤ n
  | 0, _ => ⟨by simp [fp_pk], by simp [fp_pk]; exact h0⟩
  | K + 1, h => by
    have q := fp_pk_b h0 K (fun j hj => h j (by omega))
    obtain ⟨q1, q2⟩ := h K (by omega)
    have b := (am_bh_b t n (fp_pk t n K) (by omega) (by omega)).1 q2
    show 2 * ((K + 1 : Nat) : Int) ≤ am_bh t n (fp_pk t n K) ∧ am_bh t n (fp_pk t n K) ≤ n
    omega
def fp_w (t : Nat → Int) (n p : Int) : Int := am_dv t n 3 (p + 1) 0
def fp_2 (t : Nat → Int) (n q : Int) : Int := 10 * am_dt t n q + am_dt t n (q + 1)
/-- the STATEMENT at p is as it must be on the field F -/
def fp_ok (t : Nat → Int) (n : Int) (F : am_N) (p : Int) : Prop :=
  if am_nx t n p = 119 then 20 ≤ fp_w t n p ∧ fp_w t n p ≤ 200
  else if am_nx t n p = 114 then F 0 4 < 4 ∧ am_dt t n (p + 1) ≤ 5 ∧ 5 ≤ fp_2 t n (p + 3) ∧ fp_2 t n (p + 3) ≤ 40 ∧ fp_2 t n (p + 5) ≤ 20
  else if am_nx t n p = 109 then am_dt t n (p + 1) ≤ 4 ∧ 1 ≤ am_dt t n (p + 2)
  else if am_nx t n p = 115 then am_dt t n (p + 1) < F 0 4
  else 0 < F 0 4 ∧ F 0 1 < 999
def fp_cr (t : Nat → Int) (n : Int) (F : am_N) (p : Int) : am_N :=
  if am_nx t n p = 119 then am_up F 0 0 (fp_w t n p)
  else if am_nx t n p = 114 then am_up (am_up (am_up (am_up (am_up (am_up (am_up F 1 (F 0 4).toNat (am_dt t n (p + 1))) 2 (F 0 4).toNat (am_dt t n (p + 2))) 3 (F 0 4).toNat (fp_2 t n (p + 3))) 4 (F 0 4).toNat (fp_2 t n (p + 5))) 5 (F 0 4).toNat (fp_2 t n (p + 7))) 6 (F 0 4).toNat 0) 0 4 (F 0 4 + 1)
  else if am_nx t n p = 109 then am_up (am_up F 0 2 (am_dt t n (p + 1))) 0 3 (am_dt t n (p + 2))
  else if am_nx t n p = 115 then am_up F 5 (am_dt t n (p + 1)).toNat (fp_2 t n (p + 2))
  else fp_rn F
/-- what comes of it -/
def fp_cf (t : Nat → Int) (n : Int) (F : am_N) (p : Int) : am_N := fp_ct (fp_cr t n F p)
def fp_fk (t : Nat → Int) (n : Int) (F : am_N) : Nat → am_N
  | 0 => F
  | k + 1 => fp_cf t n (fp_fk t n F k) (fp_pk t n k)
def fp_okp (t : Nat → Int) (n : Int) (F : am_N) (K : Nat) : Prop := ∀ j : Nat, j < K → fp_ok t n (fp_fk t n F j) (fp_pk t n j)
theorem fp_okp_0 {t : Nat → Int} {n : Int} {F : am_N} : fp_okp t n F 0 := fun j h => absurd h (Nat.not_lt_zero j)
theorem fp_okp_s {t : Nat → Int} {n : Int} {F : am_N} {K : Nat} (h : fp_okp t n F K) (h1 : fp_ok t n (fp_fk t n F K) (fp_pk t n K)) : fp_okp t n F (K + 1) := fun j hj => by
  by_cases e : j = K
  · subst e; exact h1
  · exact h j (by omega)
/-- what a LANE answers, and the field then -/
def fp_LN (t : Nat → Int) (n : Int) (F : am_N) (r : Int) (G : am_N) : Prop :=
  (∃ K : Nat, fp_pr t n K ∧ (fp_pk t n K < n ∨ K = 0) ∧ am_bh t n (fp_pk t n K) < 0 ∧ r = -1000 - (-1 - am_bh t n (fp_pk t n K)) ∧ G = F) ∨
  ∃ K : Nat, 1 ≤ K ∧ fp_pr t n K ∧ n ≤ fp_pk t n K ∧ ((∃ j : Nat, j < K ∧ fp_okp t n F j ∧ ¬ fp_ok t n (fp_fk t n F j) (fp_pk t n j) ∧ r = -2000 - fp_pk t n j ∧ G = F) ∨ (fp_okp t n F K ∧ r = K ∧ G = fp_fk t n F K))
theorem fp_LN_u {t : Nat → Int} {n : Int} {F G G' : am_N} {r r' : Int} (h : fp_LN t n F r G) (h' : fp_LN t n F r' G') : r = r' ∧ G = G' := by
  rcases h with ⟨K, a1, a2, a3, a4, a5⟩ | ⟨K, a1, a2, a3, a4⟩ <;> rcases h' with ⟨L, b1, b2, b3, b4, b5⟩ | ⟨L, b1, b2, b3, b4⟩
  · have e : K = L := by
      rcases Nat.lt_trichotomy K L with q | q | q
      · have := (b1 K q).2; omega
      · exact q
      · have := (a1 L q).2; omega
    subst e
    exact ⟨by omega, by rw [a5, b5]⟩
  · exfalso
    rcases Nat.lt_trichotomy K L with q | q | q
    · have := (b2 K q).2; omega
    · subst q; omega
    · have := (a1 L q).1; omega
  · exfalso
    rcases Nat.lt_trichotomy K L with q | q | q
    · have := (b1 K q).1; omega
    · subst q; omega
    · have := (a2 L q).2; omega
  · have e : K = L := by
      rcases Nat.lt_trichotomy K L with q | q | q
      · have := (b2 K q).1; omega
      · exact q
      · have := (a2 L q).1; omega
    subst e
    rcases a4 with ⟨i, c1, c2, c3, c4, c5⟩ | ⟨c1, c2, c3⟩ <;> rcases b4 with ⟨j, d1, d2, d3, d4, d5⟩ | ⟨d1, d2, d3⟩
    · have e : i = j := by
        rcases Nat.lt_trichotomy i j with q | q | q
        · exact absurd (d2 i q) c3
        · exact q
        · exact absurd (c2 j q) d3
      subst e
      exact ⟨by omega, by rw [c5, d5]⟩
    · exact absurd (d1 i c1) c3
    · exact absurd (c1 j d1) d3
    · exact ⟨by omega, by rw [c3, d3]⟩
theorem fp_2_b {t : Nat → Int} {n q : Int} (h0 : 0 ≤ am_dt t n q) (h1 : 0 ≤ am_dt t n (q + 1)) : 0 ≤ fp_2 t n q ∧ fp_2 t n q ≤ 99 := by
  have a := am_dt_b t n q
  have b := am_dt_b t n (q + 1)
  unfold fp_2; omega
theorem am_ld_114 {c : Int} (h : c = 114) : am_ld c = 8 := by subst h; rfl
theorem am_ld_109 {c : Int} (h : c = 109) : am_ld c = 2 := by subst h; rfl
theorem am_ld_115 {c : Int} (h : c = 115) : am_ld c = 3 := by subst h; rfl
theorem fp_cf_w {t : Nat → Int} {n p : Int} {F : am_N} (h : am_nx t n p = 119) : fp_cf t n F p = fp_ct (am_up F 0 0 (fp_w t n p)) := by
  unfold fp_cf fp_cr; rw [if_pos h]
theorem fp_cf_r {t : Nat → Int} {n p : Int} {F : am_N} (h : am_nx t n p = 114) : fp_cf t n F p = fp_ct (am_up (am_up (am_up (am_up (am_up (am_up (am_up F 1 (F 0 4).toNat (am_dt t n (p + 1))) 2 (F 0 4).toNat (am_dt t n (p + 2))) 3 (F 0 4).toNat (fp_2 t n (p + 3))) 4 (F 0 4).toNat (fp_2 t n (p + 5))) 5 (F 0 4).toNat (fp_2 t n (p + 7))) 6 (F 0 4).toNat 0) 0 4 (F 0 4 + 1)) := by
  unfold fp_cf fp_cr; rw [if_neg (by omega), if_pos h]
theorem fp_cf_m {t : Nat → Int} {n p : Int} {F : am_N} (h : am_nx t n p = 109) : fp_cf t n F p = fp_ct (am_up (am_up F 0 2 (am_dt t n (p + 1))) 0 3 (am_dt t n (p + 2))) := by
  unfold fp_cf fp_cr; rw [if_neg (by omega), if_neg (by omega), if_pos h]
theorem fp_cf_s {t : Nat → Int} {n p : Int} {F : am_N} (h : am_nx t n p = 115) : fp_cf t n F p = fp_ct (am_up F 5 (am_dt t n (p + 1)).toNat (fp_2 t n (p + 2))) := by
  unfold fp_cf fp_cr; rw [if_neg (by omega), if_neg (by omega), if_neg (by omega), if_pos h]
theorem fp_ct_ct (F : am_N) : fp_ct (fp_ct F) = fp_ct F := by
  funext a b
  unfold fp_ct
  cases fp_in a b <;> rfl
theorem fp_cf_g {t : Nat → Int} {n p : Int} {F : am_N} (h1 : am_nx t n p ≠ 119) (h2 : am_nx t n p ≠ 114) (h3 : am_nx t n p ≠ 109) (h4 : am_nx t n p ≠ 115) : fp_cf t n F p = fp_rn F := by
  unfold fp_cf fp_cr; rw [if_neg h1, if_neg h2, if_neg h3, if_neg h4]
  unfold fp_rn
  exact fp_ct_ct _
theorem fp_ok_w {t : Nat → Int} {n p : Int} {F : am_N} (h : am_nx t n p = 119) : fp_ok t n F p ↔ (20 ≤ fp_w t n p ∧ fp_w t n p ≤ 200) := by
  unfold fp_ok; rw [if_pos h]
theorem fp_ok_r {t : Nat → Int} {n p : Int} {F : am_N} (h : am_nx t n p = 114) : fp_ok t n F p ↔ (F 0 4 < 4 ∧ am_dt t n (p + 1) ≤ 5 ∧ 5 ≤ fp_2 t n (p + 3) ∧ fp_2 t n (p + 3) ≤ 40 ∧ fp_2 t n (p + 5) ≤ 20) := by
  unfold fp_ok; rw [if_neg (by omega), if_pos h]
theorem fp_ok_m {t : Nat → Int} {n p : Int} {F : am_N} (h : am_nx t n p = 109) : fp_ok t n F p ↔ (am_dt t n (p + 1) ≤ 4 ∧ 1 ≤ am_dt t n (p + 2)) := by
  unfold fp_ok; rw [if_neg (by omega), if_neg (by omega), if_pos h]
theorem fp_ok_s {t : Nat → Int} {n p : Int} {F : am_N} (h : am_nx t n p = 115) : fp_ok t n F p ↔ am_dt t n (p + 1) < F 0 4 := by
  unfold fp_ok; rw [if_neg (by omega), if_neg (by omega), if_neg (by omega), if_pos h]
theorem fp_ok_g {t : Nat → Int} {n p : Int} {F : am_N} (h1 : am_nx t n p ≠ 119) (h2 : am_nx t n p ≠ 114) (h3 : am_nx t n p ≠ 109) (h4 : am_nx t n p ≠ 115) : fp_ok t n F p ↔ (0 < F 0 4 ∧ F 0 1 < 999) := by
  unfold fp_ok; rw [if_neg h1, if_neg h2, if_neg h3, if_neg h4]
theorem fw_ct {W : Int} {F : am_N} (h : fp_fw W F) : fp_fw W (fp_ct F) := by
  obtain ⟨h0, h1, h2, h3, h4, h5, h6⟩ := h
  have e : ∀ b : Nat, b < 5 → fp_ct F 0 b = F 0 b := fun b hb => fp_ct_i (fp_in_0 hb)
  have ea : ∀ a b : Nat, 0 < a → a < 7 → b < 4 → fp_ct F a b = F a b := fun a b p q r => fp_ct_i (fp_in_a p q r)
  unfold fp_fw
  rw [e 0 (by decide), e 1 (by decide), e 2 (by decide), e 3 (by decide), e 4 (by decide)]
  refine ⟨h0, h1, h2, h3, h4, fun i hi => ?_, fun i hi => ?_⟩
  · rw [ea 5 i (by decide) (by decide) hi]; exact h5 i hi
  · have i4 : i < 4 := by omega
    rw [ea 1 i (by decide) (by decide) i4, ea 2 i (by decide) (by decide) i4, ea 3 i (by decide) (by decide) i4, ea 4 i (by decide) (by decide) i4]
    exact h6 i hi
/-- a row's number behind the last, or one of no bounds -/
theorem fw_arr {W : Int} {F : am_N} {a j : Nat} {v : Int} (h : fp_fw W F) (ha : 0 < a) (hv : a = 5 → 0 ≤ v ∧ v ≤ 99) (hj : F 0 4 ≤ (j : Int) ∨ 5 ≤ a) : fp_fw W (am_up F a j v) := by
  obtain ⟨h0, h1, h2, h3, h4, h5, h6⟩ := h
  have e : ∀ b : Nat, am_up F a j v 0 b = F 0 b := fun b => am_upN (by omega)
  unfold fp_fw
  rw [e 0, e 1, e 2, e 3, e 4]
  refine ⟨h0, h1, h2, h3, h4, fun i hi => ?_, fun i hi => ?_⟩
  · by_cases z : 5 = a ∧ i = j
    · rw [am_upS, if_pos z]; exact hv z.1.symm
    · rw [am_uE z]; exact h5 i hi
  · have g : ∀ c : Nat, c < 5 → am_up F a j v c i = F c i := fun c hc => am_uE (fun z => by omega)
    rw [g 1 (by decide), g 2 (by decide), g 3 (by decide), g 4 (by decide)]
    exact h6 i hi
theorem fw_n1 {W : Int} {F : am_N} {v : Int} (h : fp_fw W F) (hn : F 0 4 < 4) (hv : v = F 0 4 + 1) (hk : (0 ≤ F 1 (F 0 4).toNat ∧ F 1 (F 0 4).toNat ≤ 5) ∧ (0 ≤ F 2 (F 0 4).toNat ∧ F 2 (F 0 4).toNat ≤ 9) ∧ (5 ≤ F 3 (F 0 4).toNat ∧ F 3 (F 0 4).toNat ≤ 40) ∧ (0 ≤ F 4 (F 0 4).toNat ∧ F 4 (F 0 4).toNat ≤ 20)) : fp_fw W (am_up F 0 4 v) := by
  subst hv
  obtain ⟨h0, h1, h2, h3, h4, h5, h6⟩ := h
  have e : ∀ b : Nat, b ≠ 4 → am_up F 0 4 (F 0 4 + 1) 0 b = F 0 b := fun b hb => am_upM hb
  have e4 : am_up F 0 4 (F 0 4 + 1) 0 4 = F 0 4 + 1 := if_pos ⟨rfl, rfl⟩
  have ea : ∀ a b : Nat, 0 < a → am_up F 0 4 (F 0 4 + 1) a b = F a b := fun a b ha => am_upN (by omega)
  unfold fp_fw
  rw [e 0 (by decide), e 1 (by decide), e 2 (by decide), e 3 (by decide), e4]
  refine ⟨h0, h1, h2, h3, by omega, fun i hi => ?_, fun i hi => ?_⟩
  · rw [ea 5 i (by decide)]; exact h5 i hi
  · rw [ea 1 i (by decide), ea 2 i (by decide), ea 3 i (by decide), ea 4 i (by decide)]
    by_cases d : (i : Int) < F 0 4
    · exact h6 i d
    · rw [show i = (F 0 4).toNat by omega]; exact hk
theorem fw_way {W : Int} {F : am_N} {v : Int} (h : fp_fw W F) (hv : 20 ≤ v ∧ v ≤ 200) : fp_fw W (am_up F 0 0 v) := by
  obtain ⟨h0, h1, h2, h3, h4, h5, h6⟩ := h
  have e : ∀ b : Nat, b ≠ 0 → am_up F 0 0 v 0 b = F 0 b := fun b hb => am_upM hb
  have e4 : am_up F 0 0 v 0 0 = v := if_pos ⟨rfl, rfl⟩
  have ea : ∀ a b : Nat, 0 < a → am_up F 0 0 v a b = F a b := fun a b ha => am_upN (by omega)
  unfold fp_fw
  rw [e4, e 1 (by decide), e 2 (by decide), e 3 (by decide), e 4 (by decide)]
  refine ⟨hv, h1, h2, h3, h4, fun i hi => ?_, fun i hi => ?_⟩
  · rw [ea 5 i (by decide)]; exact h5 i hi
  · rw [ea 1 i (by decide), ea 2 i (by decide), ea 3 i (by decide), ea 4 i (by decide)]; exact h6 i hi
theorem fw_rule {W : Int} {F : am_N} {v w : Int} (h : fp_fw W F) (hv : 0 ≤ v ∧ v ≤ 4) (hw : 1 ≤ w ∧ w ≤ 9) : fp_fw W (am_up (am_up F 0 2 v) 0 3 w) := by
  obtain ⟨h0, h1, h2, h3, h4, h5, h6⟩ := h
  have e : ∀ b : Nat, b ≠ 2 → b ≠ 3 → am_up (am_up F 0 2 v) 0 3 w 0 b = F 0 b := fun b hb hc => (am_upM hc).trans (am_upM hb)
  have e2 : am_up (am_up F 0 2 v) 0 3 w 0 2 = v := (am_upM (by decide)).trans (if_pos ⟨rfl, rfl⟩)
  have e3 : am_up (am_up F 0 2 v) 0 3 w 0 3 = w := if_pos ⟨rfl, rfl⟩
  have ea : ∀ a b : Nat, 0 < a → am_up (am_up F 0 2 v) 0 3 w a b = F a b := fun a b ha => (am_upN (by omega)).trans (am_upN (by omega))
  unfold fp_fw
  rw [e 0 (by decide) (by decide), e 1 (by decide) (by decide), e2, e3, e 4 (by decide) (by decide)]
  refine ⟨h0, h1, hv, hw, h4, fun i hi => ?_, fun i hi => ?_⟩
  · rw [ea 5 i (by decide)]; exact h5 i hi
  · rw [ea 1 i (by decide), ea 2 i (by decide), ea 3 i (by decide), ea 4 i (by decide)]; exact h6 i hi
/-- what comes is as it must be -/
theorem fw_cf {t : Nat → Int} {n p : Int} {F : am_N} (hf : fp_fw 999 F) (h : fp_ok t n F p) (h0 : 0 ≤ p) (hb : 0 ≤ am_bh t n p) : fp_fw 999 (fp_cf t n F p) := by
  have dg := am_bh_d hb h0
  by_cases c1 : am_nx t n p = 119
  · rw [fp_ok_w c1] at h
    rw [fp_cf_w c1]
    exact fw_ct (fw_way hf h)
  · have dg := dg c1
    by_cases c2 : am_nx t n p = 114
    · rw [fp_ok_r c2] at h
      rw [am_ld_114 c2] at dg
      have d1 : 0 ≤ am_dt t n (p + 1) := (Int.add_zero (p + 1)) ▸ dg 0 (by decide)
      have d2 : 0 ≤ am_dt t n (p + 1 + 1) := dg 1 (by decide)
      have d5 : 0 ≤ am_dt t n (p + 1 + 4) := dg 4 (by decide)
      have d6 : 0 ≤ am_dt t n (p + 1 + 5) := dg 5 (by decide)
      have d7 : 0 ≤ am_dt t n (p + 1 + 6) := dg 6 (by decide)
      have d8 : 0 ≤ am_dt t n (p + 1 + 7) := dg 7 (by decide)
      rw [show p + 1 + 1 = p + 2 by omega] at d2
      have b5 := fp_2_b (q := p + 5) (by rw [show p + 5 = p + 1 + 4 by omega]; exact d5) (by rw [show p + 5 + 1 = p + 1 + 5 by omega]; exact d6)
      have b7 := fp_2_b (q := p + 7) (by rw [show p + 7 = p + 1 + 6 by omega]; exact d7) (by rw [show p + 7 + 1 = p + 1 + 7 by omega]; exact d8)
      have e2 := am_dt_b t n (p + 2)
      have f4 := hf.2.2.2.2.1
      have hj : F 0 4 ≤ (((F 0 4).toNat : Nat) : Int) := by omega
      rw [fp_cf_r c2]
      have g1 : fp_fw 999 (am_up F 1 (F 0 4).toNat (am_dt t n (p + 1))) := fw_arr hf (by decide) (fun z => absurd z (by decide)) (Or.inl hj)
      have g2 : fp_fw 999 (am_up (am_up F 1 (F 0 4).toNat (am_dt t n (p + 1))) 2 (F 0 4).toNat (am_dt t n (p + 2))) := fw_arr g1 (by decide) (fun z => absurd z (by decide)) (Or.inl (by rw [am_upN (by decide)]; exact hj))
      have g3 : fp_fw 999 (am_up (am_up (am_up F 1 (F 0 4).toNat (am_dt t n (p + 1))) 2 (F 0 4).toNat (am_dt t n (p + 2))) 3 (F 0 4).toNat (fp_2 t n (p + 3))) := fw_arr g2 (by decide) (fun z => absurd z (by decide)) (Or.inl (by rw [am_upN (by decide), am_upN (by decide)]; exact hj))
      have g4 : fp_fw 999 (am_up (am_up (am_up (am_up F 1 (F 0 4).toNat (am_dt t n (p + 1))) 2 (F 0 4).toNat (am_dt t n (p + 2))) 3 (F 0 4).toNat (fp_2 t n (p + 3))) 4 (F 0 4).toNat (fp_2 t n (p + 5))) := fw_arr g3 (by decide) (fun z => absurd z (by decide)) (Or.inl (by rw [am_upN (by decide), am_upN (by decide), am_upN (by decide)]; exact hj))
      have g5 := fw_arr (a := 5) (j := (F 0 4).toNat) (v := fp_2 t n (p + 7)) g4 (by decide) (fun _ => b7) (Or.inr (by decide))
      have g6 := fw_arr (a := 6) (j := (F 0 4).toNat) (v := 0) g5 (by decide) (fun z => absurd z (by decide)) (Or.inr (by decide))
      have n6 : am_up (am_up (am_up (am_up (am_up (am_up F 1 (F 0 4).toNat (am_dt t n (p + 1))) 2 (F 0 4).toNat (am_dt t n (p + 2))) 3 (F 0 4).toNat (fp_2 t n (p + 3))) 4 (F 0 4).toNat (fp_2 t n (p + 5))) 5 (F 0 4).toNat (fp_2 t n (p + 7))) 6 (F 0 4).toNat 0 0 4 = F 0 4 := by
        rw [am_upN (by decide), am_upN (by decide), am_upN (by decide), am_upN (by decide), am_upN (by decide), am_upN (by decide)]
      refine fw_ct (fw_n1 g6 (by rw [n6]; exact h.1) (by rw [n6]) ?_)
      rw [n6]
      refine ⟨?_, ?_, ?_, ?_⟩
      · rw [am_upN (by decide), am_upN (by decide), am_upN (by decide), am_upN (by decide), am_upN (by decide), am_upS, if_pos ⟨rfl, rfl⟩]; exact ⟨d1, h.2.1⟩
      · rw [am_upN (by decide), am_upN (by decide), am_upN (by decide), am_upN (by decide), am_upS, if_pos ⟨rfl, rfl⟩]; exact ⟨d2, e2.2⟩
      · rw [am_upN (by decide), am_upN (by decide), am_upN (by decide), am_upS, if_pos ⟨rfl, rfl⟩]; exact ⟨h.2.2.1, h.2.2.2.1⟩
      · rw [am_upN (by decide), am_upN (by decide), am_upS, if_pos ⟨rfl, rfl⟩]; exact ⟨b5.1, h.2.2.2.2⟩
    · by_cases c3 : am_nx t n p = 109
      · rw [fp_ok_m c3] at h
        rw [am_ld_109 c3] at dg
        have d1 : 0 ≤ am_dt t n (p + 1) := (Int.add_zero (p + 1)) ▸ dg 0 (by decide)
        have e2 := am_dt_b t n (p + 2)
        rw [fp_cf_m c3]
        exact fw_ct (fw_rule hf ⟨d1, h.1⟩ ⟨h.2, e2.2⟩)
      · by_cases c4 : am_nx t n p = 115
        · rw [fp_ok_s c4] at h
          rw [am_ld_115 c4] at dg
          have d2 : 0 ≤ am_dt t n (p + 1 + 1) := dg 1 (by decide)
          have d3 : 0 ≤ am_dt t n (p + 1 + 2) := dg 2 (by decide)
          have b2 := fp_2_b (q := p + 2) (by rw [show p + 2 = p + 1 + 1 by omega]; exact d2) (by rw [show p + 2 + 1 = p + 1 + 2 by omega]; exact d3)
          rw [fp_cf_s c4]
          exact fw_ct (fw_arr hf (by decide) (fun _ => b2) (Or.inr (by decide)))
        · rw [fp_ok_g c1 c2 c3 c4] at h
          rw [fp_cf_g c1 c2 c3 c4]
          exact fw_rn (W := F 0 1) (V := 999) ⟨hf.1, ⟨hf.2.1.1, Int.le_refl _⟩, hf.2.2⟩ (by omega)
theorem fw_fk {t : Nat → Int} {n : Int} {F : am_N} (h0 : 0 ≤ n) (hf : fp_fw 999 F) : ∀ K : Nat, fp_pr t n K → fp_okp t n F K → fp_fw 999 (fp_fk t n F K)
  | 0, _, _ => hf
  | K + 1, h, g => by
    have b := fp_pk_b h0 K (fun j hj => h j (by omega))
    exact fw_cf (fw_fk h0 hf K (fun j hj => h j (by omega)) (fun j hj => g j (by omega))) (g K (by omega)) (by omega) (h K (by omega)).2
