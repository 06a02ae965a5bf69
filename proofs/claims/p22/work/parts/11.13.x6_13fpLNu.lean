theorem am_nx_b {t : Nat → Int} {n : Int} (h : ∀ i : Nat, (i : Int) < n → 0 ≤ t i ∧ t i ≤ 255) (q : Int) : -1 ≤ am_nx t n q ∧ am_nx t n q ≤ 255 := by
  unfold am_nx
  split
  · next e => have := h q.toNat (by omega); omega
  · omega
theorem am_ld_b (c : Int) : -1 ≤ am_ld c ∧ am_ld c ≤ 8 := by
  unfold am_ld
  repeat' split
  all_goals omega
theorem am_ls_b (c : Int) : -1 ≤ am_ls c ∧ am_ls c ≤ 8 := by
  unfold am_ls
  have := am_ld_b c
  split <;> omega
/-- one digit on -/
theorem am_dn_s {t : Nat → Int} {n q : Int} {M j : Int} (h0 : j < M) (h1 : 0 ≤ am_dt t n q) : am_dn t n (M - j).toNat q = am_dn t n (M - (j + 1)).toNat (q + 1) := by
  rw [show (M - j).toNat = (M - (j + 1)).toNat + 1 by omega]
  exact am_dn_p _ h1
theorem am_dn_z {t : Nat → Int} {n q : Int} {M j : Int} (h : M ≤ j ∨ am_dt t n q < 0) : am_dn t n (M - j).toNat q = q := by
  by_cases e : M ≤ j
  · rw [show (M - j).toNat = 0 by omega]; rfl
  · rw [show (M - j).toNat = (M - (j + 1)).toNat + 1 by omega]
    exact am_dn_q _ (by omega)
theorem am_dv_s {t : Nat → Int} {n q v : Int} {M j : Int} (h0 : j < M) (h1 : 0 ≤ am_dt t n q) : am_dv t n (M - j).toNat q v = am_dv t n (M - (j + 1)).toNat (q + 1) (10 * v + am_dt t n q) := by
  rw [show (M - j).toNat = (M - (j + 1)).toNat + 1 by omega]
  exact if_pos h1
theorem am_dv_z {t : Nat → Int} {n q v : Int} {M j : Int} (h : M ≤ j ∨ am_dt t n q < 0) : am_dv t n (M - j).toNat q v = v := by
  by_cases e : M ≤ j
  · rw [show (M - j).toNat = 0 by omega]; rfl
  · rw [show (M - j).toNat = (M - (j + 1)).toNat + 1 by omega]
    exact if_neg (by omega)
theorem am_dt_i {t : Nat → Int} {n q : Int} (h0 : 48 ≤ am_nx t n q) (h1 : am_nx t n q ≤ 57) : am_dt t n q = am_nx t n q - 48 := if_pos ⟨h0, h1⟩
theorem am_dt_o {t : Nat → Int} {n q : Int} (h : am_nx t n q < 48 ∨ 57 < am_nx t n q) : am_dt t n q = -1 := if_neg (by omega)
theorem am_dn_o {t : Nat → Int} {n q : Int} {m : Nat} (k : Nat) (h : am_dn t n m q = q + m) : am_dn t n (m + k) q = am_dn t n k (q + m) := by
  rw [am_dn_add, if_pos h]
theorem am_dn_x {t : Nat → Int} {n q : Int} {m : Nat} (k : Nat) (h : am_dn t n m q ≠ q + m) : am_dn t n (m + k) q = am_dn t n m q := by
  rw [am_dn_add, if_neg h]
theorem am_dn8 {t : Nat → Int} {n a : Int} (e1 : am_dn t n 1 a = a + 1) (e2 : am_dn t n 1 (a + 1) = a + 1 + 1) (e3 : am_dn t n 2 (a + 2) = a + 2 + 2) (e4 : am_dn t n 2 (a + 4) = a + 4 + 2) (e5 : am_dn t n 2 (a + 6) = a + 6 + 2) : am_dn t n 8 a = a + 8 := by
  have h1 : am_dn t n 8 a = am_dn t n 7 (a + 1) := am_dn_o (m := 1) 7 e1
  have h2 : am_dn t n 7 (a + 1) = am_dn t n 6 (a + 1 + 1) := am_dn_o (m := 1) 6 e2
  have h3 : am_dn t n 6 (a + 2) = am_dn t n 4 (a + 2 + 2) := am_dn_o (m := 2) 4 e3
  have h4 : am_dn t n 4 (a + 4) = am_dn t n 2 (a + 4 + 2) := am_dn_o (m := 2) 2 e4
  rw [h1, h2, show a + 1 + 1 = a + 2 by omega, h3, show a + 2 + 2 = a + 4 by omega, h4, show a + 4 + 2 = a + 6 by omega, e5]
  omega
theorem am_dn8_1 {t : Nat → Int} {n a : Int} (e1 : am_dn t n 1 a ≠ a + 1) : am_dn t n 8 a = am_dn t n 1 a := am_dn_x (m := 1) 7 e1
theorem am_dn8_2 {t : Nat → Int} {n a : Int} (e1 : am_dn t n 1 a = a + 1) (e2 : am_dn t n 1 (a + 1) ≠ a + 1 + 1) : am_dn t n 8 a = am_dn t n 1 (a + 1) := by
  have h1 : am_dn t n 8 a = am_dn t n 7 (a + 1) := am_dn_o (m := 1) 7 e1
  have h2 : am_dn t n 7 (a + 1) = am_dn t n 1 (a + 1) := am_dn_x (m := 1) 6 e2
  rw [h1, h2]
theorem am_dn8_3 {t : Nat → Int} {n a : Int} (e1 : am_dn t n 1 a = a + 1) (e2 : am_dn t n 1 (a + 1) = a + 1 + 1) (e3 : am_dn t n 2 (a + 2) ≠ a + 2 + 2) : am_dn t n 8 a = am_dn t n 2 (a + 2) := by
  have h1 : am_dn t n 8 a = am_dn t n 7 (a + 1) := am_dn_o (m := 1) 7 e1
  have h2 : am_dn t n 7 (a + 1) = am_dn t n 6 (a + 1 + 1) := am_dn_o (m := 1) 6 e2
  have h3 : am_dn t n 6 (a + 2) = am_dn t n 2 (a + 2) := am_dn_x (m := 2) 4 e3
  rw [h1, h2, show a + 1 + 1 = a + 2 by omega, h3]
theorem am_dn8_4 {t : Nat → Int} {n a : Int} (e1 : am_dn t n 1 a = a + 1) (e2 : am_dn t n 1 (a + 1) = a + 1 + 1) (e3 : am_dn t n 2 (a + 2) = a + 2 + 2) (e4 : am_dn t n 2 (a + 4) ≠ a + 4 + 2) : am_dn t n 8 a = am_dn t n 2 (a + 4) := by
  have h1 : am_dn t n 8 a = am_dn t n 7 (a + 1) := am_dn_o (m := 1) 7 e1
  have h2 : am_dn t n 7 (a + 1) = am_dn t n 6 (a + 1 + 1) := am_dn_o (m := 1) 6 e2
  have h3 : am_dn t n 6 (a + 2) = am_dn t n 4 (a + 2 + 2) := am_dn_o (m := 2) 4 e3
  have h4 : am_dn t n 4 (a + 4) = am_dn t n 2 (a + 4) := am_dn_x (m := 2) 2 e4
  rw [h1, h2, show a + 1 + 1 = a + 2 by omega, h3, show a + 2 + 2 = a + 4 by omega, h4]
theorem am_dn8_5 {t : Nat → Int} {n a : Int} (e1 : am_dn t n 1 a = a + 1) (e2 : am_dn t n 1 (a + 1) = a + 1 + 1) (e3 : am_dn t n 2 (a + 2) = a + 2 + 2) (e4 : am_dn t n 2 (a + 4) = a + 4 + 2) : am_dn t n 8 a = am_dn t n 2 (a + 6) := by
  have h1 : am_dn t n 8 a = am_dn t n 7 (a + 1) := am_dn_o (m := 1) 7 e1
  have h2 : am_dn t n 7 (a + 1) = am_dn t n 6 (a + 1 + 1) := am_dn_o (m := 1) 6 e2
  have h3 : am_dn t n 6 (a + 2) = am_dn t n 4 (a + 2 + 2) := am_dn_o (m := 2) 4 e3
  have h4 : am_dn t n 4 (a + 4) = am_dn t n 2 (a + 4 + 2) := am_dn_o (m := 2) 2 e4
  rw [h1, h2, show a + 1 + 1 = a + 2 by omega, h3, show a + 2 + 2 = a + 4 by omega, h4, show a + 4 + 2 = a + 6 by omega]
/-! the places of STATEMENTS, what each brings -/
theorem am_bh_1 {t : Nat → Int} {n p : Int} (h : am_ld (am_nx t n p) < 0) : am_bh t n p = -1 - p := if_pos h
theorem am_bh_2 {t : Nat → Int} {n p M L q : Int} (eM : M = am_ld (am_nx t n p)) (eL : L = am_ls (am_nx t n p)) (h0 : 0 ≤ M) (eq : q = am_dn t n M.toNat (p + 1)) (h : q - p - 1 < L ∨ am_nx t n q ≠ 59) : am_bh t n p = -1 - q := by
  subst eM; subst eL; subst eq
  unfold am_bh
  rw [if_neg (by omega), if_pos h]
theorem am_bh_3 {t : Nat → Int} {n p M L q : Int} (eM : M = am_ld (am_nx t n p)) (eL : L = am_ls (am_nx t n p)) (h0 : 0 ≤ M) (eq : q = am_dn t n M.toNat (p + 1)) (h : ¬(q - p - 1 < L ∨ am_nx t n q ≠ 59)) : am_bh t n p = q + 1 := by
  subst eM; subst eL; subst eq
  unfold am_bh
  rw [if_neg (by omega), if_neg h]
/-- digits that must be there are -/
theorem am_bh_d {t : Nat → Int} {n p : Int} (h : 0 ≤ am_bh t n p) (h0 : 0 ≤ p) (hc : am_nx t n p ≠ 119) : ∀ i : Nat, (i : Int) < am_ld (am_nx t n p) → 0 ≤ am_dt t n (p + 1 + i) := by
  intro i hi
  have hl : am_ls (am_nx t n p) = am_ld (am_nx t n p) := if_neg hc
  have b := am_dn_b t n (am_ld (am_nx t n p)).toNat (p + 1)
  have e : am_dn t n (am_ld (am_nx t n p)).toNat (p + 1) = p + 1 + ((am_ld (am_nx t n p)).toNat : Nat) := by
    unfold am_bh at h
    rw [if_neg (by omega)] at h
    by_cases q : am_dn t n (am_ld (am_nx t n p)).toNat (p + 1) - p - 1 < am_ls (am_nx t n p) ∨ am_nx t n (am_dn t n (am_ld (am_nx t n p)).toNat (p + 1)) ≠ 59
    · rw [if_pos q] at h; omega
    · omega
  exact am_dn_d t n _ _ e i (by omega)
def fp_pk (t : Nat → Int) (n : Int) : Nat → Int
  | 0 => 0
  | k + 1 => am_bh t n (fp_pk t n k)
/-- K STATEMENTS stand well -/
def fp_pr (t : Nat → Int) (n : Int) (K : Nat) : Prop := ∀ j : Nat, j < K → fp_pk t n j < n ∧ 0 ≤ am_bh t n (fp_pk t n j)
theorem fp_pr_0 {t : Nat → Int} {n : Int} : fp_pr t n 0 := fun j h => absurd h (Nat.not_lt_zero j)
theorem fp_pr_s {t : Nat → Int} {n : Int} {K : Nat} (h : fp_pr t n K) (h1 : fp_pk t n K < n) (h2 : 0 ≤ am_bh t n (fp_pk t n K)) : fp_pr t n (K + 1) := fun j hj => by
  by_cases e : j = K
  · subst e; exact ⟨h1, h2⟩
  · exact h j (by omega)
theorem fp_pk_b {t : Nat → Int} {n : Int} (h0 : 0 ≤ n) : ∀ K : Nat, fp_pr t n K → 2 * (K : Int) ≤ fp_pk t n K ∧ fp_pk t n K ≤ n
  | 0, _ => ⟨by simp [fp_pk], by simp [fp_pk]; exact h0⟩
  | K + 1, h => by
    have q := fp_pk_b h0 K (fun j hj => h j (by omega))
    obtain ⟨q1, q2⟩ := h K (by omega)
    have b := (am_bh_b t n (fp_pk t n K) (by omega) (by omega)).1 q2
    show 2 * ((K + 1 : Nat) : Int) ≤ am_bh t n (fp_pk t n K) ∧ am_bh t n (fp_pk t n K) ≤ n
    omega
def fp_w (t : Nat → Int) (n p : Int) : Int := am_dv t n 3 (p + 1) 0
def fp_2 (t : Nat → Int) (n q : Int) : Int := 10 * am_dt t n q + am_dt t n (q + 1)
/-- the STATEMENT at p is as it must be on the field F -/
def fp_ok (t : Nat → Int) (n : Int) (F : am_N) (p : Int) : Prop :=
  if am_nx t n p = 119 then 20 ≤ fp_w t n p ∧ fp_w t n p ≤ 200
  else if am_nx t n p = 114 then F 0 4 < 4 ∧ am_dt t n (p + 1) ≤ 5 ∧ 5 ≤ fp_2 t n (p + 3) ∧ fp_2 t n (p + 3) ≤ 40 ∧ fp_2 t n (p + 5) ≤ 20
  else if am_nx t n p = 109 then am_dt t n (p + 1) ≤ 4 ∧ 1 ≤ am_dt t n (p + 2)
  else if am_nx t n p = 115 then am_dt t n (p + 1) < F 0 4
  else 0 < F 0 4 ∧ F 0 1 < 999
def fp_cr (t : Nat → Int) (n : Int) (F : am_N) (p : Int) : am_N :=
  if am_nx t n p = 119 then am_up F 0 0 (fp_w t n p)
  else if am_nx t n p = 114 then am_up (am_up (am_up (am_up (am_up (am_up (am_up F 1 (F 0 4).toNat (am_dt t n (p + 1))) 2 (F 0 4).toNat (am_dt t n (p + 2))) 3 (F 0 4).toNat (fp_2 t n (p + 3))) 4 (F 0 4).toNat (fp_2 t n (p + 5))) 5 (F 0 4).toNat (fp_2 t n (p + 7))) 6 (F 0 4).toNat 0) 0 4 (F 0 4 + 1)
  else if am_nx t n p = 109 then am_up (am_up F 0 2 (am_dt t n (p + 1))) 0 3 (am_dt t n (p + 2))
  else if am_nx t n p = 115 then am_up F 5 (am_dt t n (p + 1)).toNat (fp_2 t n (p + 2))
  else fp_rn F
/-- what comes of it -/
def fp_cf (t : Nat → Int) (n : Int) (F : am_N) (p : Int) : am_N := fp_ct (fp_cr t n F p)
def fp_fk (t : Nat → Int) (n : Int) (F : am_N) : Nat → am_N
  | 0 => F
  | k + 1 => fp_cf t n (fp_fk t n F k) (fp_pk t n k)
def fp_okp (t : Nat → Int) (n : Int) (F : am_N) (K : Nat) : Prop := ∀ j : Nat, j < K → fp_ok t n (fp_fk t n F j) (fp_pk t n j)
theorem fp_okp_0 {t : Nat → Int} {n : Int} {F : am_N} : fp_okp t n F 0 := fun j h => absurd h (Nat.not_lt_zero j)
theorem fp_okp_s {t : Nat → Int} {n : Int} {F : am_N} {K : Nat} (h : fp_okp t n F K) (h1 : fp_ok t n (fp_fk t n F K) (fp_pk t n K)) : fp_okp t n F (K + 1) := fun j hj => by
  by_cases e : j = K
  · subst e; exact h1
  · exact h j (by omega)
/-- what a LANE answers, and the field then -/
def fp_LN (t : Nat → Int) (n : Int) (F : am_N) (r : Int) (G : am_N) : Prop :=
  (∃ K : Nat, fp_pr t n K ∧ (fp_pk t n K < n ∨ K = 0) ∧ am_bh t n (fp_pk t n K) < 0 ∧ r = -1000 - (-1 - am_bh t n (fp_pk t n K)) ∧ G = F) ∨
  ∃ K : Nat, 1 ≤ K ∧ fp_pr t n K ∧ n ≤ fp_pk t n K ∧ ((∃ j : Nat, j < K ∧ fp_okp t n F j ∧ ¬ fp_ok t n (fp_fk t n F j) (fp_pk t n j) ∧ r = -2000 - fp_pk t n j ∧ G = F) ∨ (fp_okp t n F K ∧ r = K ∧ G = fp_fk t n F K))
theorem fp_LN_u {t : Nat → Int} {n : Int} {F G G' : am_N} {r r' : Int} (h : fp_LN t n F r G) (h' : fp_LN t n F r' G') : r = r' ∧ G = G' := by
  rcases h with ⟨K, a1, a2, a3, a4, a5⟩ | ⟨K, a1, a2, a3, a4⟩ <;> rcases h' with ⟨L, b1, b2, b3, b4, b5⟩ | ⟨L, b1, b2, b3, b4⟩
  · have e : K = L := by
      rcases Nat.lt_trichotomy K L with q | q | q
      · have := (b1 K q).2; omega
      · exact q
      · have := (a1 L q).2; omega
    subst e
    exact ⟨by omega, by rw [a5, b5]⟩
  · exfalso
    rcases Nat.lt_trichotomy K L with q | q | q
    · have := (b2 K q).2; omega
    · subst q; omega
    · have := (a1 L q).1; omega
  · exfalso
    rcases Nat.lt_trichotomy K L with q | q | q
    · have := (b1 K q).1; omega
    · subst q; omega
    · have := (a2 L q).2; omega
  · have e : K = L := by
      rcases Nat.lt_trichotomy K L with q | q | q
      · have := (b2 K q).1; omega
      · exact q
      · have := (a2 L q).1; omega
    subst e
    rcases a4 with ⟨i, c1, c2, c3, c4, c5⟩ | ⟨c1, c2, c3⟩ <;> rcases b4 with ⟨j, d1, d2, d3, d4, d5⟩ | ⟨d1, d2, d3⟩
    · have e : i = j := by
        rcases Nat.lt_trichotomy i j with q | q | q
        · exact absurd (d2 i q) c3
        · exact q
        · exact absurd (c2 j q) d3
      subst e
      exact ⟨by omega, by rw [c5, d5]⟩
    · exact absurd (d1 i c1) c3
    · exact absurd (c1 j d1) d3
    · exact ⟨by omega, by rw [c3, d3]⟩
