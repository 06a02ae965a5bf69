theorem fp_2_b {t : Nat → Int} {n q : Int} (h0 : 0 ≤ am_dt t n q) (h1 : 0 ≤ am_dt t n (q + 1)) : 0 ≤ fp_2 t n q ∧ fp_2 t n q ≤ 99 := by
  have a := am_dt_b t n q
  have b := am_dt_b t n (q + 1)
  unfold fp_2; omega
theorem am_ld_114 {c : Int} (h : c = 114) : am_ld c = 8 := by subst h; rfl
theorem am_ld_109 {c : Int} (h : c = 109) : am_ld c = 2 := by subst h; rfl
theorem am_ld_115 {c : Int} (h : c = 115) : am_ld c = 3 := by subst h; rfl
theorem fp_cf_w {t : Nat → Int} {n p : Int} {F : am_N} (h : am_nx t n p = 119) : fp_cf t n F p = fp_ct (am_up F 0 0 (fp_w t n p)) := by
  unfold fp_cf fp_cr; rw [if_pos h]
theorem fp_cf_r {t : Nat → Int} {n p : Int} {F : am_N} (h : am_nx t n p = 114) : fp_cf t n F p = fp_ct (am_up (am_up (am_up (am_up (am_up (am_up (am_up F 1 (F 0 4).toNat (am_dt t n (p + 1))) 2 (F 0 4).toNat (am_dt t n (p + 2))) 3 (F 0 4).toNat (fp_2 t n (p + 3))) 4 (F 0 4).toNat (fp_2 t n (p + 5))) 5 (F 0 4).toNat (fp_2 t n (p + 7))) 6 (F 0 4).toNat 0) 0 4 (F 0 4 + 1)) := by
  unfold fp_cf fp_cr; rw [if_neg (by omega), if_pos h]
theorem fp_cf_m {t : Nat → Int} {n p : Int} {F : am_N} (h : am_nx t n p = 109) : fp_cf t n F p = fp_ct (am_up (am_up F 0 2 (am_dt t n (p + 1))) 0 3 (am_dt t n (p + 2))) := by
  unfold fp_cf fp_cr; rw [if_neg (by omega), if_neg (by omega), if_pos h]
theorem fp_cf_s {t : Nat → Int} {n p : Int} {F : am_N} (h : am_nx t n p = 115) : fp_cf t n F p = fp_ct (am_up F 5 (am_dt t n (p + 1)).toNat (fp_2 t n (p + 2))) := by
  unfold fp_cf fp_cr; rw [if_neg (by omega), if_neg (by omega), if_neg (by omega), if_pos h]
theorem fp_ct_ct (F : am_N) : fp_ct (fp_ct F) = fp_ct F := by
  funext a b
  unfold fp_ct
  cases fp_in a b <;> rfl
theorem fp_cf_g {t : Nat → Int} {n p : Int} {F : am_N} (h1 : am_nx t n p ≠ 119) (h2 : am_nx t n p ≠ 114) (h3 : am_nx t n p ≠ 109) (h4 : am_nx t n p ≠ 115) : fp_cf t n F p = fp_rn F := by
  unfold fp_cf fp_cr; rw [if_neg h1, if_neg h2, if_neg h3, if_neg h4]
  unfold fp_rn
  exact fp_ct_ct _
theorem fp_ok_w {t : Nat → Int} {n p : Int} {F : am_N} (h : am_nx t n p = 119) : fp_ok t n F p ↔ (20 ≤ fp_w t n p ∧ fp_w t n p ≤ 200) := by
  unfold fp_ok; rw [if_pos h]
theorem fp_ok_r {t : Nat → Int} {n p : Int} {F : am_N} (h : am_nx t n p = 114) : fp_ok t n F p ↔ (F 0 4 < 4 ∧ am_dt t n (p + 1) ≤ 5 ∧ 5 ≤ fp_2 t n (p + 3) ∧ fp_2 t n (p + 3) ≤ 40 ∧ fp_2 t n (p + 5) ≤ 20) := by
  unfold fp_ok; rw [if_neg (by omega), if_pos h]
theorem fp_ok_m {t : Nat → Int} {n p : Int} {F : am_N} (h : am_nx t n p = 109) : fp_ok t n F p ↔ (am_dt t n (p + 1) ≤ 4 ∧ 1 ≤ am_dt t n (p + 2)) := by
  unfold fp_ok; rw [if_neg (by omega), if_neg (by omega), if_pos h]
theorem fp_ok_s {t : Nat → Int} {n p : Int} {F : am_N} (h : am_nx t n p = 115) : fp_ok t n F p ↔ am_dt t n (p + 1) < F 0 4 := by
  unfold fp_ok; rw [if_neg (by omega), if_neg (by omega), if_neg (by omega), if_pos h]
theorem fp_ok_g {t : Nat → Int} {n p : Int} {F : am_N} (h1 : am_nx t n p ≠ 119) (h2 : am_nx t n p ≠ 114) (h3 : am_nx t n p ≠ 109) (h4 : am_nx t n p ≠ 115) : fp_ok t n F p ↔ (0 < F 0 4 ∧ F 0 1 < 999) := by
  unfold fp_ok; rw [if_neg h1, if_neg h2, if_neg h3, if_neg h4]
theorem fw_ct {W : Int} {F : am_N} (h : fp_fw W F) : fp_fw W (fp_ct F) := by
  obtain ⟨h0, h1, h2, h3, h4, h5, h6⟩ := h
  have e : ∀ b : Nat, b < 5 → fp_ct F 0 b = F 0 b := fun b hb => fp_ct_i (fp_in_0 hb)
  have ea : ∀ a b : Nat, 0 < a → a < 7 → b < 4 → fp_ct F a b = F a b := fun a b p q r => fp_ct_i (fp_in_a p q r)
  unfold fp_fw
  rw [e 0 (by decide), e 1 (by decide), e 2 (by decide), e 3 (by decide), e 4 (by decide)]
  refine ⟨h0, h1, h2, h3, h4, fun i hi => ?_, fun i hi => ?_⟩
  · rw [ea 5 i (by decide) (by decide) hi]; exact h5 i hi
  · have i4 : i < 4 := by omega
    rw [ea 1 i (by decide) (by decide) i4, ea 2 i (by decide) (by decide) i4, ea 3 i (by decide) (by decide) i4, ea 4 i (by decide) (by decide) i4]
    exact h6 i hi
/-- a row's number behind the last, or one of no bounds -/
theorem fw_arr {W : Int} {F : am_N} {a j : Nat} {v : Int} (h : fp_fw W F) (ha : 0 < a) (hv : a = 5 → 0 ≤ v ∧ v ≤ 99) (hj : F 0 4 ≤ (j : Int) ∨ 5 ≤ a) : fp_fw W (am_up F a j v) := by
  obtain ⟨h0, h1, h2, h3, h4, h5, h6⟩ := h
  have e : ∀ b : Nat, am_up F a j v 0 b = F 0 b := fun b => am_upN (by omega)
  unfold fp_fw
  rw [e 0, e 1, e 2, e 3, e 4]
  refine ⟨h0, h1, h2, h3, h4, fun i hi => ?_, fun i hi => ?_⟩
  · by_cases z : 5 = a ∧ i = j
    · rw [am_upS, if_pos z]; exact hv z.1.symm
    · rw [am_uE z]; exact h5 i hi
  · have g : ∀ c : Nat, c < 5 → am_up F a j v c i = F c i := fun c hc => am_uE (fun z => by omega)
    rw [g 1 (by decide), g 2 (by decide), g 3 (by decide), g 4 (by decide)]
    exact h6 i hi
theorem fw_n1 {W : Int} {F : am_N} {v : Int} (h : fp_fw W F) (hn : F 0 4 < 4) (hv : v = F 0 4 + 1) (hk : (0 ≤ F 1 (F 0 4).toNat ∧ F 1 (F 0 4).toNat ≤ 5) ∧ (0 ≤ F 2 (F 0 4).toNat ∧ F 2 (F 0 4).toNat ≤ 9) ∧ (5 ≤ F 3 (F 0 4).toNat ∧ F 3 (F 0 4).toNat ≤ 40) ∧ (0 ≤ F 4 (F 0 4).toNat ∧ F 4 (F 0 4).toNat ≤ 20)) : fp_fw W (am_up F 0 4 v) := by
  subst hv
  obtain ⟨h0, h1, h2, h3, h4, h5, h6⟩ := h
  have e : ∀ b : Nat, b ≠ 4 → am_up F 0 4 (F 0 4 + 1) 0 b = F 0 b := fun b hb => am_upM hb
  have e4 : am_up F 0 4 (F 0 4 + 1) 0 4 = F 0 4 + 1 := if_pos ⟨rfl, rfl⟩
  have ea : ∀ a b : Nat, 0 < a → am_up F 0 4 (F 0 4 + 1) a b = F a b := fun a b ha => am_upN (by omega)
  unfold fp_fw
  rw [e 0 (by decide), e 1 (by decide), e 2 (by decide), e 3 (by decide), e4]
  refine ⟨h0, h1, h2, h3, by omega, fun i hi => ?_, fun i hi => ?_⟩
  · rw [ea 5 i (by decide)]; exact h5 i hi
  · rw [ea 1 i (by decide), ea 2 i (by decide), ea 3 i (by decide), ea 4 i (by decide)]
    by_cases d : (i : Int) < F 0 4
    · exact h6 i d
    · rw [show i = (F 0 4).toNat by omega]; exact hk
