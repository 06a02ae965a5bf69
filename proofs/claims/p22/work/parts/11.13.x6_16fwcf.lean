/-- what comes is as it must be -/
theorem fw_cf {t : Nat → Int} {n p : Int} {F : am_N} (hf : fp_fw 999 F) (h : fp_ok t n F p) (h0 : 0 ≤ p) (hb : 0 ≤ am_bh t n p) : fp_fw 999 (fp_cf t n F p) := by
  have dg := am_bh_d hb h0
  by_cases c1 : am_nx t n p = 119
  · rw [fp_ok_w c1] at h
    rw [fp_cf_w c1]
    exact fw_ct (fw_way hf h)
  · have dg := dg c1
    by_cases c2 : am_nx t n p = 114
    · rw [fp_ok_r c2] at h
      rw [am_ld_114 c2] at dg
      have d1 : 0 ≤ am_dt t n (p + 1) := (Int.add_zero (p + 1)) ▸ dg 0 (by decide)
      have d2 : 0 ≤ am_dt t n (p + 1 + 1) := dg 1 (by decide)
      have d5 : 0 ≤ am_dt t n (p + 1 + 4) := dg 4 (by decide)
      have d6 : 0 ≤ am_dt t n (p + 1 + 5) := dg 5 (by decide)
      have d7 : 0 ≤ am_dt t n (p + 1 + 6) := dg 6 (by decide)
      have d8 : 0 ≤ am_dt t n (p + 1 + 7) := dg 7 (by decide)
      rw [show p + 1 + 1 = p + 2 by omega] at d2
      have b5 := fp_2_b (q := p + 5) (by rw [show p + 5 = p + 1 + 4 by omega]; exact d5) (by rw [show p + 5 + 1 = p + 1 + 5 by omega]; exact d6)
      have b7 := fp_2_b (q := p + 7) (by rw [show p + 7 = p + 1 + 6 by omega]; exact d7) (by rw [show p + 7 + 1 = p + 1 + 7 by omega]; exact d8)
      have e2 := am_dt_b t n (p + 2)
      have f4 := hf.2.2.2.2.1
      have hj : F 0 4 ≤ (((F 0 4).toNat : Nat) : Int) := by omega
      rw [fp_cf_r c2]
      have g1 : fp_fw 999 (am_up F 1 (F 0 4).toNat (am_dt t n (p + 1))) := fw_arr hf (by decide) (fun z => absurd z (by decide)) (Or.inl hj)
      have g2 : fp_fw 999 (am_up (am_up F 1 (F 0 4).toNat (am_dt t n (p + 1))) 2 (F 0 4).toNat (am_dt t n (p + 2))) := fw_arr g1 (by decide) (fun z => absurd z (by decide)) (Or.inl (by rw [am_upN (by decide)]; exact hj))
      have g3 : fp_fw 999 (am_up (am_up (am_up F 1 (F 0 4).toNat (am_dt t n (p + 1))) 2 (F 0 4).toNat (am_dt t n (p + 2))) 3 (F 0 4).toNat (fp_2 t n (p + 3))) := fw_arr g2 (by decide) (fun z => absurd z (by decide)) (Or.inl (by rw [am_upN (by decide), am_upN (by decide)]; exact hj))
      have g4 : fp_fw 999 (am_up (am_up (am_up (am_up F 1 (F 0 4).toNat (am_dt t n (p + 1))) 2 (F 0 4).toNat (am_dt t n (p + 2))) 3 (F 0 4).toNat (fp_2 t n (p + 3))) 4 (F 0 4).toNat (fp_2 t n (p + 5))) := fw_arr g3 (by decide) (fun z => absurd z (by decide)) (Or.inl (by rw [am_upN (by decide), am_upN (by decide), am_upN (by decide)]; exact hj))
      have g5 := fw_arr (a := 5) (j := (F 0 4).toNat) (v := fp_2 t n (p + 7)) g4 (by decide) (fun _ => b7) (Or.inr (by decide))
      have g6 := fw_arr (a := 6) (j := (F 0 4).toNat) (v := 0) g5 (by decide) (fun z => absurd z (by decide)) (Or.inr (by decide))
      have n6 : am_up (am_up (am_up (am_up (am_up (am_up F 1 (F 0 4).toNat (am_dt t n (p + 1))) 2 (F 0 4).toNat (am_dt t n (p + 2))) 3 (F 0 4).toNat (fp_2 t n (p + 3))) 4 (F 0 4).toNat (fp_2 t n (p + 5))) 5 (F 0 4).toNat (fp_2 t n (p + 7))) 6 (F 0 4).toNat 0 0 4 = F 0 4 := by
        rw [am_upN (by decide), am_upN (by decide), am_upN (by decide), am_upN (by decide), am_upN (by decide), am_upN (by decide)]
      refine fw_ct (fw_n1 g6 (by rw [n6]; exact h.1) (by rw [n6]) ?_)
      rw [n6]
      refine ⟨?_, ?_, ?_, ?_⟩
      · rw [am_upN (by decide), am_upN (by decide), am_upN (by decide), am_upN (by decide), am_upN (by decide), am_upS, if_pos ⟨rfl, rfl⟩]; exact ⟨d1, h.2.1⟩
      · rw [am_upN (by decide), am_upN (by decide), am_upN (by decide), am_upN (by decide), am_upS, if_pos ⟨rfl, rfl⟩]; exact ⟨d2, e2.2⟩
      · rw [am_upN (by decide), am_upN (by decide), am_upN (by decide), am_upS, if_pos ⟨rfl, rfl⟩]; exact ⟨h.2.2.1, h.2.2.2.1⟩
      · rw [am_upN (by decide), am_upN (by decide), am_upS, if_pos ⟨rfl, rfl⟩]; exact ⟨b5.1, h.2.2.2.2⟩
    · by_cases c3 : am_nx t n p = 109
      · rw [fp_ok_m c3] at h
        rw [am_ld_109 c3] at dg
        have d1 : 0 ≤ am_dt t n (p + 1) := (Int.add_zero (p + 1)) ▸ dg 0 (by decide)
        have e2 := am_dt_b t n (p + 2)
        rw [fp_cf_m c3]
        exact fw_ct (fw_rule hf ⟨d1, h.1⟩ ⟨h.2, e2.2⟩)
      · by_cases c4 : am_nx t n p = 115
        · rw [fp_ok_s c4] at h
          rw [am_ld_115 c4] at dg
          have d2 : 0 ≤ am_dt t n (p + 1 + 1) := dg 1 (by decide)
          have d3 : 0 ≤ am_dt t n (p + 1 + 2) := dg 2 (by decide)
          have b2 := fp_2_b (q := p + 2) (by rw [show p + 2 = p + 1 + 1 by omega]; exact d2) (by rw [show p + 2 + 1 = p + 1 + 2 by omega]; exact d3)
          rw [fp_cf_s c4]
          exact fw_ct (fw_arr hf (by decide) (fun _ => b2) (Or.inr (by decide)))
        · rw [fp_ok_g c1 c2 c3 c4] at h
          rw [fp_cf_g c1 c2 c3 c4]
          exact fw_rn (W := F 0 1) (V := 999) ⟨hf.1, ⟨hf.2.1.1, Int.le_refl _⟩, hf.2.2⟩ (by omega)
