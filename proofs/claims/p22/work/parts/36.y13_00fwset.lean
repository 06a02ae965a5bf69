/-! the changes as the law takes them -/
theorem fv_up0 {μ : am_N} {c j : Nat} {v : Int} : fv (am_up μ c j v) c = fp_ct (am_up (fv μ c) 0 j v) := by
  refine fp_ct_e (fun b hb => ?_) (fun x b q1 q2 hb => ?_)
  · by_cases d : b = j
    · rw [am_upS, if_pos ⟨rfl, d⟩, am_upS, if_pos ⟨rfl, d⟩]
    · rw [am_upM d, am_upM d]; exact (fv_0 hb).symm
  · rw [am_upN (by omega), am_upN (by omega)]; exact (fv_a q1 q2 hb).symm
theorem fv_d {μ : am_N} {v : Int} : fv (am_up μ 62 3 v) 1 = fv μ 1 := fv_keep (fun a b h1 h2 => am_upN (by omega))
theorem mv_d {μ : am_N} {v : Int} : mv (am_up μ 83 33 v) = mv μ := mv_keep (fun a b q => am_uE (by omega))
theorem fw_set {F : am_N} {w v : Int} (h : fp_fw 999 F) (hw : 0 ≤ w ∧ w ≤ 3) (hv : fp_sb w v) : fp_fw 999 (am_up F 0 (fp_sl w) v) := by
  obtain ⟨h0, h1, h2, h3, h4, h5, h6⟩ := h
  have ea : ∀ a b : Nat, 0 < a → am_up F 0 (fp_sl w) v a b = F a b := fun a b ha => am_upN (by omega)
  rcases (show w = 0 ∨ w = 1 ∨ w = 2 ∨ w = 3 by omega) with rfl | rfl | rfl | rfl
  · exact fw_way ⟨h0, h1, h2, h3, h4, h5, h6⟩ hv
  · have hv : 0 ≤ v ∧ v ≤ 4 := hv
    have e : ∀ b : Nat, b ≠ 2 → am_up F 0 (fp_sl 1) v 0 b = F 0 b := fun b hb => am_upM hb
    have e4 : am_up F 0 (fp_sl 1) v 0 2 = v := if_pos ⟨rfl, rfl⟩
    unfold fp_fw
    rw [e 0 (by decide), e 1 (by decide), e4, e 3 (by decide), e 4 (by decide)]
    refine ⟨h0, h1, hv, h3, h4, fun i hi => ?_, fun i hi => ?_⟩
    · rw [ea 5 i (by decide)]; exact h5 i hi
    · rw [ea 1 i (by decide), ea 2 i (by decide), ea 3 i (by decide), ea 4 i (by decide)]; exact h6 i hi
  · have hv : 1 ≤ v ∧ v ≤ 9 := hv
    have e : ∀ b : Nat, b ≠ 3 → am_up F 0 (fp_sl 2) v 0 b = F 0 b := fun b hb => am_upM hb
    have e4 : am_up F 0 (fp_sl 2) v 0 3 = v := if_pos ⟨rfl, rfl⟩
    unfold fp_fw
    rw [e 0 (by decide), e 1 (by decide), e 2 (by decide), e4, e 4 (by decide)]
    refine ⟨h0, h1, h2, hv, h4, fun i hi => ?_, fun i hi => ?_⟩
    · rw [ea 5 i (by decide)]; exact h5 i hi
    · rw [ea 1 i (by decide), ea 2 i (by decide), ea 3 i (by decide), ea 4 i (by decide)]; exact h6 i hi
  · have hv : 0 ≤ v ∧ v ≤ 999 := hv
    have e : ∀ b : Nat, b ≠ 1 → am_up F 0 (fp_sl 3) v 0 b = F 0 b := fun b hb => am_upM hb
    have e4 : am_up F 0 (fp_sl 3) v 0 1 = v := if_pos ⟨rfl, rfl⟩
    unfold fp_fw
    rw [e 0 (by decide), e4, e 2 (by decide), e 3 (by decide), e 4 (by decide)]
    refine ⟨h0, hv, h2, h3, h4, fun i hi => ?_, fun i hi => ?_⟩
    · rw [ea 5 i (by decide)]; exact h5 i hi
    · rw [ea 1 i (by decide), ea 2 i (by decide), ea 3 i (by decide), ea 4 i (by decide)]; exact h6 i hi
