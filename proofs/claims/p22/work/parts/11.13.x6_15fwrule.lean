theorem fw_way {W : Int} {F : am_N} {v : Int} (h : fp_fw W F) (hv : 20 ≤ v ∧ v ≤ 200) : fp_fw W (am_up F 0 0 v) := by
  obtain ⟨h0, h1, h2, h3, h4, h5, h6⟩ := h
  have e : ∀ b : Nat, b ≠ 0 → am_up F 0 0 v 0 b = F 0 b := fun b hb => am_upM hb
  have e4 : am_up F 0 0 v 0 0 = v := if_pos ⟨rfl, rfl⟩
  have ea : ∀ a b : Nat, 0 < a → am_up F 0 0 v a b = F a b := fun a b ha => am_upN (by omega)
  unfold fp_fw
  rw [e4, e 1 (by decide), e 2 (by decide), e 3 (by decide), e 4 (by decide)]
  refine ⟨hv, h1, h2, h3, h4, fun i hi => ?_, fun i hi => ?_⟩
  · rw [ea 5 i (by decide)]; exact h5 i hi
  · rw [ea 1 i (by decide), ea 2 i (by decide), ea 3 i (by decide), ea 4 i (by decide)]; exact h6 i hi
theorem fw_rule {W : Int} {F : am_N} {v w : Int} (h : fp_fw W F) (hv : 0 ≤ v ∧ v ≤ 4) (hw : 1 ≤ w ∧ w ≤ 9) : fp_fw W (am_up (am_up F 0 2 v) 0 3 w) := by
  obtain ⟨h0, h1, h2, h3, h4, h5, h6⟩ := h
  have e : ∀ b : Nat, b ≠ 2 → b ≠ 3 → am_up (am_up F 0 2 v) 0 3 w 0 b = F 0 b := fun b hb hc => (am_upM hc).trans (am_upM hb)
  have e2 : am_up (am_up F 0 2 v) 0 3 w 0 2 = v := (am_upM (by decide)).trans (if_pos ⟨rfl, rfl⟩)
  have e3 : am_up (am_up F 0 2 v) 0 3 w 0 3 = w := if_pos ⟨rfl, rfl⟩
  have ea : ∀ a b : Nat, 0 < a → am_up (am_up F 0 2 v) 0 3 w a b = F a b := fun a b ha => (am_upN (by omega)).trans (am_upN (by omega))
  unfold fp_fw
  rw [e 0 (by decide) (by decide), e 1 (by decide) (by decide), e2, e3, e 4 (by decide) (by decide)]
  refine ⟨h0, h1, hv, hw, h4, fun i hi => ?_, fun i hi => ?_⟩
  · rw [ea 5 i (by decide)]; exact h5 i hi
  · rw [ea 1 i (by decide), ea 2 i (by decide), ea 3 i (by decide), ea 4 i (by decide)]; exact h6 i hi
