/-! a HABIT -/
/-- a field with another WEEK, other STARTS -/
def fp_wks (F : am_N) (w : Int) (s : Nat → Int) : am_N := fun a b => if a = 5 then s b else if a = 0 ∧ b = 1 then w else F a b
/-- a picture that shows this WEEK, these STARTS (RULE and WINS may be others) -/
def fp_rq (G F : am_N) (w : Int) (s : Nat → Int) : Prop := (∀ b : Nat, b < 5 → b ≠ 1 → b ≠ 2 → G 0 b = F 0 b) ∧ G 0 1 = w ∧ (∀ a b : Nat, 0 < a → a < 5 → b < 4 → G a b = F a b) ∧ ∀ b : Nat, b < 4 → G 5 b = s b
theorem fp_rq_t {G F : am_N} {w : Int} {s : Nat → Int} (h : fp_rq G F w s) {i : Nat} (hi : i < 4) : fp_tf G i = fp_tf (fp_wks F w s) i := by
  obtain ⟨h0, h1, h2, h3⟩ := h
  unfold fp_tf am_TC
  rw [h0 0 (by decide) (by decide) (by decide), h1, h2 (0 + 1) i (by decide) (by decide) hi, h2 (0 + 2) i (by decide) (by decide) hi, h2 (0 + 3) i (by decide) (by decide) hi, h3 i hi]
  rfl
theorem fw_s5 {W V : Int} {G G2 : am_N} (h : fp_fw W G) (hV : W + 1 ≤ V) (e0 : ∀ b : Nat, b < 5 → b ≠ 1 → G2 0 b = G 0 b) (e1 : G2 0 1 = G 0 1 + 1) (ea : ∀ a b : Nat, 0 < a → a < 5 → b < 4 → G2 a b = G a b) (b5 : ∀ b : Nat, b < 4 → 0 ≤ G2 5 b ∧ G2 5 b ≤ 99) : fp_fw V G2 := by
  obtain ⟨h0, h1, h2, h3, h4, h5, h6⟩ := h
  unfold fp_fw
  rw [e0 0 (by decide) (by decide), e0 2 (by decide) (by decide), e0 3 (by decide) (by decide), e0 4 (by decide) (by decide), e1]
  refine ⟨h0, by omega, h2, h3, h4, b5, fun i hi => ?_⟩
  rw [ea 1 i (by decide) (by decide) (by omega), ea 2 i (by decide) (by decide) (by omega), ea 3 i (by decide) (by decide) (by omega), ea 4 i (by decide) (by decide) (by omega)]
  exact h6 i hi
theorem fp_rq_rf (F : am_N) : fp_rq F F (F 0 1) (F 5) := ⟨fun _ _ _ _ => rfl, rfl, fun _ _ _ _ _ => rfl, fun _ _ => rfl⟩
