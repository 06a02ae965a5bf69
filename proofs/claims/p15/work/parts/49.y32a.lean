/-! from y32 -/
/-- UNEVEN is no less than 0 -/
theorem fp_ui_x {f : Nat → Int} {g : Int} : ∀ n : Nat, 1 ≤ n → fp_ui g f n ≤ fp_ux f n ∨ fp_ui g f n ≤ f 0 := by
  intro n h
  right
  induction n with
  | zero => exact absurd h (by omega)
  | succ n ih =>
    simp only [fp_ui]
    by_cases d : 1 ≤ n
    · have q := ih d
      split <;> omega
    · have z0 : n = 0 := by omega
      subst z0
      show (if f 0 < g then f 0 else g) ≤ f 0
      by_cases z : f 0 < g
      · rw [if_pos z]; first | done | exact Int.le_refl _
      · rw [if_neg z]; omega
theorem fp_ux_x {f : Nat → Int} : ∀ n : Nat, 1 ≤ n → f 0 ≤ fp_ux f n := by
  intro n h
  induction n with
  | zero => exact absurd h (by omega)
  | succ n ih =>
    simp only [fp_ux]
    by_cases d : 1 ≤ n
    · have q := ih d
      split <;> omega
    · have z0 : n = 0 := by omega
      subst z0
      show f 0 ≤ if 0 < f 0 then f 0 else 0
      by_cases z : 0 < f 0
      · rw [if_pos z]; first | done | exact Int.le_refl _
      · rw [if_neg z]; omega
theorem fp_un_0 {F : am_N} (h : 1 ≤ F 0 4) : 0 ≤ fp_un F := by
  have a := fp_ui_x (f := fp_lw F) (g := fp_al2 F) (F 0 4).toNat (by omega)
  have b := fp_ux_x (f := fp_lw F) (F 0 4).toNat (by omega)
  unfold fp_un
  omega
