/-- start, kind, set -/
theorem LI_fld {μ μ1 μ2 : am_N} (hI : lx_I μ) (f1 : ∀ a b, ¬(1 ≤ a ∧ a ≤ 7) → ¬(a = 62 ∧ b = 3) → μ1 a b = μ a b) (f2 : ∀ a b, ¬(85 ≤ a ∧ a ≤ 90) → ¬(a = 83 ∧ (10 ≤ b ∧ b ≤ 14 ∨ b = 33)) → μ2 a b = μ1 a b) (z1 : μ1 62 3 = 0) (z2 : μ2 83 33 = 0) (hF : fv μ1 1 = mv μ2) (hw : fp_fw 999 (mv μ2)) : lx_I μ2 := by
  obtain ⟨hS, hm, hR0, hL, hB, hJ⟩ := hI
  have hF2 : fv μ2 1 = mv μ2 := by rw [← hF]; exact fv_keep (fun a b h1 h2 => f2 a b (by first | decide | omega) (by first | decide | omega))
  have n2 : 0 ≤ μ2 83 14 ∧ μ2 83 14 ≤ 4 := hw.2.2.2.2.1
  have n1 : 0 ≤ μ2 1 4 ∧ μ2 1 4 ≤ 4 := by
    have q := hw.2.2.2.2.1
    rw [← hF2, fv_0 (by decide)] at q
    exact q
  have g : ∀ a b, ¬(1 ≤ a ∧ a ≤ 7) → ¬(a = 62 ∧ b = 3) → ¬(85 ≤ a ∧ a ≤ 90) → ¬(a = 83 ∧ (10 ≤ b ∧ b ≤ 14 ∨ b = 33)) → μ2 a b = μ a b := fun a b h1 h2 h3 h4 => (f2 a b h3 h4).trans (f1 a b h1 h2)
  have z3 : μ2 62 3 = 0 := (f2 _ _ (by first | decide | omega) (by first | decide | omega)).trans z1
  exact ⟨sx_set hS (fun a b h0 h1 h2 h3 => g a b h1 h2 (by first | decide | omega) (by first | decide | omega)) n1 (by first | decide | omega), mi_mk hm (fun a b q => g a b (by first | decide | omega) (by first | decide | omega) (by first | decide | omega) (by first | decide | omega)) n2 (by first | decide | omega), ⟨hF2, hw⟩, rq_L_keep hL (g _ _ (by first | decide | omega) (by first | decide | omega) (by first | decide | omega) (by first | decide | omega)) (fun b => g _ _ (by first | decide | omega) (by first | decide | omega) (by first | decide | omega) (by first | decide | omega)) (g _ _ (by first | decide | omega) (by first | decide | omega) (by first | decide | omega) (by first | decide | omega)) (fun b => g _ _ (by first | decide | omega) (by first | decide | omega) (by first | decide | omega) (by first | decide | omega)), rq_B_zero z3 z2, rq_I_keep hJ (g _ _ (by first | decide | omega) (by first | decide | omega) (by first | decide | omega) (by first | decide | omega)) (g _ _ (by first | decide | omega) (by first | decide | omega) (by first | decide | omega) (by first | decide | omega)) (fun a b h1 h2 => g _ _ (by first | decide | omega) (by first | decide | omega) (by first | decide | omega) (by first | decide | omega)) (fun b hb => g _ _ (by first | decide | omega) (by first | decide | omega) (by first | decide | omega) (by first | decide | omega))⟩
