theorem fp_AcQ : fp_Ac mQ := fun k j h => by
  rcases h with ⟨rfl, h⟩ | ⟨h, h2⟩ | rfl | h | ⟨rfl, h⟩
  · rcases (show j = 10 ∨ j = 11 ∨ j = 12 ∨ j = 13 ∨ j = 14 ∨ j = 21 ∨ j = 25 ∨ j = 33 by omega) with rfl | rfl | rfl | rfl | rfl | rfl | rfl | rfl <;> rfl
  · rcases (show k = 85 ∨ k = 86 ∨ k = 87 ∨ k = 88 ∨ k = 89 ∨ k = 90 by omega) with rfl | rfl | rfl | rfl | rfl | rfl <;> rcases (show j = 0 ∨ j = 1 ∨ j = 2 ∨ j = 3 by omega) with rfl | rfl | rfl | rfl <;> rfl
  · rfl
  · rcases (show k = 101 ∨ k = 102 ∨ k = 103 by omega) with rfl | rfl | rfl <;> rfl
  · have z : Nat.ble 60 j = false := by
      cases y : Nat.ble 60 j with
      | false => rfl
      | true => have := Nat.ble_eq.mp y; omega
    show mo ms mQ1 98 j = false
    unfold mo mQ1
    rw [z]
    rfl
theorem fp_Acs : fp_Ac ms := fun k j h => mo_l k j (fp_AcQ k j h)
theorem fp_Aco {A B : Nat → Nat → Bool} (h1 : fp_Ac A) (h2 : fp_Ac B) : fp_Ac (mo A B) := fun k j h => Bool.or_eq_false_iff.mpr ⟨h1 k j h, h2 k j h⟩
theorem fp_Ac1 {c r : Nat} (hc : ¬(c = 83 ∨ (85 ≤ c ∧ c ≤ 90) ∨ c = 94 ∨ (101 ≤ c ∧ c ≤ 103) ∨ c = 98)) (hr : ¬((10 ≤ r ∧ r ≤ 14) ∨ r = 21 ∨ r = 25 ∨ r = 33)) : fp_Ac (m1o c r) := fun k j h => by
  unfold rq_M at h
  have n : ∀ a b : Nat, a ≠ b → Nat.beq a b = false := fun a b hab => by
    cases q : Nat.beq a b with
    | false => rfl
    | true => exact absurd (Nat.eq_of_beq_eq_true q) hab
  unfold m1o
  rw [n k c (by first | decide | omega)]
  by_cases e : k = 83
  · rw [n j r (by first | decide | omega)]; exact Bool.and_false _
  · rw [n k 83 e]; rfl
theorem LI_feed {μ μ1 μ2 : am_N} {v : Int} (hI : lx_I μ) (hv : 0 ≤ v ∧ v ≤ 255) (h96 : μ 36 1 < 96) (f1 : ∀ a b, ¬(a = 36 ∧ b = 1) → a ≠ 37 → μ1 a b = μ a b) (f2 : ∀ a b, a ≠ 94 → ¬(a = 83 ∧ b = 21) → μ2 a b = μ1 a b) (e1 : μ1 36 1 = μ 36 1 + 1) (e2 : ∀ b, μ1 37 b = if b = (μ 36 1).toNat then v else μ 37 b) (e3 : μ2 83 21 = μ1 83 21 + 1) (e4 : ∀ b, μ2 94 b = if b = (μ1 83 21).toNat then v else μ1 94 b) : lx_I μ2 := by
  obtain ⟨hS, hm, hR0, hL, hB, hJ⟩ := hI
  have hb := sx_all hS
  have hc := mi_all hm
  have g : ∀ a b, ¬(a = 36 ∧ b = 1) → a ≠ 37 → a ≠ 94 → ¬(a = 83 ∧ b = 21) → μ2 a b = μ a b := fun a b h1 h2 h3 h4 => (f2 a b h3 h4).trans (f1 a b h1 h2)
  have d1 : μ2 36 1 = μ 36 1 + 1 := (f2 36 1 (by first | decide | omega) (by first | decide | omega)).trans e1
  have d2 : μ2 83 21 = μ 83 21 + 1 := by rw [e3, f1 83 21 (by first | decide | omega) (by first | decide | omega)]
  have l1 := hL.1
  refine ⟨⟨fun _ _ _ => rfl, fun p hp => by rw [g 34 p (by first | decide | omega) (by first | decide | omega) (by first | decide | omega) (by first | decide | omega)]; exact hS.2.1 p hp, fun p hp => by rw [g 43 p (by first | decide | omega) (by first | decide | omega) (by first | decide | omega) (by first | decide | omega)]; exact hS.2.2.1 p hp, by have q := hS.2.2.2.1; unfold sx_4 at q ⊢; rw [g 8 4 (by first | decide | omega) (by first | decide | omega) (by first | decide | omega) (by first | decide | omega), g 15 4 (by first | decide | omega) (by first | decide | omega) (by first | decide | omega) (by first | decide | omega), g 29 0 (by first | decide | omega) (by first | decide | omega) (by first | decide | omega) (by first | decide | omega), g 38 0 (by first | decide | omega) (by first | decide | omega) (by first | decide | omega) (by first | decide | omega)]; omega, by have q := hS.2.2.2.2; unfold px at q ⊢; rw [g 1 4 (by first | decide | omega) (by first | decide | omega) (by first | decide | omega) (by first | decide | omega), g 22 4 (by first | decide | omega) (by first | decide | omega) (by first | decide | omega) (by first | decide | omega), g 44 1 (by first | decide | omega) (by first | decide | omega) (by first | decide | omega) (by first | decide | omega), g 46 1 (by first | decide | omega) (by first | decide | omega) (by first | decide | omega) (by first | decide | omega), g 48 1 (by first | decide | omega) (by first | decide | omega) (by first | decide | omega) (by first | decide | omega), g 50 1 (by first | decide | omega) (by first | decide | omega) (by first | decide | omega) (by first | decide | omega), g 53 1 (by first | decide | omega) (by first | decide | omega) (by first | decide | omega) (by first | decide | omega), g 55 1 (by first | decide | omega) (by first | decide | omega) (by first | decide | omega) (by first | decide | omega), g 58 1 (by first | decide | omega) (by first | decide | omega) (by first | decide | omega) (by first | decide | omega), g 60 1 (by first | decide | omega) (by first | decide | omega) (by first | decide | omega) (by first | decide | omega), g 62 3 (by first | decide | omega) (by first | decide | omega) (by first | decide | omega) (by first | decide | omega)]; omega⟩, ?_, rq_F_keep hR0 (fun a b h1 h2 => (g a b (by first | decide | omega) (by first | decide | omega) (by first | decide | omega) (by first | decide | omega))) (fun a b h => (g a b (by first | decide | omega) (by first | decide | omega) (by first | decide | omega) (by first | decide | omega))), rq_L_feed hL (by first | decide | omega) hv d1 (fun b => by rw [f2 37 b (by first | decide | omega) (by first | decide | omega)]; exact e2 b) d2 (fun b => by rw [e4, f1 83 21 (by first | decide | omega) (by first | decide | omega), f1 94 b (by first | decide | omega) (by first | decide | omega)]), rq_B_keep hB (g _ _ (by first | decide | omega) (by first | decide | omega) (by first | decide | omega) (by first | decide | omega)) (g _ _ (by first | decide | omega) (by first | decide | omega) (by first | decide | omega) (by first | decide | omega)) (fun a b h1 h2 => (g _ _ (by first | decide | omega) (by first | decide | omega) (by first | decide | omega) (by first | decide | omega))) (fun a b h1 h2 => (g _ _ (by first | decide | omega) (by first | decide | omega) (by first | decide | omega) (by first | decide | omega))) (by first | decide | omega), rq_I_keep hJ (g _ _ (by first | decide | omega) (by first | decide | omega) (by first | decide | omega) (by first | decide | omega)) (g _ _ (by first | decide | omega) (by first | decide | omega) (by first | decide | omega) (by first | decide | omega)) (fun a b h1 h2 => (g _ _ (by first | decide | omega) (by first | decide | omega) (by first | decide | omega) (by first | decide | omega))) (fun b hb => (g _ _ (by first | decide | omega) (by first | decide | omega) (by first | decide | omega) (by first | decide | omega)))⟩
  unfold mi at hm ⊢
  rw [g 83 14 (by first | decide | omega) (by first | decide | omega) (by first | decide | omega) (by first | decide | omega), g 83 15 (by first | decide | omega) (by first | decide | omega) (by first | decide | omega) (by first | decide | omega), g 83 16 (by first | decide | omega) (by first | decide | omega) (by first | decide | omega) (by first | decide | omega), d2, g 83 33 (by first | decide | omega) (by first | decide | omega) (by first | decide | omega) (by first | decide | omega), g 83 40 (by first | decide | omega) (by first | decide | omega) (by first | decide | omega) (by first | decide | omega), g 83 42 (by first | decide | omega) (by first | decide | omega) (by first | decide | omega) (by first | decide | omega), g 98 44 (by first | decide | omega) (by first | decide | omega) (by first | decide | omega) (by first | decide | omega), g 98 38 (by first | decide | omega) (by first | decide | omega) (by first | decide | omega) (by first | decide | omega), g 98 39 (by first | decide | omega) (by first | decide | omega) (by first | decide | omega) (by first | decide | omega)]
  refine ⟨hm.1, hm.2.1, hm.2.2.1, by omega, hm.2.2.2.2.1, hm.2.2.2.2.2.1, hm.2.2.2.2.2.2.1, hm.2.2.2.2.2.2.2.1, hm.2.2.2.2.2.2.2.2.1, hm.2.2.2.2.2.2.2.2.2.1, fun p hp => ?_⟩
  rw [g 100 p (by first | decide | omega) (by first | decide | omega) (by first | decide | omega) (by first | decide | omega)]
  exact hm.2.2.2.2.2.2.2.2.2.2 p hp
