/-! calls that leave all of this: by the weak contracts -/
def rq_M (k j : Nat) : Prop := (k = 83 ∧ ((10 ≤ j ∧ j ≤ 14) ∨ j = 21 ∨ j = 25 ∨ j = 33)) ∨ ((85 ≤ k ∧ k ≤ 90) ∧ j < 4) ∨ k = 94 ∨ (101 ≤ k ∧ k ≤ 103) ∨ (k = 98 ∧ j < 45)
def fp_Ac (A : Nat → Nat → Bool) : Prop := ∀ k j, rq_M k j → A k j = false
def fp_Ec (E : List Nat) : Bool := ([0, 1, 2, 3, 4, 5, 6, 7, 22, 23, 24, 25, 26, 27, 28, 36, 37, 62, 64, 65, 66, 67, 68, 69, 70, 71, 72, 73, 74, 75, 76, 77] : List Nat).all (fun k => sx_p k && !(E.contains k))
theorem fp_Ec_at {E : List Nat} (h : fp_Ec E = true) (k : Nat) (hk : k ≤ 7 ∨ (22 ≤ k ∧ k ≤ 28) ∨ k = 36 ∨ k = 37 ∨ k = 62 ∨ (64 ≤ k ∧ k ≤ 77)) : (sx_p k && !(E.contains k)) = true := by
  refine List.all_eq_true.mp h k ?_
  simp only [List.mem_cons, List.not_mem_nil, or_false]
  omega
theorem LI_weak {E : List Nat} {A : Nat → Nat → Bool} {μ μ1 μ2 : am_N} (hI : lx_I μ) (h1 : gv E μ μ1) (h2 : gm A μ1 μ2) (hE : lx_E E) (hEc : fp_Ec E = true) (hA : lx_A A) (hAc : fp_Ac A) : lx_I μ2 := by
  obtain ⟨hS, hm, hR0, hL, hB, hJ⟩ := hI
  have c : ∀ k j, (k ≤ 7 ∨ (22 ≤ k ∧ k ≤ 28) ∨ k = 36 ∨ k = 37 ∨ k = 62 ∨ (64 ≤ k ∧ k ≤ 77)) → μ2 k j = μ k j := fun k j hk => (h2.2 k j (hA k j (by first | decide | omega))).trans (h1.2 k j (fp_Ec_at hEc k hk))
  have d : ∀ k j, rq_M k j → μ2 k j = μ k j := fun k j hk => (h2.2 k j (hAc k j hk)).trans (h1.2 k j (by rw [sx_p83 (by unfold rq_M at hk; omega), hE k (by unfold rq_M at hk; omega)]; rfl))
  have hb := sx_all hS
  exact ⟨lx_sx hA h2 h1.1, h2.1, rq_F_keep hR0 (fun a b h1 h2 => c a b (by first | decide | omega)) (fun a b h => d a b (by unfold rq_M; omega)), rq_L_keep hL (c _ _ (by first | decide | omega)) (fun b => c _ _ (by first | decide | omega)) (d _ _ (by unfold rq_M; omega)) (fun b => d _ _ (by unfold rq_M; omega)), rq_B_keep hB (c _ _ (by first | decide | omega)) (d _ _ (by unfold rq_M; omega)) (fun a b h1 h2 => c _ _ (by first | decide | omega)) (fun a b h1 h2 => d _ _ (by unfold rq_M; omega)) (by first | decide | omega), rq_I_keep hJ (c _ _ (by first | decide | omega)) (d _ _ (by unfold rq_M; omega)) (fun a b h1 h2 => c _ _ (by first | decide | omega)) (fun b hb => d _ _ (by unfold rq_M; omega))⟩
