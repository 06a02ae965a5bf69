theorem x_tR_1_8 {l : Launch} {ν : am_N} {Q : Option am_V → am_N → Prop} (i j : Int) (i0 : 0 ≤ i) (i1 : i < 4) (j0 : 0 ≤ j) (j1 : j < 4) (k : ∀ μ' : am_N, (∀ a b, ¬((1 < a ∧ a < 8) ∧ b = i.toNat) → μ' a b = ν a b) → (∀ a : Nat, 0 < a → a < 7 → μ' (1 + a) i.toNat = ν (8 + a) j.toNat) → Q none μ') : am_Does l 5 [.inr (.inr 1), .inl i, .inr (.inr 8), .inl j] ν Q := by
  refine am_Does_of (Nat.le_of_ble_eq_true rfl) (Nat.le_of_ble_eq_true rfl) (Nat.le_of_ble_eq_true rfl) ?_
  have ci : am_c i = i := am_cR (by omega) (by omega)
  have cj : am_c j = j := am_cR (by omega) (by omega)
  have c0 : am_c 0 = 0 := rfl
  have c4 : am_c 4 = 4 := rfl
  refine am_go (ct := fun _ => false) am_oX0_takeRunner 300 ?_
  conv => whnf
  repeat' first
    | (refine (?_ : am_wp _ _ _ _ _ _ _ _ _ _ _ _); conv => whnf)
    | (refine (?_ : am_sw _ _ _ _); conv => whnf)
    | refine And.intro trivial ?_
    | exact trivial
    | refine k _ ?_ ?_
    | refine And.intro (fun h => absurd h (by decide)) (fun _ => ?_)
    | refine And.intro (fun _ => ?_) (fun h => absurd (by decide) h)
    | refine And.intro (fun _ => ?_) (fun _ => ?_)
    | refine And.intro ?_ ?_
  all_goals (first | decide | omega | (simp only [ci, cj, c0, c4] at *; omega) | (intro a b h; simp only [ci]; rw [am_upS, if_neg (by omega), am_upS, if_neg (by omega), am_upS, if_neg (by omega), am_upS, if_neg (by omega), am_upS, if_neg (by omega), am_upS, if_neg (by omega)]) | (intro a h0 h1; simp only [ci, cj]; rcases (show a = 1 ∨ a = 2 ∨ a = 3 ∨ a = 4 ∨ a = 5 ∨ a = 6 by omega) with rfl | rfl | rfl | rfl | rfl | rfl <;> simp [am_up]) | (exfalso; simp only [ci, cj, c0, c4] at *; omega) | (trace_state; fail))
