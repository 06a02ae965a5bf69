theorem x_tS_1_22 {l : Launch} {ν : am_N} {Q : Option am_V → am_N → Prop} (k : ∀ μ' : am_N, (∀ a b, ¬(a = 1 ∧ b < 4) → μ' a b = ν a b) → (∀ b : Nat, b < 4 → μ' 1 b = ν 22 b) → Q none μ') : am_Does l 4 [.inr (.inr 1), .inr (.inr 22)] ν Q := by
  refine am_Does_of (Nat.le_of_ble_eq_true rfl) (Nat.le_of_ble_eq_true rfl) (Nat.le_of_ble_eq_true rfl) ?_
  refine am_go (ct := fun _ => false) am_oX0_takeSettings 300 ?_
  conv => whnf
  repeat' first
    | (refine (?_ : am_wp _ _ _ _ _ _ _ _ _ _ _ _); conv => whnf)
    | (refine (?_ : am_sw _ _ _ _); conv => whnf)
    | refine And.intro trivial ?_
    | exact trivial
    | refine k _ ?_ ?_
    | refine And.intro (fun h => absurd h (by decide)) (fun _ => ?_)
    | refine And.intro (fun _ => ?_) (fun h => absurd (by decide) h)
    | refine And.intro (fun _ => ?_) (fun _ => ?_)
    | refine And.intro ?_ ?_
  all_goals (first | decide | rfl | (intro a b h; rw [am_upS, if_neg (by omega), am_upS, if_neg (by omega), am_upS, if_neg (by omega), am_upS, if_neg (by omega)]) | (intro b hb; rcases (show b = 0 ∨ b = 1 ∨ b = 2 ∨ b = 3 by omega) with rfl | rfl | rfl | rfl <;> rfl) | (trace_state; fail))
