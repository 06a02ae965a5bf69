theorem s_feed {l : Launch} {ν : am_N} {Q : Option am_V → am_N → Prop} (v : Int) (cv : am_c v = v) (hS : sx ν ν) (k1 : (0 ≤ v ∧ v ≤ 255) → ν 36 1 < 96 → Q (some (.inl (ν 36 1 + 1))) (am_up (am_up ν 36 1 (ν 36 1 + 1)) 37 (ν 36 1).toNat v)) (k0 : ∀ (r : Int) (μ' : am_N), ((v < 0 ∧ r = -4) ∨ (255 < v ∧ r = -6) ∨ ((0 ≤ v ∧ v ≤ 255) ∧ ν 36 1 = 96 ∧ r = -6)) → (∀ a b, a ≠ 78 → μ' a b = ν a b) → Q (some (.inl r)) μ') : am_Does l 61 [.inr (.inr 0), .inl v] ν Q := by
  refine am_Does_of (Nat.le_of_ble_eq_true rfl) (Nat.le_of_ble_eq_true rfl) (Nat.le_of_ble_eq_true rfl) ?_
  have l0 : am_c 0 = 0 := rfl
  have l1 : am_c 1 = 1 := rfl
  have l2 : am_c 2 = 2 := rfl
  have l3 : am_c 3 = 3 := rfl
  have l4 : am_c 4 = 4 := rfl
  have l5 : am_c 5 = 5 := rfl
  have l7 : am_c 7 = 7 := rfl
  have l9 : am_c 9 = 9 := rfl
  have l10 : am_c 10 = 10 := rfl
  have l20 : am_c 20 = 20 := rfl
  have l96 : am_c 96 = 96 := rfl
  have l99 : am_c 99 = 99 := rfl
  have l200 : am_c 200 = 200 := rfl
  have l255 : am_c 255 = 255 := rfl
  have l999 : am_c 999 = 999 := rfl
  refine am_go (ct := fun _ => false) am_oX6_feed 300 ?_
  conv => whnf
  repeat' first
    | (refine (?_ : am_wp _ _ _ _ _ _ _ _ _ _ _ _); conv => whnf)
    | (refine (?_ : am_sw _ _ _ _); conv => whnf)
    | refine And.intro trivial ?_
    | exact trivial
    | ((with_reducible refine (?_ : am_Does _ 113 _ _ _)); refine x_refuse _ ?_ (fun μr fr => ?_))
    | refine k0 _ _ ?_ fr
    | ((with_reducible refine (?_ : am_Does _ 41 _ _ _)); refine v_full_X3_36 (ν := ν) hS (fun w => ?_) (fun w => ?_))
    | ((with_reducible refine (?_ : am_Does _ 42 _ _ _)); refine v_putE_X3_36 _ hS w ?_)
    | exact k1 (by omega) w
    | refine And.intro (fun h => absurd h (by decide)) (fun _ => ?_)
    | refine And.intro (fun _ => ?_) (fun h => absurd (by decide) h)
    | refine And.intro (fun _ => ?_) (fun _ => ?_)
    | refine And.intro ?_ ?_
  all_goals (first | decide | omega | (trace_state; fail))
