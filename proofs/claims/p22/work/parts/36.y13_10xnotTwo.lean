theorem x_notTwo {l : Launch} {ν : am_N} {Q : Option am_V → am_N → Prop} (i j : Int) (ci : am_c i = i) (cj : am_c j = j) (f0 : 0 ≤ ν 1 4) (f1 : ν 1 4 ≤ 4) (k1 : ¬((0 ≤ i ∧ i < ν 1 4) ∧ (0 ≤ j ∧ j < ν 1 4) ∧ i ≠ j) → Q (some (.inl 1)) ν) (k0 : (0 ≤ i ∧ i < ν 1 4) → (0 ≤ j ∧ j < ν 1 4) → i ≠ j → Q (some (.inl 0)) ν) : am_Does l 117 [.inr (.inr 0), .inl i, .inl j] ν Q := by
  refine am_Does_of (Nat.le_of_ble_eq_true rfl) (Nat.le_of_ble_eq_true rfl) (Nat.le_of_ble_eq_true rfl) ?_
  have l0 : am_c 0 = 0 := rfl
  have l1 : am_c 1 = 1 := rfl
  have l2 : am_c 2 = 2 := rfl
  have l20 : am_c 20 = 20 := rfl
  have l99 : am_c 99 = 99 := rfl
  have l1000000000 : am_c 1000000000 = 1000000000 := rfl
  refine am_go (ct := fun _ => false) am_oX6_notTwo 300 ?_
  conv => whnf
  repeat' first
    | (refine (?_ : am_wp _ _ _ _ _ _ _ _ _ _ _ _); conv => whnf)
    | (refine (?_ : am_sw _ _ _ _); conv => whnf)
    | refine And.intro trivial ?_
    | exact trivial
    | ((with_reducible refine (?_ : am_Does _ 1 _ _ _)); first | refine x_has1 _ f0 f1 (fun y0 y1 => ?_) (fun y => ?_) | refine x_has1 _ f0 f1 (fun z0 z1 => ?_) (fun z => ?_))
    | refine k1 ?_
    | refine k0 ?_ ?_ ?_
    | refine And.intro (fun h => absurd h (by decide)) (fun _ => ?_)
    | refine And.intro (fun _ => ?_) (fun h => absurd (by decide) h)
    | refine And.intro (fun _ => ?_) (fun _ => ?_)
    | refine And.intro ?_ ?_
  all_goals (first | decide | omega | (trace_state; fail))
