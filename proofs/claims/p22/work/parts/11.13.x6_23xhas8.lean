theorem x_has8 {l : Launch} {ν : am_N} {Q : Option am_V → am_N → Prop} (i : Int) (f0 : 0 ≤ ν 8 4) (f1 : ν 8 4 ≤ 4) (k1 : 0 ≤ am_c i → am_c i < ν 8 4 → Q (some (.inl 1)) ν) (k0 : (am_c i < 0 ∨ ν 8 4 ≤ am_c i) → Q (some (.inl 0)) ν) : am_Does l 1 [.inr (.inr 8), .inl i] ν Q := by
  refine am_Does_of (Nat.le_of_ble_eq_true rfl) (Nat.le_of_ble_eq_true rfl) (Nat.le_of_ble_eq_true rfl) ?_
  have c4 : am_c (ν 8 4) = ν 8 4 := am_cR (by omega) (by omega)
  have l0 : am_c 0 = 0 := rfl
  refine am_go (ct := fun _ => false) am_oX0_has 300 ?_
  conv => whnf
  repeat' first
    | (refine (?_ : am_wp _ _ _ _ _ _ _ _ _ _ _ _); conv => whnf)
    | (refine (?_ : am_sw _ _ _ _); conv => whnf)
    | refine And.intro trivial ?_
    | exact trivial
    | refine k1 ?_ ?_
    | refine k0 ?_
    | refine And.intro (fun h => absurd h (by decide)) (fun _ => ?_)
    | refine And.intro (fun _ => ?_) (fun h => absurd (by decide) h)
    | refine And.intro (fun _ => ?_) (fun _ => ?_)
    | refine And.intro ?_ ?_
  all_goals (first | omega | (trace_state; fail))
