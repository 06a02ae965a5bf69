theorem n_back0 {l : Launch} {ν : am_N} {Q : Option am_V → am_N → Prop} (h : ν 83 33 = 0) (k0 : ∀ μ' : am_N, (∀ a b, a ≠ 84 → μ' a b = ν a b) → Q (some (.inl (-3))) μ') : am_Does l 180 [.inr (.inr 83)] ν Q := by
  refine am_Does_of (Nat.le_of_ble_eq_true rfl) (Nat.le_of_ble_eq_true rfl) (Nat.le_of_ble_eq_true rfl) ?_
  have c33 : am_c (ν 83 33) = 0 := by rw [h]; rfl
  refine am_go (ct := fun _ => false) am_oX7_back 300 ?_
  conv => whnf
  repeat' first
    | (refine (?_ : am_wp _ _ _ _ _ _ _ _ _ _ _ _); conv => whnf)
    | (refine (?_ : am_sw _ _ _ _); conv => whnf)
    | refine And.intro trivial ?_
    | exact trivial
    | ((with_reducible refine (?_ : am_Does _ 140 _ _ _)); refine x_no _ ?_ (fun μr fr => ?_))
    | exact k0 _ fr
    | refine And.intro (fun z => absurd c33 z) (fun _ => ?_)
    | refine And.intro (fun h => absurd h (by decide)) (fun _ => ?_)
    | refine And.intro (fun _ => ?_) (fun h => absurd (by decide) h)
    | refine And.intro (fun _ => ?_) (fun _ => ?_)
    | refine And.intro ?_ ?_
  all_goals (first | decide | omega | (trace_state; fail))
