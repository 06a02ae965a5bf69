theorem x_bound {l : Launch} {μ : am_N} {Q : Option am_V → am_N → Prop} (v a b : Int) (cv : am_c v = v) (ca : am_c a = a) (cb : am_c b = b) (k1 : v < a → Q (some (.inl (-4))) μ) (k2 : b < v → Q (some (.inl (-6))) μ) (k3 : a ≤ v → v ≤ b → Q (some (.inl 0)) μ) : am_Does l 144 [.inl v, .inl a, .inl b] μ Q := by
  refine am_Does_of (Nat.le_of_ble_eq_true rfl) (Nat.le_of_ble_eq_true rfl) (Nat.le_of_ble_eq_true rfl) ?_
  refine am_go (ct := fun _ => false) am_oX7_bound 300 ?_
  conv => whnf
  repeat' first
    | (refine (?_ : am_wp _ _ _ _ _ _ _ _ _ _ _ _); conv => whnf)
    | (refine (?_ : am_sw _ _ _ _); conv => whnf)
    | refine And.intro trivial ?_
    | exact trivial
    | refine k1 ?_
    | refine k2 ?_
    | refine k3 ?_ ?_
    | refine And.intro (fun h => absurd h (by decide)) (fun _ => ?_)
    | refine And.intro (fun _ => ?_) (fun h => absurd (by decide) h)
    | refine And.intro (fun _ => ?_) (fun _ => ?_)
    | refine And.intro ?_ ?_
  all_goals (first | omega | (trace_state; fail))
