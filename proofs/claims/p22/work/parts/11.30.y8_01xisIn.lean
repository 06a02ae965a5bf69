theorem x_isIn {l : Launch} {μ : am_N} {Q : Option am_V → am_N → Prop} (w v a b : Int) (e : w = v) (cv : am_c w = w) (ca : am_c a = a) (cb : am_c b = b) (k1 : a ≤ w → w ≤ b → Q (some (.inl 1)) μ) (k2 : w < a ∨ b < w → Q (some (.inl 0)) μ) : am_Does l 143 [.inl v, .inl a, .inl b] μ Q := by
  refine am_Does_of (Nat.le_of_ble_eq_true rfl) (Nat.le_of_ble_eq_true rfl) (Nat.le_of_ble_eq_true rfl) ?_
  subst e
  refine am_go (ct := fun _ => false) am_oX7_isIn 300 ?_
  conv => whnf
  repeat' first
    | (refine (?_ : am_wp _ _ _ _ _ _ _ _ _ _ _ _); conv => whnf)
    | (refine (?_ : am_sw _ _ _ _); conv => whnf)
    | refine And.intro trivial ?_
    | exact trivial
    | refine k1 ?_ ?_
    | refine k2 ?_
    | refine And.intro (fun h => absurd h (by decide)) (fun _ => ?_)
    | refine And.intro (fun _ => ?_) (fun h => absurd (by decide) h)
    | refine And.intro (fun _ => ?_) (fun _ => ?_)
    | refine And.intro ?_ ?_
  all_goals (first | omega | (trace_state; fail))
