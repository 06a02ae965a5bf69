theorem x_timeBy {l : Launch} {ν : am_N} {Q : Option am_V → am_N → Prop} (i s : Int) (hi0 : 0 ≤ i) (hi1 : i < ν 83 14) (hf : am_fM ν) (s0 : 0 ≤ s) (s1 : s ≤ 99) (k : Q (some (.inl (am_T (ν 87 i.toNat) (ν 86 i.toNat) (ν 85 i.toNat) (ν 83 11) (am_y (ν 83 10 - s)) s))) ν) : am_Does l 163 [.inr (.inr 83), .inl i, .inl s] ν Q := by
  refine am_Does_of (Nat.le_of_ble_eq_true rfl) (Nat.le_of_ble_eq_true rfl) (Nat.le_of_ble_eq_true rfl) ?_
  have hn := hf.1.2
  have z := hf.2.2 i.toNat (by omega)
  have w := hf.2.1
  refine am_go (ct := fun _ => false) am_oX7_timeBy 300 ?_
  conv => whnf
  repeat' first
    | (refine (?_ : am_wp _ _ _ _ _ _ _ _ _ _ _ _); conv => whnf)
    | (refine (?_ : am_sw _ _ _ _); conv => whnf)
    | refine And.intro trivial ?_
    | exact trivial
    | exact z.1
    | ((with_reducible refine (?_ : am_Does _ 162 _ _ _)); refine x_timeOver _ _ _ ?_ ?_ ?_ ?_ ?_ ?_ ?_ ?_ ?_)
    | refine And.intro (fun h => absurd h (by decide)) (fun _ => ?_)
    | refine And.intro (fun _ => ?_) (fun h => absurd (by decide) h)
    | refine And.intro (fun _ => ?_) (fun _ => ?_)
    | refine And.intro ?_ ?_
  all_goals (first | assumption | exact z.1 | omega | (trace_state; fail))
