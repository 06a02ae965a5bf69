theorem x_become {l : Launch} {ν : am_N} {Q : Option am_V → am_N → Prop} (w v : Int) (cw : am_c w = w) (k : Q none (am_up ν 1 (fp_sl w) v)) : am_Does l 7 [.inr (.inr 1), .inl w, .inl v] ν Q := by
  refine am_Does_of (Nat.le_of_ble_eq_true rfl) (Nat.le_of_ble_eq_true rfl) (Nat.le_of_ble_eq_true rfl) ?_
  have kk := fun (j : Nat) (e : j = fp_sl w) => (show Q none (am_up ν 1 j v) by rw [e]; exact k)
  refine am_go (ct := fun _ => false) am_oX0_become 300 ?_
  conv => whnf
  repeat' first
    | (refine (?_ : am_wp _ _ _ _ _ _ _ _ _ _ _ _); conv => whnf)
    | (refine (?_ : am_sw _ _ _ _); conv => whnf)
    | refine And.intro trivial ?_
    | exact trivial
    | refine kk _ ?_
    | refine And.intro (fun h => absurd h (by decide)) (fun _ => ?_)
    | refine And.intro (fun _ => ?_) (fun h => absurd (by decide) h)
    | refine And.intro (fun _ => ?_) (fun _ => ?_)
    | refine And.intro ?_ ?_
  all_goals (first | (unfold fp_sl; rw [if_pos (by omega)]) | (unfold fp_sl; rw [if_neg (by omega), if_pos (by omega)]) | (unfold fp_sl; rw [if_neg (by omega), if_neg (by omega), if_pos (by omega)]) | (unfold fp_sl; rw [if_neg (by omega), if_neg (by omega), if_neg (by omega)]) | (trace_state; fail))
