theorem x_timeOf {l : Launch} {ν : am_N} {Q : Option am_V → am_N → Prop} (i : Int) (hi0 : 0 ≤ i) (hi1 : i < ν 83 14) (hf : am_fM ν) (k : Q (some (.inl (am_TM ν i.toNat))) ν) : am_Does l 164 [.inr (.inr 83), .inl i] ν Q := by
  refine am_Does_of (Nat.le_of_ble_eq_true rfl) (Nat.le_of_ble_eq_true rfl) (Nat.le_of_ble_eq_true rfl) ?_
  have hn := hf.1.2
  have ci : am_c i = i := am_cR (by omega) (by omega)
  have ei : (am_c i).toNat = i.toNat := by rw [ci]
  have z := hf.2.2 i.toNat (by omega)
  have z2 := z.2
  unfold am_TM at k
  refine am_go (ct := fun _ => false) am_oX7_timeOf 300 ?_
  conv => whnf
  repeat' first
    | (refine (?_ : am_wp _ _ _ _ _ _ _ _ _ _ _ _); conv => whnf)
    | (refine (?_ : am_sw _ _ _ _); conv => whnf)
    | refine And.intro trivial ?_
    | exact trivial
    | exact hf
    | ((with_reducible refine (?_ : am_Does _ 163 _ _ _)); refine x_timeBy _ _ ?_ ?_ ?_ ?_ ?_ ?_)
    | refine And.intro (fun h => absurd h (by decide)) (fun _ => ?_)
    | refine And.intro (fun _ => ?_) (fun h => absurd (by decide) h)
    | refine And.intro (fun _ => ?_) (fun _ => ?_)
    | refine And.intro ?_ ?_
  all_goals (first | assumption | omega | (simp only [ei, ci] at *; first | assumption | omega | exact k) | (trace_state; fail))
