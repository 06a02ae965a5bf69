theorem x_rat_50 {l : Launch} {ν : am_N} {Q : Option am_V → am_N → Prop} (i : Int) (i0 : 0 ≤ i) (i1 : i < ν 50 1) (hn : ν 50 1 ≤ 6) (k : Q (some (.inl (ν 51 i.toNat))) ν) : am_Does l 43 [.inr (.inr 50), .inl i] ν Q := by
  refine am_Does_of (Nat.le_of_ble_eq_true rfl) (Nat.le_of_ble_eq_true rfl) (Nat.le_of_ble_eq_true rfl) ?_
  have l0 : am_c 0 = 0 := rfl
  have ci : am_c i = i := am_cR (by omega) (by omega)
  have cn : am_c (ν 50 1) = ν 50 1 := am_cR (by omega) (by omega)
  refine am_go (ct := fun _ => false) am_oX3_at 300 ?_
  conv => whnf
  repeat' first
    | (refine (?_ : am_wp _ _ _ _ _ _ _ _ _ _ _ _); conv => whnf)
    | (refine (?_ : am_sw _ _ _ _); conv => whnf)
    | refine And.intro trivial ?_
    | exact trivial
    | refine am_qe k ?_
    | refine And.intro (fun h => absurd h (by decide)) (fun _ => ?_)
    | refine And.intro (fun _ => ?_) (fun h => absurd (by decide) h)
    | refine And.intro (fun _ => ?_) (fun _ => ?_)
    | refine And.intro ?_ ?_
  all_goals (first | decide | omega | (simp only [ci, cn] at *; omega) | (rw [ci]) | (exfalso; simp only [ci, cn] at *; omega) | (trace_state; fail))
