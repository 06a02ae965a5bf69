theorem x_hasT_8 {l : Launch} {ν : am_N} {Q : Option am_V → am_N → Prop} (i : Int) (h0 : 0 ≤ i) (h1 : i < ν 8 4) (hn : ν 8 4 ≤ 4) (k : Q (some (.inl 1)) ν) : am_Does l 1 [.inr (.inr 8), .inl i] ν Q := by
  refine am_Does_of (Nat.le_of_ble_eq_true rfl) (Nat.le_of_ble_eq_true rfl) (Nat.le_of_ble_eq_true rfl) ?_
  have ci : am_c i = i := am_cR (by omega) (by omega)
  have cn : am_c (ν 8 4) = ν 8 4 := am_cR (by omega) (by omega)
  have c0 : am_c 0 = 0 := rfl
  refine am_go (ct := fun _ => false) am_oX0_has 300 ?_
  conv => whnf
  repeat' first
    | (refine (?_ : am_wp _ _ _ _ _ _ _ _ _ _ _ _); conv => whnf)
    | (refine (?_ : am_sw _ _ _ _); conv => whnf)
    | refine And.intro trivial ?_
    | exact trivial
    | exact k
    | refine And.intro (fun h => absurd h (by decide)) (fun _ => ?_)
    | refine And.intro (fun _ => ?_) (fun h => absurd (by decide) h)
    | refine And.intro (fun _ => ?_) (fun _ => ?_)
    | refine And.intro ?_ ?_
  all_goals (first | decide | omega | (exfalso; simp only [ci, cn, c0] at *; omega) | (simp only [ci, cn, c0] at *; omega) | (trace_state; fail))
