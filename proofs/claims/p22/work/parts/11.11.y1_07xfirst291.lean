theorem x_first_29_1 {l : Launch} {ν : am_N} {Q : Option am_V → am_N → Prop} (F : Int) (h : ν 34 0 = F) (hn : 0 < ν 29 0) (hn1 : ν 29 0 ≤ 4) (k : Q (some (.inl F)) ν) : am_Does l 37 [.inr (.inr 29)] ν Q := by
  refine am_Does_of (Nat.le_of_ble_eq_true rfl) (Nat.le_of_ble_eq_true rfl) (Nat.le_of_ble_eq_true rfl) ?_
  have cn : am_c (ν 29 0) = ν 29 0 := am_cR (by omega) (by omega)
  have c0 : am_c 0 = 0 := rfl
  refine am_go (ct := fun _ => false) am_oX2_first 300 ?_
  conv => whnf
  repeat' first
    | (refine (?_ : am_wp _ _ _ _ _ _ _ _ _ _ _ _); conv => whnf)
    | (refine (?_ : am_sw _ _ _ _); conv => whnf)
    | refine And.intro trivial ?_
    | exact trivial
    | refine am_qe k ?_
    | refine And.intro (fun h => absurd h (by decide)) (fun _ => ?_)
    | refine And.intro (fun _ => ?_) (fun h => absurd (by decide) h)
    | refine And.intro (fun _ => ?_) (fun _ => ?_)
    | refine And.intro ?_ ?_
  all_goals (first | decide | omega | exact h | (simp only [cn, c0] at *; omega) | (trace_state; fail))
