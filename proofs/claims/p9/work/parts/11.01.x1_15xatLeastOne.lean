theorem x_atLeastOne {l : Launch} {μ : am_N} {Q : Option am_V → am_N → Prop} (v : Int) (h0 : -2147483648 ≤ v) (h1 : v ≤ 2147483647) (k : Q (some (.inl (if v < 1 then 1 else v))) μ) : am_Does l 145 [.inl v] μ Q := by
  refine am_Does_of (Nat.le_of_ble_eq_true rfl) (Nat.le_of_ble_eq_true rfl) (Nat.le_of_ble_eq_true rfl) ?_
  have cv : am_c v = v := am_cR (by omega) (by omega)
  have c1 : am_c 1 = 1 := rfl
  refine am_go (ct := fun _ => false) am_oX7_atLeastOne 300 ?_
  conv => whnf
  repeat' first
    | (refine (?_ : am_wp _ _ _ _ _ _ _ _ _ _ _ _); conv => whnf)
    | (refine (?_ : am_sw _ _ _ _); conv => whnf)
    | refine And.intro trivial ?_
    | exact trivial
    | refine am_qe k ?_
    | refine And.intro (fun h => absurd h (by decide)) (fun _ => ?_)
    | refine And.intro (fun _ => ?_) (fun h => absurd (by decide) h)
    | refine And.intro (fun _ => ?_) (fun _ => ?_)
    | refine And.intro ?_ ?_
  all_goals (first | omega | (simp only [cv, c1] at *; first | (rw [if_pos (by omega)]) | (rw [if_neg (by omega)])) | (trace_state; fail))
