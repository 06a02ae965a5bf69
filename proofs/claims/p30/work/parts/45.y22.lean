/-! when STARTS settle, which RULE is best -/
theorem n_gap {l : Launch} {ν : am_N} {Q : Option am_V → am_N → Prop} (P S : Int) (hP : ν 100 0 = P) (hS : ν 100 1 = S) (P0 : 0 ≤ P) (P1 : P < 4) (S0 : 0 ≤ S) (S1 : S < 4) (k : Q (some (.inl (ν 99 S.toNat - ν 99 P.toNat))) ν) : am_Does l 189 [.inr (.inr 83)] ν Q := by
  refine am_Does_of (Nat.le_of_ble_eq_true rfl) (Nat.le_of_ble_eq_true rfl) (Nat.le_of_ble_eq_true rfl) ?_
  have l0 : am_c 0 = 0 := rfl
  have l1 : am_c 1 = 1 := rfl
  have l2 : am_c 2 = 2 := rfl
  have l4 : am_c 4 = 4 := rfl
  have l5 : am_c 5 = 5 := rfl
  have l60 : am_c 60 = 60 := rfl
  have l100 : am_c 100 = 100 := rfl
  have w0 : ν 100 (am_c 0).toNat = P := hP
  have w1 : ν 100 (am_c 1).toNat = S := hS
  have cP : am_c P = P := am_cR (by omega) (by omega)
  have cS : am_c S = S := am_cR (by omega) (by omega)
  refine am_go (ct := fun _ => false) am_oX7_gap 300 ?_
  conv => whnf
  repeat' first
    | (refine (?_ : am_wp _ _ _ _ _ _ _ _ _ _ _ _); conv => whnf)
    | (refine (?_ : am_sw _ _ _ _); conv => whnf)
    | refine And.intro trivial ?_
    | exact trivial
    | refine am_qe k ?_
    | refine And.intro (fun h => absurd h (by decide)) (fun _ => ?_)
    | refine And.intro (fun _ => ?_) (fun h => absurd (by decide) h)
    | refine And.intro (fun _ => ?_) (fun _ => ?_)
    | refine And.intro ?_ ?_
  all_goals (first | decide | omega | (rw [w1, cS]; omega) | (rw [w0, cP]; omega) | (rw [w0, w1, cP, cS]) | (trace_state; fail))
