/-! needed -/
def fp_rt (n : Int) (f : Nat → Int) : Nat → Int := fun b => if (b : Int) < n then f b else 0
theorem fp_rt_i {n : Int} {f : Nat → Int} {b : Nat} (h : (b : Int) < n) : fp_rt n f b = f b := if_pos h
theorem x_at_44 {l : Launch} {ν : am_N} {Q : Option am_V → am_N → Prop} (i : Int) (i0 : 0 ≤ i) (i1 : i < ν 44 1) (n1 : ν 44 1 ≤ 12) (k : Q (some (.inl (ν 45 i.toNat))) ν) : am_Does l 43 [.inr (.inr 44), .inl i] ν Q := by
  refine am_Does_of (Nat.le_of_ble_eq_true rfl) (Nat.le_of_ble_eq_true rfl) (Nat.le_of_ble_eq_true rfl) ?_
  have l0 : am_c 0 = 0 := rfl
  have l1 : am_c 1 = 1 := rfl
  have l9 : am_c 9 = 9 := rfl
  have l10 : am_c 10 = 10 := rfl
  have l12 : am_c 12 = 12 := rfl
  have l60 : am_c 60 = 60 := rfl
  have l99 : am_c 99 = 99 := rfl
  have ci : am_c i = i := am_cR (by omega) (by omega)
  have cn : am_c (ν 44 1) = ν 44 1 := am_cR (by omega) (by omega)
  have ei : (am_c i).toNat = i.toNat := by rw [ci]
  refine am_go (ct := fun _ => false) am_oX3_at 300 ?_
  conv => whnf
  repeat' first
    | (refine (?_ : am_wp _ _ _ _ _ _ _ _ _ _ _ _); conv => whnf)
    | (refine (?_ : am_sw _ _ _ _); conv => whnf)
    | refine And.intro trivial ?_
    | exact trivial
    | refine am_qe k ?_
    | refine And.intro (fun z => absurd z (by rw [ci]; omega)) (fun _ => ?_)
    | refine And.intro (fun z => absurd z (by rw [ci, cn]; omega)) (fun _ => ?_)
    | refine And.intro (fun h => absurd h (by decide)) (fun _ => ?_)
    | refine And.intro (fun _ => ?_) (fun h => absurd (by decide) h)
    | refine And.intro (fun _ => ?_) (fun _ => ?_)
    | refine And.intro ?_ ?_
  all_goals (first | decide | omega | (rw [ci]; omega) | (rw [ei]) | (trace_state; fail))
