/-- what set() sets: the number's place -/
def fp_sl (w : Int) : Nat := if w = 0 then 0 else if w = 1 then 2 else if w = 2 then 3 else 1
/-- within bounds -/
def fp_sb (w v : Int) : Prop := if w = 0 then 20 ≤ v ∧ v ≤ 200 else if w = 1 then 0 ≤ v ∧ v ≤ 4 else if w = 2 then 1 ≤ v ∧ v ≤ 9 else 0 ≤ v ∧ v ≤ 999
theorem x_setting {l : Launch} {ν : am_N} {Q : Option am_V → am_N → Prop} (w : Int) (cw : am_c w = w) (k : Q (some (.inl (ν 1 (fp_sl w)))) ν) : am_Does l 6 [.inr (.inr 1), .inl w] ν Q := by
  refine am_Does_of (Nat.le_of_ble_eq_true rfl) (Nat.le_of_ble_eq_true rfl) (Nat.le_of_ble_eq_true rfl) ?_
  have l1 : am_c 1 = 1 := rfl
  have l2 : am_c 2 = 2 := rfl
  refine am_go (ct := fun _ => false) am_oX0_setting 300 ?_
  conv => whnf
  repeat' first
    | (refine (?_ : am_wp _ _ _ _ _ _ _ _ _ _ _ _); conv => whnf)
    | (refine (?_ : am_sw _ _ _ _); conv => whnf)
    | refine And.intro trivial ?_
    | exact trivial
    | refine am_qe k ?_
    | refine And.intro (fun h => absurd h (by decide)) (fun _ => ?_)
    | refine And.intro (fun _ => ?_) (fun h => absurd (by decide) h)
    | refine And.intro (fun _ => ?_) (fun _ => ?_)
    | refine And.intro ?_ ?_
  all_goals (first | (unfold fp_sl; rw [if_pos (by omega)]) | (unfold fp_sl; rw [if_neg (by omega), if_pos (by omega)]) | (unfold fp_sl; rw [if_neg (by omega), if_neg (by omega), if_pos (by omega)]) | (unfold fp_sl; rw [if_neg (by omega), if_neg (by omega), if_neg (by omega)]) | (trace_state; fail))
