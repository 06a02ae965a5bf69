theorem x_tenths_1 {l : Launch} {ν : am_N} {Q : Option am_V → am_N → Prop} (i : Int) (hi0 : 0 ≤ i) (hi1 : i < ν 1 4) (hf : am_fC ν 1) (k : Q (some (.inl (am_TC ν 1 i.toNat))) ν) : am_Does l 8 [.inr (.inr 1), .inl i] ν Q := by
  refine am_Does_of (Nat.le_of_ble_eq_true rfl) (Nat.le_of_ble_eq_true rfl) (Nat.le_of_ble_eq_true rfl) ?_
  have hn := hf.1.2
  have ci : am_c i = i := am_cR (by omega) (by omega)
  have ei : (am_c i).toNat = i.toNat := by rw [ci]
  have cn : am_c (ν 1 4) = ν 1 4 := am_cR (by omega) (by omega)
  have z := hf.2.2 i.toNat (by omega)
  have w := hf.2.1
  have z2 : 0 ≤ ν 6 i.toNat ∧ ν 6 i.toNat ≤ 99 := z.2
  refine am_go (ct := fun _ => false) am_oX0_tenths 300 ?_
  conv => whnf
  repeat' first
    | (refine (?_ : am_wp _ _ _ _ _ _ _ _ _ _ _ _); conv => whnf)
    | (refine (?_ : am_sw _ _ _ _); conv => whnf)
    | refine And.intro trivial ?_
    | exact trivial
    | exact z.1
    | ((with_reducible refine (?_ : am_Does _ 10 _ _ _)); refine x_tenthsOver_1 _ _ _ ?_ ?_ ?_ ?_ ?_ ?_ ?_ ?_ ?_)
    | refine And.intro (fun h => absurd h (by decide)) (fun _ => ?_)
    | refine And.intro (fun _ => ?_) (fun h => absurd (by decide) h)
    | refine And.intro (fun _ => ?_) (fun _ => ?_)
    | refine And.intro ?_ ?_
  all_goals (first | assumption | decide | omega | exact z.1 | (simp only [ei, ci, cn] at *; first | assumption | omega | exact z.1 | exact k) | (unfold am_TC at k; simp only [ei, ci] at *; exact k) | (trace_state; fail))
