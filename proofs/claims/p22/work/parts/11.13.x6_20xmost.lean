theorem x_most {l : Launch} {μ : am_N} {Q : Option am_V → am_N → Prop} (c : Int) (c0 : -1 ≤ c) (c1 : c ≤ 255) (k : ∀ m : Int, m = am_ld c → -1 ≤ m → m ≤ 8 → am_c m = m → Q (some (.inl m)) μ) : am_Does l 53 [.inl c] μ Q := by
  refine am_Does_of (Nat.le_of_ble_eq_true rfl) (Nat.le_of_ble_eq_true rfl) (Nat.le_of_ble_eq_true rfl) ?_
  have cc : am_c c = c := am_cR (by omega) (by omega)
  have hb := am_ld_b c
  have kk := k _ rfl hb.1 hb.2 (am_cR (by omega) (by omega))
  clear hb
  refine am_go (ct := fun _ => false) am_oX5_mostDigits 300 ?_
  conv => whnf
  repeat' first
    | (refine (?_ : am_wp _ _ _ _ _ _ _ _ _ _ _ _); conv => whnf)
    | (refine (?_ : am_sw _ _ _ _); conv => whnf)
    | refine And.intro trivial ?_
    | exact trivial
    | refine am_qe kk ?_
    | refine And.intro (fun h => absurd h (by decide)) (fun _ => ?_)
    | refine And.intro (fun _ => ?_) (fun h => absurd (by decide) h)
    | refine And.intro (fun _ => ?_) (fun _ => ?_)
    | refine And.intro ?_ ?_
  all_goals (first | decide | omega | (unfold am_ld; repeat' split) <;> omega | (trace_state; fail))
