theorem x_two {l : Launch} {ν : am_N} {Q : Option am_V → am_N → Prop} (t : Nat → Int) (n p : Int) (ht : ν 37 = t) (hn : ν 36 1 = n) (n0 : 0 ≤ n) (n1 : n ≤ 96) (hL : ∀ i : Nat, (i : Int) < n → 0 ≤ t i ∧ t i ≤ 255) (i0 : -1000 ≤ p) (i1 : p ≤ 999) (k : ∀ d : Int, d = fp_2 t n p → am_c d = d → Q (some (.inl d)) ν) : am_Does l 55 [.inr (.inr 35), .inl p] ν Q := by
  refine am_Does_of (Nat.le_of_ble_eq_true rfl) (Nat.le_of_ble_eq_true rfl) (Nat.le_of_ble_eq_true rfl) ?_
  have hb := am_dt_b t n p
  have hb2 := am_dt_b t n (p + 1)
  have kk := k _ rfl (am_cR (by unfold fp_2; omega) (by unfold fp_2; omega))
  clear hb hb2
  refine am_go (ct := fun _ => false) am_oX5_two 300 ?_
  conv => whnf
  repeat' first
    | (refine (?_ : am_wp _ _ _ _ _ _ _ _ _ _ _ _); conv => whnf)
    | (refine (?_ : am_sw _ _ _ _); conv => whnf)
    | refine And.intro trivial ?_
    | exact trivial
    | ((with_reducible refine (?_ : am_Does _ 54 _ _ _)); refine x_digit t n _ ?_ ?_ n0 n1 hL ?_ ?_ (fun u eu u0 u1 cu => ?_))
    | refine am_qe kk ?_
    | refine And.intro (fun h => absurd h (by decide)) (fun _ => ?_)
    | refine And.intro (fun _ => ?_) (fun h => absurd (by decide) h)
    | refine And.intro (fun _ => ?_) (fun _ => ?_)
    | refine And.intro ?_ ?_
  all_goals (first | decide | exact ht | exact hn | omega | (unfold fp_2; omega) | (unfold fp_2; subst_vars; rfl) | (trace_state; fail))
