theorem n_worthOf {l : Launch} {ν : am_N} {Q : Option am_V → am_N → Prop} (i s : Int) (hw : fp_fw 999 (mv ν)) (h0 : 0 ≤ i) (h1 : i < ν 83 14) (s0 : 0 ≤ s) (s1 : s ≤ 99) (k : ∀ v : Int, v = fp_wo (mv ν) i.toNat s → am_c v = v → Q (some (.inl v)) ν) : am_Does l 206 [.inr (.inr 83), .inl i, .inl s] ν Q := by
  refine am_Does_of (Nat.le_of_ble_eq_true rfl) (Nat.le_of_ble_eq_true rfl) (Nat.le_of_ble_eq_true rfl) ?_
  refine am_go (ct := fun _ => false) am_oX7_worthOf 300 ?_
  conv => whnf
  repeat' first
    | (refine (?_ : am_wp _ _ _ _ _ _ _ _ _ _ _ _); conv => whnf)
    | (refine (?_ : am_sw _ _ _ _); conv => whnf)
    | refine And.intro trivial ?_
    | exact trivial
    | ((with_reducible refine (?_ : am_Does _ 163 _ _ _)); refine n_timeBy _ _ hw ?_ ?_ ?_ ?_ (fun v ev v0 v1 => ?_))
    | refine k _ ?_ (am_cR (by omega) (by omega))
    | refine And.intro (fun h => absurd h (by decide)) (fun _ => ?_)
    | refine And.intro (fun _ => ?_) (fun h => absurd (by decide) h)
    | refine And.intro (fun _ => ?_) (fun _ => ?_)
    | refine And.intro ?_ ?_
  all_goals (first | decide | assumption | omega | (unfold fp_wo; subst_vars; rfl) | (trace_state; fail))
