theorem s_gained {l : Launch} {ν : am_N} {Q : Option am_V → am_N → Prop} (i s : Int) (hw : fp_fw 999 (fv ν 1)) (h0 : 0 ≤ i) (h1 : i < ν 1 4) (s0 : 0 ≤ s) (s1 : s ≤ 99) (k : ∀ v : Int, v = fp_wo (fv ν 1) i.toNat s → am_c v = v → Q (some (.inl v)) ν) : am_Does l 128 [.inr (.inr 0), .inl i, .inl s] ν Q := by
  refine am_Does_of (Nat.le_of_ble_eq_true rfl) (Nat.le_of_ble_eq_true rfl) (Nat.le_of_ble_eq_true rfl) ?_
  refine am_go (ct := fun _ => false) am_oX6_gained 300 ?_
  conv => whnf
  repeat' first
    | (refine (?_ : am_wp _ _ _ _ _ _ _ _ _ _ _ _); conv => whnf)
    | (refine (?_ : am_sw _ _ _ _); conv => whnf)
    | refine And.intro trivial ?_
    | exact trivial
    | ((with_reducible refine (?_ : am_Does _ 9 _ _ _)); refine s_tenthsFrom _ _ hw ?_ ?_ ?_ ?_ (fun v ev v0 v1 => ?_))
    | refine k _ ?_ (am_cR (by omega) (by omega))
    | refine And.intro (fun h => absurd h (by decide)) (fun _ => ?_)
    | refine And.intro (fun _ => ?_) (fun h => absurd (by decide) h)
    | refine And.intro (fun _ => ?_) (fun _ => ?_)
    | refine And.intro ?_ ?_
  all_goals (first | decide | assumption | omega | (unfold fp_wo; rw [← ev]; first | (rw [← by assumption]) | (congr 1; done) | (subst_vars; rfl)) | (unfold fp_wo; subst_vars; rfl) | (trace_state; fail))
