theorem n_timeBy {l : Launch} {ν : am_N} {Q : Option am_V → am_N → Prop} (i s : Int) (hw : fp_fw 999 (mv ν)) (h0 : 0 ≤ i) (h1 : i < ν 83 14) (s0 : 0 ≤ s) (s1 : s ≤ 99) (k : ∀ v : Int, v = fp_to (mv ν) i.toNat (mv ν 0 0 - s) s → 1 ≤ v → v ≤ 60000 → Q (some (.inl v)) ν) : am_Does l 163 [.inr (.inr 83), .inl i, .inl s] ν Q := by
  refine am_Does_of (Nat.le_of_ble_eq_true rfl) (Nat.le_of_ble_eq_true rfl) (Nat.le_of_ble_eq_true rfl) ?_
  have l0 : am_c 0 = 0 := rfl
  have l1 : am_c 1 = 1 := rfl
  have l2 : am_c 2 = 2 := rfl
  have l20 : am_c 20 = 20 := rfl
  have l99 : am_c 99 = 99 := rfl
  have l1000000000 : am_c 1000000000 = 1000000000 := rfl
  have m1' : am_c (-1) = -1 := rfl
  have m4' : am_c (-4) = -4 := rfl
  have m6' : am_c (-6) = -6 := rfl
  have m2' : am_c (-2) = -2 := rfl
  obtain ⟨hf, -, -, -, hway, -, -⟩ := fw_M hw (by decide)
  have f0 := hf.1.1
  have f1 := hf.1.2
  have e4 : mv ν 0 4 = ν 83 14 := rfl
  have eW : mv ν 0 0 = ν 83 10 := rfl
  refine am_go (ct := fun _ => false) am_oX7_timeBy 300 ?_
  conv => whnf
  repeat' first
    | (refine (?_ : am_wp _ _ _ _ _ _ _ _ _ _ _ _); conv => whnf)
    | (refine (?_ : am_sw _ _ _ _); conv => whnf)
    | refine And.intro trivial ?_
    | exact trivial
    | ((with_reducible refine (?_ : am_Does _ 162 _ _ _)); refine n_timeOver _ _ _ hw ?_ ?_ ?_ ?_ ?_ ?_ (fun v ev v0 v1 cv => ?_))
    | refine k _ ?_ v0 v1
    | refine And.intro (fun h => absurd h (by decide)) (fun _ => ?_)
    | refine And.intro (fun _ => ?_) (fun h => absurd (by decide) h)
    | refine And.intro (fun _ => ?_) (fun _ => ?_)
    | refine And.intro ?_ ?_
  all_goals (first | decide | assumption | omega | exact ev | (trace_state; fail))
