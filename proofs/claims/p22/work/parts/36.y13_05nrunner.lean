theorem n_runner {l : Launch} {ν : am_N} {Q : Option am_V → am_N → Prop} (i w : Int) (ci : am_c i = i) (cw : am_c w = w) (hw : fp_fw 999 (mv ν)) (k : ∀ μ' : am_N, (∀ a b, a ≠ 84 → μ' a b = ν a b) → Q (some (.inl (fp_ru (mv ν) i w))) μ') : am_Does l 173 [.inr (.inr 83), .inl i, .inl w] ν Q := by
  refine am_Does_of (Nat.le_of_ble_eq_true rfl) (Nat.le_of_ble_eq_true rfl) (Nat.le_of_ble_eq_true rfl) ?_
  have l0 : am_c 0 = 0 := rfl
  have l1 : am_c 1 = 1 := rfl
  have l2 : am_c 2 = 2 := rfl
  have l3 : am_c 3 = 3 := rfl
  have l4 : am_c 4 = 4 := rfl
  have l5 : am_c 5 = 5 := rfl
  have l6 : am_c 6 = 6 := rfl
  obtain ⟨hf, -, -, -, -, -, -⟩ := fw_M hw (by decide)
  have f0 := hf.1.1
  have f1 := hf.1.2
  have kk := fun (x : Int) (e : x = fp_ru (mv ν) i w) (μ' : am_N) (h : ∀ a b, a ≠ 84 → μ' a b = ν a b) => am_qe (k μ' h) e
  refine am_go (ct := fun _ => false) am_oX7_runner 300 ?_
  conv => whnf
  repeat' first
    | (refine (?_ : am_wp _ _ _ _ _ _ _ _ _ _ _ _); conv => whnf)
    | (refine (?_ : am_sw _ _ _ _); conv => whnf)
    | refine And.intro trivial ?_
    | exact trivial
    | ((with_reducible refine (?_ : am_Does _ 146 _ _ _)); refine x_isRunnerT _ f0 f1 (fun y0 y1 => ?_) (fun y => ?_))
    | ((with_reducible refine (?_ : am_Does _ 140 _ _ _)); refine x_no _ ?_ (fun μr fr => ?_))
    | ((with_reducible refine (?_ : am_Does _ 164 _ _ _)); (refine x_timeOf i ?_ ?_ hf ?_))
    | exact kk _ (by first | (rw [fp_ru_7 (show 0 ≤ i ∧ i < mv ν 0 4 by rw [mv_n]; omega) (by omega)]; done) | (rw [fp_ru_n (show ¬(0 ≤ i ∧ i < mv ν 0 4) by rw [mv_n]; omega)]; done)) _ fr
    | refine kk _ ?_ _ (fun _ _ _ => rfl)
    | refine And.intro (fun h => absurd h (by decide)) (fun _ => ?_)
    | refine And.intro (fun _ => ?_) (fun h => absurd (by decide) h)
    | refine And.intro (fun _ => ?_) (fun _ => ?_)
    | refine And.intro ?_ ?_
  all_goals (first | decide | omega | (rw [fp_ru_0 (show 0 ≤ i ∧ i < mv ν 0 4 by rw [mv_n]; omega) (by omega), mv_a (a := 0) (by decide) (by omega), ci]) | (rw [fp_ru_1 (show 0 ≤ i ∧ i < mv ν 0 4 by rw [mv_n]; omega) (by omega), mv_a (a := 1) (by decide) (by omega), ci]) | (rw [fp_ru_2 (show 0 ≤ i ∧ i < mv ν 0 4 by rw [mv_n]; omega) (by omega), mv_a (a := 2) (by decide) (by omega), ci]) | (rw [fp_ru_3 (show 0 ≤ i ∧ i < mv ν 0 4 by rw [mv_n]; omega) (by omega), mv_a (a := 3) (by decide) (by omega), ci]) | (rw [fp_ru_4 (show 0 ≤ i ∧ i < mv ν 0 4 by rw [mv_n]; omega) (by omega), mv_a (a := 4) (by decide) (by omega), ci]) | (rw [fp_ru_6 (show 0 ≤ i ∧ i < mv ν 0 4 by rw [mv_n]; omega) (by omega), mv_a (a := 5) (by decide) (by omega), ci]) | (rw [fp_ru_5 (show 0 ≤ i ∧ i < mv ν 0 4 by rw [mv_n]; omega) (by omega), ← mv_T (by omega)]) | (rw [fp_ru_7 (show 0 ≤ i ∧ i < mv ν 0 4 by rw [mv_n]; omega) (by omega)]) | (rw [fp_ru_n (show ¬(0 ≤ i ∧ i < mv ν 0 4) by rw [mv_n]; omega)]) | (trace_state; fail))
