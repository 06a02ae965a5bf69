theorem s_lane {l : Launch} {ν : am_N} {Q : Option am_V → am_N → Prop} (hS : sx ν ν) (hw : fp_fw 999 (fv ν 1)) (hL : ∀ i : Nat, (i : Int) < ν 36 1 → 0 ≤ ν 37 i ∧ ν 37 i ≤ 255) (k : ∀ (r : Int) (μ' : am_N), fp_LN (ν 37) (ν 36 1) (fv ν 1) r (fv μ' 1) → (∀ a b, ¬(1 ≤ a ∧ a ≤ 14) → ¬(38 ≤ a ∧ a ≤ 43) → ¬(a = 36 ∧ b = 1) → ¬(a = 62 ∧ b = 3) → μ' a b = ν a b) → sx_3 μ' 43 → (0 ≤ μ' 38 0 ∧ μ' 38 0 ≤ 4) → (0 ≤ μ' 8 4 ∧ μ' 8 4 ≤ 4) → (0 ≤ μ' 1 4 ∧ μ' 1 4 ≤ 4) → μ' 36 1 = 0 → (μ' 62 3 = if 0 < r then 0 else ν 62 3) → fp_fw 999 (fv μ' 1) → Q (some (.inl r)) μ') : am_Does l 62 [.inr (.inr 0)] ν Q := by
  refine am_Does_of (Nat.le_of_ble_eq_true rfl) (Nat.le_of_ble_eq_true rfl) (Nat.le_of_ble_eq_true rfl) ?_
  have l0 : am_c 0 = 0 := rfl
  have hb := sx_all hS
  have h43 := hS.2.2.1
  have n0 : 0 ≤ ν 36 1 := by omega
  have n1 : ν 36 1 ≤ 96 := by omega
  have h38 : 0 ≤ ν 38 0 ∧ ν 38 0 ≤ 4 := by omega
  clear hb
  have w1 := (fw_C hw (by decide)).1.1
  refine am_go (ct := fun _ => false) am_oX6_lane 300 ?_
  conv => whnf
  repeat' first
    | (refine (?_ : am_wp _ _ _ _ _ _ _ _ _ _ _ _); conv => whnf)
    | (refine (?_ : am_sw _ _ _ _); conv => whnf)
    | refine And.intro trivial ?_
    | exact trivial
    | (refine x_take_8_1 (fun μ1 f1 s1 r1 => ?_); have e8 : fv μ1 8 = fv ν 1 := fp_ct_e (fun b hb => s1 b hb) (fun a b q1 q2 hb => r1 a q1 q2 b hb); have e37 : μ1 37 = ν 37 := (funext fun b => f1 37 b (by omega)); have e36 : μ1 36 1 = ν 36 1 := f1 36 1 (by omega))
    | (show fp_fw _ _; rw [e8]; exact hw)
    | (refine x_tell (ν 37) (ν 36 1) e37 e36 ?_ ?_ hL ?_ ?_ ?_ (fun K y1 y2 y3 => ?_) (fun K j y1 y2 y3 y4 y5 y6 μ2 g0 g1 g2 g3 => ?_) (fun K y1 y2 y3 y4 μ2 g0 g4 g5 g1 g2 => ?_))
    | (refine v_drop_X3_36 ?_; have zk := fp_pk_b n0 K y1; have zb := am_bh_b (ν 37) (ν 36 1) (fp_pk (ν 37) (ν 36 1) K) (by omega) (by omega); have zr : am_c (-1000 - (-1 - am_bh (ν 37) (ν 36 1) (fp_pk (ν 37) (ν 36 1) K))) = -1000 - (-1 - am_bh (ν 37) (ν 36 1) (fp_pk (ν 37) (ν 36 1) K)) := am_cR (by omega) (by omega); have zn : am_c (-1000 - (-1 - am_bh (ν 37) (ν 36 1) (fp_pk (ν 37) (ν 36 1) K))) < 0 := (by omega); clear zb zk zr)
    | (refine v_drop_X3_36 ?_; have zk := fp_pk_b n0 j (fun i hi => y2 i (by omega)); have zr : am_c (-2000 - fp_pk (ν 37) (ν 36 1) j) = -2000 - fp_pk (ν 37) (ν 36 1) j := am_cR (by omega) (by omega); have zn : am_c (-2000 - fp_pk (ν 37) (ν 36 1) j) < 0 := (by omega); clear zr)
    | (refine v_drop_X3_36 ?_; have zk := fp_pk_b n0 K y2; have zr : am_c (K : Int) = K := am_cR (by omega) (by omega); have zn : 0 < am_c (K : Int) := (by omega); have w8 := (fw_C (show fp_fw 999 (fv μ2 8) by rw [g4]; exact g5) (by decide)).1.1)
    | refine And.intro (fun h => absurd h (Int.not_le.mpr zn)) (fun _ => ?_)
    | refine And.intro (fun _ => ?_) (fun h => absurd (Int.le_of_lt zn) h)
    | (show Q _ (am_up μ1 36 1 0); have e1 : fv (am_up μ1 36 1 0) 1 = fv ν 1 := fp_ct_e (fun b hb => Eq.trans (am_upN (by decide)) (f1 1 b (by omega))) (fun a b q1 q2 hb => Eq.trans (am_uE (by omega)) (f1 (1 + a) b (by omega))); refine k _ _ (Or.inl ⟨K, y1, y2, y3, rfl, e1⟩) ?_ ?_ ?_ ?_ ?_ ?_ ?_ (by rw [e1]; exact hw))
    | (show Q _ (am_up μ2 36 1 0); have e1 : fv (am_up μ2 36 1 0) 1 = fv ν 1 := fp_ct_e (fun b hb => Eq.trans (am_upN (by decide)) (Eq.trans (g0 1 b (by omega) (by omega)) (f1 1 b (by omega)))) (fun a b q1 q2 hb => Eq.trans (am_uE (by omega)) (Eq.trans (g0 (1 + a) b (by omega) (by omega)) (f1 (1 + a) b (by omega)))); refine k _ _ (Or.inr ⟨K, y1, y2, y3, Or.inl ⟨j, y4, (by rw [e8] at y5; exact y5), (by rw [e8] at y6; exact y6), rfl, e1⟩⟩) ?_ ?_ ?_ ?_ ?_ ?_ ?_ (by rw [e1]; exact hw))
    | (refine x_take_1_8 (fun μ3 f3 s3 r3 => ?_); have e3 : fv μ3 1 = fp_fk (ν 37) (ν 36 1) (fv ν 1) K := (by rw [← e8, ← g4]; exact fp_ct_e (fun b hb => (s3 b hb).trans (am_upN (by decide))) (fun a b q1 q2 hb => (r3 a q1 q2 b hb).trans (am_uE (by omega)))))
    | refine v_drop_X4 ?_
    | (show Q _ (am_up μ3 62 3 0); have e4 : fv (am_up μ3 62 3 0) 1 = fv μ3 1 := fp_ct_e (fun b hb => am_upN (by decide)) (fun a b q1 q2 hb => am_uE (by omega)); refine k _ _ (Or.inr ⟨K, y1, y2, y3, Or.inr ⟨(by rw [e8] at y4; exact y4), rfl, (by rw [e4]; exact e3)⟩⟩) ?_ ?_ ?_ ?_ ?_ ?_ ?_ (by rw [e4, e3, ← e8]; exact g5))
    | refine And.intro (fun h => absurd h (by decide)) (fun _ => ?_)
    | refine And.intro (fun _ => ?_) (fun h => absurd (by decide) h)
    | refine And.intro (fun _ => ?_) (fun _ => ?_)
    | refine And.intro ?_ ?_
  all_goals (first | decide | omega | (intro a b q1 q2 q3 q4; exact Eq.trans (am_uE q3) (f1 a b (by omega))) | (intro a b q1 q2 q3 q4; exact Eq.trans (am_uE q3) (Eq.trans (g0 a b (by omega) (by omega)) (f1 a b (by omega)))) | (intro a b q1 q2 q3 q4; exact Eq.trans (am_uE q4) (Eq.trans (f3 a b (by omega)) (Eq.trans (am_uE q3) (Eq.trans (g0 a b (by omega) (by omega)) (f1 a b (by omega)))))) | (intro x hx; rw [am_upN (by decide), f1 43 x (by omega)]; exact h43 x hx) | (intro x hx; rw [f1 43 x (by omega)]; exact h43 x hx) | exact sx_3N g1 (by decide) | (intro x hx; rw [am_upN (by decide), f3 43 x (by omega), am_upN (by decide)]; exact g1 x hx) | (rw [f1 38 0 (by omega)]; omega) | (rw [am_upN (by decide), f1 38 0 (by omega)]; omega) | (rw [am_upN (by decide)]; omega) | (rw [am_upN (by decide), f3 38 0 (by omega), am_upN (by decide)]; omega) | (rw [am_upN (by decide), s1 4 (by decide)]; omega) | (rw [am_upN (by decide), f3 8 4 (by omega), am_upN (by decide)]; omega) | (rw [am_upN (by decide), f1 1 4 (by omega)]; omega) | (rw [am_upN (by decide), g0 1 4 (by omega) (by omega), f1 1 4 (by omega)]; omega) | (rw [am_upN (by decide), s3 4 (by decide), am_upN (by decide)]; omega) | exact if_pos ⟨rfl, rfl⟩ | (rw [am_upN (by decide), f3 36 1 (by omega)]; exact if_pos ⟨rfl, rfl⟩) | (rw [if_neg (by omega), am_upN (by decide), f1 62 3 (by omega)]) | (rw [if_neg (by omega), am_upN (by decide), g0 62 3 (by omega) (by omega), f1 62 3 (by omega)]) | (rw [if_pos (by omega)]; exact if_pos ⟨rfl, rfl⟩) | (trace_state; fail))
