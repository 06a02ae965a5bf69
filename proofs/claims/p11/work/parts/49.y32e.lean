theorem s_ordered {l : Launch} {ν : am_N} {Q : Option am_V → am_N → Prop} (v w : Int) (cv : am_c v = v) (cw : am_c w = w) (hS : sx ν ν) (hw : fp_fw 999 (fv ν 1)) (k : ∀ μ' : am_N, sx ν μ' → Q (some (.inr (.inl (fp_odr (fv ν 1) v w)))) μ') : am_Does l 70 [.inr (.inr 0), .inl v, .inl w] ν Q := by
  refine am_Does_of (Nat.le_of_ble_eq_true rfl) (Nat.le_of_ble_eq_true rfl) (Nat.le_of_ble_eq_true rfl) ?_
  have l0 : am_c 0 = 0 := rfl
  have l1 : am_c 1 = 1 := rfl
  have l2 : am_c 2 = 2 := rfl
  have l3 : am_c 3 = 3 := rfl
  have l10 : am_c 10 = 10 := rfl
  have m1' : am_c (-1) = -1 := rfl
  have m2' : am_c (-2) = -2 := rfl
  have m3' : am_c (-3) = -3 := rfl
  obtain ⟨hf, -, -, -, -, -, hx⟩ := fw_C hw (by decide)
  have f0 := hf.1.1
  have f1 := hf.1.2
  have e4 : fv ν 1 0 4 = ν 1 4 := fv_0 (by decide)
  have al := fp_al2_b f0 f1
  obtain ⟨t, et, ht⟩ := fp_al2_e f0 f1
  have hs : ∀ q : Nat, (q : Int) < ν 1 4 → 0 ≤ ν 5 q ∧ ν 5 q ≤ 20 := fun q hq => (hx q hq).2.2.2
  have ea : fp_al2 (fv ν 1) = am_shl 1 (2 * ν 1 4) := by unfold fp_al2; rw [e4]
  have cA : am_c (am_shl 1 (2 * ν 1 4)) = am_shl 1 (2 * ν 1 4) := am_cR (by omega) (by omega)
  have hrow : ∀ q : Nat, (q : Int) < ν 1 4 → am_TC ν 1 q = fp_tf (fv ν 1) q ∧ ν 5 q = (fv ν 1) 4 q := fun q hq => ⟨fv_T (by omega), (fv_a (μ := ν) (c := 1) (a := 4) (by decide) (by decide) (by omega)).symm⟩
  have ob := fp_oA_b hw v
  have co : am_c (fp_oA (fv ν 1) v) = fp_oA (fv ν 1) v := am_cR (by omega) (by omega)
  have v1 : v ≤ 2147483647 := by rw [← cv]; unfold am_c; omega
  have kk := fun (x : Int) (μ' : am_N) (h : sx ν μ') (e : x = fp_odr (fv ν 1) v w) => am_qd (k μ' h) e
  refine am_go (ct := fun _ => false) am_oX6_ordered 300 ?_
  conv => whnf
  repeat' first
    | (refine (?_ : am_wp _ _ _ _ _ _ _ _ _ _ _ _); conv => whnf)
    | (refine (?_ : am_sw _ _ _ _); conv => whnf)
    | refine And.intro trivial ?_
    | exact trivial
    | ((with_reducible refine (?_ : am_Does _ 15 _ _ _)); refine s_eachOnce v cv v1 f0 f1 (fun y0 y1 => ?_) (fun y => ?_))
    | ((with_reducible refine (?_ : am_Does _ 115 _ _ _)); refine x_refuseLong _ ?_ (fun μr fr => ?_))
    | ((with_reducible refine (?_ : am_Does _ 116 _ _ _)); refine x_noPart _ cw (fun z => ?_) (fun z => ?_))
    | ((with_reducible refine (?_ : am_Does _ 21 _ _ _)); (refine x_draw_1 hf hs (fun μ1 g1 d0 dr => ?_); have sE : sx ν μ1 := sx_dr hS (fun a b q2 q3 _ => g1 a b q2 q3) (by rw [d0]; exact ⟨f0, f1⟩); have hb := fp_rw_b (c := 1) hf hs d0 dr; have p34 : sx_3 μ1 34 := (fun p hp => by rw [g1 34 p (by omega) (by omega)]; exact hS.2.1 p hp); have dr2 : ∀ q : Nat, (q : Int) < μ1 29 0 → μ1 30 q = fp_pt (fp_tf (fv ν 1) q) (fv ν 1 4 q) 0 ∧ μ1 31 q = fp_tf (fv ν 1) q ∧ μ1 32 q = fp_tf (fv ν 1) q + fv ν 1 4 q := (fun q hq => by rw [d0] at hq; have z := dr q hq; rw [(hrow q hq).1, (hrow q hq).2] at z; exact z)))
    | ((with_reducible refine (?_ : am_Does _ 30 _ _ _)); (refine s_waysOf v cv (fp_tf (fv ν 1)) ((fv ν 1) 4) (by rw [d0]; exact f0) (by rw [d0]; exact f1) hb dr2 p34 (fun μ2 g2 p2 => ?_); have sG : sx ν μ2 := sx_sd hS (fun a b q1 q2 q3 _ => (g2 a b (by omega) (by omega)).trans (g1 a b (by omega) q3)) p2 (by rw [g2 8 4 (by decide) (by decide), g1 8 4 (by omega) (by omega)]; exact hS.2.2.2.1.1) (by rw [g2 15 4 (by decide) (by decide), g1 15 4 (by omega) (by omega)]; exact hS.2.2.2.1.2.1) (by rw [g2 29 0 (by decide) (by decide), d0]; exact ⟨f0, f1⟩); rw [d0, fp_wD_o e4 f0 f1]))
    | ((with_reducible refine (?_ : am_Does _ 23 _ _ _)); (refine s_allWays ?_; rw [g2 29 0 (by decide) (by decide), d0]))
    | ((with_reducible refine (?_ : am_Does _ 118 _ _ _)); (rw [co, cA]; refine s_fraction _ _ _ t cw ob.1 (by omega) et ht (by omega) ?_))
    | refine kk _ _ sG ?_
    | refine kk _ _ (sx_78 hS fr) ?_
    | refine And.intro (fun h => absurd h (by decide)) (fun _ => ?_)
    | refine And.intro (fun _ => ?_) (fun h => absurd (by decide) h)
    | refine And.intro (fun _ => ?_) (fun _ => ?_)
    | refine And.intro ?_ ?_
  all_goals (first | decide | omega | (unfold fp_odr; rw [e4, if_pos y]; rfl) | (unfold fp_odr; rw [e4, if_neg (fun h => h ⟨y0, y1⟩), if_pos (by omega)]; rfl) | (unfold fp_odr; rw [e4, if_neg (fun h => h ⟨y0, y1⟩), if_neg (by omega), ea]) | (trace_state; fail))
