theorem s_close {l : Launch} {ν : am_N} {Q : Option am_V → am_N → Prop} (x w : Int) (cx : am_c x = x) (cw : am_c w = w) (hS : sx ν ν) (hw : fp_fw 999 (fv ν 1)) (k : ∀ μ' : am_N, sx ν μ' → Q (some (.inr (.inl (fp_clr (fv ν 1) x w)))) μ') : am_Does l 71 [.inr (.inr 0), .inl x, .inl w] ν Q := by
  refine am_Does_of (Nat.le_of_ble_eq_true rfl) (Nat.le_of_ble_eq_true rfl) (Nat.le_of_ble_eq_true rfl) ?_
  have l0 : am_c 0 = 0 := rfl
  have l1 : am_c 1 = 1 := rfl
  have l2 : am_c 2 = 2 := rfl
  have l3 : am_c 3 = 3 := rfl
  have l10 : am_c 10 = 10 := rfl
  have m1' : am_c (-1) = -1 := rfl
  have m2' : am_c (-2) = -2 := rfl
  have m3' : am_c (-3) = -3 := rfl
  obtain ⟨hf, -, -, -, -, -, hx⟩ := fw_C hw (by decide)
  have f0 := hf.1.1
  have f1 := hf.1.2
  have e4 : fv ν 1 0 4 = ν 1 4 := fv_0 (by decide)
  have al := fp_al2_b f0 f1
  obtain ⟨t, et, ht⟩ := fp_al2_e f0 f1
  have hs : ∀ q : Nat, (q : Int) < ν 1 4 → 0 ≤ ν 5 q ∧ ν 5 q ≤ 20 := fun q hq => (hx q hq).2.2.2
  have ea : fp_al2 (fv ν 1) = am_shl 1 (2 * ν 1 4) := by unfold fp_al2; rw [e4]
  have cA : am_c (am_shl 1 (2 * ν 1 4)) = am_shl 1 (2 * ν 1 4) := am_cR (by omega) (by omega)
  have hrow : ∀ q : Nat, (q : Int) < ν 1 4 → am_TC ν 1 q = fp_tf (fv ν 1) q ∧ ν 5 q = (fv ν 1) 4 q := fun q hq => ⟨fv_T (by omega), (fv_a (μ := ν) (c := 1) (a := 4) (by decide) (by decide) (by omega)).symm⟩
  have cn : am_c (ν 1 4) = ν 1 4 := am_cR (by omega) (by omega)
  have gb := fp_gA_b hw
  have cg : am_c (fp_gA (fv ν 1)) = fp_gA (fv ν 1) := am_cR (by omega) (by omega)
  have ub := fp_un_b (F := (fv ν 1)) (by rw [e4]; exact f0) (by rw [e4]; exact f1)
  have cu : am_c (fp_un (fv ν 1)) = fp_un (fv ν 1) := am_cR (by omega) (by omega)
  have u0 := fun z : 1 ≤ ν 1 4 => fp_un_0 (F := (fv ν 1)) (by rw [e4]; exact z)
  have kk := fun (x' : Int) (μ' : am_N) (h : sx ν μ') (e : x' = fp_clr (fv ν 1) x w) => am_qd (k μ' h) e
  refine am_go (ct := fun _ => false) am_oX6_close 300 ?_
  conv => whnf
  repeat' first
    | (refine (?_ : am_wp _ _ _ _ _ _ _ _ _ _ _ _); conv => whnf)
    | (refine (?_ : am_sw _ _ _ _); conv => whnf)
    | refine And.intro trivial ?_
    | exact trivial
    | ((with_reducible refine (?_ : am_Does _ 116 _ _ _)); first | ((with_reducible refine (?_ : am_Does _ 116 (Sum.inl w :: _) _ _)); (have _q := z; refine x_noPart w cw (fun y => ?_) (fun y => ?_))) | ((with_reducible refine (?_ : am_Does _ 116 (Sum.inl x :: _) _ _)); refine x_noPart x cx (fun z => ?_) (fun z => ?_)) | (have _q := z; refine x_noPart w cw (fun y => ?_) (fun y => ?_)) | refine x_noPart x cx (fun z => ?_) (fun z => ?_))
    | ((with_reducible refine (?_ : am_Does _ 115 _ _ _)); refine x_refuseLong _ ?_ (fun μr fr => ?_))
    | ((with_reducible refine (?_ : am_Does _ 21 _ _ _)); (have n2 : 2 ≤ ν 1 4 := (by (simp only [cn, l2] at *; first | done | omega)); refine x_draw_1 hf hs (fun μ1 g1 d0 dr => ?_); have sE : sx ν μ1 := sx_dr hS (fun a b q2 q3 _ => g1 a b q2 q3) (by rw [d0]; exact ⟨f0, f1⟩); have hb := fp_rw_b (c := 1) hf hs d0 dr; have p34 : sx_3 μ1 34 := (fun p hp => by rw [g1 34 p (by omega) (by omega)]; exact hS.2.1 p hp); have dr2 : ∀ q : Nat, (q : Int) < μ1 29 0 → μ1 30 q = fp_pt (fp_tf (fv ν 1) q) (fv ν 1 4 q) 0 ∧ μ1 31 q = fp_tf (fv ν 1) q ∧ μ1 32 q = fp_tf (fv ν 1) q + fv ν 1 4 q := (fun q hq => by rw [d0] at hq; have z := dr q hq; rw [(hrow q hq).1, (hrow q hq).2] at z; exact z)))
    | ((with_reducible refine (?_ : am_Does _ 31 _ _ _)); (refine s_gapAll (fp_tf (fv ν 1)) ((fv ν 1) 4) (by rw [d0]; exact f0) (by rw [d0]; omega) (by rw [d0]; exact f1) hb dr2 p34 (fun μ2 g2 p2 => ?_); have sG : sx ν μ2 := sx_sd hS (fun a b q1 q2 q3 _ => (g2 a b (by omega) (by omega)).trans (g1 a b (by omega) q3)) p2 (by rw [g2 8 4 (by decide) (by decide), g1 8 4 (by omega) (by omega)]; exact hS.2.2.2.1.1) (by rw [g2 15 4 (by decide) (by decide), g1 15 4 (by omega) (by omega)]; exact hS.2.2.2.1.2.1) (by rw [g2 29 0 (by decide) (by decide), d0]; exact ⟨f0, f1⟩); rw [d0, ← fp_t34' (fp_tf (fv ν 1)) ((fv ν 1) 4) (ν 1 4).toNat (by omega) (fun t => fp_gz t (ν 1 4)) (fun t u h => fp_gz_e f1 (fun q hq => h q (by omega))), show fp_su (fun k => fp_gz (fun j => fp_pt (fp_tf (fv ν 1) j) ((fv ν 1) 4 j) (fp_dj k j)) (ν 1 4)) (4 ^ (ν 1 4).toNat) = fp_gA (fv ν 1) from (by unfold fp_gA; rw [e4]; rfl)]))
    | ((with_reducible refine (?_ : am_Does _ 27 _ _ _)); (refine x_uneven (fv ν 1) (by rw [d0]; exact f0) (by rw [d0]; exact f1) (by rw [d0]; exact e4) hb (fun r hr => fp_lw_C1 f1 (by rw [d0] at hr; exact hr) d0 dr) ?_))
    | ((with_reducible refine (?_ : am_Does _ 23 _ _ _)); (refine s_allWays ?_; first | rw [g2 29 0 (by decide) (by decide), d0] | rw [d0]))
    | ((with_reducible refine (?_ : am_Does _ 118 _ _ _)); first | (rw [cg, cA]; refine s_fraction _ _ _ t cw gb.1 (by omega) et ht (by omega) ?_) | (rw [cu, cA]; refine s_fraction _ _ _ t cw (u0 (by omega)) (by omega) et ht (by omega) ?_))
    | refine kk _ _ sG ?_
    | refine kk _ _ sE ?_
    | refine kk _ _ (sx_78 hS fr) ?_
    | refine And.intro (fun h => absurd h (by decide)) (fun _ => ?_)
    | refine And.intro (fun _ => ?_) (fun h => absurd (by decide) h)
    | refine And.intro (fun _ => ?_) (fun _ => ?_)
    | refine And.intro ?_ ?_
  all_goals (first | decide | omega | (unfold fp_clr; rw [if_pos (by omega)]; rfl) | (unfold fp_clr; rw [if_neg (by omega), e4, if_pos (by (simp only [cn, l2] at *; first | done | omega))]; rfl) | (unfold fp_clr; rw [if_neg (by omega), e4, if_neg (by (simp only [cn, l2] at *; first | done | omega))]; first | (rw [if_pos (by (simp only [cx, l0] at *; first | done | omega)), ea]) | (rw [if_neg (by (simp only [cx, l0] at *; first | done | omega)), ea])) | (trace_state; fail))
