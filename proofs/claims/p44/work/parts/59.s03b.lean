/-! s -/
theorem x_comesZs {l : Launch} {ν : am_N} {Q : Option am_V → am_N → Prop} (t : Nat → Int) (n p : Int) (ht : ν 37 = t) (hn : ν 36 1 = n) (n0 : 0 ≤ n) (n1 : n ≤ 96) (hL : ∀ i : Nat, (i : Int) < n → 0 ≤ t i ∧ t i ≤ 255) (p0 : 0 ≤ p) (p1 : p < n) (hb : 0 ≤ am_bh t n p) (hw : fp_fw 999 (fv ν 8)) (h43 : sx_3 ν 43) (h38 : 0 ≤ ν 38 0 ∧ ν 38 0 ≤ 4) (k1 : fp_ok t n (fv ν 8) p → ∀ μ' : am_N, (∀ a b, ¬(8 ≤ a ∧ a ≤ 14) → ¬(38 ≤ a ∧ a ≤ 43) → μ' a b = ν a b) → fv μ' 8 = fp_cf t n (fv ν 8) p → sx_3 μ' 43 → (0 ≤ μ' 38 0 ∧ μ' 38 0 ≤ 4) → Q (some (.inl 1)) μ') (k0 : ¬ fp_ok t n (fv ν 8) p → Q (some (.inl 0)) ν) : am_Does l 56 [.inr (.inr 35), .inr (.inr 8), .inl p] ν Q := by
  refine am_Does_of (Nat.le_of_ble_eq_true rfl) (Nat.le_of_ble_eq_true rfl) (Nat.le_of_ble_eq_true rfl) ?_
  have l0 : am_c 0 = 0 := rfl
  have l1 : am_c 1 = 1 := rfl
  have l3 : am_c 3 = 3 := rfl
  have l4 : am_c 4 = 4 := rfl
  have l5 : am_c 5 = 5 := rfl
  have l20 : am_c 20 = 20 := rfl
  have l40 : am_c 40 = 40 := rfl
  have l48 : am_c 48 = 48 := rfl
  have l57 : am_c 57 = 57 := rfl
  have l59 : am_c 59 = 59 := rfl
  have l119 : am_c 119 = 119 := rfl
  have l200 : am_c 200 = 200 := rfl
  have l999 : am_c 999 = 999 := rfl
  obtain ⟨hf, hr, hy, hs, hway, hweek, hmore⟩ := fw_C hw (by decide)
  have f0 := hf.1.1
  have f1 := hf.1.2
  have c4 : am_c (ν 8 4) = ν 8 4 := am_cR (by omega) (by omega)
  have cw8 : am_c (ν 8 1) = ν 8 1 := am_cR (by omega) (by omega)
  have e4 : fv ν 8 0 4 = ν 8 4 := fv_0 (by decide)
  have e1 : fv ν 8 0 1 = ν 8 1 := fv_0 (by decide)
  have dg := am_bh_d hb p0
  have fb := fp_f_b (fv ν 8)
  have cf : am_c (fp_f (fv ν 8)) = fp_f (fv ν 8) := am_cR (by omega) (by omega)
  have gW := fun q : ν 8 1 < 999 => fw_mono (W := 999) (V := 999) hw (Int.le_refl _)
  refine am_go (ct := fun _ => false) am_oX5_comes 300 ?_
  conv => whnf
  repeat' first
    | (refine (?_ : am_wp _ _ _ _ _ _ _ _ _ _ _ _); conv => whnf)
    | (refine (?_ : am_sw _ _ _ _); conv => whnf)
    | refine And.intro trivial ?_
    | exact trivial
    | ((with_reducible refine (?_ : am_Does _ 43 _ _ _)); refine x_lat t n _ ?_ ?_ n0 n1 hL ?_ ?_ (fun v ev v0 v1 cv => ?_))
    | ((with_reducible refine (?_ : am_Does _ 57 _ _ _)); refine x_wayComes t n _ ?_ ?_ n0 n1 hL ?_ ?_ (fun y0 y1 => ?_) (fun y => ?_))
    | ((with_reducible refine (?_ : am_Does _ 58 _ _ _)); refine x_runnerComes t n _ ?_ ?_ n0 n1 hL ?_ ?_ ?_ f0 f1 (fun y1 y2 y3 y4 y5 μ2 g0 g1 g2 g3 g4 g5 g6 g7 => ?_) (fun y => ?_))
    | ((with_reducible refine (?_ : am_Does _ 59 _ _ _)); refine x_ruleComes t n _ ?_ ?_ n0 n1 hL ?_ ?_ (fun y0 y1 => ?_) (fun y => ?_))
    | ((with_reducible refine (?_ : am_Does _ 60 _ _ _)); refine x_startComes t n _ ?_ ?_ n0 n1 hL ?_ ?_ ?_ f0 f1 (fun y => ?_) (fun y => ?_))
    | ((with_reducible refine (?_ : am_Does _ 34 _ _ _)); refine x_goOn_38_8 999 hw (by decide) ?_ h43 (fun μ2 g0 g1 g2 g3 g4 g5 => ?_))
    | refine k1 ((fp_ok_w (by omega)).mpr ⟨y0, y1⟩) _ ?_ ?_ ?_ ?_
    | refine k1 ((fp_ok_r (by omega)).mpr ⟨by omega, y2, y3, y4, y5⟩) _ ?_ ?_ ?_ ?_
    | refine k1 ((fp_ok_m (by omega)).mpr ⟨y0, y1⟩) _ ?_ ?_ ?_ ?_
    | refine k1 ((fp_ok_s (by omega)).mpr (by omega)) _ ?_ ?_ ?_ ?_
    | exact k0 (fun z => y ((fp_ok_w (by omega)).mp z))
    | (refine k0 (fun z => y ?_); have q := (fp_ok_r (by omega)).mp z; rw [e4] at q; exact q)
    | exact k0 (fun z => y ((fp_ok_m (by omega)).mp z))
    | (refine k0 (fun z => y ?_); have q := (fp_ok_s (by omega)).mp z; omega)
    | refine k1 ((fp_ok_g (by omega) (by omega) (by omega) (by omega)).mpr ⟨by simp only [e4, c4] at *; omega, by simp only [e1, cw8] at *; omega⟩) _ ?_ ?_ ?_ ?_
    | (refine k0 (fun z => ?_); have q := (fp_ok_g (by omega) (by omega) (by omega) (by omega)).mp z; simp only [e4, e1, c4, cw8] at *; omega)
    | refine And.intro (fun h => absurd h (by decide)) (fun _ => ?_)
    | refine And.intro (fun _ => ?_) (fun h => absurd (by decide) h)
    | refine And.intro (fun _ => ?_) (fun _ => ?_)
    | refine And.intro ?_ ?_
  all_goals sorry
