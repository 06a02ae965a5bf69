theorem x_comes {l : Launch} {ν : am_N} {Q : Option am_V → am_N → Prop} (t : Nat → Int) (n p : Int) (ht : ν 37 = t) (hn : ν 36 1 = n) (n0 : 0 ≤ n) (n1 : n ≤ 96) (hL : ∀ i : Nat, (i : Int) < n → 0 ≤ t i ∧ t i ≤ 255) (p0 : 0 ≤ p) (p1 : p < n) (hb : 0 ≤ am_bh t n p) (hw : fp_fw 999 (fv ν 8)) (h43 : sx_3 ν 43) (h38 : 0 ≤ ν 38 0 ∧ ν 38 0 ≤ 4) (k1 : fp_ok t n (fv ν 8) p → ∀ μ' : am_N, (∀ a b, ¬(8 ≤ a ∧ a ≤ 14) → ¬(38 ≤ a ∧ a ≤ 43) → μ' a b = ν a b) → fv μ' 8 = fp_cf t n (fv ν 8) p → sx_3 μ' 43 → (0 ≤ μ' 38 0 ∧ μ' 38 0 ≤ 4) → Q (some (.inl 1)) μ') (k0 : ¬ fp_ok t n (fv ν 8) p → Q (some (.inl 0)) ν) : am_Does l 56 [.inr (.inr 35), .inr (.inr 8), .inl p] ν Q := by
  refine am_Does_of (Nat.le_of_ble_eq_true rfl) (Nat.le_of_ble_eq_true rfl) (Nat.le_of_ble_eq_true rfl) ?_
  have l0 : am_c 0 = 0 := rfl
  have l1 : am_c 1 = 1 := rfl
  have l3 : am_c 3 = 3 := rfl
  have l4 : am_c 4 = 4 := rfl
  have l5 : am_c 5 = 5 := rfl
  have l20 : am_c 20 = 20 := rfl
  have l40 : am_c 40 = 40 := rfl
  have l48 : am_c 48 = 48 := rfl
  have l57 : am_c 57 = 57 := rfl
  have l59 : am_c 59 = 59 := rfl
  have l119 : am_c 119 = 119 := rfl
  have l200 : am_c 200 = 200 := rfl
  have l999 : am_c 999 = 999 := rfl
  obtain ⟨hf, hr, hy, hs, hway, hweek, hmore⟩ := fw_C hw (by decide)
  have f0 := hf.1.1
  have f1 := hf.1.2
  have c4 : am_c (ν 8 4) = ν 8 4 := am_cR (by omega) (by omega)
  have cw8 : am_c (ν 8 1) = ν 8 1 := am_cR (by omega) (by omega)
  have e4 : fv ν 8 0 4 = ν 8 4 := fv_0 (by decide)
  have e1 : fv ν 8 0 1 = ν 8 1 := fv_0 (by decide)
  have dg := am_bh_d hb p0
  have fb := fp_f_b (fv ν 8)
  have cf : am_c (fp_f (fv ν 8)) = fp_f (fv ν 8) := am_cR (by omega) (by omega)
  have gW := fun q : ν 8 1 < 999 => fw_mono (W := 999) (V := 999) hw (Int.le_refl _)
  refine am_go (ct := fun _ => false) am_oX5_comes 300 ?_
  conv => whnf
  repeat' first
    | (refine (?_ : am_wp _ _ _ _ _ _ _ _ _ _ _ _); conv => whnf)
    | (refine (?_ : am_sw _ _ _ _); conv => whnf)
    | refine And.intro trivial ?_
    | exact trivial
    | refine x_lat t n _ ?_ ?_ n0 n1 hL ?_ ?_ (fun v ev v0 v1 cv => ?_)
    | refine x_wayComes t n _ ?_ ?_ n0 n1 hL ?_ ?_ (fun y0 y1 => ?_) (fun y => ?_)
    | refine x_runnerComes t n _ ?_ ?_ n0 n1 hL ?_ ?_ ?_ f0 f1 (fun y1 y2 y3 y4 y5 μ2 g0 g1 g2 g3 g4 g5 g6 g7 => ?_) (fun y => ?_)
    | refine x_ruleComes t n _ ?_ ?_ n0 n1 hL ?_ ?_ (fun y0 y1 => ?_) (fun y => ?_)
    | refine x_startComes t n _ ?_ ?_ n0 n1 hL ?_ ?_ ?_ f0 f1 (fun y => ?_) (fun y => ?_)
    | refine x_goOn_38_8 999 hw (by decide) ?_ h43 (fun μ2 g0 g1 g2 g3 g4 g5 => ?_)
    | refine k1 ((fp_ok_w (by omega)).mpr ⟨y0, y1⟩) _ ?_ ?_ ?_ ?_
    | refine k1 ((fp_ok_r (by omega)).mpr ⟨by omega, y2, y3, y4, y5⟩) _ ?_ ?_ ?_ ?_
    | refine k1 ((fp_ok_m (by omega)).mpr ⟨y0, y1⟩) _ ?_ ?_ ?_ ?_
    | refine k1 ((fp_ok_s (by omega)).mpr (by omega)) _ ?_ ?_ ?_ ?_
    | exact k0 (fun z => y ((fp_ok_w (by omega)).mp z))
    | (refine k0 (fun z => y ?_); have q := (fp_ok_r (by omega)).mp z; rw [e4] at q; exact q)
    | exact k0 (fun z => y ((fp_ok_m (by omega)).mp z))
    | (refine k0 (fun z => y ?_); have q := (fp_ok_s (by omega)).mp z; omega)
    | refine k1 ((fp_ok_g (by omega) (by omega) (by omega) (by omega)).mpr ⟨by simp only [e4, c4] at *; omega, by simp only [e1, cw8] at *; omega⟩) _ ?_ ?_ ?_ ?_
    | (refine k0 (fun z => ?_); have q := (fp_ok_g (by omega) (by omega) (by omega) (by omega)).mp z; simp only [e4, e1, c4, cw8] at *; omega)
    | refine And.intro (fun h => absurd h (by decide)) (fun _ => ?_)
    | refine And.intro (fun _ => ?_) (fun h => absurd (by decide) h)
    | refine And.intro (fun _ => ?_) (fun _ => ?_)
    | refine And.intro ?_ ?_
  all_goals (first | decide | exact ht | exact hn | omega | exact h43 | exact h38 | (intro i hi; exact dg (by omega) i (by first | rw [am_ld_114 (by omega)]; exact hi | rw [am_ld_115 (by omega)]; exact hi)) | (intro a b q1 q2; exact am_uE (by omega)) | (intro a b q1 q2; rw [am_uE (by omega), am_uE (by omega)]) | (intro a b q1 q2; exact g0 a b (by omega) (by omega)) | (intro a b q1 q2; exact g0 a b (by omega) (by omega) (by omega) (by omega) (by omega) (by omega)) | exact sx_3N h43 (by decide) | exact sx_3N (sx_3N h43 (by decide)) (by decide) | (intro x hx; rw [g0 _ _ (by omega) (by omega)]; exact h43 x hx) | (rw [g0 _ _ (by omega) (by omega)]; exact h38) | exact g2 | exact h38.1 | exact h38.2 | (rw [g3]; exact f0) | (rw [g3]; exact f1) | (rw [g0 38 0 (by omega) (by omega)]; first | exact h38.1 | exact h38.2) | (rw [g3]; exact ⟨f0, f1⟩)     | (rw [fp_cf_w (by omega)]; refine fp_ct_e (fun b hb => ?_) (fun a b q1 q2 hb => ?_); (by_cases d : b = 0; (subst d; rfl); (show am_up ν 8 0 _ 8 b = _; rw [am_upM d, am_upM d]; exact (fv_0 hb).symm)); (show am_up ν 8 0 _ (8 + a) b = _; rw [am_upN (by omega), am_upN (by omega)]; exact (fv_a q1 q2 hb).symm))     | (rw [fp_cf_m (by omega)]; refine fp_ct_e (fun b hb => ?_) (fun a b q1 q2 hb => ?_); (show am_up (am_up ν 8 2 _) 8 3 _ 8 b = am_up (am_up _ 0 2 _) 0 3 _ 0 b; by_cases d3 : b = 3; (subst d3; rfl); (rw [am_upM d3, am_upM d3]; by_cases d2 : b = 2; (subst d2; rfl); (rw [am_upM d2, am_upM d2]; exact (fv_0 hb).symm))); (show am_up (am_up ν 8 2 _) 8 3 _ (8 + a) b = am_up (am_up _ 0 2 _) 0 3 _ a b; rw [am_upN (by omega), am_upN (by omega), am_upN (by omega), am_upN (by omega)]; exact (fv_a q1 q2 hb).symm))     | (rw [fp_cf_s (by omega)]; refine fp_ct_e (fun b hb => ?_) (fun a b q1 q2 hb => ?_); (show am_up ν 13 _ _ 8 b = _; rw [am_upN (by decide), am_upN (by decide)]; exact (fv_0 hb).symm); (show am_up ν 13 _ _ (8 + a) b = _; by_cases d : a = 5 ∧ b = (am_dt t n (p + 1)).toNat; (rw [am_upS, if_pos (by omega), am_upS, if_pos (by omega)]); (rw [am_uE (by omega), am_uE (by omega)]; exact (fv_a q1 q2 hb).symm)))     | (rw [fp_cf_g (by omega) (by omega) (by omega) (by omega)]; exact g1)     | (rw [fp_cf_r (by omega), e4]; refine fp_ct_e (fun b hb => ?_) (fun a b q1 q2 hb => ?_); (show μ2 8 b = _; by_cases d : b = 4; (subst d; exact g7); (rw [am_uE (by omega), am_upN (by decide), am_upN (by decide), am_upN (by decide), am_upN (by decide), am_upN (by decide), am_upN (by decide), fv_0 hb]; exact g0 8 b (by omega) (by omega))); (show μ2 (8 + a) b = _; rw [am_uE (by omega)]; by_cases d : b = (ν 8 4).toNat; (subst d; rcases (show a = 1 ∨ a = 2 ∨ a = 3 ∨ a = 4 ∨ a = 5 ∨ a = 6 by omega) with rfl | rfl | rfl | rfl | rfl | rfl; (rw [am_upN (by decide), am_upN (by decide), am_upN (by decide), am_upN (by decide), am_upN (by decide), am_upS, if_pos ⟨rfl, rfl⟩]; exact g1); (rw [am_upN (by decide), am_upN (by decide), am_upN (by decide), am_upN (by decide), am_upS, if_pos ⟨rfl, rfl⟩]; exact g2); (rw [am_upN (by decide), am_upN (by decide), am_upN (by decide), am_upS, if_pos ⟨rfl, rfl⟩]; exact g3); (rw [am_upN (by decide), am_upN (by decide), am_upS, if_pos ⟨rfl, rfl⟩]; exact g4); (rw [am_upN (by decide), am_upS, if_pos ⟨rfl, rfl⟩]; exact g5); (rw [am_upS, if_pos ⟨rfl, rfl⟩]; exact g6)); (rw [am_upM d, am_upM d, am_upM d, am_upM d, am_upM d, am_upM d, fv_a q1 q2 hb]; exact g0 (8 + a) b (by omega) (by omega))))     | (trace_state; fail))
theorem x_tell {l : Launch} {ν : am_N} {Q : Option am_V → am_N → Prop} (t : Nat → Int) (n : Int) (ht : ν 37 = t) (hn : ν 36 1 = n) (n0 : 0 ≤ n) (n1 : n ≤ 96) (hL : ∀ i : Nat, (i : Int) < n → 0 ≤ t i ∧ t i ≤ 255) (hw : fp_fw 999 (fv ν 8)) (h43 : sx_3 ν 43) (h38 : 0 ≤ ν 38 0 ∧ ν 38 0 ≤ 4) (k1 : ∀ K : Nat, fp_pr t n K → (fp_pk t n K < n ∨ K = 0) → am_bh t n (fp_pk t n K) < 0 → Q (some (.inl (-1000 - (-1 - am_bh t n (fp_pk t n K))))) ν) (k2 : ∀ K j : Nat, 1 ≤ K → fp_pr t n K → n ≤ fp_pk t n K → j < K → fp_okp t n (fv ν 8) j → ¬ fp_ok t n (fp_fk t n (fv ν 8) j) (fp_pk t n j) → ∀ μ' : am_N, (∀ a b, ¬(8 ≤ a ∧ a ≤ 14) → ¬(38 ≤ a ∧ a ≤ 43) → μ' a b = ν a b) → sx_3 μ' 43 → (0 ≤ μ' 38 0 ∧ μ' 38 0 ≤ 4) → (0 ≤ μ' 8 4 ∧ μ' 8 4 ≤ 4) → Q (some (.inl (-2000 - fp_pk t n j))) μ') (k3 : ∀ K : Nat, 1 ≤ K → fp_pr t n K → n ≤ fp_pk t n K → fp_okp t n (fv ν 8) K → ∀ μ' : am_N, (∀ a b, ¬(8 ≤ a ∧ a ≤ 14) → ¬(38 ≤ a ∧ a ≤ 43) → μ' a b = ν a b) → fv μ' 8 = fp_fk t n (fv ν 8) K → fp_fw 999 (fp_fk t n (fv ν 8) K) → sx_3 μ' 43 → (0 ≤ μ' 38 0 ∧ μ' 38 0 ≤ 4) → Q (some (.inl K)) μ') : am_Does l 50 [.inr (.inr 35), .inr (.inr 8)] ν Q := by
  refine am_Does_of (Nat.le_of_ble_eq_true rfl) (Nat.le_of_ble_eq_true rfl) (Nat.le_of_ble_eq_true rfl) ?_
  have l0 : am_c 0 = 0 := rfl
  have l1 : am_c 1 = 1 := rfl
  have l3 : am_c 3 = 3 := rfl
  have l4 : am_c 4 = 4 := rfl
  have l5 : am_c 5 = 5 := rfl
  have l20 : am_c 20 = 20 := rfl
  have l40 : am_c 40 = 40 := rfl
  have l48 : am_c 48 = 48 := rfl
  have l57 : am_c 57 = 57 := rfl
  have l59 : am_c 59 = 59 := rfl
  have l119 : am_c 119 = 119 := rfl
  have l200 : am_c 200 = 200 := rfl
  have l999 : am_c 999 = 999 := rfl
  have cn : am_c n = n := am_cR (by omega) (by omega)
  have lp23 : ∀ (m : Nat) (K : Nat) (f a q j : Int) (μ : am_N) , 1 ≤ K → fp_pr t n K → n ≤ fp_pk t n K → 0 ≤ j → j ≤ K → q = j → a = fp_pk t n j.toNat → (∀ a b, ¬(8 ≤ a ∧ a ≤ 14) → ¬(38 ≤ a ∧ a ≤ 43) → μ a b = ν a b) → fv μ 8 = fp_fk t n (fv ν 8) j.toNat → fp_okp t n (fv ν 8) j.toNat → sx_3 μ 43 → (0 ≤ μ 38 0 ∧ μ 38 0 ≤ 4) → K - j < (m : Int) → am_AW l 0 (fun _ => 0) 50 Q 23 [some (.inr (.inr 35)), some (.inr (.inr 8)), some (.inl f), some (.inl a), some (.inl q), some (.inl j)] [] μ := by
    intro m
    induction m with
    | zero =>
      intro K f a q j μ hv0 hv1 hv2 hv3 hv4 hv5 hv6 hv7 hv8 hv9 hv10 hv11 hm
      exfalso
      omega
    | succ m ih =>
      intro K f a q j μ hv0 hv1 hv2 hv3 hv4 hv5 hv6 hv7 hv8 hv9 hv10 hv11 hm
      have prj : fp_pr t n j.toNat := fun i hi => hv1 i (by omega)
      have hb := fp_pk_b n0 j.toNat prj
      have hbK := fp_pk_b n0 K hv1
      have ca : am_c a = a := am_cR (by omega) (by omega)
      have cj : am_c j = j := am_cR (by omega) (by omega)
      have ej : (j + 1).toNat = j.toNat + 1 := by omega
      have fwj : fp_fw 999 (fp_fk t n (fv ν 8) j.toNat) := fw_fk n0 hw _ prj hv9
      have e36 : μ 36 1 = n := (hv7 36 1 (by decide) (by decide)).trans hn
      have e37 : μ 37 = t := (funext (fun b => hv7 37 b (by decide) (by decide))).trans ht
      have c36 : am_c (μ 36 1) = n := by rw [e36]; exact cn
      have jK : a < n → j < K := fun z => by
        by_cases y : j = K
        · have : j.toNat = K := by omega
          rw [this] at hv6
          omega
        · omega
      have bhj : a < n → 0 ≤ am_bh t n (fp_pk t n j.toNat) := fun z => (hv1 j.toNat (by have := jK z; omega)).2
      refine am_go (ct := fun pc => Nat.beq pc 23) am_oX5_tell 300 ?_
      conv => whnf
      repeat' first
        | (refine (?_ : am_wp _ _ _ _ _ _ _ _ _ _ _ _); conv => whnf)
        | (refine (?_ : am_sw _ _ _ _); conv => whnf)
        | refine And.intro trivial ?_
        | exact trivial
        | (rw [hv8]; exact fwj)
        | refine ih K _ _ _ _ _ hv0 hv1 hv2 ?_ ?_ ?_ ?_ ?_ ?_ ?_ ?_ ?_ ?_
        | (have an : a < n := (by simp only [c36, ca, cj] at *; omega); have jk := jK an; refine x_comes t n a e37 e36 n0 n1 hL ?_ an ?_ ?_ hv10 hv11 (fun y1 μ2 g0 g1 g2 g3 => ?_) (fun y0 => ?_))
        | refine x_behindT t n _ ?_ ?_ n0 n1 hL ?_ ?_ (fun v ev v0 v1 cv => ?_)
        | (refine am_qe (k2 K j.toNat hv0 hv1 hv2 ?_ hv9 (by rw [hv8, hv6] at y0; exact y0) μ hv7 hv10 hv11 (fw_C (by rw [hv8]; exact fwj) (show (999 : Int) ≤ 2000 by decide)).1.1) ?_)
        | (have jk : j.toNat = K := (by by_cases z : j < K; (have w := (hv1 j.toNat (by omega)).1; simp only [c36, ca, cj] at *; omega); omega); refine am_qe (k3 K hv0 hv1 hv2 (by rw [← jk]; exact hv9) _ hv7 (by rw [← jk]; exact hv8) (by rw [← jk]; exact fwj) hv10 hv11) ?_)
        | (refine x_firstFault t n ht hn n0 n1 hL (fun K y1 y2 y3 => ?_) (fun K y1 y2 y3 => ?_))
        | (refine am_qe (k1 K y1 y2 y3) ?_)
        | refine lp23' K _ _ _ _ _ y1 y2 y3 ?_ ?_ ?_ ?_ ?_ ?_ ?_ ?_ ?_
        | refine ih _ _ _ _ _ _ ?_ ?_ ?_ ?_ ?_ ?_ ?_ ?_ ?_ ?_ ?_ ?_ ?_
        | refine And.intro (fun h => absurd h (by decide)) (fun _ => ?_)
        | refine And.intro (fun _ => ?_) (fun h => absurd (by decide) h)
        | refine And.intro (fun _ => ?_) (fun _ => ?_)
        | refine And.intro ?_ ?_
      all_goals (first | decide | omega | assumption | exact e37 | exact e36 | (rw [hv6]; exact bhj an) | (funext b; rw [g0 37 b (by decide) (by decide)]; exact congrFun e37 b) | (rw [g0 36 1 (by decide) (by decide)]; exact e36) | (rw [hv6]) | (intro b c q1 q2; rw [g0 b c q1 q2]; exact hv7 b c q1 q2) | (rw [ej]; show v = am_bh t n (fp_pk t n j.toNat); rw [← hv6]; exact ev) | (rw [ej, g1, hv8, hv6]; rfl) | (rw [ej]; refine fp_okp_s hv9 ?_; rw [← hv6, ← hv8]; exact y1) | (trace_state; fail))
  have lp23' : ∀ (K : Nat) (f a q j : Int) (μ : am_N) , 1 ≤ K → fp_pr t n K → n ≤ fp_pk t n K → 0 ≤ j → j ≤ K → q = j → a = fp_pk t n j.toNat → (∀ a b, ¬(8 ≤ a ∧ a ≤ 14) → ¬(38 ≤ a ∧ a ≤ 43) → μ a b = ν a b) → fv μ 8 = fp_fk t n (fv ν 8) j.toNat → fp_okp t n (fv ν 8) j.toNat → sx_3 μ 43 → (0 ≤ μ 38 0 ∧ μ 38 0 ≤ 4) → am_AW l 0 (fun _ => 0) 50 Q 23 [some (.inr (.inr 35)), some (.inr (.inr 8)), some (.inl f), some (.inl a), some (.inl q), some (.inl j)] [] μ := fun K f a q j μ hv0 hv1 hv2 hv3 hv4 hv5 hv6 hv7 hv8 hv9 hv10 hv11 => lp23 ((K - j) + 1).toNat K f a q j μ hv0 hv1 hv2 hv3 hv4 hv5 hv6 hv7 hv8 hv9 hv10 hv11 (by omega)
  refine am_go (ct := fun pc => Nat.beq pc 23) am_oX5_tell 300 ?_
  conv => whnf
  repeat' first
    | (refine (?_ : am_wp _ _ _ _ _ _ _ _ _ _ _ _); conv => whnf)
    | (refine (?_ : am_sw _ _ _ _); conv => whnf)
    | refine And.intro trivial ?_
    | exact trivial
    | (refine x_firstFault t n ht hn n0 n1 hL (fun K y1 y2 y3 => ?_) (fun K y1 y2 y3 => ?_))
    | (refine am_qe (k1 K y1 y2 y3) ?_)
    | refine lp23' K _ _ _ _ _ y1 y2 y3 ?_ ?_ ?_ ?_ ?_ ?_ ?_ ?_ ?_
    | refine lp23' _ _ _ _ _ _ ?_ ?_ ?_ ?_ ?_ ?_ ?_ ?_ ?_ ?_ ?_ ?_
    | refine And.intro (fun h => absurd h (by decide)) (fun _ => ?_)
    | refine And.intro (fun _ => ?_) (fun h => absurd (by decide) h)
    | refine And.intro (fun _ => ?_) (fun _ => ?_)
    | refine And.intro ?_ ?_
  all_goals (first | decide | omega | assumption | rfl | exact fun _ _ _ _ => rfl | exact fp_okp_0 | (have z := am_bh_b t n (fp_pk t n K) (by have := fp_pk_b n0 K y1; omega) (by have := fp_pk_b n0 K y1; omega); have w : am_c (-1 - am_bh t n (fp_pk t n K)) = -1 - am_bh t n (fp_pk t n K) := am_cR (by have := fp_pk_b n0 K y1; omega) (by have := fp_pk_b n0 K y1; omega); have u := fp_pk_b n0 K y1; omega) | (trace_state; fail))
