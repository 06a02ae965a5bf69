/-! the law: what is claimed of a case -/
def lx_Q : Option am_V → am_N → Prop := fun r _ => r = some (.inl 1)
/-- canonical numbers -/
def lx_X (xs : Nat → Int) : Prop := ∀ j, -2147483648 ≤ xs j ∧ xs j ≤ 2147483647
/-- to the end of a case -/
def lx_H (l : Launch) (L : Nat) (xs : Nat → Int) (i : Int) : Prop := ∀ μ : am_N, lx_I μ → am_AW l L xs 0 lx_Q 1663 [some (.inr (.inr 999)), some (.inr (.inr 0)), some (.inr (.inr 83)), some (.inl i)] [] μ
/-! the law: cases -/
theorem lx_c0 {l : Launch} {L : Nat} {xs : Nat → Int} {i : Int} (hX : lx_X xs) (hL : L ≤ 2560) (i0 : 0 ≤ i) (i1 : i ≤ (L : Int) - 5) (hH : lx_H l L xs i) (μ : am_N) (hI : lx_I μ) : am_AW l L xs 0 lx_Q 256 [some (.inr (.inr 999)), some (.inr (.inr 0)), some (.inr (.inr 83)), some (.inl i)] [] μ := by
  have iL : (L : Int) ≤ 2560 := by omega
  have ix : ∀ k : Int, 0 ≤ k → k ≤ 4 → 0 ≤ am_c (i + k) ∧ am_c (i + k) < L := fun k h0 h1 => by rw [am_cR (by omega) (by omega)]; omega
  have cx : ∀ j, am_c (xs j) = xs j := fun j => am_cR (by have := (hX j).1; omega) (by have := (hX j).2; omega)
  have hb := sx_all hI.1
  have hc := mi_all hI.2.1
  have hR := hI.2.2
  have hwM := hR.1.2
  have hwC : fp_fw 999 (fv μ 1) := by rw [hR.1.1]; exact hwM
  have n14 : 0 ≤ μ 1 4 ∧ μ 1 4 ≤ 4 := by omega
  have nM : μ 1 4 = μ 83 14 := (fp_ct_n hR.1.1).1 4 (by decide)
  refine am_go (ct := fun pc => Nat.beq pc 1663) am_oL_law 60 ?_
  conv => whnf
  repeat' first
    | (refine (?_ : am_wp _ _ _ _ _ _ _ _ _ _ _ _); conv => whnf)
    | refine And.intro ⟨rfl, rfl⟩ ?_
    | refine And.intro (ix _ (by decide) (by decide)) ?_
    | refine And.intro trivial ?_
    | refine s_feedF _ (cx _) hI.1 (fun a1 a2 μ1 f1 e1 e2 => ?_) (fun r1 μ1 a0 f1 => ?_)
    | (have t21 : μ1 83 21 = μ 83 21 := f1 83 21 (by omega) (by omega); refine n_feedF _ (cx _) (by rw [t21]; omega) (by rw [t21]; omega) (fun b1 b2 μ2 f2 e3 e4 => ?_) (fun r2 μ2 b0 f2 => ?_))
    | (have t21 : μ1 83 21 = μ 83 21 := f1 83 21 (by omega); refine n_feedF _ (cx _) (by rw [t21]; omega) (by rw [t21]; omega) (fun b1 b2 μ2 f2 e3 e4 => ?_) (fun r2 μ2 b0 f2 => ?_))
    | (refine hH _ ?_; first | exact LI_feed hI a1 a2 f1 f2 e1 e2 e3 e4 | exact LI_ref hI f1 f2 | (exfalso; have h36 := hR.2.1.1; rw [t21] at *; omega))
  all_goals (first | exact LI_feed hI a1 a2 f1 f2 e1 e2 e3 e4 | exact LI_ref hI f1 f2 | (exfalso; have h36 := hR.2.1.1; rw [t21] at *; omega) | (trace_state; fail))
theorem lx_c1 {l : Launch} {L : Nat} {xs : Nat → Int} {i : Int} (hX : lx_X xs) (hL : L ≤ 2560) (i0 : 0 ≤ i) (i1 : i ≤ (L : Int) - 5) (hH : lx_H l L xs i) (μ : am_N) (hI : lx_I μ) : am_AW l L xs 0 lx_Q 279 [some (.inr (.inr 999)), some (.inr (.inr 0)), some (.inr (.inr 83)), some (.inl i)] [] μ := by
  have iL : (L : Int) ≤ 2560 := by omega
  have ix : ∀ k : Int, 0 ≤ k → k ≤ 4 → 0 ≤ am_c (i + k) ∧ am_c (i + k) < L := fun k h0 h1 => by rw [am_cR (by omega) (by omega)]; omega
  have cx : ∀ j, am_c (xs j) = xs j := fun j => am_cR (by have := (hX j).1; omega) (by have := (hX j).2; omega)
  have hb := sx_all hI.1
  have hc := mi_all hI.2.1
  have hR := hI.2.2
  have hwM := hR.1.2
  have hwC : fp_fw 999 (fv μ 1) := by rw [hR.1.1]; exact hwM
  have n14 : 0 ≤ μ 1 4 ∧ μ 1 4 ≤ 4 := by omega
  have nM : μ 1 4 = μ 83 14 := (fp_ct_n hR.1.1).1 4 (by decide)
  refine am_go (ct := fun pc => Nat.beq pc 1663) am_oL_law 60 ?_
  conv => whnf
  repeat' first
    | (refine (?_ : am_wp _ _ _ _ _ _ _ _ _ _ _ _); conv => whnf)
    | refine And.intro ⟨rfl, rfl⟩ ?_
    | refine And.intro (ix _ (by decide) (by decide)) ?_
    | refine And.intro trivial ?_
    | (refine s_lane hI.1 hwC hR.2.1.2.2 (fun r1 μ1 l1 f1 p43 b38 b8 b1 z36 e62 hw1 => ?_))
    | (have t21 : μ1 83 21 = μ 83 21 := f1 83 21 (by omega) (by omega) (by omega) (by omega); have m1 : mv μ1 = mv μ := mv_keep (fun a b q => f1 a b (by omega) (by omega) (by omega) (by omega)); have t94 : ∀ b, μ1 94 b = μ 94 b := (fun b => f1 94 b (by omega) (by omega) (by omega) (by omega)); refine x_mlane (μ1 94) (μ1 83 21) rfl rfl (by rw [t21]; omega) (by rw [t21]; omega) (fun x hx => by rw [t94, ← hR.2.1.2.1]; exact hR.2.1.2.2 x (by rw [t21] at hx; have := hR.2.1.1; omega)) (by rw [m1]; exact hwM) (fun p hp => by rw [f1 100 p (by omega) (by omega) (by omega) (by omega)]; exact mi_or hI.2.1 p hp) (fun r2 μ2 l2 f2 p100 z21 e33 => ?_); have hl := LI_lane hI l1 f1 p43 b38 b8 b1 z36 e62 hw1 l2 f2 p100 z21 e33)
    | (refine hH _ ?_; first | exact hl.1)
  all_goals (first | exact hl.1 | (trace_state; fail))
theorem lx_c2 {l : Launch} {L : Nat} {xs : Nat → Int} {i : Int} (hX : lx_X xs) (hL : L ≤ 2560) (i0 : 0 ≤ i) (i1 : i ≤ (L : Int) - 5) (hH : lx_H l L xs i) (μ : am_N) (hI : lx_I μ) : am_AW l L xs 0 lx_Q 292 [some (.inr (.inr 999)), some (.inr (.inr 0)), some (.inr (.inr 83)), some (.inl i)] [] μ := by
  have iL : (L : Int) ≤ 2560 := by omega
  have ix : ∀ k : Int, 0 ≤ k → k ≤ 4 → 0 ≤ am_c (i + k) ∧ am_c (i + k) < L := fun k h0 h1 => by rw [am_cR (by omega) (by omega)]; omega
  have cx : ∀ j, am_c (xs j) = xs j := fun j => am_cR (by have := (hX j).1; omega) (by have := (hX j).2; omega)
  have hb := sx_all hI.1
  have hc := mi_all hI.2.1
  have hR := hI.2.2
  have hwM := hR.1.2
  have hwC : fp_fw 999 (fv μ 1) := by rw [hR.1.1]; exact hwM
  have n14 : 0 ≤ μ 1 4 ∧ μ 1 4 ≤ 4 := by omega
  have nM : μ 1 4 = μ 83 14 := (fp_ct_n hR.1.1).1 4 (by decide)
  refine am_go (ct := fun pc => Nat.beq pc 1663) am_oL_law 60 ?_
  conv => whnf
  repeat' first
    | (refine (?_ : am_wp _ _ _ _ _ _ _ _ _ _ _ _); conv => whnf)
    | refine And.intro ⟨rfl, rfl⟩ ?_
    | refine And.intro (ix _ (by decide) (by decide)) ?_
    | refine And.intro trivial ?_
    | refine s_runner _ _ (cx _) (cx _) hwC (fun μ1 f1 => ?_)
    | (have m1 : mv μ1 = mv μ := mv_keep (fun a b q => f1 a b (by omega)); refine n_runner _ _ (cx _) (cx _) (by rw [m1]; exact hwM) (fun μ2 f2 => ?_))
    | (refine hH _ ?_; first | exact LI_ref hI f1 f2)
  all_goals (first | exact LI_ref hI f1 f2 | (trace_state; fail))
theorem lx_c3 {l : Launch} {L : Nat} {xs : Nat → Int} {i : Int} (hX : lx_X xs) (hL : L ≤ 2560) (i0 : 0 ≤ i) (i1 : i ≤ (L : Int) - 5) (hH : lx_H l L xs i) (μ : am_N) (hI : lx_I μ) : am_AW l L xs 0 lx_Q 325 [some (.inr (.inr 999)), some (.inr (.inr 0)), some (.inr (.inr 83)), some (.inl i)] [] μ := by
  have iL : (L : Int) ≤ 2560 := by omega
  have ix : ∀ k : Int, 0 ≤ k → k ≤ 4 → 0 ≤ am_c (i + k) ∧ am_c (i + k) < L := fun k h0 h1 => by rw [am_cR (by omega) (by omega)]; omega
  have cx : ∀ j, am_c (xs j) = xs j := fun j => am_cR (by have := (hX j).1; omega) (by have := (hX j).2; omega)
  have hb := sx_all hI.1
  have hc := mi_all hI.2.1
  have hR := hI.2.2
  have hwM := hR.1.2
  have hwC : fp_fw 999 (fv μ 1) := by rw [hR.1.1]; exact hwM
  have n14 : 0 ≤ μ 1 4 ∧ μ 1 4 ≤ 4 := by omega
  have nM : μ 1 4 = μ 83 14 := (fp_ct_n hR.1.1).1 4 (by decide)
  refine am_go (ct := fun pc => Nat.beq pc 1663) am_oL_law 60 ?_
  conv => whnf
  repeat' first
    | (refine (?_ : am_wp _ _ _ _ _ _ _ _ _ _ _ _); conv => whnf)
    | refine And.intro ⟨rfl, rfl⟩ ?_
    | refine And.intro (ix _ (by decide) (by decide)) ?_
    | refine And.intro trivial ?_
    | refine s_startF _ _ (cx _) (cx _) n14.1 n14.2 (fun a1 a2 μ1 f1 e1 z1 => ?_) (fun r1 μ1 a0 f1 => ?_)
    | (have m1 : mv μ1 = mv μ := mv_keep (fun a b q => f1 a b (by omega) (by omega)); have t14 : μ1 83 14 = μ 83 14 := f1 83 14 (by omega) (by omega); refine n_startF _ _ (cx _) (cx _) (by rw [t14]; omega) (by rw [t14]; omega) (fun b1 b2 μ2 f2 e2 z2 => ?_) (fun r2 μ2 b0 f2 => ?_))
    | (have m1 : mv μ1 = mv μ := mv_keep (fun a b q => f1 a b (by omega)); have t14 : μ1 83 14 = μ 83 14 := f1 83 14 (by omega); refine n_startF _ _ (cx _) (cx _) (by rw [t14]; omega) (by rw [t14]; omega) (fun b1 b2 μ2 f2 e2 z2 => ?_) (fun r2 μ2 b0 f2 => ?_))
    | (refine hH _ ?_; first | exact LI_fld hI f1 f2 z1 z2 (by rw [e1, e2, m1, hR.1.1]) (by rw [e2, m1]; exact fw_ct (fw_arr hwM (by decide) (fun _ => a2) (Or.inr (by decide)))) | exact LI_ref hI f1 f2 | (exfalso; rw [t14] at *; omega) | (exfalso; exact a0 ⟨b1, b2⟩) | (exfalso; exact b0 ⟨a1, a2⟩) | (exfalso; omega))
  all_goals (first | exact LI_fld hI f1 f2 z1 z2 (by rw [e1, e2, m1, hR.1.1]) (by rw [e2, m1]; exact fw_ct (fw_arr hwM (by decide) (fun _ => a2) (Or.inr (by decide)))) | exact LI_ref hI f1 f2 | (exfalso; rw [t14] at *; omega) | (exfalso; exact a0 ⟨b1, b2⟩) | (exfalso; exact b0 ⟨a1, a2⟩) | (exfalso; omega) | (trace_state; fail))
theorem lx_c4 {l : Launch} {L : Nat} {xs : Nat → Int} {i : Int} (hX : lx_X xs) (hL : L ≤ 2560) (i0 : 0 ≤ i) (i1 : i ≤ (L : Int) - 5) (hH : lx_H l L xs i) (μ : am_N) (hI : lx_I μ) : am_AW l L xs 0 lx_Q 358 [some (.inr (.inr 999)), some (.inr (.inr 0)), some (.inr (.inr 83)), some (.inl i)] [] μ := by
  have iL : (L : Int) ≤ 2560 := by omega
  have ix : ∀ k : Int, 0 ≤ k → k ≤ 4 → 0 ≤ am_c (i + k) ∧ am_c (i + k) < L := fun k h0 h1 => by rw [am_cR (by omega) (by omega)]; omega
  have cx : ∀ j, am_c (xs j) = xs j := fun j => am_cR (by have := (hX j).1; omega) (by have := (hX j).2; omega)
  have hb := sx_all hI.1
  have hc := mi_all hI.2.1
  have hR := hI.2.2
  have hwM := hR.1.2
  have hwC : fp_fw 999 (fv μ 1) := by rw [hR.1.1]; exact hwM
  have n14 : 0 ≤ μ 1 4 ∧ μ 1 4 ≤ 4 := by omega
  have nM : μ 1 4 = μ 83 14 := (fp_ct_n hR.1.1).1 4 (by decide)
  refine am_go (ct := fun pc => Nat.beq pc 1663) am_oL_law 60 ?_
  conv => whnf
  repeat' first
    | (refine (?_ : am_wp _ _ _ _ _ _ _ _ _ _ _ _); conv => whnf)
    | refine And.intro ⟨rfl, rfl⟩ ?_
    | refine And.intro (ix _ (by decide) (by decide)) ?_
    | refine And.intro trivial ?_
    | refine s_kindF _ _ _ (cx _) (cx _) (cx _) n14.1 n14.2 (fun a1 a2 a3 μ1 f1 e1 z1 => ?_) (fun r1 μ1 a0 f1 => ?_)
    | (have m1 : mv μ1 = mv μ := mv_keep (fun a b q => f1 a b (by omega) (by omega)); have t14 : μ1 83 14 = μ 83 14 := f1 83 14 (by omega) (by omega); refine n_kindF _ _ _ (cx _) (cx _) (cx _) (by rw [t14]; omega) (by rw [t14]; omega) (fun b1 b2 b3 μ2 f2 e2 z2 => ?_) (fun r2 μ2 b0 f2 => ?_))
    | (have m1 : mv μ1 = mv μ := mv_keep (fun a b q => f1 a b (by omega)); have t14 : μ1 83 14 = μ 83 14 := f1 83 14 (by omega); refine n_kindF _ _ _ (cx _) (cx _) (cx _) (by rw [t14]; omega) (by rw [t14]; omega) (fun b1 b2 b3 μ2 f2 e2 z2 => ?_) (fun r2 μ2 b0 f2 => ?_))
    | (refine hH _ ?_; first | exact LI_fld hI f1 f2 z1 z2 (by rw [e1, e2, m1, hR.1.1]) (by rw [e2, m1]; exact fw_ct (fw_kind hwM a2 a3)) | exact LI_ref hI f1 f2 | (exfalso; rw [t14] at *; omega) | (exfalso; exact a0 ⟨b1, b2⟩) | (exfalso; exact b0 ⟨a1, a2⟩) | (exfalso; omega))
  all_goals (first | exact LI_fld hI f1 f2 z1 z2 (by rw [e1, e2, m1, hR.1.1]) (by rw [e2, m1]; exact fw_ct (fw_kind hwM a2 a3)) | exact LI_ref hI f1 f2 | (exfalso; rw [t14] at *; omega) | (exfalso; exact a0 ⟨b1, b2⟩) | (exfalso; exact b0 ⟨a1, a2⟩) | (exfalso; omega) | (trace_state; fail))
theorem lx_c5 {l : Launch} {L : Nat} {xs : Nat → Int} {i : Int} (hX : lx_X xs) (hL : L ≤ 2560) (i0 : 0 ≤ i) (i1 : i ≤ (L : Int) - 5) (hH : lx_H l L xs i) (μ : am_N) (hI : lx_I μ) : am_AW l L xs 0 lx_Q 401 [some (.inr (.inr 999)), some (.inr (.inr 0)), some (.inr (.inr 83)), some (.inl i)] [] μ := by
  have iL : (L : Int) ≤ 2560 := by omega
  have ix : ∀ k : Int, 0 ≤ k → k ≤ 4 → 0 ≤ am_c (i + k) ∧ am_c (i + k) < L := fun k h0 h1 => by rw [am_cR (by omega) (by omega)]; omega
  have cx : ∀ j, am_c (xs j) = xs j := fun j => am_cR (by have := (hX j).1; omega) (by have := (hX j).2; omega)
  have hb := sx_all hI.1
  have hc := mi_all hI.2.1
  have hR := hI.2.2
  have hwM := hR.1.2
  have hwC : fp_fw 999 (fv μ 1) := by rw [hR.1.1]; exact hwM
  have n14 : 0 ≤ μ 1 4 ∧ μ 1 4 ≤ 4 := by omega
  have nM : μ 1 4 = μ 83 14 := (fp_ct_n hR.1.1).1 4 (by decide)
  refine am_go (ct := fun pc => Nat.beq pc 1663) am_oL_law 60 ?_
  conv => whnf
  repeat' first
    | (refine (?_ : am_wp _ _ _ _ _ _ _ _ _ _ _ _); conv => whnf)
    | refine And.intro ⟨rfl, rfl⟩ ?_
    | refine And.intro (ix _ (by decide) (by decide)) ?_
    | refine And.intro trivial ?_
    | refine s_setF _ _ (cx _) (cx _) (fun a1 a2 μ1 f1 e1 z1 => ?_) (fun a0 r1 μ1 f1 => ?_)
    | (have m1 : mv μ1 = mv μ := mv_keep (fun a b q => f1 a b (by omega) (by omega)); have t14 : μ1 83 14 = μ 83 14 := f1 83 14 (by omega) (by omega); refine n_setF _ _ (cx _) (cx _) (fun b1 b2 μ2 f2 e2 z2 => ?_) (fun b0 r2 μ2 f2 => ?_))
    | (have m1 : mv μ1 = mv μ := mv_keep (fun a b q => f1 a b (by omega)); have t14 : μ1 83 14 = μ 83 14 := f1 83 14 (by omega); refine n_setF _ _ (cx _) (cx _) (fun b1 b2 μ2 f2 e2 z2 => ?_) (fun b0 r2 μ2 f2 => ?_))
    | (refine hH _ ?_; first | exact LI_fld hI f1 f2 z1 z2 (by rw [e1, e2, m1, hR.1.1]) (by rw [e2, m1]; exact fw_ct (fw_set hwM a1 a2)) | exact LI_ref hI f1 f2 | (exfalso; rw [t14] at *; omega) | (exfalso; exact a0 ⟨b1, b2⟩) | (exfalso; exact b0 ⟨a1, a2⟩) | (exfalso; omega))
  all_goals (first | exact LI_fld hI f1 f2 z1 z2 (by rw [e1, e2, m1, hR.1.1]) (by rw [e2, m1]; exact fw_ct (fw_set hwM a1 a2)) | exact LI_ref hI f1 f2 | (exfalso; rw [t14] at *; omega) | (exfalso; exact a0 ⟨b1, b2⟩) | (exfalso; exact b0 ⟨a1, a2⟩) | (exfalso; omega) | (trace_state; fail))
theorem lx_c6 {l : Launch} {L : Nat} {xs : Nat → Int} {i : Int} (hX : lx_X xs) (hL : L ≤ 2560) (i0 : 0 ≤ i) (i1 : i ≤ (L : Int) - 5) (hH : lx_H l L xs i) (μ : am_N) (hI : lx_I μ) : am_AW l L xs 0 lx_Q 434 [some (.inr (.inr 999)), some (.inr (.inr 0)), some (.inr (.inr 83)), some (.inl i)] [] μ := by
  have iL : (L : Int) ≤ 2560 := by omega
  have ix : ∀ k : Int, 0 ≤ k → k ≤ 4 → 0 ≤ am_c (i + k) ∧ am_c (i + k) < L := fun k h0 h1 => by rw [am_cR (by omega) (by omega)]; omega
  have cx : ∀ j, am_c (xs j) = xs j := fun j => am_cR (by have := (hX j).1; omega) (by have := (hX j).2; omega)
  have hb := sx_all hI.1
  have hc := mi_all hI.2.1
  have hR := hI.2.2
  have hwM := hR.1.2
  have hwC : fp_fw 999 (fv μ 1) := by rw [hR.1.1]; exact hwM
  have n14 : 0 ≤ μ 1 4 ∧ μ 1 4 ≤ 4 := by omega
  have nM : μ 1 4 = μ 83 14 := (fp_ct_n hR.1.1).1 4 (by decide)
  refine am_go (ct := fun pc => Nat.beq pc 1663) am_oL_law 60 ?_
  conv => whnf
  repeat' first
    | (refine (?_ : am_wp _ _ _ _ _ _ _ _ _ _ _ _); conv => whnf)
    | refine And.intro ⟨rfl, rfl⟩ ?_
    | refine And.intro (ix _ (by decide) (by decide)) ?_
    | refine And.intro trivial ?_
    | (refine s_run hwC hI.1.2.1 (by omega) (fun a1 a2 μ1 f1 h1 p34 e29 e62 r1 w1 o1 => ?_) (fun r1 μ1 a0 f1 => ?_))
    | (have m1 : mv μ1 = mv μ := mv_keep (fun a b q => f1 a b (by omega) (by omega) (by omega) (by omega) (by omega) (by omega) (by omega)); have t14 : μ1 83 14 = μ 83 14 := f1 83 14 (by omega) (by omega) (by omega) (by omega) (by omega) (by omega) (by omega); have t11 : μ1 83 11 = μ 83 11 := f1 83 11 (by omega) (by omega) (by omega) (by omega) (by omega) (by omega) (by omega); have t33 : μ1 83 33 = μ 83 33 := f1 83 33 (by omega) (by omega) (by omega) (by omega) (by omega) (by omega) (by omega); refine n_run (by rw [m1]; exact hwM) (fun p hp => by rw [f1 100 p (by omega) (by omega) (by omega) (by omega) (by omega) (by omega) (by omega)]; exact mi_or hI.2.1 p hp) (by rw [t33]; omega) (fun b1 b2 μ2 f2 h2 p100 e33 r2 w2 o2 q2 => ?_) (fun r2 μ2 b0 f2 => ?_))
    | (have m1 : mv μ1 = mv μ := mv_keep (fun a b q => f1 a b (by omega)); have t14 : μ1 83 14 = μ 83 14 := f1 83 14 (by omega); have t11 : μ1 83 11 = μ 83 11 := f1 83 11 (by omega); have t33 : μ1 83 33 = μ 83 33 := f1 83 33 (by omega); refine n_run (by rw [m1]; exact hwM) (fun p hp => by rw [f1 100 p (by omega)]; exact mi_or hI.2.1 p hp) (by rw [t33]; omega) (fun b1 b2 μ2 f2 h2 p100 e33 r2 w2 o2 q2 => ?_) (fun r2 μ2 b0 f2 => ?_))
    | (refine hH _ ?_; first | exact LI_run hI a2 f1 h1 p34 e29 e62 r1 w1 o1 f2 h2 p100 e33 r2 w2 o2 q2 | exact LI_ref hI f1 f2 | (exfalso; have nW : μ 1 1 = μ 83 11 := (fp_ct_n hR.1.1).1 1 (by decide); rw [t14, t11] at *; omega))
  all_goals (first | exact LI_run hI a2 f1 h1 p34 e29 e62 r1 w1 o1 f2 h2 p100 e33 r2 w2 o2 q2 | exact LI_ref hI f1 f2 | (exfalso; have nW : μ 1 1 = μ 83 11 := (fp_ct_n hR.1.1).1 1 (by decide); rw [t14, t11] at *; omega) | (trace_state; fail))
theorem lx_c7 {l : Launch} {L : Nat} {xs : Nat → Int} {i : Int} (hX : lx_X xs) (hL : L ≤ 2560) (i0 : 0 ≤ i) (i1 : i ≤ (L : Int) - 5) (hH : lx_H l L xs i) (μ : am_N) (hI : lx_I μ) : am_AW l L xs 0 lx_Q 447 [some (.inr (.inr 999)), some (.inr (.inr 0)), some (.inr (.inr 83)), some (.inl i)] [] μ := by
  have iL : (L : Int) ≤ 2560 := by omega
  have ix : ∀ k : Int, 0 ≤ k → k ≤ 4 → 0 ≤ am_c (i + k) ∧ am_c (i + k) < L := fun k h0 h1 => by rw [am_cR (by omega) (by omega)]; omega
  refine am_go (ct := fun pc => Nat.beq pc 1663) am_oL_law 60 ?_
  conv => whnf
  repeat' first
    | (refine (?_ : am_wp _ _ _ _ _ _ _ _ _ _ _ _); conv => whnf)
    | refine And.intro ⟨rfl, rfl⟩ ?_
    | refine And.intro (ix _ (by decide) (by decide)) ?_
    | refine And.intro trivial ?_
    | refine w_order_X6 (ν := μ)  hI.1  (fun r1 μ1 h0 => ?_)
  have h1 := gv_of_sx h0
  have hE : lx_E [] := lx_c rfl
  have hm1 := lx_mi hE h1 hI.2.1
  repeat' first
    | (refine (?_ : am_wp _ _ _ _ _ _ _ _ _ _ _ _); conv => whnf)
    | refine And.intro ⟨rfl, rfl⟩ ?_
    | refine And.intro (ix _ (by decide) (by decide)) ?_
    | refine And.intro trivial ?_
    | refine m_order  hm1  (fun r2 μ2 h2 => ?_)
  have hA : lx_A ms := lx_A0
  have hI2 : lx_I μ2 := LI_weak hI h1 h2 hE rfl hA fp_Acs
  repeat' first
    | (refine (?_ : am_wp _ _ _ _ _ _ _ _ _ _ _ _); conv => whnf)
    | refine And.intro trivial ?_
    | exact hH _ hI2
theorem lx_c8 {l : Launch} {L : Nat} {xs : Nat → Int} {i : Int} (hX : lx_X xs) (hL : L ≤ 2560) (i0 : 0 ≤ i) (i1 : i ≤ (L : Int) - 5) (hH : lx_H l L xs i) (μ : am_N) (hI : lx_I μ) : am_AW l L xs 0 lx_Q 460 [some (.inr (.inr 999)), some (.inr (.inr 0)), some (.inr (.inr 83)), some (.inl i)] [] μ := by
  have iL : (L : Int) ≤ 2560 := by omega
  have ix : ∀ k : Int, 0 ≤ k → k ≤ 4 → 0 ≤ am_c (i + k) ∧ am_c (i + k) < L := fun k h0 h1 => by rw [am_cR (by omega) (by omega)]; omega
  refine am_go (ct := fun pc => Nat.beq pc 1663) am_oL_law 60 ?_
  conv => whnf
  repeat' first
    | (refine (?_ : am_wp _ _ _ _ _ _ _ _ _ _ _ _); conv => whnf)
    | refine And.intro ⟨rfl, rfl⟩ ?_
    | refine And.intro (ix _ (by decide) (by decide)) ?_
    | refine And.intro trivial ?_
    | refine w_likely_X6 (ν := μ) _ _ hI.1 (hX _).1 (hX _).2 (hX _).1 (hX _).2 (fun r1 μ1 h0 => ?_)
  have h1 := gv_of_sx h0
  have hE : lx_E [] := lx_c rfl
  have hm1 := lx_mi hE h1 hI.2.1
  repeat' first
    | (refine (?_ : am_wp _ _ _ _ _ _ _ _ _ _ _ _); conv => whnf)
    | refine And.intro ⟨rfl, rfl⟩ ?_
    | refine And.intro (ix _ (by decide) (by decide)) ?_
    | refine And.intro trivial ?_
    | refine m_likely _ _ hm1 (hX _).1 (hX _).2 (hX _).1 (hX _).2 (fun r2 μ2 h2 => ?_)
  have hA : lx_A ms := lx_A0
  have hI2 : lx_I μ2 := LI_weak hI h1 h2 hE rfl hA fp_Acs
  repeat' first
    | (refine (?_ : am_wp _ _ _ _ _ _ _ _ _ _ _ _); conv => whnf)
    | refine And.intro trivial ?_
    | exact hH _ hI2
theorem lx_c9 {l : Launch} {L : Nat} {xs : Nat → Int} {i : Int} (hX : lx_X xs) (hL : L ≤ 2560) (i0 : 0 ≤ i) (i1 : i ≤ (L : Int) - 5) (hH : lx_H l L xs i) (μ : am_N) (hI : lx_I μ) : am_AW l L xs 0 lx_Q 493 [some (.inr (.inr 999)), some (.inr (.inr 0)), some (.inr (.inr 83)), some (.inl i)] [] μ := by
  have iL : (L : Int) ≤ 2560 := by omega
  have ix : ∀ k : Int, 0 ≤ k → k ≤ 4 → 0 ≤ am_c (i + k) ∧ am_c (i + k) < L := fun k h0 h1 => by rw [am_cR (by omega) (by omega)]; omega
  refine am_go (ct := fun pc => Nat.beq pc 1663) am_oL_law 60 ?_
  conv => whnf
  repeat' first
    | (refine (?_ : am_wp _ _ _ _ _ _ _ _ _ _ _ _); conv => whnf)
    | refine And.intro ⟨rfl, rfl⟩ ?_
    | refine And.intro (ix _ (by decide) (by decide)) ?_
    | refine And.intro trivial ?_
    | refine w_ordered_X6 (ν := μ) _ _ hI.1 (hX _).1 (hX _).2 (hX _).1 (hX _).2 (fun r1 μ1 h0 => ?_)
  have h1 := gv_of_sx h0
  have hE : lx_E [] := lx_c rfl
  have hm1 := lx_mi hE h1 hI.2.1
  repeat' first
    | (refine (?_ : am_wp _ _ _ _ _ _ _ _ _ _ _ _); conv => whnf)
    | refine And.intro ⟨rfl, rfl⟩ ?_
    | refine And.intro (ix _ (by decide) (by decide)) ?_
    | refine And.intro trivial ?_
    | refine m_ordered _ _ hm1 (hX _).1 (hX _).2 (hX _).1 (hX _).2 (fun r2 μ2 h2 => ?_)
  have hA : lx_A ms := lx_A0
  have hI2 : lx_I μ2 := LI_weak hI h1 h2 hE rfl hA fp_Acs
  repeat' first
    | (refine (?_ : am_wp _ _ _ _ _ _ _ _ _ _ _ _); conv => whnf)
    | refine And.intro trivial ?_
    | exact hH _ hI2
theorem lx_c10 {l : Launch} {L : Nat} {xs : Nat → Int} {i : Int} (hX : lx_X xs) (hL : L ≤ 2560) (i0 : 0 ≤ i) (i1 : i ≤ (L : Int) - 5) (hH : lx_H l L xs i) (μ : am_N) (hI : lx_I μ) : am_AW l L xs 0 lx_Q 526 [some (.inr (.inr 999)), some (.inr (.inr 0)), some (.inr (.inr 83)), some (.inl i)] [] μ := by
  have iL : (L : Int) ≤ 2560 := by omega
  have ix : ∀ k : Int, 0 ≤ k → k ≤ 4 → 0 ≤ am_c (i + k) ∧ am_c (i + k) < L := fun k h0 h1 => by rw [am_cR (by omega) (by omega)]; omega
  have cx : ∀ j, am_c (xs j) = xs j := fun j => am_cR (by have := (hX j).1; omega) (by have := (hX j).2; omega)
  have hb := sx_all hI.1
  have hc := mi_all hI.2.1
  have hR := hI.2.2
  have hwM := hR.1.2
  have hwC : fp_fw 999 (fv μ 1) := by rw [hR.1.1]; exact hwM
  have n14 : 0 ≤ μ 1 4 ∧ μ 1 4 ≤ 4 := by omega
  have nM : μ 1 4 = μ 83 14 := (fp_ct_n hR.1.1).1 4 (by decide)
  refine am_go (ct := fun pc => Nat.beq pc 1663) am_oL_law 60 ?_
  conv => whnf
  repeat' first
    | (refine (?_ : am_wp _ _ _ _ _ _ _ _ _ _ _ _); conv => whnf)
    | refine And.intro ⟨rfl, rfl⟩ ?_
    | refine And.intro (ix _ (by decide) (by decide)) ?_
    | refine And.intro trivial ?_
    | refine s_close _ _ (cx _) (cx _) hI.1 hwC (fun μ1 h0 => ?_)
    | (have h1 := gv_of_sx h0; have m1 : mv μ1 = mv μ := mv_keep (fun a b q => h0.1 a b (sx_p83 (by omega))); refine n_close _ _ (cx _) (cx _) (lx_mi (lx_c rfl) h1 hI.2.1) (by rw [m1]; exact hwM) (fun μ2 h2 => ?_))
    | (refine hH _ ?_; first | exact LI_weak (E := []) hI h1 h2 (lx_c rfl) rfl lx_A0 fp_Acs)
    | refine And.intro (fun _ => ?_) (fun hne => absurd ?_ hne)
    | refine And.intro (fun hne => absurd ?_ hne) (fun _ => ?_)
  all_goals (first | exact LI_weak (E := []) hI h1 h2 (lx_c rfl) rfl lx_A0 fp_Acs | rfl | (rw [m1, hR.1.1]; exact fp_lceq _) | (trace_state; fail))
theorem lx_c11 {l : Launch} {L : Nat} {xs : Nat → Int} {i : Int} (hX : lx_X xs) (hL : L ≤ 2560) (i0 : 0 ≤ i) (i1 : i ≤ (L : Int) - 5) (hH : lx_H l L xs i) (μ : am_N) (hI : lx_I μ) : am_AW l L xs 0 lx_Q 560 [some (.inr (.inr 999)), some (.inr (.inr 0)), some (.inr (.inr 83)), some (.inl i)] [] μ := by
  have iL : (L : Int) ≤ 2560 := by omega
  have ix : ∀ k : Int, 0 ≤ k → k ≤ 4 → 0 ≤ am_c (i + k) ∧ am_c (i + k) < L := fun k h0 h1 => by rw [am_cR (by omega) (by omega)]; omega
  refine am_go (ct := fun pc => Nat.beq pc 1663) am_oL_law 60 ?_
  conv => whnf
  repeat' first
    | (refine (?_ : am_wp _ _ _ _ _ _ _ _ _ _ _ _); conv => whnf)
    | refine And.intro ⟨rfl, rfl⟩ ?_
    | refine And.intro (ix _ (by decide) (by decide)) ?_
    | refine And.intro trivial ?_
    | refine w_sure_X6 (ν := μ) _ hI.1 (hX _).1 (hX _).2 (fun r1 μ1 h0 => ?_)
  have h1 := gv_of_sx h0
  have hE : lx_E [] := lx_c rfl
  have hm1 := lx_mi hE h1 hI.2.1
  repeat' first
    | (refine (?_ : am_wp _ _ _ _ _ _ _ _ _ _ _ _); conv => whnf)
    | refine And.intro ⟨rfl, rfl⟩ ?_
    | refine And.intro (ix _ (by decide) (by decide)) ?_
    | refine And.intro trivial ?_
    | refine m_sure _ hm1 (hX _).1 (hX _).2 (fun r2 μ2 h2 => ?_)
  have hA : lx_A ms := lx_A0
  have hI2 : lx_I μ2 := LI_weak hI h1 h2 hE rfl hA fp_Acs
  repeat' first
    | (refine (?_ : am_wp _ _ _ _ _ _ _ _ _ _ _ _); conv => whnf)
    | refine And.intro trivial ?_
    | exact hH _ hI2
theorem lx_c12 {l : Launch} {L : Nat} {xs : Nat → Int} {i : Int} (hX : lx_X xs) (hL : L ≤ 2560) (i0 : 0 ≤ i) (i1 : i ≤ (L : Int) - 5) (hH : lx_H l L xs i) (μ : am_N) (hI : lx_I μ) : am_AW l L xs 0 lx_Q 583 [some (.inr (.inr 999)), some (.inr (.inr 0)), some (.inr (.inr 83)), some (.inl i)] [] μ := by
  have iL : (L : Int) ≤ 2560 := by omega
  have ix : ∀ k : Int, 0 ≤ k → k ≤ 4 → 0 ≤ am_c (i + k) ∧ am_c (i + k) < L := fun k h0 h1 => by rw [am_cR (by omega) (by omega)]; omega
  refine am_go (ct := fun pc => Nat.beq pc 1663) am_oL_law 60 ?_
  conv => whnf
  repeat' first
    | (refine (?_ : am_wp _ _ _ _ _ _ _ _ _ _ _ _); conv => whnf)
    | refine And.intro ⟨rfl, rfl⟩ ?_
    | refine And.intro (ix _ (by decide) (by decide)) ?_
    | refine And.intro trivial ?_
    | refine w_even_X6 (ν := μ) _ _ hI.1 (hX _).1 (hX _).2 (hX _).1 (hX _).2 (fun r1 μ1 h0 => ?_)
  have h1 := gv_of_sx h0
  have hE : lx_E [] := lx_c rfl
  have hm1 := lx_mi hE h1 hI.2.1
  repeat' first
    | (refine (?_ : am_wp _ _ _ _ _ _ _ _ _ _ _ _); conv => whnf)
    | refine And.intro ⟨rfl, rfl⟩ ?_
    | refine And.intro (ix _ (by decide) (by decide)) ?_
    | refine And.intro trivial ?_
    | refine m_even _ _ hm1 (hX _).1 (hX _).2 (hX _).1 (hX _).2 (fun r2 μ2 h2 => ?_)
  have hA : lx_A ms := lx_A0
  have hI2 : lx_I μ2 := LI_weak hI h1 h2 hE rfl hA fp_Acs
  repeat' first
    | (refine (?_ : am_wp _ _ _ _ _ _ _ _ _ _ _ _); conv => whnf)
    | refine And.intro trivial ?_
    | exact hH _ hI2
/-! the law: cases -/
theorem lx_c13 {l : Launch} {L : Nat} {xs : Nat → Int} {i : Int} (hX : lx_X xs) (hL : L ≤ 2560) (i0 : 0 ≤ i) (i1 : i ≤ (L : Int) - 5) (hH : lx_H l L xs i) (μ : am_N) (hI : lx_I μ) : am_AW l L xs 0 lx_Q 616 [some (.inr (.inr 999)), some (.inr (.inr 0)), some (.inr (.inr 83)), some (.inl i)] [] μ := by
  have iL : (L : Int) ≤ 2560 := by omega
  have ix : ∀ k : Int, 0 ≤ k → k ≤ 4 → 0 ≤ am_c (i + k) ∧ am_c (i + k) < L := fun k h0 h1 => by rw [am_cR (by omega) (by omega)]; omega
  refine am_go (ct := fun pc => Nat.beq pc 1663) am_oL_law 60 ?_
  conv => whnf
  repeat' first
    | (refine (?_ : am_wp _ _ _ _ _ _ _ _ _ _ _ _); conv => whnf)
    | refine And.intro ⟨rfl, rfl⟩ ?_
    | refine And.intro (ix _ (by decide) (by decide)) ?_
    | refine And.intro trivial ?_
    | refine w_starts_X6 (ν := μ) _ _ hI.1 (hX _).1 (hX _).2 (hX _).1 (hX _).2 (fun r1 μ1 h0 => ?_)
  have h1 := gv_of_sx h0
  have hE : lx_E [] := lx_c rfl
  have hm1 := lx_mi hE h1 hI.2.1
  repeat' first
    | (refine (?_ : am_wp _ _ _ _ _ _ _ _ _ _ _ _); conv => whnf)
    | refine And.intro ⟨rfl, rfl⟩ ?_
    | refine And.intro (ix _ (by decide) (by decide)) ?_
    | refine And.intro trivial ?_
    | refine m_starts _ _ hm1 (hX _).1 (hX _).2 (hX _).1 (hX _).2 (fun r2 μ2 h2 => ?_)
  have hA : lx_A mQ := (lx_Ao lx_A0 lx_Q1)
  have hI2 : lx_I μ2 := LI_weak hI h1 h2 hE rfl hA fp_AcQ
  repeat' first
    | (refine (?_ : am_wp _ _ _ _ _ _ _ _ _ _ _ _); conv => whnf)
    | refine And.intro trivial ?_
    | exact hH _ hI2
theorem lx_c14 {l : Launch} {L : Nat} {xs : Nat → Int} {i : Int} (hX : lx_X xs) (hL : L ≤ 2560) (i0 : 0 ≤ i) (i1 : i ≤ (L : Int) - 5) (hH : lx_H l L xs i) (μ : am_N) (hI : lx_I μ) : am_AW l L xs 0 lx_Q 649 [some (.inr (.inr 999)), some (.inr (.inr 0)), some (.inr (.inr 83)), some (.inl i)] [] μ := by
  have iL : (L : Int) ≤ 2560 := by omega
  have ix : ∀ k : Int, 0 ≤ k → k ≤ 4 → 0 ≤ am_c (i + k) ∧ am_c (i + k) < L := fun k h0 h1 => by rw [am_cR (by omega) (by omega)]; omega
  refine am_go (ct := fun pc => Nat.beq pc 1663) am_oL_law 60 ?_
  conv => whnf
  repeat' first
    | (refine (?_ : am_wp _ _ _ _ _ _ _ _ _ _ _ _); conv => whnf)
    | refine And.intro ⟨rfl, rfl⟩ ?_
    | refine And.intro (ix _ (by decide) (by decide)) ?_
    | refine And.intro trivial ?_
    | refine w_load_X6 (ν := μ) _ hI.1 (hX _).1 (hX _).2 (fun r1 μ1 h0 => ?_)
  have h1 := gv_of_sx h0
  have hE : lx_E [] := lx_c rfl
  have hm1 := lx_mi hE h1 hI.2.1
  repeat' first
    | (refine (?_ : am_wp _ _ _ _ _ _ _ _ _ _ _ _); conv => whnf)
    | refine And.intro ⟨rfl, rfl⟩ ?_
    | refine And.intro (ix _ (by decide) (by decide)) ?_
    | refine And.intro trivial ?_
    | refine m_load _ hm1 (hX _).1 (hX _).2 (fun r2 μ2 h2 => ?_)
  have hA : lx_A mQ := (lx_Ao lx_A0 lx_Q1)
  have hI2 : lx_I μ2 := LI_weak hI h1 h2 hE rfl hA fp_AcQ
  repeat' first
    | (refine (?_ : am_wp _ _ _ _ _ _ _ _ _ _ _ _); conv => whnf)
    | refine And.intro trivial ?_
    | exact hH _ hI2
theorem lx_c15 {l : Launch} {L : Nat} {xs : Nat → Int} {i : Int} (hX : lx_X xs) (hL : L ≤ 2560) (i0 : 0 ≤ i) (i1 : i ≤ (L : Int) - 5) (hH : lx_H l L xs i) (μ : am_N) (hI : lx_I μ) : am_AW l L xs 0 lx_Q 672 [some (.inr (.inr 999)), some (.inr (.inr 0)), some (.inr (.inr 83)), some (.inl i)] [] μ := by
  have iL : (L : Int) ≤ 2560 := by omega
  have ix : ∀ k : Int, 0 ≤ k → k ≤ 4 → 0 ≤ am_c (i + k) ∧ am_c (i + k) < L := fun k h0 h1 => by rw [am_cR (by omega) (by omega)]; omega
  refine am_go (ct := fun pc => Nat.beq pc 1663) am_oL_law 60 ?_
  conv => whnf
  repeat' first
    | (refine (?_ : am_wp _ _ _ _ _ _ _ _ _ _ _ _); conv => whnf)
    | refine And.intro ⟨rfl, rfl⟩ ?_
    | refine And.intro (ix _ (by decide) (by decide)) ?_
    | refine And.intro trivial ?_
    | refine w_on_X6 (ν := μ) _ _ _ hI.1 (hX _).1 (hX _).2 (hX _).1 (hX _).2 (hX _).1 (hX _).2 (fun r1 μ1 h0 => ?_)
  have h1 := gv_of_sx h0
  have hE : lx_E [] := lx_c rfl
  have hm1 := lx_mi hE h1 hI.2.1
  repeat' first
    | (refine (?_ : am_wp _ _ _ _ _ _ _ _ _ _ _ _); conv => whnf)
    | refine And.intro ⟨rfl, rfl⟩ ?_
    | refine And.intro (ix _ (by decide) (by decide)) ?_
    | refine And.intro trivial ?_
    | refine m_on _ _ _ hm1 (hX _).1 (hX _).2 (hX _).1 (hX _).2 (hX _).1 (hX _).2 (fun r2 μ2 h2 => ?_)
  have hA : lx_A mQ := (lx_Ao lx_A0 lx_Q1)
  have hI2 : lx_I μ2 := LI_weak hI h1 h2 hE rfl hA fp_AcQ
  repeat' first
    | (refine (?_ : am_wp _ _ _ _ _ _ _ _ _ _ _ _); conv => whnf)
    | refine And.intro trivial ?_
    | exact hH _ hI2
theorem lx_c16 {l : Launch} {L : Nat} {xs : Nat → Int} {i : Int} (hX : lx_X xs) (hL : L ≤ 2560) (i0 : 0 ≤ i) (i1 : i ≤ (L : Int) - 5) (hH : lx_H l L xs i) (μ : am_N) (hI : lx_I μ) : am_AW l L xs 0 lx_Q 715 [some (.inr (.inr 999)), some (.inr (.inr 0)), some (.inr (.inr 83)), some (.inl i)] [] μ := by
  have iL : (L : Int) ≤ 2560 := by omega
  have ix : ∀ k : Int, 0 ≤ k → k ≤ 4 → 0 ≤ am_c (i + k) ∧ am_c (i + k) < L := fun k h0 h1 => by rw [am_cR (by omega) (by omega)]; omega
  refine am_go (ct := fun pc => Nat.beq pc 1663) am_oL_law 60 ?_
  conv => whnf
  repeat' first
    | (refine (?_ : am_wp _ _ _ _ _ _ _ _ _ _ _ _); conv => whnf)
    | refine And.intro ⟨rfl, rfl⟩ ?_
    | refine And.intro (ix _ (by decide) (by decide)) ?_
    | refine And.intro trivial ?_
    | refine w_settles_X6 (ν := μ)  hI.1  (fun r1 μ1 h0 => ?_)
  have h1 := gv_of_sx h0
  have hE : lx_E [] := lx_c rfl
  have hm1 := lx_mi hE h1 hI.2.1
  repeat' first
    | (refine (?_ : am_wp _ _ _ _ _ _ _ _ _ _ _ _); conv => whnf)
    | refine And.intro ⟨rfl, rfl⟩ ?_
    | refine And.intro (ix _ (by decide) (by decide)) ?_
    | refine And.intro trivial ?_
    | refine m_settles  hm1  (fun r2 μ2 h2 => ?_)
  have hA : lx_A mQ := (lx_Ao lx_A0 lx_Q1)
  have hI2 : lx_I μ2 := LI_weak hI h1 h2 hE rfl hA fp_AcQ
  repeat' first
    | (refine (?_ : am_wp _ _ _ _ _ _ _ _ _ _ _ _); conv => whnf)
    | refine And.intro trivial ?_
    | exact hH _ hI2
theorem lx_c17 {l : Launch} {L : Nat} {xs : Nat → Int} {i : Int} (hX : lx_X xs) (hL : L ≤ 2560) (i0 : 0 ≤ i) (i1 : i ≤ (L : Int) - 5) (hH : lx_H l L xs i) (μ : am_N) (hI : lx_I μ) : am_AW l L xs 0 lx_Q 728 [some (.inr (.inr 999)), some (.inr (.inr 0)), some (.inr (.inr 83)), some (.inl i)] [] μ := by
  have iL : (L : Int) ≤ 2560 := by omega
  have ix : ∀ k : Int, 0 ≤ k → k ≤ 4 → 0 ≤ am_c (i + k) ∧ am_c (i + k) < L := fun k h0 h1 => by rw [am_cR (by omega) (by omega)]; omega
  refine am_go (ct := fun pc => Nat.beq pc 1663) am_oL_law 60 ?_
  conv => whnf
  repeat' first
    | (refine (?_ : am_wp _ _ _ _ _ _ _ _ _ _ _ _); conv => whnf)
    | refine And.intro ⟨rfl, rfl⟩ ?_
    | refine And.intro (ix _ (by decide) (by decide)) ?_
    | refine And.intro trivial ?_
    | refine w_best_X6 (ν := μ) _ hI.1 (hX _).1 (hX _).2 (fun r1 μ1 h0 => ?_)
  have h1 := gv_of_sx h0
  have hE : lx_E [] := lx_c rfl
  have hm1 := lx_mi hE h1 hI.2.1
  repeat' first
    | (refine (?_ : am_wp _ _ _ _ _ _ _ _ _ _ _ _); conv => whnf)
    | refine And.intro ⟨rfl, rfl⟩ ?_
    | refine And.intro (ix _ (by decide) (by decide)) ?_
    | refine And.intro trivial ?_
    | refine m_best _ hm1 (hX _).1 (hX _).2 (fun r2 μ2 h2 => ?_)
  have hA : lx_A mQ := (lx_Ao lx_A0 lx_Q1)
  have hI2 : lx_I μ2 := LI_weak hI h1 h2 hE rfl hA fp_AcQ
  repeat' first
    | (refine (?_ : am_wp _ _ _ _ _ _ _ _ _ _ _ _); conv => whnf)
    | refine And.intro trivial ?_
    | exact hH _ hI2
theorem lx_c18 {l : Launch} {L : Nat} {xs : Nat → Int} {i : Int} (hX : lx_X xs) (hL : L ≤ 2560) (i0 : 0 ≤ i) (i1 : i ≤ (L : Int) - 5) (hH : lx_H l L xs i) (μ : am_N) (hI : lx_I μ) : am_AW l L xs 0 lx_Q 751 [some (.inr (.inr 999)), some (.inr (.inr 0)), some (.inr (.inr 83)), some (.inl i)] [] μ := by
  have iL : (L : Int) ≤ 2560 := by omega
  have ix : ∀ k : Int, 0 ≤ k → k ≤ 4 → 0 ≤ am_c (i + k) ∧ am_c (i + k) < L := fun k h0 h1 => by rw [am_cR (by omega) (by omega)]; omega
  refine am_go (ct := fun pc => Nat.beq pc 1663) am_oL_law 60 ?_
  conv => whnf
  repeat' first
    | (refine (?_ : am_wp _ _ _ _ _ _ _ _ _ _ _ _); conv => whnf)
    | refine And.intro ⟨rfl, rfl⟩ ?_
    | refine And.intro (ix _ (by decide) (by decide)) ?_
    | refine And.intro trivial ?_
    | refine w_pays_X6 (ν := μ) _ _ hI.1 (hX _).1 (hX _).2 (hX _).1 (hX _).2 (fun r1 μ1 h0 => ?_)
  have h1 := gv_of_sx h0
  have hE : lx_E [] := lx_c rfl
  have hm1 := lx_mi hE h1 hI.2.1
  repeat' first
    | (refine (?_ : am_wp _ _ _ _ _ _ _ _ _ _ _ _); conv => whnf)
    | refine And.intro ⟨rfl, rfl⟩ ?_
    | refine And.intro (ix _ (by decide) (by decide)) ?_
    | refine And.intro trivial ?_
    | refine m_pays _ _ hm1 (hX _).1 (hX _).2 (hX _).1 (hX _).2 (fun r2 μ2 h2 => ?_)
  have hA : lx_A mQ := (lx_Ao lx_A0 lx_Q1)
  have hI2 : lx_I μ2 := LI_weak hI h1 h2 hE rfl hA fp_AcQ
  repeat' first
    | (refine (?_ : am_wp _ _ _ _ _ _ _ _ _ _ _ _); conv => whnf)
    | refine And.intro trivial ?_
    | exact hH _ hI2
theorem lx_c19 {l : Launch} {L : Nat} {xs : Nat → Int} {i : Int} (hX : lx_X xs) (hL : L ≤ 2560) (i0 : 0 ≤ i) (i1 : i ≤ (L : Int) - 5) (hH : lx_H l L xs i) (μ : am_N) (hI : lx_I μ) : am_AW l L xs 0 lx_Q 784 [some (.inr (.inr 999)), some (.inr (.inr 0)), some (.inr (.inr 83)), some (.inl i)] [] μ := by
  have iL : (L : Int) ≤ 2560 := by omega
  have ix : ∀ k : Int, 0 ≤ k → k ≤ 4 → 0 ≤ am_c (i + k) ∧ am_c (i + k) < L := fun k h0 h1 => by rw [am_cR (by omega) (by omega)]; omega
  refine am_go (ct := fun pc => Nat.beq pc 1663) am_oL_law 60 ?_
  conv => whnf
  repeat' first
    | (refine (?_ : am_wp _ _ _ _ _ _ _ _ _ _ _ _); conv => whnf)
    | refine And.intro ⟨rfl, rfl⟩ ?_
    | refine And.intro (ix _ (by decide) (by decide)) ?_
    | refine And.intro trivial ?_
    | refine w_worth_X6 (ν := μ) _ _ hI.1 (hX _).1 (hX _).2 (hX _).1 (hX _).2 (fun r1 μ1 h0 => ?_)
  have h1 := gv_of_sx h0
  have hE : lx_E [] := lx_c rfl
  have hm1 := lx_mi hE h1 hI.2.1
  repeat' first
    | (refine (?_ : am_wp _ _ _ _ _ _ _ _ _ _ _ _); conv => whnf)
    | refine And.intro ⟨rfl, rfl⟩ ?_
    | refine And.intro (ix _ (by decide) (by decide)) ?_
    | refine And.intro trivial ?_
    | refine m_worth _ _ hm1 (hX _).1 (hX _).2 (hX _).1 (hX _).2 (fun r2 μ2 h2 => ?_)
  have hA : lx_A ms := lx_A0
  have hI2 : lx_I μ2 := LI_weak hI h1 h2 hE rfl hA fp_Acs
  repeat' first
    | (refine (?_ : am_wp _ _ _ _ _ _ _ _ _ _ _ _); conv => whnf)
    | refine And.intro trivial ?_
    | exact hH _ hI2
theorem lx_c20 {l : Launch} {L : Nat} {xs : Nat → Int} {i : Int} (hX : lx_X xs) (hL : L ≤ 2560) (i0 : 0 ≤ i) (i1 : i ≤ (L : Int) - 5) (hH : lx_H l L xs i) (μ : am_N) (hI : lx_I μ) : am_AW l L xs 0 lx_Q 817 [some (.inr (.inr 999)), some (.inr (.inr 0)), some (.inr (.inr 83)), some (.inl i)] [] μ := by
  have iL : (L : Int) ≤ 2560 := by omega
  have ix : ∀ k : Int, 0 ≤ k → k ≤ 4 → 0 ≤ am_c (i + k) ∧ am_c (i + k) < L := fun k h0 h1 => by rw [am_cR (by omega) (by omega)]; omega
  refine am_go (ct := fun pc => Nat.beq pc 1663) am_oL_law 60 ?_
  conv => whnf
  repeat' first
    | (refine (?_ : am_wp _ _ _ _ _ _ _ _ _ _ _ _); conv => whnf)
    | refine And.intro ⟨rfl, rfl⟩ ?_
    | refine And.intro (ix _ (by decide) (by decide)) ?_
    | refine And.intro trivial ?_
    | refine w_same_X6 (ν := μ) _ _ _ hI.1 (hX _).1 (hX _).2 (hX _).1 (hX _).2 (hX _).1 (hX _).2 (fun r1 μ1 h0 => ?_)
  have h1 := gv_of_sx h0
  have hE : lx_E [] := lx_c rfl
  have hm1 := lx_mi hE h1 hI.2.1
  repeat' first
    | (refine (?_ : am_wp _ _ _ _ _ _ _ _ _ _ _ _); conv => whnf)
    | refine And.intro ⟨rfl, rfl⟩ ?_
    | refine And.intro (ix _ (by decide) (by decide)) ?_
    | refine And.intro trivial ?_
    | refine m_same _ _ _ hm1 (hX _).1 (hX _).2 (hX _).1 (hX _).2 (hX _).1 (hX _).2 (fun r2 μ2 h2 => ?_)
  have hA : lx_A ms := lx_A0
  have hI2 : lx_I μ2 := LI_weak hI h1 h2 hE rfl hA fp_Acs
  repeat' first
    | (refine (?_ : am_wp _ _ _ _ _ _ _ _ _ _ _ _); conv => whnf)
    | refine And.intro trivial ?_
    | exact hH _ hI2
theorem lx_c21 {l : Launch} {L : Nat} {xs : Nat → Int} {i : Int} (hX : lx_X xs) (hL : L ≤ 2560) (i0 : 0 ≤ i) (i1 : i ≤ (L : Int) - 5) (hH : lx_H l L xs i) (μ : am_N) (hI : lx_I μ) : am_AW l L xs 0 lx_Q 860 [some (.inr (.inr 999)), some (.inr (.inr 0)), some (.inr (.inr 83)), some (.inl i)] [] μ := by
  have iL : (L : Int) ≤ 2560 := by omega
  have ix : ∀ k : Int, 0 ≤ k → k ≤ 4 → 0 ≤ am_c (i + k) ∧ am_c (i + k) < L := fun k h0 h1 => by rw [am_cR (by omega) (by omega)]; omega
  refine am_go (ct := fun pc => Nat.beq pc 1663) am_oL_law 60 ?_
  conv => whnf
  repeat' first
    | (refine (?_ : am_wp _ _ _ _ _ _ _ _ _ _ _ _); conv => whnf)
    | refine And.intro ⟨rfl, rfl⟩ ?_
    | refine And.intro (ix _ (by decide) (by decide)) ?_
    | refine And.intro trivial ?_
    | refine w_teams_X6 (ν := μ) _ hI.1 (hX _).1 (hX _).2 (fun r1 μ1 h0 => ?_)
  have h1 := gv_of_sx h0
  have hE : lx_E [] := lx_c rfl
  have hm1 := lx_mi hE h1 hI.2.1
  repeat' first
    | (refine (?_ : am_wp _ _ _ _ _ _ _ _ _ _ _ _); conv => whnf)
    | refine And.intro ⟨rfl, rfl⟩ ?_
    | refine And.intro (ix _ (by decide) (by decide)) ?_
    | refine And.intro trivial ?_
    | refine m_teams _ hm1 (hX _).1 (hX _).2 (fun r2 μ2 h2 => ?_)
  have hA : lx_A ms := lx_A0
  have hI2 : lx_I μ2 := LI_weak hI h1 h2 hE rfl hA fp_Acs
  repeat' first
    | (refine (?_ : am_wp _ _ _ _ _ _ _ _ _ _ _ _); conv => whnf)
    | refine And.intro trivial ?_
    | exact hH _ hI2
theorem lx_c22 {l : Launch} {L : Nat} {xs : Nat → Int} {i : Int} (hX : lx_X xs) (hL : L ≤ 2560) (i0 : 0 ≤ i) (i1 : i ≤ (L : Int) - 5) (hH : lx_H l L xs i) (μ : am_N) (hI : lx_I μ) : am_AW l L xs 0 lx_Q 883 [some (.inr (.inr 999)), some (.inr (.inr 0)), some (.inr (.inr 83)), some (.inl i)] [] μ := by
  have iL : (L : Int) ≤ 2560 := by omega
  have ix : ∀ k : Int, 0 ≤ k → k ≤ 4 → 0 ≤ am_c (i + k) ∧ am_c (i + k) < L := fun k h0 h1 => by rw [am_cR (by omega) (by omega)]; omega
  refine am_go (ct := fun pc => Nat.beq pc 1663) am_oL_law 60 ?_
  conv => whnf
  repeat' first
    | (refine (?_ : am_wp _ _ _ _ _ _ _ _ _ _ _ _); conv => whnf)
    | refine And.intro ⟨rfl, rfl⟩ ?_
    | refine And.intro (ix _ (by decide) (by decide)) ?_
    | refine And.intro trivial ?_
    | refine w_longer_X6 (ν := μ) _ hI.1 (hX _).1 (hX _).2 (fun r1 μ1 h0 => ?_)
  have h1 := gv_of_sx h0
  have hE : lx_E [] := lx_c rfl
  have hm1 := lx_mi hE h1 hI.2.1
  repeat' first
    | (refine (?_ : am_wp _ _ _ _ _ _ _ _ _ _ _ _); conv => whnf)
    | refine And.intro ⟨rfl, rfl⟩ ?_
    | refine And.intro (ix _ (by decide) (by decide)) ?_
    | refine And.intro trivial ?_
    | refine m_longer _ hm1 (hX _).1 (hX _).2 (fun r2 μ2 h2 => ?_)
  have hA : lx_A ms := lx_A0
  have hI2 : lx_I μ2 := LI_weak hI h1 h2 hE rfl hA fp_Acs
  repeat' first
    | (refine (?_ : am_wp _ _ _ _ _ _ _ _ _ _ _ _); conv => whnf)
    | refine And.intro trivial ?_
    | exact hH _ hI2
theorem lx_c23 {l : Launch} {L : Nat} {xs : Nat → Int} {i : Int} (hX : lx_X xs) (hL : L ≤ 2560) (i0 : 0 ≤ i) (i1 : i ≤ (L : Int) - 5) (hH : lx_H l L xs i) (μ : am_N) (hI : lx_I μ) : am_AW l L xs 0 lx_Q 906 [some (.inr (.inr 999)), some (.inr (.inr 0)), some (.inr (.inr 83)), some (.inl i)] [] μ := by
  have iL : (L : Int) ≤ 2560 := by omega
  have ix : ∀ k : Int, 0 ≤ k → k ≤ 4 → 0 ≤ am_c (i + k) ∧ am_c (i + k) < L := fun k h0 h1 => by rw [am_cR (by omega) (by omega)]; omega
  refine am_go (ct := fun pc => Nat.beq pc 1663) am_oL_law 60 ?_
  conv => whnf
  repeat' first
    | (refine (?_ : am_wp _ _ _ _ _ _ _ _ _ _ _ _); conv => whnf)
    | refine And.intro ⟨rfl, rfl⟩ ?_
    | refine And.intro (ix _ (by decide) (by decide)) ?_
    | refine And.intro trivial ?_
    | refine w_fits_X6 (ν := μ) _ _ hI.1 (hX _).1 (hX _).2 (hX _).1 (hX _).2 (fun r1 μ1 h0 => ?_)
  have h1 := gv_of_sx h0
  have hE : lx_E [] := lx_c rfl
  have hm1 := lx_mi hE h1 hI.2.1
  repeat' first
    | (refine (?_ : am_wp _ _ _ _ _ _ _ _ _ _ _ _); conv => whnf)
    | refine And.intro ⟨rfl, rfl⟩ ?_
    | refine And.intro (ix _ (by decide) (by decide)) ?_
    | refine And.intro trivial ?_
    | refine m_fits _ _ hm1 (hX _).1 (hX _).2 (hX _).1 (hX _).2 (fun r2 μ2 h2 => ?_)
  have hA : lx_A mQ := (lx_Ao lx_A0 lx_Q1)
  have hI2 : lx_I μ2 := LI_weak hI h1 h2 hE rfl hA fp_AcQ
  repeat' first
    | (refine (?_ : am_wp _ _ _ _ _ _ _ _ _ _ _ _); conv => whnf)
    | refine And.intro trivial ?_
    | exact hH _ hI2
theorem lx_c24 {l : Launch} {L : Nat} {xs : Nat → Int} {i : Int} (hX : lx_X xs) (hL : L ≤ 2560) (i0 : 0 ≤ i) (i1 : i ≤ (L : Int) - 5) (hH : lx_H l L xs i) (μ : am_N) (hI : lx_I μ) : am_AW l L xs 0 lx_Q 939 [some (.inr (.inr 999)), some (.inr (.inr 0)), some (.inr (.inr 83)), some (.inl i)] [] μ := by
  have iL : (L : Int) ≤ 2560 := by omega
  have ix : ∀ k : Int, 0 ≤ k → k ≤ 4 → 0 ≤ am_c (i + k) ∧ am_c (i + k) < L := fun k h0 h1 => by rw [am_cR (by omega) (by omega)]; omega
  refine am_go (ct := fun pc => Nat.beq pc 1663) am_oL_law 60 ?_
  conv => whnf
  repeat' first
    | (refine (?_ : am_wp _ _ _ _ _ _ _ _ _ _ _ _); conv => whnf)
    | refine And.intro ⟨rfl, rfl⟩ ?_
    | refine And.intro (ix _ (by decide) (by decide)) ?_
    | refine And.intro trivial ?_
    | refine w_let_X6 (ν := μ)  hI.1  (fun r1 μ1 h0 => ?_)
  have h1 := gv_of_sx h0
  have hE : lx_E [] := lx_c rfl
  have hm1 := lx_mi hE h1 hI.2.1
  repeat' first
    | (refine (?_ : am_wp _ _ _ _ _ _ _ _ _ _ _ _); conv => whnf)
    | refine And.intro ⟨rfl, rfl⟩ ?_
    | refine And.intro (ix _ (by decide) (by decide)) ?_
    | refine And.intro trivial ?_
    | refine m_let  hm1  (fun r2 μ2 h2 => ?_)
  have hA : lx_A ms := lx_A0
  have hI2 : lx_I μ2 := LI_weak hI h1 h2 hE rfl hA fp_Acs
  repeat' first
    | (refine (?_ : am_wp _ _ _ _ _ _ _ _ _ _ _ _); conv => whnf)
    | refine And.intro trivial ?_
    | exact hH _ hI2
theorem lx_c25 {l : Launch} {L : Nat} {xs : Nat → Int} {i : Int} (hX : lx_X xs) (hL : L ≤ 2560) (i0 : 0 ≤ i) (i1 : i ≤ (L : Int) - 5) (hH : lx_H l L xs i) (μ : am_N) (hI : lx_I μ) : am_AW l L xs 0 lx_Q 952 [some (.inr (.inr 999)), some (.inr (.inr 0)), some (.inr (.inr 83)), some (.inl i)] [] μ := by
  have iL : (L : Int) ≤ 2560 := by omega
  have ix : ∀ k : Int, 0 ≤ k → k ≤ 4 → 0 ≤ am_c (i + k) ∧ am_c (i + k) < L := fun k h0 h1 => by rw [am_cR (by omega) (by omega)]; omega
  refine am_go (ct := fun pc => Nat.beq pc 1663) am_oL_law 60 ?_
  conv => whnf
  repeat' first
    | (refine (?_ : am_wp _ _ _ _ _ _ _ _ _ _ _ _); conv => whnf)
    | refine And.intro ⟨rfl, rfl⟩ ?_
    | refine And.intro (ix _ (by decide) (by decide)) ?_
    | refine And.intro trivial ?_
    | refine v_row_X6 _ hI.1 (hX _).1 (hX _).2 (fun r1 μ1 h1 f0 => ?_)
  have hE : lx_E [44, 45] := lx_c rfl
  have hm1 := lx_mi hE h1 hI.2.1
  repeat' first
    | (refine (?_ : am_wp _ _ _ _ _ _ _ _ _ _ _ _); conv => whnf)
    | refine And.intro ⟨rfl, rfl⟩ ?_
    | refine And.intro (ix _ (by decide) (by decide)) ?_
    | refine And.intro trivial ?_
    | refine m_row _ hm1 (hX _).1 (hX _).2 (fun r2 μ2 h2 g0 => ?_)
  have hA : lx_A (mo ms (m1o 106 42)) := (lx_Ao lx_A0 (lx_mo (by decide)))
  have hI2 : lx_I μ2 := LI_weak hI h1 h2 hE rfl hA (fp_Aco fp_Acs (fp_Ac1 (by decide) (by decide)))
  repeat' first
    | (refine (?_ : am_wp _ _ _ _ _ _ _ _ _ _ _ _); conv => whnf)
    | refine And.intro trivial ?_
    | exact hH _ hI2
/-! the law: cases -/
theorem lx_c26 {l : Launch} {L : Nat} {xs : Nat → Int} {i : Int} (hX : lx_X xs) (hL : L ≤ 2560) (i0 : 0 ≤ i) (i1 : i ≤ (L : Int) - 5) (hH : lx_H l L xs i) (μ : am_N) (hI : lx_I μ) : am_AW l L xs 0 lx_Q 975 [some (.inr (.inr 999)), some (.inr (.inr 0)), some (.inr (.inr 83)), some (.inl i)] [] μ := by
  have iL : (L : Int) ≤ 2560 := by omega
  have ix : ∀ k : Int, 0 ≤ k → k ≤ 4 → 0 ≤ am_c (i + k) ∧ am_c (i + k) < L := fun k h0 h1 => by rw [am_cR (by omega) (by omega)]; omega
  refine am_go (ct := fun pc => Nat.beq pc 1663) am_oL_law 60 ?_
  conv => whnf
  repeat' first
    | (refine (?_ : am_wp _ _ _ _ _ _ _ _ _ _ _ _); conv => whnf)
    | refine And.intro ⟨rfl, rfl⟩ ?_
    | refine And.intro (ix _ (by decide) (by decide)) ?_
    | refine And.intro trivial ?_
    | refine v_judge_X6  hI.1  (fun r1 μ1 h1 f0 => ?_)
  have hE : lx_E [44] := lx_c rfl
  have hm1 := lx_mi hE h1 hI.2.1
  repeat' first
    | (refine (?_ : am_wp _ _ _ _ _ _ _ _ _ _ _ _); conv => whnf)
    | refine And.intro ⟨rfl, rfl⟩ ?_
    | refine And.intro (ix _ (by decide) (by decide)) ?_
    | refine And.intro trivial ?_
    | refine m_judge  hm1  (fun r2 μ2 h2 g0 => ?_)
  have hA : lx_A (mo mQ (m1o 83000 42)) := (lx_Ao (lx_Ao lx_A0 lx_Q1) (lx_mo (by decide)))
  have hI2 : lx_I μ2 := LI_weak hI h1 h2 hE rfl hA (fp_Aco fp_AcQ (fp_Ac1 (by decide) (by decide)))
  repeat' first
    | (refine (?_ : am_wp _ _ _ _ _ _ _ _ _ _ _ _); conv => whnf)
    | refine And.intro trivial ?_
    | exact hH _ hI2
theorem lx_c27 {l : Launch} {L : Nat} {xs : Nat → Int} {i : Int} (hX : lx_X xs) (hL : L ≤ 2560) (i0 : 0 ≤ i) (i1 : i ≤ (L : Int) - 5) (hH : lx_H l L xs i) (μ : am_N) (hI : lx_I μ) : am_AW l L xs 0 lx_Q 988 [some (.inr (.inr 999)), some (.inr (.inr 0)), some (.inr (.inr 83)), some (.inl i)] [] μ := by
  have iL : (L : Int) ≤ 2560 := by omega
  have ix : ∀ k : Int, 0 ≤ k → k ≤ 4 → 0 ≤ am_c (i + k) ∧ am_c (i + k) < L := fun k h0 h1 => by rw [am_cR (by omega) (by omega)]; omega
  refine am_go (ct := fun pc => Nat.beq pc 1663) am_oL_law 60 ?_
  conv => whnf
  repeat' first
    | (refine (?_ : am_wp _ _ _ _ _ _ _ _ _ _ _ _); conv => whnf)
    | refine And.intro ⟨rfl, rfl⟩ ?_
    | refine And.intro (ix _ (by decide) (by decide)) ?_
    | refine And.intro trivial ?_
    | refine v_clear_X6  hI.1  (fun r1 μ1 h1 f0 f1 => ?_)
  have hE : lx_E [44] := lx_c rfl
  have hm1 := lx_mi hE h1 hI.2.1
  repeat' first
    | (refine (?_ : am_wp _ _ _ _ _ _ _ _ _ _ _ _); conv => whnf)
    | refine And.intro ⟨rfl, rfl⟩ ?_
    | refine And.intro (ix _ (by decide) (by decide)) ?_
    | refine And.intro trivial ?_
    | refine m_clear  hm1  (fun r2 μ2 h2 g0 g1 => ?_)
  have hA : lx_A (mo ms (m1o 83000 42)) := (lx_Ao lx_A0 (lx_mo (by decide)))
  have hI2 : lx_I μ2 := LI_weak hI h1 h2 hE rfl hA (fp_Aco fp_Acs (fp_Ac1 (by decide) (by decide)))
  repeat' first
    | (refine (?_ : am_wp _ _ _ _ _ _ _ _ _ _ _ _); conv => whnf)
    | refine And.intro trivial ?_
    | exact hH _ hI2
theorem lx_c28 {l : Launch} {L : Nat} {xs : Nat → Int} {i : Int} (hX : lx_X xs) (hL : L ≤ 2560) (i0 : 0 ≤ i) (i1 : i ≤ (L : Int) - 5) (hH : lx_H l L xs i) (μ : am_N) (hI : lx_I μ) : am_AW l L xs 0 lx_Q 1001 [some (.inr (.inr 999)), some (.inr (.inr 0)), some (.inr (.inr 83)), some (.inl i)] [] μ := by
  have iL : (L : Int) ≤ 2560 := by omega
  have ix : ∀ k : Int, 0 ≤ k → k ≤ 4 → 0 ≤ am_c (i + k) ∧ am_c (i + k) < L := fun k h0 h1 => by rw [am_cR (by omega) (by omega)]; omega
  refine am_go (ct := fun pc => Nat.beq pc 1663) am_oL_law 60 ?_
  conv => whnf
  repeat' first
    | (refine (?_ : am_wp _ _ _ _ _ _ _ _ _ _ _ _); conv => whnf)
    | refine And.intro ⟨rfl, rfl⟩ ?_
    | refine And.intro (ix _ (by decide) (by decide)) ?_
    | refine And.intro trivial ?_
    | refine w_seeds_X6 (ν := μ) _ _ _ _ hI.1 (hX _).1 (hX _).2 (hX _).1 (hX _).2 (hX _).1 (hX _).2 (hX _).1 (hX _).2 (fun r1 μ1 h0 => ?_)
  have h1 := gv_of_sx h0
  have hE : lx_E [] := lx_c rfl
  have hm1 := lx_mi hE h1 hI.2.1
  repeat' first
    | (refine (?_ : am_wp _ _ _ _ _ _ _ _ _ _ _ _); conv => whnf)
    | refine And.intro ⟨rfl, rfl⟩ ?_
    | refine And.intro (ix _ (by decide) (by decide)) ?_
    | refine And.intro trivial ?_
    | refine m_seeds _ _ _ _ hm1 (hX _).1 (hX _).2 (hX _).1 (hX _).2 (hX _).1 (hX _).2 (hX _).1 (hX _).2 (fun r2 μ2 h2 => ?_)
  have hA : lx_A mQ := (lx_Ao lx_A0 lx_Q1)
  have hI2 : lx_I μ2 := LI_weak hI h1 h2 hE rfl hA fp_AcQ
  repeat' first
    | (refine (?_ : am_wp _ _ _ _ _ _ _ _ _ _ _ _); conv => whnf)
    | refine And.intro trivial ?_
    | exact hH _ hI2
theorem lx_c29 {l : Launch} {L : Nat} {xs : Nat → Int} {i : Int} (hX : lx_X xs) (hL : L ≤ 2560) (i0 : 0 ≤ i) (i1 : i ≤ (L : Int) - 5) (hH : lx_H l L xs i) (μ : am_N) (hI : lx_I μ) : am_AW l L xs 0 lx_Q 1054 [some (.inr (.inr 999)), some (.inr (.inr 0)), some (.inr (.inr 83)), some (.inl i)] [] μ := by
  have iL : (L : Int) ≤ 2560 := by omega
  have ix : ∀ k : Int, 0 ≤ k → k ≤ 4 → 0 ≤ am_c (i + k) ∧ am_c (i + k) < L := fun k h0 h1 => by rw [am_cR (by omega) (by omega)]; omega
  have cx : ∀ j, am_c (xs j) = xs j := fun j => am_cR (by have := (hX j).1; omega) (by have := (hX j).2; omega)
  have hb := sx_all hI.1
  have hc := mi_all hI.2.1
  have hR := hI.2.2
  have hwM := hR.1.2
  have hwC : fp_fw 999 (fv μ 1) := by rw [hR.1.1]; exact hwM
  have n14 : 0 ≤ μ 1 4 ∧ μ 1 4 ≤ 4 := by omega
  have nM : μ 1 4 = μ 83 14 := (fp_ct_n hR.1.1).1 4 (by decide)
  refine am_go (ct := fun pc => Nat.beq pc 1663) am_oL_law 60 ?_
  conv => whnf
  repeat' first
    | (refine (?_ : am_wp _ _ _ _ _ _ _ _ _ _ _ _); conv => whnf)
    | refine And.intro ⟨rfl, rfl⟩ ?_
    | refine And.intro (ix _ (by decide) (by decide)) ?_
    | refine And.intro trivial ?_
    | (refine s_back (by omega) (fun a1 μ1 f1 e62 ew r1 => ?_) (fun a0 μ1 f1 => ?_))
    | (have t33 : μ1 83 33 = μ 83 33 := f1 83 33 (by omega) (by omega) (by omega) (by omega); have h33 := hR.2.2.1.1; refine x_mback (by rw [t33]; omega) (by rw [t33]; omega) (fun μ2 f2 e33 ew2 r2 o2 q2 => ?_))
    | (have t33 : μ1 83 33 = μ 83 33 := f1 83 33 (by omega); have h33 := hR.2.2.1.1; refine n_back0 (by rw [t33]; omega) (fun μ2 f2 => ?_))
    | (refine hH _ ?_; first | exact LI_back hI a1 f1 e62 ew r1 f2 e33 ew2 r2 o2 q2 | exact LI_ref hI f1 f2)
  all_goals (first | exact LI_back hI a1 f1 e62 ew r1 f2 e33 ew2 r2 o2 q2 | exact LI_ref hI f1 f2 | (trace_state; fail))
theorem lx_c30 {l : Launch} {L : Nat} {xs : Nat → Int} {i : Int} (hX : lx_X xs) (hL : L ≤ 2560) (i0 : 0 ≤ i) (i1 : i ≤ (L : Int) - 5) (hH : lx_H l L xs i) (μ : am_N) (hI : lx_I μ) : am_AW l L xs 0 lx_Q 1067 [some (.inr (.inr 999)), some (.inr (.inr 0)), some (.inr (.inr 83)), some (.inl i)] [] μ := by
  have iL : (L : Int) ≤ 2560 := by omega
  have ix : ∀ k : Int, 0 ≤ k → k ≤ 4 → 0 ≤ am_c (i + k) ∧ am_c (i + k) < L := fun k h0 h1 => by rw [am_cR (by omega) (by omega)]; omega
  refine am_go (ct := fun pc => Nat.beq pc 1663) am_oL_law 60 ?_
  conv => whnf
  repeat' first
    | (refine (?_ : am_wp _ _ _ _ _ _ _ _ _ _ _ _); conv => whnf)
    | refine And.intro ⟨rfl, rfl⟩ ?_
    | refine And.intro (ix _ (by decide) (by decide)) ?_
    | refine And.intro trivial ?_
    | refine v_bag_X6 _ hI.1 (hX _).1 (hX _).2 (fun r1 μ1 h1 f0 => ?_)
  have hE : lx_E [48, 49] := lx_c rfl
  have hm1 := lx_mi hE h1 hI.2.1
  repeat' first
    | (refine (?_ : am_wp _ _ _ _ _ _ _ _ _ _ _ _); conv => whnf)
    | refine And.intro ⟨rfl, rfl⟩ ?_
    | refine And.intro (ix _ (by decide) (by decide)) ?_
    | refine And.intro trivial ?_
    | refine m_bag _ hm1 (hX _).1 (hX _).2 (fun r2 μ2 h2 g0 => ?_)
  have hA : lx_A (mo ms (m1o 91 15)) := (lx_Ao lx_A0 (lx_mo (by decide)))
  have hI2 : lx_I μ2 := LI_weak hI h1 h2 hE rfl hA (fp_Aco fp_Acs (fp_Ac1 (by decide) (by decide)))
  repeat' first
    | (refine (?_ : am_wp _ _ _ _ _ _ _ _ _ _ _ _); conv => whnf)
    | refine And.intro trivial ?_
    | exact hH _ hI2
theorem lx_c31 {l : Launch} {L : Nat} {xs : Nat → Int} {i : Int} (hX : lx_X xs) (hL : L ≤ 2560) (i0 : 0 ≤ i) (i1 : i ≤ (L : Int) - 5) (hH : lx_H l L xs i) (μ : am_N) (hI : lx_I μ) : am_AW l L xs 0 lx_Q 1090 [some (.inr (.inr 999)), some (.inr (.inr 0)), some (.inr (.inr 83)), some (.inl i)] [] μ := by
  have iL : (L : Int) ≤ 2560 := by omega
  have ix : ∀ k : Int, 0 ≤ k → k ≤ 4 → 0 ≤ am_c (i + k) ∧ am_c (i + k) < L := fun k h0 h1 => by rw [am_cR (by omega) (by omega)]; omega
  refine am_go (ct := fun pc => Nat.beq pc 1663) am_oL_law 60 ?_
  conv => whnf
  repeat' first
    | (refine (?_ : am_wp _ _ _ _ _ _ _ _ _ _ _ _); conv => whnf)
    | refine And.intro ⟨rfl, rfl⟩ ?_
    | refine And.intro (ix _ (by decide) (by decide)) ?_
    | refine And.intro trivial ?_
    | refine v_empty_X6  hI.1  (fun r1 μ1 h1 f0 f1 => ?_)
  have hE : lx_E [48] := lx_c rfl
  have hm1 := lx_mi hE h1 hI.2.1
  repeat' first
    | (refine (?_ : am_wp _ _ _ _ _ _ _ _ _ _ _ _); conv => whnf)
    | refine And.intro ⟨rfl, rfl⟩ ?_
    | refine And.intro (ix _ (by decide) (by decide)) ?_
    | refine And.intro trivial ?_
    | refine m_empty  hm1  (fun r2 μ2 h2 g0 g1 => ?_)
  have hA : lx_A (mo ms (m1o 83000 15)) := (lx_Ao lx_A0 (lx_mo (by decide)))
  have hI2 : lx_I μ2 := LI_weak hI h1 h2 hE rfl hA (fp_Aco fp_Acs (fp_Ac1 (by decide) (by decide)))
  repeat' first
    | (refine (?_ : am_wp _ _ _ _ _ _ _ _ _ _ _ _); conv => whnf)
    | refine And.intro trivial ?_
    | exact hH _ hI2
theorem lx_c32 {l : Launch} {L : Nat} {xs : Nat → Int} {i : Int} (hX : lx_X xs) (hL : L ≤ 2560) (i0 : 0 ≤ i) (i1 : i ≤ (L : Int) - 5) (hH : lx_H l L xs i) (μ : am_N) (hI : lx_I μ) : am_AW l L xs 0 lx_Q 1103 [some (.inr (.inr 999)), some (.inr (.inr 0)), some (.inr (.inr 83)), some (.inl i)] [] μ := by
  have iL : (L : Int) ≤ 2560 := by omega
  have ix : ∀ k : Int, 0 ≤ k → k ≤ 4 → 0 ≤ am_c (i + k) ∧ am_c (i + k) < L := fun k h0 h1 => by rw [am_cR (by omega) (by omega)]; omega
  refine am_go (ct := fun pc => Nat.beq pc 1663) am_oL_law 60 ?_
  conv => whnf
  repeat' first
    | (refine (?_ : am_wp _ _ _ _ _ _ _ _ _ _ _ _); conv => whnf)
    | refine And.intro ⟨rfl, rfl⟩ ?_
    | refine And.intro (ix _ (by decide) (by decide)) ?_
    | refine And.intro trivial ?_
    | refine w_bags_X6 (ν := μ) _ _ _ hI.1 (hX _).1 (hX _).2 (hX _).1 (hX _).2 (hX _).1 (hX _).2 (fun r1 μ1 h0 => ?_)
  have h1 := gv_of_sx h0
  have hE : lx_E [] := lx_c rfl
  have hm1 := lx_mi hE h1 hI.2.1
  repeat' first
    | (refine (?_ : am_wp _ _ _ _ _ _ _ _ _ _ _ _); conv => whnf)
    | refine And.intro ⟨rfl, rfl⟩ ?_
    | refine And.intro (ix _ (by decide) (by decide)) ?_
    | refine And.intro trivial ?_
    | refine m_bags _ _ _ hm1 (hX _).1 (hX _).2 (hX _).1 (hX _).2 (hX _).1 (hX _).2 (fun r2 μ2 h2 => ?_)
  have hA : lx_A ms := lx_A0
  have hI2 : lx_I μ2 := LI_weak hI h1 h2 hE rfl hA fp_Acs
  repeat' first
    | (refine (?_ : am_wp _ _ _ _ _ _ _ _ _ _ _ _); conv => whnf)
    | refine And.intro trivial ?_
    | exact hH _ hI2
theorem lx_c33 {l : Launch} {L : Nat} {xs : Nat → Int} {i : Int} (hX : lx_X xs) (hL : L ≤ 2560) (i0 : 0 ≤ i) (i1 : i ≤ (L : Int) - 5) (hH : lx_H l L xs i) (μ : am_N) (hI : lx_I μ) : am_AW l L xs 0 lx_Q 1146 [some (.inr (.inr 999)), some (.inr (.inr 0)), some (.inr (.inr 83)), some (.inl i)] [] μ := by
  have iL : (L : Int) ≤ 2560 := by omega
  have ix : ∀ k : Int, 0 ≤ k → k ≤ 4 → 0 ≤ am_c (i + k) ∧ am_c (i + k) < L := fun k h0 h1 => by rw [am_cR (by omega) (by omega)]; omega
  refine am_go (ct := fun pc => Nat.beq pc 1663) am_oL_law 60 ?_
  conv => whnf
  repeat' first
    | (refine (?_ : am_wp _ _ _ _ _ _ _ _ _ _ _ _); conv => whnf)
    | refine And.intro ⟨rfl, rfl⟩ ?_
    | refine And.intro (ix _ (by decide) (by decide)) ?_
    | refine And.intro trivial ?_
    | refine w_ahead_X6 (ν := μ) _ _ hI.1 (hX _).1 (hX _).2 (hX _).1 (hX _).2 (fun r1 μ1 h0 => ?_)
  have h1 := gv_of_sx h0
  have hE : lx_E [] := lx_c rfl
  have hm1 := lx_mi hE h1 hI.2.1
  repeat' first
    | (refine (?_ : am_wp _ _ _ _ _ _ _ _ _ _ _ _); conv => whnf)
    | refine And.intro ⟨rfl, rfl⟩ ?_
    | refine And.intro (ix _ (by decide) (by decide)) ?_
    | refine And.intro trivial ?_
    | refine m_ahead _ _ hm1 (hX _).1 (hX _).2 (hX _).1 (hX _).2 (fun r2 μ2 h2 => ?_)
  have hA : lx_A ms := lx_A0
  have hI2 : lx_I μ2 := LI_weak hI h1 h2 hE rfl hA fp_Acs
  repeat' first
    | (refine (?_ : am_wp _ _ _ _ _ _ _ _ _ _ _ _); conv => whnf)
    | refine And.intro trivial ?_
    | exact hH _ hI2
theorem lx_c34 {l : Launch} {L : Nat} {xs : Nat → Int} {i : Int} (hX : lx_X xs) (hL : L ≤ 2560) (i0 : 0 ≤ i) (i1 : i ≤ (L : Int) - 5) (hH : lx_H l L xs i) (μ : am_N) (hI : lx_I μ) : am_AW l L xs 0 lx_Q 1179 [some (.inr (.inr 999)), some (.inr (.inr 0)), some (.inr (.inr 83)), some (.inl i)] [] μ := by
  have iL : (L : Int) ≤ 2560 := by omega
  have ix : ∀ k : Int, 0 ≤ k → k ≤ 4 → 0 ≤ am_c (i + k) ∧ am_c (i + k) < L := fun k h0 h1 => by rw [am_cR (by omega) (by omega)]; omega
  refine am_go (ct := fun pc => Nat.beq pc 1663) am_oL_law 60 ?_
  conv => whnf
  repeat' first
    | (refine (?_ : am_wp _ _ _ _ _ _ _ _ _ _ _ _); conv => whnf)
    | refine And.intro ⟨rfl, rfl⟩ ?_
    | refine And.intro (ix _ (by decide) (by decide)) ?_
    | refine And.intro trivial ?_
    | refine w_cup_X6 (ν := μ) _ _ _ hI.1 (hX _).1 (hX _).2 (hX _).1 (hX _).2 (hX _).1 (hX _).2 (fun r1 μ1 h0 => ?_)
  have h1 := gv_of_sx h0
  have hE : lx_E [] := lx_c rfl
  have hm1 := lx_mi hE h1 hI.2.1
  repeat' first
    | (refine (?_ : am_wp _ _ _ _ _ _ _ _ _ _ _ _); conv => whnf)
    | refine And.intro ⟨rfl, rfl⟩ ?_
    | refine And.intro (ix _ (by decide) (by decide)) ?_
    | refine And.intro trivial ?_
    | refine m_cup _ _ _ hm1 (hX _).1 (hX _).2 (hX _).1 (hX _).2 (hX _).1 (hX _).2 (fun r2 μ2 h2 => ?_)
  have hA : lx_A ms := lx_A0
  have hI2 : lx_I μ2 := LI_weak hI h1 h2 hE rfl hA fp_Acs
  repeat' first
    | (refine (?_ : am_wp _ _ _ _ _ _ _ _ _ _ _ _); conv => whnf)
    | refine And.intro trivial ?_
    | exact hH _ hI2
theorem lx_c35 {l : Launch} {L : Nat} {xs : Nat → Int} {i : Int} (hX : lx_X xs) (hL : L ≤ 2560) (i0 : 0 ≤ i) (i1 : i ≤ (L : Int) - 5) (hH : lx_H l L xs i) (μ : am_N) (hI : lx_I μ) : am_AW l L xs 0 lx_Q 1222 [some (.inr (.inr 999)), some (.inr (.inr 0)), some (.inr (.inr 83)), some (.inl i)] [] μ := by
  have iL : (L : Int) ≤ 2560 := by omega
  have ix : ∀ k : Int, 0 ≤ k → k ≤ 4 → 0 ≤ am_c (i + k) ∧ am_c (i + k) < L := fun k h0 h1 => by rw [am_cR (by omega) (by omega)]; omega
  refine am_go (ct := fun pc => Nat.beq pc 1663) am_oL_law 60 ?_
  conv => whnf
  repeat' first
    | (refine (?_ : am_wp _ _ _ _ _ _ _ _ _ _ _ _); conv => whnf)
    | refine And.intro ⟨rfl, rfl⟩ ?_
    | refine And.intro (ix _ (by decide) (by decide)) ?_
    | refine And.intro trivial ?_
    | refine w_bracket_X6 (ν := μ) _ hI.1 (hX _).1 (hX _).2 (fun r1 μ1 h0 => ?_)
  have h1 := gv_of_sx h0
  have hE : lx_E [] := lx_c rfl
  have hm1 := lx_mi hE h1 hI.2.1
  repeat' first
    | (refine (?_ : am_wp _ _ _ _ _ _ _ _ _ _ _ _); conv => whnf)
    | refine And.intro ⟨rfl, rfl⟩ ?_
    | refine And.intro (ix _ (by decide) (by decide)) ?_
    | refine And.intro trivial ?_
    | refine m_bracket _ hm1 (hX _).1 (hX _).2 (fun r2 μ2 h2 => ?_)
  have hA : lx_A ms := lx_A0
  have hI2 : lx_I μ2 := LI_weak hI h1 h2 hE rfl hA fp_Acs
  repeat' first
    | (refine (?_ : am_wp _ _ _ _ _ _ _ _ _ _ _ _); conv => whnf)
    | refine And.intro trivial ?_
    | exact hH _ hI2
theorem lx_c36 {l : Launch} {L : Nat} {xs : Nat → Int} {i : Int} (hX : lx_X xs) (hL : L ≤ 2560) (i0 : 0 ≤ i) (i1 : i ≤ (L : Int) - 5) (hH : lx_H l L xs i) (μ : am_N) (hI : lx_I μ) : am_AW l L xs 0 lx_Q 1245 [some (.inr (.inr 999)), some (.inr (.inr 0)), some (.inr (.inr 83)), some (.inl i)] [] μ := by
  have iL : (L : Int) ≤ 2560 := by omega
  have ix : ∀ k : Int, 0 ≤ k → k ≤ 4 → 0 ≤ am_c (i + k) ∧ am_c (i + k) < L := fun k h0 h1 => by rw [am_cR (by omega) (by omega)]; omega
  refine am_go (ct := fun pc => Nat.beq pc 1663) am_oL_law 60 ?_
  conv => whnf
  repeat' first
    | (refine (?_ : am_wp _ _ _ _ _ _ _ _ _ _ _ _); conv => whnf)
    | refine And.intro ⟨rfl, rfl⟩ ?_
    | refine And.intro (ix _ (by decide) (by decide)) ?_
    | refine And.intro trivial ?_
    | refine w_league_X6 (ν := μ) _ _ hI.1 (hX _).1 (hX _).2 (hX _).1 (hX _).2 (fun r1 μ1 h0 => ?_)
  have h1 := gv_of_sx h0
  have hE : lx_E [] := lx_c rfl
  have hm1 := lx_mi hE h1 hI.2.1
  repeat' first
    | (refine (?_ : am_wp _ _ _ _ _ _ _ _ _ _ _ _); conv => whnf)
    | refine And.intro ⟨rfl, rfl⟩ ?_
    | refine And.intro (ix _ (by decide) (by decide)) ?_
    | refine And.intro trivial ?_
    | refine m_league _ _ hm1 (hX _).1 (hX _).2 (hX _).1 (hX _).2 (fun r2 μ2 h2 => ?_)
  have hA : lx_A ms := lx_A0
  have hI2 : lx_I μ2 := LI_weak hI h1 h2 hE rfl hA fp_Acs
  repeat' first
    | (refine (?_ : am_wp _ _ _ _ _ _ _ _ _ _ _ _); conv => whnf)
    | refine And.intro trivial ?_
    | exact hH _ hI2
theorem lx_c37 {l : Launch} {L : Nat} {xs : Nat → Int} {i : Int} (hX : lx_X xs) (hL : L ≤ 2560) (i0 : 0 ≤ i) (i1 : i ≤ (L : Int) - 5) (hH : lx_H l L xs i) (μ : am_N) (hI : lx_I μ) : am_AW l L xs 0 lx_Q 1278 [some (.inr (.inr 999)), some (.inr (.inr 0)), some (.inr (.inr 83)), some (.inl i)] [] μ := by
  have iL : (L : Int) ≤ 2560 := by omega
  have ix : ∀ k : Int, 0 ≤ k → k ≤ 4 → 0 ≤ am_c (i + k) ∧ am_c (i + k) < L := fun k h0 h1 => by rw [am_cR (by omega) (by omega)]; omega
  refine am_go (ct := fun pc => Nat.beq pc 1663) am_oL_law 60 ?_
  conv => whnf
  repeat' first
    | (refine (?_ : am_wp _ _ _ _ _ _ _ _ _ _ _ _); conv => whnf)
    | refine And.intro ⟨rfl, rfl⟩ ?_
    | refine And.intro (ix _ (by decide) (by decide)) ?_
    | refine And.intro trivial ?_
    | refine w_ranks_X6 (ν := μ)  hI.1  (fun r1 μ1 h0 => ?_)
  have h1 := gv_of_sx h0
  have hE : lx_E [] := lx_c rfl
  have hm1 := lx_mi hE h1 hI.2.1
  repeat' first
    | (refine (?_ : am_wp _ _ _ _ _ _ _ _ _ _ _ _); conv => whnf)
    | refine And.intro ⟨rfl, rfl⟩ ?_
    | refine And.intro (ix _ (by decide) (by decide)) ?_
    | refine And.intro trivial ?_
    | refine m_ranks  hm1  (fun r2 μ2 h2 => ?_)
  have hA : lx_A ms := lx_A0
  have hI2 : lx_I μ2 := LI_weak hI h1 h2 hE rfl hA fp_Acs
  repeat' first
    | (refine (?_ : am_wp _ _ _ _ _ _ _ _ _ _ _ _); conv => whnf)
    | refine And.intro trivial ?_
    | exact hH _ hI2
theorem lx_c38 {l : Launch} {L : Nat} {xs : Nat → Int} {i : Int} (hX : lx_X xs) (hL : L ≤ 2560) (i0 : 0 ≤ i) (i1 : i ≤ (L : Int) - 5) (hH : lx_H l L xs i) (μ : am_N) (hI : lx_I μ) : am_AW l L xs 0 lx_Q 1291 [some (.inr (.inr 999)), some (.inr (.inr 0)), some (.inr (.inr 83)), some (.inl i)] [] μ := by
  have iL : (L : Int) ≤ 2560 := by omega
  have ix : ∀ k : Int, 0 ≤ k → k ≤ 4 → 0 ≤ am_c (i + k) ∧ am_c (i + k) < L := fun k h0 h1 => by rw [am_cR (by omega) (by omega)]; omega
  refine am_go (ct := fun pc => Nat.beq pc 1663) am_oL_law 60 ?_
  conv => whnf
  repeat' first
    | (refine (?_ : am_wp _ _ _ _ _ _ _ _ _ _ _ _); conv => whnf)
    | refine And.intro ⟨rfl, rfl⟩ ?_
    | refine And.intro (ix _ (by decide) (by decide)) ?_
    | refine And.intro trivial ?_
    | refine w_hold_X6 (ν := μ) _ _ hI.1 (hX _).1 (hX _).2 (hX _).1 (hX _).2 (fun r1 μ1 h0 => ?_)
  have h1 := gv_of_sx h0
  have hE : lx_E [] := lx_c rfl
  have hm1 := lx_mi hE h1 hI.2.1
  repeat' first
    | (refine (?_ : am_wp _ _ _ _ _ _ _ _ _ _ _ _); conv => whnf)
    | refine And.intro ⟨rfl, rfl⟩ ?_
    | refine And.intro (ix _ (by decide) (by decide)) ?_
    | refine And.intro trivial ?_
    | refine m_hold _ _ hm1 (hX _).1 (hX _).2 (hX _).1 (hX _).2 (fun r2 μ2 h2 => ?_)
  have hA : lx_A ms := lx_A0
  have hI2 : lx_I μ2 := LI_weak hI h1 h2 hE rfl hA fp_Acs
  repeat' first
    | (refine (?_ : am_wp _ _ _ _ _ _ _ _ _ _ _ _); conv => whnf)
    | refine And.intro trivial ?_
    | exact hH _ hI2
/-! the law: cases -/
theorem lx_c39 {l : Launch} {L : Nat} {xs : Nat → Int} {i : Int} (hX : lx_X xs) (hL : L ≤ 2560) (i0 : 0 ≤ i) (i1 : i ≤ (L : Int) - 5) (hH : lx_H l L xs i) (μ : am_N) (hI : lx_I μ) : am_AW l L xs 0 lx_Q 1324 [some (.inr (.inr 999)), some (.inr (.inr 0)), some (.inr (.inr 83)), some (.inl i)] [] μ := by
  have iL : (L : Int) ≤ 2560 := by omega
  have ix : ∀ k : Int, 0 ≤ k → k ≤ 4 → 0 ≤ am_c (i + k) ∧ am_c (i + k) < L := fun k h0 h1 => by rw [am_cR (by omega) (by omega)]; omega
  refine am_go (ct := fun pc => Nat.beq pc 1663) am_oL_law 60 ?_
  conv => whnf
  repeat' first
    | (refine (?_ : am_wp _ _ _ _ _ _ _ _ _ _ _ _); conv => whnf)
    | refine And.intro ⟨rfl, rfl⟩ ?_
    | refine And.intro (ix _ (by decide) (by decide)) ?_
    | refine And.intro trivial ?_
    | refine w_legs_X6 (ν := μ) _ _ _ _ hI.1 (hX _).1 (hX _).2 (hX _).1 (hX _).2 (hX _).1 (hX _).2 (hX _).1 (hX _).2 (fun r1 μ1 h0 => ?_)
  have h1 := gv_of_sx h0
  have hE : lx_E [] := lx_c rfl
  have hm1 := lx_mi hE h1 hI.2.1
  repeat' first
    | (refine (?_ : am_wp _ _ _ _ _ _ _ _ _ _ _ _); conv => whnf)
    | refine And.intro ⟨rfl, rfl⟩ ?_
    | refine And.intro (ix _ (by decide) (by decide)) ?_
    | refine And.intro trivial ?_
    | refine m_legs _ _ _ _ hm1 (hX _).1 (hX _).2 (hX _).1 (hX _).2 (hX _).1 (hX _).2 (hX _).1 (hX _).2 (fun r2 μ2 h2 => ?_)
  have hA : lx_A ms := lx_A0
  have hI2 : lx_I μ2 := LI_weak hI h1 h2 hE rfl hA fp_Acs
  repeat' first
    | (refine (?_ : am_wp _ _ _ _ _ _ _ _ _ _ _ _); conv => whnf)
    | refine And.intro trivial ?_
    | exact hH _ hI2
theorem lx_c40 {l : Launch} {L : Nat} {xs : Nat → Int} {i : Int} (hX : lx_X xs) (hL : L ≤ 2560) (i0 : 0 ≤ i) (i1 : i ≤ (L : Int) - 5) (hH : lx_H l L xs i) (μ : am_N) (hI : lx_I μ) : am_AW l L xs 0 lx_Q 1377 [some (.inr (.inr 999)), some (.inr (.inr 0)), some (.inr (.inr 83)), some (.inl i)] [] μ := by
  have iL : (L : Int) ≤ 2560 := by omega
  have ix : ∀ k : Int, 0 ≤ k → k ≤ 4 → 0 ≤ am_c (i + k) ∧ am_c (i + k) < L := fun k h0 h1 => by rw [am_cR (by omega) (by omega)]; omega
  refine am_go (ct := fun pc => Nat.beq pc 1663) am_oL_law 60 ?_
  conv => whnf
  repeat' first
    | (refine (?_ : am_wp _ _ _ _ _ _ _ _ _ _ _ _); conv => whnf)
    | refine And.intro ⟨rfl, rfl⟩ ?_
    | refine And.intro (ix _ (by decide) (by decide)) ?_
    | refine And.intro trivial ?_
    | refine w_bet_X6 (ν := μ)  hI.1  (fun r1 μ1 h0 => ?_)
  have h1 := gv_of_sx h0
  have hE : lx_E [] := lx_c rfl
  have hm1 := lx_mi hE h1 hI.2.1
  repeat' first
    | (refine (?_ : am_wp _ _ _ _ _ _ _ _ _ _ _ _); conv => whnf)
    | refine And.intro ⟨rfl, rfl⟩ ?_
    | refine And.intro (ix _ (by decide) (by decide)) ?_
    | refine And.intro trivial ?_
    | refine m_bet  hm1  (fun r2 μ2 h2 => ?_)
  have hA : lx_A ms := lx_A0
  have hI2 : lx_I μ2 := LI_weak hI h1 h2 hE rfl hA fp_Acs
  repeat' first
    | (refine (?_ : am_wp _ _ _ _ _ _ _ _ _ _ _ _); conv => whnf)
    | refine And.intro trivial ?_
    | exact hH _ hI2
theorem lx_c41 {l : Launch} {L : Nat} {xs : Nat → Int} {i : Int} (hX : lx_X xs) (hL : L ≤ 2560) (i0 : 0 ≤ i) (i1 : i ≤ (L : Int) - 5) (hH : lx_H l L xs i) (μ : am_N) (hI : lx_I μ) : am_AW l L xs 0 lx_Q 1390 [some (.inr (.inr 999)), some (.inr (.inr 0)), some (.inr (.inr 83)), some (.inl i)] [] μ := by
  have iL : (L : Int) ≤ 2560 := by omega
  have ix : ∀ k : Int, 0 ≤ k → k ≤ 4 → 0 ≤ am_c (i + k) ∧ am_c (i + k) < L := fun k h0 h1 => by rw [am_cR (by omega) (by omega)]; omega
  refine am_go (ct := fun pc => Nat.beq pc 1663) am_oL_law 60 ?_
  conv => whnf
  repeat' first
    | (refine (?_ : am_wp _ _ _ _ _ _ _ _ _ _ _ _); conv => whnf)
    | refine And.intro ⟨rfl, rfl⟩ ?_
    | refine And.intro (ix _ (by decide) (by decide)) ?_
    | refine And.intro trivial ?_
    | refine w_bets_X6 (ν := μ) _ hI.1 (hX _).1 (hX _).2 (fun r1 μ1 h0 => ?_)
  have h1 := gv_of_sx h0
  have hE : lx_E [] := lx_c rfl
  have hm1 := lx_mi hE h1 hI.2.1
  repeat' first
    | (refine (?_ : am_wp _ _ _ _ _ _ _ _ _ _ _ _); conv => whnf)
    | refine And.intro ⟨rfl, rfl⟩ ?_
    | refine And.intro (ix _ (by decide) (by decide)) ?_
    | refine And.intro trivial ?_
    | refine m_bets _ hm1 (hX _).1 (hX _).2 (fun r2 μ2 h2 => ?_)
  have hA : lx_A ms := lx_A0
  have hI2 : lx_I μ2 := LI_weak hI h1 h2 hE rfl hA fp_Acs
  repeat' first
    | (refine (?_ : am_wp _ _ _ _ _ _ _ _ _ _ _ _); conv => whnf)
    | refine And.intro trivial ?_
    | exact hH _ hI2
theorem lx_c42 {l : Launch} {L : Nat} {xs : Nat → Int} {i : Int} (hX : lx_X xs) (hL : L ≤ 2560) (i0 : 0 ≤ i) (i1 : i ≤ (L : Int) - 5) (hH : lx_H l L xs i) (μ : am_N) (hI : lx_I μ) : am_AW l L xs 0 lx_Q 1413 [some (.inr (.inr 999)), some (.inr (.inr 0)), some (.inr (.inr 83)), some (.inl i)] [] μ := by
  have iL : (L : Int) ≤ 2560 := by omega
  have ix : ∀ k : Int, 0 ≤ k → k ≤ 4 → 0 ≤ am_c (i + k) ∧ am_c (i + k) < L := fun k h0 h1 => by rw [am_cR (by omega) (by omega)]; omega
  refine am_go (ct := fun pc => Nat.beq pc 1663) am_oL_law 60 ?_
  conv => whnf
  repeat' first
    | (refine (?_ : am_wp _ _ _ _ _ _ _ _ _ _ _ _); conv => whnf)
    | refine And.intro ⟨rfl, rfl⟩ ?_
    | refine And.intro (ix _ (by decide) (by decide)) ?_
    | refine And.intro trivial ?_
    | refine v_habit_X6 _ _ hI.1 (hX _).1 (hX _).2 (hX _).1 (hX _).2 (fun r1 μ1 h1 => ?_)
  have hE : lx_E [52, 53, 54, 55, 56] := lx_c rfl
  have hm1 := lx_mi hE h1 hI.2.1
  repeat' first
    | (refine (?_ : am_wp _ _ _ _ _ _ _ _ _ _ _ _); conv => whnf)
    | refine And.intro ⟨rfl, rfl⟩ ?_
    | refine And.intro (ix _ (by decide) (by decide)) ?_
    | refine And.intro trivial ?_
    | refine m_habit _ _ hm1 (hX _).1 (hX _).2 (hX _).1 (hX _).2 (fun r2 μ2 h2 => ?_)
  have hA : lx_A (mo ms (mo (m1o 92 16) (m1o 93 16))) := (lx_Ao lx_A0 (lx_Ao (lx_mo (by decide)) (lx_mo (by decide))))
  have hI2 : lx_I μ2 := LI_weak hI h1 h2 hE rfl hA (fp_Aco fp_Acs (fp_Aco (fp_Ac1 (by decide) (by decide)) (fp_Ac1 (by decide) (by decide))))
  repeat' first
    | (refine (?_ : am_wp _ _ _ _ _ _ _ _ _ _ _ _); conv => whnf)
    | refine And.intro trivial ?_
    | exact hH _ hI2
theorem lx_c43 {l : Launch} {L : Nat} {xs : Nat → Int} {i : Int} (hX : lx_X xs) (hL : L ≤ 2560) (i0 : 0 ≤ i) (i1 : i ≤ (L : Int) - 5) (hH : lx_H l L xs i) (μ : am_N) (hI : lx_I μ) : am_AW l L xs 0 lx_Q 1446 [some (.inr (.inr 999)), some (.inr (.inr 0)), some (.inr (.inr 83)), some (.inl i)] [] μ := by
  have iL : (L : Int) ≤ 2560 := by omega
  have ix : ∀ k : Int, 0 ≤ k → k ≤ 4 → 0 ≤ am_c (i + k) ∧ am_c (i + k) < L := fun k h0 h1 => by rw [am_cR (by omega) (by omega)]; omega
  refine am_go (ct := fun pc => Nat.beq pc 1663) am_oL_law 60 ?_
  conv => whnf
  repeat' first
    | (refine (?_ : am_wp _ _ _ _ _ _ _ _ _ _ _ _); conv => whnf)
    | refine And.intro ⟨rfl, rfl⟩ ?_
    | refine And.intro (ix _ (by decide) (by decide)) ?_
    | refine And.intro trivial ?_
    | refine v_forget_X6  hI.1  (fun r1 μ1 h1 => ?_)
  have hE : lx_E [53, 55] := lx_c rfl
  have hm1 := lx_mi hE h1 hI.2.1
  repeat' first
    | (refine (?_ : am_wp _ _ _ _ _ _ _ _ _ _ _ _); conv => whnf)
    | refine And.intro ⟨rfl, rfl⟩ ?_
    | refine And.intro (ix _ (by decide) (by decide)) ?_
    | refine And.intro trivial ?_
    | refine m_forget  hm1  (fun r2 μ2 h2 g0 g1 => ?_)
  have hA : lx_A (mo ms (m1o 83000 16)) := (lx_Ao lx_A0 (lx_mo (by decide)))
  have hI2 : lx_I μ2 := LI_weak hI h1 h2 hE rfl hA (fp_Aco fp_Acs (fp_Ac1 (by decide) (by decide)))
  repeat' first
    | (refine (?_ : am_wp _ _ _ _ _ _ _ _ _ _ _ _); conv => whnf)
    | refine And.intro trivial ?_
    | exact hH _ hI2
theorem lx_c44 {l : Launch} {L : Nat} {xs : Nat → Int} {i : Int} (hX : lx_X xs) (hL : L ≤ 2560) (i0 : 0 ≤ i) (i1 : i ≤ (L : Int) - 5) (hH : lx_H l L xs i) (μ : am_N) (hI : lx_I μ) : am_AW l L xs 0 lx_Q 1459 [some (.inr (.inr 999)), some (.inr (.inr 0)), some (.inr (.inr 83)), some (.inl i)] [] μ := by
  have iL : (L : Int) ≤ 2560 := by omega
  have ix : ∀ k : Int, 0 ≤ k → k ≤ 4 → 0 ≤ am_c (i + k) ∧ am_c (i + k) < L := fun k h0 h1 => by rw [am_cR (by omega) (by omega)]; omega
  refine am_go (ct := fun pc => Nat.beq pc 1663) am_oL_law 60 ?_
  conv => whnf
  repeat' first
    | (refine (?_ : am_wp _ _ _ _ _ _ _ _ _ _ _ _); conv => whnf)
    | refine And.intro ⟨rfl, rfl⟩ ?_
    | refine And.intro (ix _ (by decide) (by decide)) ?_
    | refine And.intro trivial ?_
    | refine w_tried_X6 (ν := μ) _ _ hI.1 (hX _).1 (hX _).2 (hX _).1 (hX _).2 (fun r1 μ1 h0 => ?_)
  have h1 := gv_of_sx h0
  have hE : lx_E [] := lx_c rfl
  have hm1 := lx_mi hE h1 hI.2.1
  repeat' first
    | (refine (?_ : am_wp _ _ _ _ _ _ _ _ _ _ _ _); conv => whnf)
    | refine And.intro ⟨rfl, rfl⟩ ?_
    | refine And.intro (ix _ (by decide) (by decide)) ?_
    | refine And.intro trivial ?_
    | refine m_tried _ _ hm1 (hX _).1 (hX _).2 (hX _).1 (hX _).2 (fun r2 μ2 h2 => ?_)
  have hA : lx_A mQ := (lx_Ao lx_A0 lx_Q1)
  have hI2 : lx_I μ2 := LI_weak hI h1 h2 hE rfl hA fp_AcQ
  repeat' first
    | (refine (?_ : am_wp _ _ _ _ _ _ _ _ _ _ _ _); conv => whnf)
    | refine And.intro trivial ?_
    | exact hH _ hI2
theorem lx_c45 {l : Launch} {L : Nat} {xs : Nat → Int} {i : Int} (hX : lx_X xs) (hL : L ≤ 2560) (i0 : 0 ≤ i) (i1 : i ≤ (L : Int) - 5) (hH : lx_H l L xs i) (μ : am_N) (hI : lx_I μ) : am_AW l L xs 0 lx_Q 1492 [some (.inr (.inr 999)), some (.inr (.inr 0)), some (.inr (.inr 83)), some (.inl i)] [] μ := by
  have iL : (L : Int) ≤ 2560 := by omega
  have ix : ∀ k : Int, 0 ≤ k → k ≤ 4 → 0 ≤ am_c (i + k) ∧ am_c (i + k) < L := fun k h0 h1 => by rw [am_cR (by omega) (by omega)]; omega
  refine am_go (ct := fun pc => Nat.beq pc 1663) am_oL_law 60 ?_
  conv => whnf
  repeat' first
    | (refine (?_ : am_wp _ _ _ _ _ _ _ _ _ _ _ _); conv => whnf)
    | refine And.intro ⟨rfl, rfl⟩ ?_
    | refine And.intro (ix _ (by decide) (by decide)) ?_
    | refine And.intro trivial ?_
    | refine w_had_X6 (ν := μ) _ _ _ _ hI.1 (hX _).1 (hX _).2 (hX _).1 (hX _).2 (hX _).1 (hX _).2 (hX _).1 (hX _).2 (fun r1 μ1 h0 => ?_)
  have h1 := gv_of_sx h0
  have hE : lx_E [] := lx_c rfl
  have hm1 := lx_mi hE h1 hI.2.1
  repeat' first
    | (refine (?_ : am_wp _ _ _ _ _ _ _ _ _ _ _ _); conv => whnf)
    | refine And.intro ⟨rfl, rfl⟩ ?_
    | refine And.intro (ix _ (by decide) (by decide)) ?_
    | refine And.intro trivial ?_
    | refine m_had _ _ _ _ hm1 (hX _).1 (hX _).2 (hX _).1 (hX _).2 (hX _).1 (hX _).2 (hX _).1 (hX _).2 (fun r2 μ2 h2 => ?_)
  have hA : lx_A mQ := (lx_Ao lx_A0 lx_Q1)
  have hI2 : lx_I μ2 := LI_weak hI h1 h2 hE rfl hA fp_AcQ
  repeat' first
    | (refine (?_ : am_wp _ _ _ _ _ _ _ _ _ _ _ _); conv => whnf)
    | refine And.intro trivial ?_
    | exact hH _ hI2
theorem lx_c46 {l : Launch} {L : Nat} {xs : Nat → Int} {i : Int} (hX : lx_X xs) (hL : L ≤ 2560) (i0 : 0 ≤ i) (i1 : i ≤ (L : Int) - 5) (hH : lx_H l L xs i) (μ : am_N) (hI : lx_I μ) : am_AW l L xs 0 lx_Q 1545 [some (.inr (.inr 999)), some (.inr (.inr 0)), some (.inr (.inr 83)), some (.inl i)] [] μ := by
  have iL : (L : Int) ≤ 2560 := by omega
  have ix : ∀ k : Int, 0 ≤ k → k ≤ 4 → 0 ≤ am_c (i + k) ∧ am_c (i + k) < L := fun k h0 h1 => by rw [am_cR (by omega) (by omega)]; omega
  refine am_go (ct := fun pc => Nat.beq pc 1663) am_oL_law 60 ?_
  conv => whnf
  repeat' first
    | (refine (?_ : am_wp _ _ _ _ _ _ _ _ _ _ _ _); conv => whnf)
    | refine And.intro ⟨rfl, rfl⟩ ?_
    | refine And.intro (ix _ (by decide) (by decide)) ?_
    | refine And.intro trivial ?_
    | refine v_time_X6 _ hI.1 (hX _).1 (hX _).2 (fun r1 μ1 h1 f0 => ?_)
  have hE : lx_E [46, 47] := lx_c rfl
  have hm1 := lx_mi hE h1 hI.2.1
  repeat' first
    | (refine (?_ : am_wp _ _ _ _ _ _ _ _ _ _ _ _); conv => whnf)
    | refine And.intro ⟨rfl, rfl⟩ ?_
    | refine And.intro (ix _ (by decide) (by decide)) ?_
    | refine And.intro trivial ?_
    | refine m_time _ hm1 (hX _).1 (hX _).2 (fun r2 μ2 h2 g0 => ?_)
  have hA : lx_A (mo ms (m1o 105 40)) := (lx_Ao lx_A0 (lx_mo (by decide)))
  have hI2 : lx_I μ2 := LI_weak hI h1 h2 hE rfl hA (fp_Aco fp_Acs (fp_Ac1 (by decide) (by decide)))
  repeat' first
    | (refine (?_ : am_wp _ _ _ _ _ _ _ _ _ _ _ _); conv => whnf)
    | refine And.intro trivial ?_
    | exact hH _ hI2
theorem lx_c47 {l : Launch} {L : Nat} {xs : Nat → Int} {i : Int} (hX : lx_X xs) (hL : L ≤ 2560) (i0 : 0 ≤ i) (i1 : i ≤ (L : Int) - 5) (hH : lx_H l L xs i) (μ : am_N) (hI : lx_I μ) : am_AW l L xs 0 lx_Q 1568 [some (.inr (.inr 999)), some (.inr (.inr 0)), some (.inr (.inr 83)), some (.inl i)] [] μ := by
  have iL : (L : Int) ≤ 2560 := by omega
  have ix : ∀ k : Int, 0 ≤ k → k ≤ 4 → 0 ≤ am_c (i + k) ∧ am_c (i + k) < L := fun k h0 h1 => by rw [am_cR (by omega) (by omega)]; omega
  refine am_go (ct := fun pc => Nat.beq pc 1663) am_oL_law 60 ?_
  conv => whnf
  repeat' first
    | (refine (?_ : am_wp _ _ _ _ _ _ _ _ _ _ _ _); conv => whnf)
    | refine And.intro ⟨rfl, rfl⟩ ?_
    | refine And.intro (ix _ (by decide) (by decide)) ?_
    | refine And.intro trivial ?_
    | refine w_past_X6 (ν := μ) _ _ hI.1 (hX _).1 (hX _).2 (hX _).1 (hX _).2 (fun r1 μ1 h0 => ?_)
  have h1 := gv_of_sx h0
  have hE : lx_E [] := lx_c rfl
  have hm1 := lx_mi hE h1 hI.2.1
  repeat' first
    | (refine (?_ : am_wp _ _ _ _ _ _ _ _ _ _ _ _); conv => whnf)
    | refine And.intro ⟨rfl, rfl⟩ ?_
    | refine And.intro (ix _ (by decide) (by decide)) ?_
    | refine And.intro trivial ?_
    | refine m_past _ _ hm1 (hX _).1 (hX _).2 (hX _).1 (hX _).2 (fun r2 μ2 h2 => ?_)
  have hA : lx_A ms := lx_A0
  have hI2 : lx_I μ2 := LI_weak hI h1 h2 hE rfl hA fp_Acs
  repeat' first
    | (refine (?_ : am_wp _ _ _ _ _ _ _ _ _ _ _ _); conv => whnf)
    | refine And.intro trivial ?_
    | exact hH _ hI2
theorem lx_c48 {l : Launch} {L : Nat} {xs : Nat → Int} {i : Int} (hX : lx_X xs) (hL : L ≤ 2560) (i0 : 0 ≤ i) (i1 : i ≤ (L : Int) - 5) (hH : lx_H l L xs i) (μ : am_N) (hI : lx_I μ) : am_AW l L xs 0 lx_Q 1601 [some (.inr (.inr 999)), some (.inr (.inr 0)), some (.inr (.inr 83)), some (.inl i)] [] μ := by
  have iL : (L : Int) ≤ 2560 := by omega
  have ix : ∀ k : Int, 0 ≤ k → k ≤ 4 → 0 ≤ am_c (i + k) ∧ am_c (i + k) < L := fun k h0 h1 => by rw [am_cR (by omega) (by omega)]; omega
  refine am_go (ct := fun pc => Nat.beq pc 1663) am_oL_law 60 ?_
  conv => whnf
  repeat' first
    | (refine (?_ : am_wp _ _ _ _ _ _ _ _ _ _ _ _); conv => whnf)
    | refine And.intro ⟨rfl, rfl⟩ ?_
    | refine And.intro (ix _ (by decide) (by decide)) ?_
    | refine And.intro trivial ?_
    | refine v_wipe_X6  hI.1  (fun r1 μ1 h1 f0 f1 => ?_)
  have hE : lx_E [46] := lx_c rfl
  have hm1 := lx_mi hE h1 hI.2.1
  repeat' first
    | (refine (?_ : am_wp _ _ _ _ _ _ _ _ _ _ _ _); conv => whnf)
    | refine And.intro ⟨rfl, rfl⟩ ?_
    | refine And.intro (ix _ (by decide) (by decide)) ?_
    | refine And.intro trivial ?_
    | refine m_wipe  hm1  (fun r2 μ2 h2 g0 g1 => ?_)
  have hA : lx_A (mo ms (m1o 83000 40)) := (lx_Ao lx_A0 (lx_mo (by decide)))
  have hI2 : lx_I μ2 := LI_weak hI h1 h2 hE rfl hA (fp_Aco fp_Acs (fp_Ac1 (by decide) (by decide)))
  repeat' first
    | (refine (?_ : am_wp _ _ _ _ _ _ _ _ _ _ _ _); conv => whnf)
    | refine And.intro trivial ?_
    | exact hH _ hI2
theorem lx_c49 {l : Launch} {L : Nat} {xs : Nat → Int} {i : Int} (hX : lx_X xs) (hL : L ≤ 2560) (i0 : 0 ≤ i) (i1 : i ≤ (L : Int) - 5) (hH : lx_H l L xs i) (μ : am_N) (hI : lx_I μ) : am_AW l L xs 0 lx_Q 1614 [some (.inr (.inr 999)), some (.inr (.inr 0)), some (.inr (.inr 83)), some (.inl i)] [] μ := by
  have iL : (L : Int) ≤ 2560 := by omega
  have ix : ∀ k : Int, 0 ≤ k → k ≤ 4 → 0 ≤ am_c (i + k) ∧ am_c (i + k) < L := fun k h0 h1 => by rw [am_cR (by omega) (by omega)]; omega
  have cx : ∀ j, am_c (xs j) = xs j := fun j => am_cR (by have := (hX j).1; omega) (by have := (hX j).2; omega)
  have hb := sx_all hI.1
  have hc := mi_all hI.2.1
  have hR := hI.2.2
  have hwM := hR.1.2
  have hwC : fp_fw 999 (fv μ 1) := by rw [hR.1.1]; exact hwM
  have n14 : 0 ≤ μ 1 4 ∧ μ 1 4 ≤ 4 := by omega
  have nM : μ 1 4 = μ 83 14 := (fp_ct_n hR.1.1).1 4 (by decide)
  refine am_go (ct := fun pc => Nat.beq pc 1663) am_oL_law 60 ?_
  conv => whnf
  repeat' first
    | (refine (?_ : am_wp _ _ _ _ _ _ _ _ _ _ _ _); conv => whnf)
    | refine And.intro ⟨rfl, rfl⟩ ?_
    | refine And.intro (ix _ (by decide) (by decide)) ?_
    | refine And.intro trivial ?_
    | (refine s_image (by omega) (fun μ1 f1 h1 e15 e50 x51 e58 x59 e60 x61 => ?_))
    | refine n_image (fun μ2 f2 e25 u => ?_)
    | (refine hH _ ?_; first | exact LI_image hI f1 h1 e15 e50 e58 e60 f2 e25 u)
  all_goals (first | exact LI_image hI f1 h1 e15 e50 e58 e60 f2 e25 u | (trace_state; fail))
theorem lx_c50 {l : Launch} {L : Nat} {xs : Nat → Int} {i : Int} (hX : lx_X xs) (hL : L ≤ 2560) (i0 : 0 ≤ i) (i1 : i ≤ (L : Int) - 5) (hH : lx_H l L xs i) (μ : am_N) (hI : lx_I μ) : am_AW l L xs 0 lx_Q 1627 [some (.inr (.inr 999)), some (.inr (.inr 0)), some (.inr (.inr 83)), some (.inl i)] [] μ := by
  have iL : (L : Int) ≤ 2560 := by omega
  have ix : ∀ k : Int, 0 ≤ k → k ≤ 4 → 0 ≤ am_c (i + k) ∧ am_c (i + k) < L := fun k h0 h1 => by rw [am_cR (by omega) (by omega)]; omega
  have cx : ∀ j, am_c (xs j) = xs j := fun j => am_cR (by have := (hX j).1; omega) (by have := (hX j).2; omega)
  have hb := sx_all hI.1
  have hc := mi_all hI.2.1
  have hR := hI.2.2
  have hwM := hR.1.2
  have hwC : fp_fw 999 (fv μ 1) := by rw [hR.1.1]; exact hwM
  have n14 : 0 ≤ μ 1 4 ∧ μ 1 4 ≤ 4 := by omega
  have nM : μ 1 4 = μ 83 14 := (fp_ct_n hR.1.1).1 4 (by decide)
  refine am_go (ct := fun pc => Nat.beq pc 1663) am_oL_law 60 ?_
  conv => whnf
  repeat' first
    | (refine (?_ : am_wp _ _ _ _ _ _ _ _ _ _ _ _); conv => whnf)
    | refine And.intro ⟨rfl, rfl⟩ ?_
    | refine And.intro (ix _ (by decide) (by decide)) ?_
    | refine And.intro trivial ?_
    | (have c15 : am_c (μ 0 15) = μ 0 15 := (by rcases hR.2.2.2 with ⟨a, -⟩ | ⟨a, -⟩ <;> rw [a] <;> rfl); refine s_restore (by omega) c15 (fun a1 μ1 f1 h1 z62 e48 x49 e53 x54 e55 x56 => ?_) (fun a0 μ1 f1 => ?_))
    | (have t25 : μ1 83 25 = μ 83 25 := f1 83 25 (by omega) (by omega) (by omega) (by omega); have c25 : am_c (μ1 83 25) = μ1 83 25 := (by rw [t25]; rcases hR.2.2.2 with ⟨-, a⟩ | ⟨-, a, -⟩ <;> rw [a] <;> rfl); refine n_restore c25 (fun b1 μ2 f2 u z33 => ?_) (fun b0 μ2 f2 => ?_))
    | (have t25 : μ1 83 25 = μ 83 25 := f1 83 25 (by omega); have c25 : am_c (μ1 83 25) = μ1 83 25 := (by rw [t25]; rcases hR.2.2.2 with ⟨-, a⟩ | ⟨-, a, -⟩ <;> rw [a] <;> rfl); refine n_restore c25 (fun b1 μ2 f2 u z33 => ?_) (fun b0 μ2 f2 => ?_))
    | (refine hH _ ?_; first | exact LI_restore hI a1 f1 h1 z62 e48 e53 e55 f2 u z33 | exact LI_ref hI f1 f2 | (exfalso; rcases hR.2.2.2 with ⟨x, y⟩ | ⟨x, y, -⟩ <;> rw [t25] at * <;> omega))
  all_goals (first | exact LI_restore hI a1 f1 h1 z62 e48 e53 e55 f2 u z33 | exact LI_ref hI f1 f2 | (exfalso; rcases hR.2.2.2 with ⟨x, y⟩ | ⟨x, y, -⟩ <;> rw [t25] at * <;> omega) | (trace_state; fail))
theorem lx_c51 {l : Launch} {L : Nat} {xs : Nat → Int} {i : Int} (hX : lx_X xs) (hL : L ≤ 2560) (i0 : 0 ≤ i) (i1 : i ≤ (L : Int) - 5) (hH : lx_H l L xs i) (μ : am_N) (hI : lx_I μ) : am_AW l L xs 0 lx_Q 1640 [some (.inr (.inr 999)), some (.inr (.inr 0)), some (.inr (.inr 83)), some (.inl i)] [] μ := by
  have iL : (L : Int) ≤ 2560 := by omega
  have ix : ∀ k : Int, 0 ≤ k → k ≤ 4 → 0 ≤ am_c (i + k) ∧ am_c (i + k) < L := fun k h0 h1 => by rw [am_cR (by omega) (by omega)]; omega
  refine am_go (ct := fun pc => Nat.beq pc 1663) am_oL_law 60 ?_
  conv => whnf
  repeat' first
    | (refine (?_ : am_wp _ _ _ _ _ _ _ _ _ _ _ _); conv => whnf)
    | refine And.intro ⟨rfl, rfl⟩ ?_
    | refine And.intro (ix _ (by decide) (by decide)) ?_
    | refine And.intro trivial ?_
    | refine w_count_X6 (ν := μ) _ hI.1 (hX _).1 (hX _).2 (fun r1 μ1 h0 => ?_)
  have h1 := gv_of_sx h0
  have hE : lx_E [] := lx_c rfl
  have hm1 := lx_mi hE h1 hI.2.1
  repeat' first
    | (refine (?_ : am_wp _ _ _ _ _ _ _ _ _ _ _ _); conv => whnf)
    | refine And.intro ⟨rfl, rfl⟩ ?_
    | refine And.intro (ix _ (by decide) (by decide)) ?_
    | refine And.intro trivial ?_
    | refine m_count _ hm1 (hX _).1 (hX _).2 (fun r2 μ2 h2 => ?_)
  have hA : lx_A ms := lx_A0
  have hI2 : lx_I μ2 := LI_weak hI h1 h2 hE rfl hA fp_Acs
  repeat' first
    | (refine (?_ : am_wp _ _ _ _ _ _ _ _ _ _ _ _); conv => whnf)
    | refine And.intro trivial ?_
    | exact hH _ hI2
