/-! the law: cases -/
theorem lx_c0 {l : Launch} {L : Nat} {xs : Nat → Int} {i : Int} (hX : lx_X xs) (hL : L ≤ 2560) (i0 : 0 ≤ i) (i1 : i ≤ (L : Int) - 5) (hH : lx_H l L xs i) (μ : am_N) (hI : lx_J μ) : am_AW l L xs 0 lx_Q 256 [some (.inr (.inr 999)), some (.inr (.inr 0)), some (.inr (.inr 83)), some (.inl i)] [] μ := by
  have iL : (L : Int) ≤ 2560 := by omega
  have ix : ∀ k : Int, 0 ≤ k → k ≤ 4 → 0 ≤ am_c (i + k) ∧ am_c (i + k) < L := fun k h0 h1 => by rw [am_cR (by omega) (by omega)]; omega
  have cx : ∀ j, am_c (xs j) = xs j := fun j => am_cR (by have := (hX j).1; omega) (by have := (hX j).2; omega)
  have hb := sx_all hI.1.1
  have hc := mi_all hI.1.2.1
  have hR := hI.1.2.2
  have hwM := hR.1.2
  have hwC : fp_fw 999 (fv μ 1) := by rw [hR.1.1]; exact hwM
  have n14 : 0 ≤ μ 1 4 ∧ μ 1 4 ≤ 4 := by omega
  have nM : μ 1 4 = μ 83 14 := (fp_ct_n hR.1.1).1 4 (by decide)
  refine am_go (ct := fun pc => Nat.beq pc 1662) am_oL_law 60 ?_
  conv => whnf
  repeat' first
    | (refine (?_ : am_wp _ _ _ _ _ _ _ _ _ _ _ _); conv => whnf)
    | refine And.intro ⟨rfl, rfl⟩ ?_
    | refine And.intro (ix _ (by decide) (by decide)) ?_
    | refine And.intro trivial ?_
    | refine s_feedF _ (cx _) hI.1.1 (fun a1 a2 μ1 f1 e1 e2 => ?_) (fun r1 μ1 a0 f1 => ?_)
    | (have t21 : μ1 83 21 = μ 83 21 := f1 83 21 (by omega) (by omega); refine n_feedF _ (cx _) (by rw [t21]; omega) (by rw [t21]; omega) (fun b1 b2 μ2 f2 e3 e4 => ?_) (fun r2 μ2 b0 f2 => ?_))
    | (have t21 : μ1 83 21 = μ 83 21 := f1 83 21 (by omega); refine n_feedF _ (cx _) (by rw [t21]; omega) (by rw [t21]; omega) (fun b1 b2 μ2 f2 e3 e4 => ?_) (fun r2 μ2 b0 f2 => ?_))
    | (refine hH _ ?_; first | exact LJ_fr hI (LI_feed hI.1 a1 a2 f1 f2 e1 e2 e3 e4) (fun a b q => (f2 a b (by unfold rq_K at q; omega) (by unfold rq_K at q; omega)).trans (f1 a b (by unfold rq_K at q; omega) (by unfold rq_K at q; omega))) | exact LJ_fr hI (LI_ref hI.1 f1 f2) (fun a b q => (f2 a b (by unfold rq_K at q; omega)).trans (f1 a b (by unfold rq_K at q; omega))) | (exfalso; have h36 := hR.2.1.1; rw [t21] at *; omega))
  all_goals (first | exact LJ_fr hI (LI_feed hI.1 a1 a2 f1 f2 e1 e2 e3 e4) (fun a b q => (f2 a b (by unfold rq_K at q; omega) (by unfold rq_K at q; omega)).trans (f1 a b (by unfold rq_K at q; omega) (by unfold rq_K at q; omega))) | exact LJ_fr hI (LI_ref hI.1 f1 f2) (fun a b q => (f2 a b (by unfold rq_K at q; omega)).trans (f1 a b (by unfold rq_K at q; omega))) | (exfalso; have h36 := hR.2.1.1; rw [t21] at *; omega) | (trace_state; fail))
theorem lx_c1 {l : Launch} {L : Nat} {xs : Nat → Int} {i : Int} (hX : lx_X xs) (hL : L ≤ 2560) (i0 : 0 ≤ i) (i1 : i ≤ (L : Int) - 5) (hH : lx_H l L xs i) (μ : am_N) (hI : lx_J μ) : am_AW l L xs 0 lx_Q 279 [some (.inr (.inr 999)), some (.inr (.inr 0)), some (.inr (.inr 83)), some (.inl i)] [] μ := by
  have iL : (L : Int) ≤ 2560 := by omega
  have ix : ∀ k : Int, 0 ≤ k → k ≤ 4 → 0 ≤ am_c (i + k) ∧ am_c (i + k) < L := fun k h0 h1 => by rw [am_cR (by omega) (by omega)]; omega
  have cx : ∀ j, am_c (xs j) = xs j := fun j => am_cR (by have := (hX j).1; omega) (by have := (hX j).2; omega)
  have hb := sx_all hI.1.1
  have hc := mi_all hI.1.2.1
  have hR := hI.1.2.2
  have hwM := hR.1.2
  have hwC : fp_fw 999 (fv μ 1) := by rw [hR.1.1]; exact hwM
  have n14 : 0 ≤ μ 1 4 ∧ μ 1 4 ≤ 4 := by omega
  have nM : μ 1 4 = μ 83 14 := (fp_ct_n hR.1.1).1 4 (by decide)
  refine am_go (ct := fun pc => Nat.beq pc 1662) am_oL_law 60 ?_
  conv => whnf
  repeat' first
    | (refine (?_ : am_wp _ _ _ _ _ _ _ _ _ _ _ _); conv => whnf)
    | refine And.intro ⟨rfl, rfl⟩ ?_
    | refine And.intro (ix _ (by decide) (by decide)) ?_
    | refine And.intro trivial ?_
    | (refine s_lane hI.1.1 hwC hR.2.1.2.2 (fun r1 μ1 l1 f1 p43 b38 b8 b1 z36 e62 hw1 => ?_))
    | (have t21 : μ1 83 21 = μ 83 21 := f1 83 21 (by omega) (by omega) (by omega) (by omega); have m1 : mv μ1 = mv μ := mv_keep (fun a b q => f1 a b (by omega) (by omega) (by omega) (by omega)); have t94 : ∀ b, μ1 94 b = μ 94 b := (fun b => f1 94 b (by omega) (by omega) (by omega) (by omega)); refine x_mlane (μ1 94) (μ1 83 21) rfl rfl (by rw [t21]; omega) (by rw [t21]; omega) (fun x hx => by rw [t94, ← hR.2.1.2.1]; exact hR.2.1.2.2 x (by rw [t21] at hx; have := hR.2.1.1; omega)) (by rw [m1]; exact hwM) (fun p hp => by rw [f1 100 p (by omega) (by omega) (by omega) (by omega)]; exact mi_or hI.1.2.1 p hp) (fun r2 μ2 l2 f2 p100 z21 e33 => ?_); have hl := LI_lane hI.1 l1 f1 p43 b38 b8 b1 z36 e62 hw1 l2 f2 p100 z21 e33)
    | (refine hH _ ?_; first | exact LJ_fr hI hl.1 (fun a b q => (f2 a b (by unfold rq_K at q; omega) (by unfold rq_K at q; omega) (by unfold rq_K at q; omega) (by unfold rq_K at q; omega) (by unfold rq_K at q; omega) (by unfold rq_K at q; omega) (by unfold rq_K at q; omega) (by unfold rq_K at q; omega) (by unfold rq_K at q; omega)).trans (f1 a b (by unfold rq_K at q; omega) (by unfold rq_K at q; omega) (by unfold rq_K at q; omega) (by unfold rq_K at q; omega))))
  all_goals (first | exact LJ_fr hI hl.1 (fun a b q => (f2 a b (by unfold rq_K at q; omega) (by unfold rq_K at q; omega) (by unfold rq_K at q; omega) (by unfold rq_K at q; omega) (by unfold rq_K at q; omega) (by unfold rq_K at q; omega) (by unfold rq_K at q; omega) (by unfold rq_K at q; omega) (by unfold rq_K at q; omega)).trans (f1 a b (by unfold rq_K at q; omega) (by unfold rq_K at q; omega) (by unfold rq_K at q; omega) (by unfold rq_K at q; omega))) | (trace_state; fail))
theorem lx_c2 {l : Launch} {L : Nat} {xs : Nat → Int} {i : Int} (hX : lx_X xs) (hL : L ≤ 2560) (i0 : 0 ≤ i) (i1 : i ≤ (L : Int) - 5) (hH : lx_H l L xs i) (μ : am_N) (hI : lx_J μ) : am_AW l L xs 0 lx_Q 292 [some (.inr (.inr 999)), some (.inr (.inr 0)), some (.inr (.inr 83)), some (.inl i)] [] μ := by
  have iL : (L : Int) ≤ 2560 := by omega
  have ix : ∀ k : Int, 0 ≤ k → k ≤ 4 → 0 ≤ am_c (i + k) ∧ am_c (i + k) < L := fun k h0 h1 => by rw [am_cR (by omega) (by omega)]; omega
  have cx : ∀ j, am_c (xs j) = xs j := fun j => am_cR (by have := (hX j).1; omega) (by have := (hX j).2; omega)
  have hb := sx_all hI.1.1
  have hc := mi_all hI.1.2.1
  have hR := hI.1.2.2
  have hwM := hR.1.2
  have hwC : fp_fw 999 (fv μ 1) := by rw [hR.1.1]; exact hwM
  have n14 : 0 ≤ μ 1 4 ∧ μ 1 4 ≤ 4 := by omega
  have nM : μ 1 4 = μ 83 14 := (fp_ct_n hR.1.1).1 4 (by decide)
  refine am_go (ct := fun pc => Nat.beq pc 1662) am_oL_law 60 ?_
  conv => whnf
  repeat' first
    | (refine (?_ : am_wp _ _ _ _ _ _ _ _ _ _ _ _); conv => whnf)
    | refine And.intro ⟨rfl, rfl⟩ ?_
    | refine And.intro (ix _ (by decide) (by decide)) ?_
    | refine And.intro trivial ?_
    | refine s_runner _ _ (cx _) (cx _) hwC (fun μ1 f1 => ?_)
    | (have m1 : mv μ1 = mv μ := mv_keep (fun a b q => f1 a b (by omega)); refine n_runner _ _ (cx _) (cx _) (by rw [m1]; exact hwM) (fun μ2 f2 => ?_))
    | (refine hH _ ?_; first | exact LJ_fr hI (LI_ref hI.1 f1 f2) (fun a b q => (f2 a b (by unfold rq_K at q; omega)).trans (f1 a b (by unfold rq_K at q; omega))))
  all_goals (first | exact LJ_fr hI (LI_ref hI.1 f1 f2) (fun a b q => (f2 a b (by unfold rq_K at q; omega)).trans (f1 a b (by unfold rq_K at q; omega))) | (trace_state; fail))
theorem lx_c3 {l : Launch} {L : Nat} {xs : Nat → Int} {i : Int} (hX : lx_X xs) (hL : L ≤ 2560) (i0 : 0 ≤ i) (i1 : i ≤ (L : Int) - 5) (hH : lx_H l L xs i) (μ : am_N) (hI : lx_J μ) : am_AW l L xs 0 lx_Q 325 [some (.inr (.inr 999)), some (.inr (.inr 0)), some (.inr (.inr 83)), some (.inl i)] [] μ := by
  have iL : (L : Int) ≤ 2560 := by omega
  have ix : ∀ k : Int, 0 ≤ k → k ≤ 4 → 0 ≤ am_c (i + k) ∧ am_c (i + k) < L := fun k h0 h1 => by rw [am_cR (by omega) (by omega)]; omega
  have cx : ∀ j, am_c (xs j) = xs j := fun j => am_cR (by have := (hX j).1; omega) (by have := (hX j).2; omega)
  have hb := sx_all hI.1.1
  have hc := mi_all hI.1.2.1
  have hR := hI.1.2.2
  have hwM := hR.1.2
  have hwC : fp_fw 999 (fv μ 1) := by rw [hR.1.1]; exact hwM
  have n14 : 0 ≤ μ 1 4 ∧ μ 1 4 ≤ 4 := by omega
  have nM : μ 1 4 = μ 83 14 := (fp_ct_n hR.1.1).1 4 (by decide)
  refine am_go (ct := fun pc => Nat.beq pc 1662) am_oL_law 60 ?_
  conv => whnf
  repeat' first
    | (refine (?_ : am_wp _ _ _ _ _ _ _ _ _ _ _ _); conv => whnf)
    | refine And.intro ⟨rfl, rfl⟩ ?_
    | refine And.intro (ix _ (by decide) (by decide)) ?_
    | refine And.intro trivial ?_
    | refine s_startF _ _ (cx _) (cx _) n14.1 n14.2 (fun a1 a2 μ1 f1 e1 z1 => ?_) (fun r1 μ1 a0 f1 => ?_)
    | (have m1 : mv μ1 = mv μ := mv_keep (fun a b q => f1 a b (by omega) (by omega)); have t14 : μ1 83 14 = μ 83 14 := f1 83 14 (by omega) (by omega); refine n_startF _ _ (cx _) (cx _) (by rw [t14]; omega) (by rw [t14]; omega) (fun b1 b2 μ2 f2 e2 z2 => ?_) (fun r2 μ2 b0 f2 => ?_))
    | (have m1 : mv μ1 = mv μ := mv_keep (fun a b q => f1 a b (by omega)); have t14 : μ1 83 14 = μ 83 14 := f1 83 14 (by omega); refine n_startF _ _ (cx _) (cx _) (by rw [t14]; omega) (by rw [t14]; omega) (fun b1 b2 μ2 f2 e2 z2 => ?_) (fun r2 μ2 b0 f2 => ?_))
    | (refine hH _ ?_; first | exact LJ_fr hI (LI_fld hI.1 f1 f2 z1 z2 (by rw [e1, e2, m1, hR.1.1]) (by rw [e2, m1]; exact fw_ct (fw_arr hwM (by decide) (fun _ => a2) (Or.inr (by decide))))) (fun a b q => (f2 a b (by unfold rq_K at q; omega) (by unfold rq_K at q; omega)).trans (f1 a b (by unfold rq_K at q; omega) (by unfold rq_K at q; omega))) | exact LJ_fr hI (LI_ref hI.1 f1 f2) (fun a b q => (f2 a b (by unfold rq_K at q; omega)).trans (f1 a b (by unfold rq_K at q; omega))) | (exfalso; rw [t14] at *; omega) | (exfalso; exact a0 ⟨b1, b2⟩) | (exfalso; exact b0 ⟨a1, a2⟩) | (exfalso; omega))
  all_goals (first | exact LJ_fr hI (LI_fld hI.1 f1 f2 z1 z2 (by rw [e1, e2, m1, hR.1.1]) (by rw [e2, m1]; exact fw_ct (fw_arr hwM (by decide) (fun _ => a2) (Or.inr (by decide))))) (fun a b q => (f2 a b (by unfold rq_K at q; omega) (by unfold rq_K at q; omega)).trans (f1 a b (by unfold rq_K at q; omega) (by unfold rq_K at q; omega))) | exact LJ_fr hI (LI_ref hI.1 f1 f2) (fun a b q => (f2 a b (by unfold rq_K at q; omega)).trans (f1 a b (by unfold rq_K at q; omega))) | (exfalso; rw [t14] at *; omega) | (exfalso; exact a0 ⟨b1, b2⟩) | (exfalso; exact b0 ⟨a1, a2⟩) | (exfalso; omega) | (trace_state; fail))
theorem lx_c4 {l : Launch} {L : Nat} {xs : Nat → Int} {i : Int} (hX : lx_X xs) (hL : L ≤ 2560) (i0 : 0 ≤ i) (i1 : i ≤ (L : Int) - 5) (hH : lx_H l L xs i) (μ : am_N) (hI : lx_J μ) : am_AW l L xs 0 lx_Q 358 [some (.inr (.inr 999)), some (.inr (.inr 0)), some (.inr (.inr 83)), some (.inl i)] [] μ := by
  have iL : (L : Int) ≤ 2560 := by omega
  have ix : ∀ k : Int, 0 ≤ k → k ≤ 4 → 0 ≤ am_c (i + k) ∧ am_c (i + k) < L := fun k h0 h1 => by rw [am_cR (by omega) (by omega)]; omega
  have cx : ∀ j, am_c (xs j) = xs j := fun j => am_cR (by have := (hX j).1; omega) (by have := (hX j).2; omega)
  have hb := sx_all hI.1.1
  have hc := mi_all hI.1.2.1
  have hR := hI.1.2.2
  have hwM := hR.1.2
  have hwC : fp_fw 999 (fv μ 1) := by rw [hR.1.1]; exact hwM
  have n14 : 0 ≤ μ 1 4 ∧ μ 1 4 ≤ 4 := by omega
  have nM : μ 1 4 = μ 83 14 := (fp_ct_n hR.1.1).1 4 (by decide)
  refine am_go (ct := fun pc => Nat.beq pc 1662) am_oL_law 60 ?_
  conv => whnf
  repeat' first
    | (refine (?_ : am_wp _ _ _ _ _ _ _ _ _ _ _ _); conv => whnf)
    | refine And.intro ⟨rfl, rfl⟩ ?_
    | refine And.intro (ix _ (by decide) (by decide)) ?_
    | refine And.intro trivial ?_
    | refine s_kindF _ _ _ (cx _) (cx _) (cx _) n14.1 n14.2 (fun a1 a2 a3 μ1 f1 e1 z1 => ?_) (fun r1 μ1 a0 f1 => ?_)
    | (have m1 : mv μ1 = mv μ := mv_keep (fun a b q => f1 a b (by omega) (by omega)); have t14 : μ1 83 14 = μ 83 14 := f1 83 14 (by omega) (by omega); refine n_kindF _ _ _ (cx _) (cx _) (cx _) (by rw [t14]; omega) (by rw [t14]; omega) (fun b1 b2 b3 μ2 f2 e2 z2 => ?_) (fun r2 μ2 b0 f2 => ?_))
    | (have m1 : mv μ1 = mv μ := mv_keep (fun a b q => f1 a b (by omega)); have t14 : μ1 83 14 = μ 83 14 := f1 83 14 (by omega); refine n_kindF _ _ _ (cx _) (cx _) (cx _) (by rw [t14]; omega) (by rw [t14]; omega) (fun b1 b2 b3 μ2 f2 e2 z2 => ?_) (fun r2 μ2 b0 f2 => ?_))
    | (refine hH _ ?_; first | exact LJ_fr hI (LI_fld hI.1 f1 f2 z1 z2 (by rw [e1, e2, m1, hR.1.1]) (by rw [e2, m1]; exact fw_ct (fw_kind hwM a2 a3))) (fun a b q => (f2 a b (by unfold rq_K at q; omega) (by unfold rq_K at q; omega)).trans (f1 a b (by unfold rq_K at q; omega) (by unfold rq_K at q; omega))) | exact LJ_fr hI (LI_ref hI.1 f1 f2) (fun a b q => (f2 a b (by unfold rq_K at q; omega)).trans (f1 a b (by unfold rq_K at q; omega))) | (exfalso; rw [t14] at *; omega) | (exfalso; exact a0 ⟨b1, b2⟩) | (exfalso; exact b0 ⟨a1, a2⟩) | (exfalso; omega))
  all_goals (first | exact LJ_fr hI (LI_fld hI.1 f1 f2 z1 z2 (by rw [e1, e2, m1, hR.1.1]) (by rw [e2, m1]; exact fw_ct (fw_kind hwM a2 a3))) (fun a b q => (f2 a b (by unfold rq_K at q; omega) (by unfold rq_K at q; omega)).trans (f1 a b (by unfold rq_K at q; omega) (by unfold rq_K at q; omega))) | exact LJ_fr hI (LI_ref hI.1 f1 f2) (fun a b q => (f2 a b (by unfold rq_K at q; omega)).trans (f1 a b (by unfold rq_K at q; omega))) | (exfalso; rw [t14] at *; omega) | (exfalso; exact a0 ⟨b1, b2⟩) | (exfalso; exact b0 ⟨a1, a2⟩) | (exfalso; omega) | (trace_state; fail))
theorem lx_c5 {l : Launch} {L : Nat} {xs : Nat → Int} {i : Int} (hX : lx_X xs) (hL : L ≤ 2560) (i0 : 0 ≤ i) (i1 : i ≤ (L : Int) - 5) (hH : lx_H l L xs i) (μ : am_N) (hI : lx_J μ) : am_AW l L xs 0 lx_Q 401 [some (.inr (.inr 999)), some (.inr (.inr 0)), some (.inr (.inr 83)), some (.inl i)] [] μ := by
  have iL : (L : Int) ≤ 2560 := by omega
  have ix : ∀ k : Int, 0 ≤ k → k ≤ 4 → 0 ≤ am_c (i + k) ∧ am_c (i + k) < L := fun k h0 h1 => by rw [am_cR (by omega) (by omega)]; omega
  have cx : ∀ j, am_c (xs j) = xs j := fun j => am_cR (by have := (hX j).1; omega) (by have := (hX j).2; omega)
  have hb := sx_all hI.1.1
  have hc := mi_all hI.1.2.1
  have hR := hI.1.2.2
  have hwM := hR.1.2
  have hwC : fp_fw 999 (fv μ 1) := by rw [hR.1.1]; exact hwM
  have n14 : 0 ≤ μ 1 4 ∧ μ 1 4 ≤ 4 := by omega
  have nM : μ 1 4 = μ 83 14 := (fp_ct_n hR.1.1).1 4 (by decide)
  refine am_go (ct := fun pc => Nat.beq pc 1662) am_oL_law 60 ?_
  conv => whnf
  repeat' first
    | (refine (?_ : am_wp _ _ _ _ _ _ _ _ _ _ _ _); conv => whnf)
    | refine And.intro ⟨rfl, rfl⟩ ?_
    | refine And.intro (ix _ (by decide) (by decide)) ?_
    | refine And.intro trivial ?_
    | refine s_setF _ _ (cx _) (cx _) (fun a1 a2 μ1 f1 e1 z1 => ?_) (fun a0 r1 μ1 f1 => ?_)
    | (have m1 : mv μ1 = mv μ := mv_keep (fun a b q => f1 a b (by omega) (by omega)); have t14 : μ1 83 14 = μ 83 14 := f1 83 14 (by omega) (by omega); refine n_setF _ _ (cx _) (cx _) (fun b1 b2 μ2 f2 e2 z2 => ?_) (fun b0 r2 μ2 f2 => ?_))
    | (have m1 : mv μ1 = mv μ := mv_keep (fun a b q => f1 a b (by omega)); have t14 : μ1 83 14 = μ 83 14 := f1 83 14 (by omega); refine n_setF _ _ (cx _) (cx _) (fun b1 b2 μ2 f2 e2 z2 => ?_) (fun b0 r2 μ2 f2 => ?_))
    | (refine hH _ ?_; first | exact LJ_fr hI (LI_fld hI.1 f1 f2 z1 z2 (by rw [e1, e2, m1, hR.1.1]) (by rw [e2, m1]; exact fw_ct (fw_set hwM a1 a2))) (fun a b q => (f2 a b (by unfold rq_K at q; omega) (by unfold rq_K at q; omega)).trans (f1 a b (by unfold rq_K at q; omega) (by unfold rq_K at q; omega))) | exact LJ_fr hI (LI_ref hI.1 f1 f2) (fun a b q => (f2 a b (by unfold rq_K at q; omega)).trans (f1 a b (by unfold rq_K at q; omega))) | (exfalso; rw [t14] at *; omega) | (exfalso; exact a0 ⟨b1, b2⟩) | (exfalso; exact b0 ⟨a1, a2⟩) | (exfalso; omega))
  all_goals (first | exact LJ_fr hI (LI_fld hI.1 f1 f2 z1 z2 (by rw [e1, e2, m1, hR.1.1]) (by rw [e2, m1]; exact fw_ct (fw_set hwM a1 a2))) (fun a b q => (f2 a b (by unfold rq_K at q; omega) (by unfold rq_K at q; omega)).trans (f1 a b (by unfold rq_K at q; omega) (by unfold rq_K at q; omega))) | exact LJ_fr hI (LI_ref hI.1 f1 f2) (fun a b q => (f2 a b (by unfold rq_K at q; omega)).trans (f1 a b (by unfold rq_K at q; omega))) | (exfalso; rw [t14] at *; omega) | (exfalso; exact a0 ⟨b1, b2⟩) | (exfalso; exact b0 ⟨a1, a2⟩) | (exfalso; omega) | (trace_state; fail))
theorem lx_c6 {l : Launch} {L : Nat} {xs : Nat → Int} {i : Int} (hX : lx_X xs) (hL : L ≤ 2560) (i0 : 0 ≤ i) (i1 : i ≤ (L : Int) - 5) (hH : lx_H l L xs i) (μ : am_N) (hI : lx_J μ) : am_AW l L xs 0 lx_Q 434 [some (.inr (.inr 999)), some (.inr (.inr 0)), some (.inr (.inr 83)), some (.inl i)] [] μ := by
  have iL : (L : Int) ≤ 2560 := by omega
  have ix : ∀ k : Int, 0 ≤ k → k ≤ 4 → 0 ≤ am_c (i + k) ∧ am_c (i + k) < L := fun k h0 h1 => by rw [am_cR (by omega) (by omega)]; omega
  have cx : ∀ j, am_c (xs j) = xs j := fun j => am_cR (by have := (hX j).1; omega) (by have := (hX j).2; omega)
  have hb := sx_all hI.1.1
  have hc := mi_all hI.1.2.1
  have hR := hI.1.2.2
  have hwM := hR.1.2
  have hwC : fp_fw 999 (fv μ 1) := by rw [hR.1.1]; exact hwM
  have n14 : 0 ≤ μ 1 4 ∧ μ 1 4 ≤ 4 := by omega
  have nM : μ 1 4 = μ 83 14 := (fp_ct_n hR.1.1).1 4 (by decide)
  refine am_go (ct := fun pc => Nat.beq pc 1662) am_oL_law 60 ?_
  conv => whnf
  repeat' first
    | (refine (?_ : am_wp _ _ _ _ _ _ _ _ _ _ _ _); conv => whnf)
    | refine And.intro ⟨rfl, rfl⟩ ?_
    | refine And.intro (ix _ (by decide) (by decide)) ?_
    | refine And.intro trivial ?_
    | (refine s_run hwC hI.1.1.2.1 (by omega) (fun a1 a2 μ1 f1 h1 p34 e29 e62 r1 w1 o1 => ?_) (fun r1 μ1 a0 f1 => ?_))
    | (have m1 : mv μ1 = mv μ := mv_keep (fun a b q => f1 a b (by omega) (by omega) (by omega) (by omega) (by omega) (by omega) (by omega)); have t14 : μ1 83 14 = μ 83 14 := f1 83 14 (by omega) (by omega) (by omega) (by omega) (by omega) (by omega) (by omega); have t11 : μ1 83 11 = μ 83 11 := f1 83 11 (by omega) (by omega) (by omega) (by omega) (by omega) (by omega) (by omega); have t33 : μ1 83 33 = μ 83 33 := f1 83 33 (by omega) (by omega) (by omega) (by omega) (by omega) (by omega) (by omega); refine n_run (by rw [m1]; exact hwM) (fun p hp => by rw [f1 100 p (by omega) (by omega) (by omega) (by omega) (by omega) (by omega) (by omega)]; exact mi_or hI.1.2.1 p hp) (by rw [t33]; omega) (fun b1 b2 μ2 f2 h2 p100 e33 r2 w2 o2 q2 => ?_) (fun r2 μ2 b0 f2 => ?_))
    | (have m1 : mv μ1 = mv μ := mv_keep (fun a b q => f1 a b (by omega)); have t14 : μ1 83 14 = μ 83 14 := f1 83 14 (by omega); have t11 : μ1 83 11 = μ 83 11 := f1 83 11 (by omega); have t33 : μ1 83 33 = μ 83 33 := f1 83 33 (by omega); refine n_run (by rw [m1]; exact hwM) (fun p hp => by rw [f1 100 p (by omega)]; exact mi_or hI.1.2.1 p hp) (by rw [t33]; omega) (fun b1 b2 μ2 f2 h2 p100 e33 r2 w2 o2 q2 => ?_) (fun r2 μ2 b0 f2 => ?_))
    | (refine hH _ ?_; first | exact LJ_fr hI (LI_run hI.1 a2 f1 h1 p34 e29 e62 r1 w1 o1 f2 h2 p100 e33 r2 w2 o2 q2) (fun a b q => (f2 a b (by unfold rq_K at q; omega) (by unfold rq_K at q; omega) (by unfold rq_K at q; omega) (by unfold rq_K at q; omega) (by unfold rq_K at q; omega) (by unfold rq_K at q; omega) (by unfold rq_K at q; omega) (by unfold rq_K at q; omega) (by unfold rq_K at q; omega)).trans (f1 a b (by unfold rq_K at q; omega) (by unfold rq_K at q; omega) (by unfold rq_K at q; omega) (by unfold rq_K at q; omega) (by unfold rq_K at q; omega) (by unfold rq_K at q; omega) (by unfold rq_K at q; omega))) | exact LJ_fr hI (LI_ref hI.1 f1 f2) (fun a b q => (f2 a b (by unfold rq_K at q; omega)).trans (f1 a b (by unfold rq_K at q; omega))) | (exfalso; have nW : μ 1 1 = μ 83 11 := (fp_ct_n hR.1.1).1 1 (by decide); rw [t14, t11] at *; omega))
  all_goals (first | exact LJ_fr hI (LI_run hI.1 a2 f1 h1 p34 e29 e62 r1 w1 o1 f2 h2 p100 e33 r2 w2 o2 q2) (fun a b q => (f2 a b (by unfold rq_K at q; omega) (by unfold rq_K at q; omega) (by unfold rq_K at q; omega) (by unfold rq_K at q; omega) (by unfold rq_K at q; omega) (by unfold rq_K at q; omega) (by unfold rq_K at q; omega) (by unfold rq_K at q; omega) (by unfold rq_K at q; omega)).trans (f1 a b (by unfold rq_K at q; omega) (by unfold rq_K at q; omega) (by unfold rq_K at q; omega) (by unfold rq_K at q; omega) (by unfold rq_K at q; omega) (by unfold rq_K at q; omega) (by unfold rq_K at q; omega))) | exact LJ_fr hI (LI_ref hI.1 f1 f2) (fun a b q => (f2 a b (by unfold rq_K at q; omega)).trans (f1 a b (by unfold rq_K at q; omega))) | (exfalso; have nW : μ 1 1 = μ 83 11 := (fp_ct_n hR.1.1).1 1 (by decide); rw [t14, t11] at *; omega) | (trace_state; fail))
theorem lx_c7 {l : Launch} {L : Nat} {xs : Nat → Int} {i : Int} (hX : lx_X xs) (hL : L ≤ 2560) (i0 : 0 ≤ i) (i1 : i ≤ (L : Int) - 5) (hH : lx_H l L xs i) (μ : am_N) (hI : lx_J μ) : am_AW l L xs 0 lx_Q 447 [some (.inr (.inr 999)), some (.inr (.inr 0)), some (.inr (.inr 83)), some (.inl i)] [] μ := by
  have iL : (L : Int) ≤ 2560 := by omega
  have ix : ∀ k : Int, 0 ≤ k → k ≤ 4 → 0 ≤ am_c (i + k) ∧ am_c (i + k) < L := fun k h0 h1 => by rw [am_cR (by omega) (by omega)]; omega
  refine am_go (ct := fun pc => Nat.beq pc 1662) am_oL_law 60 ?_
  conv => whnf
  repeat' first
    | (refine (?_ : am_wp _ _ _ _ _ _ _ _ _ _ _ _); conv => whnf)
    | refine And.intro ⟨rfl, rfl⟩ ?_
    | refine And.intro (ix _ (by decide) (by decide)) ?_
    | refine And.intro trivial ?_
    | refine w_order_X6 (ν := μ)  hI.1.1  (fun r1 μ1 h0 => ?_)
  have h1 := gv_of_sx h0
  have hE : lx_E [] := lx_c rfl
  have hm1 := lx_mi hE h1 hI.1.2.1
  repeat' first
    | (refine (?_ : am_wp _ _ _ _ _ _ _ _ _ _ _ _); conv => whnf)
    | refine And.intro ⟨rfl, rfl⟩ ?_
    | refine And.intro (ix _ (by decide) (by decide)) ?_
    | refine And.intro trivial ?_
    | refine m_order  hm1  (fun r2 μ2 h2 => ?_)
  have hA : lx_A ms := lx_A0
  have hI2 : lx_J μ2 := LJ_weak hI h1 h2 hA fp_Acs fp_Ads
  repeat' first
    | (refine (?_ : am_wp _ _ _ _ _ _ _ _ _ _ _ _); conv => whnf)
    | refine And.intro trivial ?_
    | exact hH _ hI2
theorem lx_c8 {l : Launch} {L : Nat} {xs : Nat → Int} {i : Int} (hX : lx_X xs) (hL : L ≤ 2560) (i0 : 0 ≤ i) (i1 : i ≤ (L : Int) - 5) (hH : lx_H l L xs i) (μ : am_N) (hI : lx_J μ) : am_AW l L xs 0 lx_Q 460 [some (.inr (.inr 999)), some (.inr (.inr 0)), some (.inr (.inr 83)), some (.inl i)] [] μ := by
  have iL : (L : Int) ≤ 2560 := by omega
  have ix : ∀ k : Int, 0 ≤ k → k ≤ 4 → 0 ≤ am_c (i + k) ∧ am_c (i + k) < L := fun k h0 h1 => by rw [am_cR (by omega) (by omega)]; omega
  refine am_go (ct := fun pc => Nat.beq pc 1662) am_oL_law 60 ?_
  conv => whnf
  repeat' first
    | (refine (?_ : am_wp _ _ _ _ _ _ _ _ _ _ _ _); conv => whnf)
    | refine And.intro ⟨rfl, rfl⟩ ?_
    | refine And.intro (ix _ (by decide) (by decide)) ?_
    | refine And.intro trivial ?_
    | refine w_likely_X6 (ν := μ) _ _ hI.1.1 (hX _).1 (hX _).2 (hX _).1 (hX _).2 (fun r1 μ1 h0 => ?_)
  have h1 := gv_of_sx h0
  have hE : lx_E [] := lx_c rfl
  have hm1 := lx_mi hE h1 hI.1.2.1
  repeat' first
    | (refine (?_ : am_wp _ _ _ _ _ _ _ _ _ _ _ _); conv => whnf)
    | refine And.intro ⟨rfl, rfl⟩ ?_
    | refine And.intro (ix _ (by decide) (by decide)) ?_
    | refine And.intro trivial ?_
    | refine m_likely _ _ hm1 (hX _).1 (hX _).2 (hX _).1 (hX _).2 (fun r2 μ2 h2 => ?_)
  have hA : lx_A ms := lx_A0
  have hI2 : lx_J μ2 := LJ_weak hI h1 h2 hA fp_Acs fp_Ads
  repeat' first
    | (refine (?_ : am_wp _ _ _ _ _ _ _ _ _ _ _ _); conv => whnf)
    | refine And.intro trivial ?_
    | exact hH _ hI2
theorem lx_c9 {l : Launch} {L : Nat} {xs : Nat → Int} {i : Int} (hX : lx_X xs) (hL : L ≤ 2560) (i0 : 0 ≤ i) (i1 : i ≤ (L : Int) - 5) (hH : lx_H l L xs i) (μ : am_N) (hI : lx_J μ) : am_AW l L xs 0 lx_Q 493 [some (.inr (.inr 999)), some (.inr (.inr 0)), some (.inr (.inr 83)), some (.inl i)] [] μ := by
  have iL : (L : Int) ≤ 2560 := by omega
  have ix : ∀ k : Int, 0 ≤ k → k ≤ 4 → 0 ≤ am_c (i + k) ∧ am_c (i + k) < L := fun k h0 h1 => by rw [am_cR (by omega) (by omega)]; omega
  refine am_go (ct := fun pc => Nat.beq pc 1662) am_oL_law 60 ?_
  conv => whnf
  repeat' first
    | (refine (?_ : am_wp _ _ _ _ _ _ _ _ _ _ _ _); conv => whnf)
    | refine And.intro ⟨rfl, rfl⟩ ?_
    | refine And.intro (ix _ (by decide) (by decide)) ?_
    | refine And.intro trivial ?_
    | refine w_ordered_X6 (ν := μ) _ _ hI.1.1 (hX _).1 (hX _).2 (hX _).1 (hX _).2 (fun r1 μ1 h0 => ?_)
  have h1 := gv_of_sx h0
  have hE : lx_E [] := lx_c rfl
  have hm1 := lx_mi hE h1 hI.1.2.1
  repeat' first
    | (refine (?_ : am_wp _ _ _ _ _ _ _ _ _ _ _ _); conv => whnf)
    | refine And.intro ⟨rfl, rfl⟩ ?_
    | refine And.intro (ix _ (by decide) (by decide)) ?_
    | refine And.intro trivial ?_
    | refine m_ordered _ _ hm1 (hX _).1 (hX _).2 (hX _).1 (hX _).2 (fun r2 μ2 h2 => ?_)
  have hA : lx_A ms := lx_A0
  have hI2 : lx_J μ2 := LJ_weak hI h1 h2 hA fp_Acs fp_Ads
  repeat' first
    | (refine (?_ : am_wp _ _ _ _ _ _ _ _ _ _ _ _); conv => whnf)
    | refine And.intro trivial ?_
    | exact hH _ hI2
theorem lx_c10 {l : Launch} {L : Nat} {xs : Nat → Int} {i : Int} (hX : lx_X xs) (hL : L ≤ 2560) (i0 : 0 ≤ i) (i1 : i ≤ (L : Int) - 5) (hH : lx_H l L xs i) (μ : am_N) (hI : lx_J μ) : am_AW l L xs 0 lx_Q 526 [some (.inr (.inr 999)), some (.inr (.inr 0)), some (.inr (.inr 83)), some (.inl i)] [] μ := by
  have iL : (L : Int) ≤ 2560 := by omega
  have ix : ∀ k : Int, 0 ≤ k → k ≤ 4 → 0 ≤ am_c (i + k) ∧ am_c (i + k) < L := fun k h0 h1 => by rw [am_cR (by omega) (by omega)]; omega
  refine am_go (ct := fun pc => Nat.beq pc 1662) am_oL_law 60 ?_
  conv => whnf
  repeat' first
    | (refine (?_ : am_wp _ _ _ _ _ _ _ _ _ _ _ _); conv => whnf)
    | refine And.intro ⟨rfl, rfl⟩ ?_
    | refine And.intro (ix _ (by decide) (by decide)) ?_
    | refine And.intro trivial ?_
    | refine w_close_X6 (ν := μ) _ _ hI.1.1 (hX _).1 (hX _).2 (hX _).1 (hX _).2 (fun r1 μ1 h0 => ?_)
  have h1 := gv_of_sx h0
  have hE : lx_E [] := lx_c rfl
  have hm1 := lx_mi hE h1 hI.1.2.1
  repeat' first
    | (refine (?_ : am_wp _ _ _ _ _ _ _ _ _ _ _ _); conv => whnf)
    | refine And.intro ⟨rfl, rfl⟩ ?_
    | refine And.intro (ix _ (by decide) (by decide)) ?_
    | refine And.intro trivial ?_
    | refine m_close _ _ hm1 (hX _).1 (hX _).2 (hX _).1 (hX _).2 (fun r2 μ2 h2 => ?_)
  have hA : lx_A ms := lx_A0
  have hI2 : lx_J μ2 := LJ_weak hI h1 h2 hA fp_Acs fp_Ads
  repeat' first
    | (refine (?_ : am_wp _ _ _ _ _ _ _ _ _ _ _ _); conv => whnf)
    | refine And.intro trivial ?_
    | exact hH _ hI2
theorem lx_c11 {l : Launch} {L : Nat} {xs : Nat → Int} {i : Int} (hX : lx_X xs) (hL : L ≤ 2560) (i0 : 0 ≤ i) (i1 : i ≤ (L : Int) - 5) (hH : lx_H l L xs i) (μ : am_N) (hI : lx_J μ) : am_AW l L xs 0 lx_Q 559 [some (.inr (.inr 999)), some (.inr (.inr 0)), some (.inr (.inr 83)), some (.inl i)] [] μ := by
  have iL : (L : Int) ≤ 2560 := by omega
  have ix : ∀ k : Int, 0 ≤ k → k ≤ 4 → 0 ≤ am_c (i + k) ∧ am_c (i + k) < L := fun k h0 h1 => by rw [am_cR (by omega) (by omega)]; omega
  refine am_go (ct := fun pc => Nat.beq pc 1662) am_oL_law 60 ?_
  conv => whnf
  repeat' first
    | (refine (?_ : am_wp _ _ _ _ _ _ _ _ _ _ _ _); conv => whnf)
    | refine And.intro ⟨rfl, rfl⟩ ?_
    | refine And.intro (ix _ (by decide) (by decide)) ?_
    | refine And.intro trivial ?_
    | refine w_sure_X6 (ν := μ) _ hI.1.1 (hX _).1 (hX _).2 (fun r1 μ1 h0 => ?_)
  have h1 := gv_of_sx h0
  have hE : lx_E [] := lx_c rfl
  have hm1 := lx_mi hE h1 hI.1.2.1
  repeat' first
    | (refine (?_ : am_wp _ _ _ _ _ _ _ _ _ _ _ _); conv => whnf)
    | refine And.intro ⟨rfl, rfl⟩ ?_
    | refine And.intro (ix _ (by decide) (by decide)) ?_
    | refine And.intro trivial ?_
    | refine m_sure _ hm1 (hX _).1 (hX _).2 (fun r2 μ2 h2 => ?_)
  have hA : lx_A ms := lx_A0
  have hI2 : lx_J μ2 := LJ_weak hI h1 h2 hA fp_Acs fp_Ads
  repeat' first
    | (refine (?_ : am_wp _ _ _ _ _ _ _ _ _ _ _ _); conv => whnf)
    | refine And.intro trivial ?_
    | exact hH _ hI2
theorem lx_c12 {l : Launch} {L : Nat} {xs : Nat → Int} {i : Int} (hX : lx_X xs) (hL : L ≤ 2560) (i0 : 0 ≤ i) (i1 : i ≤ (L : Int) - 5) (hH : lx_H l L xs i) (μ : am_N) (hI : lx_J μ) : am_AW l L xs 0 lx_Q 582 [some (.inr (.inr 999)), some (.inr (.inr 0)), some (.inr (.inr 83)), some (.inl i)] [] μ := by
  have iL : (L : Int) ≤ 2560 := by omega
  have ix : ∀ k : Int, 0 ≤ k → k ≤ 4 → 0 ≤ am_c (i + k) ∧ am_c (i + k) < L := fun k h0 h1 => by rw [am_cR (by omega) (by omega)]; omega
  refine am_go (ct := fun pc => Nat.beq pc 1662) am_oL_law 60 ?_
  conv => whnf
  repeat' first
    | (refine (?_ : am_wp _ _ _ _ _ _ _ _ _ _ _ _); conv => whnf)
    | refine And.intro ⟨rfl, rfl⟩ ?_
    | refine And.intro (ix _ (by decide) (by decide)) ?_
    | refine And.intro trivial ?_
    | refine w_even_X6 (ν := μ) _ _ hI.1.1 (hX _).1 (hX _).2 (hX _).1 (hX _).2 (fun r1 μ1 h0 => ?_)
  have h1 := gv_of_sx h0
  have hE : lx_E [] := lx_c rfl
  have hm1 := lx_mi hE h1 hI.1.2.1
  repeat' first
    | (refine (?_ : am_wp _ _ _ _ _ _ _ _ _ _ _ _); conv => whnf)
    | refine And.intro ⟨rfl, rfl⟩ ?_
    | refine And.intro (ix _ (by decide) (by decide)) ?_
    | refine And.intro trivial ?_
    | refine m_even _ _ hm1 (hX _).1 (hX _).2 (hX _).1 (hX _).2 (fun r2 μ2 h2 => ?_)
  have hA : lx_A ms := lx_A0
  have hI2 : lx_J μ2 := LJ_weak hI h1 h2 hA fp_Acs fp_Ads
  repeat' first
    | (refine (?_ : am_wp _ _ _ _ _ _ _ _ _ _ _ _); conv => whnf)
    | refine And.intro trivial ?_
    | exact hH _ hI2
