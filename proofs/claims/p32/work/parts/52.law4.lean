/-! the law: cases -/
theorem lx_c39 {l : Launch} {L : Nat} {xs : Nat → Int} {i : Int} (hX : lx_X xs) (hL : L ≤ 2560) (i0 : 0 ≤ i) (i1 : i ≤ (L : Int) - 5) (hH : lx_H l L xs i) (μ : am_N) (hI : lx_J μ) : am_AW l L xs 0 lx_Q 1323 [some (.inr (.inr 999)), some (.inr (.inr 0)), some (.inr (.inr 83)), some (.inl i)] [] μ := by
  have iL : (L : Int) ≤ 2560 := by omega
  have ix : ∀ k : Int, 0 ≤ k → k ≤ 4 → 0 ≤ am_c (i + k) ∧ am_c (i + k) < L := fun k h0 h1 => by rw [am_cR (by omega) (by omega)]; omega
  refine am_go (ct := fun pc => Nat.beq pc 1662) am_oL_law 60 ?_
  conv => whnf
  repeat' first
    | (refine (?_ : am_wp _ _ _ _ _ _ _ _ _ _ _ _); conv => whnf)
    | refine And.intro ⟨rfl, rfl⟩ ?_
    | refine And.intro (ix _ (by decide) (by decide)) ?_
    | refine And.intro trivial ?_
    | refine w_legs_X6 (ν := μ) _ _ _ _ hI.1.1 (hX _).1 (hX _).2 (hX _).1 (hX _).2 (hX _).1 (hX _).2 (hX _).1 (hX _).2 (fun r1 μ1 h0 => ?_)
  have h1 := gv_of_sx h0
  have hE : lx_E [] := lx_c rfl
  have hm1 := lx_mi hE h1 hI.1.2.1
  repeat' first
    | (refine (?_ : am_wp _ _ _ _ _ _ _ _ _ _ _ _); conv => whnf)
    | refine And.intro ⟨rfl, rfl⟩ ?_
    | refine And.intro (ix _ (by decide) (by decide)) ?_
    | refine And.intro trivial ?_
    | refine m_legs _ _ _ _ hm1 (hX _).1 (hX _).2 (hX _).1 (hX _).2 (hX _).1 (hX _).2 (hX _).1 (hX _).2 (fun r2 μ2 h2 => ?_)
  have hA : lx_A ms := lx_A0
  have hI2 : lx_J μ2 := LJ_weak hI h1 h2 hA fp_Acs fp_Ads
  repeat' first
    | (refine (?_ : am_wp _ _ _ _ _ _ _ _ _ _ _ _); conv => whnf)
    | refine And.intro trivial ?_
    | exact hH _ hI2
theorem lx_c40 {l : Launch} {L : Nat} {xs : Nat → Int} {i : Int} (hX : lx_X xs) (hL : L ≤ 2560) (i0 : 0 ≤ i) (i1 : i ≤ (L : Int) - 5) (hH : lx_H l L xs i) (μ : am_N) (hI : lx_J μ) : am_AW l L xs 0 lx_Q 1376 [some (.inr (.inr 999)), some (.inr (.inr 0)), some (.inr (.inr 83)), some (.inl i)] [] μ := by
  have iL : (L : Int) ≤ 2560 := by omega
  have ix : ∀ k : Int, 0 ≤ k → k ≤ 4 → 0 ≤ am_c (i + k) ∧ am_c (i + k) < L := fun k h0 h1 => by rw [am_cR (by omega) (by omega)]; omega
  refine am_go (ct := fun pc => Nat.beq pc 1662) am_oL_law 60 ?_
  conv => whnf
  repeat' first
    | (refine (?_ : am_wp _ _ _ _ _ _ _ _ _ _ _ _); conv => whnf)
    | refine And.intro ⟨rfl, rfl⟩ ?_
    | refine And.intro (ix _ (by decide) (by decide)) ?_
    | refine And.intro trivial ?_
    | refine w_bet_X6 (ν := μ)  hI.1.1  (fun r1 μ1 h0 => ?_)
  have h1 := gv_of_sx h0
  have hE : lx_E [] := lx_c rfl
  have hm1 := lx_mi hE h1 hI.1.2.1
  repeat' first
    | (refine (?_ : am_wp _ _ _ _ _ _ _ _ _ _ _ _); conv => whnf)
    | refine And.intro ⟨rfl, rfl⟩ ?_
    | refine And.intro (ix _ (by decide) (by decide)) ?_
    | refine And.intro trivial ?_
    | refine m_bet  hm1  (fun r2 μ2 h2 => ?_)
  have hA : lx_A ms := lx_A0
  have hI2 : lx_J μ2 := LJ_weak hI h1 h2 hA fp_Acs fp_Ads
  repeat' first
    | (refine (?_ : am_wp _ _ _ _ _ _ _ _ _ _ _ _); conv => whnf)
    | refine And.intro trivial ?_
    | exact hH _ hI2
theorem lx_c41 {l : Launch} {L : Nat} {xs : Nat → Int} {i : Int} (hX : lx_X xs) (hL : L ≤ 2560) (i0 : 0 ≤ i) (i1 : i ≤ (L : Int) - 5) (hH : lx_H l L xs i) (μ : am_N) (hI : lx_J μ) : am_AW l L xs 0 lx_Q 1389 [some (.inr (.inr 999)), some (.inr (.inr 0)), some (.inr (.inr 83)), some (.inl i)] [] μ := by
  have iL : (L : Int) ≤ 2560 := by omega
  have ix : ∀ k : Int, 0 ≤ k → k ≤ 4 → 0 ≤ am_c (i + k) ∧ am_c (i + k) < L := fun k h0 h1 => by rw [am_cR (by omega) (by omega)]; omega
  refine am_go (ct := fun pc => Nat.beq pc 1662) am_oL_law 60 ?_
  conv => whnf
  repeat' first
    | (refine (?_ : am_wp _ _ _ _ _ _ _ _ _ _ _ _); conv => whnf)
    | refine And.intro ⟨rfl, rfl⟩ ?_
    | refine And.intro (ix _ (by decide) (by decide)) ?_
    | refine And.intro trivial ?_
    | refine w_bets_X6 (ν := μ) _ hI.1.1 (hX _).1 (hX _).2 (fun r1 μ1 h0 => ?_)
  have h1 := gv_of_sx h0
  have hE : lx_E [] := lx_c rfl
  have hm1 := lx_mi hE h1 hI.1.2.1
  repeat' first
    | (refine (?_ : am_wp _ _ _ _ _ _ _ _ _ _ _ _); conv => whnf)
    | refine And.intro ⟨rfl, rfl⟩ ?_
    | refine And.intro (ix _ (by decide) (by decide)) ?_
    | refine And.intro trivial ?_
    | refine m_bets _ hm1 (hX _).1 (hX _).2 (fun r2 μ2 h2 => ?_)
  have hA : lx_A ms := lx_A0
  have hI2 : lx_J μ2 := LJ_weak hI h1 h2 hA fp_Acs fp_Ads
  repeat' first
    | (refine (?_ : am_wp _ _ _ _ _ _ _ _ _ _ _ _); conv => whnf)
    | refine And.intro trivial ?_
    | exact hH _ hI2
theorem lx_c42 {l : Launch} {L : Nat} {xs : Nat → Int} {i : Int} (hX : lx_X xs) (hL : L ≤ 2560) (i0 : 0 ≤ i) (i1 : i ≤ (L : Int) - 5) (hH : lx_H l L xs i) (μ : am_N) (hI : lx_J μ) : am_AW l L xs 0 lx_Q 1412 [some (.inr (.inr 999)), some (.inr (.inr 0)), some (.inr (.inr 83)), some (.inl i)] [] μ := by
  have iL : (L : Int) ≤ 2560 := by omega
  have ix : ∀ k : Int, 0 ≤ k → k ≤ 4 → 0 ≤ am_c (i + k) ∧ am_c (i + k) < L := fun k h0 h1 => by rw [am_cR (by omega) (by omega)]; omega
  have cx : ∀ j, am_c (xs j) = xs j := fun j => am_cR (by have := (hX j).1; omega) (by have := (hX j).2; omega)
  have hb := sx_all hI.1.1
  have hc := mi_all hI.1.2.1
  have hR := hI.1.2.2
  have hwM := hR.1.2
  have hwC : fp_fw 999 (fv μ 1) := by rw [hR.1.1]; exact hwM
  have n14 : 0 ≤ μ 1 4 ∧ μ 1 4 ≤ 4 := by omega
  have nM : μ 1 4 = μ 83 14 := (fp_ct_n hR.1.1).1 4 (by decide)
  refine am_go (ct := fun pc => Nat.beq pc 1662) am_oL_law 60 ?_
  conv => whnf
  repeat' first
    | (refine (?_ : am_wp _ _ _ _ _ _ _ _ _ _ _ _); conv => whnf)
    | refine And.intro ⟨rfl, rfl⟩ ?_
    | refine And.intro (ix _ (by decide) (by decide)) ?_
    | refine And.intro trivial ?_
    | refine s_habit _ _ (cx _) (cx _) hI.1.1 (hI.2.2.2.2.2.1.1.trans hI.2.2.2.2.1.1.symm) (fun a1 a2 a3 μ1 f1 e1 e1x x1 x1x => ?_) (fun r1 μ1 a0 f1 => ?_)
    | (have tj : μ1 83 16 = μ 83 16 := f1 83 16 (by omega) (by omega) (by omega) (by omega); refine n_habit _ _ (cx _) (cx _) (by rw [tj]; omega) (by rw [tj]; omega) (fun b1 b2 b3 μ2 f2 e2 x2 x2x => ?_) (fun r2 μ2 b0 f2 => ?_))
    | (have tj : μ1 83 16 = μ 83 16 := f1 83 16 (by omega); refine n_habit _ _ (cx _) (cx _) (by rw [tj]; omega) (by rw [tj]; omega) (fun b1 b2 b3 μ2 f2 e2 x2 x2x => ?_) (fun r2 μ2 b0 f2 => ?_))
    | (refine hH _ ?_; first | exact LJ_habit1 hI a1 a2 a3 f1 e1 e1x x1 x1x f2 e2 x2 x2x | exact LJ_fr hI (LI_ref hI.1 f1 f2) (fun a b q => (f2 a b (by unfold rq_K at q; omega)).trans (f1 a b (by unfold rq_K at q; omega))) | (exfalso; have h := hI.2.2.2.2.1.1; rw [tj] at *; omega))
  all_goals (first | exact LJ_habit1 hI a1 a2 a3 f1 e1 e1x x1 x1x f2 e2 x2 x2x | exact LJ_fr hI (LI_ref hI.1 f1 f2) (fun a b q => (f2 a b (by unfold rq_K at q; omega)).trans (f1 a b (by unfold rq_K at q; omega))) | (exfalso; have h := hI.2.2.2.2.1.1; rw [tj] at *; omega) | (trace_state; fail))
theorem lx_c43 {l : Launch} {L : Nat} {xs : Nat → Int} {i : Int} (hX : lx_X xs) (hL : L ≤ 2560) (i0 : 0 ≤ i) (i1 : i ≤ (L : Int) - 5) (hH : lx_H l L xs i) (μ : am_N) (hI : lx_J μ) : am_AW l L xs 0 lx_Q 1445 [some (.inr (.inr 999)), some (.inr (.inr 0)), some (.inr (.inr 83)), some (.inl i)] [] μ := by
  have iL : (L : Int) ≤ 2560 := by omega
  have ix : ∀ k : Int, 0 ≤ k → k ≤ 4 → 0 ≤ am_c (i + k) ∧ am_c (i + k) < L := fun k h0 h1 => by rw [am_cR (by omega) (by omega)]; omega
  have cx : ∀ j, am_c (xs j) = xs j := fun j => am_cR (by have := (hX j).1; omega) (by have := (hX j).2; omega)
  have hb := sx_all hI.1.1
  have hc := mi_all hI.1.2.1
  have hR := hI.1.2.2
  have hwM := hR.1.2
  have hwC : fp_fw 999 (fv μ 1) := by rw [hR.1.1]; exact hwM
  have n14 : 0 ≤ μ 1 4 ∧ μ 1 4 ≤ 4 := by omega
  have nM : μ 1 4 = μ 83 14 := (fp_ct_n hR.1.1).1 4 (by decide)
  refine am_go (ct := fun pc => Nat.beq pc 1662) am_oL_law 60 ?_
  conv => whnf
  repeat' first
    | (refine (?_ : am_wp _ _ _ _ _ _ _ _ _ _ _ _); conv => whnf)
    | refine And.intro ⟨rfl, rfl⟩ ?_
    | refine And.intro (ix _ (by decide) (by decide)) ?_
    | refine And.intro trivial ?_
    | refine s_forget (fun μ1 f1 e1 e1x => ?_)
    | refine n_forget (fun μ2 f2 e2 => ?_)
    | (refine hH _ ?_; first | exact LJ_habit0 hI f1 e1 e1x f2 e2)
  all_goals (first | exact LJ_habit0 hI f1 e1 e1x f2 e2 | (trace_state; fail))
theorem lx_c44 {l : Launch} {L : Nat} {xs : Nat → Int} {i : Int} (hX : lx_X xs) (hL : L ≤ 2560) (i0 : 0 ≤ i) (i1 : i ≤ (L : Int) - 5) (hH : lx_H l L xs i) (μ : am_N) (hI : lx_J μ) : am_AW l L xs 0 lx_Q 1458 [some (.inr (.inr 999)), some (.inr (.inr 0)), some (.inr (.inr 83)), some (.inl i)] [] μ := by
  have iL : (L : Int) ≤ 2560 := by omega
  have ix : ∀ k : Int, 0 ≤ k → k ≤ 4 → 0 ≤ am_c (i + k) ∧ am_c (i + k) < L := fun k h0 h1 => by rw [am_cR (by omega) (by omega)]; omega
  refine am_go (ct := fun pc => Nat.beq pc 1662) am_oL_law 60 ?_
  conv => whnf
  repeat' first
    | (refine (?_ : am_wp _ _ _ _ _ _ _ _ _ _ _ _); conv => whnf)
    | refine And.intro ⟨rfl, rfl⟩ ?_
    | refine And.intro (ix _ (by decide) (by decide)) ?_
    | refine And.intro trivial ?_
    | refine w_tried_X6 (ν := μ) _ _ hI.1.1 (hX _).1 (hX _).2 (hX _).1 (hX _).2 (fun r1 μ1 h0 => ?_)
  have h1 := gv_of_sx h0
  have hE : lx_E [] := lx_c rfl
  have hm1 := lx_mi hE h1 hI.1.2.1
  repeat' first
    | (refine (?_ : am_wp _ _ _ _ _ _ _ _ _ _ _ _); conv => whnf)
    | refine And.intro ⟨rfl, rfl⟩ ?_
    | refine And.intro (ix _ (by decide) (by decide)) ?_
    | refine And.intro trivial ?_
    | refine m_tried _ _ hm1 (hX _).1 (hX _).2 (hX _).1 (hX _).2 (fun r2 μ2 h2 => ?_)
  have hA : lx_A mQ := (lx_Ao lx_A0 lx_Q1)
  have hI2 : lx_J μ2 := LJ_weak hI h1 h2 hA fp_AcQ fp_AdQ
  repeat' first
    | (refine (?_ : am_wp _ _ _ _ _ _ _ _ _ _ _ _); conv => whnf)
    | refine And.intro trivial ?_
    | exact hH _ hI2
theorem lx_c45 {l : Launch} {L : Nat} {xs : Nat → Int} {i : Int} (hX : lx_X xs) (hL : L ≤ 2560) (i0 : 0 ≤ i) (i1 : i ≤ (L : Int) - 5) (hH : lx_H l L xs i) (μ : am_N) (hI : lx_J μ) : am_AW l L xs 0 lx_Q 1491 [some (.inr (.inr 999)), some (.inr (.inr 0)), some (.inr (.inr 83)), some (.inl i)] [] μ := by
  have iL : (L : Int) ≤ 2560 := by omega
  have ix : ∀ k : Int, 0 ≤ k → k ≤ 4 → 0 ≤ am_c (i + k) ∧ am_c (i + k) < L := fun k h0 h1 => by rw [am_cR (by omega) (by omega)]; omega
  refine am_go (ct := fun pc => Nat.beq pc 1662) am_oL_law 60 ?_
  conv => whnf
  repeat' first
    | (refine (?_ : am_wp _ _ _ _ _ _ _ _ _ _ _ _); conv => whnf)
    | refine And.intro ⟨rfl, rfl⟩ ?_
    | refine And.intro (ix _ (by decide) (by decide)) ?_
    | refine And.intro trivial ?_
    | refine w_had_X6 (ν := μ) _ _ _ _ hI.1.1 (hX _).1 (hX _).2 (hX _).1 (hX _).2 (hX _).1 (hX _).2 (hX _).1 (hX _).2 (fun r1 μ1 h0 => ?_)
  have h1 := gv_of_sx h0
  have hE : lx_E [] := lx_c rfl
  have hm1 := lx_mi hE h1 hI.1.2.1
  repeat' first
    | (refine (?_ : am_wp _ _ _ _ _ _ _ _ _ _ _ _); conv => whnf)
    | refine And.intro ⟨rfl, rfl⟩ ?_
    | refine And.intro (ix _ (by decide) (by decide)) ?_
    | refine And.intro trivial ?_
    | refine m_had _ _ _ _ hm1 (hX _).1 (hX _).2 (hX _).1 (hX _).2 (hX _).1 (hX _).2 (hX _).1 (hX _).2 (fun r2 μ2 h2 => ?_)
  have hA : lx_A mQ := (lx_Ao lx_A0 lx_Q1)
  have hI2 : lx_J μ2 := LJ_weak hI h1 h2 hA fp_AcQ fp_AdQ
  repeat' first
    | (refine (?_ : am_wp _ _ _ _ _ _ _ _ _ _ _ _); conv => whnf)
    | refine And.intro trivial ?_
    | exact hH _ hI2
theorem lx_c46 {l : Launch} {L : Nat} {xs : Nat → Int} {i : Int} (hX : lx_X xs) (hL : L ≤ 2560) (i0 : 0 ≤ i) (i1 : i ≤ (L : Int) - 5) (hH : lx_H l L xs i) (μ : am_N) (hI : lx_J μ) : am_AW l L xs 0 lx_Q 1544 [some (.inr (.inr 999)), some (.inr (.inr 0)), some (.inr (.inr 83)), some (.inl i)] [] μ := by
  have iL : (L : Int) ≤ 2560 := by omega
  have ix : ∀ k : Int, 0 ≤ k → k ≤ 4 → 0 ≤ am_c (i + k) ∧ am_c (i + k) < L := fun k h0 h1 => by rw [am_cR (by omega) (by omega)]; omega
  have cx : ∀ j, am_c (xs j) = xs j := fun j => am_cR (by have := (hX j).1; omega) (by have := (hX j).2; omega)
  have hb := sx_all hI.1.1
  have hc := mi_all hI.1.2.1
  have hR := hI.1.2.2
  have hwM := hR.1.2
  have hwC : fp_fw 999 (fv μ 1) := by rw [hR.1.1]; exact hwM
  have n14 : 0 ≤ μ 1 4 ∧ μ 1 4 ≤ 4 := by omega
  have nM : μ 1 4 = μ 83 14 := (fp_ct_n hR.1.1).1 4 (by decide)
  refine am_go (ct := fun pc => Nat.beq pc 1662) am_oL_law 60 ?_
  conv => whnf
  repeat' first
    | (refine (?_ : am_wp _ _ _ _ _ _ _ _ _ _ _ _); conv => whnf)
    | refine And.intro ⟨rfl, rfl⟩ ?_
    | refine And.intro (ix _ (by decide) (by decide)) ?_
    | refine And.intro trivial ?_
    | refine s_time _ (cx _) hI.1.1 (fun a1 a2 μ1 f1 e1 x1 => ?_) (fun r1 μ1 a0 f1 => ?_)
    | (have tj : μ1 83 40 = μ 83 40 := f1 83 40 (by omega) (by omega); refine n_time _ (cx _) (by rw [tj]; omega) (by rw [tj]; omega) (fun b1 b2 μ2 f2 e2 x2 => ?_) (fun r2 μ2 b0 f2 => ?_))
    | (have tj : μ1 83 40 = μ 83 40 := f1 83 40 (by omega); refine n_time _ (cx _) (by rw [tj]; omega) (by rw [tj]; omega) (fun b1 b2 μ2 f2 e2 x2 => ?_) (fun r2 μ2 b0 f2 => ?_))
    | (refine hH _ ?_; first | exact LJ_time1 hI a1 a2 f1 e1 x1 f2 e2 x2 | exact LJ_fr hI (LI_ref hI.1 f1 f2) (fun a b q => (f2 a b (by unfold rq_K at q; omega)).trans (f1 a b (by unfold rq_K at q; omega))) | (exfalso; have h := hI.2.2.1.1; rw [tj] at *; omega))
  all_goals (first | exact LJ_time1 hI a1 a2 f1 e1 x1 f2 e2 x2 | exact LJ_fr hI (LI_ref hI.1 f1 f2) (fun a b q => (f2 a b (by unfold rq_K at q; omega)).trans (f1 a b (by unfold rq_K at q; omega))) | (exfalso; have h := hI.2.2.1.1; rw [tj] at *; omega) | (trace_state; fail))
theorem lx_c47 {l : Launch} {L : Nat} {xs : Nat → Int} {i : Int} (hX : lx_X xs) (hL : L ≤ 2560) (i0 : 0 ≤ i) (i1 : i ≤ (L : Int) - 5) (hH : lx_H l L xs i) (μ : am_N) (hI : lx_J μ) : am_AW l L xs 0 lx_Q 1567 [some (.inr (.inr 999)), some (.inr (.inr 0)), some (.inr (.inr 83)), some (.inl i)] [] μ := by
  have iL : (L : Int) ≤ 2560 := by omega
  have ix : ∀ k : Int, 0 ≤ k → k ≤ 4 → 0 ≤ am_c (i + k) ∧ am_c (i + k) < L := fun k h0 h1 => by rw [am_cR (by omega) (by omega)]; omega
  refine am_go (ct := fun pc => Nat.beq pc 1662) am_oL_law 60 ?_
  conv => whnf
  repeat' first
    | (refine (?_ : am_wp _ _ _ _ _ _ _ _ _ _ _ _); conv => whnf)
    | refine And.intro ⟨rfl, rfl⟩ ?_
    | refine And.intro (ix _ (by decide) (by decide)) ?_
    | refine And.intro trivial ?_
    | refine w_past_X6 (ν := μ) _ _ hI.1.1 (hX _).1 (hX _).2 (hX _).1 (hX _).2 (fun r1 μ1 h0 => ?_)
  have h1 := gv_of_sx h0
  have hE : lx_E [] := lx_c rfl
  have hm1 := lx_mi hE h1 hI.1.2.1
  repeat' first
    | (refine (?_ : am_wp _ _ _ _ _ _ _ _ _ _ _ _); conv => whnf)
    | refine And.intro ⟨rfl, rfl⟩ ?_
    | refine And.intro (ix _ (by decide) (by decide)) ?_
    | refine And.intro trivial ?_
    | refine m_past _ _ hm1 (hX _).1 (hX _).2 (hX _).1 (hX _).2 (fun r2 μ2 h2 => ?_)
  have hA : lx_A ms := lx_A0
  have hI2 : lx_J μ2 := LJ_weak hI h1 h2 hA fp_Acs fp_Ads
  repeat' first
    | (refine (?_ : am_wp _ _ _ _ _ _ _ _ _ _ _ _); conv => whnf)
    | refine And.intro trivial ?_
    | exact hH _ hI2
theorem lx_c48 {l : Launch} {L : Nat} {xs : Nat → Int} {i : Int} (hX : lx_X xs) (hL : L ≤ 2560) (i0 : 0 ≤ i) (i1 : i ≤ (L : Int) - 5) (hH : lx_H l L xs i) (μ : am_N) (hI : lx_J μ) : am_AW l L xs 0 lx_Q 1600 [some (.inr (.inr 999)), some (.inr (.inr 0)), some (.inr (.inr 83)), some (.inl i)] [] μ := by
  have iL : (L : Int) ≤ 2560 := by omega
  have ix : ∀ k : Int, 0 ≤ k → k ≤ 4 → 0 ≤ am_c (i + k) ∧ am_c (i + k) < L := fun k h0 h1 => by rw [am_cR (by omega) (by omega)]; omega
  have cx : ∀ j, am_c (xs j) = xs j := fun j => am_cR (by have := (hX j).1; omega) (by have := (hX j).2; omega)
  have hb := sx_all hI.1.1
  have hc := mi_all hI.1.2.1
  have hR := hI.1.2.2
  have hwM := hR.1.2
  have hwC : fp_fw 999 (fv μ 1) := by rw [hR.1.1]; exact hwM
  have n14 : 0 ≤ μ 1 4 ∧ μ 1 4 ≤ 4 := by omega
  have nM : μ 1 4 = μ 83 14 := (fp_ct_n hR.1.1).1 4 (by decide)
  refine am_go (ct := fun pc => Nat.beq pc 1662) am_oL_law 60 ?_
  conv => whnf
  repeat' first
    | (refine (?_ : am_wp _ _ _ _ _ _ _ _ _ _ _ _); conv => whnf)
    | refine And.intro ⟨rfl, rfl⟩ ?_
    | refine And.intro (ix _ (by decide) (by decide)) ?_
    | refine And.intro trivial ?_
    | refine s_wipe (fun μ1 f1 e1 => ?_)
    | refine n_wipe (fun μ2 f2 e2 => ?_)
    | (refine hH _ ?_; first | exact LJ_time0 hI f1 e1 f2 e2)
  all_goals (first | exact LJ_time0 hI f1 e1 f2 e2 | (trace_state; fail))
theorem lx_c49 {l : Launch} {L : Nat} {xs : Nat → Int} {i : Int} (hX : lx_X xs) (hL : L ≤ 2560) (i0 : 0 ≤ i) (i1 : i ≤ (L : Int) - 5) (hH : lx_H l L xs i) (μ : am_N) (hI : lx_J μ) : am_AW l L xs 0 lx_Q 1613 [some (.inr (.inr 999)), some (.inr (.inr 0)), some (.inr (.inr 83)), some (.inl i)] [] μ := by
  have iL : (L : Int) ≤ 2560 := by omega
  have ix : ∀ k : Int, 0 ≤ k → k ≤ 4 → 0 ≤ am_c (i + k) ∧ am_c (i + k) < L := fun k h0 h1 => by rw [am_cR (by omega) (by omega)]; omega
  have cx : ∀ j, am_c (xs j) = xs j := fun j => am_cR (by have := (hX j).1; omega) (by have := (hX j).2; omega)
  have hb := sx_all hI.1.1
  have hc := mi_all hI.1.2.1
  have hR := hI.1.2.2
  have hwM := hR.1.2
  have hwC : fp_fw 999 (fv μ 1) := by rw [hR.1.1]; exact hwM
  have n14 : 0 ≤ μ 1 4 ∧ μ 1 4 ≤ 4 := by omega
  have nM : μ 1 4 = μ 83 14 := (fp_ct_n hR.1.1).1 4 (by decide)
  refine am_go (ct := fun pc => Nat.beq pc 1662) am_oL_law 60 ?_
  conv => whnf
  repeat' first
    | (refine (?_ : am_wp _ _ _ _ _ _ _ _ _ _ _ _); conv => whnf)
    | refine And.intro ⟨rfl, rfl⟩ ?_
    | refine And.intro (ix _ (by decide) (by decide)) ?_
    | refine And.intro trivial ?_
    | (refine s_image (by omega) (fun μ1 f1 h1 e15 e50 x51 e58 x59 e60 x61 => ?_))
    | refine n_image (fun μ2 f2 e25 u => ?_)
    | (refine hH _ ?_; first | exact LJ_image hI f1 h1 e15 e50 x51 e58 x59 e60 x61 f2 e25 u)
  all_goals (first | exact LJ_image hI f1 h1 e15 e50 x51 e58 x59 e60 x61 f2 e25 u | (trace_state; fail))
theorem lx_c50 {l : Launch} {L : Nat} {xs : Nat → Int} {i : Int} (hX : lx_X xs) (hL : L ≤ 2560) (i0 : 0 ≤ i) (i1 : i ≤ (L : Int) - 5) (hH : lx_H l L xs i) (μ : am_N) (hI : lx_J μ) : am_AW l L xs 0 lx_Q 1626 [some (.inr (.inr 999)), some (.inr (.inr 0)), some (.inr (.inr 83)), some (.inl i)] [] μ := by
  have iL : (L : Int) ≤ 2560 := by omega
  have ix : ∀ k : Int, 0 ≤ k → k ≤ 4 → 0 ≤ am_c (i + k) ∧ am_c (i + k) < L := fun k h0 h1 => by rw [am_cR (by omega) (by omega)]; omega
  have cx : ∀ j, am_c (xs j) = xs j := fun j => am_cR (by have := (hX j).1; omega) (by have := (hX j).2; omega)
  have hb := sx_all hI.1.1
  have hc := mi_all hI.1.2.1
  have hR := hI.1.2.2
  have hwM := hR.1.2
  have hwC : fp_fw 999 (fv μ 1) := by rw [hR.1.1]; exact hwM
  have n14 : 0 ≤ μ 1 4 ∧ μ 1 4 ≤ 4 := by omega
  have nM : μ 1 4 = μ 83 14 := (fp_ct_n hR.1.1).1 4 (by decide)
  refine am_go (ct := fun pc => Nat.beq pc 1662) am_oL_law 60 ?_
  conv => whnf
  repeat' first
    | (refine (?_ : am_wp _ _ _ _ _ _ _ _ _ _ _ _); conv => whnf)
    | refine And.intro ⟨rfl, rfl⟩ ?_
    | refine And.intro (ix _ (by decide) (by decide)) ?_
    | refine And.intro trivial ?_
    | (have c15 : am_c (μ 0 15) = μ 0 15 := (by rcases hR.2.2.2 with ⟨a, -⟩ | ⟨a, -⟩ <;> rw [a] <;> rfl); refine s_restore (by omega) c15 (fun a1 μ1 f1 h1 z62 e48 x49 e53 x54 e55 x56 => ?_) (fun a0 μ1 f1 => ?_))
    | (have t25 : μ1 83 25 = μ 83 25 := f1 83 25 (by omega) (by omega) (by omega) (by omega); have c25 : am_c (μ1 83 25) = μ1 83 25 := (by rw [t25]; rcases hR.2.2.2 with ⟨-, a⟩ | ⟨-, a, -⟩ <;> rw [a] <;> rfl); refine n_restore c25 (fun b1 μ2 f2 u z33 => ?_) (fun b0 μ2 f2 => ?_))
    | (have t25 : μ1 83 25 = μ 83 25 := f1 83 25 (by omega); have c25 : am_c (μ1 83 25) = μ1 83 25 := (by rw [t25]; rcases hR.2.2.2 with ⟨-, a⟩ | ⟨-, a, -⟩ <;> rw [a] <;> rfl); refine n_restore c25 (fun b1 μ2 f2 u z33 => ?_) (fun b0 μ2 f2 => ?_))
    | (refine hH _ ?_; first | exact LJ_restore hI a1 f1 h1 z62 e48 x49 e53 x54 e55 x56 f2 u z33 | exact LJ_fr hI (LI_ref hI.1 f1 f2) (fun a b q => (f2 a b (by unfold rq_K at q; omega)).trans (f1 a b (by unfold rq_K at q; omega))) | (exfalso; rcases hR.2.2.2 with ⟨x, y⟩ | ⟨x, y, -⟩ <;> rw [t25] at * <;> omega))
  all_goals (first | exact LJ_restore hI a1 f1 h1 z62 e48 x49 e53 x54 e55 x56 f2 u z33 | exact LJ_fr hI (LI_ref hI.1 f1 f2) (fun a b q => (f2 a b (by unfold rq_K at q; omega)).trans (f1 a b (by unfold rq_K at q; omega))) | (exfalso; rcases hR.2.2.2 with ⟨x, y⟩ | ⟨x, y, -⟩ <;> rw [t25] at * <;> omega) | (trace_state; fail))
theorem lx_c51 {l : Launch} {L : Nat} {xs : Nat → Int} {i : Int} (hX : lx_X xs) (hL : L ≤ 2560) (i0 : 0 ≤ i) (i1 : i ≤ (L : Int) - 5) (hH : lx_H l L xs i) (μ : am_N) (hI : lx_J μ) : am_AW l L xs 0 lx_Q 1639 [some (.inr (.inr 999)), some (.inr (.inr 0)), some (.inr (.inr 83)), some (.inl i)] [] μ := by
  have iL : (L : Int) ≤ 2560 := by omega
  have ix : ∀ k : Int, 0 ≤ k → k ≤ 4 → 0 ≤ am_c (i + k) ∧ am_c (i + k) < L := fun k h0 h1 => by rw [am_cR (by omega) (by omega)]; omega
  refine am_go (ct := fun pc => Nat.beq pc 1662) am_oL_law 60 ?_
  conv => whnf
  repeat' first
    | (refine (?_ : am_wp _ _ _ _ _ _ _ _ _ _ _ _); conv => whnf)
    | refine And.intro ⟨rfl, rfl⟩ ?_
    | refine And.intro (ix _ (by decide) (by decide)) ?_
    | refine And.intro trivial ?_
    | refine w_count_X6 (ν := μ) _ hI.1.1 (hX _).1 (hX _).2 (fun r1 μ1 h0 => ?_)
  have h1 := gv_of_sx h0
  have hE : lx_E [] := lx_c rfl
  have hm1 := lx_mi hE h1 hI.1.2.1
  repeat' first
    | (refine (?_ : am_wp _ _ _ _ _ _ _ _ _ _ _ _); conv => whnf)
    | refine And.intro ⟨rfl, rfl⟩ ?_
    | refine And.intro (ix _ (by decide) (by decide)) ?_
    | refine And.intro trivial ?_
    | refine m_count _ hm1 (hX _).1 (hX _).2 (fun r2 μ2 h2 => ?_)
  have hA : lx_A ms := lx_A0
  have hI2 : lx_J μ2 := LJ_weak hI h1 h2 hA fp_Acs fp_Ads
  repeat' first
    | (refine (?_ : am_wp _ _ _ _ _ _ _ _ _ _ _ _); conv => whnf)
    | refine And.intro trivial ?_
    | exact hH _ hI2
