/-! the law: cases -/
theorem lx_c39 {l : Launch} {L : Nat} {xs : Nat → Int} {i : Int} (hX : lx_X xs) (hL : L ≤ 2560) (i0 : 0 ≤ i) (i1 : i ≤ (L : Int) - 5) (hH : lx_H l L xs i) (μ : am_N) (hI : lx_I μ) : am_AW l L xs 0 lx_Q 1323 [some (.inr (.inr 999)), some (.inr (.inr 0)), some (.inr (.inr 83)), some (.inl i)] [] μ := by
  have iL : (L : Int) ≤ 2560 := by omega
  have ix : ∀ k : Int, 0 ≤ k → k ≤ 4 → 0 ≤ am_c (i + k) ∧ am_c (i + k) < L := fun k h0 h1 => by rw [am_cR (by omega) (by omega)]; omega
  refine am_go (ct := fun pc => Nat.beq pc 1662) am_oL_law 60 ?_
  conv => whnf
  repeat' first
    | (refine (?_ : am_wp _ _ _ _ _ _ _ _ _ _ _ _); conv => whnf)
    | refine And.intro ⟨rfl, rfl⟩ ?_
    | refine And.intro (ix _ (by decide) (by decide)) ?_
    | refine And.intro trivial ?_
    | refine w_legs_X6 (ν := μ) _ _ _ _ hI.1 (hX _).1 (hX _).2 (hX _).1 (hX _).2 (hX _).1 (hX _).2 (hX _).1 (hX _).2 (fun r1 μ1 h0 => ?_)
  have h1 := gv_of_sx h0
  have hE : lx_E [] := lx_c rfl
  have hm1 := lx_mi hE h1 hI.2.1
  repeat' first
    | (refine (?_ : am_wp _ _ _ _ _ _ _ _ _ _ _ _); conv => whnf)
    | refine And.intro ⟨rfl, rfl⟩ ?_
    | refine And.intro (ix _ (by decide) (by decide)) ?_
    | refine And.intro trivial ?_
    | refine m_legs _ _ _ _ hm1 (hX _).1 (hX _).2 (hX _).1 (hX _).2 (hX _).1 (hX _).2 (hX _).1 (hX _).2 (fun r2 μ2 h2 => ?_)
  have hA : lx_A ms := lx_A0
  have hI2 : lx_I μ2 := LI_weak hI h1 h2 hE rfl hA fp_Acs
  repeat' first
    | (refine (?_ : am_wp _ _ _ _ _ _ _ _ _ _ _ _); conv => whnf)
    | refine And.intro trivial ?_
    | exact hH _ hI2
theorem lx_c40 {l : Launch} {L : Nat} {xs : Nat → Int} {i : Int} (hX : lx_X xs) (hL : L ≤ 2560) (i0 : 0 ≤ i) (i1 : i ≤ (L : Int) - 5) (hH : lx_H l L xs i) (μ : am_N) (hI : lx_I μ) : am_AW l L xs 0 lx_Q 1376 [some (.inr (.inr 999)), some (.inr (.inr 0)), some (.inr (.inr 83)), some (.inl i)] [] μ := by
  have iL : (L : Int) ≤ 2560 := by omega
  have ix : ∀ k : Int, 0 ≤ k → k ≤ 4 → 0 ≤ am_c (i + k) ∧ am_c (i + k) < L := fun k h0 h1 => by rw [am_cR (by omega) (by omega)]; omega
  refine am_go (ct := fun pc => Nat.beq pc 1662) am_oL_law 60 ?_
  conv => whnf
  repeat' first
    | (refine (?_ : am_wp _ _ _ _ _ _ _ _ _ _ _ _); conv => whnf)
    | refine And.intro ⟨rfl, rfl⟩ ?_
    | refine And.intro (ix _ (by decide) (by decide)) ?_
    | refine And.intro trivial ?_
    | refine w_bet_X6 (ν := μ)  hI.1  (fun r1 μ1 h0 => ?_)
  have h1 := gv_of_sx h0
  have hE : lx_E [] := lx_c rfl
  have hm1 := lx_mi hE h1 hI.2.1
  repeat' first
    | (refine (?_ : am_wp _ _ _ _ _ _ _ _ _ _ _ _); conv => whnf)
    | refine And.intro ⟨rfl, rfl⟩ ?_
    | refine And.intro (ix _ (by decide) (by decide)) ?_
    | refine And.intro trivial ?_
    | refine m_bet  hm1  (fun r2 μ2 h2 => ?_)
  have hA : lx_A ms := lx_A0
  have hI2 : lx_I μ2 := LI_weak hI h1 h2 hE rfl hA fp_Acs
  repeat' first
    | (refine (?_ : am_wp _ _ _ _ _ _ _ _ _ _ _ _); conv => whnf)
    | refine And.intro trivial ?_
    | exact hH _ hI2
theorem lx_c41 {l : Launch} {L : Nat} {xs : Nat → Int} {i : Int} (hX : lx_X xs) (hL : L ≤ 2560) (i0 : 0 ≤ i) (i1 : i ≤ (L : Int) - 5) (hH : lx_H l L xs i) (μ : am_N) (hI : lx_I μ) : am_AW l L xs 0 lx_Q 1389 [some (.inr (.inr 999)), some (.inr (.inr 0)), some (.inr (.inr 83)), some (.inl i)] [] μ := by
  have iL : (L : Int) ≤ 2560 := by omega
  have ix : ∀ k : Int, 0 ≤ k → k ≤ 4 → 0 ≤ am_c (i + k) ∧ am_c (i + k) < L := fun k h0 h1 => by rw [am_cR (by omega) (by omega)]; omega
  refine am_go (ct := fun pc => Nat.beq pc 1662) am_oL_law 60 ?_
  conv => whnf
  repeat' first
    | (refine (?_ : am_wp _ _ _ _ _ _ _ _ _ _ _ _); conv => whnf)
    | refine And.intro ⟨rfl, rfl⟩ ?_
    | refine And.intro (ix _ (by decide) (by decide)) ?_
    | refine And.intro trivial ?_
    | refine w_bets_X6 (ν := μ) _ hI.1 (hX _).1 (hX _).2 (fun r1 μ1 h0 => ?_)
  have h1 := gv_of_sx h0
  have hE : lx_E [] := lx_c rfl
  have hm1 := lx_mi hE h1 hI.2.1
  repeat' first
    | (refine (?_ : am_wp _ _ _ _ _ _ _ _ _ _ _ _); conv => whnf)
    | refine And.intro ⟨rfl, rfl⟩ ?_
    | refine And.intro (ix _ (by decide) (by decide)) ?_
    | refine And.intro trivial ?_
    | refine m_bets _ hm1 (hX _).1 (hX _).2 (fun r2 μ2 h2 => ?_)
  have hA : lx_A ms := lx_A0
  have hI2 : lx_I μ2 := LI_weak hI h1 h2 hE rfl hA fp_Acs
  repeat' first
    | (refine (?_ : am_wp _ _ _ _ _ _ _ _ _ _ _ _); conv => whnf)
    | refine And.intro trivial ?_
    | exact hH _ hI2
theorem lx_c42 {l : Launch} {L : Nat} {xs : Nat → Int} {i : Int} (hX : lx_X xs) (hL : L ≤ 2560) (i0 : 0 ≤ i) (i1 : i ≤ (L : Int) - 5) (hH : lx_H l L xs i) (μ : am_N) (hI : lx_I μ) : am_AW l L xs 0 lx_Q 1412 [some (.inr (.inr 999)), some (.inr (.inr 0)), some (.inr (.inr 83)), some (.inl i)] [] μ := by
  have iL : (L : Int) ≤ 2560 := by omega
  have ix : ∀ k : Int, 0 ≤ k → k ≤ 4 → 0 ≤ am_c (i + k) ∧ am_c (i + k) < L := fun k h0 h1 => by rw [am_cR (by omega) (by omega)]; omega
  refine am_go (ct := fun pc => Nat.beq pc 1662) am_oL_law 60 ?_
  conv => whnf
  repeat' first
    | (refine (?_ : am_wp _ _ _ _ _ _ _ _ _ _ _ _); conv => whnf)
    | refine And.intro ⟨rfl, rfl⟩ ?_
    | refine And.intro (ix _ (by decide) (by decide)) ?_
    | refine And.intro trivial ?_
    | refine v_habit_X6 _ _ hI.1 (hX _).1 (hX _).2 (hX _).1 (hX _).2 (fun r1 μ1 h1 => ?_)
  have hE : lx_E [52, 53, 54, 55, 56] := lx_c rfl
  have hm1 := lx_mi hE h1 hI.2.1
  repeat' first
    | (refine (?_ : am_wp _ _ _ _ _ _ _ _ _ _ _ _); conv => whnf)
    | refine And.intro ⟨rfl, rfl⟩ ?_
    | refine And.intro (ix _ (by decide) (by decide)) ?_
    | refine And.intro trivial ?_
    | refine m_habit _ _ hm1 (hX _).1 (hX _).2 (hX _).1 (hX _).2 (fun r2 μ2 h2 => ?_)
  have hA : lx_A (mo ms (mo (m1o 92 16) (m1o 93 16))) := (lx_Ao lx_A0 (lx_Ao (lx_mo (by decide)) (lx_mo (by decide))))
  have hI2 : lx_I μ2 := LI_weak hI h1 h2 hE rfl hA (fp_Aco fp_Acs (fp_Aco (fp_Ac1 (by decide) (by decide)) (fp_Ac1 (by decide) (by decide))))
  repeat' first
    | (refine (?_ : am_wp _ _ _ _ _ _ _ _ _ _ _ _); conv => whnf)
    | refine And.intro trivial ?_
    | exact hH _ hI2
theorem lx_c43 {l : Launch} {L : Nat} {xs : Nat → Int} {i : Int} (hX : lx_X xs) (hL : L ≤ 2560) (i0 : 0 ≤ i) (i1 : i ≤ (L : Int) - 5) (hH : lx_H l L xs i) (μ : am_N) (hI : lx_I μ) : am_AW l L xs 0 lx_Q 1445 [some (.inr (.inr 999)), some (.inr (.inr 0)), some (.inr (.inr 83)), some (.inl i)] [] μ := by
  have iL : (L : Int) ≤ 2560 := by omega
  have ix : ∀ k : Int, 0 ≤ k → k ≤ 4 → 0 ≤ am_c (i + k) ∧ am_c (i + k) < L := fun k h0 h1 => by rw [am_cR (by omega) (by omega)]; omega
  refine am_go (ct := fun pc => Nat.beq pc 1662) am_oL_law 60 ?_
  conv => whnf
  repeat' first
    | (refine (?_ : am_wp _ _ _ _ _ _ _ _ _ _ _ _); conv => whnf)
    | refine And.intro ⟨rfl, rfl⟩ ?_
    | refine And.intro (ix _ (by decide) (by decide)) ?_
    | refine And.intro trivial ?_
    | refine v_forget_X6  hI.1  (fun r1 μ1 h1 => ?_)
  have hE : lx_E [53, 55] := lx_c rfl
  have hm1 := lx_mi hE h1 hI.2.1
  repeat' first
    | (refine (?_ : am_wp _ _ _ _ _ _ _ _ _ _ _ _); conv => whnf)
    | refine And.intro ⟨rfl, rfl⟩ ?_
    | refine And.intro (ix _ (by decide) (by decide)) ?_
    | refine And.intro trivial ?_
    | refine m_forget  hm1  (fun r2 μ2 h2 g0 g1 => ?_)
  have hA : lx_A (mo ms (m1o 83000 16)) := (lx_Ao lx_A0 (lx_mo (by decide)))
  have hI2 : lx_I μ2 := LI_weak hI h1 h2 hE rfl hA (fp_Aco fp_Acs (fp_Ac1 (by decide) (by decide)))
  repeat' first
    | (refine (?_ : am_wp _ _ _ _ _ _ _ _ _ _ _ _); conv => whnf)
    | refine And.intro trivial ?_
    | exact hH _ hI2
theorem lx_c44 {l : Launch} {L : Nat} {xs : Nat → Int} {i : Int} (hX : lx_X xs) (hL : L ≤ 2560) (i0 : 0 ≤ i) (i1 : i ≤ (L : Int) - 5) (hH : lx_H l L xs i) (μ : am_N) (hI : lx_I μ) : am_AW l L xs 0 lx_Q 1458 [some (.inr (.inr 999)), some (.inr (.inr 0)), some (.inr (.inr 83)), some (.inl i)] [] μ := by
  have iL : (L : Int) ≤ 2560 := by omega
  have ix : ∀ k : Int, 0 ≤ k → k ≤ 4 → 0 ≤ am_c (i + k) ∧ am_c (i + k) < L := fun k h0 h1 => by rw [am_cR (by omega) (by omega)]; omega
  refine am_go (ct := fun pc => Nat.beq pc 1662) am_oL_law 60 ?_
  conv => whnf
  repeat' first
    | (refine (?_ : am_wp _ _ _ _ _ _ _ _ _ _ _ _); conv => whnf)
    | refine And.intro ⟨rfl, rfl⟩ ?_
    | refine And.intro (ix _ (by decide) (by decide)) ?_
    | refine And.intro trivial ?_
    | refine w_tried_X6 (ν := μ) _ _ hI.1 (hX _).1 (hX _).2 (hX _).1 (hX _).2 (fun r1 μ1 h0 => ?_)
  have h1 := gv_of_sx h0
  have hE : lx_E [] := lx_c rfl
  have hm1 := lx_mi hE h1 hI.2.1
  repeat' first
    | (refine (?_ : am_wp _ _ _ _ _ _ _ _ _ _ _ _); conv => whnf)
    | refine And.intro ⟨rfl, rfl⟩ ?_
    | refine And.intro (ix _ (by decide) (by decide)) ?_
    | refine And.intro trivial ?_
    | refine m_tried _ _ hm1 (hX _).1 (hX _).2 (hX _).1 (hX _).2 (fun r2 μ2 h2 => ?_)
  have hA : lx_A mQ := (lx_Ao lx_A0 lx_Q1)
  have hI2 : lx_I μ2 := LI_weak hI h1 h2 hE rfl hA fp_AcQ
  repeat' first
    | (refine (?_ : am_wp _ _ _ _ _ _ _ _ _ _ _ _); conv => whnf)
    | refine And.intro trivial ?_
    | exact hH _ hI2
theorem lx_c45 {l : Launch} {L : Nat} {xs : Nat → Int} {i : Int} (hX : lx_X xs) (hL : L ≤ 2560) (i0 : 0 ≤ i) (i1 : i ≤ (L : Int) - 5) (hH : lx_H l L xs i) (μ : am_N) (hI : lx_I μ) : am_AW l L xs 0 lx_Q 1491 [some (.inr (.inr 999)), some (.inr (.inr 0)), some (.inr (.inr 83)), some (.inl i)] [] μ := by
  have iL : (L : Int) ≤ 2560 := by omega
  have ix : ∀ k : Int, 0 ≤ k → k ≤ 4 → 0 ≤ am_c (i + k) ∧ am_c (i + k) < L := fun k h0 h1 => by rw [am_cR (by omega) (by omega)]; omega
  refine am_go (ct := fun pc => Nat.beq pc 1662) am_oL_law 60 ?_
  conv => whnf
  repeat' first
    | (refine (?_ : am_wp _ _ _ _ _ _ _ _ _ _ _ _); conv => whnf)
    | refine And.intro ⟨rfl, rfl⟩ ?_
    | refine And.intro (ix _ (by decide) (by decide)) ?_
    | refine And.intro trivial ?_
    | refine w_had_X6 (ν := μ) _ _ _ _ hI.1 (hX _).1 (hX _).2 (hX _).1 (hX _).2 (hX _).1 (hX _).2 (hX _).1 (hX _).2 (fun r1 μ1 h0 => ?_)
  have h1 := gv_of_sx h0
  have hE : lx_E [] := lx_c rfl
  have hm1 := lx_mi hE h1 hI.2.1
  repeat' first
    | (refine (?_ : am_wp _ _ _ _ _ _ _ _ _ _ _ _); conv => whnf)
    | refine And.intro ⟨rfl, rfl⟩ ?_
    | refine And.intro (ix _ (by decide) (by decide)) ?_
    | refine And.intro trivial ?_
    | refine m_had _ _ _ _ hm1 (hX _).1 (hX _).2 (hX _).1 (hX _).2 (hX _).1 (hX _).2 (hX _).1 (hX _).2 (fun r2 μ2 h2 => ?_)
  have hA : lx_A mQ := (lx_Ao lx_A0 lx_Q1)
  have hI2 : lx_I μ2 := LI_weak hI h1 h2 hE rfl hA fp_AcQ
  repeat' first
    | (refine (?_ : am_wp _ _ _ _ _ _ _ _ _ _ _ _); conv => whnf)
    | refine And.intro trivial ?_
    | exact hH _ hI2
theorem lx_c46 {l : Launch} {L : Nat} {xs : Nat → Int} {i : Int} (hX : lx_X xs) (hL : L ≤ 2560) (i0 : 0 ≤ i) (i1 : i ≤ (L : Int) - 5) (hH : lx_H l L xs i) (μ : am_N) (hI : lx_I μ) : am_AW l L xs 0 lx_Q 1544 [some (.inr (.inr 999)), some (.inr (.inr 0)), some (.inr (.inr 83)), some (.inl i)] [] μ := by
  have iL : (L : Int) ≤ 2560 := by omega
  have ix : ∀ k : Int, 0 ≤ k → k ≤ 4 → 0 ≤ am_c (i + k) ∧ am_c (i + k) < L := fun k h0 h1 => by rw [am_cR (by omega) (by omega)]; omega
  refine am_go (ct := fun pc => Nat.beq pc 1662) am_oL_law 60 ?_
  conv => whnf
  repeat' first
    | (refine (?_ : am_wp _ _ _ _ _ _ _ _ _ _ _ _); conv => whnf)
    | refine And.intro ⟨rfl, rfl⟩ ?_
    | refine And.intro (ix _ (by decide) (by decide)) ?_
    | refine And.intro trivial ?_
    | refine v_time_X6 _ hI.1 (hX _).1 (hX _).2 (fun r1 μ1 h1 f0 => ?_)
  have hE : lx_E [46, 47] := lx_c rfl
  have hm1 := lx_mi hE h1 hI.2.1
  repeat' first
    | (refine (?_ : am_wp _ _ _ _ _ _ _ _ _ _ _ _); conv => whnf)
    | refine And.intro ⟨rfl, rfl⟩ ?_
    | refine And.intro (ix _ (by decide) (by decide)) ?_
    | refine And.intro trivial ?_
    | refine m_time _ hm1 (hX _).1 (hX _).2 (fun r2 μ2 h2 g0 => ?_)
  have hA : lx_A (mo ms (m1o 105 40)) := (lx_Ao lx_A0 (lx_mo (by decide)))
  have hI2 : lx_I μ2 := LI_weak hI h1 h2 hE rfl hA (fp_Aco fp_Acs (fp_Ac1 (by decide) (by decide)))
  repeat' first
    | (refine (?_ : am_wp _ _ _ _ _ _ _ _ _ _ _ _); conv => whnf)
    | refine And.intro trivial ?_
    | exact hH _ hI2
theorem lx_c47 {l : Launch} {L : Nat} {xs : Nat → Int} {i : Int} (hX : lx_X xs) (hL : L ≤ 2560) (i0 : 0 ≤ i) (i1 : i ≤ (L : Int) - 5) (hH : lx_H l L xs i) (μ : am_N) (hI : lx_I μ) : am_AW l L xs 0 lx_Q 1567 [some (.inr (.inr 999)), some (.inr (.inr 0)), some (.inr (.inr 83)), some (.inl i)] [] μ := by
  have iL : (L : Int) ≤ 2560 := by omega
  have ix : ∀ k : Int, 0 ≤ k → k ≤ 4 → 0 ≤ am_c (i + k) ∧ am_c (i + k) < L := fun k h0 h1 => by rw [am_cR (by omega) (by omega)]; omega
  refine am_go (ct := fun pc => Nat.beq pc 1662) am_oL_law 60 ?_
  conv => whnf
  repeat' first
    | (refine (?_ : am_wp _ _ _ _ _ _ _ _ _ _ _ _); conv => whnf)
    | refine And.intro ⟨rfl, rfl⟩ ?_
    | refine And.intro (ix _ (by decide) (by decide)) ?_
    | refine And.intro trivial ?_
    | refine w_past_X6 (ν := μ) _ _ hI.1 (hX _).1 (hX _).2 (hX _).1 (hX _).2 (fun r1 μ1 h0 => ?_)
  have h1 := gv_of_sx h0
  have hE : lx_E [] := lx_c rfl
  have hm1 := lx_mi hE h1 hI.2.1
  repeat' first
    | (refine (?_ : am_wp _ _ _ _ _ _ _ _ _ _ _ _); conv => whnf)
    | refine And.intro ⟨rfl, rfl⟩ ?_
    | refine And.intro (ix _ (by decide) (by decide)) ?_
    | refine And.intro trivial ?_
    | refine m_past _ _ hm1 (hX _).1 (hX _).2 (hX _).1 (hX _).2 (fun r2 μ2 h2 => ?_)
  have hA : lx_A ms := lx_A0
  have hI2 : lx_I μ2 := LI_weak hI h1 h2 hE rfl hA fp_Acs
  repeat' first
    | (refine (?_ : am_wp _ _ _ _ _ _ _ _ _ _ _ _); conv => whnf)
    | refine And.intro trivial ?_
    | exact hH _ hI2
theorem lx_c48 {l : Launch} {L : Nat} {xs : Nat → Int} {i : Int} (hX : lx_X xs) (hL : L ≤ 2560) (i0 : 0 ≤ i) (i1 : i ≤ (L : Int) - 5) (hH : lx_H l L xs i) (μ : am_N) (hI : lx_I μ) : am_AW l L xs 0 lx_Q 1600 [some (.inr (.inr 999)), some (.inr (.inr 0)), some (.inr (.inr 83)), some (.inl i)] [] μ := by
  have iL : (L : Int) ≤ 2560 := by omega
  have ix : ∀ k : Int, 0 ≤ k → k ≤ 4 → 0 ≤ am_c (i + k) ∧ am_c (i + k) < L := fun k h0 h1 => by rw [am_cR (by omega) (by omega)]; omega
  refine am_go (ct := fun pc => Nat.beq pc 1662) am_oL_law 60 ?_
  conv => whnf
  repeat' first
    | (refine (?_ : am_wp _ _ _ _ _ _ _ _ _ _ _ _); conv => whnf)
    | refine And.intro ⟨rfl, rfl⟩ ?_
    | refine And.intro (ix _ (by decide) (by decide)) ?_
    | refine And.intro trivial ?_
    | refine v_wipe_X6  hI.1  (fun r1 μ1 h1 f0 f1 => ?_)
  have hE : lx_E [46] := lx_c rfl
  have hm1 := lx_mi hE h1 hI.2.1
  repeat' first
    | (refine (?_ : am_wp _ _ _ _ _ _ _ _ _ _ _ _); conv => whnf)
    | refine And.intro ⟨rfl, rfl⟩ ?_
    | refine And.intro (ix _ (by decide) (by decide)) ?_
    | refine And.intro trivial ?_
    | refine m_wipe  hm1  (fun r2 μ2 h2 g0 g1 => ?_)
  have hA : lx_A (mo ms (m1o 83000 40)) := (lx_Ao lx_A0 (lx_mo (by decide)))
  have hI2 : lx_I μ2 := LI_weak hI h1 h2 hE rfl hA (fp_Aco fp_Acs (fp_Ac1 (by decide) (by decide)))
  repeat' first
    | (refine (?_ : am_wp _ _ _ _ _ _ _ _ _ _ _ _); conv => whnf)
    | refine And.intro trivial ?_
    | exact hH _ hI2
theorem lx_c49 {l : Launch} {L : Nat} {xs : Nat → Int} {i : Int} (hX : lx_X xs) (hL : L ≤ 2560) (i0 : 0 ≤ i) (i1 : i ≤ (L : Int) - 5) (hH : lx_H l L xs i) (μ : am_N) (hI : lx_I μ) : am_AW l L xs 0 lx_Q 1613 [some (.inr (.inr 999)), some (.inr (.inr 0)), some (.inr (.inr 83)), some (.inl i)] [] μ := by
  have iL : (L : Int) ≤ 2560 := by omega
  have ix : ∀ k : Int, 0 ≤ k → k ≤ 4 → 0 ≤ am_c (i + k) ∧ am_c (i + k) < L := fun k h0 h1 => by rw [am_cR (by omega) (by omega)]; omega
  have cx : ∀ j, am_c (xs j) = xs j := fun j => am_cR (by have := (hX j).1; omega) (by have := (hX j).2; omega)
  have hb := sx_all hI.1
  have hc := mi_all hI.2.1
  have hR := hI.2.2
  have hwM := hR.1.2
  have hwC : fp_fw 999 (fv μ 1) := by rw [hR.1.1]; exact hwM
  have n14 : 0 ≤ μ 1 4 ∧ μ 1 4 ≤ 4 := by omega
  have nM : μ 1 4 = μ 83 14 := (fp_ct_n hR.1.1).1 4 (by decide)
  refine am_go (ct := fun pc => Nat.beq pc 1662) am_oL_law 60 ?_
  conv => whnf
  repeat' first
    | (refine (?_ : am_wp _ _ _ _ _ _ _ _ _ _ _ _); conv => whnf)
    | refine And.intro ⟨rfl, rfl⟩ ?_
    | refine And.intro (ix _ (by decide) (by decide)) ?_
    | refine And.intro trivial ?_
    | (refine s_image (by omega) (fun μ1 f1 h1 e15 e50 x51 e58 x59 e60 x61 => ?_))
    | refine n_image (fun μ2 f2 e25 u => ?_)
    | (refine hH _ ?_; first | exact LI_image hI f1 h1 e15 e50 e58 e60 f2 e25 u)
  all_goals (first | exact LI_image hI f1 h1 e15 e50 e58 e60 f2 e25 u | (trace_state; fail))
theorem lx_c50 {l : Launch} {L : Nat} {xs : Nat → Int} {i : Int} (hX : lx_X xs) (hL : L ≤ 2560) (i0 : 0 ≤ i) (i1 : i ≤ (L : Int) - 5) (hH : lx_H l L xs i) (μ : am_N) (hI : lx_I μ) : am_AW l L xs 0 lx_Q 1626 [some (.inr (.inr 999)), some (.inr (.inr 0)), some (.inr (.inr 83)), some (.inl i)] [] μ := by
  have iL : (L : Int) ≤ 2560 := by omega
  have ix : ∀ k : Int, 0 ≤ k → k ≤ 4 → 0 ≤ am_c (i + k) ∧ am_c (i + k) < L := fun k h0 h1 => by rw [am_cR (by omega) (by omega)]; omega
  have cx : ∀ j, am_c (xs j) = xs j := fun j => am_cR (by have := (hX j).1; omega) (by have := (hX j).2; omega)
  have hb := sx_all hI.1
  have hc := mi_all hI.2.1
  have hR := hI.2.2
  have hwM := hR.1.2
  have hwC : fp_fw 999 (fv μ 1) := by rw [hR.1.1]; exact hwM
  have n14 : 0 ≤ μ 1 4 ∧ μ 1 4 ≤ 4 := by omega
  have nM : μ 1 4 = μ 83 14 := (fp_ct_n hR.1.1).1 4 (by decide)
  refine am_go (ct := fun pc => Nat.beq pc 1662) am_oL_law 60 ?_
  conv => whnf
  repeat' first
    | (refine (?_ : am_wp _ _ _ _ _ _ _ _ _ _ _ _); conv => whnf)
    | refine And.intro ⟨rfl, rfl⟩ ?_
    | refine And.intro (ix _ (by decide) (by decide)) ?_
    | refine And.intro trivial ?_
    | (have c15 : am_c (μ 0 15) = μ 0 15 := (by rcases hR.2.2.2 with ⟨a, -⟩ | ⟨a, -⟩ <;> rw [a] <;> rfl); refine s_restore (by omega) c15 (fun a1 μ1 f1 h1 z62 e48 x49 e53 x54 e55 x56 => ?_) (fun a0 μ1 f1 => ?_))
    | (have t25 : μ1 83 25 = μ 83 25 := f1 83 25 (by omega) (by omega) (by omega) (by omega); have c25 : am_c (μ1 83 25) = μ1 83 25 := (by rw [t25]; rcases hR.2.2.2 with ⟨-, a⟩ | ⟨-, a, -⟩ <;> rw [a] <;> rfl); refine n_restore c25 (fun b1 μ2 f2 u z33 => ?_) (fun b0 μ2 f2 => ?_))
    | (have t25 : μ1 83 25 = μ 83 25 := f1 83 25 (by omega); have c25 : am_c (μ1 83 25) = μ1 83 25 := (by rw [t25]; rcases hR.2.2.2 with ⟨-, a⟩ | ⟨-, a, -⟩ <;> rw [a] <;> rfl); refine n_restore c25 (fun b1 μ2 f2 u z33 => ?_) (fun b0 μ2 f2 => ?_))
    | (refine hH _ ?_; first | exact LI_restore hI a1 f1 h1 z62 e48 e53 e55 f2 u z33 | exact LI_ref hI f1 f2 | (exfalso; rcases hR.2.2.2 with ⟨x, y⟩ | ⟨x, y, -⟩ <;> rw [t25] at * <;> omega))
  all_goals (first | exact LI_restore hI a1 f1 h1 z62 e48 e53 e55 f2 u z33 | exact LI_ref hI f1 f2 | (exfalso; rcases hR.2.2.2 with ⟨x, y⟩ | ⟨x, y, -⟩ <;> rw [t25] at * <;> omega) | (trace_state; fail))
theorem lx_c51 {l : Launch} {L : Nat} {xs : Nat → Int} {i : Int} (hX : lx_X xs) (hL : L ≤ 2560) (i0 : 0 ≤ i) (i1 : i ≤ (L : Int) - 5) (hH : lx_H l L xs i) (μ : am_N) (hI : lx_I μ) : am_AW l L xs 0 lx_Q 1639 [some (.inr (.inr 999)), some (.inr (.inr 0)), some (.inr (.inr 83)), some (.inl i)] [] μ := by
  have iL : (L : Int) ≤ 2560 := by omega
  have ix : ∀ k : Int, 0 ≤ k → k ≤ 4 → 0 ≤ am_c (i + k) ∧ am_c (i + k) < L := fun k h0 h1 => by rw [am_cR (by omega) (by omega)]; omega
  refine am_go (ct := fun pc => Nat.beq pc 1662) am_oL_law 60 ?_
  conv => whnf
  repeat' first
    | (refine (?_ : am_wp _ _ _ _ _ _ _ _ _ _ _ _); conv => whnf)
    | refine And.intro ⟨rfl, rfl⟩ ?_
    | refine And.intro (ix _ (by decide) (by decide)) ?_
    | refine And.intro trivial ?_
    | refine w_count_X6 (ν := μ) _ hI.1 (hX _).1 (hX _).2 (fun r1 μ1 h0 => ?_)
  have h1 := gv_of_sx h0
  have hE : lx_E [] := lx_c rfl
  have hm1 := lx_mi hE h1 hI.2.1
  repeat' first
    | (refine (?_ : am_wp _ _ _ _ _ _ _ _ _ _ _ _); conv => whnf)
    | refine And.intro ⟨rfl, rfl⟩ ?_
    | refine And.intro (ix _ (by decide) (by decide)) ?_
    | refine And.intro trivial ?_
    | refine m_count _ hm1 (hX _).1 (hX _).2 (fun r2 μ2 h2 => ?_)
  have hA : lx_A ms := lx_A0
  have hI2 : lx_I μ2 := LI_weak hI h1 h2 hE rfl hA fp_Acs
  repeat' first
    | (refine (?_ : am_wp _ _ _ _ _ _ _ _ _ _ _ _); conv => whnf)
    | refine And.intro trivial ?_
    | exact hH _ hI2
