/-! the law: cases -/
theorem lx_c0 {l : Launch} {L : Nat} {xs : Nat → Int} {i : Int} (hX : lx_X xs) (hL : L ≤ 2560) (i0 : 0 ≤ i) (i1 : i ≤ (L : Int) - 5) (hH : lx_H l L xs i) (μ : am_N) (hI : lx_I μ) : am_AW l L xs 0 lx_Q 256 [some (.inr (.inr 999)), some (.inr (.inr 0)), some (.inr (.inr 83)), some (.inl i)] [] μ := by
  have iL : (L : Int) ≤ 2560 := by omega
  have ix : ∀ k : Int, 0 ≤ k → k ≤ 4 → 0 ≤ am_c (i + k) ∧ am_c (i + k) < L := fun k h0 h1 => by rw [am_cR (by omega) (by omega)]; omega
  refine am_go (ct := fun pc => Nat.beq pc 1662) am_oL_law 60 ?_
  conv => whnf
  repeat' first
    | (refine (?_ : am_wp _ _ _ _ _ _ _ _ _ _ _ _); conv => whnf)
    | refine And.intro ⟨rfl, rfl⟩ ?_
    | refine And.intro (ix _ (by decide) (by decide)) ?_
    | refine And.intro trivial ?_
    | refine v_feed_X6 _ hI.1 (hX _).1 (hX _).2 (fun r1 μ1 h1 f0 => ?_)
  have hE : lx_E [36, 37] := lx_c rfl
  have hm1 := lx_mi hE h1 hI.2.1
  repeat' first
    | (refine (?_ : am_wp _ _ _ _ _ _ _ _ _ _ _ _); conv => whnf)
    | refine And.intro ⟨rfl, rfl⟩ ?_
    | refine And.intro (ix _ (by decide) (by decide)) ?_
    | refine And.intro trivial ?_
    | refine m_feed _ hm1 (hX _).1 (hX _).2 (fun r2 μ2 h2 g0 => ?_)
  have hA : lx_A (mo ms (m1o 94 21)) := (lx_Ao lx_A0 (lx_mo (by decide)))
  obtain ⟨e1, e2⟩ := lx_eqs h1 h2 hA hE
  have hR := hI.2.2
  have hI2 : lx_I μ2 := ⟨lx_sx hA h2 h1.1, h2.1, (by
    have x1 := e1 21
    have x2 := e2 36 (by decide)
    have x3 := hR.1
    omega), (lx_eq h1 h2 hA (by decide) rfl hE rfl rfl hR.2.1), (lx_eq h1 h2 hA (by decide) rfl hE rfl rfl hR.2.2)⟩
  repeat' first
    | (refine (?_ : am_wp _ _ _ _ _ _ _ _ _ _ _ _); conv => whnf)
    | refine And.intro trivial ?_
    | exact hH _ hI2
    | refine And.intro (fun _ => ?_) (fun hne => absurd ?_ hne)
    | refine And.intro (fun hne => absurd ?_ hne) (fun _ => ?_)
  all_goals (
    have x1 := e1 21
    have x3 := hR.1
    have hr : r1 = r2 := by omega
    rw [hr])
theorem lx_c1 {l : Launch} {L : Nat} {xs : Nat → Int} {i : Int} (hX : lx_X xs) (hL : L ≤ 2560) (i0 : 0 ≤ i) (i1 : i ≤ (L : Int) - 5) (hH : lx_H l L xs i) (μ : am_N) (hI : lx_I μ) : am_AW l L xs 0 lx_Q 279 [some (.inr (.inr 999)), some (.inr (.inr 0)), some (.inr (.inr 83)), some (.inl i)] [] μ := by
  have iL : (L : Int) ≤ 2560 := by omega
  have ix : ∀ k : Int, 0 ≤ k → k ≤ 4 → 0 ≤ am_c (i + k) ∧ am_c (i + k) < L := fun k h0 h1 => by rw [am_cR (by omega) (by omega)]; omega
  refine am_go (ct := fun pc => Nat.beq pc 1662) am_oL_law 60 ?_
  conv => whnf
  repeat' first
    | (refine (?_ : am_wp _ _ _ _ _ _ _ _ _ _ _ _); conv => whnf)
    | refine And.intro ⟨rfl, rfl⟩ ?_
    | refine And.intro (ix _ (by decide) (by decide)) ?_
    | refine And.intro trivial ?_
    | refine v_lane_X6  hI.1  (fun r1 μ1 h1 f0 => ?_)
  have hE : lx_E [1, 2, 3, 4, 5, 6, 7, 36, 62] := lx_c rfl
  have hm1 := lx_mi hE h1 hI.2.1
  repeat' first
    | (refine (?_ : am_wp _ _ _ _ _ _ _ _ _ _ _ _); conv => whnf)
    | refine And.intro ⟨rfl, rfl⟩ ?_
    | refine And.intro (ix _ (by decide) (by decide)) ?_
    | refine And.intro trivial ?_
    | refine m_lane  hm1  (fun r2 μ2 h2 g0 => ?_)
  have hA : lx_A mLN := (lx_Ao (lx_Ao (lx_Ao lx_A0 lx_Q1) lx_M1) lx_L2)
  obtain ⟨e1, e2⟩ := lx_eqs h1 h2 hA hE
  have hR := hI.2.2
  have hI2 : lx_I μ2 := ⟨lx_sx hA h2 h1.1, h2.1, (by
    have x1 := e1 21
    have x2 := e2 36 (by decide)
    have x3 := hR.1
    omega), (lx_eq h1 h2 hA (by decide) rfl hE rfl rfl hR.2.1), (lx_eq h1 h2 hA (by decide) rfl hE rfl rfl hR.2.2)⟩
  repeat' first
    | (refine (?_ : am_wp _ _ _ _ _ _ _ _ _ _ _ _); conv => whnf)
    | refine And.intro trivial ?_
    | exact hH _ hI2
    | refine And.intro (fun _ => ?_) (fun hne => absurd ?_ hne)
    | refine And.intro (fun hne => absurd ?_ hne) (fun _ => ?_)
theorem lx_c2 {l : Launch} {L : Nat} {xs : Nat → Int} {i : Int} (hX : lx_X xs) (hL : L ≤ 2560) (i0 : 0 ≤ i) (i1 : i ≤ (L : Int) - 5) (hH : lx_H l L xs i) (μ : am_N) (hI : lx_I μ) : am_AW l L xs 0 lx_Q 292 [some (.inr (.inr 999)), some (.inr (.inr 0)), some (.inr (.inr 83)), some (.inl i)] [] μ := by
  have iL : (L : Int) ≤ 2560 := by omega
  have ix : ∀ k : Int, 0 ≤ k → k ≤ 4 → 0 ≤ am_c (i + k) ∧ am_c (i + k) < L := fun k h0 h1 => by rw [am_cR (by omega) (by omega)]; omega
  refine am_go (ct := fun pc => Nat.beq pc 1662) am_oL_law 60 ?_
  conv => whnf
  repeat' first
    | (refine (?_ : am_wp _ _ _ _ _ _ _ _ _ _ _ _); conv => whnf)
    | refine And.intro ⟨rfl, rfl⟩ ?_
    | refine And.intro (ix _ (by decide) (by decide)) ?_
    | refine And.intro trivial ?_
    | refine w_runner_X6 (ν := μ) _ _ hI.1 (hX _).1 (hX _).2 (hX _).1 (hX _).2 (fun r1 μ1 h0 => ?_)
  have h1 := gv_of_sx h0
  have hE : lx_E [] := lx_c rfl
  have hm1 := lx_mi hE h1 hI.2.1
  repeat' first
    | (refine (?_ : am_wp _ _ _ _ _ _ _ _ _ _ _ _); conv => whnf)
    | refine And.intro ⟨rfl, rfl⟩ ?_
    | refine And.intro (ix _ (by decide) (by decide)) ?_
    | refine And.intro trivial ?_
    | refine m_runner _ _ hm1 (hX _).1 (hX _).2 (hX _).1 (hX _).2 (fun r2 μ2 h2 => ?_)
  have hA : lx_A ms := lx_A0
  obtain ⟨e1, e2⟩ := lx_eqs h1 h2 hA hE
  have hR := hI.2.2
  have hI2 : lx_I μ2 := ⟨lx_sx hA h2 h1.1, h2.1, (lx_eq h1 h2 hA (by decide) rfl hE rfl rfl hR.1), (lx_eq h1 h2 hA (by decide) rfl hE rfl rfl hR.2.1), (lx_eq h1 h2 hA (by decide) rfl hE rfl rfl hR.2.2)⟩
  repeat' first
    | (refine (?_ : am_wp _ _ _ _ _ _ _ _ _ _ _ _); conv => whnf)
    | refine And.intro trivial ?_
    | exact hH _ hI2
    | refine And.intro (fun _ => ?_) (fun hne => absurd ?_ hne)
    | refine And.intro (fun hne => absurd ?_ hne) (fun _ => ?_)
theorem lx_c3 {l : Launch} {L : Nat} {xs : Nat → Int} {i : Int} (hX : lx_X xs) (hL : L ≤ 2560) (i0 : 0 ≤ i) (i1 : i ≤ (L : Int) - 5) (hH : lx_H l L xs i) (μ : am_N) (hI : lx_I μ) : am_AW l L xs 0 lx_Q 325 [some (.inr (.inr 999)), some (.inr (.inr 0)), some (.inr (.inr 83)), some (.inl i)] [] μ := by
  have iL : (L : Int) ≤ 2560 := by omega
  have ix : ∀ k : Int, 0 ≤ k → k ≤ 4 → 0 ≤ am_c (i + k) ∧ am_c (i + k) < L := fun k h0 h1 => by rw [am_cR (by omega) (by omega)]; omega
  refine am_go (ct := fun pc => Nat.beq pc 1662) am_oL_law 60 ?_
  conv => whnf
  repeat' first
    | (refine (?_ : am_wp _ _ _ _ _ _ _ _ _ _ _ _); conv => whnf)
    | refine And.intro ⟨rfl, rfl⟩ ?_
    | refine And.intro (ix _ (by decide) (by decide)) ?_
    | refine And.intro trivial ?_
    | refine v_start_X6 _ _ hI.1 (hX _).1 (hX _).2 (hX _).1 (hX _).2 (fun r1 μ1 h1 => ?_)
  have hE : lx_E [6, 62] := lx_c rfl
  have hm1 := lx_mi hE h1 hI.2.1
  repeat' first
    | (refine (?_ : am_wp _ _ _ _ _ _ _ _ _ _ _ _); conv => whnf)
    | refine And.intro ⟨rfl, rfl⟩ ?_
    | refine And.intro (ix _ (by decide) (by decide)) ?_
    | refine And.intro trivial ?_
    | refine m_start _ _ hm1 (hX _).1 (hX _).2 (hX _).1 (hX _).2 (fun r2 μ2 h2 => ?_)
  have hA : lx_A mX := (lx_Ao lx_A0 lx_X1)
  obtain ⟨e1, e2⟩ := lx_eqs h1 h2 hA hE
  have hR := hI.2.2
  have hI2 : lx_I μ2 := ⟨lx_sx hA h2 h1.1, h2.1, (lx_eq h1 h2 hA (by decide) rfl hE rfl rfl hR.1), (lx_eq h1 h2 hA (by decide) rfl hE rfl rfl hR.2.1), (lx_eq h1 h2 hA (by decide) rfl hE rfl rfl hR.2.2)⟩
  repeat' first
    | (refine (?_ : am_wp _ _ _ _ _ _ _ _ _ _ _ _); conv => whnf)
    | refine And.intro trivial ?_
    | exact hH _ hI2
    | refine And.intro (fun _ => ?_) (fun hne => absurd ?_ hne)
    | refine And.intro (fun hne => absurd ?_ hne) (fun _ => ?_)
theorem lx_c4 {l : Launch} {L : Nat} {xs : Nat → Int} {i : Int} (hX : lx_X xs) (hL : L ≤ 2560) (i0 : 0 ≤ i) (i1 : i ≤ (L : Int) - 5) (hH : lx_H l L xs i) (μ : am_N) (hI : lx_I μ) : am_AW l L xs 0 lx_Q 358 [some (.inr (.inr 999)), some (.inr (.inr 0)), some (.inr (.inr 83)), some (.inl i)] [] μ := by
  have iL : (L : Int) ≤ 2560 := by omega
  have ix : ∀ k : Int, 0 ≤ k → k ≤ 4 → 0 ≤ am_c (i + k) ∧ am_c (i + k) < L := fun k h0 h1 => by rw [am_cR (by omega) (by omega)]; omega
  refine am_go (ct := fun pc => Nat.beq pc 1662) am_oL_law 60 ?_
  conv => whnf
  repeat' first
    | (refine (?_ : am_wp _ _ _ _ _ _ _ _ _ _ _ _); conv => whnf)
    | refine And.intro ⟨rfl, rfl⟩ ?_
    | refine And.intro (ix _ (by decide) (by decide)) ?_
    | refine And.intro trivial ?_
    | refine v_kind_X6 _ _ _ hI.1 (hX _).1 (hX _).2 (hX _).1 (hX _).2 (hX _).1 (hX _).2 (fun r1 μ1 h1 => ?_)
  have hE : lx_E [2, 3, 62] := lx_c rfl
  have hm1 := lx_mi hE h1 hI.2.1
  repeat' first
    | (refine (?_ : am_wp _ _ _ _ _ _ _ _ _ _ _ _); conv => whnf)
    | refine And.intro ⟨rfl, rfl⟩ ?_
    | refine And.intro (ix _ (by decide) (by decide)) ?_
    | refine And.intro trivial ?_
    | refine m_kind _ _ _ hm1 (hX _).1 (hX _).2 (hX _).1 (hX _).2 (hX _).1 (hX _).2 (fun r2 μ2 h2 => ?_)
  have hA : lx_A mX := (lx_Ao lx_A0 lx_X1)
  obtain ⟨e1, e2⟩ := lx_eqs h1 h2 hA hE
  have hR := hI.2.2
  have hI2 : lx_I μ2 := ⟨lx_sx hA h2 h1.1, h2.1, (lx_eq h1 h2 hA (by decide) rfl hE rfl rfl hR.1), (lx_eq h1 h2 hA (by decide) rfl hE rfl rfl hR.2.1), (lx_eq h1 h2 hA (by decide) rfl hE rfl rfl hR.2.2)⟩
  repeat' first
    | (refine (?_ : am_wp _ _ _ _ _ _ _ _ _ _ _ _); conv => whnf)
    | refine And.intro trivial ?_
    | exact hH _ hI2
    | refine And.intro (fun _ => ?_) (fun hne => absurd ?_ hne)
    | refine And.intro (fun hne => absurd ?_ hne) (fun _ => ?_)
theorem lx_c5 {l : Launch} {L : Nat} {xs : Nat → Int} {i : Int} (hX : lx_X xs) (hL : L ≤ 2560) (i0 : 0 ≤ i) (i1 : i ≤ (L : Int) - 5) (hH : lx_H l L xs i) (μ : am_N) (hI : lx_I μ) : am_AW l L xs 0 lx_Q 401 [some (.inr (.inr 999)), some (.inr (.inr 0)), some (.inr (.inr 83)), some (.inl i)] [] μ := by
  have iL : (L : Int) ≤ 2560 := by omega
  have ix : ∀ k : Int, 0 ≤ k → k ≤ 4 → 0 ≤ am_c (i + k) ∧ am_c (i + k) < L := fun k h0 h1 => by rw [am_cR (by omega) (by omega)]; omega
  refine am_go (ct := fun pc => Nat.beq pc 1662) am_oL_law 60 ?_
  conv => whnf
  repeat' first
    | (refine (?_ : am_wp _ _ _ _ _ _ _ _ _ _ _ _); conv => whnf)
    | refine And.intro ⟨rfl, rfl⟩ ?_
    | refine And.intro (ix _ (by decide) (by decide)) ?_
    | refine And.intro trivial ?_
    | refine v_set_X6 _ _ hI.1 (hX _).1 (hX _).2 (hX _).1 (hX _).2 (fun r1 μ1 h1 => ?_)
  have hE : lx_E [1, 62] := lx_c rfl
  have hm1 := lx_mi hE h1 hI.2.1
  repeat' first
    | (refine (?_ : am_wp _ _ _ _ _ _ _ _ _ _ _ _); conv => whnf)
    | refine And.intro ⟨rfl, rfl⟩ ?_
    | refine And.intro (ix _ (by decide) (by decide)) ?_
    | refine And.intro trivial ?_
    | refine m_set _ _ hm1 (hX _).1 (hX _).2 (hX _).1 (hX _).2 (fun r2 μ2 h2 => ?_)
  have hA : lx_A mX := (lx_Ao lx_A0 lx_X1)
  obtain ⟨e1, e2⟩ := lx_eqs h1 h2 hA hE
  have hR := hI.2.2
  have hI2 : lx_I μ2 := ⟨lx_sx hA h2 h1.1, h2.1, (lx_eq h1 h2 hA (by decide) rfl hE rfl rfl hR.1), (lx_eq h1 h2 hA (by decide) rfl hE rfl rfl hR.2.1), (lx_eq h1 h2 hA (by decide) rfl hE rfl rfl hR.2.2)⟩
  repeat' first
    | (refine (?_ : am_wp _ _ _ _ _ _ _ _ _ _ _ _); conv => whnf)
    | refine And.intro trivial ?_
    | exact hH _ hI2
    | refine And.intro (fun _ => ?_) (fun hne => absurd ?_ hne)
    | refine And.intro (fun hne => absurd ?_ hne) (fun _ => ?_)
theorem lx_c6 {l : Launch} {L : Nat} {xs : Nat → Int} {i : Int} (hX : lx_X xs) (hL : L ≤ 2560) (i0 : 0 ≤ i) (i1 : i ≤ (L : Int) - 5) (hH : lx_H l L xs i) (μ : am_N) (hI : lx_I μ) : am_AW l L xs 0 lx_Q 434 [some (.inr (.inr 999)), some (.inr (.inr 0)), some (.inr (.inr 83)), some (.inl i)] [] μ := by
  have iL : (L : Int) ≤ 2560 := by omega
  have ix : ∀ k : Int, 0 ≤ k → k ≤ 4 → 0 ≤ am_c (i + k) ∧ am_c (i + k) < L := fun k h0 h1 => by rw [am_cR (by omega) (by omega)]; omega
  refine am_go (ct := fun pc => Nat.beq pc 1662) am_oL_law 60 ?_
  conv => whnf
  repeat' first
    | (refine (?_ : am_wp _ _ _ _ _ _ _ _ _ _ _ _); conv => whnf)
    | refine And.intro ⟨rfl, rfl⟩ ?_
    | refine And.intro (ix _ (by decide) (by decide)) ?_
    | refine And.intro trivial ?_
    | refine v_run_X6  hI.1  (fun r1 μ1 h1 => ?_)
  have hE : lx_E [1, 6, 7, 62, 63, 64, 65, 66, 67, 68, 69, 70, 71, 72, 73, 74, 75, 76, 77] := lx_c rfl
  have hm1 := lx_mi hE h1 hI.2.1
  repeat' first
    | (refine (?_ : am_wp _ _ _ _ _ _ _ _ _ _ _ _); conv => whnf)
    | refine And.intro ⟨rfl, rfl⟩ ?_
    | refine And.intro (ix _ (by decide) (by decide)) ?_
    | refine And.intro trivial ?_
    | refine m_run  hm1  (fun r2 μ2 h2 => ?_)
  have hA : lx_A mKR := (lx_Ao (lx_Ao lx_A0 lx_K1) lx_R1)
  obtain ⟨e1, e2⟩ := lx_eqs h1 h2 hA hE
  have hR := hI.2.2
  have hI2 : lx_I μ2 := ⟨lx_sx hA h2 h1.1, h2.1, (lx_eq h1 h2 hA (by decide) rfl hE rfl rfl hR.1), (lx_eq h1 h2 hA (by decide) rfl hE rfl rfl hR.2.1), (lx_eq h1 h2 hA (by decide) rfl hE rfl rfl hR.2.2)⟩
  repeat' first
    | (refine (?_ : am_wp _ _ _ _ _ _ _ _ _ _ _ _); conv => whnf)
    | refine And.intro trivial ?_
    | exact hH _ hI2
    | refine And.intro (fun _ => ?_) (fun hne => absurd ?_ hne)
    | refine And.intro (fun hne => absurd ?_ hne) (fun _ => ?_)
theorem lx_c7 {l : Launch} {L : Nat} {xs : Nat → Int} {i : Int} (hX : lx_X xs) (hL : L ≤ 2560) (i0 : 0 ≤ i) (i1 : i ≤ (L : Int) - 5) (hH : lx_H l L xs i) (μ : am_N) (hI : lx_I μ) : am_AW l L xs 0 lx_Q 447 [some (.inr (.inr 999)), some (.inr (.inr 0)), some (.inr (.inr 83)), some (.inl i)] [] μ := by
  have iL : (L : Int) ≤ 2560 := by omega
  have ix : ∀ k : Int, 0 ≤ k → k ≤ 4 → 0 ≤ am_c (i + k) ∧ am_c (i + k) < L := fun k h0 h1 => by rw [am_cR (by omega) (by omega)]; omega
  refine am_go (ct := fun pc => Nat.beq pc 1662) am_oL_law 60 ?_
  conv => whnf
  repeat' first
    | (refine (?_ : am_wp _ _ _ _ _ _ _ _ _ _ _ _); conv => whnf)
    | refine And.intro ⟨rfl, rfl⟩ ?_
    | refine And.intro (ix _ (by decide) (by decide)) ?_
    | refine And.intro trivial ?_
    | refine w_order_X6 (ν := μ)  hI.1  (fun r1 μ1 h0 => ?_)
  have h1 := gv_of_sx h0
  have hE : lx_E [] := lx_c rfl
  have hm1 := lx_mi hE h1 hI.2.1
  repeat' first
    | (refine (?_ : am_wp _ _ _ _ _ _ _ _ _ _ _ _); conv => whnf)
    | refine And.intro ⟨rfl, rfl⟩ ?_
    | refine And.intro (ix _ (by decide) (by decide)) ?_
    | refine And.intro trivial ?_
    | refine m_order  hm1  (fun r2 μ2 h2 => ?_)
  have hA : lx_A ms := lx_A0
  obtain ⟨e1, e2⟩ := lx_eqs h1 h2 hA hE
  have hR := hI.2.2
  have hI2 : lx_I μ2 := ⟨lx_sx hA h2 h1.1, h2.1, (lx_eq h1 h2 hA (by decide) rfl hE rfl rfl hR.1), (lx_eq h1 h2 hA (by decide) rfl hE rfl rfl hR.2.1), (lx_eq h1 h2 hA (by decide) rfl hE rfl rfl hR.2.2)⟩
  repeat' first
    | (refine (?_ : am_wp _ _ _ _ _ _ _ _ _ _ _ _); conv => whnf)
    | refine And.intro trivial ?_
    | exact hH _ hI2
    | refine And.intro (fun _ => ?_) (fun hne => absurd ?_ hne)
    | refine And.intro (fun hne => absurd ?_ hne) (fun _ => ?_)
theorem lx_c8 {l : Launch} {L : Nat} {xs : Nat → Int} {i : Int} (hX : lx_X xs) (hL : L ≤ 2560) (i0 : 0 ≤ i) (i1 : i ≤ (L : Int) - 5) (hH : lx_H l L xs i) (μ : am_N) (hI : lx_I μ) : am_AW l L xs 0 lx_Q 460 [some (.inr (.inr 999)), some (.inr (.inr 0)), some (.inr (.inr 83)), some (.inl i)] [] μ := by
  have iL : (L : Int) ≤ 2560 := by omega
  have ix : ∀ k : Int, 0 ≤ k → k ≤ 4 → 0 ≤ am_c (i + k) ∧ am_c (i + k) < L := fun k h0 h1 => by rw [am_cR (by omega) (by omega)]; omega
  refine am_go (ct := fun pc => Nat.beq pc 1662) am_oL_law 60 ?_
  conv => whnf
  repeat' first
    | (refine (?_ : am_wp _ _ _ _ _ _ _ _ _ _ _ _); conv => whnf)
    | refine And.intro ⟨rfl, rfl⟩ ?_
    | refine And.intro (ix _ (by decide) (by decide)) ?_
    | refine And.intro trivial ?_
    | refine w_likely_X6 (ν := μ) _ _ hI.1 (hX _).1 (hX _).2 (hX _).1 (hX _).2 (fun r1 μ1 h0 => ?_)
  have h1 := gv_of_sx h0
  have hE : lx_E [] := lx_c rfl
  have hm1 := lx_mi hE h1 hI.2.1
  repeat' first
    | (refine (?_ : am_wp _ _ _ _ _ _ _ _ _ _ _ _); conv => whnf)
    | refine And.intro ⟨rfl, rfl⟩ ?_
    | refine And.intro (ix _ (by decide) (by decide)) ?_
    | refine And.intro trivial ?_
    | refine m_likely _ _ hm1 (hX _).1 (hX _).2 (hX _).1 (hX _).2 (fun r2 μ2 h2 => ?_)
  have hA : lx_A ms := lx_A0
  obtain ⟨e1, e2⟩ := lx_eqs h1 h2 hA hE
  have hR := hI.2.2
  have hI2 : lx_I μ2 := ⟨lx_sx hA h2 h1.1, h2.1, (lx_eq h1 h2 hA (by decide) rfl hE rfl rfl hR.1), (lx_eq h1 h2 hA (by decide) rfl hE rfl rfl hR.2.1), (lx_eq h1 h2 hA (by decide) rfl hE rfl rfl hR.2.2)⟩
  repeat' first
    | (refine (?_ : am_wp _ _ _ _ _ _ _ _ _ _ _ _); conv => whnf)
    | refine And.intro trivial ?_
    | exact hH _ hI2
    | refine And.intro (fun _ => ?_) (fun hne => absurd ?_ hne)
    | refine And.intro (fun hne => absurd ?_ hne) (fun _ => ?_)
theorem lx_c9 {l : Launch} {L : Nat} {xs : Nat → Int} {i : Int} (hX : lx_X xs) (hL : L ≤ 2560) (i0 : 0 ≤ i) (i1 : i ≤ (L : Int) - 5) (hH : lx_H l L xs i) (μ : am_N) (hI : lx_I μ) : am_AW l L xs 0 lx_Q 493 [some (.inr (.inr 999)), some (.inr (.inr 0)), some (.inr (.inr 83)), some (.inl i)] [] μ := by
  have iL : (L : Int) ≤ 2560 := by omega
  have ix : ∀ k : Int, 0 ≤ k → k ≤ 4 → 0 ≤ am_c (i + k) ∧ am_c (i + k) < L := fun k h0 h1 => by rw [am_cR (by omega) (by omega)]; omega
  refine am_go (ct := fun pc => Nat.beq pc 1662) am_oL_law 60 ?_
  conv => whnf
  repeat' first
    | (refine (?_ : am_wp _ _ _ _ _ _ _ _ _ _ _ _); conv => whnf)
    | refine And.intro ⟨rfl, rfl⟩ ?_
    | refine And.intro (ix _ (by decide) (by decide)) ?_
    | refine And.intro trivial ?_
    | refine w_ordered_X6 (ν := μ) _ _ hI.1 (hX _).1 (hX _).2 (hX _).1 (hX _).2 (fun r1 μ1 h0 => ?_)
  have h1 := gv_of_sx h0
  have hE : lx_E [] := lx_c rfl
  have hm1 := lx_mi hE h1 hI.2.1
  repeat' first
    | (refine (?_ : am_wp _ _ _ _ _ _ _ _ _ _ _ _); conv => whnf)
    | refine And.intro ⟨rfl, rfl⟩ ?_
    | refine And.intro (ix _ (by decide) (by decide)) ?_
    | refine And.intro trivial ?_
    | refine m_ordered _ _ hm1 (hX _).1 (hX _).2 (hX _).1 (hX _).2 (fun r2 μ2 h2 => ?_)
  have hA : lx_A ms := lx_A0
  obtain ⟨e1, e2⟩ := lx_eqs h1 h2 hA hE
  have hR := hI.2.2
  have hI2 : lx_I μ2 := ⟨lx_sx hA h2 h1.1, h2.1, (lx_eq h1 h2 hA (by decide) rfl hE rfl rfl hR.1), (lx_eq h1 h2 hA (by decide) rfl hE rfl rfl hR.2.1), (lx_eq h1 h2 hA (by decide) rfl hE rfl rfl hR.2.2)⟩
  repeat' first
    | (refine (?_ : am_wp _ _ _ _ _ _ _ _ _ _ _ _); conv => whnf)
    | refine And.intro trivial ?_
    | exact hH _ hI2
    | refine And.intro (fun _ => ?_) (fun hne => absurd ?_ hne)
    | refine And.intro (fun hne => absurd ?_ hne) (fun _ => ?_)
theorem lx_c10 {l : Launch} {L : Nat} {xs : Nat → Int} {i : Int} (hX : lx_X xs) (hL : L ≤ 2560) (i0 : 0 ≤ i) (i1 : i ≤ (L : Int) - 5) (hH : lx_H l L xs i) (μ : am_N) (hI : lx_I μ) : am_AW l L xs 0 lx_Q 526 [some (.inr (.inr 999)), some (.inr (.inr 0)), some (.inr (.inr 83)), some (.inl i)] [] μ := by
  have iL : (L : Int) ≤ 2560 := by omega
  have ix : ∀ k : Int, 0 ≤ k → k ≤ 4 → 0 ≤ am_c (i + k) ∧ am_c (i + k) < L := fun k h0 h1 => by rw [am_cR (by omega) (by omega)]; omega
  refine am_go (ct := fun pc => Nat.beq pc 1662) am_oL_law 60 ?_
  conv => whnf
  repeat' first
    | (refine (?_ : am_wp _ _ _ _ _ _ _ _ _ _ _ _); conv => whnf)
    | refine And.intro ⟨rfl, rfl⟩ ?_
    | refine And.intro (ix _ (by decide) (by decide)) ?_
    | refine And.intro trivial ?_
    | refine w_close_X6 (ν := μ) _ _ hI.1 (hX _).1 (hX _).2 (hX _).1 (hX _).2 (fun r1 μ1 h0 => ?_)
  have h1 := gv_of_sx h0
  have hE : lx_E [] := lx_c rfl
  have hm1 := lx_mi hE h1 hI.2.1
  repeat' first
    | (refine (?_ : am_wp _ _ _ _ _ _ _ _ _ _ _ _); conv => whnf)
    | refine And.intro ⟨rfl, rfl⟩ ?_
    | refine And.intro (ix _ (by decide) (by decide)) ?_
    | refine And.intro trivial ?_
    | refine m_close _ _ hm1 (hX _).1 (hX _).2 (hX _).1 (hX _).2 (fun r2 μ2 h2 => ?_)
  have hA : lx_A ms := lx_A0
  obtain ⟨e1, e2⟩ := lx_eqs h1 h2 hA hE
  have hR := hI.2.2
  have hI2 : lx_I μ2 := ⟨lx_sx hA h2 h1.1, h2.1, (lx_eq h1 h2 hA (by decide) rfl hE rfl rfl hR.1), (lx_eq h1 h2 hA (by decide) rfl hE rfl rfl hR.2.1), (lx_eq h1 h2 hA (by decide) rfl hE rfl rfl hR.2.2)⟩
  repeat' first
    | (refine (?_ : am_wp _ _ _ _ _ _ _ _ _ _ _ _); conv => whnf)
    | refine And.intro trivial ?_
    | exact hH _ hI2
    | refine And.intro (fun _ => ?_) (fun hne => absurd ?_ hne)
    | refine And.intro (fun hne => absurd ?_ hne) (fun _ => ?_)
theorem lx_c11 {l : Launch} {L : Nat} {xs : Nat → Int} {i : Int} (hX : lx_X xs) (hL : L ≤ 2560) (i0 : 0 ≤ i) (i1 : i ≤ (L : Int) - 5) (hH : lx_H l L xs i) (μ : am_N) (hI : lx_I μ) : am_AW l L xs 0 lx_Q 559 [some (.inr (.inr 999)), some (.inr (.inr 0)), some (.inr (.inr 83)), some (.inl i)] [] μ := by
  have iL : (L : Int) ≤ 2560 := by omega
  have ix : ∀ k : Int, 0 ≤ k → k ≤ 4 → 0 ≤ am_c (i + k) ∧ am_c (i + k) < L := fun k h0 h1 => by rw [am_cR (by omega) (by omega)]; omega
  refine am_go (ct := fun pc => Nat.beq pc 1662) am_oL_law 60 ?_
  conv => whnf
  repeat' first
    | (refine (?_ : am_wp _ _ _ _ _ _ _ _ _ _ _ _); conv => whnf)
    | refine And.intro ⟨rfl, rfl⟩ ?_
    | refine And.intro (ix _ (by decide) (by decide)) ?_
    | refine And.intro trivial ?_
    | refine w_sure_X6 (ν := μ) _ hI.1 (hX _).1 (hX _).2 (fun r1 μ1 h0 => ?_)
  have h1 := gv_of_sx h0
  have hE : lx_E [] := lx_c rfl
  have hm1 := lx_mi hE h1 hI.2.1
  repeat' first
    | (refine (?_ : am_wp _ _ _ _ _ _ _ _ _ _ _ _); conv => whnf)
    | refine And.intro ⟨rfl, rfl⟩ ?_
    | refine And.intro (ix _ (by decide) (by decide)) ?_
    | refine And.intro trivial ?_
    | refine m_sure _ hm1 (hX _).1 (hX _).2 (fun r2 μ2 h2 => ?_)
  have hA : lx_A ms := lx_A0
  obtain ⟨e1, e2⟩ := lx_eqs h1 h2 hA hE
  have hR := hI.2.2
  have hI2 : lx_I μ2 := ⟨lx_sx hA h2 h1.1, h2.1, (lx_eq h1 h2 hA (by decide) rfl hE rfl rfl hR.1), (lx_eq h1 h2 hA (by decide) rfl hE rfl rfl hR.2.1), (lx_eq h1 h2 hA (by decide) rfl hE rfl rfl hR.2.2)⟩
  repeat' first
    | (refine (?_ : am_wp _ _ _ _ _ _ _ _ _ _ _ _); conv => whnf)
    | refine And.intro trivial ?_
    | exact hH _ hI2
    | refine And.intro (fun _ => ?_) (fun hne => absurd ?_ hne)
    | refine And.intro (fun hne => absurd ?_ hne) (fun _ => ?_)
theorem lx_c12 {l : Launch} {L : Nat} {xs : Nat → Int} {i : Int} (hX : lx_X xs) (hL : L ≤ 2560) (i0 : 0 ≤ i) (i1 : i ≤ (L : Int) - 5) (hH : lx_H l L xs i) (μ : am_N) (hI : lx_I μ) : am_AW l L xs 0 lx_Q 582 [some (.inr (.inr 999)), some (.inr (.inr 0)), some (.inr (.inr 83)), some (.inl i)] [] μ := by
  have iL : (L : Int) ≤ 2560 := by omega
  have ix : ∀ k : Int, 0 ≤ k → k ≤ 4 → 0 ≤ am_c (i + k) ∧ am_c (i + k) < L := fun k h0 h1 => by rw [am_cR (by omega) (by omega)]; omega
  refine am_go (ct := fun pc => Nat.beq pc 1662) am_oL_law 60 ?_
  conv => whnf
  repeat' first
    | (refine (?_ : am_wp _ _ _ _ _ _ _ _ _ _ _ _); conv => whnf)
    | refine And.intro ⟨rfl, rfl⟩ ?_
    | refine And.intro (ix _ (by decide) (by decide)) ?_
    | refine And.intro trivial ?_
    | refine w_even_X6 (ν := μ) _ _ hI.1 (hX _).1 (hX _).2 (hX _).1 (hX _).2 (fun r1 μ1 h0 => ?_)
  have h1 := gv_of_sx h0
  have hE : lx_E [] := lx_c rfl
  have hm1 := lx_mi hE h1 hI.2.1
  repeat' first
    | (refine (?_ : am_wp _ _ _ _ _ _ _ _ _ _ _ _); conv => whnf)
    | refine And.intro ⟨rfl, rfl⟩ ?_
    | refine And.intro (ix _ (by decide) (by decide)) ?_
    | refine And.intro trivial ?_
    | refine m_even _ _ hm1 (hX _).1 (hX _).2 (hX _).1 (hX _).2 (fun r2 μ2 h2 => ?_)
  have hA : lx_A ms := lx_A0
  obtain ⟨e1, e2⟩ := lx_eqs h1 h2 hA hE
  have hR := hI.2.2
  have hI2 : lx_I μ2 := ⟨lx_sx hA h2 h1.1, h2.1, (lx_eq h1 h2 hA (by decide) rfl hE rfl rfl hR.1), (lx_eq h1 h2 hA (by decide) rfl hE rfl rfl hR.2.1), (lx_eq h1 h2 hA (by decide) rfl hE rfl rfl hR.2.2)⟩
  repeat' first
    | (refine (?_ : am_wp _ _ _ _ _ _ _ _ _ _ _ _); conv => whnf)
    | refine And.intro trivial ?_
    | exact hH _ hI2
    | refine And.intro (fun _ => ?_) (fun hne => absurd ?_ hne)
    | refine And.intro (fun hne => absurd ?_ hne) (fun _ => ?_)
