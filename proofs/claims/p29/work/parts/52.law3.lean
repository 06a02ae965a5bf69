/-! the law: cases -/
theorem lx_c26 {l : Launch} {L : Nat} {xs : Nat → Int} {i : Int} (hX : lx_X xs) (hL : L ≤ 2560) (i0 : 0 ≤ i) (i1 : i ≤ (L : Int) - 5) (hH : lx_H l L xs i) (μ : am_N) (hI : lx_I μ) : am_AW l L xs 0 lx_Q 974 [some (.inr (.inr 999)), some (.inr (.inr 0)), some (.inr (.inr 83)), some (.inl i)] [] μ := by
  have iL : (L : Int) ≤ 2560 := by omega
  have ix : ∀ k : Int, 0 ≤ k → k ≤ 4 → 0 ≤ am_c (i + k) ∧ am_c (i + k) < L := fun k h0 h1 => by rw [am_cR (by omega) (by omega)]; omega
  refine am_go (ct := fun pc => Nat.beq pc 1662) am_oL_law 60 ?_
  conv => whnf
  repeat' first
    | (refine (?_ : am_wp _ _ _ _ _ _ _ _ _ _ _ _); conv => whnf)
    | refine And.intro ⟨rfl, rfl⟩ ?_
    | refine And.intro (ix _ (by decide) (by decide)) ?_
    | refine And.intro trivial ?_
    | refine v_judge_X6  hI.1  (fun r1 μ1 h1 f0 => ?_)
  have hE : lx_E [44] := lx_c rfl
  have hm1 := lx_mi hE h1 hI.2.1
  repeat' first
    | (refine (?_ : am_wp _ _ _ _ _ _ _ _ _ _ _ _); conv => whnf)
    | refine And.intro ⟨rfl, rfl⟩ ?_
    | refine And.intro (ix _ (by decide) (by decide)) ?_
    | refine And.intro trivial ?_
    | refine m_judge  hm1  (fun r2 μ2 h2 g0 => ?_)
  have hA : lx_A (mo mQ (m1o 83000 42)) := (lx_Ao (lx_Ao lx_A0 lx_Q1) (lx_mo (by decide)))
  obtain ⟨e1, e2⟩ := lx_eqs h1 h2 hA hE
  have hR := hI.2.2
  have hI2 : lx_I μ2 := ⟨lx_sx hA h2 h1.1, h2.1, (lx_eq h1 h2 hA (by decide) rfl hE rfl rfl hR.1), (by
    have x1 := e1 42
    have x2 := e2 44 (by decide)
    have x3 := hR.2.1
    omega), (lx_eq h1 h2 hA (by decide) rfl hE rfl rfl hR.2.2)⟩
  repeat' first
    | (refine (?_ : am_wp _ _ _ _ _ _ _ _ _ _ _ _); conv => whnf)
    | refine And.intro trivial ?_
    | exact hH _ hI2
    | refine And.intro (fun _ => ?_) (fun hne => absurd ?_ hne)
    | refine And.intro (fun hne => absurd ?_ hne) (fun _ => ?_)
theorem lx_c27 {l : Launch} {L : Nat} {xs : Nat → Int} {i : Int} (hX : lx_X xs) (hL : L ≤ 2560) (i0 : 0 ≤ i) (i1 : i ≤ (L : Int) - 5) (hH : lx_H l L xs i) (μ : am_N) (hI : lx_I μ) : am_AW l L xs 0 lx_Q 987 [some (.inr (.inr 999)), some (.inr (.inr 0)), some (.inr (.inr 83)), some (.inl i)] [] μ := by
  have iL : (L : Int) ≤ 2560 := by omega
  have ix : ∀ k : Int, 0 ≤ k → k ≤ 4 → 0 ≤ am_c (i + k) ∧ am_c (i + k) < L := fun k h0 h1 => by rw [am_cR (by omega) (by omega)]; omega
  refine am_go (ct := fun pc => Nat.beq pc 1662) am_oL_law 60 ?_
  conv => whnf
  repeat' first
    | (refine (?_ : am_wp _ _ _ _ _ _ _ _ _ _ _ _); conv => whnf)
    | refine And.intro ⟨rfl, rfl⟩ ?_
    | refine And.intro (ix _ (by decide) (by decide)) ?_
    | refine And.intro trivial ?_
    | refine v_clear_X6  hI.1  (fun r1 μ1 h1 f0 f1 => ?_)
  have hE : lx_E [44] := lx_c rfl
  have hm1 := lx_mi hE h1 hI.2.1
  repeat' first
    | (refine (?_ : am_wp _ _ _ _ _ _ _ _ _ _ _ _); conv => whnf)
    | refine And.intro ⟨rfl, rfl⟩ ?_
    | refine And.intro (ix _ (by decide) (by decide)) ?_
    | refine And.intro trivial ?_
    | refine m_clear  hm1  (fun r2 μ2 h2 g0 g1 => ?_)
  have hA : lx_A (mo ms (m1o 83000 42)) := (lx_Ao lx_A0 (lx_mo (by decide)))
  obtain ⟨e1, e2⟩ := lx_eqs h1 h2 hA hE
  have hR := hI.2.2
  have hI2 : lx_I μ2 := ⟨lx_sx hA h2 h1.1, h2.1, (lx_eq h1 h2 hA (by decide) rfl hE rfl rfl hR.1), (by
    have x1 := e1 42
    have x2 := e2 44 (by decide)
    have x3 := hR.2.1
    omega), (lx_eq h1 h2 hA (by decide) rfl hE rfl rfl hR.2.2)⟩
  repeat' first
    | (refine (?_ : am_wp _ _ _ _ _ _ _ _ _ _ _ _); conv => whnf)
    | refine And.intro trivial ?_
    | exact hH _ hI2
    | refine And.intro (fun _ => ?_) (fun hne => absurd ?_ hne)
    | refine And.intro (fun hne => absurd ?_ hne) (fun _ => ?_)
  all_goals (
    have x1 := e1 42
    have x3 := hR.2.1
    have hr : r1 = r2 := by omega
    rw [hr])
theorem lx_c28 {l : Launch} {L : Nat} {xs : Nat → Int} {i : Int} (hX : lx_X xs) (hL : L ≤ 2560) (i0 : 0 ≤ i) (i1 : i ≤ (L : Int) - 5) (hH : lx_H l L xs i) (μ : am_N) (hI : lx_I μ) : am_AW l L xs 0 lx_Q 1000 [some (.inr (.inr 999)), some (.inr (.inr 0)), some (.inr (.inr 83)), some (.inl i)] [] μ := by
  have iL : (L : Int) ≤ 2560 := by omega
  have ix : ∀ k : Int, 0 ≤ k → k ≤ 4 → 0 ≤ am_c (i + k) ∧ am_c (i + k) < L := fun k h0 h1 => by rw [am_cR (by omega) (by omega)]; omega
  refine am_go (ct := fun pc => Nat.beq pc 1662) am_oL_law 60 ?_
  conv => whnf
  repeat' first
    | (refine (?_ : am_wp _ _ _ _ _ _ _ _ _ _ _ _); conv => whnf)
    | refine And.intro ⟨rfl, rfl⟩ ?_
    | refine And.intro (ix _ (by decide) (by decide)) ?_
    | refine And.intro trivial ?_
    | refine w_seeds_X6 (ν := μ) _ _ _ _ hI.1 (hX _).1 (hX _).2 (hX _).1 (hX _).2 (hX _).1 (hX _).2 (hX _).1 (hX _).2 (fun r1 μ1 h0 => ?_)
  have h1 := gv_of_sx h0
  have hE : lx_E [] := lx_c rfl
  have hm1 := lx_mi hE h1 hI.2.1
  repeat' first
    | (refine (?_ : am_wp _ _ _ _ _ _ _ _ _ _ _ _); conv => whnf)
    | refine And.intro ⟨rfl, rfl⟩ ?_
    | refine And.intro (ix _ (by decide) (by decide)) ?_
    | refine And.intro trivial ?_
    | refine m_seeds _ _ _ _ hm1 (hX _).1 (hX _).2 (hX _).1 (hX _).2 (hX _).1 (hX _).2 (hX _).1 (hX _).2 (fun r2 μ2 h2 => ?_)
  have hA : lx_A mQ := (lx_Ao lx_A0 lx_Q1)
  obtain ⟨e1, e2⟩ := lx_eqs h1 h2 hA hE
  have hR := hI.2.2
  have hI2 : lx_I μ2 := ⟨lx_sx hA h2 h1.1, h2.1, (lx_eq h1 h2 hA (by decide) rfl hE rfl rfl hR.1), (lx_eq h1 h2 hA (by decide) rfl hE rfl rfl hR.2.1), (lx_eq h1 h2 hA (by decide) rfl hE rfl rfl hR.2.2)⟩
  repeat' first
    | (refine (?_ : am_wp _ _ _ _ _ _ _ _ _ _ _ _); conv => whnf)
    | refine And.intro trivial ?_
    | exact hH _ hI2
    | refine And.intro (fun _ => ?_) (fun hne => absurd ?_ hne)
    | refine And.intro (fun hne => absurd ?_ hne) (fun _ => ?_)
theorem lx_c29 {l : Launch} {L : Nat} {xs : Nat → Int} {i : Int} (hX : lx_X xs) (hL : L ≤ 2560) (i0 : 0 ≤ i) (i1 : i ≤ (L : Int) - 5) (hH : lx_H l L xs i) (μ : am_N) (hI : lx_I μ) : am_AW l L xs 0 lx_Q 1053 [some (.inr (.inr 999)), some (.inr (.inr 0)), some (.inr (.inr 83)), some (.inl i)] [] μ := by
  have iL : (L : Int) ≤ 2560 := by omega
  have ix : ∀ k : Int, 0 ≤ k → k ≤ 4 → 0 ≤ am_c (i + k) ∧ am_c (i + k) < L := fun k h0 h1 => by rw [am_cR (by omega) (by omega)]; omega
  refine am_go (ct := fun pc => Nat.beq pc 1662) am_oL_law 60 ?_
  conv => whnf
  repeat' first
    | (refine (?_ : am_wp _ _ _ _ _ _ _ _ _ _ _ _); conv => whnf)
    | refine And.intro ⟨rfl, rfl⟩ ?_
    | refine And.intro (ix _ (by decide) (by decide)) ?_
    | refine And.intro trivial ?_
    | refine v_back_X6  hI.1  (fun r1 μ1 h1 => ?_)
  have hE : lx_E [1, 6, 7, 62] := lx_c rfl
  have hm1 := lx_mi hE h1 hI.2.1
  repeat' first
    | (refine (?_ : am_wp _ _ _ _ _ _ _ _ _ _ _ _); conv => whnf)
    | refine And.intro ⟨rfl, rfl⟩ ?_
    | refine And.intro (ix _ (by decide) (by decide)) ?_
    | refine And.intro trivial ?_
    | refine m_back  hm1  (fun r2 μ2 h2 => ?_)
  have hA : lx_A mKR := (lx_Ao (lx_Ao lx_A0 lx_K1) lx_R1)
  obtain ⟨e1, e2⟩ := lx_eqs h1 h2 hA hE
  have hR := hI.2.2
  have hI2 : lx_I μ2 := ⟨lx_sx hA h2 h1.1, h2.1, (lx_eq h1 h2 hA (by decide) rfl hE rfl rfl hR.1), (lx_eq h1 h2 hA (by decide) rfl hE rfl rfl hR.2.1), (lx_eq h1 h2 hA (by decide) rfl hE rfl rfl hR.2.2)⟩
  repeat' first
    | (refine (?_ : am_wp _ _ _ _ _ _ _ _ _ _ _ _); conv => whnf)
    | refine And.intro trivial ?_
    | exact hH _ hI2
    | refine And.intro (fun _ => ?_) (fun hne => absurd ?_ hne)
    | refine And.intro (fun hne => absurd ?_ hne) (fun _ => ?_)
theorem lx_c30 {l : Launch} {L : Nat} {xs : Nat → Int} {i : Int} (hX : lx_X xs) (hL : L ≤ 2560) (i0 : 0 ≤ i) (i1 : i ≤ (L : Int) - 5) (hH : lx_H l L xs i) (μ : am_N) (hI : lx_I μ) : am_AW l L xs 0 lx_Q 1066 [some (.inr (.inr 999)), some (.inr (.inr 0)), some (.inr (.inr 83)), some (.inl i)] [] μ := by
  have iL : (L : Int) ≤ 2560 := by omega
  have ix : ∀ k : Int, 0 ≤ k → k ≤ 4 → 0 ≤ am_c (i + k) ∧ am_c (i + k) < L := fun k h0 h1 => by rw [am_cR (by omega) (by omega)]; omega
  refine am_go (ct := fun pc => Nat.beq pc 1662) am_oL_law 60 ?_
  conv => whnf
  repeat' first
    | (refine (?_ : am_wp _ _ _ _ _ _ _ _ _ _ _ _); conv => whnf)
    | refine And.intro ⟨rfl, rfl⟩ ?_
    | refine And.intro (ix _ (by decide) (by decide)) ?_
    | refine And.intro trivial ?_
    | refine v_bag_X6 _ hI.1 (hX _).1 (hX _).2 (fun r1 μ1 h1 f0 => ?_)
  have hE : lx_E [48, 49] := lx_c rfl
  have hm1 := lx_mi hE h1 hI.2.1
  repeat' first
    | (refine (?_ : am_wp _ _ _ _ _ _ _ _ _ _ _ _); conv => whnf)
    | refine And.intro ⟨rfl, rfl⟩ ?_
    | refine And.intro (ix _ (by decide) (by decide)) ?_
    | refine And.intro trivial ?_
    | refine m_bag _ hm1 (hX _).1 (hX _).2 (fun r2 μ2 h2 g0 => ?_)
  have hA : lx_A (mo ms (m1o 91 15)) := (lx_Ao lx_A0 (lx_mo (by decide)))
  obtain ⟨e1, e2⟩ := lx_eqs h1 h2 hA hE
  have hR := hI.2.2
  have hI2 : lx_I μ2 := ⟨lx_sx hA h2 h1.1, h2.1, (lx_eq h1 h2 hA (by decide) rfl hE rfl rfl hR.1), (lx_eq h1 h2 hA (by decide) rfl hE rfl rfl hR.2.1), (lx_eq h1 h2 hA (by decide) rfl hE rfl rfl hR.2.2)⟩
  repeat' first
    | (refine (?_ : am_wp _ _ _ _ _ _ _ _ _ _ _ _); conv => whnf)
    | refine And.intro trivial ?_
    | exact hH _ hI2
    | refine And.intro (fun _ => ?_) (fun hne => absurd ?_ hne)
    | refine And.intro (fun hne => absurd ?_ hne) (fun _ => ?_)
theorem lx_c31 {l : Launch} {L : Nat} {xs : Nat → Int} {i : Int} (hX : lx_X xs) (hL : L ≤ 2560) (i0 : 0 ≤ i) (i1 : i ≤ (L : Int) - 5) (hH : lx_H l L xs i) (μ : am_N) (hI : lx_I μ) : am_AW l L xs 0 lx_Q 1089 [some (.inr (.inr 999)), some (.inr (.inr 0)), some (.inr (.inr 83)), some (.inl i)] [] μ := by
  have iL : (L : Int) ≤ 2560 := by omega
  have ix : ∀ k : Int, 0 ≤ k → k ≤ 4 → 0 ≤ am_c (i + k) ∧ am_c (i + k) < L := fun k h0 h1 => by rw [am_cR (by omega) (by omega)]; omega
  refine am_go (ct := fun pc => Nat.beq pc 1662) am_oL_law 60 ?_
  conv => whnf
  repeat' first
    | (refine (?_ : am_wp _ _ _ _ _ _ _ _ _ _ _ _); conv => whnf)
    | refine And.intro ⟨rfl, rfl⟩ ?_
    | refine And.intro (ix _ (by decide) (by decide)) ?_
    | refine And.intro trivial ?_
    | refine v_empty_X6  hI.1  (fun r1 μ1 h1 f0 f1 => ?_)
  have hE : lx_E [48] := lx_c rfl
  have hm1 := lx_mi hE h1 hI.2.1
  repeat' first
    | (refine (?_ : am_wp _ _ _ _ _ _ _ _ _ _ _ _); conv => whnf)
    | refine And.intro ⟨rfl, rfl⟩ ?_
    | refine And.intro (ix _ (by decide) (by decide)) ?_
    | refine And.intro trivial ?_
    | refine m_empty  hm1  (fun r2 μ2 h2 g0 g1 => ?_)
  have hA : lx_A (mo ms (m1o 83000 15)) := (lx_Ao lx_A0 (lx_mo (by decide)))
  obtain ⟨e1, e2⟩ := lx_eqs h1 h2 hA hE
  have hR := hI.2.2
  have hI2 : lx_I μ2 := ⟨lx_sx hA h2 h1.1, h2.1, (lx_eq h1 h2 hA (by decide) rfl hE rfl rfl hR.1), (lx_eq h1 h2 hA (by decide) rfl hE rfl rfl hR.2.1), (lx_eq h1 h2 hA (by decide) rfl hE rfl rfl hR.2.2)⟩
  repeat' first
    | (refine (?_ : am_wp _ _ _ _ _ _ _ _ _ _ _ _); conv => whnf)
    | refine And.intro trivial ?_
    | exact hH _ hI2
    | refine And.intro (fun _ => ?_) (fun hne => absurd ?_ hne)
    | refine And.intro (fun hne => absurd ?_ hne) (fun _ => ?_)
theorem lx_c32 {l : Launch} {L : Nat} {xs : Nat → Int} {i : Int} (hX : lx_X xs) (hL : L ≤ 2560) (i0 : 0 ≤ i) (i1 : i ≤ (L : Int) - 5) (hH : lx_H l L xs i) (μ : am_N) (hI : lx_I μ) : am_AW l L xs 0 lx_Q 1102 [some (.inr (.inr 999)), some (.inr (.inr 0)), some (.inr (.inr 83)), some (.inl i)] [] μ := by
  have iL : (L : Int) ≤ 2560 := by omega
  have ix : ∀ k : Int, 0 ≤ k → k ≤ 4 → 0 ≤ am_c (i + k) ∧ am_c (i + k) < L := fun k h0 h1 => by rw [am_cR (by omega) (by omega)]; omega
  refine am_go (ct := fun pc => Nat.beq pc 1662) am_oL_law 60 ?_
  conv => whnf
  repeat' first
    | (refine (?_ : am_wp _ _ _ _ _ _ _ _ _ _ _ _); conv => whnf)
    | refine And.intro ⟨rfl, rfl⟩ ?_
    | refine And.intro (ix _ (by decide) (by decide)) ?_
    | refine And.intro trivial ?_
    | refine w_bags_X6 (ν := μ) _ _ _ hI.1 (hX _).1 (hX _).2 (hX _).1 (hX _).2 (hX _).1 (hX _).2 (fun r1 μ1 h0 => ?_)
  have h1 := gv_of_sx h0
  have hE : lx_E [] := lx_c rfl
  have hm1 := lx_mi hE h1 hI.2.1
  repeat' first
    | (refine (?_ : am_wp _ _ _ _ _ _ _ _ _ _ _ _); conv => whnf)
    | refine And.intro ⟨rfl, rfl⟩ ?_
    | refine And.intro (ix _ (by decide) (by decide)) ?_
    | refine And.intro trivial ?_
    | refine m_bags _ _ _ hm1 (hX _).1 (hX _).2 (hX _).1 (hX _).2 (hX _).1 (hX _).2 (fun r2 μ2 h2 => ?_)
  have hA : lx_A ms := lx_A0
  obtain ⟨e1, e2⟩ := lx_eqs h1 h2 hA hE
  have hR := hI.2.2
  have hI2 : lx_I μ2 := ⟨lx_sx hA h2 h1.1, h2.1, (lx_eq h1 h2 hA (by decide) rfl hE rfl rfl hR.1), (lx_eq h1 h2 hA (by decide) rfl hE rfl rfl hR.2.1), (lx_eq h1 h2 hA (by decide) rfl hE rfl rfl hR.2.2)⟩
  repeat' first
    | (refine (?_ : am_wp _ _ _ _ _ _ _ _ _ _ _ _); conv => whnf)
    | refine And.intro trivial ?_
    | exact hH _ hI2
    | refine And.intro (fun _ => ?_) (fun hne => absurd ?_ hne)
    | refine And.intro (fun hne => absurd ?_ hne) (fun _ => ?_)
theorem lx_c33 {l : Launch} {L : Nat} {xs : Nat → Int} {i : Int} (hX : lx_X xs) (hL : L ≤ 2560) (i0 : 0 ≤ i) (i1 : i ≤ (L : Int) - 5) (hH : lx_H l L xs i) (μ : am_N) (hI : lx_I μ) : am_AW l L xs 0 lx_Q 1145 [some (.inr (.inr 999)), some (.inr (.inr 0)), some (.inr (.inr 83)), some (.inl i)] [] μ := by
  have iL : (L : Int) ≤ 2560 := by omega
  have ix : ∀ k : Int, 0 ≤ k → k ≤ 4 → 0 ≤ am_c (i + k) ∧ am_c (i + k) < L := fun k h0 h1 => by rw [am_cR (by omega) (by omega)]; omega
  refine am_go (ct := fun pc => Nat.beq pc 1662) am_oL_law 60 ?_
  conv => whnf
  repeat' first
    | (refine (?_ : am_wp _ _ _ _ _ _ _ _ _ _ _ _); conv => whnf)
    | refine And.intro ⟨rfl, rfl⟩ ?_
    | refine And.intro (ix _ (by decide) (by decide)) ?_
    | refine And.intro trivial ?_
    | refine w_ahead_X6 (ν := μ) _ _ hI.1 (hX _).1 (hX _).2 (hX _).1 (hX _).2 (fun r1 μ1 h0 => ?_)
  have h1 := gv_of_sx h0
  have hE : lx_E [] := lx_c rfl
  have hm1 := lx_mi hE h1 hI.2.1
  repeat' first
    | (refine (?_ : am_wp _ _ _ _ _ _ _ _ _ _ _ _); conv => whnf)
    | refine And.intro ⟨rfl, rfl⟩ ?_
    | refine And.intro (ix _ (by decide) (by decide)) ?_
    | refine And.intro trivial ?_
    | refine m_ahead _ _ hm1 (hX _).1 (hX _).2 (hX _).1 (hX _).2 (fun r2 μ2 h2 => ?_)
  have hA : lx_A ms := lx_A0
  obtain ⟨e1, e2⟩ := lx_eqs h1 h2 hA hE
  have hR := hI.2.2
  have hI2 : lx_I μ2 := ⟨lx_sx hA h2 h1.1, h2.1, (lx_eq h1 h2 hA (by decide) rfl hE rfl rfl hR.1), (lx_eq h1 h2 hA (by decide) rfl hE rfl rfl hR.2.1), (lx_eq h1 h2 hA (by decide) rfl hE rfl rfl hR.2.2)⟩
  repeat' first
    | (refine (?_ : am_wp _ _ _ _ _ _ _ _ _ _ _ _); conv => whnf)
    | refine And.intro trivial ?_
    | exact hH _ hI2
    | refine And.intro (fun _ => ?_) (fun hne => absurd ?_ hne)
    | refine And.intro (fun hne => absurd ?_ hne) (fun _ => ?_)
theorem lx_c34 {l : Launch} {L : Nat} {xs : Nat → Int} {i : Int} (hX : lx_X xs) (hL : L ≤ 2560) (i0 : 0 ≤ i) (i1 : i ≤ (L : Int) - 5) (hH : lx_H l L xs i) (μ : am_N) (hI : lx_I μ) : am_AW l L xs 0 lx_Q 1178 [some (.inr (.inr 999)), some (.inr (.inr 0)), some (.inr (.inr 83)), some (.inl i)] [] μ := by
  have iL : (L : Int) ≤ 2560 := by omega
  have ix : ∀ k : Int, 0 ≤ k → k ≤ 4 → 0 ≤ am_c (i + k) ∧ am_c (i + k) < L := fun k h0 h1 => by rw [am_cR (by omega) (by omega)]; omega
  refine am_go (ct := fun pc => Nat.beq pc 1662) am_oL_law 60 ?_
  conv => whnf
  repeat' first
    | (refine (?_ : am_wp _ _ _ _ _ _ _ _ _ _ _ _); conv => whnf)
    | refine And.intro ⟨rfl, rfl⟩ ?_
    | refine And.intro (ix _ (by decide) (by decide)) ?_
    | refine And.intro trivial ?_
    | refine w_cup_X6 (ν := μ) _ _ _ hI.1 (hX _).1 (hX _).2 (hX _).1 (hX _).2 (hX _).1 (hX _).2 (fun r1 μ1 h0 => ?_)
  have h1 := gv_of_sx h0
  have hE : lx_E [] := lx_c rfl
  have hm1 := lx_mi hE h1 hI.2.1
  repeat' first
    | (refine (?_ : am_wp _ _ _ _ _ _ _ _ _ _ _ _); conv => whnf)
    | refine And.intro ⟨rfl, rfl⟩ ?_
    | refine And.intro (ix _ (by decide) (by decide)) ?_
    | refine And.intro trivial ?_
    | refine m_cup _ _ _ hm1 (hX _).1 (hX _).2 (hX _).1 (hX _).2 (hX _).1 (hX _).2 (fun r2 μ2 h2 => ?_)
  have hA : lx_A ms := lx_A0
  obtain ⟨e1, e2⟩ := lx_eqs h1 h2 hA hE
  have hR := hI.2.2
  have hI2 : lx_I μ2 := ⟨lx_sx hA h2 h1.1, h2.1, (lx_eq h1 h2 hA (by decide) rfl hE rfl rfl hR.1), (lx_eq h1 h2 hA (by decide) rfl hE rfl rfl hR.2.1), (lx_eq h1 h2 hA (by decide) rfl hE rfl rfl hR.2.2)⟩
  repeat' first
    | (refine (?_ : am_wp _ _ _ _ _ _ _ _ _ _ _ _); conv => whnf)
    | refine And.intro trivial ?_
    | exact hH _ hI2
    | refine And.intro (fun _ => ?_) (fun hne => absurd ?_ hne)
    | refine And.intro (fun hne => absurd ?_ hne) (fun _ => ?_)
theorem lx_c35 {l : Launch} {L : Nat} {xs : Nat → Int} {i : Int} (hX : lx_X xs) (hL : L ≤ 2560) (i0 : 0 ≤ i) (i1 : i ≤ (L : Int) - 5) (hH : lx_H l L xs i) (μ : am_N) (hI : lx_I μ) : am_AW l L xs 0 lx_Q 1221 [some (.inr (.inr 999)), some (.inr (.inr 0)), some (.inr (.inr 83)), some (.inl i)] [] μ := by
  have iL : (L : Int) ≤ 2560 := by omega
  have ix : ∀ k : Int, 0 ≤ k → k ≤ 4 → 0 ≤ am_c (i + k) ∧ am_c (i + k) < L := fun k h0 h1 => by rw [am_cR (by omega) (by omega)]; omega
  refine am_go (ct := fun pc => Nat.beq pc 1662) am_oL_law 60 ?_
  conv => whnf
  repeat' first
    | (refine (?_ : am_wp _ _ _ _ _ _ _ _ _ _ _ _); conv => whnf)
    | refine And.intro ⟨rfl, rfl⟩ ?_
    | refine And.intro (ix _ (by decide) (by decide)) ?_
    | refine And.intro trivial ?_
    | refine w_bracket_X6 (ν := μ) _ hI.1 (hX _).1 (hX _).2 (fun r1 μ1 h0 => ?_)
  have h1 := gv_of_sx h0
  have hE : lx_E [] := lx_c rfl
  have hm1 := lx_mi hE h1 hI.2.1
  repeat' first
    | (refine (?_ : am_wp _ _ _ _ _ _ _ _ _ _ _ _); conv => whnf)
    | refine And.intro ⟨rfl, rfl⟩ ?_
    | refine And.intro (ix _ (by decide) (by decide)) ?_
    | refine And.intro trivial ?_
    | refine m_bracket _ hm1 (hX _).1 (hX _).2 (fun r2 μ2 h2 => ?_)
  have hA : lx_A ms := lx_A0
  obtain ⟨e1, e2⟩ := lx_eqs h1 h2 hA hE
  have hR := hI.2.2
  have hI2 : lx_I μ2 := ⟨lx_sx hA h2 h1.1, h2.1, (lx_eq h1 h2 hA (by decide) rfl hE rfl rfl hR.1), (lx_eq h1 h2 hA (by decide) rfl hE rfl rfl hR.2.1), (lx_eq h1 h2 hA (by decide) rfl hE rfl rfl hR.2.2)⟩
  repeat' first
    | (refine (?_ : am_wp _ _ _ _ _ _ _ _ _ _ _ _); conv => whnf)
    | refine And.intro trivial ?_
    | exact hH _ hI2
    | refine And.intro (fun _ => ?_) (fun hne => absurd ?_ hne)
    | refine And.intro (fun hne => absurd ?_ hne) (fun _ => ?_)
theorem lx_c36 {l : Launch} {L : Nat} {xs : Nat → Int} {i : Int} (hX : lx_X xs) (hL : L ≤ 2560) (i0 : 0 ≤ i) (i1 : i ≤ (L : Int) - 5) (hH : lx_H l L xs i) (μ : am_N) (hI : lx_I μ) : am_AW l L xs 0 lx_Q 1244 [some (.inr (.inr 999)), some (.inr (.inr 0)), some (.inr (.inr 83)), some (.inl i)] [] μ := by
  have iL : (L : Int) ≤ 2560 := by omega
  have ix : ∀ k : Int, 0 ≤ k → k ≤ 4 → 0 ≤ am_c (i + k) ∧ am_c (i + k) < L := fun k h0 h1 => by rw [am_cR (by omega) (by omega)]; omega
  refine am_go (ct := fun pc => Nat.beq pc 1662) am_oL_law 60 ?_
  conv => whnf
  repeat' first
    | (refine (?_ : am_wp _ _ _ _ _ _ _ _ _ _ _ _); conv => whnf)
    | refine And.intro ⟨rfl, rfl⟩ ?_
    | refine And.intro (ix _ (by decide) (by decide)) ?_
    | refine And.intro trivial ?_
    | refine w_league_X6 (ν := μ) _ _ hI.1 (hX _).1 (hX _).2 (hX _).1 (hX _).2 (fun r1 μ1 h0 => ?_)
  have h1 := gv_of_sx h0
  have hE : lx_E [] := lx_c rfl
  have hm1 := lx_mi hE h1 hI.2.1
  repeat' first
    | (refine (?_ : am_wp _ _ _ _ _ _ _ _ _ _ _ _); conv => whnf)
    | refine And.intro ⟨rfl, rfl⟩ ?_
    | refine And.intro (ix _ (by decide) (by decide)) ?_
    | refine And.intro trivial ?_
    | refine m_league _ _ hm1 (hX _).1 (hX _).2 (hX _).1 (hX _).2 (fun r2 μ2 h2 => ?_)
  have hA : lx_A ms := lx_A0
  obtain ⟨e1, e2⟩ := lx_eqs h1 h2 hA hE
  have hR := hI.2.2
  have hI2 : lx_I μ2 := ⟨lx_sx hA h2 h1.1, h2.1, (lx_eq h1 h2 hA (by decide) rfl hE rfl rfl hR.1), (lx_eq h1 h2 hA (by decide) rfl hE rfl rfl hR.2.1), (lx_eq h1 h2 hA (by decide) rfl hE rfl rfl hR.2.2)⟩
  repeat' first
    | (refine (?_ : am_wp _ _ _ _ _ _ _ _ _ _ _ _); conv => whnf)
    | refine And.intro trivial ?_
    | exact hH _ hI2
    | refine And.intro (fun _ => ?_) (fun hne => absurd ?_ hne)
    | refine And.intro (fun hne => absurd ?_ hne) (fun _ => ?_)
theorem lx_c37 {l : Launch} {L : Nat} {xs : Nat → Int} {i : Int} (hX : lx_X xs) (hL : L ≤ 2560) (i0 : 0 ≤ i) (i1 : i ≤ (L : Int) - 5) (hH : lx_H l L xs i) (μ : am_N) (hI : lx_I μ) : am_AW l L xs 0 lx_Q 1277 [some (.inr (.inr 999)), some (.inr (.inr 0)), some (.inr (.inr 83)), some (.inl i)] [] μ := by
  have iL : (L : Int) ≤ 2560 := by omega
  have ix : ∀ k : Int, 0 ≤ k → k ≤ 4 → 0 ≤ am_c (i + k) ∧ am_c (i + k) < L := fun k h0 h1 => by rw [am_cR (by omega) (by omega)]; omega
  refine am_go (ct := fun pc => Nat.beq pc 1662) am_oL_law 60 ?_
  conv => whnf
  repeat' first
    | (refine (?_ : am_wp _ _ _ _ _ _ _ _ _ _ _ _); conv => whnf)
    | refine And.intro ⟨rfl, rfl⟩ ?_
    | refine And.intro (ix _ (by decide) (by decide)) ?_
    | refine And.intro trivial ?_
    | refine w_ranks_X6 (ν := μ)  hI.1  (fun r1 μ1 h0 => ?_)
  have h1 := gv_of_sx h0
  have hE : lx_E [] := lx_c rfl
  have hm1 := lx_mi hE h1 hI.2.1
  repeat' first
    | (refine (?_ : am_wp _ _ _ _ _ _ _ _ _ _ _ _); conv => whnf)
    | refine And.intro ⟨rfl, rfl⟩ ?_
    | refine And.intro (ix _ (by decide) (by decide)) ?_
    | refine And.intro trivial ?_
    | refine m_ranks  hm1  (fun r2 μ2 h2 => ?_)
  have hA : lx_A ms := lx_A0
  obtain ⟨e1, e2⟩ := lx_eqs h1 h2 hA hE
  have hR := hI.2.2
  have hI2 : lx_I μ2 := ⟨lx_sx hA h2 h1.1, h2.1, (lx_eq h1 h2 hA (by decide) rfl hE rfl rfl hR.1), (lx_eq h1 h2 hA (by decide) rfl hE rfl rfl hR.2.1), (lx_eq h1 h2 hA (by decide) rfl hE rfl rfl hR.2.2)⟩
  repeat' first
    | (refine (?_ : am_wp _ _ _ _ _ _ _ _ _ _ _ _); conv => whnf)
    | refine And.intro trivial ?_
    | exact hH _ hI2
    | refine And.intro (fun _ => ?_) (fun hne => absurd ?_ hne)
    | refine And.intro (fun hne => absurd ?_ hne) (fun _ => ?_)
theorem lx_c38 {l : Launch} {L : Nat} {xs : Nat → Int} {i : Int} (hX : lx_X xs) (hL : L ≤ 2560) (i0 : 0 ≤ i) (i1 : i ≤ (L : Int) - 5) (hH : lx_H l L xs i) (μ : am_N) (hI : lx_I μ) : am_AW l L xs 0 lx_Q 1290 [some (.inr (.inr 999)), some (.inr (.inr 0)), some (.inr (.inr 83)), some (.inl i)] [] μ := by
  have iL : (L : Int) ≤ 2560 := by omega
  have ix : ∀ k : Int, 0 ≤ k → k ≤ 4 → 0 ≤ am_c (i + k) ∧ am_c (i + k) < L := fun k h0 h1 => by rw [am_cR (by omega) (by omega)]; omega
  refine am_go (ct := fun pc => Nat.beq pc 1662) am_oL_law 60 ?_
  conv => whnf
  repeat' first
    | (refine (?_ : am_wp _ _ _ _ _ _ _ _ _ _ _ _); conv => whnf)
    | refine And.intro ⟨rfl, rfl⟩ ?_
    | refine And.intro (ix _ (by decide) (by decide)) ?_
    | refine And.intro trivial ?_
    | refine w_hold_X6 (ν := μ) _ _ hI.1 (hX _).1 (hX _).2 (hX _).1 (hX _).2 (fun r1 μ1 h0 => ?_)
  have h1 := gv_of_sx h0
  have hE : lx_E [] := lx_c rfl
  have hm1 := lx_mi hE h1 hI.2.1
  repeat' first
    | (refine (?_ : am_wp _ _ _ _ _ _ _ _ _ _ _ _); conv => whnf)
    | refine And.intro ⟨rfl, rfl⟩ ?_
    | refine And.intro (ix _ (by decide) (by decide)) ?_
    | refine And.intro trivial ?_
    | refine m_hold _ _ hm1 (hX _).1 (hX _).2 (hX _).1 (hX _).2 (fun r2 μ2 h2 => ?_)
  have hA : lx_A ms := lx_A0
  obtain ⟨e1, e2⟩ := lx_eqs h1 h2 hA hE
  have hR := hI.2.2
  have hI2 : lx_I μ2 := ⟨lx_sx hA h2 h1.1, h2.1, (lx_eq h1 h2 hA (by decide) rfl hE rfl rfl hR.1), (lx_eq h1 h2 hA (by decide) rfl hE rfl rfl hR.2.1), (lx_eq h1 h2 hA (by decide) rfl hE rfl rfl hR.2.2)⟩
  repeat' first
    | (refine (?_ : am_wp _ _ _ _ _ _ _ _ _ _ _ _); conv => whnf)
    | refine And.intro trivial ?_
    | exact hH _ hI2
    | refine And.intro (fun _ => ?_) (fun hne => absurd ?_ hne)
    | refine And.intro (fun hne => absurd ?_ hne) (fun _ => ?_)
