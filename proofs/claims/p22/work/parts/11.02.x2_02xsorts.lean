theorem x_sorts {l : Launch} {ν : am_N} {Q : Option am_V → am_N → Prop} (hn0 : 0 ≤ ν 83 14) (hn1 : ν 83 14 ≤ 4) (ht : ∀ j : Nat, (j : Int) < ν 83 14 → -2147483648 ≤ ν 99 j ∧ ν 99 j ≤ 2147483647) (k : ∀ μ' : am_N, (∀ a b, a ≠ 100 → μ' a b = ν a b) → am_isord μ' 100 (ν 99) (ν 83 14) → (sx_3 ν 100 → sx_3 μ' 100) → Q none μ') : am_Does l 165 [.inr (.inr 83)] ν Q := by
  refine am_Does_of (Nat.le_of_ble_eq_true rfl) (Nat.le_of_ble_eq_true rfl) (Nat.le_of_ble_eq_true rfl) ?_
  have lp12 : ∀ (m : Nat) (r k : Int) (μ : am_N) , (∀ a b, a ≠ 100 → μ a b = ν a b) → 0 ≤ r → r < ν 83 14 → 0 ≤ k → k ≤ r → am_gap μ 100 (ν 99) r.toNat k → (∀ (k : Int) (μ : am_N), (∀ a b, a ≠ 100 → μ a b = ν a b) → (∀ i : Nat, i < (r + 1).toNat → μ 100 (am_cnt (ν 99) i (r + 1).toNat).toNat = i) → (sx_3 ν 100 → sx_3 μ 100) → am_AW l 0 (fun _ => 0) 165 Q 2 [some (.inr (.inr 83)), some (.inl (r + 1)), some (.inl k)] [] μ) → (sx_3 ν 100 → sx_3 μ 100) → k < (m : Int) → am_AW l 0 (fun _ => 0) 165 Q 12 [some (.inr (.inr 83)), some (.inl r), some (.inl k)] [] μ := by
    intro m
    induction m with
    | zero =>
      intro r k μ hv0 hv1 hv2 hv3 hv4 hv5 hv6 hv7 hm
      exfalso
      omega
    | succ m ih =>
      intro r k μ hv0 hv1 hv2 hv3 hv4 hv5 hv6 hv7 hm
      have en : μ 83 14 = ν 83 14 := hv0 83 14 (by decide)
      have et : ∀ b, μ 99 b = ν 99 b := fun b => hv0 99 b (by decide)
      have cr : am_c r = r := am_cR (by omega) (by omega)
      have ck : am_c k = k := am_cR (by omega) (by omega)
      have ck1 : 0 < k → am_c (k - 1) = k - 1 := fun _ => am_cR (by omega) (by omega)
      have gb : 0 < k → (0 ≤ μ 100 (k - 1).toNat ∧ μ 100 (k - 1).toNat ≤ 3 ∧ μ 100 (k - 1).toNat < ν 83 14) := fun q => by
        obtain ⟨i, a, _, c⟩ := am_gap_b (by omega) hv5 q (by omega)
        omega
      have cv : 0 < k → am_c (μ 100 (k - 1).toNat) = μ 100 (k - 1).toNat := fun q => by
        have := gb q
        exact am_cR (by omega) (by omega)
      have ct : 0 < k → am_c (ν 99 (μ 100 (k - 1).toNat).toNat) = ν 99 (μ 100 (k - 1).toNat).toNat := fun q => by
        have := gb q
        have := ht (μ 100 (k - 1).toNat).toNat (by omega)
        exact am_cR (by omega) (by omega)
      have tr := ht r.toNat (by omega)
      have ctr : am_c (ν 99 r.toNat) = ν 99 r.toNat := am_cR (by omega) (by omega)
      have er : (r + 1).toNat = r.toNat + 1 := by omega
      refine am_go (ct := fun pc => Nat.beq pc 12 || Nat.beq pc 2) am_oX7_sorts 300 ?_
      conv => whnf
      repeat' first
        | (refine (?_ : am_wp _ _ _ _ _ _ _ _ _ _ _ _); conv => whnf)
        | (refine (?_ : am_sw _ _ _ _); conv => whnf)
        | refine And.intro trivial ?_
        | exact trivial
        | refine hv6 _ _ ?_ ?_ ?_
        | ((with_reducible refine (?_ : am_AW _ _ _ _ _ 12 _ _ _)); refine ih _ _ _ ?_ ?_ ?_ ?_ ?_ ?_ ?_ ?_ ?_)
        | refine And.intro (fun h => absurd h (by decide)) (fun _ => ?_)
        | refine And.intro (fun _ => ?_) (fun h => absurd (by decide) h)
        | refine And.intro (fun _ => ?_) (fun _ => ?_)
        | refine And.intro ?_ ?_
      all_goals (first | decide | assumption | omega | (simp only [en, cr, ck] at *; omega) | (intro a b ha; rw [am_upN ha]; exact hv0 a b ha) | (intro hb; exact sx_3S (hv7 hb) (by omega) (by omega)) | (intro hb; have q : 0 < k := (by clear ck1 gb cv ct; omega); have g := gb q; have e1 := ck1 q; clear ck1 gb cv ct; rw [e1]; exact sx_3S (hv7 hb) g.1 g.2.1) | (have q : 0 < k := (by simp only [ck] at *; omega); have g := gb q; have e1 := ck1 q; have e2 := cv q; have e3 := ct q; clear ck1 gb cv ct; first | (simp only [en, cr, ck, e1, e2, e3, et, ctr] at *; omega) | (refine am_gap1e (by omega) hv5 q (by omega) (by rw [ck]) (by rw [e1]) (by omega) ?_; simp only [en, cr, ck, e1, e2, e3, et, ctr] at *; omega)) | (refine am_gap2e (by omega) hv5 hv3 (by omega) (by rw [ck]) (by omega) er ?_; intro q; have g := gb q; have e1 := ck1 q; have e2 := cv q; have e3 := ct q; clear ck1 gb cv ct; simp only [en, cr, ck, e1, e2, e3, et, ctr] at *; omega) | (trace_state; fail))
  have lp12' : ∀ (r k : Int) (μ : am_N) , (∀ a b, a ≠ 100 → μ a b = ν a b) → 0 ≤ r → r < ν 83 14 → 0 ≤ k → k ≤ r → am_gap μ 100 (ν 99) r.toNat k → (∀ (k : Int) (μ : am_N), (∀ a b, a ≠ 100 → μ a b = ν a b) → (∀ i : Nat, i < (r + 1).toNat → μ 100 (am_cnt (ν 99) i (r + 1).toNat).toNat = i) → (sx_3 ν 100 → sx_3 μ 100) → am_AW l 0 (fun _ => 0) 165 Q 2 [some (.inr (.inr 83)), some (.inl (r + 1)), some (.inl k)] [] μ) → (sx_3 ν 100 → sx_3 μ 100) → am_AW l 0 (fun _ => 0) 165 Q 12 [some (.inr (.inr 83)), some (.inl r), some (.inl k)] [] μ := fun r k μ hv0 hv1 hv2 hv3 hv4 hv5 hv6 hv7 => lp12 ((k) + 1).toNat r k μ hv0 hv1 hv2 hv3 hv4 hv5 hv6 hv7 (by omega)
  have lp2 : ∀ (m : Nat) (r : Int) (o2 : Option am_V) (μ : am_N) , (∀ a b, a ≠ 100 → μ a b = ν a b) → 0 ≤ r → r ≤ ν 83 14 → (∀ i : Nat, i < r.toNat → μ 100 (am_cnt (ν 99) i r.toNat).toNat = i) → (sx_3 ν 100 → sx_3 μ 100) → ν 83 14 - r < (m : Int) → am_AW l 0 (fun _ => 0) 165 Q 2 [some (.inr (.inr 83)), some (.inl r), o2] [] μ := by
    intro m
    induction m with
    | zero =>
      intro r o2 μ hv0 hv1 hv2 hv3 hv4 hm
      exfalso
      omega
    | succ m ih =>
      intro r o2 μ hv0 hv1 hv2 hv3 hv4 hm
      have en : μ 83 14 = ν 83 14 := hv0 83 14 (by decide)
      have ci : am_c r = r := am_cR (by omega) (by omega)
      have cn : am_c (ν 83 14) = ν 83 14 := am_cR (by omega) (by omega)
      refine am_go (ct := fun pc => Nat.beq pc 12 || Nat.beq pc 2) am_oX7_sorts 300 ?_
      conv => whnf
      repeat' first
        | (refine (?_ : am_wp _ _ _ _ _ _ _ _ _ _ _ _); conv => whnf)
        | (refine (?_ : am_sw _ _ _ _); conv => whnf)
        | refine And.intro trivial ?_
        | exact trivial
        | refine k _ ?_ ?_ ?_
        | ((with_reducible refine (?_ : am_AW _ _ _ _ _ 2 _ _ _)); refine ih _ _ _ ?_ ?_ ?_ ?_ ?_ ?_)
        | ((with_reducible refine (?_ : am_AW _ _ _ _ _ 12 _ _ _)); refine lp12' _ _ _ ?_ ?_ ?_ ?_ ?_ ?_ ?_ ?_)
        | refine And.intro (fun h => absurd h (by decide)) (fun _ => ?_)
        | refine And.intro (fun _ => ?_) (fun h => absurd (by decide) h)
        | refine And.intro (fun _ => ?_) (fun _ => ?_)
        | refine And.intro ?_ ?_
      all_goals (first | decide | assumption | rfl | omega | (simp only [en, ci, cn] at *; omega) | (have rn : r = ν 83 14 := (by simp only [en, ci, cn] at *; omega); intro q hq; have z := hv3 q (by omega); rw [rn] at z; exact z) | (have z := am_gap0 (c := 100) (fun i hi => hv3 i hi); rw [show ((r.toNat : Nat) : Int) = r by omega] at z; exact z) | (intros; refine ih _ _ _ ?_ ?_ ?_ ?_ ?_ ?_ <;> first | assumption | omega | (simp only [en, ci, cn] at *; omega)) | (trace_state; fail))
  have lp2' : ∀ (r : Int) (o2 : Option am_V) (μ : am_N) , (∀ a b, a ≠ 100 → μ a b = ν a b) → 0 ≤ r → r ≤ ν 83 14 → (∀ i : Nat, i < r.toNat → μ 100 (am_cnt (ν 99) i r.toNat).toNat = i) → (sx_3 ν 100 → sx_3 μ 100) → am_AW l 0 (fun _ => 0) 165 Q 2 [some (.inr (.inr 83)), some (.inl r), o2] [] μ := fun r o2 μ hv0 hv1 hv2 hv3 hv4 => lp2 ((ν 83 14 - r) + 1).toNat r o2 μ hv0 hv1 hv2 hv3 hv4 (by omega)
  refine am_go (ct := fun pc => Nat.beq pc 12 || Nat.beq pc 2) am_oX7_sorts 300 ?_
  conv => whnf
  repeat' first
    | (refine (?_ : am_wp _ _ _ _ _ _ _ _ _ _ _ _); conv => whnf)
    | (refine (?_ : am_sw _ _ _ _); conv => whnf)
    | refine And.intro trivial ?_
    | exact trivial
    | ((with_reducible refine (?_ : am_AW _ _ _ _ _ 2 _ _ _)); refine lp2' _ _ _ ?_ ?_ ?_ ?_ ?_)
    | ((with_reducible refine (?_ : am_AW _ _ _ _ _ 12 _ _ _)); refine lp12' _ _ _ ?_ ?_ ?_ ?_ ?_ ?_ ?_ ?_)
    | refine And.intro (fun h => absurd h (by decide)) (fun _ => ?_)
    | refine And.intro (fun _ => ?_) (fun h => absurd (by decide) h)
    | refine And.intro (fun _ => ?_) (fun _ => ?_)
    | refine And.intro ?_ ?_
  all_goals (first | decide | assumption | omega | exact fun _ _ _ => rfl | exact fun z => z | (intros; omega) | (trace_state; fail))
