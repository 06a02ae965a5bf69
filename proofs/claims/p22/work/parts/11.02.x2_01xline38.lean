theorem x_line_38 {l : Launch} {ν : am_N} {Q : Option am_V → am_N → Prop} (hn0 : 0 ≤ ν 38 0) (hn1 : ν 38 0 ≤ 4) (ht : ∀ j : Nat, (j : Int) < ν 38 0 → -2147483648 ≤ ν 42 j ∧ ν 42 j ≤ 2147483647) (k : ∀ μ' : am_N, (∀ a b, a ≠ 43 → μ' a b = ν a b) → am_isord μ' 43 (ν 42) (ν 38 0) → (sx_3 ν 43 → sx_3 μ' 43) → Q none μ') : am_Does l 36 [.inr (.inr 38)] ν Q := by
  refine am_Does_of (Nat.le_of_ble_eq_true rfl) (Nat.le_of_ble_eq_true rfl) (Nat.le_of_ble_eq_true rfl) ?_
  have lp14 : ∀ (m : Nat) (i p j : Int) (μ : am_N) , (∀ a b, a ≠ 43 → μ a b = ν a b) → 0 ≤ i → i < ν 38 0 → 0 ≤ j → j ≤ ν 38 0 → p = am_cnt (ν 42) i.toNat j.toNat → (∀ q : Nat, (q : Int) < i → μ 43 (am_cnt (ν 42) q (ν 38 0).toNat).toNat = q) → (∀ (p j : Int) (μ : am_N), (∀ a b, a ≠ 43 → μ a b = ν a b) → (∀ q : Nat, (q : Int) < i + 1 → μ 43 (am_cnt (ν 42) q (ν 38 0).toNat).toNat = q) → (sx_3 ν 43 → sx_3 μ 43) → am_AW l 0 (fun _ => 0) 36 Q 2 [some (.inr (.inr 38)), some (.inl (i + 1)), some (.inl p), some (.inl j)] [] μ) → (sx_3 ν 43 → sx_3 μ 43) → ν 38 0 - j < (m : Int) → am_AW l 0 (fun _ => 0) 36 Q 14 [some (.inr (.inr 38)), some (.inl i), some (.inl p), some (.inl j)] [] μ := by
    intro m
    induction m with
    | zero =>
      intro i p j μ hv0 hv1 hv2 hv3 hv4 hv5 hv6 hv7 hv8 hm
      exfalso
      omega
    | succ m ih =>
      intro i p j μ hv0 hv1 hv2 hv3 hv4 hv5 hv6 hv7 hv8 hm
      have en : μ 38 0 = ν 38 0 := hv0 38 0 (by decide)
      have et : ∀ b, μ 42 b = ν 42 b := fun b => hv0 42 b (by decide)
      have ci : am_c i = i := am_cR (by omega) (by omega)
      have cj : am_c j = j := am_cR (by omega) (by omega)
      have cn : am_c (ν 38 0) = ν 38 0 := am_cR (by omega) (by omega)
      have ti := ht i.toNat (by omega)
      have cti : am_c (ν 42 i.toNat) = ν 42 i.toNat := am_cR (by omega) (by omega)
      have ctj : j < ν 38 0 → am_c (ν 42 j.toNat) = ν 42 j.toNat := fun q => by have := ht j.toNat (by omega); exact am_cR (by omega) (by omega)
      have ej : (j + 1).toNat = j.toNat + 1 := by omega
      have pb := am_cnt_b (ν 42) i.toNat j.toNat
      have cp : am_c p = p := am_cR (by omega) (by omega)
      have pl : j = ν 38 0 → p ≤ ν 38 0 - 1 := fun q => by
        have z := am_cnt_l (ν 42) i.toNat (ν 38 0).toNat (by omega)
        rw [hv5, q]
        omega
      refine am_go (ct := fun pc => Nat.beq pc 14 || Nat.beq pc 2) am_oX2_line 300 ?_
      conv => whnf
      repeat' first
        | (refine (?_ : am_wp _ _ _ _ _ _ _ _ _ _ _ _); conv => whnf)
        | (refine (?_ : am_sw _ _ _ _); conv => whnf)
        | refine And.intro trivial ?_
        | exact trivial
        | refine hv7 _ _ _ ?_ ?_ ?_
        | ((with_reducible refine (?_ : am_AW _ _ _ _ _ 14 _ _ _)); refine ih _ _ _ _ ?_ ?_ ?_ ?_ ?_ ?_ ?_ ?_ ?_ ?_)
        | refine And.intro (fun h => absurd h (by decide)) (fun _ => ?_)
        | refine And.intro (fun _ => ?_) (fun h => absurd (by decide) h)
        | refine And.intro (fun _ => ?_) (fun _ => ?_)
        | refine And.intro ?_ ?_
      all_goals (first | decide | assumption | omega | (simp only [en, ci, cj, cp, cn] at *; omega) | (intro a b ha; rw [am_upN ha]; exact hv0 a b ha) | (intro hb; exact sx_3S (hv8 hb) hv1 (by omega)) | (have en2 : j = ν 38 0 := (by simp only [en, ci, cj, cn] at *; omega); refine am_put hv1 (by omega) hv6 ?_ rfl; rw [cp, hv5, en2]) | (have jn : j < ν 38 0 := (by simp only [en, ci, cj, cn] at *; omega); have ct := ctj jn; simp only [ej, am_cnt, en, ci, cj, cn, et, cti, ct] at *; (first | rw [if_pos (by omega)] | rw [if_neg (by omega)]); omega) | (trace_state; fail))
  have lp14' : ∀ (i p j : Int) (μ : am_N) , (∀ a b, a ≠ 43 → μ a b = ν a b) → 0 ≤ i → i < ν 38 0 → 0 ≤ j → j ≤ ν 38 0 → p = am_cnt (ν 42) i.toNat j.toNat → (∀ q : Nat, (q : Int) < i → μ 43 (am_cnt (ν 42) q (ν 38 0).toNat).toNat = q) → (∀ (p j : Int) (μ : am_N), (∀ a b, a ≠ 43 → μ a b = ν a b) → (∀ q : Nat, (q : Int) < i + 1 → μ 43 (am_cnt (ν 42) q (ν 38 0).toNat).toNat = q) → (sx_3 ν 43 → sx_3 μ 43) → am_AW l 0 (fun _ => 0) 36 Q 2 [some (.inr (.inr 38)), some (.inl (i + 1)), some (.inl p), some (.inl j)] [] μ) → (sx_3 ν 43 → sx_3 μ 43) → am_AW l 0 (fun _ => 0) 36 Q 14 [some (.inr (.inr 38)), some (.inl i), some (.inl p), some (.inl j)] [] μ := fun i p j μ hv0 hv1 hv2 hv3 hv4 hv5 hv6 hv7 hv8 => lp14 ((ν 38 0 - j) + 1).toNat i p j μ hv0 hv1 hv2 hv3 hv4 hv5 hv6 hv7 hv8 (by omega)
  have lp2 : ∀ (m : Nat) (i : Int) (o2 o3 : Option am_V) (μ : am_N) , (∀ a b, a ≠ 43 → μ a b = ν a b) → 0 ≤ i → i ≤ ν 38 0 → (∀ q : Nat, (q : Int) < i → μ 43 (am_cnt (ν 42) q (ν 38 0).toNat).toNat = q) → (sx_3 ν 43 → sx_3 μ 43) → ν 38 0 - i < (m : Int) → am_AW l 0 (fun _ => 0) 36 Q 2 [some (.inr (.inr 38)), some (.inl i), o2, o3] [] μ := by
    intro m
    induction m with
    | zero =>
      intro i o2 o3 μ hv0 hv1 hv2 hv3 hv4 hm
      exfalso
      omega
    | succ m ih =>
      intro i o2 o3 μ hv0 hv1 hv2 hv3 hv4 hm
      have en : μ 38 0 = ν 38 0 := hv0 38 0 (by decide)
      have ci : am_c i = i := am_cR (by omega) (by omega)
      have cn : am_c (ν 38 0) = ν 38 0 := am_cR (by omega) (by omega)
      refine am_go (ct := fun pc => Nat.beq pc 14 || Nat.beq pc 2) am_oX2_line 300 ?_
      conv => whnf
      repeat' first
        | (refine (?_ : am_wp _ _ _ _ _ _ _ _ _ _ _ _); conv => whnf)
        | (refine (?_ : am_sw _ _ _ _); conv => whnf)
        | refine And.intro trivial ?_
        | exact trivial
        | refine k _ ?_ ?_ ?_
        | ((with_reducible refine (?_ : am_AW _ _ _ _ _ 2 _ _ _)); refine ih _ _ _ _ ?_ ?_ ?_ ?_ ?_ ?_)
        | ((with_reducible refine (?_ : am_AW _ _ _ _ _ 14 _ _ _)); refine lp14' _ _ _ _ ?_ ?_ ?_ ?_ ?_ ?_ ?_ ?_ ?_)
        | refine And.intro (fun h => absurd h (by decide)) (fun _ => ?_)
        | refine And.intro (fun _ => ?_) (fun h => absurd (by decide) h)
        | refine And.intro (fun _ => ?_) (fun _ => ?_)
        | refine And.intro ?_ ?_
      all_goals (first | decide | assumption | rfl | omega | (simp only [en, ci, cn] at *; omega) | (intro q hq; exact hv3 q (by simp only [en, ci, cn] at *; omega)) | (intros; refine ih _ _ _ _ ?_ ?_ ?_ ?_ ?_ ?_ <;> first | assumption | omega | (simp only [en, ci, cn] at *; omega)) | (trace_state; fail))
  have lp2' : ∀ (i : Int) (o2 o3 : Option am_V) (μ : am_N) , (∀ a b, a ≠ 43 → μ a b = ν a b) → 0 ≤ i → i ≤ ν 38 0 → (∀ q : Nat, (q : Int) < i → μ 43 (am_cnt (ν 42) q (ν 38 0).toNat).toNat = q) → (sx_3 ν 43 → sx_3 μ 43) → am_AW l 0 (fun _ => 0) 36 Q 2 [some (.inr (.inr 38)), some (.inl i), o2, o3] [] μ := fun i o2 o3 μ hv0 hv1 hv2 hv3 hv4 => lp2 ((ν 38 0 - i) + 1).toNat i o2 o3 μ hv0 hv1 hv2 hv3 hv4 (by omega)
  refine am_go (ct := fun pc => Nat.beq pc 14 || Nat.beq pc 2) am_oX2_line 300 ?_
  conv => whnf
  repeat' first
    | (refine (?_ : am_wp _ _ _ _ _ _ _ _ _ _ _ _); conv => whnf)
    | (refine (?_ : am_sw _ _ _ _); conv => whnf)
    | refine And.intro trivial ?_
    | exact trivial
    | ((with_reducible refine (?_ : am_AW _ _ _ _ _ 2 _ _ _)); refine lp2' _ _ _ _ ?_ ?_ ?_ ?_ ?_)
    | ((with_reducible refine (?_ : am_AW _ _ _ _ _ 14 _ _ _)); refine lp14' _ _ _ _ ?_ ?_ ?_ ?_ ?_ ?_ ?_ ?_ ?_)
    | refine And.intro (fun h => absurd h (by decide)) (fun _ => ?_)
    | refine And.intro (fun _ => ?_) (fun h => absurd (by decide) h)
    | refine And.intro (fun _ => ?_) (fun _ => ?_)
    | refine And.intro ?_ ?_
  all_goals (first | decide | assumption | omega | exact fun _ _ _ => rfl | exact fun z => z | (intros; omega) | (trace_state; fail))
