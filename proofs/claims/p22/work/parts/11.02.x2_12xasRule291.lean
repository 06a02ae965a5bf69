theorem am_fC_29_1 {μ ν : am_N} (h : ∀ a b, a ≠ 33 → a ≠ 34 → ¬(a = 29 ∧ b = 0) → μ a b = ν a b) : (am_fC ν 1 → am_fC μ 1) ∧ ∀ i, am_TC μ 1 i = am_TC ν 1 i := by
  have e : ∀ a b, a < 29 → μ a b = ν a b := fun a b q => h a b (by omega) (by omega) (by omega)
  constructor
  · intro q
    unfold am_fC at q ⊢
    rw [e 1 4 (by omega), e 1 0 (by omega), e 1 1 (by omega)]
    refine ⟨q.1, q.2.1, fun i hi => ?_⟩
    rw [e (1 + 3) i (by omega), e (1 + 2) i (by omega), e (1 + 1) i (by omega), e (1 + 5) i (by omega)]
    exact q.2.2 i hi
  · intro i
    unfold am_TC
    rw [e 1 0 (by omega), e 1 1 (by omega), e (1 + 3) i (by omega), e (1 + 2) i (by omega), e (1 + 1) i (by omega), e (1 + 5) i (by omega)]
theorem x_asRule_29_1 {l : Launch} {ν : am_N} {Q : Option am_V → am_N → Prop} (hf : am_fC ν 1) (k : ∀ μ' : am_N, (∀ a b, a ≠ 33 → a ≠ 34 → ¬(a = 29 ∧ b = 0) → μ' a b = ν a b) → μ' 29 0 = ν 1 4 → am_isord μ' 34 (am_TC ν 1) (ν 1 4) → (∀ i : Nat, (i : Int) < ν 1 4 → μ' 33 i = am_TC ν 1 i) → (sx_3 ν 34 → sx_3 μ' 34) → Q none μ') : am_Does l 33 [.inr (.inr 29), .inr (.inr 1)] ν Q := by
  refine am_Does_of (Nat.le_of_ble_eq_true rfl) (Nat.le_of_ble_eq_true rfl) (Nat.le_of_ble_eq_true rfl) ?_
  have hn := hf.1
  have hq := @am_TC_b ν 1
  have lp10 : ∀ (m : Nat) (i : Int) (μ : am_N) , (∀ a b, a ≠ 33 → a ≠ 34 → ¬(a = 29 ∧ b = 0) → μ a b = ν a b) → μ 29 0 = ν 1 4 → 0 ≤ i → i ≤ ν 1 4 → (∀ q : Nat, (q : Int) < i → μ 33 q = am_TC ν 1 q) → (sx_3 ν 34 → sx_3 μ 34) → ν 1 4 - i < (m : Int) → am_AW l 0 (fun _ => 0) 33 Q 10 [some (.inr (.inr 29)), some (.inr (.inr 1)), some (.inl i)] [] μ := by
    intro m
    induction m with
    | zero =>
      intro i μ hv0 hv1 hv2 hv3 hv4 hv5 hm
      exfalso
      omega
    | succ m ih =>
      intro i μ hv0 hv1 hv2 hv3 hv4 hv5 hm
      have ci : am_c i = i := am_cR (by omega) (by omega)
      have cn : am_c (ν 1 4) = ν 1 4 := am_cR (by omega) (by omega)
      obtain ⟨g1, g2⟩ := am_fC_29_1 hv0
      have g3 := g1 hf
      have e4 : μ 1 4 = ν 1 4 := hv0 1 4 (by decide) (by decide) (by decide)
      refine am_go (ct := fun pc => Nat.beq pc 10) am_oX2_asRule 300 ?_
      conv => whnf
      repeat' first
        | (refine (?_ : am_wp _ _ _ _ _ _ _ _ _ _ _ _); conv => whnf)
        | (refine (?_ : am_sw _ _ _ _); conv => whnf)
        | refine And.intro trivial ?_
        | exact trivial
        | exact g3
        | ((with_reducible refine (?_ : am_Does _ 8 _ _ _)); refine x_tenths_1 _ ?_ ?_ ?_ ?_)
        | ((with_reducible refine (?_ : am_Does _ 36 _ _ _)); refine x_line ?_ ?_ ?_ (fun μ2 y1 y2 y3 => ?_))
        | refine k _ ?_ ?_ ?_ ?_ ?_
        | ((with_reducible refine (?_ : am_AW _ _ _ _ _ 10 _ _ _)); refine ih _ _ ?_ ?_ ?_ ?_ ?_ ?_ ?_)
        | refine And.intro (fun h => absurd h (by decide)) (fun _ => ?_)
        | refine And.intro (fun _ => ?_) (fun h => absurd (by decide) h)
        | refine And.intro (fun _ => ?_) (fun _ => ?_)
        | refine And.intro ?_ ?_
      all_goals (first | decide | assumption | omega | rfl | exact fun z => y3 (sx_3N (hv5 z) (by decide)) | exact fun z => y3 (hv5 z) | exact fun z => sx_3N (hv5 z) (by decide) | (simp only [hv1, ci, cn, e4] at *; omega) | (intro a b h1 h2 h3; rw [am_upN h1]; exact hv0 a b h1 h2 h3) | (rw [am_upN (by decide)]; assumption) | (intro q hq; by_cases d : (q : Int) = i; (rw [am_upS, if_pos ⟨rfl, by rw [ci]; omega⟩, g2, show i.toNat = q by omega]); (rw [am_upM (by rw [ci]; omega)]; exact hv4 q (by omega))) | (have ie : i = ν 1 4 := (by simp only [hv1, ci, cn, e4] at *; omega); first | (intro j hj; rw [hv1] at hj; rw [hv4 j (by omega)]; have zz := @hq j hf (by omega); omega) | (intro a b h1 h2 h3; rw [y1 a b h2]; exact hv0 a b h1 h2 h3) | (rw [y1 _ _ (by decide)]; exact hv1) | (rw [hv1] at y2; exact am_isord_t (fun j hj => hv4 j (by omega)) y2) | (intro j hj; rw [y1 _ _ (by decide)]; exact hv4 j (by omega))) | (trace_state; fail))
  have lp10' : ∀ (i : Int) (μ : am_N) , (∀ a b, a ≠ 33 → a ≠ 34 → ¬(a = 29 ∧ b = 0) → μ a b = ν a b) → μ 29 0 = ν 1 4 → 0 ≤ i → i ≤ ν 1 4 → (∀ q : Nat, (q : Int) < i → μ 33 q = am_TC ν 1 q) → (sx_3 ν 34 → sx_3 μ 34) → am_AW l 0 (fun _ => 0) 33 Q 10 [some (.inr (.inr 29)), some (.inr (.inr 1)), some (.inl i)] [] μ := fun i μ hv0 hv1 hv2 hv3 hv4 hv5 => lp10 ((ν 1 4 - i) + 1).toNat i μ hv0 hv1 hv2 hv3 hv4 hv5 (by omega)
  refine am_go (ct := fun pc => Nat.beq pc 10) am_oX2_asRule 300 ?_
  conv => whnf
  repeat' first
    | (refine (?_ : am_wp _ _ _ _ _ _ _ _ _ _ _ _); conv => whnf)
    | (refine (?_ : am_sw _ _ _ _); conv => whnf)
    | refine And.intro trivial ?_
    | exact trivial
    | ((with_reducible refine (?_ : am_AW _ _ _ _ _ 10 _ _ _)); refine lp10' _ _ ?_ ?_ ?_ ?_ ?_ ?_)
    | refine And.intro (fun h => absurd h (by decide)) (fun _ => ?_)
    | refine And.intro (fun _ => ?_) (fun h => absurd (by decide) h)
    | refine And.intro (fun _ => ?_) (fun _ => ?_)
    | refine And.intro ?_ ?_
  all_goals (first | decide | assumption | omega | rfl | exact fun z => sx_3N z (by decide) | (intro a b h1 h2 h3; rw [am_upS, if_neg h3]) | (intros; omega) | (trace_state; fail))
