theorem am_fC_38_8 {μ ν : am_N} (h : ∀ a b, a ≠ 42 → a ≠ 43 → ¬(a = 38 ∧ b = 0) → μ a b = ν a b) : (am_fC ν 8 → am_fC μ 8) ∧ ∀ i, am_TC μ 8 i = am_TC ν 8 i := by
  have e : ∀ a b, a < 29 → μ a b = ν a b := fun a b q => h a b (by omega) (by omega) (by omega)
  constructor
  · intro q
    unfold am_fC at q ⊢
    rw [e 8 4 (by omega), e 8 0 (by omega), e 8 1 (by omega)]
    refine ⟨q.1, q.2.1, fun i hi => ?_⟩
    rw [e (8 + 3) i (by omega), e (8 + 2) i (by omega), e (8 + 1) i (by omega), e (8 + 5) i (by omega)]
    exact q.2.2 i hi
  · intro i
    unfold am_TC
    rw [e 8 0 (by omega), e 8 1 (by omega), e (8 + 3) i (by omega), e (8 + 2) i (by omega), e (8 + 1) i (by omega), e (8 + 5) i (by omega)]
theorem x_asRule_38_8 {l : Launch} {ν : am_N} {Q : Option am_V → am_N → Prop} (hf : am_fC ν 8) (k : ∀ μ' : am_N, (∀ a b, a ≠ 42 → a ≠ 43 → ¬(a = 38 ∧ b = 0) → μ' a b = ν a b) → μ' 38 0 = ν 8 4 → am_isord μ' 43 (am_TC ν 8) (ν 8 4) → (∀ i : Nat, (i : Int) < ν 8 4 → μ' 42 i = am_TC ν 8 i) → (sx_3 ν 43 → sx_3 μ' 43) → Q none μ') : am_Does l 33 [.inr (.inr 38), .inr (.inr 8)] ν Q := by
  refine am_Does_of (Nat.le_of_ble_eq_true rfl) (Nat.le_of_ble_eq_true rfl) (Nat.le_of_ble_eq_true rfl) ?_
  have hn := hf.1
  have hq := @am_TC_b ν 8
  have lp10 : ∀ (m : Nat) (i : Int) (μ : am_N) , (∀ a b, a ≠ 42 → a ≠ 43 → ¬(a = 38 ∧ b = 0) → μ a b = ν a b) → μ 38 0 = ν 8 4 → 0 ≤ i → i ≤ ν 8 4 → (∀ q : Nat, (q : Int) < i → μ 42 q = am_TC ν 8 q) → (sx_3 ν 43 → sx_3 μ 43) → ν 8 4 - i < (m : Int) → am_AW l 0 (fun _ => 0) 33 Q 10 [some (.inr (.inr 38)), some (.inr (.inr 8)), some (.inl i)] [] μ := by
    intro m
    induction m with
    | zero =>
      intro i μ hv0 hv1 hv2 hv3 hv4 hv5 hm
      exfalso
      omega
    | succ m ih =>
      intro i μ hv0 hv1 hv2 hv3 hv4 hv5 hm
      have ci : am_c i = i := am_cR (by omega) (by omega)
      have cn : am_c (ν 8 4) = ν 8 4 := am_cR (by omega) (by omega)
      obtain ⟨g1, g2⟩ := am_fC_38_8 hv0
      have g3 := g1 hf
      have e4 : μ 8 4 = ν 8 4 := hv0 8 4 (by decide) (by decide) (by decide)
      refine am_go (ct := fun pc => Nat.beq pc 10) am_oX2_asRule 300 ?_
      conv => whnf
      repeat' first
        | (refine (?_ : am_wp _ _ _ _ _ _ _ _ _ _ _ _); conv => whnf)
        | (refine (?_ : am_sw _ _ _ _); conv => whnf)
        | refine And.intro trivial ?_
        | exact trivial
        | exact g3
        | ((with_reducible refine (?_ : am_Does _ 8 _ _ _)); refine x_tenths_8 _ ?_ ?_ ?_ ?_)
        | ((with_reducible refine (?_ : am_Does _ 36 _ _ _)); refine x_line_38 ?_ ?_ ?_ (fun μ2 y1 y2 y3 => ?_))
        | refine k _ ?_ ?_ ?_ ?_ ?_
        | ((with_reducible refine (?_ : am_AW _ _ _ _ _ 10 _ _ _)); refine ih _ _ ?_ ?_ ?_ ?_ ?_ ?_ ?_)
        | refine And.intro (fun h => absurd h (by decide)) (fun _ => ?_)
        | refine And.intro (fun _ => ?_) (fun h => absurd (by decide) h)
        | refine And.intro (fun _ => ?_) (fun _ => ?_)
        | refine And.intro ?_ ?_
      all_goals (first | decide | assumption | omega | rfl | exact fun z => y3 (sx_3N (hv5 z) (by decide)) | exact fun z => y3 (hv5 z) | exact fun z => sx_3N (hv5 z) (by decide) | (simp only [hv1, ci, cn, e4] at *; omega) | (intro a b h1 h2 h3; rw [am_upN h1]; exact hv0 a b h1 h2 h3) | (rw [am_upN (by decide)]; assumption) | (intro q hq; by_cases d : (q : Int) = i; (rw [am_upS, if_pos ⟨rfl, by rw [ci]; omega⟩, g2, show i.toNat = q by omega]); (rw [am_upM (by rw [ci]; omega)]; exact hv4 q (by omega))) | (have ie : i = ν 8 4 := (by simp only [hv1, ci, cn, e4] at *; omega); first | (intro j hj; rw [hv1] at hj; rw [hv4 j (by omega)]; have zz := @hq j hf (by omega); omega) | (intro a b h1 h2 h3; rw [y1 a b h2]; exact hv0 a b h1 h2 h3) | (rw [y1 _ _ (by decide)]; exact hv1) | (rw [hv1] at y2; exact am_isord_t (fun j hj => hv4 j (by omega)) y2) | (intro j hj; rw [y1 _ _ (by decide)]; exact hv4 j (by omega))) | (trace_state; fail))
  have lp10' : ∀ (i : Int) (μ : am_N) , (∀ a b, a ≠ 42 → a ≠ 43 → ¬(a = 38 ∧ b = 0) → μ a b = ν a b) → μ 38 0 = ν 8 4 → 0 ≤ i → i ≤ ν 8 4 → (∀ q : Nat, (q : Int) < i → μ 42 q = am_TC ν 8 q) → (sx_3 ν 43 → sx_3 μ 43) → am_AW l 0 (fun _ => 0) 33 Q 10 [some (.inr (.inr 38)), some (.inr (.inr 8)), some (.inl i)] [] μ := fun i μ hv0 hv1 hv2 hv3 hv4 hv5 => lp10 ((ν 8 4 - i) + 1).toNat i μ hv0 hv1 hv2 hv3 hv4 hv5 (by omega)
  refine am_go (ct := fun pc => Nat.beq pc 10) am_oX2_asRule 300 ?_
  conv => whnf
  repeat' first
    | (refine (?_ : am_wp _ _ _ _ _ _ _ _ _ _ _ _); conv => whnf)
    | (refine (?_ : am_sw _ _ _ _); conv => whnf)
    | refine And.intro trivial ?_
    | exact trivial
    | ((with_reducible refine (?_ : am_AW _ _ _ _ _ 10 _ _ _)); refine lp10' _ _ ?_ ?_ ?_ ?_ ?_ ?_)
    | refine And.intro (fun h => absurd h (by decide)) (fun _ => ?_)
    | refine And.intro (fun _ => ?_) (fun h => absurd (by decide) h)
    | refine And.intro (fun _ => ?_) (fun _ => ?_)
    | refine And.intro ?_ ?_
  all_goals (first | decide | assumption | omega | rfl | exact fun z => sx_3N z (by decide) | (intro a b h1 h2 h3; rw [am_upS, if_neg h3]) | (intros; omega) | (trace_state; fail))
