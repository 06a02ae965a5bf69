theorem x_timeOver {l : Launch} {ν : am_N} {Q : Option am_V → am_N → Prop} (i y s : Int) (hi0 : 0 ≤ i) (hi1 : i < ν 83 14) (hn : ν 83 14 ≤ 4) (hr : am_rg (ν 87 i.toNat) (ν 86 i.toNat) (ν 85 i.toNat) (ν 83 11)) (y0 : -1000 ≤ y) (y1 : y ≤ 1000) (s0 : -1000 ≤ s) (s1 : s ≤ 1000) (k : Q (some (.inl (am_T (ν 87 i.toNat) (ν 86 i.toNat) (ν 85 i.toNat) (ν 83 11) (am_y y) s))) ν) : am_Does l 162 [.inr (.inr 83), .inl i, .inl y, .inl s] ν Q := by
  obtain ⟨⟨p0, p1⟩, ⟨f0, f1⟩, ⟨k0, k1⟩, ⟨w0, w1⟩⟩ := hr
  rcases (show ν 85 i.toNat = 0 ∨ ν 85 i.toNat = 1 ∨ ν 85 i.toNat = 2 ∨ ν 85 i.toNat = 3 ∨ ν 85 i.toNat = 4 ∨ ν 85 i.toNat = 5 by omega) with e | e | e | e | e | e
  · rw [e] at k; exact x_timeOver_0 i y s _ _ _ hi0 hi1 hn rfl rfl e rfl p0 p1 f0 f1 w0 w1 y0 y1 s0 s1 k
  · rw [e] at k; exact x_timeOver_1 i y s _ _ _ hi0 hi1 hn rfl rfl e rfl p0 p1 f0 f1 w0 w1 y0 y1 s0 s1 k
  · rw [e] at k; exact x_timeOver_2 i y s _ _ _ hi0 hi1 hn rfl rfl e rfl p0 p1 f0 f1 w0 w1 y0 y1 s0 s1 k
  · rw [e] at k; exact x_timeOver_3 i y s _ _ _ hi0 hi1 hn rfl rfl e rfl p0 p1 f0 f1 w0 w1 y0 y1 s0 s1 k
  · rw [e] at k; exact x_timeOver_4 i y s _ _ _ hi0 hi1 hn rfl rfl e rfl p0 p1 f0 f1 w0 w1 y0 y1 s0 s1 k
  · rw [e] at k; exact x_timeOver_5 i y s _ _ _ hi0 hi1 hn rfl rfl e rfl p0 p1 f0 f1 w0 w1 y0 y1 s0 s1 k
theorem x_timeBy {l : Launch} {ν : am_N} {Q : Option am_V → am_N → Prop} (i s : Int) (hi0 : 0 ≤ i) (hi1 : i < ν 83 14) (hf : am_fM ν) (s0 : 0 ≤ s) (s1 : s ≤ 99) (k : Q (some (.inl (am_T (ν 87 i.toNat) (ν 86 i.toNat) (ν 85 i.toNat) (ν 83 11) (am_y (ν 83 10 - s)) s))) ν) : am_Does l 163 [.inr (.inr 83), .inl i, .inl s] ν Q := by
  refine am_Does_of (Nat.le_of_ble_eq_true rfl) (Nat.le_of_ble_eq_true rfl) (Nat.le_of_ble_eq_true rfl) ?_
  have hn := hf.1.2
  have z := hf.2.2 i.toNat (by omega)
  have w := hf.2.1
  refine am_go (ct := fun _ => false) am_oX7_timeBy 300 ?_
  conv => whnf
  repeat' first
    | (refine (?_ : am_wp _ _ _ _ _ _ _ _ _ _ _ _); conv => whnf)
    | (refine (?_ : am_sw _ _ _ _); conv => whnf)
    | refine And.intro trivial ?_
    | exact trivial
    | exact z.1
    | ((with_reducible refine (?_ : am_Does _ 162 _ _ _)); refine x_timeOver _ _ _ ?_ ?_ ?_ ?_ ?_ ?_ ?_ ?_ ?_)
    | refine And.intro (fun h => absurd h (by decide)) (fun _ => ?_)
    | refine And.intro (fun _ => ?_) (fun h => absurd (by decide) h)
    | refine And.intro (fun _ => ?_) (fun _ => ?_)
    | refine And.intro ?_ ?_
  all_goals (first | assumption | exact z.1 | omega | (trace_state; fail))
theorem x_timeOf {l : Launch} {ν : am_N} {Q : Option am_V → am_N → Prop} (i : Int) (hi0 : 0 ≤ i) (hi1 : i < ν 83 14) (hf : am_fM ν) (k : Q (some (.inl (am_TM ν i.toNat))) ν) : am_Does l 164 [.inr (.inr 83), .inl i] ν Q := by
  refine am_Does_of (Nat.le_of_ble_eq_true rfl) (Nat.le_of_ble_eq_true rfl) (Nat.le_of_ble_eq_true rfl) ?_
  have hn := hf.1.2
  have ci : am_c i = i := am_cR (by omega) (by omega)
  have ei : (am_c i).toNat = i.toNat := by rw [ci]
  have z := hf.2.2 i.toNat (by omega)
  have z2 := z.2
  unfold am_TM at k
  refine am_go (ct := fun _ => false) am_oX7_timeOf 300 ?_
  conv => whnf
  repeat' first
    | (refine (?_ : am_wp _ _ _ _ _ _ _ _ _ _ _ _); conv => whnf)
    | (refine (?_ : am_sw _ _ _ _); conv => whnf)
    | refine And.intro trivial ?_
    | exact trivial
    | exact hf
    | ((with_reducible refine (?_ : am_Does _ 163 _ _ _)); refine x_timeBy _ _ ?_ ?_ ?_ ?_ ?_ ?_)
    | refine And.intro (fun h => absurd h (by decide)) (fun _ => ?_)
    | refine And.intro (fun _ => ?_) (fun h => absurd (by decide) h)
    | refine And.intro (fun _ => ?_) (fun _ => ?_)
    | refine And.intro ?_ ?_
  all_goals (first | assumption | omega | (simp only [ei, ci] at *; first | assumption | omega | exact k) | (trace_state; fail))
theorem am_fM_e {μ ν : am_N} (h : ∀ a b, a ≠ 99 → a ≠ 100 → μ a b = ν a b) : (am_fM ν → am_fM μ) ∧ ∀ i, am_TM μ i = am_TM ν i := by
  have e : ∀ a b, a < 99 → μ a b = ν a b := fun a b q => h a b (by omega) (by omega)
  constructor
  · intro q
    unfold am_fM at q ⊢
    rw [e 83 14 (by omega), e 83 10 (by omega), e 83 11 (by omega)]
    refine ⟨q.1, q.2.1, fun i hi => ?_⟩
    rw [e 87 i (by omega), e 86 i (by omega), e 85 i (by omega), e 89 i (by omega)]
    exact q.2.2 i hi
  · intro i
    unfold am_TM
    rw [e 83 10 (by omega), e 83 11 (by omega), e 87 i (by omega), e 86 i (by omega), e 85 i (by omega), e 89 i (by omega)]
theorem x_takesTimes {l : Launch} {ν : am_N} {Q : Option am_V → am_N → Prop} (hf : am_fM ν) (k : ∀ μ' : am_N, (∀ a b, a ≠ 99 → a ≠ 100 → μ' a b = ν a b) → am_isord μ' 100 (am_TM ν) (ν 83 14) → (∀ i : Nat, (i : Int) < ν 83 14 → μ' 99 i = am_TM ν i) → (sx_3 ν 100 → sx_3 μ' 100) → Q none μ') : am_Does l 166 [.inr (.inr 83)] ν Q := by
  refine am_Does_of (Nat.le_of_ble_eq_true rfl) (Nat.le_of_ble_eq_true rfl) (Nat.le_of_ble_eq_true rfl) ?_
  have hn := hf.1
  have hq := @am_TM_b ν
  have lp2 : ∀ (m : Nat) (i : Int) (μ : am_N) , (∀ a b, a ≠ 99 → a ≠ 100 → μ a b = ν a b) → 0 ≤ i → i ≤ ν 83 14 → (∀ q : Nat, (q : Int) < i → μ 99 q = am_TM ν q) → (sx_3 ν 100 → sx_3 μ 100) → ν 83 14 - i < (m : Int) → am_AW l 0 (fun _ => 0) 166 Q 2 [some (.inr (.inr 83)), some (.inl i)] [] μ := by
    intro m
    induction m with
    | zero =>
      intro i μ hv0 hv1 hv2 hv3 hv4 hm
      exfalso
      omega
    | succ m ih =>
      intro i μ hv0 hv1 hv2 hv3 hv4 hm
      have ci : am_c i = i := am_cR (by omega) (by omega)
      have cn : am_c (ν 83 14) = ν 83 14 := am_cR (by omega) (by omega)
      obtain ⟨g1, g2⟩ := am_fM_e hv0
      have g3 := g1 hf
      have e4 : μ 83 14 = ν 83 14 := hv0 83 14 (by decide) (by decide)
      refine am_go (ct := fun pc => Nat.beq pc 2) am_oX7_takesTimes 300 ?_
      conv => whnf
      repeat' first
        | (refine (?_ : am_wp _ _ _ _ _ _ _ _ _ _ _ _); conv => whnf)
        | (refine (?_ : am_sw _ _ _ _); conv => whnf)
        | refine And.intro trivial ?_
        | exact trivial
        | exact g3
        | ((with_reducible refine (?_ : am_Does _ 164 _ _ _)); refine x_timeOf _ ?_ ?_ ?_ ?_)
        | ((with_reducible refine (?_ : am_Does _ 165 _ _ _)); refine x_sorts ?_ ?_ ?_ (fun μ2 y1 y2 y3 => ?_))
        | refine k _ ?_ ?_ ?_ ?_
        | ((with_reducible refine (?_ : am_AW _ _ _ _ _ 2 _ _ _)); refine ih _ _ ?_ ?_ ?_ ?_ ?_ ?_)
        | refine And.intro (fun h => absurd h (by decide)) (fun _ => ?_)
        | refine And.intro (fun _ => ?_) (fun h => absurd (by decide) h)
        | refine And.intro (fun _ => ?_) (fun _ => ?_)
        | refine And.intro ?_ ?_
      all_goals (first | decide | assumption | omega | rfl | exact fun z => y3 (hv4 z) | exact fun z => sx_3N (hv4 z) (by decide) | (simp only [ci, cn, e4] at *; omega) | (intro a b h1 h2; rw [am_upN h1]; exact hv0 a b h1 h2) | (intro q hq; by_cases d : (q : Int) = i; (rw [am_upS, if_pos ⟨rfl, by rw [ci]; omega⟩, g2, show i.toNat = q by omega]); (rw [am_upM (by rw [ci]; omega)]; exact hv3 q (by omega))) | (have ie : i = ν 83 14 := (by simp only [ci, cn, e4] at *; omega); first | (intro j hj; rw [e4] at hj; rw [hv3 j (by omega)]; have zz := @hq j hf (by omega); omega) | (intro a b h1 h2; rw [y1 a b h2]; exact hv0 a b h1 h2) | (rw [e4] at y2; exact am_isord_t (fun j hj => hv3 j (by omega)) y2) | (intro j hj; rw [y1 _ _ (by decide)]; exact hv3 j (by omega))) | (trace_state; fail))
  have lp2' : ∀ (i : Int) (μ : am_N) , (∀ a b, a ≠ 99 → a ≠ 100 → μ a b = ν a b) → 0 ≤ i → i ≤ ν 83 14 → (∀ q : Nat, (q : Int) < i → μ 99 q = am_TM ν q) → (sx_3 ν 100 → sx_3 μ 100) → am_AW l 0 (fun _ => 0) 166 Q 2 [some (.inr (.inr 83)), some (.inl i)] [] μ := fun i μ hv0 hv1 hv2 hv3 hv4 => lp2 ((ν 83 14 - i) + 1).toNat i μ hv0 hv1 hv2 hv3 hv4 (by omega)
  refine am_go (ct := fun pc => Nat.beq pc 2) am_oX7_takesTimes 300 ?_
  conv => whnf
  repeat' first
    | (refine (?_ : am_wp _ _ _ _ _ _ _ _ _ _ _ _); conv => whnf)
    | (refine (?_ : am_sw _ _ _ _); conv => whnf)
    | refine And.intro trivial ?_
    | exact trivial
    | ((with_reducible refine (?_ : am_AW _ _ _ _ _ 2 _ _ _)); refine lp2' _ _ ?_ ?_ ?_ ?_ ?_)
    | refine And.intro (fun h => absurd h (by decide)) (fun _ => ?_)
    | refine And.intro (fun _ => ?_) (fun h => absurd (by decide) h)
    | refine And.intro (fun _ => ?_) (fun _ => ?_)
    | refine And.intro ?_ ?_
  all_goals (first | decide | assumption | omega | rfl | exact fun z => z | exact fun _ _ _ _ => rfl | (intros; omega) | (trace_state; fail))
