theorem x_rat_60 {l : Launch} {ν : am_N} {Q : Option am_V → am_N → Prop} (i : Int) (i0 : 0 ≤ i) (i1 : i < ν 60 1) (hn : ν 60 1 ≤ 4) (k : Q (some (.inl (ν 61 i.toNat))) ν) : am_Does l 43 [.inr (.inr 60), .inl i] ν Q := by
  refine am_Does_of (Nat.le_of_ble_eq_true rfl) (Nat.le_of_ble_eq_true rfl) (Nat.le_of_ble_eq_true rfl) ?_
  have l0 : am_c 0 = 0 := rfl
  have ci : am_c i = i := am_cR (by omega) (by omega)
  have cn : am_c (ν 60 1) = ν 60 1 := am_cR (by omega) (by omega)
  refine am_go (ct := fun _ => false) am_oX3_at 300 ?_
  conv => whnf
  repeat' first
    | (refine (?_ : am_wp _ _ _ _ _ _ _ _ _ _ _ _); conv => whnf)
    | (refine (?_ : am_sw _ _ _ _); conv => whnf)
    | refine And.intro trivial ?_
    | exact trivial
    | refine am_qe k ?_
    | refine And.intro (fun h => absurd h (by decide)) (fun _ => ?_)
    | refine And.intro (fun _ => ?_) (fun h => absurd (by decide) h)
    | refine And.intro (fun _ => ?_) (fun _ => ?_)
    | refine And.intro ?_ ?_
  all_goals (first | decide | omega | (simp only [ci, cn] at *; omega) | (rw [ci]) | (exfalso; simp only [ci, cn] at *; omega) | (trace_state; fail))
theorem x_rt_55_60 {l : Launch} {ν : am_N} {Q : Option am_V → am_N → Prop} (h0 : 0 ≤ ν 60 1) (h1 : ν 60 1 ≤ 4) (k : ∀ μ' : am_N, (∀ a b, ¬(a = 55 ∧ b = 1) → a ≠ 56 → μ' a b = ν a b) → μ' 55 1 = ν 60 1 → (∀ i : Nat, (i : Int) < ν 60 1 → μ' 56 i = ν 61 i) → Q none μ') : am_Does l 45 [.inr (.inr 55), .inr (.inr 60)] ν Q := by
  refine am_Does_of (Nat.le_of_ble_eq_true rfl) (Nat.le_of_ble_eq_true rfl) (Nat.le_of_ble_eq_true rfl) ?_
  have cn : am_c (ν 60 1) = ν 60 1 := am_cR (by omega) (by omega)
  have lc : am_c 4 = 4 := rfl
  have lp18 : ∀ (m : Nat) (i : Int) (μ : am_N) , (∀ a b, ¬(a = 55 ∧ b = 1) → a ≠ 56 → μ a b = ν a b) → μ 55 1 = ν 60 1 → 0 ≤ i → i ≤ ν 60 1 → (∀ q : Nat, (q : Int) < i → μ 56 q = ν 61 q) → ν 60 1 - i < (m : Int) → am_AW l 0 (fun _ => 0) 45 Q 18 [some (.inr (.inr 55)), some (.inr (.inr 60)), some (.inl i)] [] μ := by
    intro m
    induction m with
    | zero =>
      intro i μ hv0 hv1 hv2 hv3 hv4 hm
      exfalso
      omega
    | succ m ih =>
      intro i μ hv0 hv1 hv2 hv3 hv4 hm
      have ci : am_c i = i := am_cR (by omega) (by omega)
      have cF : am_c (μ 55 1) = ν 60 1 := by rw [hv1]; exact cn
      have eO : μ 60 1 = ν 60 1 := hv0 60 1 (by first | decide | omega | exact fun z => absurd z.1 (by decide)) (by first | decide | omega | exact fun z => absurd z.1 (by decide))
      refine am_go (ct := fun pc => Nat.beq pc 18) am_oX3_take 300 ?_
      conv => whnf
      repeat' first
        | (refine (?_ : am_wp _ _ _ _ _ _ _ _ _ _ _ _); conv => whnf)
        | (refine (?_ : am_sw _ _ _ _); conv => whnf)
        | refine And.intro trivial ?_
        | exact trivial
        | ((with_reducible refine (?_ : am_Does _ 43 _ _ _)); (have iN : i < ν 60 1 := (by simp only [ci, cF] at *; omega); refine x_rat_60 i hv2 (by rw [eO]; exact iN) (by rw [eO]; exact h1) ?_))
        | refine k _ hv0 hv1 ?_
        | ((with_reducible refine (?_ : am_AW _ _ _ _ _ 18 _ _ _)); refine ih _ _ ?_ ?_ ?_ ?_ ?_ ?_)
        | refine And.intro (fun h => absurd h (by decide)) (fun _ => ?_)
        | refine And.intro (fun _ => ?_) (fun h => absurd (by decide) h)
        | refine And.intro (fun _ => ?_) (fun _ => ?_)
        | refine And.intro ?_ ?_
      all_goals (first | decide | assumption | omega | (simp only [ci, cF] at *; omega) | (intro a b q1 q2; rw [am_upN q2]; exact hv0 a b q1 q2) | (rw [am_upN (by decide)]; exact hv1) | (intro q hq; by_cases d : (q : Int) = i; (rw [am_upS, if_pos ⟨rfl, by rw [ci]; omega⟩, hv0 _ _ (by first | decide | omega | exact fun z => absurd z.1 (by decide)) (by first | decide | omega | exact fun z => absurd z.1 (by decide)), show i.toNat = q by omega]); (rw [am_upM (by rw [ci]; omega)]; exact hv4 q (by omega))) | (intro q hq; exact hv4 q (by simp only [ci, cF] at *; omega)) | (trace_state; fail))
  have lp18' : ∀ (i : Int) (μ : am_N) , (∀ a b, ¬(a = 55 ∧ b = 1) → a ≠ 56 → μ a b = ν a b) → μ 55 1 = ν 60 1 → 0 ≤ i → i ≤ ν 60 1 → (∀ q : Nat, (q : Int) < i → μ 56 q = ν 61 q) → am_AW l 0 (fun _ => 0) 45 Q 18 [some (.inr (.inr 55)), some (.inr (.inr 60)), some (.inl i)] [] μ := fun i μ hv0 hv1 hv2 hv3 hv4 => lp18 ((ν 60 1 - i) + 1).toNat i μ hv0 hv1 hv2 hv3 hv4 (by omega)
  refine am_go (ct := fun pc => Nat.beq pc 18) am_oX3_take 300 ?_
  conv => whnf
  repeat' first
    | (refine (?_ : am_wp _ _ _ _ _ _ _ _ _ _ _ _); conv => whnf)
    | (refine (?_ : am_sw _ _ _ _); conv => whnf)
    | refine And.intro trivial ?_
    | exact trivial
    | ((with_reducible refine (?_ : am_AW _ _ _ _ _ 18 _ _ _)); refine lp18' _ _ ?_ ?_ ?_ ?_ ?_)
    | refine And.intro (fun h => absurd h (by decide)) (fun _ => ?_)
    | refine And.intro (fun _ => ?_) (fun h => absurd (by decide) h)
    | refine And.intro (fun _ => ?_) (fun _ => ?_)
    | refine And.intro ?_ ?_
  all_goals (first | decide | omega | (intro a b q1 q2; exact am_uE q1) | (rw [am_upS, if_pos ⟨rfl, rfl⟩]; exact if_neg (show ¬ am_c 4 < am_c (ν 60 1) by rw [cn]; omega)) | (intros; omega) | (trace_state; fail))
