theorem x_bring_4 {l : Launch} {ν : am_N} {Q : Option am_V → am_N → Prop} (hB : ν 62 3 = 4) (k : ∀ μ' : am_N, (∀ a b, a ≠ 6 → a ≠ 7 → ¬(a = 1 ∧ b = 1) → ¬(a = 62 ∧ b = 3) → μ' a b = ν a b) → μ' 62 3 = ν 62 3 - 1 → μ' 1 1 = ν 77 (ν 62 3 - 1).toNat → (∀ r : Nat, r < 4 → μ' 6 r = ν (64 + (ν 62 3 - 1).toNat) r ∧ μ' 7 r = ν (71 + (ν 62 3 - 1).toNat) r) → Q (some (.inl (ν 62 3 - 1))) μ') : am_Does l 48 [.inr (.inr 62), .inr (.inr 1)] ν Q := by
  refine am_Does_of (Nat.le_of_ble_eq_true rfl) (Nat.le_of_ble_eq_true rfl) (Nat.le_of_ble_eq_true rfl) ?_
  have c0 : am_c (ν 62 3) ≠ 0 := by rw [hB]; decide
  have kk := fun (μ' : am_N) (x : Int) a1 a2 a3 a4 (e : x = ν 62 3 - 1) => am_qe (k μ' a1 a2 a3 a4) e
  have lp21 : ∀ (m : Nat) (i : Int) (μ : am_N) , (∀ a b, a ≠ 6 → a ≠ 7 → ¬(a = 62 ∧ b = 3) → μ a b = ν a b) → μ 62 3 = 3 → 0 ≤ i → i ≤ 4 → (∀ b : Nat, (b : Int) < i → μ 6 b = ν 67 b ∧ μ 7 b = ν 74 b) → 4 - i < (m : Int) → am_AW l 0 (fun _ => 0) 48 Q 21 [some (.inr (.inr 62)), some (.inr (.inr 1)), some (.inl i)] [] μ := by
    intro m
    induction m with
    | zero =>
      intro i μ hv0 hv1 hv2 hv3 hv4 hm
      exfalso
      omega
    | succ m ih =>
      intro i μ hv0 hv1 hv2 hv3 hv4 hm
      have ci : am_c i = i := am_cR (by omega) (by omega)
      have c4 : am_c 4 = 4 := rfl
      have eB : μ 62 3 = 3 := hv1
      have eC : ∀ v, am_up μ 6 (am_c i).toNat v 62 3 = 3 := fun v => (am_upN (by decide)).trans eB
      refine am_go (ct := fun pc => Nat.beq pc 21) am_oX4_bring 300 ?_
      conv => whnf
      repeat' first
        | (refine (?_ : am_wp _ _ _ _ _ _ _ _ _ _ _ _); conv => whnf)
        | (refine (?_ : am_sw _ _ _ _); conv => whnf)
        | refine And.intro trivial ?_
        | exact trivial
        | refine am_ab1 (a := 67) (by rw [eB]; rfl) ?_
        | refine am_ab1 (a := 74) (by rw [eB]; rfl) ?_
        | refine am_ab1 (a := 67) (by rw [eC]; rfl) ?_
        | refine am_ab1 (a := 74) (by rw [eC]; rfl) ?_
        | refine kk _ _ ?_ ?_ ?_ ?_ ?_
        | refine And.intro (fun _ => ?_) (fun z => absurd z c0)
        | ((with_reducible refine (?_ : am_AW _ _ _ _ _ 21 _ _ _)); refine ih _ _ ?_ ?_ ?_ ?_ ?_ ?_)
        | refine And.intro (fun h => absurd h (by decide)) (fun _ => ?_)
        | refine And.intro (fun _ => ?_) (fun h => absurd (by decide) h)
        | refine And.intro (fun _ => ?_) (fun _ => ?_)
        | refine And.intro ?_ ?_
      all_goals (first | decide | omega | (simp only [ci, c4] at *; omega) | (intro a b h1 h2 h3; rw [am_upN h2, am_upN h1]; exact hv0 a b h1 h2 h3) | (rw [am_upN (by decide), am_upN (by decide)]; exact hv1) | (intro b hb; by_cases d : (b : Int) = i; (rw [am_upN (by decide), am_upS, if_pos ⟨rfl, by rw [ci]; omega⟩, am_upS, if_pos ⟨rfl, by rw [ci]; omega⟩, am_upN (by decide), hv0 _ _ (by first | decide | omega | exact fun z => absurd z.1 (by decide)) (by first | decide | omega | exact fun z => absurd z.1 (by decide)) (by first | decide | omega | exact fun z => absurd z.1 (by decide)), hv0 _ _ (by first | decide | omega | exact fun z => absurd z.1 (by decide)) (by first | decide | omega | exact fun z => absurd z.1 (by decide)) (by first | decide | omega | exact fun z => absurd z.1 (by decide)), ci, show i.toNat = b by omega]; exact ⟨rfl, rfl⟩); (rw [am_upN (by decide), am_upM (by rw [ci]; omega), am_upM (by rw [ci]; omega)]; exact hv4 b (by omega))) | (rw [eB]; decide) | (rw [eC]; decide) | (intro a b h1 h2 h3 h4; rw [am_uE h3]; exact hv0 a b h1 h2 h4) | (rw [am_upN (by decide), hv1, hB]; rfl) | (rw [am_upS, if_pos ⟨rfl, rfl⟩, hB, eB]; exact hv0 _ _ (by first | decide | omega | exact fun z => absurd z.1 (by decide)) (by first | decide | omega | exact fun z => absurd z.1 (by decide)) (by first | decide | omega | exact fun z => absurd z.1 (by decide))) | (intro b hb; rw [am_upN (by decide), am_upN (by decide), hB]; exact hv4 b (by simp only [ci, c4] at *; omega)) | (trace_state; fail))
  have lp21' : ∀ (i : Int) (μ : am_N) , (∀ a b, a ≠ 6 → a ≠ 7 → ¬(a = 62 ∧ b = 3) → μ a b = ν a b) → μ 62 3 = 3 → 0 ≤ i → i ≤ 4 → (∀ b : Nat, (b : Int) < i → μ 6 b = ν 67 b ∧ μ 7 b = ν 74 b) → am_AW l 0 (fun _ => 0) 48 Q 21 [some (.inr (.inr 62)), some (.inr (.inr 1)), some (.inl i)] [] μ := fun i μ hv0 hv1 hv2 hv3 hv4 => lp21 ((4 - i) + 1).toNat i μ hv0 hv1 hv2 hv3 hv4 (by omega)
  refine am_go (ct := fun pc => Nat.beq pc 21) am_oX4_bring 300 ?_
  conv => whnf
  repeat' first
    | (refine (?_ : am_wp _ _ _ _ _ _ _ _ _ _ _ _); conv => whnf)
    | (refine (?_ : am_sw _ _ _ _); conv => whnf)
    | refine And.intro trivial ?_
    | exact trivial
    | refine And.intro (fun _ => ?_) (fun z => absurd z c0)
    | ((with_reducible refine (?_ : am_AW _ _ _ _ _ 21 _ _ _)); refine lp21' _ _ ?_ ?_ ?_ ?_ ?_)
    | refine And.intro (fun h => absurd h (by decide)) (fun _ => ?_)
    | refine And.intro (fun _ => ?_) (fun h => absurd (by decide) h)
    | refine And.intro (fun _ => ?_) (fun _ => ?_)
    | refine And.intro ?_ ?_
  all_goals (first | decide | omega | (intro a b h1 h2 h3; exact am_uE h3) | (rw [am_upS, if_pos ⟨rfl, rfl⟩, hB]; rfl) | (intros; omega) | (trace_state; fail))
