theorem x_kp_5 {l : Launch} {ν : am_N} {Q : Option am_V → am_N → Prop} (hB : ν 62 3 = 5) (k : ∀ μ' : am_N, (∀ a b, a ≠ 69 → a ≠ 76 → ¬(a = 77 ∧ b = 5) → ¬(a = 62 ∧ b = 3) → μ' a b = ν a b) → μ' 62 3 = 6 → (∀ r : Nat, r < 4 → μ' 69 r = ν 6 r ∧ μ' 76 r = ν 7 r) → μ' 77 5 = ν 1 1 → Q none μ') : am_AW l 0 (fun _ => 0) 46 Q 13 [some (.inr (.inr 62)), some (.inr (.inr 1)), none] [] ν := by
  have lp15 : ∀ (m : Nat) (i : Int) (μ : am_N) , (∀ a b, a ≠ 69 → a ≠ 76 → μ a b = ν a b) → 0 ≤ i → i ≤ 4 → (∀ b : Nat, (b : Int) < i → μ 69 b = ν 6 b ∧ μ 76 b = ν 7 b) → 4 - i < (m : Int) → am_AW l 0 (fun _ => 0) 46 Q 15 [some (.inr (.inr 62)), some (.inr (.inr 1)), some (.inl i)] [] μ := by
    intro m
    induction m with
    | zero =>
      intro i μ hv0 hv1 hv2 hv3 hm
      exfalso
      omega
    | succ m ih =>
      intro i μ hv0 hv1 hv2 hv3 hm
      have ci : am_c i = i := am_cR (by omega) (by omega)
      have c4 : am_c 4 = 4 := rfl
      have eB : μ 62 3 = 5 := (hv0 62 3 (by decide) (by decide)).trans hB
      have eC : am_up μ 69 (am_c i).toNat (μ 6 (am_c i).toNat) 62 3 = 5 := (am_upN (by decide)).trans eB
      refine am_go (ct := fun pc => Nat.beq pc 15) am_oX4_keep 300 ?_
      conv => whnf
      repeat' first
        | (refine (?_ : am_wp _ _ _ _ _ _ _ _ _ _ _ _); conv => whnf)
        | (refine (?_ : am_sw _ _ _ _); conv => whnf)
        | refine And.intro trivial ?_
        | exact trivial
        | refine am_ab1 (a := 69) (by rw [eB]; rfl) ?_
        | refine am_ab1 (a := 76) (by rw [eB]; rfl) ?_
        | refine am_ab1 (a := 69) (by rw [eC]; rfl) ?_
        | refine am_ab1 (a := 76) (by rw [eC]; rfl) ?_
        | refine k _ ?_ ?_ ?_ ?_
        | ((with_reducible refine (?_ : am_AW _ _ _ _ _ 15 _ _ _)); refine ih _ _ ?_ ?_ ?_ ?_ ?_)
        | refine And.intro (fun h => absurd h (by decide)) (fun _ => ?_)
        | refine And.intro (fun _ => ?_) (fun h => absurd (by decide) h)
        | refine And.intro (fun _ => ?_) (fun _ => ?_)
        | refine And.intro ?_ ?_
      all_goals (first | decide | omega | (simp only [ci, c4] at *; omega) | (intro a b h1 h2; rw [am_upN h2, am_upN h1]; exact hv0 a b h1 h2) | (intro b hb; by_cases d : (b : Int) = i; (rw [am_upN (by decide), am_upS, if_pos ⟨rfl, by rw [ci]; omega⟩, am_upS, if_pos ⟨rfl, by rw [ci]; omega⟩, am_upN (by decide), hv0 _ _ (by decide) (by decide), hv0 _ _ (by decide) (by decide), ci, show i.toNat = b by omega]; exact ⟨rfl, rfl⟩); (rw [am_upN (by decide), am_upM (by rw [ci]; omega), am_upM (by rw [ci]; omega)]; exact hv3 b (by omega))) | (rw [eB]; decide) | (rw [eC]; decide) | (intro a b h1 h2 h3 h4; rw [am_uE h4]; exact Eq.trans (am_uE (fun z => h3 ⟨z.1, by rw [z.2, eB]; rfl⟩)) (hv0 a b h1 h2)) | (rw [am_upS, if_pos ⟨rfl, rfl⟩, am_upN (by decide), eB]; rfl) | (intro b hb; rw [am_upN (by decide), am_upN (by decide), am_upN (by decide), am_upN (by decide)]; exact hv3 b (by simp only [ci, c4] at *; omega)) | (rw [am_upN (by decide), am_upS, if_pos ⟨rfl, by rw [eB]; rfl⟩]; exact hv0 _ _ (by decide) (by decide)) | (trace_state; fail))
  have lp15' : ∀ (i : Int) (μ : am_N) , (∀ a b, a ≠ 69 → a ≠ 76 → μ a b = ν a b) → 0 ≤ i → i ≤ 4 → (∀ b : Nat, (b : Int) < i → μ 69 b = ν 6 b ∧ μ 76 b = ν 7 b) → am_AW l 0 (fun _ => 0) 46 Q 15 [some (.inr (.inr 62)), some (.inr (.inr 1)), some (.inl i)] [] μ := fun i μ hv0 hv1 hv2 hv3 => lp15 ((4 - i) + 1).toNat i μ hv0 hv1 hv2 hv3 (by omega)
  refine am_go (ct := fun pc => Nat.beq pc 15) am_oX4_keep 300 ?_
  conv => whnf
  repeat' first
    | (refine (?_ : am_wp _ _ _ _ _ _ _ _ _ _ _ _); conv => whnf)
    | (refine (?_ : am_sw _ _ _ _); conv => whnf)
    | refine And.intro trivial ?_
    | exact trivial
    | ((with_reducible refine (?_ : am_AW _ _ _ _ _ 15 _ _ _)); refine lp15' _ _ ?_ ?_ ?_ ?_)
    | refine And.intro (fun h => absurd h (by decide)) (fun _ => ?_)
    | refine And.intro (fun _ => ?_) (fun h => absurd (by decide) h)
    | refine And.intro (fun _ => ?_) (fun _ => ?_)
    | refine And.intro ?_ ?_
  all_goals (first | decide | omega | exact fun _ _ _ _ => rfl | (intros; omega) | (trace_state; fail))
