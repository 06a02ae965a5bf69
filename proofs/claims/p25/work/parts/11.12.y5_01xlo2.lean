theorem x_lo_2 {l : Launch} {ν : am_N} {Q : Option am_V → am_N → Prop} (k : ∀ (v : Int) (o2 : Option am_V) (μ' : am_N), v = 3 → (∀ a b, a ≠ 65 → a ≠ 72 → ¬(a = 77 ∧ b = 1) → μ' a b = ν a b) → (∀ b : Nat, b < 4 → μ' 65 b = ν 66 b ∧ μ' 72 b = ν 73 b) → μ' 77 1 = ν 77 2 → am_AW l 0 (fun _ => 0) 47 Q 2 [some (.inr (.inr 62)), some (.inl v), o2] [] μ') : am_AW l 0 (fun _ => 0) 47 Q 10 [some (.inr (.inr 62)), some (.inl 2), some (.inl 0)] [] ν := by
  have lp10 : ∀ (m : Nat) (i : Int) (μ : am_N) , (∀ a b, a ≠ 65 → a ≠ 72 → μ a b = ν a b) → 0 ≤ i → i ≤ 4 → (∀ b : Nat, (b : Int) < i → μ 65 b = ν 66 b ∧ μ 72 b = ν 73 b) → 4 - i < (m : Int) → am_AW l 0 (fun _ => 0) 47 Q 10 [some (.inr (.inr 62)), some (.inl 2), some (.inl i)] [] μ := by
    intro m
    induction m with
    | zero =>
      intro i μ hv0 hv1 hv2 hv3 hm
      exfalso
      omega
    | succ m ih =>
      intro i μ hv0 hv1 hv2 hv3 hm
      have ci : am_c i = i := am_cR (by omega) (by omega)
      have c4 : am_c 4 = 4 := rfl
      refine am_go (ct := fun pc => Nat.beq pc 10 || Nat.beq pc 2) am_oX4_loseOldest 300 ?_
      conv => whnf
      repeat' first
        | (refine (?_ : am_wp _ _ _ _ _ _ _ _ _ _ _ _); conv => whnf)
        | (refine (?_ : am_sw _ _ _ _); conv => whnf)
        | refine And.intro trivial ?_
        | exact trivial
        | refine am_ab1 (a := 65) rfl ?_
        | refine am_ab1 (a := 66) rfl ?_
        | refine am_ab1 (a := 72) rfl ?_
        | refine am_ab1 (a := 73) rfl ?_
        | refine k _ _ _ ?_ ?_ ?_ ?_
        | ((with_reducible refine (?_ : am_AW _ _ _ _ _ 10 _ _ _)); refine ih _ _ ?_ ?_ ?_ ?_ ?_)
        | refine And.intro (fun h => absurd h (by decide)) (fun _ => ?_)
        | refine And.intro (fun _ => ?_) (fun h => absurd (by decide) h)
        | refine And.intro (fun _ => ?_) (fun _ => ?_)
        | refine And.intro ?_ ?_
      all_goals (first | decide | omega | (simp only [ci, c4] at *; omega) | (intro a b h1 h2; rw [am_upN h2, am_upN h1]; exact hv0 a b h1 h2) | (intro b hb; by_cases d : (b : Int) = i; (rw [am_upN (by decide), am_upS, if_pos ⟨rfl, by rw [ci]; omega⟩, am_upS, if_pos ⟨rfl, by rw [ci]; omega⟩, am_upN (by decide), hv0 _ _ (by decide) (by decide), hv0 _ _ (by decide) (by decide), ci, show i.toNat = b by omega]; exact ⟨rfl, rfl⟩); (rw [am_upN (by decide), am_upM (by rw [ci]; omega), am_upM (by rw [ci]; omega), am_upN (by decide)]; exact hv3 b (by omega))) | (intro a b h1 h2 h3; exact Eq.trans (am_uE (fun z => h3 ⟨z.1, z.2⟩)) (hv0 a b h1 h2)) | (intro b hb; rw [am_upN (by decide), am_upN (by decide)]; exact hv3 b (by simp only [ci, c4] at *; omega)) | (rw [am_upS, if_pos ⟨rfl, rfl⟩]; exact hv0 _ _ (by decide) (by decide)) | (trace_state; fail))
  have lp10' : ∀ (i : Int) (μ : am_N) , (∀ a b, a ≠ 65 → a ≠ 72 → μ a b = ν a b) → 0 ≤ i → i ≤ 4 → (∀ b : Nat, (b : Int) < i → μ 65 b = ν 66 b ∧ μ 72 b = ν 73 b) → am_AW l 0 (fun _ => 0) 47 Q 10 [some (.inr (.inr 62)), some (.inl 2), some (.inl i)] [] μ := fun i μ hv0 hv1 hv2 hv3 => lp10 ((4 - i) + 1).toNat i μ hv0 hv1 hv2 hv3 (by omega)
  exact lp10' 0 ν (fun _ _ _ _ => rfl) (by decide) (by decide) (fun b hb => by omega)
