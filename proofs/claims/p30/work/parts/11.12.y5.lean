/-! runs kept, runs taken back: exactly -/
theorem x_lo_1 {l : Launch} {ν : am_N} {Q : Option am_V → am_N → Prop} (k : ∀ (v : Int) (o2 : Option am_V) (μ' : am_N), v = 2 → (∀ a b, a ≠ 64 → a ≠ 71 → ¬(a = 77 ∧ b = 0) → μ' a b = ν a b) → (∀ b : Nat, b < 4 → μ' 64 b = ν 65 b ∧ μ' 71 b = ν 72 b) → μ' 77 0 = ν 77 1 → am_AW l 0 (fun _ => 0) 47 Q 2 [some (.inr (.inr 62)), some (.inl v), o2] [] μ') : am_AW l 0 (fun _ => 0) 47 Q 10 [some (.inr (.inr 62)), some (.inl 1), some (.inl 0)] [] ν := by
  have lp10 : ∀ (m : Nat) (i : Int) (μ : am_N) , (∀ a b, a ≠ 64 → a ≠ 71 → μ a b = ν a b) → 0 ≤ i → i ≤ 4 → (∀ b : Nat, (b : Int) < i → μ 64 b = ν 65 b ∧ μ 71 b = ν 72 b) → 4 - i < (m : Int) → am_AW l 0 (fun _ => 0) 47 Q 10 [some (.inr (.inr 62)), some (.inl 1), some (.inl i)] [] μ := by
    intro m
    induction m with
    | zero =>
      intro i μ hv0 hv1 hv2 hv3 hm
      exfalso
      omega
    | succ m ih =>
      intro i μ hv0 hv1 hv2 hv3 hm
      have ci : am_c i = i := am_cR (by omega) (by omega)
      have c4 : am_c 4 = 4 := rfl
      refine am_go (ct := fun pc => Nat.beq pc 10 || Nat.beq pc 2) am_oX4_loseOldest 300 ?_
      conv => whnf
      repeat' first
        | (refine (?_ : am_wp _ _ _ _ _ _ _ _ _ _ _ _); conv => whnf)
        | (refine (?_ : am_sw _ _ _ _); conv => whnf)
        | refine And.intro trivial ?_
        | exact trivial
        | refine am_ab1 (a := 64) rfl ?_
        | refine am_ab1 (a := 65) rfl ?_
        | refine am_ab1 (a := 71) rfl ?_
        | refine am_ab1 (a := 72) rfl ?_
        | refine k _ _ _ ?_ ?_ ?_ ?_
        | refine ih _ _ ?_ ?_ ?_ ?_ ?_
        | refine And.intro (fun h => absurd h (by decide)) (fun _ => ?_)
        | refine And.intro (fun _ => ?_) (fun h => absurd (by decide) h)
        | refine And.intro (fun _ => ?_) (fun _ => ?_)
        | refine And.intro ?_ ?_
      all_goals (first | decide | omega | (simp only [ci, c4] at *; omega) | (intro a b h1 h2; rw [am_upN h2, am_upN h1]; exact hv0 a b h1 h2) | (intro b hb; by_cases d : (b : Int) = i; (rw [am_upN (by decide), am_upS, if_pos ⟨rfl, by rw [ci]; omega⟩, am_upS, if_pos ⟨rfl, by rw [ci]; omega⟩, am_upN (by decide), hv0 _ _ (by decide) (by decide), hv0 _ _ (by decide) (by decide), ci, show i.toNat = b by omega]; exact ⟨rfl, rfl⟩); (rw [am_upN (by decide), am_upM (by rw [ci]; omega), am_upM (by rw [ci]; omega), am_upN (by decide)]; exact hv3 b (by omega))) | (intro a b h1 h2 h3; exact Eq.trans (am_uE (fun z => h3 ⟨z.1, z.2⟩)) (hv0 a b h1 h2)) | (intro b hb; rw [am_upN (by decide), am_upN (by decide)]; exact hv3 b (by simp only [ci, c4] at *; omega)) | (rw [am_upS, if_pos ⟨rfl, rfl⟩]; exact hv0 _ _ (by decide) (by decide)) | (trace_state; fail))
  have lp10' : ∀ (i : Int) (μ : am_N) , (∀ a b, a ≠ 64 → a ≠ 71 → μ a b = ν a b) → 0 ≤ i → i ≤ 4 → (∀ b : Nat, (b : Int) < i → μ 64 b = ν 65 b ∧ μ 71 b = ν 72 b) → am_AW l 0 (fun _ => 0) 47 Q 10 [some (.inr (.inr 62)), some (.inl 1), some (.inl i)] [] μ := fun i μ hv0 hv1 hv2 hv3 => lp10 ((4 - i) + 1).toNat i μ hv0 hv1 hv2 hv3 (by omega)
  exact lp10' 0 ν (fun _ _ _ _ => rfl) (by decide) (by decide) (fun b hb => by omega)
theorem x_lo_2 {l : Launch} {ν : am_N} {Q : Option am_V → am_N → Prop} (k : ∀ (v : Int) (o2 : Option am_V) (μ' : am_N), v = 3 → (∀ a b, a ≠ 65 → a ≠ 72 → ¬(a = 77 ∧ b = 1) → μ' a b = ν a b) → (∀ b : Nat, b < 4 → μ' 65 b = ν 66 b ∧ μ' 72 b = ν 73 b) → μ' 77 1 = ν 77 2 → am_AW l 0 (fun _ => 0) 47 Q 2 [some (.inr (.inr 62)), some (.inl v), o2] [] μ') : am_AW l 0 (fun _ => 0) 47 Q 10 [some (.inr (.inr 62)), some (.inl 2), some (.inl 0)] [] ν := by
  have lp10 : ∀ (m : Nat) (i : Int) (μ : am_N) , (∀ a b, a ≠ 65 → a ≠ 72 → μ a b = ν a b) → 0 ≤ i → i ≤ 4 → (∀ b : Nat, (b : Int) < i → μ 65 b = ν 66 b ∧ μ 72 b = ν 73 b) → 4 - i < (m : Int) → am_AW l 0 (fun _ => 0) 47 Q 10 [some (.inr (.inr 62)), some (.inl 2), some (.inl i)] [] μ := by
    intro m
    induction m with
    | zero =>
      intro i μ hv0 hv1 hv2 hv3 hm
      exfalso
      omega
    | succ m ih =>
      intro i μ hv0 hv1 hv2 hv3 hm
      have ci : am_c i = i := am_cR (by omega) (by omega)
      have c4 : am_c 4 = 4 := rfl
      refine am_go (ct := fun pc => Nat.beq pc 10 || Nat.beq pc 2) am_oX4_loseOldest 300 ?_
      conv => whnf
      repeat' first
        | (refine (?_ : am_wp _ _ _ _ _ _ _ _ _ _ _ _); conv => whnf)
        | (refine (?_ : am_sw _ _ _ _); conv => whnf)
        | refine And.intro trivial ?_
        | exact trivial
        | refine am_ab1 (a := 65) rfl ?_
        | refine am_ab1 (a := 66) rfl ?_
        | refine am_ab1 (a := 72) rfl ?_
        | refine am_ab1 (a := 73) rfl ?_
        | refine k _ _ _ ?_ ?_ ?_ ?_
        | refine ih _ _ ?_ ?_ ?_ ?_ ?_
        | refine And.intro (fun h => absurd h (by decide)) (fun _ => ?_)
        | refine And.intro (fun _ => ?_) (fun h => absurd (by decide) h)
        | refine And.intro (fun _ => ?_) (fun _ => ?_)
        | refine And.intro ?_ ?_
      all_goals (first | decide | omega | (simp only [ci, c4] at *; omega) | (intro a b h1 h2; rw [am_upN h2, am_upN h1]; exact hv0 a b h1 h2) | (intro b hb; by_cases d : (b : Int) = i; (rw [am_upN (by decide), am_upS, if_pos ⟨rfl, by rw [ci]; omega⟩, am_upS, if_pos ⟨rfl, by rw [ci]; omega⟩, am_upN (by decide), hv0 _ _ (by decide) (by decide), hv0 _ _ (by decide) (by decide), ci, show i.toNat = b by omega]; exact ⟨rfl, rfl⟩); (rw [am_upN (by decide), am_upM (by rw [ci]; omega), am_upM (by rw [ci]; omega), am_upN (by decide)]; exact hv3 b (by omega))) | (intro a b h1 h2 h3; exact Eq.trans (am_uE (fun z => h3 ⟨z.1, z.2⟩)) (hv0 a b h1 h2)) | (intro b hb; rw [am_upN (by decide), am_upN (by decide)]; exact hv3 b (by simp only [ci, c4] at *; omega)) | (rw [am_upS, if_pos ⟨rfl, rfl⟩]; exact hv0 _ _ (by decide) (by decide)) | (trace_state; fail))
  have lp10' : ∀ (i : Int) (μ : am_N) , (∀ a b, a ≠ 65 → a ≠ 72 → μ a b = ν a b) → 0 ≤ i → i ≤ 4 → (∀ b : Nat, (b : Int) < i → μ 65 b = ν 66 b ∧ μ 72 b = ν 73 b) → am_AW l 0 (fun _ => 0) 47 Q 10 [some (.inr (.inr 62)), some (.inl 2), some (.inl i)] [] μ := fun i μ hv0 hv1 hv2 hv3 => lp10 ((4 - i) + 1).toNat i μ hv0 hv1 hv2 hv3 (by omega)
  exact lp10' 0 ν (fun _ _ _ _ => rfl) (by decide) (by decide) (fun b hb => by omega)
theorem x_lo_3 {l : Launch} {ν : am_N} {Q : Option am_V → am_N → Prop} (k : ∀ (v : Int) (o2 : Option am_V) (μ' : am_N), v = 4 → (∀ a b, a ≠ 66 → a ≠ 73 → ¬(a = 77 ∧ b = 2) → μ' a b = ν a b) → (∀ b : Nat, b < 4 → μ' 66 b = ν 67 b ∧ μ' 73 b = ν 74 b) → μ' 77 2 = ν 77 3 → am_AW l 0 (fun _ => 0) 47 Q 2 [some (.inr (.inr 62)), some (.inl v), o2] [] μ') : am_AW l 0 (fun _ => 0) 47 Q 10 [some (.inr (.inr 62)), some (.inl 3), some (.inl 0)] [] ν := by
  have lp10 : ∀ (m : Nat) (i : Int) (μ : am_N) , (∀ a b, a ≠ 66 → a ≠ 73 → μ a b = ν a b) → 0 ≤ i → i ≤ 4 → (∀ b : Nat, (b : Int) < i → μ 66 b = ν 67 b ∧ μ 73 b = ν 74 b) → 4 - i < (m : Int) → am_AW l 0 (fun _ => 0) 47 Q 10 [some (.inr (.inr 62)), some (.inl 3), some (.inl i)] [] μ := by
    intro m
    induction m with
    | zero =>
      intro i μ hv0 hv1 hv2 hv3 hm
      exfalso
      omega
    | succ m ih =>
      intro i μ hv0 hv1 hv2 hv3 hm
      have ci : am_c i = i := am_cR (by omega) (by omega)
      have c4 : am_c 4 = 4 := rfl
      refine am_go (ct := fun pc => Nat.beq pc 10 || Nat.beq pc 2) am_oX4_loseOldest 300 ?_
      conv => whnf
      repeat' first
        | (refine (?_ : am_wp _ _ _ _ _ _ _ _ _ _ _ _); conv => whnf)
        | (refine (?_ : am_sw _ _ _ _); conv => whnf)
        | refine And.intro trivial ?_
        | exact trivial
        | refine am_ab1 (a := 66) rfl ?_
        | refine am_ab1 (a := 67) rfl ?_
        | refine am_ab1 (a := 73) rfl ?_
        | refine am_ab1 (a := 74) rfl ?_
        | refine k _ _ _ ?_ ?_ ?_ ?_
        | refine ih _ _ ?_ ?_ ?_ ?_ ?_
        | refine And.intro (fun h => absurd h (by decide)) (fun _ => ?_)
        | refine And.intro (fun _ => ?_) (fun h => absurd (by decide) h)
        | refine And.intro (fun _ => ?_) (fun _ => ?_)
        | refine And.intro ?_ ?_
      all_goals (first | decide | omega | (simp only [ci, c4] at *; omega) | (intro a b h1 h2; rw [am_upN h2, am_upN h1]; exact hv0 a b h1 h2) | (intro b hb; by_cases d : (b : Int) = i; (rw [am_upN (by decide), am_upS, if_pos ⟨rfl, by rw [ci]; omega⟩, am_upS, if_pos ⟨rfl, by rw [ci]; omega⟩, am_upN (by decide), hv0 _ _ (by decide) (by decide), hv0 _ _ (by decide) (by decide), ci, show i.toNat = b by omega]; exact ⟨rfl, rfl⟩); (rw [am_upN (by decide), am_upM (by rw [ci]; omega), am_upM (by rw [ci]; omega), am_upN (by decide)]; exact hv3 b (by omega))) | (intro a b h1 h2 h3; exact Eq.trans (am_uE (fun z => h3 ⟨z.1, z.2⟩)) (hv0 a b h1 h2)) | (intro b hb; rw [am_upN (by decide), am_upN (by decide)]; exact hv3 b (by simp only [ci, c4] at *; omega)) | (rw [am_upS, if_pos ⟨rfl, rfl⟩]; exact hv0 _ _ (by decide) (by decide)) | (trace_state; fail))
  have lp10' : ∀ (i : Int) (μ : am_N) , (∀ a b, a ≠ 66 → a ≠ 73 → μ a b = ν a b) → 0 ≤ i → i ≤ 4 → (∀ b : Nat, (b : Int) < i → μ 66 b = ν 67 b ∧ μ 73 b = ν 74 b) → am_AW l 0 (fun _ => 0) 47 Q 10 [some (.inr (.inr 62)), some (.inl 3), some (.inl i)] [] μ := fun i μ hv0 hv1 hv2 hv3 => lp10 ((4 - i) + 1).toNat i μ hv0 hv1 hv2 hv3 (by omega)
  exact lp10' 0 ν (fun _ _ _ _ => rfl) (by decide) (by decide) (fun b hb => by omega)
theorem x_lo_4 {l : Launch} {ν : am_N} {Q : Option am_V → am_N → Prop} (k : ∀ (v : Int) (o2 : Option am_V) (μ' : am_N), v = 5 → (∀ a b, a ≠ 67 → a ≠ 74 → ¬(a = 77 ∧ b = 3) → μ' a b = ν a b) → (∀ b : Nat, b < 4 → μ' 67 b = ν 68 b ∧ μ' 74 b = ν 75 b) → μ' 77 3 = ν 77 4 → am_AW l 0 (fun _ => 0) 47 Q 2 [some (.inr (.inr 62)), some (.inl v), o2] [] μ') : am_AW l 0 (fun _ => 0) 47 Q 10 [some (.inr (.inr 62)), some (.inl 4), some (.inl 0)] [] ν := by
  have lp10 : ∀ (m : Nat) (i : Int) (μ : am_N) , (∀ a b, a ≠ 67 → a ≠ 74 → μ a b = ν a b) → 0 ≤ i → i ≤ 4 → (∀ b : Nat, (b : Int) < i → μ 67 b = ν 68 b ∧ μ 74 b = ν 75 b) → 4 - i < (m : Int) → am_AW l 0 (fun _ => 0) 47 Q 10 [some (.inr (.inr 62)), some (.inl 4), some (.inl i)] [] μ := by
    intro m
    induction m with
    | zero =>
      intro i μ hv0 hv1 hv2 hv3 hm
      exfalso
      omega
    | succ m ih =>
      intro i μ hv0 hv1 hv2 hv3 hm
      have ci : am_c i = i := am_cR (by omega) (by omega)
      have c4 : am_c 4 = 4 := rfl
      refine am_go (ct := fun pc => Nat.beq pc 10 || Nat.beq pc 2) am_oX4_loseOldest 300 ?_
      conv => whnf
      repeat' first
        | (refine (?_ : am_wp _ _ _ _ _ _ _ _ _ _ _ _); conv => whnf)
        | (refine (?_ : am_sw _ _ _ _); conv => whnf)
        | refine And.intro trivial ?_
        | exact trivial
        | refine am_ab1 (a := 67) rfl ?_
        | refine am_ab1 (a := 68) rfl ?_
        | refine am_ab1 (a := 74) rfl ?_
        | refine am_ab1 (a := 75) rfl ?_
        | refine k _ _ _ ?_ ?_ ?_ ?_
        | refine ih _ _ ?_ ?_ ?_ ?_ ?_
        | refine And.intro (fun h => absurd h (by decide)) (fun _ => ?_)
        | refine And.intro (fun _ => ?_) (fun h => absurd (by decide) h)
        | refine And.intro (fun _ => ?_) (fun _ => ?_)
        | refine And.intro ?_ ?_
      all_goals (first | decide | omega | (simp only [ci, c4] at *; omega) | (intro a b h1 h2; rw [am_upN h2, am_upN h1]; exact hv0 a b h1 h2) | (intro b hb; by_cases d : (b : Int) = i; (rw [am_upN (by decide), am_upS, if_pos ⟨rfl, by rw [ci]; omega⟩, am_upS, if_pos ⟨rfl, by rw [ci]; omega⟩, am_upN (by decide), hv0 _ _ (by decide) (by decide), hv0 _ _ (by decide) (by decide), ci, show i.toNat = b by omega]; exact ⟨rfl, rfl⟩); (rw [am_upN (by decide), am_upM (by rw [ci]; omega), am_upM (by rw [ci]; omega), am_upN (by decide)]; exact hv3 b (by omega))) | (intro a b h1 h2 h3; exact Eq.trans (am_uE (fun z => h3 ⟨z.1, z.2⟩)) (hv0 a b h1 h2)) | (intro b hb; rw [am_upN (by decide), am_upN (by decide)]; exact hv3 b (by simp only [ci, c4] at *; omega)) | (rw [am_upS, if_pos ⟨rfl, rfl⟩]; exact hv0 _ _ (by decide) (by decide)) | (trace_state; fail))
  have lp10' : ∀ (i : Int) (μ : am_N) , (∀ a b, a ≠ 67 → a ≠ 74 → μ a b = ν a b) → 0 ≤ i → i ≤ 4 → (∀ b : Nat, (b : Int) < i → μ 67 b = ν 68 b ∧ μ 74 b = ν 75 b) → am_AW l 0 (fun _ => 0) 47 Q 10 [some (.inr (.inr 62)), some (.inl 4), some (.inl i)] [] μ := fun i μ hv0 hv1 hv2 hv3 => lp10 ((4 - i) + 1).toNat i μ hv0 hv1 hv2 hv3 (by omega)
  exact lp10' 0 ν (fun _ _ _ _ => rfl) (by decide) (by decide) (fun b hb => by omega)
theorem x_lo_5 {l : Launch} {ν : am_N} {Q : Option am_V → am_N → Prop} (k : ∀ (v : Int) (o2 : Option am_V) (μ' : am_N), v = 6 → (∀ a b, a ≠ 68 → a ≠ 75 → ¬(a = 77 ∧ b = 4) → μ' a b = ν a b) → (∀ b : Nat, b < 4 → μ' 68 b = ν 69 b ∧ μ' 75 b = ν 76 b) → μ' 77 4 = ν 77 5 → am_AW l 0 (fun _ => 0) 47 Q 2 [some (.inr (.inr 62)), some (.inl v), o2] [] μ') : am_AW l 0 (fun _ => 0) 47 Q 10 [some (.inr (.inr 62)), some (.inl 5), some (.inl 0)] [] ν := by
  have lp10 : ∀ (m : Nat) (i : Int) (μ : am_N) , (∀ a b, a ≠ 68 → a ≠ 75 → μ a b = ν a b) → 0 ≤ i → i ≤ 4 → (∀ b : Nat, (b : Int) < i → μ 68 b = ν 69 b ∧ μ 75 b = ν 76 b) → 4 - i < (m : Int) → am_AW l 0 (fun _ => 0) 47 Q 10 [some (.inr (.inr 62)), some (.inl 5), some (.inl i)] [] μ := by
    intro m
    induction m with
    | zero =>
      intro i μ hv0 hv1 hv2 hv3 hm
      exfalso
      omega
    | succ m ih =>
      intro i μ hv0 hv1 hv2 hv3 hm
      have ci : am_c i = i := am_cR (by omega) (by omega)
      have c4 : am_c 4 = 4 := rfl
      refine am_go (ct := fun pc => Nat.beq pc 10 || Nat.beq pc 2) am_oX4_loseOldest 300 ?_
      conv => whnf
      repeat' first
        | (refine (?_ : am_wp _ _ _ _ _ _ _ _ _ _ _ _); conv => whnf)
        | (refine (?_ : am_sw _ _ _ _); conv => whnf)
        | refine And.intro trivial ?_
        | exact trivial
        | refine am_ab1 (a := 68) rfl ?_
        | refine am_ab1 (a := 69) rfl ?_
        | refine am_ab1 (a := 75) rfl ?_
        | refine am_ab1 (a := 76) rfl ?_
        | refine k _ _ _ ?_ ?_ ?_ ?_
        | refine ih _ _ ?_ ?_ ?_ ?_ ?_
        | refine And.intro (fun h => absurd h (by decide)) (fun _ => ?_)
        | refine And.intro (fun _ => ?_) (fun h => absurd (by decide) h)
        | refine And.intro (fun _ => ?_) (fun _ => ?_)
        | refine And.intro ?_ ?_
      all_goals (first | decide | omega | (simp only [ci, c4] at *; omega) | (intro a b h1 h2; rw [am_upN h2, am_upN h1]; exact hv0 a b h1 h2) | (intro b hb; by_cases d : (b : Int) = i; (rw [am_upN (by decide), am_upS, if_pos ⟨rfl, by rw [ci]; omega⟩, am_upS, if_pos ⟨rfl, by rw [ci]; omega⟩, am_upN (by decide), hv0 _ _ (by decide) (by decide), hv0 _ _ (by decide) (by decide), ci, show i.toNat = b by omega]; exact ⟨rfl, rfl⟩); (rw [am_upN (by decide), am_upM (by rw [ci]; omega), am_upM (by rw [ci]; omega), am_upN (by decide)]; exact hv3 b (by omega))) | (intro a b h1 h2 h3; exact Eq.trans (am_uE (fun z => h3 ⟨z.1, z.2⟩)) (hv0 a b h1 h2)) | (intro b hb; rw [am_upN (by decide), am_upN (by decide)]; exact hv3 b (by simp only [ci, c4] at *; omega)) | (rw [am_upS, if_pos ⟨rfl, rfl⟩]; exact hv0 _ _ (by decide) (by decide)) | (trace_state; fail))
  have lp10' : ∀ (i : Int) (μ : am_N) , (∀ a b, a ≠ 68 → a ≠ 75 → μ a b = ν a b) → 0 ≤ i → i ≤ 4 → (∀ b : Nat, (b : Int) < i → μ 68 b = ν 69 b ∧ μ 75 b = ν 76 b) → am_AW l 0 (fun _ => 0) 47 Q 10 [some (.inr (.inr 62)), some (.inl 5), some (.inl i)] [] μ := fun i μ hv0 hv1 hv2 hv3 => lp10 ((4 - i) + 1).toNat i μ hv0 hv1 hv2 hv3 (by omega)
  exact lp10' 0 ν (fun _ _ _ _ => rfl) (by decide) (by decide) (fun b hb => by omega)
theorem x_lose {l : Launch} {ν : am_N} {Q : Option am_V → am_N → Prop} (k : ∀ μ' : am_N, (∀ a b, (a < 62 ∨ 77 < a) → μ' a b = ν a b) → μ' 62 3 = 5 → (∀ j : Nat, j < 5 → (∀ r : Nat, r < 4 → μ' (64 + j) r = ν (65 + j) r ∧ μ' (71 + j) r = ν (72 + j) r) ∧ μ' 77 j = ν 77 (j + 1)) → Q none μ') : am_Does l 47 [.inr (.inr 62)] ν Q := by
  refine am_Does_of (Nat.le_of_ble_eq_true rfl) (Nat.le_of_ble_eq_true rfl) (Nat.le_of_ble_eq_true rfl) ?_
  refine am_go (ct := fun pc => Nat.beq pc 10) am_oX4_loseOldest 60 ?_
  conv => whnf
  repeat' first
    | (refine (?_ : am_wp _ _ _ _ _ _ _ _ _ _ _ _); conv => whnf)
    | (refine (?_ : am_sw _ _ _ _); conv => whnf)
    | refine And.intro trivial ?_
    | exact trivial
    | (refine x_lo_1 (fun v1 o1 μ1 e1 f1 a1 c1 => ?_); subst e1; refine am_go (ct := fun pc => Nat.beq pc 10) am_oX4_loseOldest 60 ?_; conv => whnf)
    | (refine x_lo_2 (fun v2 o2 μ2 e2 f2 a2 c2 => ?_); subst e2; refine am_go (ct := fun pc => Nat.beq pc 10) am_oX4_loseOldest 60 ?_; conv => whnf)
    | (refine x_lo_3 (fun v3 o3 μ3 e3 f3 a3 c3 => ?_); subst e3; refine am_go (ct := fun pc => Nat.beq pc 10) am_oX4_loseOldest 60 ?_; conv => whnf)
    | (refine x_lo_4 (fun v4 o4 μ4 e4 f4 a4 c4 => ?_); subst e4; refine am_go (ct := fun pc => Nat.beq pc 10) am_oX4_loseOldest 60 ?_; conv => whnf)
    | (refine x_lo_5 (fun v5 o5 μ5 e5 f5 a5 c5 => ?_); subst e5; refine am_go (ct := fun pc => Nat.beq pc 10) am_oX4_loseOldest 60 ?_; conv => whnf)
    | refine k _ ?_ ?_ ?_
    | refine And.intro (fun h => absurd h (by decide)) (fun _ => ?_)
    | refine And.intro (fun _ => ?_) (fun h => absurd (by decide) h)
    | refine And.intro (fun _ => ?_) (fun _ => ?_)
    | refine And.intro ?_ ?_
  all_goals (first | decide | rfl | (intro a b h; rw [am_upN (by omega), f5 a b (by omega) (by omega) (by omega), f4 a b (by omega) (by omega) (by omega), f3 a b (by omega) (by omega) (by omega), f2 a b (by omega) (by omega) (by omega), f1 a b (by omega) (by omega) (by omega)]) | (intro j hj; rcases (show j = 0 ∨ j = 1 ∨ j = 2 ∨ j = 3 ∨ j = 4 by omega) with rfl | rfl | rfl | rfl | rfl; (refine ⟨fun r hr => ⟨?_, ?_⟩, ?_⟩; (show am_up μ5 62 3 5 64 r = ν 65 r; rw [am_upN (by decide)]; (rw [f5 _ _ (by first | decide | omega | exact fun z => absurd z.1 (by decide)) (by first | decide | omega | exact fun z => absurd z.1 (by decide)) (by first | decide | omega | exact fun z => absurd z.1 (by decide))]; rw [f4 _ _ (by first | decide | omega | exact fun z => absurd z.1 (by decide)) (by first | decide | omega | exact fun z => absurd z.1 (by decide)) (by first | decide | omega | exact fun z => absurd z.1 (by decide))]; rw [f3 _ _ (by first | decide | omega | exact fun z => absurd z.1 (by decide)) (by first | decide | omega | exact fun z => absurd z.1 (by decide)) (by first | decide | omega | exact fun z => absurd z.1 (by decide))]; rw [f2 _ _ (by first | decide | omega | exact fun z => absurd z.1 (by decide)) (by first | decide | omega | exact fun z => absurd z.1 (by decide)) (by first | decide | omega | exact fun z => absurd z.1 (by decide))]; exact (a1 r hr).1)); (show am_up μ5 62 3 5 71 r = ν 72 r; rw [am_upN (by decide)]; (rw [f5 _ _ (by first | decide | omega | exact fun z => absurd z.1 (by decide)) (by first | decide | omega | exact fun z => absurd z.1 (by decide)) (by first | decide | omega | exact fun z => absurd z.1 (by decide))]; rw [f4 _ _ (by first | decide | omega | exact fun z => absurd z.1 (by decide)) (by first | decide | omega | exact fun z => absurd z.1 (by decide)) (by first | decide | omega | exact fun z => absurd z.1 (by decide))]; rw [f3 _ _ (by first | decide | omega | exact fun z => absurd z.1 (by decide)) (by first | decide | omega | exact fun z => absurd z.1 (by decide)) (by first | decide | omega | exact fun z => absurd z.1 (by decide))]; rw [f2 _ _ (by first | decide | omega | exact fun z => absurd z.1 (by decide)) (by first | decide | omega | exact fun z => absurd z.1 (by decide)) (by first | decide | omega | exact fun z => absurd z.1 (by decide))]; exact (a1 r hr).2)); (show am_up μ5 62 3 5 77 0 = ν 77 1; rw [am_upN (by decide)]; (rw [f5 _ _ (by first | decide | omega | exact fun z => absurd z.1 (by decide)) (by first | decide | omega | exact fun z => absurd z.1 (by decide)) (by first | decide | omega | exact fun z => absurd z.1 (by decide))]; rw [f4 _ _ (by first | decide | omega | exact fun z => absurd z.1 (by decide)) (by first | decide | omega | exact fun z => absurd z.1 (by decide)) (by first | decide | omega | exact fun z => absurd z.1 (by decide))]; rw [f3 _ _ (by first | decide | omega | exact fun z => absurd z.1 (by decide)) (by first | decide | omega | exact fun z => absurd z.1 (by decide)) (by first | decide | omega | exact fun z => absurd z.1 (by decide))]; rw [f2 _ _ (by first | decide | omega | exact fun z => absurd z.1 (by decide)) (by first | decide | omega | exact fun z => absurd z.1 (by decide)) (by first | decide | omega | exact fun z => absurd z.1 (by decide))]; exact c1))); (refine ⟨fun r hr => ⟨?_, ?_⟩, ?_⟩; (show am_up μ5 62 3 5 65 r = ν 66 r; rw [am_upN (by decide)]; (rw [f5 _ _ (by first | decide | omega | exact fun z => absurd z.1 (by decide)) (by first | decide | omega | exact fun z => absurd z.1 (by decide)) (by first | decide | omega | exact fun z => absurd z.1 (by decide))]; rw [f4 _ _ (by first | decide | omega | exact fun z => absurd z.1 (by decide)) (by first | decide | omega | exact fun z => absurd z.1 (by decide)) (by first | decide | omega | exact fun z => absurd z.1 (by decide))]; rw [f3 _ _ (by first | decide | omega | exact fun z => absurd z.1 (by decide)) (by first | decide | omega | exact fun z => absurd z.1 (by decide)) (by first | decide | omega | exact fun z => absurd z.1 (by decide))]; rw [(a2 r hr).1]; rw [f1 _ _ (by first | decide | omega | exact fun z => absurd z.1 (by decide)) (by first | decide | omega | exact fun z => absurd z.1 (by decide)) (by first | decide | omega | exact fun z => absurd z.1 (by decide))]; skip)); (show am_up μ5 62 3 5 72 r = ν 73 r; rw [am_upN (by decide)]; (rw [f5 _ _ (by first | decide | omega | exact fun z => absurd z.1 (by decide)) (by first | decide | omega | exact fun z => absurd z.1 (by decide)) (by first | decide | omega | exact fun z => absurd z.1 (by decide))]; rw [f4 _ _ (by first | decide | omega | exact fun z => absurd z.1 (by decide)) (by first | decide | omega | exact fun z => absurd z.1 (by decide)) (by first | decide | omega | exact fun z => absurd z.1 (by decide))]; rw [f3 _ _ (by first | decide | omega | exact fun z => absurd z.1 (by decide)) (by first | decide | omega | exact fun z => absurd z.1 (by decide)) (by first | decide | omega | exact fun z => absurd z.1 (by decide))]; rw [(a2 r hr).2]; rw [f1 _ _ (by first | decide | omega | exact fun z => absurd z.1 (by decide)) (by first | decide | omega | exact fun z => absurd z.1 (by decide)) (by first | decide | omega | exact fun z => absurd z.1 (by decide))]; skip)); (show am_up μ5 62 3 5 77 1 = ν 77 2; rw [am_upN (by decide)]; (rw [f5 _ _ (by first | decide | omega | exact fun z => absurd z.1 (by decide)) (by first | decide | omega | exact fun z => absurd z.1 (by decide)) (by first | decide | omega | exact fun z => absurd z.1 (by decide))]; rw [f4 _ _ (by first | decide | omega | exact fun z => absurd z.1 (by decide)) (by first | decide | omega | exact fun z => absurd z.1 (by decide)) (by first | decide | omega | exact fun z => absurd z.1 (by decide))]; rw [f3 _ _ (by first | decide | omega | exact fun z => absurd z.1 (by decide)) (by first | decide | omega | exact fun z => absurd z.1 (by decide)) (by first | decide | omega | exact fun z => absurd z.1 (by decide))]; rw [c2]; rw [f1 _ _ (by first | decide | omega | exact fun z => absurd z.1 (by decide)) (by first | decide | omega | exact fun z => absurd z.1 (by decide)) (by first | decide | omega | exact fun z => absurd z.1 (by decide))]; skip))); (refine ⟨fun r hr => ⟨?_, ?_⟩, ?_⟩; (show am_up μ5 62 3 5 66 r = ν 67 r; rw [am_upN (by decide)]; (rw [f5 _ _ (by first | decide | omega | exact fun z => absurd z.1 (by decide)) (by first | decide | omega | exact fun z => absurd z.1 (by decide)) (by first | decide | omega | exact fun z => absurd z.1 (by decide))]; rw [f4 _ _ (by first | decide | omega | exact fun z => absurd z.1 (by decide)) (by first | decide | omega | exact fun z => absurd z.1 (by decide)) (by first | decide | omega | exact fun z => absurd z.1 (by decide))]; rw [(a3 r hr).1]; rw [f2 _ _ (by first | decide | omega | exact fun z => absurd z.1 (by decide)) (by first | decide | omega | exact fun z => absurd z.1 (by decide)) (by first | decide | omega | exact fun z => absurd z.1 (by decide))]; rw [f1 _ _ (by first | decide | omega | exact fun z => absurd z.1 (by decide)) (by first | decide | omega | exact fun z => absurd z.1 (by decide)) (by first | decide | omega | exact fun z => absurd z.1 (by decide))]; skip)); (show am_up μ5 62 3 5 73 r = ν 74 r; rw [am_upN (by decide)]; (rw [f5 _ _ (by first | decide | omega | exact fun z => absurd z.1 (by decide)) (by first | decide | omega | exact fun z => absurd z.1 (by decide)) (by first | decide | omega | exact fun z => absurd z.1 (by decide))]; rw [f4 _ _ (by first | decide | omega | exact fun z => absurd z.1 (by decide)) (by first | decide | omega | exact fun z => absurd z.1 (by decide)) (by first | decide | omega | exact fun z => absurd z.1 (by decide))]; rw [(a3 r hr).2]; rw [f2 _ _ (by first | decide | omega | exact fun z => absurd z.1 (by decide)) (by first | decide | omega | exact fun z => absurd z.1 (by decide)) (by first | decide | omega | exact fun z => absurd z.1 (by decide))]; rw [f1 _ _ (by first | decide | omega | exact fun z => absurd z.1 (by decide)) (by first | decide | omega | exact fun z => absurd z.1 (by decide)) (by first | decide | omega | exact fun z => absurd z.1 (by decide))]; skip)); (show am_up μ5 62 3 5 77 2 = ν 77 3; rw [am_upN (by decide)]; (rw [f5 _ _ (by first | decide | omega | exact fun z => absurd z.1 (by decide)) (by first | decide | omega | exact fun z => absurd z.1 (by decide)) (by first | decide | omega | exact fun z => absurd z.1 (by decide))]; rw [f4 _ _ (by first | decide | omega | exact fun z => absurd z.1 (by decide)) (by first | decide | omega | exact fun z => absurd z.1 (by decide)) (by first | decide | omega | exact fun z => absurd z.1 (by decide))]; rw [c3]; rw [f2 _ _ (by first | decide | omega | exact fun z => absurd z.1 (by decide)) (by first | decide | omega | exact fun z => absurd z.1 (by decide)) (by first | decide | omega | exact fun z => absurd z.1 (by decide))]; rw [f1 _ _ (by first | decide | omega | exact fun z => absurd z.1 (by decide)) (by first | decide | omega | exact fun z => absurd z.1 (by decide)) (by first | decide | omega | exact fun z => absurd z.1 (by decide))]; skip))); (refine ⟨fun r hr => ⟨?_, ?_⟩, ?_⟩; (show am_up μ5 62 3 5 67 r = ν 68 r; rw [am_upN (by decide)]; (rw [f5 _ _ (by first | decide | omega | exact fun z => absurd z.1 (by decide)) (by first | decide | omega | exact fun z => absurd z.1 (by decide)) (by first | decide | omega | exact fun z => absurd z.1 (by decide))]; rw [(a4 r hr).1]; rw [f3 _ _ (by first | decide | omega | exact fun z => absurd z.1 (by decide)) (by first | decide | omega | exact fun z => absurd z.1 (by decide)) (by first | decide | omega | exact fun z => absurd z.1 (by decide))]; rw [f2 _ _ (by first | decide | omega | exact fun z => absurd z.1 (by decide)) (by first | decide | omega | exact fun z => absurd z.1 (by decide)) (by first | decide | omega | exact fun z => absurd z.1 (by decide))]; rw [f1 _ _ (by first | decide | omega | exact fun z => absurd z.1 (by decide)) (by first | decide | omega | exact fun z => absurd z.1 (by decide)) (by first | decide | omega | exact fun z => absurd z.1 (by decide))]; skip)); (show am_up μ5 62 3 5 74 r = ν 75 r; rw [am_upN (by decide)]; (rw [f5 _ _ (by first | decide | omega | exact fun z => absurd z.1 (by decide)) (by first | decide | omega | exact fun z => absurd z.1 (by decide)) (by first | decide | omega | exact fun z => absurd z.1 (by decide))]; rw [(a4 r hr).2]; rw [f3 _ _ (by first | decide | omega | exact fun z => absurd z.1 (by decide)) (by first | decide | omega | exact fun z => absurd z.1 (by decide)) (by first | decide | omega | exact fun z => absurd z.1 (by decide))]; rw [f2 _ _ (by first | decide | omega | exact fun z => absurd z.1 (by decide)) (by first | decide | omega | exact fun z => absurd z.1 (by decide)) (by first | decide | omega | exact fun z => absurd z.1 (by decide))]; rw [f1 _ _ (by first | decide | omega | exact fun z => absurd z.1 (by decide)) (by first | decide | omega | exact fun z => absurd z.1 (by decide)) (by first | decide | omega | exact fun z => absurd z.1 (by decide))]; skip)); (show am_up μ5 62 3 5 77 3 = ν 77 4; rw [am_upN (by decide)]; (rw [f5 _ _ (by first | decide | omega | exact fun z => absurd z.1 (by decide)) (by first | decide | omega | exact fun z => absurd z.1 (by decide)) (by first | decide | omega | exact fun z => absurd z.1 (by decide))]; rw [c4]; rw [f3 _ _ (by first | decide | omega | exact fun z => absurd z.1 (by decide)) (by first | decide | omega | exact fun z => absurd z.1 (by decide)) (by first | decide | omega | exact fun z => absurd z.1 (by decide))]; rw [f2 _ _ (by first | decide | omega | exact fun z => absurd z.1 (by decide)) (by first | decide | omega | exact fun z => absurd z.1 (by decide)) (by first | decide | omega | exact fun z => absurd z.1 (by decide))]; rw [f1 _ _ (by first | decide | omega | exact fun z => absurd z.1 (by decide)) (by first | decide | omega | exact fun z => absurd z.1 (by decide)) (by first | decide | omega | exact fun z => absurd z.1 (by decide))]; skip))); (refine ⟨fun r hr => ⟨?_, ?_⟩, ?_⟩; (show am_up μ5 62 3 5 68 r = ν 69 r; rw [am_upN (by decide)]; ( rw [(a5 r hr).1]; rw [f4 _ _ (by first | decide | omega | exact fun z => absurd z.1 (by decide)) (by first | decide | omega | exact fun z => absurd z.1 (by decide)) (by first | decide | omega | exact fun z => absurd z.1 (by decide))]; rw [f3 _ _ (by first | decide | omega | exact fun z => absurd z.1 (by decide)) (by first | decide | omega | exact fun z => absurd z.1 (by decide)) (by first | decide | omega | exact fun z => absurd z.1 (by decide))]; rw [f2 _ _ (by first | decide | omega | exact fun z => absurd z.1 (by decide)) (by first | decide | omega | exact fun z => absurd z.1 (by decide)) (by first | decide | omega | exact fun z => absurd z.1 (by decide))]; rw [f1 _ _ (by first | decide | omega | exact fun z => absurd z.1 (by decide)) (by first | decide | omega | exact fun z => absurd z.1 (by decide)) (by first | decide | omega | exact fun z => absurd z.1 (by decide))]; skip)); (show am_up μ5 62 3 5 75 r = ν 76 r; rw [am_upN (by decide)]; ( rw [(a5 r hr).2]; rw [f4 _ _ (by first | decide | omega | exact fun z => absurd z.1 (by decide)) (by first | decide | omega | exact fun z => absurd z.1 (by decide)) (by first | decide | omega | exact fun z => absurd z.1 (by decide))]; rw [f3 _ _ (by first | decide | omega | exact fun z => absurd z.1 (by decide)) (by first | decide | omega | exact fun z => absurd z.1 (by decide)) (by first | decide | omega | exact fun z => absurd z.1 (by decide))]; rw [f2 _ _ (by first | decide | omega | exact fun z => absurd z.1 (by decide)) (by first | decide | omega | exact fun z => absurd z.1 (by decide)) (by first | decide | omega | exact fun z => absurd z.1 (by decide))]; rw [f1 _ _ (by first | decide | omega | exact fun z => absurd z.1 (by decide)) (by first | decide | omega | exact fun z => absurd z.1 (by decide)) (by first | decide | omega | exact fun z => absurd z.1 (by decide))]; skip)); (show am_up μ5 62 3 5 77 4 = ν 77 5; rw [am_upN (by decide)]; ( rw [c5]; rw [f4 _ _ (by first | decide | omega | exact fun z => absurd z.1 (by decide)) (by first | decide | omega | exact fun z => absurd z.1 (by decide)) (by first | decide | omega | exact fun z => absurd z.1 (by decide))]; rw [f3 _ _ (by first | decide | omega | exact fun z => absurd z.1 (by decide)) (by first | decide | omega | exact fun z => absurd z.1 (by decide)) (by first | decide | omega | exact fun z => absurd z.1 (by decide))]; rw [f2 _ _ (by first | decide | omega | exact fun z => absurd z.1 (by decide)) (by first | decide | omega | exact fun z => absurd z.1 (by decide)) (by first | decide | omega | exact fun z => absurd z.1 (by decide))]; rw [f1 _ _ (by first | decide | omega | exact fun z => absurd z.1 (by decide)) (by first | decide | omega | exact fun z => absurd z.1 (by decide)) (by first | decide | omega | exact fun z => absurd z.1 (by decide))]; skip)))))
theorem x_kp_0 {l : Launch} {ν : am_N} {Q : Option am_V → am_N → Prop} (hB : ν 62 3 = 0) (k : ∀ μ' : am_N, (∀ a b, a ≠ 64 → a ≠ 71 → ¬(a = 77 ∧ b = 0) → ¬(a = 62 ∧ b = 3) → μ' a b = ν a b) → μ' 62 3 = 1 → (∀ r : Nat, r < 4 → μ' 64 r = ν 6 r ∧ μ' 71 r = ν 7 r) → μ' 77 0 = ν 1 1 → Q none μ') : am_AW l 0 (fun _ => 0) 46 Q 13 [some (.inr (.inr 62)), some (.inr (.inr 1)), none] [] ν := by
  have lp15 : ∀ (m : Nat) (i : Int) (μ : am_N) , (∀ a b, a ≠ 64 → a ≠ 71 → μ a b = ν a b) → 0 ≤ i → i ≤ 4 → (∀ b : Nat, (b : Int) < i → μ 64 b = ν 6 b ∧ μ 71 b = ν 7 b) → 4 - i < (m : Int) → am_AW l 0 (fun _ => 0) 46 Q 15 [some (.inr (.inr 62)), some (.inr (.inr 1)), some (.inl i)] [] μ := by
    intro m
    induction m with
    | zero =>
      intro i μ hv0 hv1 hv2 hv3 hm
      exfalso
      omega
    | succ m ih =>
      intro i μ hv0 hv1 hv2 hv3 hm
      have ci : am_c i = i := am_cR (by omega) (by omega)
      have c4 : am_c 4 = 4 := rfl
      have eB : μ 62 3 = 0 := (hv0 62 3 (by decide) (by decide)).trans hB
      have eC : am_up μ 64 (am_c i).toNat (μ 6 (am_c i).toNat) 62 3 = 0 := (am_upN (by decide)).trans eB
      refine am_go (ct := fun pc => Nat.beq pc 15) am_oX4_keep 300 ?_
      conv => whnf
      repeat' first
        | (refine (?_ : am_wp _ _ _ _ _ _ _ _ _ _ _ _); conv => whnf)
        | (refine (?_ : am_sw _ _ _ _); conv => whnf)
        | refine And.intro trivial ?_
        | exact trivial
        | refine am_ab1 (a := 64) (by rw [eB]; rfl) ?_
        | refine am_ab1 (a := 71) (by rw [eB]; rfl) ?_
        | refine am_ab1 (a := 64) (by rw [eC]; rfl) ?_
        | refine am_ab1 (a := 71) (by rw [eC]; rfl) ?_
        | refine k _ ?_ ?_ ?_ ?_
        | refine ih _ _ ?_ ?_ ?_ ?_ ?_
        | refine And.intro (fun h => absurd h (by decide)) (fun _ => ?_)
        | refine And.intro (fun _ => ?_) (fun h => absurd (by decide) h)
        | refine And.intro (fun _ => ?_) (fun _ => ?_)
        | refine And.intro ?_ ?_
      all_goals (first | decide | omega | (simp only [ci, c4] at *; omega) | (intro a b h1 h2; rw [am_upN h2, am_upN h1]; exact hv0 a b h1 h2) | (intro b hb; by_cases d : (b : Int) = i; (rw [am_upN (by decide), am_upS, if_pos ⟨rfl, by rw [ci]; omega⟩, am_upS, if_pos ⟨rfl, by rw [ci]; omega⟩, am_upN (by decide), hv0 _ _ (by decide) (by decide), hv0 _ _ (by decide) (by decide), ci, show i.toNat = b by omega]; exact ⟨rfl, rfl⟩); (rw [am_upN (by decide), am_upM (by rw [ci]; omega), am_upM (by rw [ci]; omega)]; exact hv3 b (by omega))) | (rw [eB]; decide) | (rw [eC]; decide) | (intro a b h1 h2 h3 h4; rw [am_uE h4]; exact Eq.trans (am_uE (fun z => h3 ⟨z.1, by rw [z.2, eB]; rfl⟩)) (hv0 a b h1 h2)) | (rw [am_upS, if_pos ⟨rfl, rfl⟩, am_upN (by decide), eB]; rfl) | (intro b hb; rw [am_upN (by decide), am_upN (by decide), am_upN (by decide), am_upN (by decide)]; exact hv3 b (by simp only [ci, c4] at *; omega)) | (rw [am_upN (by decide), am_upS, if_pos ⟨rfl, by rw [eB]; rfl⟩]; exact hv0 _ _ (by decide) (by decide)) | (trace_state; fail))
  have lp15' : ∀ (i : Int) (μ : am_N) , (∀ a b, a ≠ 64 → a ≠ 71 → μ a b = ν a b) → 0 ≤ i → i ≤ 4 → (∀ b : Nat, (b : Int) < i → μ 64 b = ν 6 b ∧ μ 71 b = ν 7 b) → am_AW l 0 (fun _ => 0) 46 Q 15 [some (.inr (.inr 62)), some (.inr (.inr 1)), some (.inl i)] [] μ := fun i μ hv0 hv1 hv2 hv3 => lp15 ((4 - i) + 1).toNat i μ hv0 hv1 hv2 hv3 (by omega)
  refine am_go (ct := fun pc => Nat.beq pc 15) am_oX4_keep 300 ?_
  conv => whnf
  repeat' first
    | (refine (?_ : am_wp _ _ _ _ _ _ _ _ _ _ _ _); conv => whnf)
    | (refine (?_ : am_sw _ _ _ _); conv => whnf)
    | refine And.intro trivial ?_
    | exact trivial
    | refine lp15' _ _ ?_ ?_ ?_ ?_
    | refine And.intro (fun h => absurd h (by decide)) (fun _ => ?_)
    | refine And.intro (fun _ => ?_) (fun h => absurd (by decide) h)
    | refine And.intro (fun _ => ?_) (fun _ => ?_)
    | refine And.intro ?_ ?_
  all_goals (first | decide | omega | exact fun _ _ _ _ => rfl | (intros; omega) | (trace_state; fail))
theorem x_kp_1 {l : Launch} {ν : am_N} {Q : Option am_V → am_N → Prop} (hB : ν 62 3 = 1) (k : ∀ μ' : am_N, (∀ a b, a ≠ 65 → a ≠ 72 → ¬(a = 77 ∧ b = 1) → ¬(a = 62 ∧ b = 3) → μ' a b = ν a b) → μ' 62 3 = 2 → (∀ r : Nat, r < 4 → μ' 65 r = ν 6 r ∧ μ' 72 r = ν 7 r) → μ' 77 1 = ν 1 1 → Q none μ') : am_AW l 0 (fun _ => 0) 46 Q 13 [some (.inr (.inr 62)), some (.inr (.inr 1)), none] [] ν := by
  have lp15 : ∀ (m : Nat) (i : Int) (μ : am_N) , (∀ a b, a ≠ 65 → a ≠ 72 → μ a b = ν a b) → 0 ≤ i → i ≤ 4 → (∀ b : Nat, (b : Int) < i → μ 65 b = ν 6 b ∧ μ 72 b = ν 7 b) → 4 - i < (m : Int) → am_AW l 0 (fun _ => 0) 46 Q 15 [some (.inr (.inr 62)), some (.inr (.inr 1)), some (.inl i)] [] μ := by
    intro m
    induction m with
    | zero =>
      intro i μ hv0 hv1 hv2 hv3 hm
      exfalso
      omega
    | succ m ih =>
      intro i μ hv0 hv1 hv2 hv3 hm
      have ci : am_c i = i := am_cR (by omega) (by omega)
      have c4 : am_c 4 = 4 := rfl
      have eB : μ 62 3 = 1 := (hv0 62 3 (by decide) (by decide)).trans hB
      have eC : am_up μ 65 (am_c i).toNat (μ 6 (am_c i).toNat) 62 3 = 1 := (am_upN (by decide)).trans eB
      refine am_go (ct := fun pc => Nat.beq pc 15) am_oX4_keep 300 ?_
      conv => whnf
      repeat' first
        | (refine (?_ : am_wp _ _ _ _ _ _ _ _ _ _ _ _); conv => whnf)
        | (refine (?_ : am_sw _ _ _ _); conv => whnf)
        | refine And.intro trivial ?_
        | exact trivial
        | refine am_ab1 (a := 65) (by rw [eB]; rfl) ?_
        | refine am_ab1 (a := 72) (by rw [eB]; rfl) ?_
        | refine am_ab1 (a := 65) (by rw [eC]; rfl) ?_
        | refine am_ab1 (a := 72) (by rw [eC]; rfl) ?_
        | refine k _ ?_ ?_ ?_ ?_
        | refine ih _ _ ?_ ?_ ?_ ?_ ?_
        | refine And.intro (fun h => absurd h (by decide)) (fun _ => ?_)
        | refine And.intro (fun _ => ?_) (fun h => absurd (by decide) h)
        | refine And.intro (fun _ => ?_) (fun _ => ?_)
        | refine And.intro ?_ ?_
      all_goals (first | decide | omega | (simp only [ci, c4] at *; omega) | (intro a b h1 h2; rw [am_upN h2, am_upN h1]; exact hv0 a b h1 h2) | (intro b hb; by_cases d : (b : Int) = i; (rw [am_upN (by decide), am_upS, if_pos ⟨rfl, by rw [ci]; omega⟩, am_upS, if_pos ⟨rfl, by rw [ci]; omega⟩, am_upN (by decide), hv0 _ _ (by decide) (by decide), hv0 _ _ (by decide) (by decide), ci, show i.toNat = b by omega]; exact ⟨rfl, rfl⟩); (rw [am_upN (by decide), am_upM (by rw [ci]; omega), am_upM (by rw [ci]; omega)]; exact hv3 b (by omega))) | (rw [eB]; decide) | (rw [eC]; decide) | (intro a b h1 h2 h3 h4; rw [am_uE h4]; exact Eq.trans (am_uE (fun z => h3 ⟨z.1, by rw [z.2, eB]; rfl⟩)) (hv0 a b h1 h2)) | (rw [am_upS, if_pos ⟨rfl, rfl⟩, am_upN (by decide), eB]; rfl) | (intro b hb; rw [am_upN (by decide), am_upN (by decide), am_upN (by decide), am_upN (by decide)]; exact hv3 b (by simp only [ci, c4] at *; omega)) | (rw [am_upN (by decide), am_upS, if_pos ⟨rfl, by rw [eB]; rfl⟩]; exact hv0 _ _ (by decide) (by decide)) | (trace_state; fail))
  have lp15' : ∀ (i : Int) (μ : am_N) , (∀ a b, a ≠ 65 → a ≠ 72 → μ a b = ν a b) → 0 ≤ i → i ≤ 4 → (∀ b : Nat, (b : Int) < i → μ 65 b = ν 6 b ∧ μ 72 b = ν 7 b) → am_AW l 0 (fun _ => 0) 46 Q 15 [some (.inr (.inr 62)), some (.inr (.inr 1)), some (.inl i)] [] μ := fun i μ hv0 hv1 hv2 hv3 => lp15 ((4 - i) + 1).toNat i μ hv0 hv1 hv2 hv3 (by omega)
  refine am_go (ct := fun pc => Nat.beq pc 15) am_oX4_keep 300 ?_
  conv => whnf
  repeat' first
    | (refine (?_ : am_wp _ _ _ _ _ _ _ _ _ _ _ _); conv => whnf)
    | (refine (?_ : am_sw _ _ _ _); conv => whnf)
    | refine And.intro trivial ?_
    | exact trivial
    | refine lp15' _ _ ?_ ?_ ?_ ?_
    | refine And.intro (fun h => absurd h (by decide)) (fun _ => ?_)
    | refine And.intro (fun _ => ?_) (fun h => absurd (by decide) h)
    | refine And.intro (fun _ => ?_) (fun _ => ?_)
    | refine And.intro ?_ ?_
  all_goals (first | decide | omega | exact fun _ _ _ _ => rfl | (intros; omega) | (trace_state; fail))
theorem x_kp_2 {l : Launch} {ν : am_N} {Q : Option am_V → am_N → Prop} (hB : ν 62 3 = 2) (k : ∀ μ' : am_N, (∀ a b, a ≠ 66 → a ≠ 73 → ¬(a = 77 ∧ b = 2) → ¬(a = 62 ∧ b = 3) → μ' a b = ν a b) → μ' 62 3 = 3 → (∀ r : Nat, r < 4 → μ' 66 r = ν 6 r ∧ μ' 73 r = ν 7 r) → μ' 77 2 = ν 1 1 → Q none μ') : am_AW l 0 (fun _ => 0) 46 Q 13 [some (.inr (.inr 62)), some (.inr (.inr 1)), none] [] ν := by
  have lp15 : ∀ (m : Nat) (i : Int) (μ : am_N) , (∀ a b, a ≠ 66 → a ≠ 73 → μ a b = ν a b) → 0 ≤ i → i ≤ 4 → (∀ b : Nat, (b : Int) < i → μ 66 b = ν 6 b ∧ μ 73 b = ν 7 b) → 4 - i < (m : Int) → am_AW l 0 (fun _ => 0) 46 Q 15 [some (.inr (.inr 62)), some (.inr (.inr 1)), some (.inl i)] [] μ := by
    intro m
    induction m with
    | zero =>
      intro i μ hv0 hv1 hv2 hv3 hm
      exfalso
      omega
    | succ m ih =>
      intro i μ hv0 hv1 hv2 hv3 hm
      have ci : am_c i = i := am_cR (by omega) (by omega)
      have c4 : am_c 4 = 4 := rfl
      have eB : μ 62 3 = 2 := (hv0 62 3 (by decide) (by decide)).trans hB
      have eC : am_up μ 66 (am_c i).toNat (μ 6 (am_c i).toNat) 62 3 = 2 := (am_upN (by decide)).trans eB
      refine am_go (ct := fun pc => Nat.beq pc 15) am_oX4_keep 300 ?_
      conv => whnf
      repeat' first
        | (refine (?_ : am_wp _ _ _ _ _ _ _ _ _ _ _ _); conv => whnf)
        | (refine (?_ : am_sw _ _ _ _); conv => whnf)
        | refine And.intro trivial ?_
        | exact trivial
        | refine am_ab1 (a := 66) (by rw [eB]; rfl) ?_
        | refine am_ab1 (a := 73) (by rw [eB]; rfl) ?_
        | refine am_ab1 (a := 66) (by rw [eC]; rfl) ?_
        | refine am_ab1 (a := 73) (by rw [eC]; rfl) ?_
        | refine k _ ?_ ?_ ?_ ?_
        | refine ih _ _ ?_ ?_ ?_ ?_ ?_
        | refine And.intro (fun h => absurd h (by decide)) (fun _ => ?_)
        | refine And.intro (fun _ => ?_) (fun h => absurd (by decide) h)
        | refine And.intro (fun _ => ?_) (fun _ => ?_)
        | refine And.intro ?_ ?_
      all_goals (first | decide | omega | (simp only [ci, c4] at *; omega) | (intro a b h1 h2; rw [am_upN h2, am_upN h1]; exact hv0 a b h1 h2) | (intro b hb; by_cases d : (b : Int) = i; (rw [am_upN (by decide), am_upS, if_pos ⟨rfl, by rw [ci]; omega⟩, am_upS, if_pos ⟨rfl, by rw [ci]; omega⟩, am_upN (by decide), hv0 _ _ (by decide) (by decide), hv0 _ _ (by decide) (by decide), ci, show i.toNat = b by omega]; exact ⟨rfl, rfl⟩); (rw [am_upN (by decide), am_upM (by rw [ci]; omega), am_upM (by rw [ci]; omega)]; exact hv3 b (by omega))) | (rw [eB]; decide) | (rw [eC]; decide) | (intro a b h1 h2 h3 h4; rw [am_uE h4]; exact Eq.trans (am_uE (fun z => h3 ⟨z.1, by rw [z.2, eB]; rfl⟩)) (hv0 a b h1 h2)) | (rw [am_upS, if_pos ⟨rfl, rfl⟩, am_upN (by decide), eB]; rfl) | (intro b hb; rw [am_upN (by decide), am_upN (by decide), am_upN (by decide), am_upN (by decide)]; exact hv3 b (by simp only [ci, c4] at *; omega)) | (rw [am_upN (by decide), am_upS, if_pos ⟨rfl, by rw [eB]; rfl⟩]; exact hv0 _ _ (by decide) (by decide)) | (trace_state; fail))
  have lp15' : ∀ (i : Int) (μ : am_N) , (∀ a b, a ≠ 66 → a ≠ 73 → μ a b = ν a b) → 0 ≤ i → i ≤ 4 → (∀ b : Nat, (b : Int) < i → μ 66 b = ν 6 b ∧ μ 73 b = ν 7 b) → am_AW l 0 (fun _ => 0) 46 Q 15 [some (.inr (.inr 62)), some (.inr (.inr 1)), some (.inl i)] [] μ := fun i μ hv0 hv1 hv2 hv3 => lp15 ((4 - i) + 1).toNat i μ hv0 hv1 hv2 hv3 (by omega)
  refine am_go (ct := fun pc => Nat.beq pc 15) am_oX4_keep 300 ?_
  conv => whnf
  repeat' first
    | (refine (?_ : am_wp _ _ _ _ _ _ _ _ _ _ _ _); conv => whnf)
    | (refine (?_ : am_sw _ _ _ _); conv => whnf)
    | refine And.intro trivial ?_
    | exact trivial
    | refine lp15' _ _ ?_ ?_ ?_ ?_
    | refine And.intro (fun h => absurd h (by decide)) (fun _ => ?_)
    | refine And.intro (fun _ => ?_) (fun h => absurd (by decide) h)
    | refine And.intro (fun _ => ?_) (fun _ => ?_)
    | refine And.intro ?_ ?_
  all_goals (first | decide | omega | exact fun _ _ _ _ => rfl | (intros; omega) | (trace_state; fail))
theorem x_kp_3 {l : Launch} {ν : am_N} {Q : Option am_V → am_N → Prop} (hB : ν 62 3 = 3) (k : ∀ μ' : am_N, (∀ a b, a ≠ 67 → a ≠ 74 → ¬(a = 77 ∧ b = 3) → ¬(a = 62 ∧ b = 3) → μ' a b = ν a b) → μ' 62 3 = 4 → (∀ r : Nat, r < 4 → μ' 67 r = ν 6 r ∧ μ' 74 r = ν 7 r) → μ' 77 3 = ν 1 1 → Q none μ') : am_AW l 0 (fun _ => 0) 46 Q 13 [some (.inr (.inr 62)), some (.inr (.inr 1)), none] [] ν := by
  have lp15 : ∀ (m : Nat) (i : Int) (μ : am_N) , (∀ a b, a ≠ 67 → a ≠ 74 → μ a b = ν a b) → 0 ≤ i → i ≤ 4 → (∀ b : Nat, (b : Int) < i → μ 67 b = ν 6 b ∧ μ 74 b = ν 7 b) → 4 - i < (m : Int) → am_AW l 0 (fun _ => 0) 46 Q 15 [some (.inr (.inr 62)), some (.inr (.inr 1)), some (.inl i)] [] μ := by
    intro m
    induction m with
    | zero =>
      intro i μ hv0 hv1 hv2 hv3 hm
      exfalso
      omega
    | succ m ih =>
      intro i μ hv0 hv1 hv2 hv3 hm
      have ci : am_c i = i := am_cR (by omega) (by omega)
      have c4 : am_c 4 = 4 := rfl
      have eB : μ 62 3 = 3 := (hv0 62 3 (by decide) (by decide)).trans hB
      have eC : am_up μ 67 (am_c i).toNat (μ 6 (am_c i).toNat) 62 3 = 3 := (am_upN (by decide)).trans eB
      refine am_go (ct := fun pc => Nat.beq pc 15) am_oX4_keep 300 ?_
      conv => whnf
      repeat' first
        | (refine (?_ : am_wp _ _ _ _ _ _ _ _ _ _ _ _); conv => whnf)
        | (refine (?_ : am_sw _ _ _ _); conv => whnf)
        | refine And.intro trivial ?_
        | exact trivial
        | refine am_ab1 (a := 67) (by rw [eB]; rfl) ?_
        | refine am_ab1 (a := 74) (by rw [eB]; rfl) ?_
        | refine am_ab1 (a := 67) (by rw [eC]; rfl) ?_
        | refine am_ab1 (a := 74) (by rw [eC]; rfl) ?_
        | refine k _ ?_ ?_ ?_ ?_
        | refine ih _ _ ?_ ?_ ?_ ?_ ?_
        | refine And.intro (fun h => absurd h (by decide)) (fun _ => ?_)
        | refine And.intro (fun _ => ?_) (fun h => absurd (by decide) h)
        | refine And.intro (fun _ => ?_) (fun _ => ?_)
        | refine And.intro ?_ ?_
      all_goals (first | decide | omega | (simp only [ci, c4] at *; omega) | (intro a b h1 h2; rw [am_upN h2, am_upN h1]; exact hv0 a b h1 h2) | (intro b hb; by_cases d : (b : Int) = i; (rw [am_upN (by decide), am_upS, if_pos ⟨rfl, by rw [ci]; omega⟩, am_upS, if_pos ⟨rfl, by rw [ci]; omega⟩, am_upN (by decide), hv0 _ _ (by decide) (by decide), hv0 _ _ (by decide) (by decide), ci, show i.toNat = b by omega]; exact ⟨rfl, rfl⟩); (rw [am_upN (by decide), am_upM (by rw [ci]; omega), am_upM (by rw [ci]; omega)]; exact hv3 b (by omega))) | (rw [eB]; decide) | (rw [eC]; decide) | (intro a b h1 h2 h3 h4; rw [am_uE h4]; exact Eq.trans (am_uE (fun z => h3 ⟨z.1, by rw [z.2, eB]; rfl⟩)) (hv0 a b h1 h2)) | (rw [am_upS, if_pos ⟨rfl, rfl⟩, am_upN (by decide), eB]; rfl) | (intro b hb; rw [am_upN (by decide), am_upN (by decide), am_upN (by decide), am_upN (by decide)]; exact hv3 b (by simp only [ci, c4] at *; omega)) | (rw [am_upN (by decide), am_upS, if_pos ⟨rfl, by rw [eB]; rfl⟩]; exact hv0 _ _ (by decide) (by decide)) | (trace_state; fail))
  have lp15' : ∀ (i : Int) (μ : am_N) , (∀ a b, a ≠ 67 → a ≠ 74 → μ a b = ν a b) → 0 ≤ i → i ≤ 4 → (∀ b : Nat, (b : Int) < i → μ 67 b = ν 6 b ∧ μ 74 b = ν 7 b) → am_AW l 0 (fun _ => 0) 46 Q 15 [some (.inr (.inr 62)), some (.inr (.inr 1)), some (.inl i)] [] μ := fun i μ hv0 hv1 hv2 hv3 => lp15 ((4 - i) + 1).toNat i μ hv0 hv1 hv2 hv3 (by omega)
  refine am_go (ct := fun pc => Nat.beq pc 15) am_oX4_keep 300 ?_
  conv => whnf
  repeat' first
    | (refine (?_ : am_wp _ _ _ _ _ _ _ _ _ _ _ _); conv => whnf)
    | (refine (?_ : am_sw _ _ _ _); conv => whnf)
    | refine And.intro trivial ?_
    | exact trivial
    | refine lp15' _ _ ?_ ?_ ?_ ?_
    | refine And.intro (fun h => absurd h (by decide)) (fun _ => ?_)
    | refine And.intro (fun _ => ?_) (fun h => absurd (by decide) h)
    | refine And.intro (fun _ => ?_) (fun _ => ?_)
    | refine And.intro ?_ ?_
  all_goals (first | decide | omega | exact fun _ _ _ _ => rfl | (intros; omega) | (trace_state; fail))
theorem x_kp_4 {l : Launch} {ν : am_N} {Q : Option am_V → am_N → Prop} (hB : ν 62 3 = 4) (k : ∀ μ' : am_N, (∀ a b, a ≠ 68 → a ≠ 75 → ¬(a = 77 ∧ b = 4) → ¬(a = 62 ∧ b = 3) → μ' a b = ν a b) → μ' 62 3 = 5 → (∀ r : Nat, r < 4 → μ' 68 r = ν 6 r ∧ μ' 75 r = ν 7 r) → μ' 77 4 = ν 1 1 → Q none μ') : am_AW l 0 (fun _ => 0) 46 Q 13 [some (.inr (.inr 62)), some (.inr (.inr 1)), none] [] ν := by
  have lp15 : ∀ (m : Nat) (i : Int) (μ : am_N) , (∀ a b, a ≠ 68 → a ≠ 75 → μ a b = ν a b) → 0 ≤ i → i ≤ 4 → (∀ b : Nat, (b : Int) < i → μ 68 b = ν 6 b ∧ μ 75 b = ν 7 b) → 4 - i < (m : Int) → am_AW l 0 (fun _ => 0) 46 Q 15 [some (.inr (.inr 62)), some (.inr (.inr 1)), some (.inl i)] [] μ := by
    intro m
    induction m with
    | zero =>
      intro i μ hv0 hv1 hv2 hv3 hm
      exfalso
      omega
    | succ m ih =>
      intro i μ hv0 hv1 hv2 hv3 hm
      have ci : am_c i = i := am_cR (by omega) (by omega)
      have c4 : am_c 4 = 4 := rfl
      have eB : μ 62 3 = 4 := (hv0 62 3 (by decide) (by decide)).trans hB
      have eC : am_up μ 68 (am_c i).toNat (μ 6 (am_c i).toNat) 62 3 = 4 := (am_upN (by decide)).trans eB
      refine am_go (ct := fun pc => Nat.beq pc 15) am_oX4_keep 300 ?_
      conv => whnf
      repeat' first
        | (refine (?_ : am_wp _ _ _ _ _ _ _ _ _ _ _ _); conv => whnf)
        | (refine (?_ : am_sw _ _ _ _); conv => whnf)
        | refine And.intro trivial ?_
        | exact trivial
        | refine am_ab1 (a := 68) (by rw [eB]; rfl) ?_
        | refine am_ab1 (a := 75) (by rw [eB]; rfl) ?_
        | refine am_ab1 (a := 68) (by rw [eC]; rfl) ?_
        | refine am_ab1 (a := 75) (by rw [eC]; rfl) ?_
        | refine k _ ?_ ?_ ?_ ?_
        | refine ih _ _ ?_ ?_ ?_ ?_ ?_
        | refine And.intro (fun h => absurd h (by decide)) (fun _ => ?_)
        | refine And.intro (fun _ => ?_) (fun h => absurd (by decide) h)
        | refine And.intro (fun _ => ?_) (fun _ => ?_)
        | refine And.intro ?_ ?_
      all_goals (first | decide | omega | (simp only [ci, c4] at *; omega) | (intro a b h1 h2; rw [am_upN h2, am_upN h1]; exact hv0 a b h1 h2) | (intro b hb; by_cases d : (b : Int) = i; (rw [am_upN (by decide), am_upS, if_pos ⟨rfl, by rw [ci]; omega⟩, am_upS, if_pos ⟨rfl, by rw [ci]; omega⟩, am_upN (by decide), hv0 _ _ (by decide) (by decide), hv0 _ _ (by decide) (by decide), ci, show i.toNat = b by omega]; exact ⟨rfl, rfl⟩); (rw [am_upN (by decide), am_upM (by rw [ci]; omega), am_upM (by rw [ci]; omega)]; exact hv3 b (by omega))) | (rw [eB]; decide) | (rw [eC]; decide) | (intro a b h1 h2 h3 h4; rw [am_uE h4]; exact Eq.trans (am_uE (fun z => h3 ⟨z.1, by rw [z.2, eB]; rfl⟩)) (hv0 a b h1 h2)) | (rw [am_upS, if_pos ⟨rfl, rfl⟩, am_upN (by decide), eB]; rfl) | (intro b hb; rw [am_upN (by decide), am_upN (by decide), am_upN (by decide), am_upN (by decide)]; exact hv3 b (by simp only [ci, c4] at *; omega)) | (rw [am_upN (by decide), am_upS, if_pos ⟨rfl, by rw [eB]; rfl⟩]; exact hv0 _ _ (by decide) (by decide)) | (trace_state; fail))
  have lp15' : ∀ (i : Int) (μ : am_N) , (∀ a b, a ≠ 68 → a ≠ 75 → μ a b = ν a b) → 0 ≤ i → i ≤ 4 → (∀ b : Nat, (b : Int) < i → μ 68 b = ν 6 b ∧ μ 75 b = ν 7 b) → am_AW l 0 (fun _ => 0) 46 Q 15 [some (.inr (.inr 62)), some (.inr (.inr 1)), some (.inl i)] [] μ := fun i μ hv0 hv1 hv2 hv3 => lp15 ((4 - i) + 1).toNat i μ hv0 hv1 hv2 hv3 (by omega)
  refine am_go (ct := fun pc => Nat.beq pc 15) am_oX4_keep 300 ?_
  conv => whnf
  repeat' first
    | (refine (?_ : am_wp _ _ _ _ _ _ _ _ _ _ _ _); conv => whnf)
    | (refine (?_ : am_sw _ _ _ _); conv => whnf)
    | refine And.intro trivial ?_
    | exact trivial
    | refine lp15' _ _ ?_ ?_ ?_ ?_
    | refine And.intro (fun h => absurd h (by decide)) (fun _ => ?_)
    | refine And.intro (fun _ => ?_) (fun h => absurd (by decide) h)
    | refine And.intro (fun _ => ?_) (fun _ => ?_)
    | refine And.intro ?_ ?_
  all_goals (first | decide | omega | exact fun _ _ _ _ => rfl | (intros; omega) | (trace_state; fail))
theorem x_kp_5 {l : Launch} {ν : am_N} {Q : Option am_V → am_N → Prop} (hB : ν 62 3 = 5) (k : ∀ μ' : am_N, (∀ a b, a ≠ 69 → a ≠ 76 → ¬(a = 77 ∧ b = 5) → ¬(a = 62 ∧ b = 3) → μ' a b = ν a b) → μ' 62 3 = 6 → (∀ r : Nat, r < 4 → μ' 69 r = ν 6 r ∧ μ' 76 r = ν 7 r) → μ' 77 5 = ν 1 1 → Q none μ') : am_AW l 0 (fun _ => 0) 46 Q 13 [some (.inr (.inr 62)), some (.inr (.inr 1)), none] [] ν := by
  have lp15 : ∀ (m : Nat) (i : Int) (μ : am_N) , (∀ a b, a ≠ 69 → a ≠ 76 → μ a b = ν a b) → 0 ≤ i → i ≤ 4 → (∀ b : Nat, (b : Int) < i → μ 69 b = ν 6 b ∧ μ 76 b = ν 7 b) → 4 - i < (m : Int) → am_AW l 0 (fun _ => 0) 46 Q 15 [some (.inr (.inr 62)), some (.inr (.inr 1)), some (.inl i)] [] μ := by
    intro m
    induction m with
    | zero =>
      intro i μ hv0 hv1 hv2 hv3 hm
      exfalso
      omega
    | succ m ih =>
      intro i μ hv0 hv1 hv2 hv3 hm
      have ci : am_c i = i := am_cR (by omega) (by omega)
      have c4 : am_c 4 = 4 := rfl
      have eB : μ 62 3 = 5 := (hv0 62 3 (by decide) (by decide)).trans hB
      have eC : am_up μ 69 (am_c i).toNat (μ 6 (am_c i).toNat) 62 3 = 5 := (am_upN (by decide)).trans eB
      refine am_go (ct := fun pc => Nat.beq pc 15) am_oX4_keep 300 ?_
      conv => whnf
      repeat' first
        | (refine (?_ : am_wp _ _ _ _ _ _ _ _ _ _ _ _); conv => whnf)
        | (refine (?_ : am_sw _ _ _ _); conv => whnf)
        | refine And.intro trivial ?_
        | exact trivial
        | refine am_ab1 (a := 69) (by rw [eB]; rfl) ?_
        | refine am_ab1 (a := 76) (by rw [eB]; rfl) ?_
        | refine am_ab1 (a := 69) (by rw [eC]; rfl) ?_
        | refine am_ab1 (a := 76) (by rw [eC]; rfl) ?_
        | refine k _ ?_ ?_ ?_ ?_
        | refine ih _ _ ?_ ?_ ?_ ?_ ?_
        | refine And.intro (fun h => absurd h (by decide)) (fun _ => ?_)
        | refine And.intro (fun _ => ?_) (fun h => absurd (by decide) h)
        | refine And.intro (fun _ => ?_) (fun _ => ?_)
        | refine And.intro ?_ ?_
      all_goals (first | decide | omega | (simp only [ci, c4] at *; omega) | (intro a b h1 h2; rw [am_upN h2, am_upN h1]; exact hv0 a b h1 h2) | (intro b hb; by_cases d : (b : Int) = i; (rw [am_upN (by decide), am_upS, if_pos ⟨rfl, by rw [ci]; omega⟩, am_upS, if_pos ⟨rfl, by rw [ci]; omega⟩, am_upN (by decide), hv0 _ _ (by decide) (by decide), hv0 _ _ (by decide) (by decide), ci, show i.toNat = b by omega]; exact ⟨rfl, rfl⟩); (rw [am_upN (by decide), am_upM (by rw [ci]; omega), am_upM (by rw [ci]; omega)]; exact hv3 b (by omega))) | (rw [eB]; decide) | (rw [eC]; decide) | (intro a b h1 h2 h3 h4; rw [am_uE h4]; exact Eq.trans (am_uE (fun z => h3 ⟨z.1, by rw [z.2, eB]; rfl⟩)) (hv0 a b h1 h2)) | (rw [am_upS, if_pos ⟨rfl, rfl⟩, am_upN (by decide), eB]; rfl) | (intro b hb; rw [am_upN (by decide), am_upN (by decide), am_upN (by decide), am_upN (by decide)]; exact hv3 b (by simp only [ci, c4] at *; omega)) | (rw [am_upN (by decide), am_upS, if_pos ⟨rfl, by rw [eB]; rfl⟩]; exact hv0 _ _ (by decide) (by decide)) | (trace_state; fail))
  have lp15' : ∀ (i : Int) (μ : am_N) , (∀ a b, a ≠ 69 → a ≠ 76 → μ a b = ν a b) → 0 ≤ i → i ≤ 4 → (∀ b : Nat, (b : Int) < i → μ 69 b = ν 6 b ∧ μ 76 b = ν 7 b) → am_AW l 0 (fun _ => 0) 46 Q 15 [some (.inr (.inr 62)), some (.inr (.inr 1)), some (.inl i)] [] μ := fun i μ hv0 hv1 hv2 hv3 => lp15 ((4 - i) + 1).toNat i μ hv0 hv1 hv2 hv3 (by omega)
  refine am_go (ct := fun pc => Nat.beq pc 15) am_oX4_keep 300 ?_
  conv => whnf
  repeat' first
    | (refine (?_ : am_wp _ _ _ _ _ _ _ _ _ _ _ _); conv => whnf)
    | (refine (?_ : am_sw _ _ _ _); conv => whnf)
    | refine And.intro trivial ?_
    | exact trivial
    | refine lp15' _ _ ?_ ?_ ?_ ?_
    | refine And.intro (fun h => absurd h (by decide)) (fun _ => ?_)
    | refine And.intro (fun _ => ?_) (fun h => absurd (by decide) h)
    | refine And.intro (fun _ => ?_) (fun _ => ?_)
    | refine And.intro ?_ ?_
  all_goals (first | decide | omega | exact fun _ _ _ _ => rfl | (intros; omega) | (trace_state; fail))
theorem x_keep_0 {l : Launch} {ν : am_N} {Q : Option am_V → am_N → Prop} (hB : ν 62 3 = 0) (k : ∀ μ' : am_N, (∀ a b, ¬(62 ≤ a ∧ a ≤ 77) → μ' a b = ν a b) → μ' 62 3 = (if ν 62 3 < 6 then ν 62 3 + 1 else 6) → (∀ r : Nat, r < 4 → μ' (64 + (μ' 62 3 - 1).toNat) r = ν 6 r ∧ μ' (71 + (μ' 62 3 - 1).toNat) r = ν 7 r) → μ' 77 (μ' 62 3 - 1).toNat = ν 1 1 → (∀ j : Nat, (j : Int) + 1 < μ' 62 3 → (∀ r : Nat, r < 4 → μ' (64 + (μ' 62 3 - 2 - j).toNat) r = ν (64 + (ν 62 3 - 1 - j).toNat) r ∧ μ' (71 + (μ' 62 3 - 2 - j).toNat) r = ν (71 + (ν 62 3 - 1 - j).toNat) r) ∧ μ' 77 (μ' 62 3 - 2 - j).toNat = ν 77 (ν 62 3 - 1 - j).toNat) → Q none μ') : am_Does l 46 [.inr (.inr 62), .inr (.inr 1)] ν Q := by
  refine am_Does_of (Nat.le_of_ble_eq_true rfl) (Nat.le_of_ble_eq_true rfl) (Nat.le_of_ble_eq_true rfl) ?_
  have cB : am_c (ν 62 3) ≠ am_c 6 := by rw [hB]; decide
  refine am_go (ct := fun pc => Nat.beq pc 13) am_oX4_keep 60 ?_
  conv => whnf
  repeat' first
    | (refine (?_ : am_wp _ _ _ _ _ _ _ _ _ _ _ _); conv => whnf)
    | (refine (?_ : am_sw _ _ _ _); conv => whnf)
    | refine And.intro trivial ?_
    | exact trivial
    | refine And.intro (fun _ => ?_) (fun z => absurd z cB)
    | refine x_kp_0 ?_ (fun μ1 f1 n1 r1 w1 => k μ1 ?_ ?_ ?_ ?_ ?_)
    | refine And.intro (fun h => absurd h (by decide)) (fun _ => ?_)
    | refine And.intro (fun _ => ?_) (fun h => absurd (by decide) h)
    | refine And.intro (fun _ => ?_) (fun _ => ?_)
    | refine And.intro ?_ ?_
  all_goals (first | exact hB | (intro a b h; exact f1 a b (by omega) (by omega) (by omega) (by omega)) | (rw [n1, hB]; rfl) | (rw [n1]; exact r1) | (rw [n1]; exact w1) | (rw [n1, hB]; intro j hj; rw [show (((1 : Int) - 2 - j).toNat) = (((0 : Int) - 1 - j).toNat) by omega]; refine ⟨fun r hr => ⟨f1 _ _ (by omega) (by omega) (by omega) (by omega), f1 _ _ (by omega) (by omega) (by omega) (by omega)⟩, f1 _ _ (by omega) (by omega) (by omega) (by omega)⟩) | (trace_state; fail))
theorem x_keep_1 {l : Launch} {ν : am_N} {Q : Option am_V → am_N → Prop} (hB : ν 62 3 = 1) (k : ∀ μ' : am_N, (∀ a b, ¬(62 ≤ a ∧ a ≤ 77) → μ' a b = ν a b) → μ' 62 3 = (if ν 62 3 < 6 then ν 62 3 + 1 else 6) → (∀ r : Nat, r < 4 → μ' (64 + (μ' 62 3 - 1).toNat) r = ν 6 r ∧ μ' (71 + (μ' 62 3 - 1).toNat) r = ν 7 r) → μ' 77 (μ' 62 3 - 1).toNat = ν 1 1 → (∀ j : Nat, (j : Int) + 1 < μ' 62 3 → (∀ r : Nat, r < 4 → μ' (64 + (μ' 62 3 - 2 - j).toNat) r = ν (64 + (ν 62 3 - 1 - j).toNat) r ∧ μ' (71 + (μ' 62 3 - 2 - j).toNat) r = ν (71 + (ν 62 3 - 1 - j).toNat) r) ∧ μ' 77 (μ' 62 3 - 2 - j).toNat = ν 77 (ν 62 3 - 1 - j).toNat) → Q none μ') : am_Does l 46 [.inr (.inr 62), .inr (.inr 1)] ν Q := by
  refine am_Does_of (Nat.le_of_ble_eq_true rfl) (Nat.le_of_ble_eq_true rfl) (Nat.le_of_ble_eq_true rfl) ?_
  have cB : am_c (ν 62 3) ≠ am_c 6 := by rw [hB]; decide
  refine am_go (ct := fun pc => Nat.beq pc 13) am_oX4_keep 60 ?_
  conv => whnf
  repeat' first
    | (refine (?_ : am_wp _ _ _ _ _ _ _ _ _ _ _ _); conv => whnf)
    | (refine (?_ : am_sw _ _ _ _); conv => whnf)
    | refine And.intro trivial ?_
    | exact trivial
    | refine And.intro (fun _ => ?_) (fun z => absurd z cB)
    | refine x_kp_1 ?_ (fun μ1 f1 n1 r1 w1 => k μ1 ?_ ?_ ?_ ?_ ?_)
    | refine And.intro (fun h => absurd h (by decide)) (fun _ => ?_)
    | refine And.intro (fun _ => ?_) (fun h => absurd (by decide) h)
    | refine And.intro (fun _ => ?_) (fun _ => ?_)
    | refine And.intro ?_ ?_
  all_goals (first | exact hB | (intro a b h; exact f1 a b (by omega) (by omega) (by omega) (by omega)) | (rw [n1, hB]; rfl) | (rw [n1]; exact r1) | (rw [n1]; exact w1) | (rw [n1, hB]; intro j hj; rw [show (((2 : Int) - 2 - j).toNat) = (((1 : Int) - 1 - j).toNat) by omega]; refine ⟨fun r hr => ⟨f1 _ _ (by omega) (by omega) (by omega) (by omega), f1 _ _ (by omega) (by omega) (by omega) (by omega)⟩, f1 _ _ (by omega) (by omega) (by omega) (by omega)⟩) | (trace_state; fail))
theorem x_keep_2 {l : Launch} {ν : am_N} {Q : Option am_V → am_N → Prop} (hB : ν 62 3 = 2) (k : ∀ μ' : am_N, (∀ a b, ¬(62 ≤ a ∧ a ≤ 77) → μ' a b = ν a b) → μ' 62 3 = (if ν 62 3 < 6 then ν 62 3 + 1 else 6) → (∀ r : Nat, r < 4 → μ' (64 + (μ' 62 3 - 1).toNat) r = ν 6 r ∧ μ' (71 + (μ' 62 3 - 1).toNat) r = ν 7 r) → μ' 77 (μ' 62 3 - 1).toNat = ν 1 1 → (∀ j : Nat, (j : Int) + 1 < μ' 62 3 → (∀ r : Nat, r < 4 → μ' (64 + (μ' 62 3 - 2 - j).toNat) r = ν (64 + (ν 62 3 - 1 - j).toNat) r ∧ μ' (71 + (μ' 62 3 - 2 - j).toNat) r = ν (71 + (ν 62 3 - 1 - j).toNat) r) ∧ μ' 77 (μ' 62 3 - 2 - j).toNat = ν 77 (ν 62 3 - 1 - j).toNat) → Q none μ') : am_Does l 46 [.inr (.inr 62), .inr (.inr 1)] ν Q := by
  refine am_Does_of (Nat.le_of_ble_eq_true rfl) (Nat.le_of_ble_eq_true rfl) (Nat.le_of_ble_eq_true rfl) ?_
  have cB : am_c (ν 62 3) ≠ am_c 6 := by rw [hB]; decide
  refine am_go (ct := fun pc => Nat.beq pc 13) am_oX4_keep 60 ?_
  conv => whnf
  repeat' first
    | (refine (?_ : am_wp _ _ _ _ _ _ _ _ _ _ _ _); conv => whnf)
    | (refine (?_ : am_sw _ _ _ _); conv => whnf)
    | refine And.intro trivial ?_
    | exact trivial
    | refine And.intro (fun _ => ?_) (fun z => absurd z cB)
    | refine x_kp_2 ?_ (fun μ1 f1 n1 r1 w1 => k μ1 ?_ ?_ ?_ ?_ ?_)
    | refine And.intro (fun h => absurd h (by decide)) (fun _ => ?_)
    | refine And.intro (fun _ => ?_) (fun h => absurd (by decide) h)
    | refine And.intro (fun _ => ?_) (fun _ => ?_)
    | refine And.intro ?_ ?_
  all_goals (first | exact hB | (intro a b h; exact f1 a b (by omega) (by omega) (by omega) (by omega)) | (rw [n1, hB]; rfl) | (rw [n1]; exact r1) | (rw [n1]; exact w1) | (rw [n1, hB]; intro j hj; rw [show (((3 : Int) - 2 - j).toNat) = (((2 : Int) - 1 - j).toNat) by omega]; refine ⟨fun r hr => ⟨f1 _ _ (by omega) (by omega) (by omega) (by omega), f1 _ _ (by omega) (by omega) (by omega) (by omega)⟩, f1 _ _ (by omega) (by omega) (by omega) (by omega)⟩) | (trace_state; fail))
theorem x_keep_3 {l : Launch} {ν : am_N} {Q : Option am_V → am_N → Prop} (hB : ν 62 3 = 3) (k : ∀ μ' : am_N, (∀ a b, ¬(62 ≤ a ∧ a ≤ 77) → μ' a b = ν a b) → μ' 62 3 = (if ν 62 3 < 6 then ν 62 3 + 1 else 6) → (∀ r : Nat, r < 4 → μ' (64 + (μ' 62 3 - 1).toNat) r = ν 6 r ∧ μ' (71 + (μ' 62 3 - 1).toNat) r = ν 7 r) → μ' 77 (μ' 62 3 - 1).toNat = ν 1 1 → (∀ j : Nat, (j : Int) + 1 < μ' 62 3 → (∀ r : Nat, r < 4 → μ' (64 + (μ' 62 3 - 2 - j).toNat) r = ν (64 + (ν 62 3 - 1 - j).toNat) r ∧ μ' (71 + (μ' 62 3 - 2 - j).toNat) r = ν (71 + (ν 62 3 - 1 - j).toNat) r) ∧ μ' 77 (μ' 62 3 - 2 - j).toNat = ν 77 (ν 62 3 - 1 - j).toNat) → Q none μ') : am_Does l 46 [.inr (.inr 62), .inr (.inr 1)] ν Q := by
  refine am_Does_of (Nat.le_of_ble_eq_true rfl) (Nat.le_of_ble_eq_true rfl) (Nat.le_of_ble_eq_true rfl) ?_
  have cB : am_c (ν 62 3) ≠ am_c 6 := by rw [hB]; decide
  refine am_go (ct := fun pc => Nat.beq pc 13) am_oX4_keep 60 ?_
  conv => whnf
  repeat' first
    | (refine (?_ : am_wp _ _ _ _ _ _ _ _ _ _ _ _); conv => whnf)
    | (refine (?_ : am_sw _ _ _ _); conv => whnf)
    | refine And.intro trivial ?_
    | exact trivial
    | refine And.intro (fun _ => ?_) (fun z => absurd z cB)
    | refine x_kp_3 ?_ (fun μ1 f1 n1 r1 w1 => k μ1 ?_ ?_ ?_ ?_ ?_)
    | refine And.intro (fun h => absurd h (by decide)) (fun _ => ?_)
    | refine And.intro (fun _ => ?_) (fun h => absurd (by decide) h)
    | refine And.intro (fun _ => ?_) (fun _ => ?_)
    | refine And.intro ?_ ?_
  all_goals (first | exact hB | (intro a b h; exact f1 a b (by omega) (by omega) (by omega) (by omega)) | (rw [n1, hB]; rfl) | (rw [n1]; exact r1) | (rw [n1]; exact w1) | (rw [n1, hB]; intro j hj; rw [show (((4 : Int) - 2 - j).toNat) = (((3 : Int) - 1 - j).toNat) by omega]; refine ⟨fun r hr => ⟨f1 _ _ (by omega) (by omega) (by omega) (by omega), f1 _ _ (by omega) (by omega) (by omega) (by omega)⟩, f1 _ _ (by omega) (by omega) (by omega) (by omega)⟩) | (trace_state; fail))
theorem x_keep_4 {l : Launch} {ν : am_N} {Q : Option am_V → am_N → Prop} (hB : ν 62 3 = 4) (k : ∀ μ' : am_N, (∀ a b, ¬(62 ≤ a ∧ a ≤ 77) → μ' a b = ν a b) → μ' 62 3 = (if ν 62 3 < 6 then ν 62 3 + 1 else 6) → (∀ r : Nat, r < 4 → μ' (64 + (μ' 62 3 - 1).toNat) r = ν 6 r ∧ μ' (71 + (μ' 62 3 - 1).toNat) r = ν 7 r) → μ' 77 (μ' 62 3 - 1).toNat = ν 1 1 → (∀ j : Nat, (j : Int) + 1 < μ' 62 3 → (∀ r : Nat, r < 4 → μ' (64 + (μ' 62 3 - 2 - j).toNat) r = ν (64 + (ν 62 3 - 1 - j).toNat) r ∧ μ' (71 + (μ' 62 3 - 2 - j).toNat) r = ν (71 + (ν 62 3 - 1 - j).toNat) r) ∧ μ' 77 (μ' 62 3 - 2 - j).toNat = ν 77 (ν 62 3 - 1 - j).toNat) → Q none μ') : am_Does l 46 [.inr (.inr 62), .inr (.inr 1)] ν Q := by
  refine am_Does_of (Nat.le_of_ble_eq_true rfl) (Nat.le_of_ble_eq_true rfl) (Nat.le_of_ble_eq_true rfl) ?_
  have cB : am_c (ν 62 3) ≠ am_c 6 := by rw [hB]; decide
  refine am_go (ct := fun pc => Nat.beq pc 13) am_oX4_keep 60 ?_
  conv => whnf
  repeat' first
    | (refine (?_ : am_wp _ _ _ _ _ _ _ _ _ _ _ _); conv => whnf)
    | (refine (?_ : am_sw _ _ _ _); conv => whnf)
    | refine And.intro trivial ?_
    | exact trivial
    | refine And.intro (fun _ => ?_) (fun z => absurd z cB)
    | refine x_kp_4 ?_ (fun μ1 f1 n1 r1 w1 => k μ1 ?_ ?_ ?_ ?_ ?_)
    | refine And.intro (fun h => absurd h (by decide)) (fun _ => ?_)
    | refine And.intro (fun _ => ?_) (fun h => absurd (by decide) h)
    | refine And.intro (fun _ => ?_) (fun _ => ?_)
    | refine And.intro ?_ ?_
  all_goals (first | exact hB | (intro a b h; exact f1 a b (by omega) (by omega) (by omega) (by omega)) | (rw [n1, hB]; rfl) | (rw [n1]; exact r1) | (rw [n1]; exact w1) | (rw [n1, hB]; intro j hj; rw [show (((5 : Int) - 2 - j).toNat) = (((4 : Int) - 1 - j).toNat) by omega]; refine ⟨fun r hr => ⟨f1 _ _ (by omega) (by omega) (by omega) (by omega), f1 _ _ (by omega) (by omega) (by omega) (by omega)⟩, f1 _ _ (by omega) (by omega) (by omega) (by omega)⟩) | (trace_state; fail))
theorem x_keep_5 {l : Launch} {ν : am_N} {Q : Option am_V → am_N → Prop} (hB : ν 62 3 = 5) (k : ∀ μ' : am_N, (∀ a b, ¬(62 ≤ a ∧ a ≤ 77) → μ' a b = ν a b) → μ' 62 3 = (if ν 62 3 < 6 then ν 62 3 + 1 else 6) → (∀ r : Nat, r < 4 → μ' (64 + (μ' 62 3 - 1).toNat) r = ν 6 r ∧ μ' (71 + (μ' 62 3 - 1).toNat) r = ν 7 r) → μ' 77 (μ' 62 3 - 1).toNat = ν 1 1 → (∀ j : Nat, (j : Int) + 1 < μ' 62 3 → (∀ r : Nat, r < 4 → μ' (64 + (μ' 62 3 - 2 - j).toNat) r = ν (64 + (ν 62 3 - 1 - j).toNat) r ∧ μ' (71 + (μ' 62 3 - 2 - j).toNat) r = ν (71 + (ν 62 3 - 1 - j).toNat) r) ∧ μ' 77 (μ' 62 3 - 2 - j).toNat = ν 77 (ν 62 3 - 1 - j).toNat) → Q none μ') : am_Does l 46 [.inr (.inr 62), .inr (.inr 1)] ν Q := by
  refine am_Does_of (Nat.le_of_ble_eq_true rfl) (Nat.le_of_ble_eq_true rfl) (Nat.le_of_ble_eq_true rfl) ?_
  have cB : am_c (ν 62 3) ≠ am_c 6 := by rw [hB]; decide
  refine am_go (ct := fun pc => Nat.beq pc 13) am_oX4_keep 60 ?_
  conv => whnf
  repeat' first
    | (refine (?_ : am_wp _ _ _ _ _ _ _ _ _ _ _ _); conv => whnf)
    | (refine (?_ : am_sw _ _ _ _); conv => whnf)
    | refine And.intro trivial ?_
    | exact trivial
    | refine And.intro (fun _ => ?_) (fun z => absurd z cB)
    | refine x_kp_5 ?_ (fun μ1 f1 n1 r1 w1 => k μ1 ?_ ?_ ?_ ?_ ?_)
    | refine And.intro (fun h => absurd h (by decide)) (fun _ => ?_)
    | refine And.intro (fun _ => ?_) (fun h => absurd (by decide) h)
    | refine And.intro (fun _ => ?_) (fun _ => ?_)
    | refine And.intro ?_ ?_
  all_goals (first | exact hB | (intro a b h; exact f1 a b (by omega) (by omega) (by omega) (by omega)) | (rw [n1, hB]; rfl) | (rw [n1]; exact r1) | (rw [n1]; exact w1) | (rw [n1, hB]; intro j hj; rw [show (((6 : Int) - 2 - j).toNat) = (((5 : Int) - 1 - j).toNat) by omega]; refine ⟨fun r hr => ⟨f1 _ _ (by omega) (by omega) (by omega) (by omega), f1 _ _ (by omega) (by omega) (by omega) (by omega)⟩, f1 _ _ (by omega) (by omega) (by omega) (by omega)⟩) | (trace_state; fail))
theorem x_keep_6 {l : Launch} {ν : am_N} {Q : Option am_V → am_N → Prop} (hB : ν 62 3 = 6) (k : ∀ μ' : am_N, (∀ a b, ¬(62 ≤ a ∧ a ≤ 77) → μ' a b = ν a b) → μ' 62 3 = (if ν 62 3 < 6 then ν 62 3 + 1 else 6) → (∀ r : Nat, r < 4 → μ' (64 + (μ' 62 3 - 1).toNat) r = ν 6 r ∧ μ' (71 + (μ' 62 3 - 1).toNat) r = ν 7 r) → μ' 77 (μ' 62 3 - 1).toNat = ν 1 1 → (∀ j : Nat, (j : Int) + 1 < μ' 62 3 → (∀ r : Nat, r < 4 → μ' (64 + (μ' 62 3 - 2 - j).toNat) r = ν (64 + (ν 62 3 - 1 - j).toNat) r ∧ μ' (71 + (μ' 62 3 - 2 - j).toNat) r = ν (71 + (ν 62 3 - 1 - j).toNat) r) ∧ μ' 77 (μ' 62 3 - 2 - j).toNat = ν 77 (ν 62 3 - 1 - j).toNat) → Q none μ') : am_Does l 46 [.inr (.inr 62), .inr (.inr 1)] ν Q := by
  refine am_Does_of (Nat.le_of_ble_eq_true rfl) (Nat.le_of_ble_eq_true rfl) (Nat.le_of_ble_eq_true rfl) ?_
  have cB : am_c (ν 62 3) = am_c 6 := by rw [hB]
  refine am_go (ct := fun pc => Nat.beq pc 13) am_oX4_keep 60 ?_
  conv => whnf
  repeat' first
    | (refine (?_ : am_wp _ _ _ _ _ _ _ _ _ _ _ _); conv => whnf)
    | (refine (?_ : am_sw _ _ _ _); conv => whnf)
    | refine And.intro trivial ?_
    | exact trivial
    | refine x_lose (fun μ0 f0 n0 r0 => ?_)
    | refine And.intro (fun z => absurd cB z) (fun _ => ?_)
    | refine x_kp_5 ?_ (fun μ1 f1 n1 r1 w1 => k μ1 ?_ ?_ ?_ ?_ ?_)
    | refine And.intro (fun h => absurd h (by decide)) (fun _ => ?_)
    | refine And.intro (fun _ => ?_) (fun h => absurd (by decide) h)
    | refine And.intro (fun _ => ?_) (fun _ => ?_)
    | refine And.intro ?_ ?_
  all_goals (first | exact n0 | (intro a b h; rw [f1 a b (by omega) (by omega) (by omega) (by omega)]; exact f0 a b (by omega)) | (rw [n1, hB]; rfl) | (rw [n1]; intro r hr; rw [← f0 6 r (by decide), ← f0 7 r (by decide)]; exact r1 r hr) | (rw [n1, ← f0 1 1 (by decide)]; exact w1) | (rw [n1, hB]; intro j hj; obtain ⟨q1, q2⟩ := r0 (4 - j) (by omega); rw [show ((6 : Int) - 2 - j).toNat = 4 - j by omega, show ((6 : Int) - 1 - j).toNat = 4 - j + 1 by omega]; refine ⟨fun r hr => ?_, ?_⟩; (rw [f1 _ _ (by omega) (by omega) (by omega) (by omega), f1 _ _ (by omega) (by omega) (by omega) (by omega), show 64 + (4 - j + 1) = 65 + (4 - j) by omega, show 71 + (4 - j + 1) = 72 + (4 - j) by omega]; exact q1 r hr); (rw [f1 _ _ (by omega) (by omega) (by omega) (by omega)]; exact q2)) | (trace_state; fail))
theorem x_keep {l : Launch} {ν : am_N} {Q : Option am_V → am_N → Prop} (h0 : 0 ≤ ν 62 3) (h1 : ν 62 3 ≤ 6) (k : ∀ μ' : am_N, (∀ a b, ¬(62 ≤ a ∧ a ≤ 77) → μ' a b = ν a b) → μ' 62 3 = (if ν 62 3 < 6 then ν 62 3 + 1 else 6) → (∀ r : Nat, r < 4 → μ' (64 + (μ' 62 3 - 1).toNat) r = ν 6 r ∧ μ' (71 + (μ' 62 3 - 1).toNat) r = ν 7 r) → μ' 77 (μ' 62 3 - 1).toNat = ν 1 1 → (∀ j : Nat, (j : Int) + 1 < μ' 62 3 → (∀ r : Nat, r < 4 → μ' (64 + (μ' 62 3 - 2 - j).toNat) r = ν (64 + (ν 62 3 - 1 - j).toNat) r ∧ μ' (71 + (μ' 62 3 - 2 - j).toNat) r = ν (71 + (ν 62 3 - 1 - j).toNat) r) ∧ μ' 77 (μ' 62 3 - 2 - j).toNat = ν 77 (ν 62 3 - 1 - j).toNat) → Q none μ') : am_Does l 46 [.inr (.inr 62), .inr (.inr 1)] ν Q := by
  rcases (show ν 62 3 = 0 ∨ ν 62 3 = 1 ∨ ν 62 3 = 2 ∨ ν 62 3 = 3 ∨ ν 62 3 = 4 ∨ ν 62 3 = 5 ∨ ν 62 3 = 6 by omega) with e | e | e | e | e | e | e
  · exact x_keep_0 e k
  · exact x_keep_1 e k
  · exact x_keep_2 e k
  · exact x_keep_3 e k
  · exact x_keep_4 e k
  · exact x_keep_5 e k
  · exact x_keep_6 e k
theorem x_bring_1 {l : Launch} {ν : am_N} {Q : Option am_V → am_N → Prop} (hB : ν 62 3 = 1) (k : ∀ μ' : am_N, (∀ a b, a ≠ 6 → a ≠ 7 → ¬(a = 1 ∧ b = 1) → ¬(a = 62 ∧ b = 3) → μ' a b = ν a b) → μ' 62 3 = ν 62 3 - 1 → μ' 1 1 = ν 77 (ν 62 3 - 1).toNat → (∀ r : Nat, r < 4 → μ' 6 r = ν (64 + (ν 62 3 - 1).toNat) r ∧ μ' 7 r = ν (71 + (ν 62 3 - 1).toNat) r) → Q (some (.inl (ν 62 3 - 1))) μ') : am_Does l 48 [.inr (.inr 62), .inr (.inr 1)] ν Q := by
  refine am_Does_of (Nat.le_of_ble_eq_true rfl) (Nat.le_of_ble_eq_true rfl) (Nat.le_of_ble_eq_true rfl) ?_
  have c0 : am_c (ν 62 3) ≠ 0 := by rw [hB]; decide
  have kk := fun (μ' : am_N) (x : Int) a1 a2 a3 a4 (e : x = ν 62 3 - 1) => am_qe (k μ' a1 a2 a3 a4) e
  have lp21 : ∀ (m : Nat) (i : Int) (μ : am_N) , (∀ a b, a ≠ 6 → a ≠ 7 → ¬(a = 62 ∧ b = 3) → μ a b = ν a b) → μ 62 3 = 0 → 0 ≤ i → i ≤ 4 → (∀ b : Nat, (b : Int) < i → μ 6 b = ν 64 b ∧ μ 7 b = ν 71 b) → 4 - i < (m : Int) → am_AW l 0 (fun _ => 0) 48 Q 21 [some (.inr (.inr 62)), some (.inr (.inr 1)), some (.inl i)] [] μ := by
    intro m
    induction m with
    | zero =>
      intro i μ hv0 hv1 hv2 hv3 hv4 hm
      exfalso
      omega
    | succ m ih =>
      intro i μ hv0 hv1 hv2 hv3 hv4 hm
      have ci : am_c i = i := am_cR (by omega) (by omega)
      have c4 : am_c 4 = 4 := rfl
      have eB : μ 62 3 = 0 := hv1
      have eC : ∀ v, am_up μ 6 (am_c i).toNat v 62 3 = 0 := fun v => (am_upN (by decide)).trans eB
      refine am_go (ct := fun pc => Nat.beq pc 21) am_oX4_bring 300 ?_
      conv => whnf
      repeat' first
        | (refine (?_ : am_wp _ _ _ _ _ _ _ _ _ _ _ _); conv => whnf)
        | (refine (?_ : am_sw _ _ _ _); conv => whnf)
        | refine And.intro trivial ?_
        | exact trivial
        | refine am_ab1 (a := 64) (by rw [eB]; rfl) ?_
        | refine am_ab1 (a := 71) (by rw [eB]; rfl) ?_
        | refine am_ab1 (a := 64) (by rw [eC]; rfl) ?_
        | refine am_ab1 (a := 71) (by rw [eC]; rfl) ?_
        | refine kk _ _ ?_ ?_ ?_ ?_ ?_
        | refine And.intro (fun _ => ?_) (fun z => absurd z c0)
        | refine ih _ _ ?_ ?_ ?_ ?_ ?_ ?_
        | refine And.intro (fun h => absurd h (by decide)) (fun _ => ?_)
        | refine And.intro (fun _ => ?_) (fun h => absurd (by decide) h)
        | refine And.intro (fun _ => ?_) (fun _ => ?_)
        | refine And.intro ?_ ?_
      all_goals (first | decide | omega | (simp only [ci, c4] at *; omega) | (intro a b h1 h2 h3; rw [am_upN h2, am_upN h1]; exact hv0 a b h1 h2 h3) | (rw [am_upN (by decide), am_upN (by decide)]; exact hv1) | (intro b hb; by_cases d : (b : Int) = i; (rw [am_upN (by decide), am_upS, if_pos ⟨rfl, by rw [ci]; omega⟩, am_upS, if_pos ⟨rfl, by rw [ci]; omega⟩, am_upN (by decide), hv0 _ _ (by first | decide | omega | exact fun z => absurd z.1 (by decide)) (by first | decide | omega | exact fun z => absurd z.1 (by decide)) (by first | decide | omega | exact fun z => absurd z.1 (by decide)), hv0 _ _ (by first | decide | omega | exact fun z => absurd z.1 (by decide)) (by first | decide | omega | exact fun z => absurd z.1 (by decide)) (by first | decide | omega | exact fun z => absurd z.1 (by decide)), ci, show i.toNat = b by omega]; exact ⟨rfl, rfl⟩); (rw [am_upN (by decide), am_upM (by rw [ci]; omega), am_upM (by rw [ci]; omega)]; exact hv4 b (by omega))) | (rw [eB]; decide) | (rw [eC]; decide) | (intro a b h1 h2 h3 h4; rw [am_uE h3]; exact hv0 a b h1 h2 h4) | (rw [am_upN (by decide), hv1, hB]; rfl) | (rw [am_upS, if_pos ⟨rfl, rfl⟩, hB, eB]; exact hv0 _ _ (by first | decide | omega | exact fun z => absurd z.1 (by decide)) (by first | decide | omega | exact fun z => absurd z.1 (by decide)) (by first | decide | omega | exact fun z => absurd z.1 (by decide))) | (intro b hb; rw [am_upN (by decide), am_upN (by decide), hB]; exact hv4 b (by simp only [ci, c4] at *; omega)) | (trace_state; fail))
  have lp21' : ∀ (i : Int) (μ : am_N) , (∀ a b, a ≠ 6 → a ≠ 7 → ¬(a = 62 ∧ b = 3) → μ a b = ν a b) → μ 62 3 = 0 → 0 ≤ i → i ≤ 4 → (∀ b : Nat, (b : Int) < i → μ 6 b = ν 64 b ∧ μ 7 b = ν 71 b) → am_AW l 0 (fun _ => 0) 48 Q 21 [some (.inr (.inr 62)), some (.inr (.inr 1)), some (.inl i)] [] μ := fun i μ hv0 hv1 hv2 hv3 hv4 => lp21 ((4 - i) + 1).toNat i μ hv0 hv1 hv2 hv3 hv4 (by omega)
  refine am_go (ct := fun pc => Nat.beq pc 21) am_oX4_bring 300 ?_
  conv => whnf
  repeat' first
    | (refine (?_ : am_wp _ _ _ _ _ _ _ _ _ _ _ _); conv => whnf)
    | (refine (?_ : am_sw _ _ _ _); conv => whnf)
    | refine And.intro trivial ?_
    | exact trivial
    | refine And.intro (fun _ => ?_) (fun z => absurd z c0)
    | refine lp21' _ _ ?_ ?_ ?_ ?_ ?_
    | refine And.intro (fun h => absurd h (by decide)) (fun _ => ?_)
    | refine And.intro (fun _ => ?_) (fun h => absurd (by decide) h)
    | refine And.intro (fun _ => ?_) (fun _ => ?_)
    | refine And.intro ?_ ?_
  all_goals (first | decide | omega | (intro a b h1 h2 h3; exact am_uE h3) | (rw [am_upS, if_pos ⟨rfl, rfl⟩, hB]; rfl) | (intros; omega) | (trace_state; fail))
theorem x_bring_2 {l : Launch} {ν : am_N} {Q : Option am_V → am_N → Prop} (hB : ν 62 3 = 2) (k : ∀ μ' : am_N, (∀ a b, a ≠ 6 → a ≠ 7 → ¬(a = 1 ∧ b = 1) → ¬(a = 62 ∧ b = 3) → μ' a b = ν a b) → μ' 62 3 = ν 62 3 - 1 → μ' 1 1 = ν 77 (ν 62 3 - 1).toNat → (∀ r : Nat, r < 4 → μ' 6 r = ν (64 + (ν 62 3 - 1).toNat) r ∧ μ' 7 r = ν (71 + (ν 62 3 - 1).toNat) r) → Q (some (.inl (ν 62 3 - 1))) μ') : am_Does l 48 [.inr (.inr 62), .inr (.inr 1)] ν Q := by
  refine am_Does_of (Nat.le_of_ble_eq_true rfl) (Nat.le_of_ble_eq_true rfl) (Nat.le_of_ble_eq_true rfl) ?_
  have c0 : am_c (ν 62 3) ≠ 0 := by rw [hB]; decide
  have kk := fun (μ' : am_N) (x : Int) a1 a2 a3 a4 (e : x = ν 62 3 - 1) => am_qe (k μ' a1 a2 a3 a4) e
  have lp21 : ∀ (m : Nat) (i : Int) (μ : am_N) , (∀ a b, a ≠ 6 → a ≠ 7 → ¬(a = 62 ∧ b = 3) → μ a b = ν a b) → μ 62 3 = 1 → 0 ≤ i → i ≤ 4 → (∀ b : Nat, (b : Int) < i → μ 6 b = ν 65 b ∧ μ 7 b = ν 72 b) → 4 - i < (m : Int) → am_AW l 0 (fun _ => 0) 48 Q 21 [some (.inr (.inr 62)), some (.inr (.inr 1)), some (.inl i)] [] μ := by
    intro m
    induction m with
    | zero =>
      intro i μ hv0 hv1 hv2 hv3 hv4 hm
      exfalso
      omega
    | succ m ih =>
      intro i μ hv0 hv1 hv2 hv3 hv4 hm
      have ci : am_c i = i := am_cR (by omega) (by omega)
      have c4 : am_c 4 = 4 := rfl
      have eB : μ 62 3 = 1 := hv1
      have eC : ∀ v, am_up μ 6 (am_c i).toNat v 62 3 = 1 := fun v => (am_upN (by decide)).trans eB
      refine am_go (ct := fun pc => Nat.beq pc 21) am_oX4_bring 300 ?_
      conv => whnf
      repeat' first
        | (refine (?_ : am_wp _ _ _ _ _ _ _ _ _ _ _ _); conv => whnf)
        | (refine (?_ : am_sw _ _ _ _); conv => whnf)
        | refine And.intro trivial ?_
        | exact trivial
        | refine am_ab1 (a := 65) (by rw [eB]; rfl) ?_
        | refine am_ab1 (a := 72) (by rw [eB]; rfl) ?_
        | refine am_ab1 (a := 65) (by rw [eC]; rfl) ?_
        | refine am_ab1 (a := 72) (by rw [eC]; rfl) ?_
        | refine kk _ _ ?_ ?_ ?_ ?_ ?_
        | refine And.intro (fun _ => ?_) (fun z => absurd z c0)
        | refine ih _ _ ?_ ?_ ?_ ?_ ?_ ?_
        | refine And.intro (fun h => absurd h (by decide)) (fun _ => ?_)
        | refine And.intro (fun _ => ?_) (fun h => absurd (by decide) h)
        | refine And.intro (fun _ => ?_) (fun _ => ?_)
        | refine And.intro ?_ ?_
      all_goals (first | decide | omega | (simp only [ci, c4] at *; omega) | (intro a b h1 h2 h3; rw [am_upN h2, am_upN h1]; exact hv0 a b h1 h2 h3) | (rw [am_upN (by decide), am_upN (by decide)]; exact hv1) | (intro b hb; by_cases d : (b : Int) = i; (rw [am_upN (by decide), am_upS, if_pos ⟨rfl, by rw [ci]; omega⟩, am_upS, if_pos ⟨rfl, by rw [ci]; omega⟩, am_upN (by decide), hv0 _ _ (by first | decide | omega | exact fun z => absurd z.1 (by decide)) (by first | decide | omega | exact fun z => absurd z.1 (by decide)) (by first | decide | omega | exact fun z => absurd z.1 (by decide)), hv0 _ _ (by first | decide | omega | exact fun z => absurd z.1 (by decide)) (by first | decide | omega | exact fun z => absurd z.1 (by decide)) (by first | decide | omega | exact fun z => absurd z.1 (by decide)), ci, show i.toNat = b by omega]; exact ⟨rfl, rfl⟩); (rw [am_upN (by decide), am_upM (by rw [ci]; omega), am_upM (by rw [ci]; omega)]; exact hv4 b (by omega))) | (rw [eB]; decide) | (rw [eC]; decide) | (intro a b h1 h2 h3 h4; rw [am_uE h3]; exact hv0 a b h1 h2 h4) | (rw [am_upN (by decide), hv1, hB]; rfl) | (rw [am_upS, if_pos ⟨rfl, rfl⟩, hB, eB]; exact hv0 _ _ (by first | decide | omega | exact fun z => absurd z.1 (by decide)) (by first | decide | omega | exact fun z => absurd z.1 (by decide)) (by first | decide | omega | exact fun z => absurd z.1 (by decide))) | (intro b hb; rw [am_upN (by decide), am_upN (by decide), hB]; exact hv4 b (by simp only [ci, c4] at *; omega)) | (trace_state; fail))
  have lp21' : ∀ (i : Int) (μ : am_N) , (∀ a b, a ≠ 6 → a ≠ 7 → ¬(a = 62 ∧ b = 3) → μ a b = ν a b) → μ 62 3 = 1 → 0 ≤ i → i ≤ 4 → (∀ b : Nat, (b : Int) < i → μ 6 b = ν 65 b ∧ μ 7 b = ν 72 b) → am_AW l 0 (fun _ => 0) 48 Q 21 [some (.inr (.inr 62)), some (.inr (.inr 1)), some (.inl i)] [] μ := fun i μ hv0 hv1 hv2 hv3 hv4 => lp21 ((4 - i) + 1).toNat i μ hv0 hv1 hv2 hv3 hv4 (by omega)
  refine am_go (ct := fun pc => Nat.beq pc 21) am_oX4_bring 300 ?_
  conv => whnf
  repeat' first
    | (refine (?_ : am_wp _ _ _ _ _ _ _ _ _ _ _ _); conv => whnf)
    | (refine (?_ : am_sw _ _ _ _); conv => whnf)
    | refine And.intro trivial ?_
    | exact trivial
    | refine And.intro (fun _ => ?_) (fun z => absurd z c0)
    | refine lp21' _ _ ?_ ?_ ?_ ?_ ?_
    | refine And.intro (fun h => absurd h (by decide)) (fun _ => ?_)
    | refine And.intro (fun _ => ?_) (fun h => absurd (by decide) h)
    | refine And.intro (fun _ => ?_) (fun _ => ?_)
    | refine And.intro ?_ ?_
  all_goals (first | decide | omega | (intro a b h1 h2 h3; exact am_uE h3) | (rw [am_upS, if_pos ⟨rfl, rfl⟩, hB]; rfl) | (intros; omega) | (trace_state; fail))
theorem x_bring_3 {l : Launch} {ν : am_N} {Q : Option am_V → am_N → Prop} (hB : ν 62 3 = 3) (k : ∀ μ' : am_N, (∀ a b, a ≠ 6 → a ≠ 7 → ¬(a = 1 ∧ b = 1) → ¬(a = 62 ∧ b = 3) → μ' a b = ν a b) → μ' 62 3 = ν 62 3 - 1 → μ' 1 1 = ν 77 (ν 62 3 - 1).toNat → (∀ r : Nat, r < 4 → μ' 6 r = ν (64 + (ν 62 3 - 1).toNat) r ∧ μ' 7 r = ν (71 + (ν 62 3 - 1).toNat) r) → Q (some (.inl (ν 62 3 - 1))) μ') : am_Does l 48 [.inr (.inr 62), .inr (.inr 1)] ν Q := by
  refine am_Does_of (Nat.le_of_ble_eq_true rfl) (Nat.le_of_ble_eq_true rfl) (Nat.le_of_ble_eq_true rfl) ?_
  have c0 : am_c (ν 62 3) ≠ 0 := by rw [hB]; decide
  have kk := fun (μ' : am_N) (x : Int) a1 a2 a3 a4 (e : x = ν 62 3 - 1) => am_qe (k μ' a1 a2 a3 a4) e
  have lp21 : ∀ (m : Nat) (i : Int) (μ : am_N) , (∀ a b, a ≠ 6 → a ≠ 7 → ¬(a = 62 ∧ b = 3) → μ a b = ν a b) → μ 62 3 = 2 → 0 ≤ i → i ≤ 4 → (∀ b : Nat, (b : Int) < i → μ 6 b = ν 66 b ∧ μ 7 b = ν 73 b) → 4 - i < (m : Int) → am_AW l 0 (fun _ => 0) 48 Q 21 [some (.inr (.inr 62)), some (.inr (.inr 1)), some (.inl i)] [] μ := by
    intro m
    induction m with
    | zero =>
      intro i μ hv0 hv1 hv2 hv3 hv4 hm
      exfalso
      omega
    | succ m ih =>
      intro i μ hv0 hv1 hv2 hv3 hv4 hm
      have ci : am_c i = i := am_cR (by omega) (by omega)
      have c4 : am_c 4 = 4 := rfl
      have eB : μ 62 3 = 2 := hv1
      have eC : ∀ v, am_up μ 6 (am_c i).toNat v 62 3 = 2 := fun v => (am_upN (by decide)).trans eB
      refine am_go (ct := fun pc => Nat.beq pc 21) am_oX4_bring 300 ?_
      conv => whnf
      repeat' first
        | (refine (?_ : am_wp _ _ _ _ _ _ _ _ _ _ _ _); conv => whnf)
        | (refine (?_ : am_sw _ _ _ _); conv => whnf)
        | refine And.intro trivial ?_
        | exact trivial
        | refine am_ab1 (a := 66) (by rw [eB]; rfl) ?_
        | refine am_ab1 (a := 73) (by rw [eB]; rfl) ?_
        | refine am_ab1 (a := 66) (by rw [eC]; rfl) ?_
        | refine am_ab1 (a := 73) (by rw [eC]; rfl) ?_
        | refine kk _ _ ?_ ?_ ?_ ?_ ?_
        | refine And.intro (fun _ => ?_) (fun z => absurd z c0)
        | refine ih _ _ ?_ ?_ ?_ ?_ ?_ ?_
        | refine And.intro (fun h => absurd h (by decide)) (fun _ => ?_)
        | refine And.intro (fun _ => ?_) (fun h => absurd (by decide) h)
        | refine And.intro (fun _ => ?_) (fun _ => ?_)
        | refine And.intro ?_ ?_
      all_goals (first | decide | omega | (simp only [ci, c4] at *; omega) | (intro a b h1 h2 h3; rw [am_upN h2, am_upN h1]; exact hv0 a b h1 h2 h3) | (rw [am_upN (by decide), am_upN (by decide)]; exact hv1) | (intro b hb; by_cases d : (b : Int) = i; (rw [am_upN (by decide), am_upS, if_pos ⟨rfl, by rw [ci]; omega⟩, am_upS, if_pos ⟨rfl, by rw [ci]; omega⟩, am_upN (by decide), hv0 _ _ (by first | decide | omega | exact fun z => absurd z.1 (by decide)) (by first | decide | omega | exact fun z => absurd z.1 (by decide)) (by first | decide | omega | exact fun z => absurd z.1 (by decide)), hv0 _ _ (by first | decide | omega | exact fun z => absurd z.1 (by decide)) (by first | decide | omega | exact fun z => absurd z.1 (by decide)) (by first | decide | omega | exact fun z => absurd z.1 (by decide)), ci, show i.toNat = b by omega]; exact ⟨rfl, rfl⟩); (rw [am_upN (by decide), am_upM (by rw [ci]; omega), am_upM (by rw [ci]; omega)]; exact hv4 b (by omega))) | (rw [eB]; decide) | (rw [eC]; decide) | (intro a b h1 h2 h3 h4; rw [am_uE h3]; exact hv0 a b h1 h2 h4) | (rw [am_upN (by decide), hv1, hB]; rfl) | (rw [am_upS, if_pos ⟨rfl, rfl⟩, hB, eB]; exact hv0 _ _ (by first | decide | omega | exact fun z => absurd z.1 (by decide)) (by first | decide | omega | exact fun z => absurd z.1 (by decide)) (by first | decide | omega | exact fun z => absurd z.1 (by decide))) | (intro b hb; rw [am_upN (by decide), am_upN (by decide), hB]; exact hv4 b (by simp only [ci, c4] at *; omega)) | (trace_state; fail))
  have lp21' : ∀ (i : Int) (μ : am_N) , (∀ a b, a ≠ 6 → a ≠ 7 → ¬(a = 62 ∧ b = 3) → μ a b = ν a b) → μ 62 3 = 2 → 0 ≤ i → i ≤ 4 → (∀ b : Nat, (b : Int) < i → μ 6 b = ν 66 b ∧ μ 7 b = ν 73 b) → am_AW l 0 (fun _ => 0) 48 Q 21 [some (.inr (.inr 62)), some (.inr (.inr 1)), some (.inl i)] [] μ := fun i μ hv0 hv1 hv2 hv3 hv4 => lp21 ((4 - i) + 1).toNat i μ hv0 hv1 hv2 hv3 hv4 (by omega)
  refine am_go (ct := fun pc => Nat.beq pc 21) am_oX4_bring 300 ?_
  conv => whnf
  repeat' first
    | (refine (?_ : am_wp _ _ _ _ _ _ _ _ _ _ _ _); conv => whnf)
    | (refine (?_ : am_sw _ _ _ _); conv => whnf)
    | refine And.intro trivial ?_
    | exact trivial
    | refine And.intro (fun _ => ?_) (fun z => absurd z c0)
    | refine lp21' _ _ ?_ ?_ ?_ ?_ ?_
    | refine And.intro (fun h => absurd h (by decide)) (fun _ => ?_)
    | refine And.intro (fun _ => ?_) (fun h => absurd (by decide) h)
    | refine And.intro (fun _ => ?_) (fun _ => ?_)
    | refine And.intro ?_ ?_
  all_goals (first | decide | omega | (intro a b h1 h2 h3; exact am_uE h3) | (rw [am_upS, if_pos ⟨rfl, rfl⟩, hB]; rfl) | (intros; omega) | (trace_state; fail))
theorem x_bring_4 {l : Launch} {ν : am_N} {Q : Option am_V → am_N → Prop} (hB : ν 62 3 = 4) (k : ∀ μ' : am_N, (∀ a b, a ≠ 6 → a ≠ 7 → ¬(a = 1 ∧ b = 1) → ¬(a = 62 ∧ b = 3) → μ' a b = ν a b) → μ' 62 3 = ν 62 3 - 1 → μ' 1 1 = ν 77 (ν 62 3 - 1).toNat → (∀ r : Nat, r < 4 → μ' 6 r = ν (64 + (ν 62 3 - 1).toNat) r ∧ μ' 7 r = ν (71 + (ν 62 3 - 1).toNat) r) → Q (some (.inl (ν 62 3 - 1))) μ') : am_Does l 48 [.inr (.inr 62), .inr (.inr 1)] ν Q := by
  refine am_Does_of (Nat.le_of_ble_eq_true rfl) (Nat.le_of_ble_eq_true rfl) (Nat.le_of_ble_eq_true rfl) ?_
  have c0 : am_c (ν 62 3) ≠ 0 := by rw [hB]; decide
  have kk := fun (μ' : am_N) (x : Int) a1 a2 a3 a4 (e : x = ν 62 3 - 1) => am_qe (k μ' a1 a2 a3 a4) e
  have lp21 : ∀ (m : Nat) (i : Int) (μ : am_N) , (∀ a b, a ≠ 6 → a ≠ 7 → ¬(a = 62 ∧ b = 3) → μ a b = ν a b) → μ 62 3 = 3 → 0 ≤ i → i ≤ 4 → (∀ b : Nat, (b : Int) < i → μ 6 b = ν 67 b ∧ μ 7 b = ν 74 b) → 4 - i < (m : Int) → am_AW l 0 (fun _ => 0) 48 Q 21 [some (.inr (.inr 62)), some (.inr (.inr 1)), some (.inl i)] [] μ := by
    intro m
    induction m with
    | zero =>
      intro i μ hv0 hv1 hv2 hv3 hv4 hm
      exfalso
      omega
    | succ m ih =>
      intro i μ hv0 hv1 hv2 hv3 hv4 hm
      have ci : am_c i = i := am_cR (by omega) (by omega)
      have c4 : am_c 4 = 4 := rfl
      have eB : μ 62 3 = 3 := hv1
      have eC : ∀ v, am_up μ 6 (am_c i).toNat v 62 3 = 3 := fun v => (am_upN (by decide)).trans eB
      refine am_go (ct := fun pc => Nat.beq pc 21) am_oX4_bring 300 ?_
      conv => whnf
      repeat' first
        | (refine (?_ : am_wp _ _ _ _ _ _ _ _ _ _ _ _); conv => whnf)
        | (refine (?_ : am_sw _ _ _ _); conv => whnf)
        | refine And.intro trivial ?_
        | exact trivial
        | refine am_ab1 (a := 67) (by rw [eB]; rfl) ?_
        | refine am_ab1 (a := 74) (by rw [eB]; rfl) ?_
        | refine am_ab1 (a := 67) (by rw [eC]; rfl) ?_
        | refine am_ab1 (a := 74) (by rw [eC]; rfl) ?_
        | refine kk _ _ ?_ ?_ ?_ ?_ ?_
        | refine And.intro (fun _ => ?_) (fun z => absurd z c0)
        | refine ih _ _ ?_ ?_ ?_ ?_ ?_ ?_
        | refine And.intro (fun h => absurd h (by decide)) (fun _ => ?_)
        | refine And.intro (fun _ => ?_) (fun h => absurd (by decide) h)
        | refine And.intro (fun _ => ?_) (fun _ => ?_)
        | refine And.intro ?_ ?_
      all_goals (first | decide | omega | (simp only [ci, c4] at *; omega) | (intro a b h1 h2 h3; rw [am_upN h2, am_upN h1]; exact hv0 a b h1 h2 h3) | (rw [am_upN (by decide), am_upN (by decide)]; exact hv1) | (intro b hb; by_cases d : (b : Int) = i; (rw [am_upN (by decide), am_upS, if_pos ⟨rfl, by rw [ci]; omega⟩, am_upS, if_pos ⟨rfl, by rw [ci]; omega⟩, am_upN (by decide), hv0 _ _ (by first | decide | omega | exact fun z => absurd z.1 (by decide)) (by first | decide | omega | exact fun z => absurd z.1 (by decide)) (by first | decide | omega | exact fun z => absurd z.1 (by decide)), hv0 _ _ (by first | decide | omega | exact fun z => absurd z.1 (by decide)) (by first | decide | omega | exact fun z => absurd z.1 (by decide)) (by first | decide | omega | exact fun z => absurd z.1 (by decide)), ci, show i.toNat = b by omega]; exact ⟨rfl, rfl⟩); (rw [am_upN (by decide), am_upM (by rw [ci]; omega), am_upM (by rw [ci]; omega)]; exact hv4 b (by omega))) | (rw [eB]; decide) | (rw [eC]; decide) | (intro a b h1 h2 h3 h4; rw [am_uE h3]; exact hv0 a b h1 h2 h4) | (rw [am_upN (by decide), hv1, hB]; rfl) | (rw [am_upS, if_pos ⟨rfl, rfl⟩, hB, eB]; exact hv0 _ _ (by first | decide | omega | exact fun z => absurd z.1 (by decide)) (by first | decide | omega | exact fun z => absurd z.1 (by decide)) (by first | decide | omega | exact fun z => absurd z.1 (by decide))) | (intro b hb; rw [am_upN (by decide), am_upN (by decide), hB]; exact hv4 b (by simp only [ci, c4] at *; omega)) | (trace_state; fail))
  have lp21' : ∀ (i : Int) (μ : am_N) , (∀ a b, a ≠ 6 → a ≠ 7 → ¬(a = 62 ∧ b = 3) → μ a b = ν a b) → μ 62 3 = 3 → 0 ≤ i → i ≤ 4 → (∀ b : Nat, (b : Int) < i → μ 6 b = ν 67 b ∧ μ 7 b = ν 74 b) → am_AW l 0 (fun _ => 0) 48 Q 21 [some (.inr (.inr 62)), some (.inr (.inr 1)), some (.inl i)] [] μ := fun i μ hv0 hv1 hv2 hv3 hv4 => lp21 ((4 - i) + 1).toNat i μ hv0 hv1 hv2 hv3 hv4 (by omega)
  refine am_go (ct := fun pc => Nat.beq pc 21) am_oX4_bring 300 ?_
  conv => whnf
  repeat' first
    | (refine (?_ : am_wp _ _ _ _ _ _ _ _ _ _ _ _); conv => whnf)
    | (refine (?_ : am_sw _ _ _ _); conv => whnf)
    | refine And.intro trivial ?_
    | exact trivial
    | refine And.intro (fun _ => ?_) (fun z => absurd z c0)
    | refine lp21' _ _ ?_ ?_ ?_ ?_ ?_
    | refine And.intro (fun h => absurd h (by decide)) (fun _ => ?_)
    | refine And.intro (fun _ => ?_) (fun h => absurd (by decide) h)
    | refine And.intro (fun _ => ?_) (fun _ => ?_)
    | refine And.intro ?_ ?_
  all_goals (first | decide | omega | (intro a b h1 h2 h3; exact am_uE h3) | (rw [am_upS, if_pos ⟨rfl, rfl⟩, hB]; rfl) | (intros; omega) | (trace_state; fail))
theorem x_bring_5 {l : Launch} {ν : am_N} {Q : Option am_V → am_N → Prop} (hB : ν 62 3 = 5) (k : ∀ μ' : am_N, (∀ a b, a ≠ 6 → a ≠ 7 → ¬(a = 1 ∧ b = 1) → ¬(a = 62 ∧ b = 3) → μ' a b = ν a b) → μ' 62 3 = ν 62 3 - 1 → μ' 1 1 = ν 77 (ν 62 3 - 1).toNat → (∀ r : Nat, r < 4 → μ' 6 r = ν (64 + (ν 62 3 - 1).toNat) r ∧ μ' 7 r = ν (71 + (ν 62 3 - 1).toNat) r) → Q (some (.inl (ν 62 3 - 1))) μ') : am_Does l 48 [.inr (.inr 62), .inr (.inr 1)] ν Q := by
  refine am_Does_of (Nat.le_of_ble_eq_true rfl) (Nat.le_of_ble_eq_true rfl) (Nat.le_of_ble_eq_true rfl) ?_
  have c0 : am_c (ν 62 3) ≠ 0 := by rw [hB]; decide
  have kk := fun (μ' : am_N) (x : Int) a1 a2 a3 a4 (e : x = ν 62 3 - 1) => am_qe (k μ' a1 a2 a3 a4) e
  have lp21 : ∀ (m : Nat) (i : Int) (μ : am_N) , (∀ a b, a ≠ 6 → a ≠ 7 → ¬(a = 62 ∧ b = 3) → μ a b = ν a b) → μ 62 3 = 4 → 0 ≤ i → i ≤ 4 → (∀ b : Nat, (b : Int) < i → μ 6 b = ν 68 b ∧ μ 7 b = ν 75 b) → 4 - i < (m : Int) → am_AW l 0 (fun _ => 0) 48 Q 21 [some (.inr (.inr 62)), some (.inr (.inr 1)), some (.inl i)] [] μ := by
    intro m
    induction m with
    | zero =>
      intro i μ hv0 hv1 hv2 hv3 hv4 hm
      exfalso
      omega
    | succ m ih =>
      intro i μ hv0 hv1 hv2 hv3 hv4 hm
      have ci : am_c i = i := am_cR (by omega) (by omega)
      have c4 : am_c 4 = 4 := rfl
      have eB : μ 62 3 = 4 := hv1
      have eC : ∀ v, am_up μ 6 (am_c i).toNat v 62 3 = 4 := fun v => (am_upN (by decide)).trans eB
      refine am_go (ct := fun pc => Nat.beq pc 21) am_oX4_bring 300 ?_
      conv => whnf
      repeat' first
        | (refine (?_ : am_wp _ _ _ _ _ _ _ _ _ _ _ _); conv => whnf)
        | (refine (?_ : am_sw _ _ _ _); conv => whnf)
        | refine And.intro trivial ?_
        | exact trivial
        | refine am_ab1 (a := 68) (by rw [eB]; rfl) ?_
        | refine am_ab1 (a := 75) (by rw [eB]; rfl) ?_
        | refine am_ab1 (a := 68) (by rw [eC]; rfl) ?_
        | refine am_ab1 (a := 75) (by rw [eC]; rfl) ?_
        | refine kk _ _ ?_ ?_ ?_ ?_ ?_
        | refine And.intro (fun _ => ?_) (fun z => absurd z c0)
        | refine ih _ _ ?_ ?_ ?_ ?_ ?_ ?_
        | refine And.intro (fun h => absurd h (by decide)) (fun _ => ?_)
        | refine And.intro (fun _ => ?_) (fun h => absurd (by decide) h)
        | refine And.intro (fun _ => ?_) (fun _ => ?_)
        | refine And.intro ?_ ?_
      all_goals (first | decide | omega | (simp only [ci, c4] at *; omega) | (intro a b h1 h2 h3; rw [am_upN h2, am_upN h1]; exact hv0 a b h1 h2 h3) | (rw [am_upN (by decide), am_upN (by decide)]; exact hv1) | (intro b hb; by_cases d : (b : Int) = i; (rw [am_upN (by decide), am_upS, if_pos ⟨rfl, by rw [ci]; omega⟩, am_upS, if_pos ⟨rfl, by rw [ci]; omega⟩, am_upN (by decide), hv0 _ _ (by first | decide | omega | exact fun z => absurd z.1 (by decide)) (by first | decide | omega | exact fun z => absurd z.1 (by decide)) (by first | decide | omega | exact fun z => absurd z.1 (by decide)), hv0 _ _ (by first | decide | omega | exact fun z => absurd z.1 (by decide)) (by first | decide | omega | exact fun z => absurd z.1 (by decide)) (by first | decide | omega | exact fun z => absurd z.1 (by decide)), ci, show i.toNat = b by omega]; exact ⟨rfl, rfl⟩); (rw [am_upN (by decide), am_upM (by rw [ci]; omega), am_upM (by rw [ci]; omega)]; exact hv4 b (by omega))) | (rw [eB]; decide) | (rw [eC]; decide) | (intro a b h1 h2 h3 h4; rw [am_uE h3]; exact hv0 a b h1 h2 h4) | (rw [am_upN (by decide), hv1, hB]; rfl) | (rw [am_upS, if_pos ⟨rfl, rfl⟩, hB, eB]; exact hv0 _ _ (by first | decide | omega | exact fun z => absurd z.1 (by decide)) (by first | decide | omega | exact fun z => absurd z.1 (by decide)) (by first | decide | omega | exact fun z => absurd z.1 (by decide))) | (intro b hb; rw [am_upN (by decide), am_upN (by decide), hB]; exact hv4 b (by simp only [ci, c4] at *; omega)) | (trace_state; fail))
  have lp21' : ∀ (i : Int) (μ : am_N) , (∀ a b, a ≠ 6 → a ≠ 7 → ¬(a = 62 ∧ b = 3) → μ a b = ν a b) → μ 62 3 = 4 → 0 ≤ i → i ≤ 4 → (∀ b : Nat, (b : Int) < i → μ 6 b = ν 68 b ∧ μ 7 b = ν 75 b) → am_AW l 0 (fun _ => 0) 48 Q 21 [some (.inr (.inr 62)), some (.inr (.inr 1)), some (.inl i)] [] μ := fun i μ hv0 hv1 hv2 hv3 hv4 => lp21 ((4 - i) + 1).toNat i μ hv0 hv1 hv2 hv3 hv4 (by omega)
  refine am_go (ct := fun pc => Nat.beq pc 21) am_oX4_bring 300 ?_
  conv => whnf
  repeat' first
    | (refine (?_ : am_wp _ _ _ _ _ _ _ _ _ _ _ _); conv => whnf)
    | (refine (?_ : am_sw _ _ _ _); conv => whnf)
    | refine And.intro trivial ?_
    | exact trivial
    | refine And.intro (fun _ => ?_) (fun z => absurd z c0)
    | refine lp21' _ _ ?_ ?_ ?_ ?_ ?_
    | refine And.intro (fun h => absurd h (by decide)) (fun _ => ?_)
    | refine And.intro (fun _ => ?_) (fun h => absurd (by decide) h)
    | refine And.intro (fun _ => ?_) (fun _ => ?_)
    | refine And.intro ?_ ?_
  all_goals (first | decide | omega | (intro a b h1 h2 h3; exact am_uE h3) | (rw [am_upS, if_pos ⟨rfl, rfl⟩, hB]; rfl) | (intros; omega) | (trace_state; fail))
theorem x_bring_6 {l : Launch} {ν : am_N} {Q : Option am_V → am_N → Prop} (hB : ν 62 3 = 6) (k : ∀ μ' : am_N, (∀ a b, a ≠ 6 → a ≠ 7 → ¬(a = 1 ∧ b = 1) → ¬(a = 62 ∧ b = 3) → μ' a b = ν a b) → μ' 62 3 = ν 62 3 - 1 → μ' 1 1 = ν 77 (ν 62 3 - 1).toNat → (∀ r : Nat, r < 4 → μ' 6 r = ν (64 + (ν 62 3 - 1).toNat) r ∧ μ' 7 r = ν (71 + (ν 62 3 - 1).toNat) r) → Q (some (.inl (ν 62 3 - 1))) μ') : am_Does l 48 [.inr (.inr 62), .inr (.inr 1)] ν Q := by
  refine am_Does_of (Nat.le_of_ble_eq_true rfl) (Nat.le_of_ble_eq_true rfl) (Nat.le_of_ble_eq_true rfl) ?_
  have c0 : am_c (ν 62 3) ≠ 0 := by rw [hB]; decide
  have kk := fun (μ' : am_N) (x : Int) a1 a2 a3 a4 (e : x = ν 62 3 - 1) => am_qe (k μ' a1 a2 a3 a4) e
  have lp21 : ∀ (m : Nat) (i : Int) (μ : am_N) , (∀ a b, a ≠ 6 → a ≠ 7 → ¬(a = 62 ∧ b = 3) → μ a b = ν a b) → μ 62 3 = 5 → 0 ≤ i → i ≤ 4 → (∀ b : Nat, (b : Int) < i → μ 6 b = ν 69 b ∧ μ 7 b = ν 76 b) → 4 - i < (m : Int) → am_AW l 0 (fun _ => 0) 48 Q 21 [some (.inr (.inr 62)), some (.inr (.inr 1)), some (.inl i)] [] μ := by
    intro m
    induction m with
    | zero =>
      intro i μ hv0 hv1 hv2 hv3 hv4 hm
      exfalso
      omega
    | succ m ih =>
      intro i μ hv0 hv1 hv2 hv3 hv4 hm
      have ci : am_c i = i := am_cR (by omega) (by omega)
      have c4 : am_c 4 = 4 := rfl
      have eB : μ 62 3 = 5 := hv1
      have eC : ∀ v, am_up μ 6 (am_c i).toNat v 62 3 = 5 := fun v => (am_upN (by decide)).trans eB
      refine am_go (ct := fun pc => Nat.beq pc 21) am_oX4_bring 300 ?_
      conv => whnf
      repeat' first
        | (refine (?_ : am_wp _ _ _ _ _ _ _ _ _ _ _ _); conv => whnf)
        | (refine (?_ : am_sw _ _ _ _); conv => whnf)
        | refine And.intro trivial ?_
        | exact trivial
        | refine am_ab1 (a := 69) (by rw [eB]; rfl) ?_
        | refine am_ab1 (a := 76) (by rw [eB]; rfl) ?_
        | refine am_ab1 (a := 69) (by rw [eC]; rfl) ?_
        | refine am_ab1 (a := 76) (by rw [eC]; rfl) ?_
        | refine kk _ _ ?_ ?_ ?_ ?_ ?_
        | refine And.intro (fun _ => ?_) (fun z => absurd z c0)
        | refine ih _ _ ?_ ?_ ?_ ?_ ?_ ?_
        | refine And.intro (fun h => absurd h (by decide)) (fun _ => ?_)
        | refine And.intro (fun _ => ?_) (fun h => absurd (by decide) h)
        | refine And.intro (fun _ => ?_) (fun _ => ?_)
        | refine And.intro ?_ ?_
      all_goals (first | decide | omega | (simp only [ci, c4] at *; omega) | (intro a b h1 h2 h3; rw [am_upN h2, am_upN h1]; exact hv0 a b h1 h2 h3) | (rw [am_upN (by decide), am_upN (by decide)]; exact hv1) | (intro b hb; by_cases d : (b : Int) = i; (rw [am_upN (by decide), am_upS, if_pos ⟨rfl, by rw [ci]; omega⟩, am_upS, if_pos ⟨rfl, by rw [ci]; omega⟩, am_upN (by decide), hv0 _ _ (by first | decide | omega | exact fun z => absurd z.1 (by decide)) (by first | decide | omega | exact fun z => absurd z.1 (by decide)) (by first | decide | omega | exact fun z => absurd z.1 (by decide)), hv0 _ _ (by first | decide | omega | exact fun z => absurd z.1 (by decide)) (by first | decide | omega | exact fun z => absurd z.1 (by decide)) (by first | decide | omega | exact fun z => absurd z.1 (by decide)), ci, show i.toNat = b by omega]; exact ⟨rfl, rfl⟩); (rw [am_upN (by decide), am_upM (by rw [ci]; omega), am_upM (by rw [ci]; omega)]; exact hv4 b (by omega))) | (rw [eB]; decide) | (rw [eC]; decide) | (intro a b h1 h2 h3 h4; rw [am_uE h3]; exact hv0 a b h1 h2 h4) | (rw [am_upN (by decide), hv1, hB]; rfl) | (rw [am_upS, if_pos ⟨rfl, rfl⟩, hB, eB]; exact hv0 _ _ (by first | decide | omega | exact fun z => absurd z.1 (by decide)) (by first | decide | omega | exact fun z => absurd z.1 (by decide)) (by first | decide | omega | exact fun z => absurd z.1 (by decide))) | (intro b hb; rw [am_upN (by decide), am_upN (by decide), hB]; exact hv4 b (by simp only [ci, c4] at *; omega)) | (trace_state; fail))
  have lp21' : ∀ (i : Int) (μ : am_N) , (∀ a b, a ≠ 6 → a ≠ 7 → ¬(a = 62 ∧ b = 3) → μ a b = ν a b) → μ 62 3 = 5 → 0 ≤ i → i ≤ 4 → (∀ b : Nat, (b : Int) < i → μ 6 b = ν 69 b ∧ μ 7 b = ν 76 b) → am_AW l 0 (fun _ => 0) 48 Q 21 [some (.inr (.inr 62)), some (.inr (.inr 1)), some (.inl i)] [] μ := fun i μ hv0 hv1 hv2 hv3 hv4 => lp21 ((4 - i) + 1).toNat i μ hv0 hv1 hv2 hv3 hv4 (by omega)
  refine am_go (ct := fun pc => Nat.beq pc 21) am_oX4_bring 300 ?_
  conv => whnf
  repeat' first
    | (refine (?_ : am_wp _ _ _ _ _ _ _ _ _ _ _ _); conv => whnf)
    | (refine (?_ : am_sw _ _ _ _); conv => whnf)
    | refine And.intro trivial ?_
    | exact trivial
    | refine And.intro (fun _ => ?_) (fun z => absurd z c0)
    | refine lp21' _ _ ?_ ?_ ?_ ?_ ?_
    | refine And.intro (fun h => absurd h (by decide)) (fun _ => ?_)
    | refine And.intro (fun _ => ?_) (fun h => absurd (by decide) h)
    | refine And.intro (fun _ => ?_) (fun _ => ?_)
    | refine And.intro ?_ ?_
  all_goals (first | decide | omega | (intro a b h1 h2 h3; exact am_uE h3) | (rw [am_upS, if_pos ⟨rfl, rfl⟩, hB]; rfl) | (intros; omega) | (trace_state; fail))
theorem x_bring {l : Launch} {ν : am_N} {Q : Option am_V → am_N → Prop} (h0 : 0 < ν 62 3) (h1 : ν 62 3 ≤ 6) (k : ∀ μ' : am_N, (∀ a b, a ≠ 6 → a ≠ 7 → ¬(a = 1 ∧ b = 1) → ¬(a = 62 ∧ b = 3) → μ' a b = ν a b) → μ' 62 3 = ν 62 3 - 1 → μ' 1 1 = ν 77 (ν 62 3 - 1).toNat → (∀ r : Nat, r < 4 → μ' 6 r = ν (64 + (ν 62 3 - 1).toNat) r ∧ μ' 7 r = ν (71 + (ν 62 3 - 1).toNat) r) → Q (some (.inl (ν 62 3 - 1))) μ') : am_Does l 48 [.inr (.inr 62), .inr (.inr 1)] ν Q := by
  rcases (show ν 62 3 = 1 ∨ ν 62 3 = 2 ∨ ν 62 3 = 3 ∨ ν 62 3 = 4 ∨ ν 62 3 = 5 ∨ ν 62 3 = 6 by omega) with e | e | e | e | e | e
  · exact x_bring_1 e k
  · exact x_bring_2 e k
  · exact x_bring_3 e k
  · exact x_bring_4 e k
  · exact x_bring_5 e k
  · exact x_bring_6 e k
theorem x_keepsRun {l : Launch} {ν : am_N} {Q : Option am_V → am_N → Prop} (h0 : 0 ≤ ν 83 33) (h1 : ν 83 33 ≤ 6) (k : ∀ μ' : am_N, (∀ a b, a ≠ 101 → a ≠ 102 → a ≠ 103 → ¬(a = 83 ∧ b = 33) → μ' a b = ν a b) → μ' 83 33 = (if ν 83 33 < 6 then ν 83 33 + 1 else 6) → (∀ r : Nat, r < 4 → μ' 101 r = ν 89 r ∧ μ' 102 r = ν 90 r) → μ' 103 0 = ν 83 11 → (∀ b : Nat, 4 ≤ b → b < 24 → μ' 101 b = ν 101 (b - 4) ∧ μ' 102 b = ν 102 (b - 4)) → (∀ b : Nat, 1 ≤ b → b < 6 → μ' 103 b = ν 103 (b - 1)) → Q none μ') : am_Does l 179 [.inr (.inr 83)] ν Q := by
  refine am_Does_of (Nat.le_of_ble_eq_true rfl) (Nat.le_of_ble_eq_true rfl) (Nat.le_of_ble_eq_true rfl) ?_
  have c6 : am_c (ν 83 33) = ν 83 33 := am_cR (by omega) (by omega)
  have d6 : am_c 6 = 6 := rfl
  have lp95 : ∀ (m : Nat) (i : Int) (o2 : Option am_V) (μ : am_N) , (∀ a b, a ≠ 101 → a ≠ 102 → a ≠ 103 → μ a b = ν a b) → 0 ≤ i → i ≤ 4 → (∀ b : Nat, (b : Int) < i → μ 101 b = ν 89 b ∧ μ 102 b = ν 90 b) → (∀ b : Nat, 4 ≤ b → b < 24 → μ 101 b = ν 101 (b - 4) ∧ μ 102 b = ν 102 (b - 4)) → μ 103 0 = ν 83 11 → (∀ b : Nat, 1 ≤ b → b < 6 → μ 103 b = ν 103 (b - 1)) → 4 - i < (m : Int) → am_AW l 0 (fun _ => 0) 179 Q 95 [some (.inr (.inr 83)), some (.inl i), o2] [] μ := by
    intro m
    induction m with
    | zero =>
      intro i o2 μ hv0 hv1 hv2 hv3 hv4 hv5 hv6 hm
      exfalso
      omega
    | succ m ih =>
      intro i o2 μ hv0 hv1 hv2 hv3 hv4 hv5 hv6 hm
      have ci : am_c i = i := am_cR (by omega) (by omega)
      have d4 : am_c 4 = 4 := rfl
      have e33 : μ 83 33 = ν 83 33 := hv0 83 33 (by decide) (by decide) (by decide)
      have c33 : am_c (μ 83 33) = ν 83 33 := by rw [e33]; exact c6
      refine am_go (ct := fun pc => Nat.beq pc 95 || Nat.beq pc 22 || Nat.beq pc 2) am_oX7_keepsRun 200 ?_
      conv => whnf
      repeat' first
        | (refine (?_ : am_wp _ _ _ _ _ _ _ _ _ _ _ _); conv => whnf)
        | (refine (?_ : am_sw _ _ _ _); conv => whnf)
        | refine And.intro trivial ?_
        | exact trivial
        | refine k _ ?_ ?_ ?_ ?_ ?_ ?_
        | refine ih _ _ _ ?_ ?_ ?_ ?_ ?_ ?_ ?_ ?_
        | refine And.intro (fun h => absurd h (by decide)) (fun _ => ?_)
        | refine And.intro (fun _ => ?_) (fun h => absurd (by decide) h)
        | refine And.intro (fun _ => ?_) (fun _ => ?_)
        | refine And.intro ?_ ?_
      all_goals (first | decide | omega | (simp only [ci, d4] at *; omega) | (intro a b q1 q2 q3; rw [am_upN q2, am_upN q1]; exact hv0 a b q1 q2 q3) | (intro a b q1 q2 q3 q4; rw [am_uE q4]; exact hv0 a b q1 q2 q3) | (intro b hb; by_cases d : (b : Int) = i; (rw [am_upN (by decide), am_upS, if_pos ⟨rfl, by rw [ci]; omega⟩, am_upS, if_pos ⟨rfl, by rw [ci]; omega⟩, am_upN (by decide), hv0 _ _ (by decide) (by decide) (by decide), hv0 _ _ (by decide) (by decide) (by decide), ci, show i.toNat = b by omega]; exact ⟨rfl, rfl⟩); (rw [am_upN (by decide), am_upM (by rw [ci]; omega), am_upM (by rw [ci]; omega)]; exact hv3 b (by omega))) | (intro b q1 q2; rw [am_upN (by decide), am_upM (by rw [ci]; omega), am_upM (by rw [ci]; omega)]; exact hv4 b q1 q2) | (rw [am_upN (by decide), am_upN (by decide)]; exact hv5) | (intro b q1 q2; rw [am_upN (by decide), am_upN (by decide)]; exact hv6 b q1 q2) | (rw [am_upS, if_pos ⟨rfl, rfl⟩]; first | (rw [if_pos (by omega), e33]) | (rw [if_neg (by omega)])) | (intro r hr; rw [am_upN (by decide), am_upN (by decide)]; exact hv3 r (by simp only [ci, d4] at *; omega)) | (rw [am_upN (by decide)]; exact hv5) | (intro b q1 q2; rw [am_upN (by decide)]; exact hv6 b q1 q2) | (intro b q1 q2; rw [am_upN (by decide), am_upN (by decide)]; exact hv4 b q1 q2) | (trace_state; fail))
  have lp95' : ∀ (i : Int) (o2 : Option am_V) (μ : am_N) , (∀ a b, a ≠ 101 → a ≠ 102 → a ≠ 103 → μ a b = ν a b) → 0 ≤ i → i ≤ 4 → (∀ b : Nat, (b : Int) < i → μ 101 b = ν 89 b ∧ μ 102 b = ν 90 b) → (∀ b : Nat, 4 ≤ b → b < 24 → μ 101 b = ν 101 (b - 4) ∧ μ 102 b = ν 102 (b - 4)) → μ 103 0 = ν 83 11 → (∀ b : Nat, 1 ≤ b → b < 6 → μ 103 b = ν 103 (b - 1)) → am_AW l 0 (fun _ => 0) 179 Q 95 [some (.inr (.inr 83)), some (.inl i), o2] [] μ := fun i o2 μ hv0 hv1 hv2 hv3 hv4 hv5 hv6 => lp95 ((4 - i) + 1).toNat i o2 μ hv0 hv1 hv2 hv3 hv4 hv5 hv6 (by omega)
  have lp22 : ∀ (m : Nat) (c i : Int) (μ : am_N) , (∀ a b, a ≠ 101 → a ≠ 102 → a ≠ 103 → μ a b = ν a b) → 1 ≤ c → c ≤ 5 → 0 ≤ i → i ≤ 4 → (∀ b : Nat, μ 101 b = if ((4 * c + 4 ≤ (b : Int) ∧ b < 24) ∨ (4 * c ≤ (b : Int) ∧ (b : Int) < 4 * c + i)) then ν 101 (b - 4) else ν 101 b) → (∀ b : Nat, μ 102 b = if ((4 * c + 4 ≤ (b : Int) ∧ b < 24) ∨ (4 * c ≤ (b : Int) ∧ (b : Int) < 4 * c + i)) then ν 102 (b - 4) else ν 102 b) → (∀ b : Nat, μ 103 b = if ((c - 1) < (b : Int) ∧ b < 6) then ν 103 (b - 1) else ν 103 b) → (∀ (o2 : Option am_V) (μ : am_N), (∀ a b, a ≠ 101 → a ≠ 102 → a ≠ 103 → μ a b = ν a b) → (∀ b : Nat, μ 101 b = if ((4 * (c + -1) + 4 ≤ (b : Int) ∧ b < 24) ∨ (4 * (c + -1) ≤ (b : Int) ∧ (b : Int) < 4 * (c + -1) + 0)) then ν 101 (b - 4) else ν 101 b) → (∀ b : Nat, μ 102 b = if ((4 * (c + -1) + 4 ≤ (b : Int) ∧ b < 24) ∨ (4 * (c + -1) ≤ (b : Int) ∧ (b : Int) < 4 * (c + -1) + 0)) then ν 102 (b - 4) else ν 102 b) → (∀ b : Nat, μ 103 b = if ((c + -1) < (b : Int) ∧ b < 6) then ν 103 (b - 1) else ν 103 b) → am_AW l 0 (fun _ => 0) 179 Q 2 [some (.inr (.inr 83)), some (.inl (c + -1)), o2] [] μ) → 4 - i < (m : Int) → am_AW l 0 (fun _ => 0) 179 Q 22 [some (.inr (.inr 83)), some (.inl c), some (.inl i)] [] μ := by
    intro m
    induction m with
    | zero =>
      intro c i μ hv0 hv1 hv2 hv3 hv4 hv5 hv6 hv7 hv8 hm
      exfalso
      omega
    | succ m ih =>
      intro c i μ hv0 hv1 hv2 hv3 hv4 hv5 hv6 hv7 hv8 hm
      have cc : am_c c = c := am_cR (by omega) (by omega)
      have c1 : am_c (c - 1) = c - 1 := am_cR (by omega) (by omega)
      have d4 : am_c 4 = 4 := rfl
      have d0 : am_c 0 = 0 := rfl
      have ci : am_c i = i := am_cR (by omega) (by omega)
      have x1 : am_c (4 * c + i) = 4 * c + i := am_cR (by omega) (by omega)
      have x2 : am_c (4 * c - 4 + i) = 4 * c - 4 + i := am_cR (by omega) (by omega)
      refine am_go (ct := fun pc => Nat.beq pc 95 || Nat.beq pc 22 || Nat.beq pc 2) am_oX7_keepsRun 200 ?_
      conv => whnf
      repeat' first
        | (refine (?_ : am_wp _ _ _ _ _ _ _ _ _ _ _ _); conv => whnf)
        | (refine (?_ : am_sw _ _ _ _); conv => whnf)
        | refine And.intro trivial ?_
        | exact trivial
        | refine hv8 _ _ ?_ ?_ ?_ ?_
        | refine ih _ _ _ ?_ ?_ ?_ ?_ ?_ ?_ ?_ ?_ ?_ ?_
        | refine lp95' _ _ _ ?_ ?_ ?_ ?_ ?_ ?_ ?_
        | refine And.intro (fun h => absurd h (by decide)) (fun _ => ?_)
        | refine And.intro (fun _ => ?_) (fun h => absurd (by decide) h)
        | refine And.intro (fun _ => ?_) (fun _ => ?_)
        | refine And.intro ?_ ?_
      all_goals (first | decide | omega | (simp only [cc, ci, d4, x1, x2] at *; omega) | (intro a b q1 q2 q3; rw [am_upN q2, am_upN q1]; exact hv0 a b q1 q2 q3) | exact hv0 | (intro b; rw [am_upN (by decide)]; revert b; (intro b; by_cases d : (b : Int) = 4 * c + i; (rw [am_upS, if_pos ⟨rfl, by rw [x1]; omega⟩, if_pos (by omega), x2, hv5, if_neg (by omega), show (4 * c - 4 + i).toNat = b - 4 by omega]); (rw [am_upM (by rw [x1]; omega), hv5 b]; by_cases e : ((4 * c + 4 ≤ (b : Int) ∧ b < 24) ∨ (4 * c ≤ (b : Int) ∧ (b : Int) < 4 * c + i)); (rw [if_pos e, if_pos (by omega)]); (rw [if_neg e, if_neg (by omega)])))) | (intro b; by_cases d : (b : Int) = 4 * c + i; (rw [am_upS, if_pos ⟨rfl, by rw [x1]; omega⟩, if_pos (by omega), x2, am_upN (by decide), hv6, if_neg (by omega), show (4 * c - 4 + i).toNat = b - 4 by omega]); (rw [am_upM (by rw [x1]; omega), am_upN (by decide), hv6 b]; by_cases e : ((4 * c + 4 ≤ (b : Int) ∧ b < 24) ∨ (4 * c ≤ (b : Int) ∧ (b : Int) < 4 * c + i)); (rw [if_pos e, if_pos (by omega)]); (rw [if_neg e, if_neg (by omega)]))) | (intro b; rw [am_upN (by decide), am_upN (by decide)]; exact hv7 b) | exact hv8 | (intro b; rw [hv5 b]; by_cases e : ((4 * c + 4 ≤ (b : Int) ∧ b < 24) ∨ (4 * c ≤ (b : Int) ∧ (b : Int) < 4 * c + i)); (rw [if_pos e, if_pos (by simp only [ci, d4] at *; omega)]); (rw [if_neg e, if_neg (by simp only [ci, d4] at *; omega)])) | (intro b; rw [hv6 b]; by_cases e : ((4 * c + 4 ≤ (b : Int) ∧ b < 24) ∨ (4 * c ≤ (b : Int) ∧ (b : Int) < 4 * c + i)); (rw [if_pos e, if_pos (by simp only [ci, d4] at *; omega)]); (rw [if_neg e, if_neg (by simp only [ci, d4] at *; omega)])) | (intro b; rw [hv7 b, show c + -1 = c - 1 by omega]) | (trace_state; fail))
  have lp22' : ∀ (c i : Int) (μ : am_N) , (∀ a b, a ≠ 101 → a ≠ 102 → a ≠ 103 → μ a b = ν a b) → 1 ≤ c → c ≤ 5 → 0 ≤ i → i ≤ 4 → (∀ b : Nat, μ 101 b = if ((4 * c + 4 ≤ (b : Int) ∧ b < 24) ∨ (4 * c ≤ (b : Int) ∧ (b : Int) < 4 * c + i)) then ν 101 (b - 4) else ν 101 b) → (∀ b : Nat, μ 102 b = if ((4 * c + 4 ≤ (b : Int) ∧ b < 24) ∨ (4 * c ≤ (b : Int) ∧ (b : Int) < 4 * c + i)) then ν 102 (b - 4) else ν 102 b) → (∀ b : Nat, μ 103 b = if ((c - 1) < (b : Int) ∧ b < 6) then ν 103 (b - 1) else ν 103 b) → (∀ (o2 : Option am_V) (μ : am_N), (∀ a b, a ≠ 101 → a ≠ 102 → a ≠ 103 → μ a b = ν a b) → (∀ b : Nat, μ 101 b = if ((4 * (c + -1) + 4 ≤ (b : Int) ∧ b < 24) ∨ (4 * (c + -1) ≤ (b : Int) ∧ (b : Int) < 4 * (c + -1) + 0)) then ν 101 (b - 4) else ν 101 b) → (∀ b : Nat, μ 102 b = if ((4 * (c + -1) + 4 ≤ (b : Int) ∧ b < 24) ∨ (4 * (c + -1) ≤ (b : Int) ∧ (b : Int) < 4 * (c + -1) + 0)) then ν 102 (b - 4) else ν 102 b) → (∀ b : Nat, μ 103 b = if ((c + -1) < (b : Int) ∧ b < 6) then ν 103 (b - 1) else ν 103 b) → am_AW l 0 (fun _ => 0) 179 Q 2 [some (.inr (.inr 83)), some (.inl (c + -1)), o2] [] μ) → am_AW l 0 (fun _ => 0) 179 Q 22 [some (.inr (.inr 83)), some (.inl c), some (.inl i)] [] μ := fun c i μ hv0 hv1 hv2 hv3 hv4 hv5 hv6 hv7 hv8 => lp22 ((4 - i) + 1).toNat c i μ hv0 hv1 hv2 hv3 hv4 hv5 hv6 hv7 hv8 (by omega)
  have lp2 : ∀ (m : Nat) (c : Int) (o2 : Option am_V) (μ : am_N) , (∀ a b, a ≠ 101 → a ≠ 102 → a ≠ 103 → μ a b = ν a b) → 0 ≤ c → c ≤ 5 → (∀ b : Nat, μ 101 b = if ((4 * c + 4 ≤ (b : Int) ∧ b < 24) ∨ (4 * c ≤ (b : Int) ∧ (b : Int) < 4 * c + 0)) then ν 101 (b - 4) else ν 101 b) → (∀ b : Nat, μ 102 b = if ((4 * c + 4 ≤ (b : Int) ∧ b < 24) ∨ (4 * c ≤ (b : Int) ∧ (b : Int) < 4 * c + 0)) then ν 102 (b - 4) else ν 102 b) → (∀ b : Nat, μ 103 b = if (c < (b : Int) ∧ b < 6) then ν 103 (b - 1) else ν 103 b) → c < (m : Int) → am_AW l 0 (fun _ => 0) 179 Q 2 [some (.inr (.inr 83)), some (.inl c), o2] [] μ := by
    intro m
    induction m with
    | zero =>
      intro c o2 μ hv0 hv1 hv2 hv3 hv4 hv5 hm
      exfalso
      omega
    | succ m ih =>
      intro c o2 μ hv0 hv1 hv2 hv3 hv4 hv5 hm
      have cc : am_c c = c := am_cR (by omega) (by omega)
      have c1 : am_c (c - 1) = c - 1 := am_cR (by omega) (by omega)
      have d4 : am_c 4 = 4 := rfl
      have d0 : am_c 0 = 0 := rfl
      refine am_go (ct := fun pc => Nat.beq pc 95 || Nat.beq pc 22 || Nat.beq pc 2) am_oX7_keepsRun 200 ?_
      conv => whnf
      repeat' first
        | (refine (?_ : am_wp _ _ _ _ _ _ _ _ _ _ _ _); conv => whnf)
        | (refine (?_ : am_sw _ _ _ _); conv => whnf)
        | refine And.intro trivial ?_
        | exact trivial
        | refine ih _ _ _ ?_ ?_ ?_ ?_ ?_ ?_ ?_
        | refine lp22' _ _ _ ?_ ?_ ?_ ?_ ?_ ?_ ?_ ?_ ?_
        | refine lp95' _ _ _ ?_ ?_ ?_ ?_ ?_ ?_ ?_
        | refine And.intro (fun h => absurd h (by decide)) (fun _ => ?_)
        | refine And.intro (fun _ => ?_) (fun h => absurd (by decide) h)
        | refine And.intro (fun _ => ?_) (fun _ => ?_)
        | refine And.intro ?_ ?_
      all_goals (first | decide | omega | (simp only [cc, d0] at *; omega) | exact hv0 | (intro a b q1 q2 q3; rw [am_upN q3]; exact hv0 a b q1 q2 q3) | (intro b; rw [am_upN (by decide)]; exact hv3 b) | (intro b; rw [am_upN (by decide)]; exact hv4 b) | (intro b; by_cases d : (b : Int) = c; (rw [am_upS, if_pos ⟨rfl, by rw [cc]; omega⟩, if_pos (by omega), c1, hv5, if_neg (by omega), show (c - 1).toNat = b - 1 by omega]); (rw [am_upM (by rw [cc]; omega), hv5 b]; by_cases e : (c < (b : Int) ∧ b < 6); (rw [if_pos e, if_pos (by omega)]); (rw [if_neg e, if_neg (by omega)]))) | (intros; refine ih _ _ _ ?_ ?_ ?_ ?_ ?_ ?_ ?_ <;> first | assumption | omega) | (intro b hb; omega) | (intro b q1 q2; rw [am_upN (by decide), am_upN (by decide), hv3 b, hv4 b, if_pos (by simp only [cc, d0] at *; omega), if_pos (by simp only [cc, d0] at *; omega)]; exact ⟨rfl, rfl⟩) | (rw [am_upS, if_pos ⟨rfl, rfl⟩]; exact hv0 _ _ (by decide) (by decide) (by decide)) | (intro b q1 q2; rw [am_upM (by simp only [d0]; omega), hv5 b, if_pos (by simp only [cc, d0] at *; omega)]) | (trace_state; fail))
  have lp2' : ∀ (c : Int) (o2 : Option am_V) (μ : am_N) , (∀ a b, a ≠ 101 → a ≠ 102 → a ≠ 103 → μ a b = ν a b) → 0 ≤ c → c ≤ 5 → (∀ b : Nat, μ 101 b = if ((4 * c + 4 ≤ (b : Int) ∧ b < 24) ∨ (4 * c ≤ (b : Int) ∧ (b : Int) < 4 * c + 0)) then ν 101 (b - 4) else ν 101 b) → (∀ b : Nat, μ 102 b = if ((4 * c + 4 ≤ (b : Int) ∧ b < 24) ∨ (4 * c ≤ (b : Int) ∧ (b : Int) < 4 * c + 0)) then ν 102 (b - 4) else ν 102 b) → (∀ b : Nat, μ 103 b = if (c < (b : Int) ∧ b < 6) then ν 103 (b - 1) else ν 103 b) → am_AW l 0 (fun _ => 0) 179 Q 2 [some (.inr (.inr 83)), some (.inl c), o2] [] μ := fun c o2 μ hv0 hv1 hv2 hv3 hv4 hv5 => lp2 ((c) + 1).toNat c o2 μ hv0 hv1 hv2 hv3 hv4 hv5 (by omega)
  refine am_go (ct := fun pc => Nat.beq pc 95 || Nat.beq pc 22 || Nat.beq pc 2) am_oX7_keepsRun 200 ?_
  conv => whnf
  repeat' first
    | (refine (?_ : am_wp _ _ _ _ _ _ _ _ _ _ _ _); conv => whnf)
    | (refine (?_ : am_sw _ _ _ _); conv => whnf)
    | refine And.intro trivial ?_
    | exact trivial
    | refine lp2' _ _ _ ?_ ?_ ?_ ?_ ?_ ?_
    | refine lp22' _ _ _ ?_ ?_ ?_ ?_ ?_ ?_ ?_ ?_ ?_
    | refine lp95' _ _ _ ?_ ?_ ?_ ?_ ?_ ?_ ?_
    | refine And.intro (fun h => absurd h (by decide)) (fun _ => ?_)
    | refine And.intro (fun _ => ?_) (fun h => absurd (by decide) h)
    | refine And.intro (fun _ => ?_) (fun _ => ?_)
    | refine And.intro ?_ ?_
  all_goals (first | decide | omega | exact fun _ _ _ _ _ => rfl | (intro b; rw [if_neg (by omega)]) | (intros; omega) | (trace_state; fail))
theorem x_mback {l : Launch} {ν : am_N} {Q : Option am_V → am_N → Prop} (h0 : 0 < ν 83 33) (h1 : ν 83 33 ≤ 6) (k : ∀ μ' : am_N, (∀ a b, a ≠ 101 → a ≠ 102 → a ≠ 103 → a ≠ 89 → a ≠ 90 → ¬(a = 83 ∧ b = 11) → ¬(a = 83 ∧ b = 33) → μ' a b = ν a b) → μ' 83 33 = ν 83 33 - 1 → μ' 83 11 = ν 103 0 → (∀ r : Nat, r < 4 → μ' 89 r = ν 101 r ∧ μ' 90 r = ν 102 r) → (∀ b : Nat, b < 20 → μ' 101 b = ν 101 (b + 4) ∧ μ' 102 b = ν 102 (b + 4)) → (∀ b : Nat, b < 5 → μ' 103 b = ν 103 (b + 1)) → Q (some (.inl (ν 83 33 - 1))) μ') : am_Does l 180 [.inr (.inr 83)] ν Q := by
  refine am_Does_of (Nat.le_of_ble_eq_true rfl) (Nat.le_of_ble_eq_true rfl) (Nat.le_of_ble_eq_true rfl) ?_
  have c0 : am_c (ν 83 33) ≠ 0 := by rw [am_cR (by omega) (by omega)]; omega
  have kk := fun (μ' : am_N) (x : Int) a1 a2 a3 a4 a5 a6 (e : x = ν 83 33 - 1) => am_qe (k μ' a1 a2 a3 a4 a5 a6) e
  have lp84 : ∀ (m : Nat) (c i : Int) (μ : am_N) , (∀ a b, a ≠ 101 → a ≠ 102 → a ≠ 103 → a ≠ 89 → a ≠ 90 → ¬(a = 83 ∧ b = 11) → μ a b = ν a b) → 0 ≤ c → c ≤ 4 → 0 ≤ i → i ≤ 4 → μ 83 11 = ν 103 0 → (∀ r : Nat, r < 4 → μ 89 r = ν 101 r ∧ μ 90 r = ν 102 r) → (∀ b : Nat, μ 101 b = if (((b : Int) < 4 * c) ∨ (4 * c ≤ (b : Int) ∧ (b : Int) < 4 * c + i)) then ν 101 (b + 4) else ν 101 b) → (∀ b : Nat, μ 102 b = if (((b : Int) < 4 * c) ∨ (4 * c ≤ (b : Int) ∧ (b : Int) < 4 * c + i)) then ν 102 (b + 4) else ν 102 b) → (∀ b : Nat, μ 103 b = if ((b : Int) < (c + 1)) then ν 103 (b + 1) else ν 103 b) → (∀ (o2 : Option am_V) (μ : am_N), (∀ a b, a ≠ 101 → a ≠ 102 → a ≠ 103 → a ≠ 89 → a ≠ 90 → ¬(a = 83 ∧ b = 11) → μ a b = ν a b) → μ 83 11 = ν 103 0 → (∀ r : Nat, r < 4 → μ 89 r = ν 101 r ∧ μ 90 r = ν 102 r) → (∀ b : Nat, μ 101 b = if (((b : Int) < 4 * (c + 1)) ∨ (4 * (c + 1) ≤ (b : Int) ∧ (b : Int) < 4 * (c + 1) + 0)) then ν 101 (b + 4) else ν 101 b) → (∀ b : Nat, μ 102 b = if (((b : Int) < 4 * (c + 1)) ∨ (4 * (c + 1) ≤ (b : Int) ∧ (b : Int) < 4 * (c + 1) + 0)) then ν 102 (b + 4) else ν 102 b) → (∀ b : Nat, μ 103 b = if ((b : Int) < (c + 1)) then ν 103 (b + 1) else ν 103 b) → am_AW l 0 (fun _ => 0) 180 Q 63 [some (.inr (.inr 83)), some (.inl (c + 1)), o2] [] μ) → 4 - i < (m : Int) → am_AW l 0 (fun _ => 0) 180 Q 84 [some (.inr (.inr 83)), some (.inl c), some (.inl i)] [] μ := by
    intro m
    induction m with
    | zero =>
      intro c i μ hv0 hv1 hv2 hv3 hv4 hv5 hv6 hv7 hv8 hv9 hv10 hm
      exfalso
      omega
    | succ m ih =>
      intro c i μ hv0 hv1 hv2 hv3 hv4 hv5 hv6 hv7 hv8 hv9 hv10 hm
      have cc : am_c c = c := am_cR (by omega) (by omega)
      have c1 : am_c (c + 1) = c + 1 := am_cR (by omega) (by omega)
      have d4 : am_c 4 = 4 := rfl
      have d5 : am_c 5 = 5 := rfl
      have d0 : am_c 0 = 0 := rfl
      have ci : am_c i = i := am_cR (by omega) (by omega)
      have x1 : am_c (4 * c + i) = 4 * c + i := am_cR (by omega) (by omega)
      have x2 : am_c (4 * c + 4 + i) = 4 * c + 4 + i := am_cR (by omega) (by omega)
      refine am_go (ct := fun pc => Nat.beq pc 84 || Nat.beq pc 63 || Nat.beq pc 26) am_oX7_back 200 ?_
      conv => whnf
      repeat' first
        | (refine (?_ : am_wp _ _ _ _ _ _ _ _ _ _ _ _); conv => whnf)
        | (refine (?_ : am_sw _ _ _ _); conv => whnf)
        | refine And.intro trivial ?_
        | exact trivial
        | refine hv10 _ _ ?_ ?_ ?_ ?_ ?_ ?_
        | refine And.intro (fun _ => ?_) (fun z => absurd z c0)
        | refine ih _ _ _ ?_ ?_ ?_ ?_ ?_ ?_ ?_ ?_ ?_ ?_ ?_ ?_
        | refine And.intro (fun h => absurd h (by decide)) (fun _ => ?_)
        | refine And.intro (fun _ => ?_) (fun h => absurd (by decide) h)
        | refine And.intro (fun _ => ?_) (fun _ => ?_)
        | refine And.intro ?_ ?_
      all_goals (first | decide | omega | (simp only [cc, ci, d4, x1, x2] at *; omega) | (intro a b q1 q2 q3 q4 q5 q6; rw [am_upN q2, am_upN q1]; exact hv0 a b q1 q2 q3 q4 q5 q6) | exact hv0 | (rw [am_upN (by decide), am_upN (by decide)]; exact hv5) | exact hv5 | (intro r hr; rw [am_upN (by decide), am_upN (by decide), am_upN (by decide), am_upN (by decide)]; exact hv6 r hr) | exact hv6 | (intro b; rw [am_upN (by decide)]; revert b; (intro b; by_cases d : (b : Int) = 4 * c + i; (rw [am_upS, if_pos ⟨rfl, by rw [x1]; omega⟩, if_pos (by omega), x2, hv7, if_neg (by omega), show (4 * c + 4 + i).toNat = b + 4 by omega]); (rw [am_upM (by rw [x1]; omega), hv7 b]; by_cases e : (((b : Int) < 4 * c) ∨ (4 * c ≤ (b : Int) ∧ (b : Int) < 4 * c + i)); (rw [if_pos e, if_pos (by omega)]); (rw [if_neg e, if_neg (by omega)])))) | (intro b; by_cases d : (b : Int) = 4 * c + i; (rw [am_upS, if_pos ⟨rfl, by rw [x1]; omega⟩, if_pos (by omega), x2, am_upN (by decide), hv8, if_neg (by omega), show (4 * c + 4 + i).toNat = b + 4 by omega]); (rw [am_upM (by rw [x1]; omega), am_upN (by decide), hv8 b]; by_cases e : (((b : Int) < 4 * c) ∨ (4 * c ≤ (b : Int) ∧ (b : Int) < 4 * c + i)); (rw [if_pos e, if_pos (by omega)]); (rw [if_neg e, if_neg (by omega)]))) | (intro b; rw [am_upN (by decide), am_upN (by decide)]; exact hv9 b) | exact hv9 | exact hv10 | (intro b; rw [hv7 b]; by_cases e : (((b : Int) < 4 * c) ∨ (4 * c ≤ (b : Int) ∧ (b : Int) < 4 * c + i)); (rw [if_pos e, if_pos (by simp only [ci, d4] at *; omega)]); (rw [if_neg e, if_neg (by simp only [ci, d4] at *; omega)])) | (intro b; rw [hv8 b]; by_cases e : (((b : Int) < 4 * c) ∨ (4 * c ≤ (b : Int) ∧ (b : Int) < 4 * c + i)); (rw [if_pos e, if_pos (by simp only [ci, d4] at *; omega)]); (rw [if_neg e, if_neg (by simp only [ci, d4] at *; omega)])) | (trace_state; fail))
  have lp84' : ∀ (c i : Int) (μ : am_N) , (∀ a b, a ≠ 101 → a ≠ 102 → a ≠ 103 → a ≠ 89 → a ≠ 90 → ¬(a = 83 ∧ b = 11) → μ a b = ν a b) → 0 ≤ c → c ≤ 4 → 0 ≤ i → i ≤ 4 → μ 83 11 = ν 103 0 → (∀ r : Nat, r < 4 → μ 89 r = ν 101 r ∧ μ 90 r = ν 102 r) → (∀ b : Nat, μ 101 b = if (((b : Int) < 4 * c) ∨ (4 * c ≤ (b : Int) ∧ (b : Int) < 4 * c + i)) then ν 101 (b + 4) else ν 101 b) → (∀ b : Nat, μ 102 b = if (((b : Int) < 4 * c) ∨ (4 * c ≤ (b : Int) ∧ (b : Int) < 4 * c + i)) then ν 102 (b + 4) else ν 102 b) → (∀ b : Nat, μ 103 b = if ((b : Int) < (c + 1)) then ν 103 (b + 1) else ν 103 b) → (∀ (o2 : Option am_V) (μ : am_N), (∀ a b, a ≠ 101 → a ≠ 102 → a ≠ 103 → a ≠ 89 → a ≠ 90 → ¬(a = 83 ∧ b = 11) → μ a b = ν a b) → μ 83 11 = ν 103 0 → (∀ r : Nat, r < 4 → μ 89 r = ν 101 r ∧ μ 90 r = ν 102 r) → (∀ b : Nat, μ 101 b = if (((b : Int) < 4 * (c + 1)) ∨ (4 * (c + 1) ≤ (b : Int) ∧ (b : Int) < 4 * (c + 1) + 0)) then ν 101 (b + 4) else ν 101 b) → (∀ b : Nat, μ 102 b = if (((b : Int) < 4 * (c + 1)) ∨ (4 * (c + 1) ≤ (b : Int) ∧ (b : Int) < 4 * (c + 1) + 0)) then ν 102 (b + 4) else ν 102 b) → (∀ b : Nat, μ 103 b = if ((b : Int) < (c + 1)) then ν 103 (b + 1) else ν 103 b) → am_AW l 0 (fun _ => 0) 180 Q 63 [some (.inr (.inr 83)), some (.inl (c + 1)), o2] [] μ) → am_AW l 0 (fun _ => 0) 180 Q 84 [some (.inr (.inr 83)), some (.inl c), some (.inl i)] [] μ := fun c i μ hv0 hv1 hv2 hv3 hv4 hv5 hv6 hv7 hv8 hv9 hv10 => lp84 ((4 - i) + 1).toNat c i μ hv0 hv1 hv2 hv3 hv4 hv5 hv6 hv7 hv8 hv9 hv10 (by omega)
  have lp63 : ∀ (m : Nat) (c : Int) (o2 : Option am_V) (μ : am_N) , (∀ a b, a ≠ 101 → a ≠ 102 → a ≠ 103 → a ≠ 89 → a ≠ 90 → ¬(a = 83 ∧ b = 11) → μ a b = ν a b) → 0 ≤ c → c ≤ 5 → μ 83 11 = ν 103 0 → (∀ r : Nat, r < 4 → μ 89 r = ν 101 r ∧ μ 90 r = ν 102 r) → (∀ b : Nat, μ 101 b = if (((b : Int) < 4 * c) ∨ (4 * c ≤ (b : Int) ∧ (b : Int) < 4 * c + 0)) then ν 101 (b + 4) else ν 101 b) → (∀ b : Nat, μ 102 b = if (((b : Int) < 4 * c) ∨ (4 * c ≤ (b : Int) ∧ (b : Int) < 4 * c + 0)) then ν 102 (b + 4) else ν 102 b) → (∀ b : Nat, μ 103 b = if ((b : Int) < c) then ν 103 (b + 1) else ν 103 b) → 5 - c < (m : Int) → am_AW l 0 (fun _ => 0) 180 Q 63 [some (.inr (.inr 83)), some (.inl c), o2] [] μ := by
    intro m
    induction m with
    | zero =>
      intro c o2 μ hv0 hv1 hv2 hv3 hv4 hv5 hv6 hv7 hm
      exfalso
      omega
    | succ m ih =>
      intro c o2 μ hv0 hv1 hv2 hv3 hv4 hv5 hv6 hv7 hm
      have cc : am_c c = c := am_cR (by omega) (by omega)
      have c1 : am_c (c + 1) = c + 1 := am_cR (by omega) (by omega)
      have d4 : am_c 4 = 4 := rfl
      have d5 : am_c 5 = 5 := rfl
      have d0 : am_c 0 = 0 := rfl
      have e33 : μ 83 33 = ν 83 33 := hv0 83 33 (by decide) (by decide) (by decide) (by decide) (by decide) (by decide)
      refine am_go (ct := fun pc => Nat.beq pc 84 || Nat.beq pc 63 || Nat.beq pc 26) am_oX7_back 200 ?_
      conv => whnf
      repeat' first
        | (refine (?_ : am_wp _ _ _ _ _ _ _ _ _ _ _ _); conv => whnf)
        | (refine (?_ : am_sw _ _ _ _); conv => whnf)
        | refine And.intro trivial ?_
        | exact trivial
        | refine kk _ _ ?_ ?_ ?_ ?_ ?_ ?_ ?_
        | refine And.intro (fun _ => ?_) (fun z => absurd z c0)
        | refine ih _ _ _ ?_ ?_ ?_ ?_ ?_ ?_ ?_ ?_ ?_
        | refine lp84' _ _ _ ?_ ?_ ?_ ?_ ?_ ?_ ?_ ?_ ?_ ?_ ?_
        | refine And.intro (fun h => absurd h (by decide)) (fun _ => ?_)
        | refine And.intro (fun _ => ?_) (fun h => absurd (by decide) h)
        | refine And.intro (fun _ => ?_) (fun _ => ?_)
        | refine And.intro ?_ ?_
      all_goals (first | decide | omega | (simp only [cc, d0, d5] at *; omega) | exact hv0 | (intro a b q1 q2 q3 q4 q5 q6; rw [am_upN q3]; exact hv0 a b q1 q2 q3 q4 q5 q6) | (intro a b q1 q2 q3 q4 q5 q6 q7; rw [am_uE q7]; exact hv0 a b q1 q2 q3 q4 q5 q6) | (rw [am_upS, if_pos ⟨rfl, rfl⟩, e33]) | (rw [am_upN (by decide)]; exact hv3) | (rw [am_upM (by decide)]; exact hv3) | (intro r hr; rw [am_upN (by decide), am_upN (by decide)]; exact hv4 r hr) | (intro b; rw [am_upN (by decide)]; exact hv5 b) | (intro b; rw [am_upN (by decide)]; exact hv6 b) | (intro b; by_cases d : (b : Int) = c; (rw [am_upS, if_pos ⟨rfl, by rw [cc]; omega⟩, if_pos (by omega), c1, hv7, if_neg (by omega), show (c + 1).toNat = b + 1 by omega]); (rw [am_upM (by rw [cc]; omega), hv7 b]; by_cases e : ((b : Int) < c); (rw [if_pos e, if_pos (by omega)]); (rw [if_neg e, if_neg (by omega)]))) | (intros; refine ih _ _ _ ?_ ?_ ?_ ?_ ?_ ?_ ?_ ?_ ?_ <;> first | assumption | omega) | (intro b hb; rw [am_upN (by decide), am_upN (by decide), hv5 b, hv6 b, if_pos (by simp only [cc, d5] at *; omega), if_pos (by simp only [cc, d5] at *; omega)]; exact ⟨rfl, rfl⟩) | (intro b hb; rw [am_upN (by decide), hv7 b, if_pos (by simp only [cc, d5] at *; omega)]) | (trace_state; fail))
  have lp63' : ∀ (c : Int) (o2 : Option am_V) (μ : am_N) , (∀ a b, a ≠ 101 → a ≠ 102 → a ≠ 103 → a ≠ 89 → a ≠ 90 → ¬(a = 83 ∧ b = 11) → μ a b = ν a b) → 0 ≤ c → c ≤ 5 → μ 83 11 = ν 103 0 → (∀ r : Nat, r < 4 → μ 89 r = ν 101 r ∧ μ 90 r = ν 102 r) → (∀ b : Nat, μ 101 b = if (((b : Int) < 4 * c) ∨ (4 * c ≤ (b : Int) ∧ (b : Int) < 4 * c + 0)) then ν 101 (b + 4) else ν 101 b) → (∀ b : Nat, μ 102 b = if (((b : Int) < 4 * c) ∨ (4 * c ≤ (b : Int) ∧ (b : Int) < 4 * c + 0)) then ν 102 (b + 4) else ν 102 b) → (∀ b : Nat, μ 103 b = if ((b : Int) < c) then ν 103 (b + 1) else ν 103 b) → am_AW l 0 (fun _ => 0) 180 Q 63 [some (.inr (.inr 83)), some (.inl c), o2] [] μ := fun c o2 μ hv0 hv1 hv2 hv3 hv4 hv5 hv6 hv7 => lp63 ((5 - c) + 1).toNat c o2 μ hv0 hv1 hv2 hv3 hv4 hv5 hv6 hv7 (by omega)
  have lp26 : ∀ (m : Nat) (i : Int) (μ : am_N) , (∀ a b, a ≠ 89 → a ≠ 90 → ¬(a = 83 ∧ b = 11) → μ a b = ν a b) → 0 ≤ i → i ≤ 4 → μ 83 11 = ν 103 0 → (∀ b : Nat, (b : Int) < i → μ 89 b = ν 101 b ∧ μ 90 b = ν 102 b) → 4 - i < (m : Int) → am_AW l 0 (fun _ => 0) 180 Q 26 [some (.inr (.inr 83)), some (.inl i), none] [] μ := by
    intro m
    induction m with
    | zero =>
      intro i μ hv0 hv1 hv2 hv3 hv4 hm
      exfalso
      omega
    | succ m ih =>
      intro i μ hv0 hv1 hv2 hv3 hv4 hm
      have ci : am_c i = i := am_cR (by omega) (by omega)
      have d4 : am_c 4 = 4 := rfl
      refine am_go (ct := fun pc => Nat.beq pc 84 || Nat.beq pc 63 || Nat.beq pc 26) am_oX7_back 200 ?_
      conv => whnf
      repeat' first
        | (refine (?_ : am_wp _ _ _ _ _ _ _ _ _ _ _ _); conv => whnf)
        | (refine (?_ : am_sw _ _ _ _); conv => whnf)
        | refine And.intro trivial ?_
        | exact trivial
        | refine And.intro (fun _ => ?_) (fun z => absurd z c0)
        | refine ih _ _ ?_ ?_ ?_ ?_ ?_ ?_
        | refine lp63' _ _ _ ?_ ?_ ?_ ?_ ?_ ?_ ?_ ?_
        | refine lp84' _ _ _ ?_ ?_ ?_ ?_ ?_ ?_ ?_ ?_ ?_ ?_ ?_
        | refine And.intro (fun h => absurd h (by decide)) (fun _ => ?_)
        | refine And.intro (fun _ => ?_) (fun h => absurd (by decide) h)
        | refine And.intro (fun _ => ?_) (fun _ => ?_)
        | refine And.intro ?_ ?_
      all_goals (first | decide | omega | (simp only [ci, d4] at *; omega) | (intro a b q1 q2 q3; rw [am_upN q2, am_upN q1]; exact hv0 a b q1 q2 q3) | (intro a b q1 q2 q3 q4 q5 q6; exact hv0 a b q4 q5 q6) | (rw [am_upN (by decide), am_upN (by decide)]; exact hv3) | exact hv3 | (intro b hb; by_cases d : (b : Int) = i; (rw [am_upN (by decide), am_upS, if_pos ⟨rfl, by rw [ci]; omega⟩, am_upS, if_pos ⟨rfl, by rw [ci]; omega⟩, am_upN (by decide), hv0 _ _ (by first | decide | omega | exact fun z => absurd z.1 (by decide)) (by first | decide | omega | exact fun z => absurd z.1 (by decide)) (by first | decide | omega | exact fun z => absurd z.1 (by decide)), hv0 _ _ (by first | decide | omega | exact fun z => absurd z.1 (by decide)) (by first | decide | omega | exact fun z => absurd z.1 (by decide)) (by first | decide | omega | exact fun z => absurd z.1 (by decide)), ci, show i.toNat = b by omega]; exact ⟨rfl, rfl⟩); (rw [am_upN (by decide), am_upM (by rw [ci]; omega), am_upM (by rw [ci]; omega)]; exact hv4 b (by omega))) | (intro r hr; exact hv4 r (by simp only [ci, d4] at *; omega)) | (intro b; rw [hv0 _ _ (by first | decide | omega | exact fun z => absurd z.1 (by decide)) (by first | decide | omega | exact fun z => absurd z.1 (by decide)) (by first | decide | omega | exact fun z => absurd z.1 (by decide)), if_neg (by omega)]) | (trace_state; fail))
  have lp26' : ∀ (i : Int) (μ : am_N) , (∀ a b, a ≠ 89 → a ≠ 90 → ¬(a = 83 ∧ b = 11) → μ a b = ν a b) → 0 ≤ i → i ≤ 4 → μ 83 11 = ν 103 0 → (∀ b : Nat, (b : Int) < i → μ 89 b = ν 101 b ∧ μ 90 b = ν 102 b) → am_AW l 0 (fun _ => 0) 180 Q 26 [some (.inr (.inr 83)), some (.inl i), none] [] μ := fun i μ hv0 hv1 hv2 hv3 hv4 => lp26 ((4 - i) + 1).toNat i μ hv0 hv1 hv2 hv3 hv4 (by omega)
  refine am_go (ct := fun pc => Nat.beq pc 84 || Nat.beq pc 63 || Nat.beq pc 26) am_oX7_back 200 ?_
  conv => whnf
  repeat' first
    | (refine (?_ : am_wp _ _ _ _ _ _ _ _ _ _ _ _); conv => whnf)
    | (refine (?_ : am_sw _ _ _ _); conv => whnf)
    | refine And.intro trivial ?_
    | exact trivial
    | refine And.intro (fun _ => ?_) (fun z => absurd z c0)
    | refine lp26' _ _ ?_ ?_ ?_ ?_ ?_
    | refine lp63' _ _ _ ?_ ?_ ?_ ?_ ?_ ?_ ?_ ?_
    | refine lp84' _ _ _ ?_ ?_ ?_ ?_ ?_ ?_ ?_ ?_ ?_ ?_ ?_
    | refine And.intro (fun h => absurd h (by decide)) (fun _ => ?_)
    | refine And.intro (fun _ => ?_) (fun h => absurd (by decide) h)
    | refine And.intro (fun _ => ?_) (fun _ => ?_)
    | refine And.intro ?_ ?_
  all_goals (first | decide | omega | (intro a b q1 q2 q3; exact am_uE q3) | (rw [am_upS, if_pos ⟨rfl, rfl⟩]; rfl) | (intros; omega) | (trace_state; fail))
