theorem x_keepsRun {l : Launch} {ν : am_N} {Q : Option am_V → am_N → Prop} (h0 : 0 ≤ ν 83 33) (h1 : ν 83 33 ≤ 6) (k : ∀ μ' : am_N, (∀ a b, a ≠ 101 → a ≠ 102 → a ≠ 103 → ¬(a = 83 ∧ b = 33) → μ' a b = ν a b) → μ' 83 33 = (if ν 83 33 < 6 then ν 83 33 + 1 else 6) → (∀ r : Nat, r < 4 → μ' 101 r = ν 89 r ∧ μ' 102 r = ν 90 r) → μ' 103 0 = ν 83 11 → (∀ b : Nat, 4 ≤ b → b < 24 → μ' 101 b = ν 101 (b - 4) ∧ μ' 102 b = ν 102 (b - 4)) → (∀ b : Nat, 1 ≤ b → b < 6 → μ' 103 b = ν 103 (b - 1)) → Q none μ') : am_Does l 179 [.inr (.inr 83)] ν Q := by
  refine am_Does_of (Nat.le_of_ble_eq_true rfl) (Nat.le_of_ble_eq_true rfl) (Nat.le_of_ble_eq_true rfl) ?_
  have c6 : am_c (ν 83 33) = ν 83 33 := am_cR (by omega) (by omega)
  have d6 : am_c 6 = 6 := rfl
  have lp95 : ∀ (m : Nat) (i : Int) (o2 : Option am_V) (μ : am_N) , (∀ a b, a ≠ 101 → a ≠ 102 → a ≠ 103 → μ a b = ν a b) → 0 ≤ i → i ≤ 4 → (∀ b : Nat, (b : Int) < i → μ 101 b = ν 89 b ∧ μ 102 b = ν 90 b) → (∀ b : Nat, 4 ≤ b → b < 24 → μ 101 b = ν 101 (b - 4) ∧ μ 102 b = ν 102 (b - 4)) → μ 103 0 = ν 83 11 → (∀ b : Nat, 1 ≤ b → b < 6 → μ 103 b = ν 103 (b - 1)) → 4 - i < (m : Int) → am_AW l 0 (fun _ => 0) 179 Q 95 [some (.inr (.inr 83)), some (.inl i), o2] [] μ := by
    intro m
    induction m with
    | zero =>
      intro i o2 μ hv0 hv1 hv2 hv3 hv4 hv5 hv6 hm
      exfalso
      omega
    | succ m ih =>
      intro i o2 μ hv0 hv1 hv2 hv3 hv4 hv5 hv6 hm
      have ci : am_c i = i := am_cR (by omega) (by omega)
      have d4 : am_c 4 = 4 := rfl
      have e33 : μ 83 33 = ν 83 33 := hv0 83 33 (by decide) (by decide) (by decide)
      have c33 : am_c (μ 83 33) = ν 83 33 := by rw [e33]; exact c6
      refine am_go (ct := fun pc => Nat.beq pc 95 || Nat.beq pc 22 || Nat.beq pc 2) am_oX7_keepsRun 200 ?_
      conv => whnf
      repeat' first
        | (refine (?_ : am_wp _ _ _ _ _ _ _ _ _ _ _ _); conv => whnf)
        | (refine (?_ : am_sw _ _ _ _); conv => whnf)
        | refine And.intro trivial ?_
        | exact trivial
        | refine k _ ?_ ?_ ?_ ?_ ?_ ?_
        | ((with_reducible refine (?_ : am_AW _ _ _ _ _ 95 _ _ _)); refine ih _ _ _ ?_ ?_ ?_ ?_ ?_ ?_ ?_ ?_)
        | refine And.intro (fun h => absurd h (by decide)) (fun _ => ?_)
        | refine And.intro (fun _ => ?_) (fun h => absurd (by decide) h)
        | refine And.intro (fun _ => ?_) (fun _ => ?_)
        | refine And.intro ?_ ?_
      all_goals (first | decide | omega | (simp only [ci, d4] at *; omega) | (intro a b q1 q2 q3; rw [am_upN q2, am_upN q1]; exact hv0 a b q1 q2 q3) | (intro a b q1 q2 q3 q4; rw [am_uE q4]; exact hv0 a b q1 q2 q3) | (intro b hb; by_cases d : (b : Int) = i; (rw [am_upN (by decide), am_upS, if_pos ⟨rfl, by rw [ci]; omega⟩, am_upS, if_pos ⟨rfl, by rw [ci]; omega⟩, am_upN (by decide), hv0 _ _ (by decide) (by decide) (by decide), hv0 _ _ (by decide) (by decide) (by decide), ci, show i.toNat = b by omega]; exact ⟨rfl, rfl⟩); (rw [am_upN (by decide), am_upM (by rw [ci]; omega), am_upM (by rw [ci]; omega)]; exact hv3 b (by omega))) | (intro b q1 q2; rw [am_upN (by decide), am_upM (by rw [ci]; omega), am_upM (by rw [ci]; omega)]; exact hv4 b q1 q2) | (rw [am_upN (by decide), am_upN (by decide)]; exact hv5) | (intro b q1 q2; rw [am_upN (by decide), am_upN (by decide)]; exact hv6 b q1 q2) | (rw [am_upS, if_pos ⟨rfl, rfl⟩]; first | (rw [if_pos (by omega), e33]) | (rw [if_neg (by omega)])) | (intro r hr; rw [am_upN (by decide), am_upN (by decide)]; exact hv3 r (by simp only [ci, d4] at *; omega)) | (rw [am_upN (by decide)]; exact hv5) | (intro b q1 q2; rw [am_upN (by decide)]; exact hv6 b q1 q2) | (intro b q1 q2; rw [am_upN (by decide), am_upN (by decide)]; exact hv4 b q1 q2) | (trace_state; fail))
  have lp95' : ∀ (i : Int) (o2 : Option am_V) (μ : am_N) , (∀ a b, a ≠ 101 → a ≠ 102 → a ≠ 103 → μ a b = ν a b) → 0 ≤ i → i ≤ 4 → (∀ b : Nat, (b : Int) < i → μ 101 b = ν 89 b ∧ μ 102 b = ν 90 b) → (∀ b : Nat, 4 ≤ b → b < 24 → μ 101 b = ν 101 (b - 4) ∧ μ 102 b = ν 102 (b - 4)) → μ 103 0 = ν 83 11 → (∀ b : Nat, 1 ≤ b → b < 6 → μ 103 b = ν 103 (b - 1)) → am_AW l 0 (fun _ => 0) 179 Q 95 [some (.inr (.inr 83)), some (.inl i), o2] [] μ := fun i o2 μ hv0 hv1 hv2 hv3 hv4 hv5 hv6 => lp95 ((4 - i) + 1).toNat i o2 μ hv0 hv1 hv2 hv3 hv4 hv5 hv6 (by omega)
  have lp22 : ∀ (m : Nat) (c i : Int) (μ : am_N) , (∀ a b, a ≠ 101 → a ≠ 102 → a ≠ 103 → μ a b = ν a b) → 1 ≤ c → c ≤ 5 → 0 ≤ i → i ≤ 4 → (∀ b : Nat, μ 101 b = if ((4 * c + 4 ≤ (b : Int) ∧ b < 24) ∨ (4 * c ≤ (b : Int) ∧ (b : Int) < 4 * c + i)) then ν 101 (b - 4) else ν 101 b) → (∀ b : Nat, μ 102 b = if ((4 * c + 4 ≤ (b : Int) ∧ b < 24) ∨ (4 * c ≤ (b : Int) ∧ (b : Int) < 4 * c + i)) then ν 102 (b - 4) else ν 102 b) → (∀ b : Nat, μ 103 b = if ((c - 1) < (b : Int) ∧ b < 6) then ν 103 (b - 1) else ν 103 b) → (∀ (o2 : Option am_V) (μ : am_N), (∀ a b, a ≠ 101 → a ≠ 102 → a ≠ 103 → μ a b = ν a b) → (∀ b : Nat, μ 101 b = if ((4 * (c + -1) + 4 ≤ (b : Int) ∧ b < 24) ∨ (4 * (c + -1) ≤ (b : Int) ∧ (b : Int) < 4 * (c + -1) + 0)) then ν 101 (b - 4) else ν 101 b) → (∀ b : Nat, μ 102 b = if ((4 * (c + -1) + 4 ≤ (b : Int) ∧ b < 24) ∨ (4 * (c + -1) ≤ (b : Int) ∧ (b : Int) < 4 * (c + -1) + 0)) then ν 102 (b - 4) else ν 102 b) → (∀ b : Nat, μ 103 b = if ((c + -1) < (b : Int) ∧ b < 6) then ν 103 (b - 1) else ν 103 b) → am_AW l 0 (fun _ => 0) 179 Q 2 [some (.inr (.inr 83)), some (.inl (c + -1)), o2] [] μ) → 4 - i < (m : Int) → am_AW l 0 (fun _ => 0) 179 Q 22 [some (.inr (.inr 83)), some (.inl c), some (.inl i)] [] μ := by
    intro m
    induction m with
    | zero =>
      intro c i μ hv0 hv1 hv2 hv3 hv4 hv5 hv6 hv7 hv8 hm
      exfalso
      omega
    | succ m ih =>
      intro c i μ hv0 hv1 hv2 hv3 hv4 hv5 hv6 hv7 hv8 hm
      have cc : am_c c = c := am_cR (by omega) (by omega)
      have c1 : am_c (c - 1) = c - 1 := am_cR (by omega) (by omega)
      have d4 : am_c 4 = 4 := rfl
      have d0 : am_c 0 = 0 := rfl
      have ci : am_c i = i := am_cR (by omega) (by omega)
      have x1 : am_c (4 * c + i) = 4 * c + i := am_cR (by omega) (by omega)
      have x2 : am_c (4 * c - 4 + i) = 4 * c - 4 + i := am_cR (by omega) (by omega)
      refine am_go (ct := fun pc => Nat.beq pc 95 || Nat.beq pc 22 || Nat.beq pc 2) am_oX7_keepsRun 200 ?_
      conv => whnf
      repeat' first
        | (refine (?_ : am_wp _ _ _ _ _ _ _ _ _ _ _ _); conv => whnf)
        | (refine (?_ : am_sw _ _ _ _); conv => whnf)
        | refine And.intro trivial ?_
        | exact trivial
        | refine hv8 _ _ ?_ ?_ ?_ ?_
        | ((with_reducible refine (?_ : am_AW _ _ _ _ _ 22 _ _ _)); refine ih _ _ _ ?_ ?_ ?_ ?_ ?_ ?_ ?_ ?_ ?_ ?_)
        | ((with_reducible refine (?_ : am_AW _ _ _ _ _ 95 _ _ _)); refine lp95' _ _ _ ?_ ?_ ?_ ?_ ?_ ?_ ?_)
        | refine And.intro (fun h => absurd h (by decide)) (fun _ => ?_)
        | refine And.intro (fun _ => ?_) (fun h => absurd (by decide) h)
        | refine And.intro (fun _ => ?_) (fun _ => ?_)
        | refine And.intro ?_ ?_
      all_goals (first | decide | omega | (simp only [cc, ci, d4, x1, x2] at *; omega) | (intro a b q1 q2 q3; rw [am_upN q2, am_upN q1]; exact hv0 a b q1 q2 q3) | exact hv0 | (intro b; rw [am_upN (by decide)]; revert b; (intro b; by_cases d : (b : Int) = 4 * c + i; (rw [am_upS, if_pos ⟨rfl, by rw [x1]; omega⟩, if_pos (by omega), x2, hv5, if_neg (by omega), show (4 * c - 4 + i).toNat = b - 4 by omega]); (rw [am_upM (by rw [x1]; omega), hv5 b]; by_cases e : ((4 * c + 4 ≤ (b : Int) ∧ b < 24) ∨ (4 * c ≤ (b : Int) ∧ (b : Int) < 4 * c + i)); (rw [if_pos e, if_pos (by omega)]); (rw [if_neg e, if_neg (by omega)])))) | (intro b; by_cases d : (b : Int) = 4 * c + i; (rw [am_upS, if_pos ⟨rfl, by rw [x1]; omega⟩, if_pos (by omega), x2, am_upN (by decide), hv6, if_neg (by omega), show (4 * c - 4 + i).toNat = b - 4 by omega]); (rw [am_upM (by rw [x1]; omega), am_upN (by decide), hv6 b]; by_cases e : ((4 * c + 4 ≤ (b : Int) ∧ b < 24) ∨ (4 * c ≤ (b : Int) ∧ (b : Int) < 4 * c + i)); (rw [if_pos e, if_pos (by omega)]); (rw [if_neg e, if_neg (by omega)]))) | (intro b; rw [am_upN (by decide), am_upN (by decide)]; exact hv7 b) | exact hv8 | (intro b; rw [hv5 b]; by_cases e : ((4 * c + 4 ≤ (b : Int) ∧ b < 24) ∨ (4 * c ≤ (b : Int) ∧ (b : Int) < 4 * c + i)); (rw [if_pos e, if_pos (by simp only [ci, d4] at *; omega)]); (rw [if_neg e, if_neg (by simp only [ci, d4] at *; omega)])) | (intro b; rw [hv6 b]; by_cases e : ((4 * c + 4 ≤ (b : Int) ∧ b < 24) ∨ (4 * c ≤ (b : Int) ∧ (b : Int) < 4 * c + i)); (rw [if_pos e, if_pos (by simp only [ci, d4] at *; omega)]); (rw [if_neg e, if_neg (by simp only [ci, d4] at *; omega)])) | (intro b; rw [hv7 b, show c + -1 = c - 1 by omega]) | (trace_state; fail))
  have lp22' : ∀ (c i : Int) (μ : am_N) , (∀ a b, a ≠ 101 → a ≠ 102 → a ≠ 103 → μ a b = ν a b) → 1 ≤ c → c ≤ 5 → 0 ≤ i → i ≤ 4 → (∀ b : Nat, μ 101 b = if ((4 * c + 4 ≤ (b : Int) ∧ b < 24) ∨ (4 * c ≤ (b : Int) ∧ (b : Int) < 4 * c + i)) then ν 101 (b - 4) else ν 101 b) → (∀ b : Nat, μ 102 b = if ((4 * c + 4 ≤ (b : Int) ∧ b < 24) ∨ (4 * c ≤ (b : Int) ∧ (b : Int) < 4 * c + i)) then ν 102 (b - 4) else ν 102 b) → (∀ b : Nat, μ 103 b = if ((c - 1) < (b : Int) ∧ b < 6) then ν 103 (b - 1) else ν 103 b) → (∀ (o2 : Option am_V) (μ : am_N), (∀ a b, a ≠ 101 → a ≠ 102 → a ≠ 103 → μ a b = ν a b) → (∀ b : Nat, μ 101 b = if ((4 * (c + -1) + 4 ≤ (b : Int) ∧ b < 24) ∨ (4 * (c + -1) ≤ (b : Int) ∧ (b : Int) < 4 * (c + -1) + 0)) then ν 101 (b - 4) else ν 101 b) → (∀ b : Nat, μ 102 b = if ((4 * (c + -1) + 4 ≤ (b : Int) ∧ b < 24) ∨ (4 * (c + -1) ≤ (b : Int) ∧ (b : Int) < 4 * (c + -1) + 0)) then ν 102 (b - 4) else ν 102 b) → (∀ b : Nat, μ 103 b = if ((c + -1) < (b : Int) ∧ b < 6) then ν 103 (b - 1) else ν 103 b) → am_AW l 0 (fun _ => 0) 179 Q 2 [some (.inr (.inr 83)), some (.inl (c + -1)), o2] [] μ) → am_AW l 0 (fun _ => 0) 179 Q 22 [some (.inr (.inr 83)), some (.inl c), some (.inl i)] [] μ := fun c i μ hv0 hv1 hv2 hv3 hv4 hv5 hv6 hv7 hv8 => lp22 ((4 - i) + 1).toNat c i μ hv0 hv1 hv2 hv3 hv4 hv5 hv6 hv7 hv8 (by omega)
  have lp2 : ∀ (m : Nat) (c : Int) (o2 : Option am_V) (μ : am_N) , (∀ a b, a ≠ 101 → a ≠ 102 → a ≠ 103 → μ a b = ν a b) → 0 ≤ c → c ≤ 5 → (∀ b : Nat, μ 101 b = if ((4 * c + 4 ≤ (b : Int) ∧ b < 24) ∨ (4 * c ≤ (b : Int) ∧ (b : Int) < 4 * c + 0)) then ν 101 (b - 4) else ν 101 b) → (∀ b : Nat, μ 102 b = if ((4 * c + 4 ≤ (b : Int) ∧ b < 24) ∨ (4 * c ≤ (b : Int) ∧ (b : Int) < 4 * c + 0)) then ν 102 (b - 4) else ν 102 b) → (∀ b : Nat, μ 103 b = if (c < (b : Int) ∧ b < 6) then ν 103 (b - 1) else ν 103 b) → c < (m : Int) → am_AW l 0 (fun _ => 0) 179 Q 2 [some (.inr (.inr 83)), some (.inl c), o2] [] μ := by
    intro m
    induction m with
    | zero =>
      intro c o2 μ hv0 hv1 hv2 hv3 hv4 hv5 hm
      exfalso
      omega
    | succ m ih =>
      intro c o2 μ hv0 hv1 hv2 hv3 hv4 hv5 hm
      have cc : am_c c = c := am_cR (by omega) (by omega)
      have c1 : am_c (c - 1) = c - 1 := am_cR (by omega) (by omega)
      have d4 : am_c 4 = 4 := rfl
      have d0 : am_c 0 = 0 := rfl
      refine am_go (ct := fun pc => Nat.beq pc 95 || Nat.beq pc 22 || Nat.beq pc 2) am_oX7_keepsRun 200 ?_
      conv => whnf
      repeat' first
        | (refine (?_ : am_wp _ _ _ _ _ _ _ _ _ _ _ _); conv => whnf)
        | (refine (?_ : am_sw _ _ _ _); conv => whnf)
        | refine And.intro trivial ?_
        | exact trivial
        | ((with_reducible refine (?_ : am_AW _ _ _ _ _ 2 _ _ _)); refine ih _ _ _ ?_ ?_ ?_ ?_ ?_ ?_ ?_)
        | ((with_reducible refine (?_ : am_AW _ _ _ _ _ 22 _ _ _)); refine lp22' _ _ _ ?_ ?_ ?_ ?_ ?_ ?_ ?_ ?_ ?_)
        | ((with_reducible refine (?_ : am_AW _ _ _ _ _ 95 _ _ _)); refine lp95' _ _ _ ?_ ?_ ?_ ?_ ?_ ?_ ?_)
        | refine And.intro (fun h => absurd h (by decide)) (fun _ => ?_)
        | refine And.intro (fun _ => ?_) (fun h => absurd (by decide) h)
        | refine And.intro (fun _ => ?_) (fun _ => ?_)
        | refine And.intro ?_ ?_
      all_goals (first | decide | omega | (simp only [cc, d0] at *; omega) | exact hv0 | (intro a b q1 q2 q3; rw [am_upN q3]; exact hv0 a b q1 q2 q3) | (intro b; rw [am_upN (by decide)]; exact hv3 b) | (intro b; rw [am_upN (by decide)]; exact hv4 b) | (intro b; by_cases d : (b : Int) = c; (rw [am_upS, if_pos ⟨rfl, by rw [cc]; omega⟩, if_pos (by omega), c1, hv5, if_neg (by omega), show (c - 1).toNat = b - 1 by omega]); (rw [am_upM (by rw [cc]; omega), hv5 b]; by_cases e : (c < (b : Int) ∧ b < 6); (rw [if_pos e, if_pos (by omega)]); (rw [if_neg e, if_neg (by omega)]))) | (intros; refine ih _ _ _ ?_ ?_ ?_ ?_ ?_ ?_ ?_ <;> first | assumption | omega) | (intro b hb; omega) | (intro b q1 q2; rw [am_upN (by decide), am_upN (by decide), hv3 b, hv4 b, if_pos (by simp only [cc, d0] at *; omega), if_pos (by simp only [cc, d0] at *; omega)]; exact ⟨rfl, rfl⟩) | (rw [am_upS, if_pos ⟨rfl, rfl⟩]; exact hv0 _ _ (by decide) (by decide) (by decide)) | (intro b q1 q2; rw [am_upM (by simp only [d0]; omega), hv5 b, if_pos (by simp only [cc, d0] at *; omega)]) | (trace_state; fail))
  have lp2' : ∀ (c : Int) (o2 : Option am_V) (μ : am_N) , (∀ a b, a ≠ 101 → a ≠ 102 → a ≠ 103 → μ a b = ν a b) → 0 ≤ c → c ≤ 5 → (∀ b : Nat, μ 101 b = if ((4 * c + 4 ≤ (b : Int) ∧ b < 24) ∨ (4 * c ≤ (b : Int) ∧ (b : Int) < 4 * c + 0)) then ν 101 (b - 4) else ν 101 b) → (∀ b : Nat, μ 102 b = if ((4 * c + 4 ≤ (b : Int) ∧ b < 24) ∨ (4 * c ≤ (b : Int) ∧ (b : Int) < 4 * c + 0)) then ν 102 (b - 4) else ν 102 b) → (∀ b : Nat, μ 103 b = if (c < (b : Int) ∧ b < 6) then ν 103 (b - 1) else ν 103 b) → am_AW l 0 (fun _ => 0) 179 Q 2 [some (.inr (.inr 83)), some (.inl c), o2] [] μ := fun c o2 μ hv0 hv1 hv2 hv3 hv4 hv5 => lp2 ((c) + 1).toNat c o2 μ hv0 hv1 hv2 hv3 hv4 hv5 (by omega)
  refine am_go (ct := fun pc => Nat.beq pc 95 || Nat.beq pc 22 || Nat.beq pc 2) am_oX7_keepsRun 200 ?_
  conv => whnf
  repeat' first
    | (refine (?_ : am_wp _ _ _ _ _ _ _ _ _ _ _ _); conv => whnf)
    | (refine (?_ : am_sw _ _ _ _); conv => whnf)
    | refine And.intro trivial ?_
    | exact trivial
    | ((with_reducible refine (?_ : am_AW _ _ _ _ _ 2 _ _ _)); refine lp2' _ _ _ ?_ ?_ ?_ ?_ ?_ ?_)
    | ((with_reducible refine (?_ : am_AW _ _ _ _ _ 22 _ _ _)); refine lp22' _ _ _ ?_ ?_ ?_ ?_ ?_ ?_ ?_ ?_ ?_)
    | ((with_reducible refine (?_ : am_AW _ _ _ _ _ 95 _ _ _)); refine lp95' _ _ _ ?_ ?_ ?_ ?_ ?_ ?_ ?_)
    | refine And.intro (fun h => absurd h (by decide)) (fun _ => ?_)
    | refine And.intro (fun _ => ?_) (fun h => absurd (by decide) h)
    | refine And.intro (fun _ => ?_) (fun _ => ?_)
    | refine And.intro ?_ ?_
  all_goals (first | decide | omega | exact fun _ _ _ _ _ => rfl | (intro b; rw [if_neg (by omega)]) | (intros; omega) | (trace_state; fail))
