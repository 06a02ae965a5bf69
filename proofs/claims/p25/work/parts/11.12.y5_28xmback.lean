theorem x_mback {l : Launch} {ν : am_N} {Q : Option am_V → am_N → Prop} (h0 : 0 < ν 83 33) (h1 : ν 83 33 ≤ 6) (k : ∀ μ' : am_N, (∀ a b, a ≠ 101 → a ≠ 102 → a ≠ 103 → a ≠ 89 → a ≠ 90 → ¬(a = 83 ∧ b = 11) → ¬(a = 83 ∧ b = 33) → μ' a b = ν a b) → μ' 83 33 = ν 83 33 - 1 → μ' 83 11 = ν 103 0 → (∀ r : Nat, r < 4 → μ' 89 r = ν 101 r ∧ μ' 90 r = ν 102 r) → (∀ b : Nat, b < 20 → μ' 101 b = ν 101 (b + 4) ∧ μ' 102 b = ν 102 (b + 4)) → (∀ b : Nat, b < 5 → μ' 103 b = ν 103 (b + 1)) → Q (some (.inl (ν 83 33 - 1))) μ') : am_Does l 180 [.inr (.inr 83)] ν Q := by
  refine am_Does_of (Nat.le_of_ble_eq_true rfl) (Nat.le_of_ble_eq_true rfl) (Nat.le_of_ble_eq_true rfl) ?_
  have c0 : am_c (ν 83 33) ≠ 0 := by rw [am_cR (by omega) (by omega)]; omega
  have kk := fun (μ' : am_N) (x : Int) a1 a2 a3 a4 a5 a6 (e : x = ν 83 33 - 1) => am_qe (k μ' a1 a2 a3 a4 a5 a6) e
  have lp84 : ∀ (m : Nat) (c i : Int) (μ : am_N) , (∀ a b, a ≠ 101 → a ≠ 102 → a ≠ 103 → a ≠ 89 → a ≠ 90 → ¬(a = 83 ∧ b = 11) → μ a b = ν a b) → 0 ≤ c → c ≤ 4 → 0 ≤ i → i ≤ 4 → μ 83 11 = ν 103 0 → (∀ r : Nat, r < 4 → μ 89 r = ν 101 r ∧ μ 90 r = ν 102 r) → (∀ b : Nat, μ 101 b = if (((b : Int) < 4 * c) ∨ (4 * c ≤ (b : Int) ∧ (b : Int) < 4 * c + i)) then ν 101 (b + 4) else ν 101 b) → (∀ b : Nat, μ 102 b = if (((b : Int) < 4 * c) ∨ (4 * c ≤ (b : Int) ∧ (b : Int) < 4 * c + i)) then ν 102 (b + 4) else ν 102 b) → (∀ b : Nat, μ 103 b = if ((b : Int) < (c + 1)) then ν 103 (b + 1) else ν 103 b) → (∀ (o2 : Option am_V) (μ : am_N), (∀ a b, a ≠ 101 → a ≠ 102 → a ≠ 103 → a ≠ 89 → a ≠ 90 → ¬(a = 83 ∧ b = 11) → μ a b = ν a b) → μ 83 11 = ν 103 0 → (∀ r : Nat, r < 4 → μ 89 r = ν 101 r ∧ μ 90 r = ν 102 r) → (∀ b : Nat, μ 101 b = if (((b : Int) < 4 * (c + 1)) ∨ (4 * (c + 1) ≤ (b : Int) ∧ (b : Int) < 4 * (c + 1) + 0)) then ν 101 (b + 4) else ν 101 b) → (∀ b : Nat, μ 102 b = if (((b : Int) < 4 * (c + 1)) ∨ (4 * (c + 1) ≤ (b : Int) ∧ (b : Int) < 4 * (c + 1) + 0)) then ν 102 (b + 4) else ν 102 b) → (∀ b : Nat, μ 103 b = if ((b : Int) < (c + 1)) then ν 103 (b + 1) else ν 103 b) → am_AW l 0 (fun _ => 0) 180 Q 63 [some (.inr (.inr 83)), some (.inl (c + 1)), o2] [] μ) → 4 - i < (m : Int) → am_AW l 0 (fun _ => 0) 180 Q 84 [some (.inr (.inr 83)), some (.inl c), some (.inl i)] [] μ := by
    intro m
    induction m with
    | zero =>
      intro c i μ hv0 hv1 hv2 hv3 hv4 hv5 hv6 hv7 hv8 hv9 hv10 hm
      exfalso
      omega
    | succ m ih =>
      intro c i μ hv0 hv1 hv2 hv3 hv4 hv5 hv6 hv7 hv8 hv9 hv10 hm
      have cc : am_c c = c := am_cR (by omega) (by omega)
      have c1 : am_c (c + 1) = c + 1 := am_cR (by omega) (by omega)
      have d4 : am_c 4 = 4 := rfl
      have d5 : am_c 5 = 5 := rfl
      have d0 : am_c 0 = 0 := rfl
      have ci : am_c i = i := am_cR (by omega) (by omega)
      have x1 : am_c (4 * c + i) = 4 * c + i := am_cR (by omega) (by omega)
      have x2 : am_c (4 * c + 4 + i) = 4 * c + 4 + i := am_cR (by omega) (by omega)
      refine am_go (ct := fun pc => Nat.beq pc 84 || Nat.beq pc 63 || Nat.beq pc 26) am_oX7_back 200 ?_
      conv => whnf
      repeat' first
        | (refine (?_ : am_wp _ _ _ _ _ _ _ _ _ _ _ _); conv => whnf)
        | (refine (?_ : am_sw _ _ _ _); conv => whnf)
        | refine And.intro trivial ?_
        | exact trivial
        | refine hv10 _ _ ?_ ?_ ?_ ?_ ?_ ?_
        | refine And.intro (fun _ => ?_) (fun z => absurd z c0)
        | ((with_reducible refine (?_ : am_AW _ _ _ _ _ 84 _ _ _)); refine ih _ _ _ ?_ ?_ ?_ ?_ ?_ ?_ ?_ ?_ ?_ ?_ ?_ ?_)
        | refine And.intro (fun h => absurd h (by decide)) (fun _ => ?_)
        | refine And.intro (fun _ => ?_) (fun h => absurd (by decide) h)
        | refine And.intro (fun _ => ?_) (fun _ => ?_)
        | refine And.intro ?_ ?_
      all_goals (first | decide | omega | (simp only [cc, ci, d4, x1, x2] at *; omega) | (intro a b q1 q2 q3 q4 q5 q6; rw [am_upN q2, am_upN q1]; exact hv0 a b q1 q2 q3 q4 q5 q6) | exact hv0 | (rw [am_upN (by decide), am_upN (by decide)]; exact hv5) | exact hv5 | (intro r hr; rw [am_upN (by decide), am_upN (by decide), am_upN (by decide), am_upN (by decide)]; exact hv6 r hr) | exact hv6 | (intro b; rw [am_upN (by decide)]; revert b; (intro b; by_cases d : (b : Int) = 4 * c + i; (rw [am_upS, if_pos ⟨rfl, by rw [x1]; omega⟩, if_pos (by omega), x2, hv7, if_neg (by omega), show (4 * c + 4 + i).toNat = b + 4 by omega]); (rw [am_upM (by rw [x1]; omega), hv7 b]; by_cases e : (((b : Int) < 4 * c) ∨ (4 * c ≤ (b : Int) ∧ (b : Int) < 4 * c + i)); (rw [if_pos e, if_pos (by omega)]); (rw [if_neg e, if_neg (by omega)])))) | (intro b; by_cases d : (b : Int) = 4 * c + i; (rw [am_upS, if_pos ⟨rfl, by rw [x1]; omega⟩, if_pos (by omega), x2, am_upN (by decide), hv8, if_neg (by omega), show (4 * c + 4 + i).toNat = b + 4 by omega]); (rw [am_upM (by rw [x1]; omega), am_upN (by decide), hv8 b]; by_cases e : (((b : Int) < 4 * c) ∨ (4 * c ≤ (b : Int) ∧ (b : Int) < 4 * c + i)); (rw [if_pos e, if_pos (by omega)]); (rw [if_neg e, if_neg (by omega)]))) | (intro b; rw [am_upN (by decide), am_upN (by decide)]; exact hv9 b) | exact hv9 | exact hv10 | (intro b; rw [hv7 b]; by_cases e : (((b : Int) < 4 * c) ∨ (4 * c ≤ (b : Int) ∧ (b : Int) < 4 * c + i)); (rw [if_pos e, if_pos (by simp only [ci, d4] at *; omega)]); (rw [if_neg e, if_neg (by simp only [ci, d4] at *; omega)])) | (intro b; rw [hv8 b]; by_cases e : (((b : Int) < 4 * c) ∨ (4 * c ≤ (b : Int) ∧ (b : Int) < 4 * c + i)); (rw [if_pos e, if_pos (by simp only [ci, d4] at *; omega)]); (rw [if_neg e, if_neg (by simp only [ci, d4] at *; omega)])) | (trace_state; fail))
  have lp84' : ∀ (c i : Int) (μ : am_N) , (∀ a b, a ≠ 101 → a ≠ 102 → a ≠ 103 → a ≠ 89 → a ≠ 90 → ¬(a = 83 ∧ b = 11) → μ a b = ν a b) → 0 ≤ c → c ≤ 4 → 0 ≤ i → i ≤ 4 → μ 83 11 = ν 103 0 → (∀ r : Nat, r < 4 → μ 89 r = ν 101 r ∧ μ 90 r = ν 102 r) → (∀ b : Nat, μ 101 b = if (((b : Int) < 4 * c) ∨ (4 * c ≤ (b : Int) ∧ (b : Int) < 4 * c + i)) then ν 101 (b + 4) else ν 101 b) → (∀ b : Nat, μ 102 b = if (((b : Int) < 4 * c) ∨ (4 * c ≤ (b : Int) ∧ (b : Int) < 4 * c + i)) then ν 102 (b + 4) else ν 102 b) → (∀ b : Nat, μ 103 b = if ((b : Int) < (c + 1)) then ν 103 (b + 1) else ν 103 b) → (∀ (o2 : Option am_V) (μ : am_N), (∀ a b, a ≠ 101 → a ≠ 102 → a ≠ 103 → a ≠ 89 → a ≠ 90 → ¬(a = 83 ∧ b = 11) → μ a b = ν a b) → μ 83 11 = ν 103 0 → (∀ r : Nat, r < 4 → μ 89 r = ν 101 r ∧ μ 90 r = ν 102 r) → (∀ b : Nat, μ 101 b = if (((b : Int) < 4 * (c + 1)) ∨ (4 * (c + 1) ≤ (b : Int) ∧ (b : Int) < 4 * (c + 1) + 0)) then ν 101 (b + 4) else ν 101 b) → (∀ b : Nat, μ 102 b = if (((b : Int) < 4 * (c + 1)) ∨ (4 * (c + 1) ≤ (b : Int) ∧ (b : Int) < 4 * (c + 1) + 0)) then ν 102 (b + 4) else ν 102 b) → (∀ b : Nat, μ 103 b = if ((b : Int) < (c + 1)) then ν 103 (b + 1) else ν 103 b) → am_AW l 0 (fun _ => 0) 180 Q 63 [some (.inr (.inr 83)), some (.inl (c + 1)), o2] [] μ) → am_AW l 0 (fun _ => 0) 180 Q 84 [some (.inr (.inr 83)), some (.inl c), some (.inl i)] [] μ := fun c i μ hv0 hv1 hv2 hv3 hv4 hv5 hv6 hv7 hv8 hv9 hv10 => lp84 ((4 - i) + 1).toNat c i μ hv0 hv1 hv2 hv3 hv4 hv5 hv6 hv7 hv8 hv9 hv10 (by omega)
  have lp63 : ∀ (m : Nat) (c : Int) (o2 : Option am_V) (μ : am_N) , (∀ a b, a ≠ 101 → a ≠ 102 → a ≠ 103 → a ≠ 89 → a ≠ 90 → ¬(a = 83 ∧ b = 11) → μ a b = ν a b) → 0 ≤ c → c ≤ 5 → μ 83 11 = ν 103 0 → (∀ r : Nat, r < 4 → μ 89 r = ν 101 r ∧ μ 90 r = ν 102 r) → (∀ b : Nat, μ 101 b = if (((b : Int) < 4 * c) ∨ (4 * c ≤ (b : Int) ∧ (b : Int) < 4 * c + 0)) then ν 101 (b + 4) else ν 101 b) → (∀ b : Nat, μ 102 b = if (((b : Int) < 4 * c) ∨ (4 * c ≤ (b : Int) ∧ (b : Int) < 4 * c + 0)) then ν 102 (b + 4) else ν 102 b) → (∀ b : Nat, μ 103 b = if ((b : Int) < c) then ν 103 (b + 1) else ν 103 b) → 5 - c < (m : Int) → am_AW l 0 (fun _ => 0) 180 Q 63 [some (.inr (.inr 83)), some (.inl c), o2] [] μ := by
    intro m
    induction m with
    | zero =>
      intro c o2 μ hv0 hv1 hv2 hv3 hv4 hv5 hv6 hv7 hm
      exfalso
      omega
    | succ m ih =>
      intro c o2 μ hv0 hv1 hv2 hv3 hv4 hv5 hv6 hv7 hm
      have cc : am_c c = c := am_cR (by omega) (by omega)
      have c1 : am_c (c + 1) = c + 1 := am_cR (by omega) (by omega)
      have d4 : am_c 4 = 4 := rfl
      have d5 : am_c 5 = 5 := rfl
      have d0 : am_c 0 = 0 := rfl
      have e33 : μ 83 33 = ν 83 33 := hv0 83 33 (by decide) (by decide) (by decide) (by decide) (by decide) (by decide)
      refine am_go (ct := fun pc => Nat.beq pc 84 || Nat.beq pc 63 || Nat.beq pc 26) am_oX7_back 200 ?_
      conv => whnf
      repeat' first
        | (refine (?_ : am_wp _ _ _ _ _ _ _ _ _ _ _ _); conv => whnf)
        | (refine (?_ : am_sw _ _ _ _); conv => whnf)
        | refine And.intro trivial ?_
        | exact trivial
        | refine kk _ _ ?_ ?_ ?_ ?_ ?_ ?_ ?_
        | refine And.intro (fun _ => ?_) (fun z => absurd z c0)
        | ((with_reducible refine (?_ : am_AW _ _ _ _ _ 63 _ _ _)); refine ih _ _ _ ?_ ?_ ?_ ?_ ?_ ?_ ?_ ?_ ?_)
        | ((with_reducible refine (?_ : am_AW _ _ _ _ _ 84 _ _ _)); refine lp84' _ _ _ ?_ ?_ ?_ ?_ ?_ ?_ ?_ ?_ ?_ ?_ ?_)
        | refine And.intro (fun h => absurd h (by decide)) (fun _ => ?_)
        | refine And.intro (fun _ => ?_) (fun h => absurd (by decide) h)
        | refine And.intro (fun _ => ?_) (fun _ => ?_)
        | refine And.intro ?_ ?_
      all_goals (first | decide | omega | (simp only [cc, d0, d5] at *; omega) | exact hv0 | (intro a b q1 q2 q3 q4 q5 q6; rw [am_upN q3]; exact hv0 a b q1 q2 q3 q4 q5 q6) | (intro a b q1 q2 q3 q4 q5 q6 q7; rw [am_uE q7]; exact hv0 a b q1 q2 q3 q4 q5 q6) | (rw [am_upS, if_pos ⟨rfl, rfl⟩, e33]) | (rw [am_upN (by decide)]; exact hv3) | (rw [am_upM (by decide)]; exact hv3) | (intro r hr; rw [am_upN (by decide), am_upN (by decide)]; exact hv4 r hr) | (intro b; rw [am_upN (by decide)]; exact hv5 b) | (intro b; rw [am_upN (by decide)]; exact hv6 b) | (intro b; by_cases d : (b : Int) = c; (rw [am_upS, if_pos ⟨rfl, by rw [cc]; omega⟩, if_pos (by omega), c1, hv7, if_neg (by omega), show (c + 1).toNat = b + 1 by omega]); (rw [am_upM (by rw [cc]; omega), hv7 b]; by_cases e : ((b : Int) < c); (rw [if_pos e, if_pos (by omega)]); (rw [if_neg e, if_neg (by omega)]))) | (intros; refine ih _ _ _ ?_ ?_ ?_ ?_ ?_ ?_ ?_ ?_ ?_ <;> first | assumption | omega) | (intro b hb; rw [am_upN (by decide), am_upN (by decide), hv5 b, hv6 b, if_pos (by simp only [cc, d5] at *; omega), if_pos (by simp only [cc, d5] at *; omega)]; exact ⟨rfl, rfl⟩) | (intro b hb; rw [am_upN (by decide), hv7 b, if_pos (by simp only [cc, d5] at *; omega)]) | (trace_state; fail))
  have lp63' : ∀ (c : Int) (o2 : Option am_V) (μ : am_N) , (∀ a b, a ≠ 101 → a ≠ 102 → a ≠ 103 → a ≠ 89 → a ≠ 90 → ¬(a = 83 ∧ b = 11) → μ a b = ν a b) → 0 ≤ c → c ≤ 5 → μ 83 11 = ν 103 0 → (∀ r : Nat, r < 4 → μ 89 r = ν 101 r ∧ μ 90 r = ν 102 r) → (∀ b : Nat, μ 101 b = if (((b : Int) < 4 * c) ∨ (4 * c ≤ (b : Int) ∧ (b : Int) < 4 * c + 0)) then ν 101 (b + 4) else ν 101 b) → (∀ b : Nat, μ 102 b = if (((b : Int) < 4 * c) ∨ (4 * c ≤ (b : Int) ∧ (b : Int) < 4 * c + 0)) then ν 102 (b + 4) else ν 102 b) → (∀ b : Nat, μ 103 b = if ((b : Int) < c) then ν 103 (b + 1) else ν 103 b) → am_AW l 0 (fun _ => 0) 180 Q 63 [some (.inr (.inr 83)), some (.inl c), o2] [] μ := fun c o2 μ hv0 hv1 hv2 hv3 hv4 hv5 hv6 hv7 => lp63 ((5 - c) + 1).toNat c o2 μ hv0 hv1 hv2 hv3 hv4 hv5 hv6 hv7 (by omega)
  have lp26 : ∀ (m : Nat) (i : Int) (μ : am_N) , (∀ a b, a ≠ 89 → a ≠ 90 → ¬(a = 83 ∧ b = 11) → μ a b = ν a b) → 0 ≤ i → i ≤ 4 → μ 83 11 = ν 103 0 → (∀ b : Nat, (b : Int) < i → μ 89 b = ν 101 b ∧ μ 90 b = ν 102 b) → 4 - i < (m : Int) → am_AW l 0 (fun _ => 0) 180 Q 26 [some (.inr (.inr 83)), some (.inl i), none] [] μ := by
    intro m
    induction m with
    | zero =>
      intro i μ hv0 hv1 hv2 hv3 hv4 hm
      exfalso
      omega
    | succ m ih =>
      intro i μ hv0 hv1 hv2 hv3 hv4 hm
      have ci : am_c i = i := am_cR (by omega) (by omega)
      have d4 : am_c 4 = 4 := rfl
      refine am_go (ct := fun pc => Nat.beq pc 84 || Nat.beq pc 63 || Nat.beq pc 26) am_oX7_back 200 ?_
      conv => whnf
      repeat' first
        | (refine (?_ : am_wp _ _ _ _ _ _ _ _ _ _ _ _); conv => whnf)
        | (refine (?_ : am_sw _ _ _ _); conv => whnf)
        | refine And.intro trivial ?_
        | exact trivial
        | refine And.intro (fun _ => ?_) (fun z => absurd z c0)
        | ((with_reducible refine (?_ : am_AW _ _ _ _ _ 26 _ _ _)); refine ih _ _ ?_ ?_ ?_ ?_ ?_ ?_)
        | ((with_reducible refine (?_ : am_AW _ _ _ _ _ 63 _ _ _)); refine lp63' _ _ _ ?_ ?_ ?_ ?_ ?_ ?_ ?_ ?_)
        | ((with_reducible refine (?_ : am_AW _ _ _ _ _ 84 _ _ _)); refine lp84' _ _ _ ?_ ?_ ?_ ?_ ?_ ?_ ?_ ?_ ?_ ?_ ?_)
        | refine And.intro (fun h => absurd h (by decide)) (fun _ => ?_)
        | refine And.intro (fun _ => ?_) (fun h => absurd (by decide) h)
        | refine And.intro (fun _ => ?_) (fun _ => ?_)
        | refine And.intro ?_ ?_
      all_goals (first | decide | omega | (simp only [ci, d4] at *; omega) | (intro a b q1 q2 q3; rw [am_upN q2, am_upN q1]; exact hv0 a b q1 q2 q3) | (intro a b q1 q2 q3 q4 q5 q6; exact hv0 a b q4 q5 q6) | (rw [am_upN (by decide), am_upN (by decide)]; exact hv3) | exact hv3 | (intro b hb; by_cases d : (b : Int) = i; (rw [am_upN (by decide), am_upS, if_pos ⟨rfl, by rw [ci]; omega⟩, am_upS, if_pos ⟨rfl, by rw [ci]; omega⟩, am_upN (by decide), hv0 _ _ (by first | decide | omega | exact fun z => absurd z.1 (by decide)) (by first | decide | omega | exact fun z => absurd z.1 (by decide)) (by first | decide | omega | exact fun z => absurd z.1 (by decide)), hv0 _ _ (by first | decide | omega | exact fun z => absurd z.1 (by decide)) (by first | decide | omega | exact fun z => absurd z.1 (by decide)) (by first | decide | omega | exact fun z => absurd z.1 (by decide)), ci, show i.toNat = b by omega]; exact ⟨rfl, rfl⟩); (rw [am_upN (by decide), am_upM (by rw [ci]; omega), am_upM (by rw [ci]; omega)]; exact hv4 b (by omega))) | (intro r hr; exact hv4 r (by simp only [ci, d4] at *; omega)) | (intro b; rw [hv0 _ _ (by first | decide | omega | exact fun z => absurd z.1 (by decide)) (by first | decide | omega | exact fun z => absurd z.1 (by decide)) (by first | decide | omega | exact fun z => absurd z.1 (by decide)), if_neg (by omega)]) | (trace_state; fail))
  have lp26' : ∀ (i : Int) (μ : am_N) , (∀ a b, a ≠ 89 → a ≠ 90 → ¬(a = 83 ∧ b = 11) → μ a b = ν a b) → 0 ≤ i → i ≤ 4 → μ 83 11 = ν 103 0 → (∀ b : Nat, (b : Int) < i → μ 89 b = ν 101 b ∧ μ 90 b = ν 102 b) → am_AW l 0 (fun _ => 0) 180 Q 26 [some (.inr (.inr 83)), some (.inl i), none] [] μ := fun i μ hv0 hv1 hv2 hv3 hv4 => lp26 ((4 - i) + 1).toNat i μ hv0 hv1 hv2 hv3 hv4 (by omega)
  refine am_go (ct := fun pc => Nat.beq pc 84 || Nat.beq pc 63 || Nat.beq pc 26) am_oX7_back 200 ?_
  conv => whnf
  repeat' first
    | (refine (?_ : am_wp _ _ _ _ _ _ _ _ _ _ _ _); conv => whnf)
    | (refine (?_ : am_sw _ _ _ _); conv => whnf)
    | refine And.intro trivial ?_
    | exact trivial
    | refine And.intro (fun _ => ?_) (fun z => absurd z c0)
    | ((with_reducible refine (?_ : am_AW _ _ _ _ _ 26 _ _ _)); refine lp26' _ _ ?_ ?_ ?_ ?_ ?_)
    | ((with_reducible refine (?_ : am_AW _ _ _ _ _ 63 _ _ _)); refine lp63' _ _ _ ?_ ?_ ?_ ?_ ?_ ?_ ?_ ?_)
    | ((with_reducible refine (?_ : am_AW _ _ _ _ _ 84 _ _ _)); refine lp84' _ _ _ ?_ ?_ ?_ ?_ ?_ ?_ ?_ ?_ ?_ ?_ ?_)
    | refine And.intro (fun h => absurd h (by decide)) (fun _ => ?_)
    | refine And.intro (fun _ => ?_) (fun h => absurd (by decide) h)
    | refine And.intro (fun _ => ?_) (fun _ => ?_)
    | refine And.intro ?_ ?_
  all_goals (first | decide | omega | (intro a b q1 q2 q3; exact am_uE q3) | (rw [am_upS, if_pos ⟨rfl, rfl⟩]; rfl) | (intros; omega) | (trace_state; fail))
