/-! a field taken, exactly -/
theorem x_tS_8_1 {l : Launch} {ν : am_N} {Q : Option am_V → am_N → Prop} (k : ∀ μ' : am_N, (∀ a b, ¬(a = 8 ∧ b < 4) → μ' a b = ν a b) → (∀ b : Nat, b < 4 → μ' 8 b = ν 1 b) → Q none μ') : am_Does l 4 [.inr (.inr 8), .inr (.inr 1)] ν Q := by
  refine am_Does_of (Nat.le_of_ble_eq_true rfl) (Nat.le_of_ble_eq_true rfl) (Nat.le_of_ble_eq_true rfl) ?_
  refine am_go (ct := fun _ => false) am_oX0_takeSettings 300 ?_
  conv => whnf
  repeat' first
    | (refine (?_ : am_wp _ _ _ _ _ _ _ _ _ _ _ _); conv => whnf)
    | (refine (?_ : am_sw _ _ _ _); conv => whnf)
    | refine And.intro trivial ?_
    | exact trivial
    | refine k _ ?_ ?_
    | refine And.intro (fun h => absurd h (by decide)) (fun _ => ?_)
    | refine And.intro (fun _ => ?_) (fun h => absurd (by decide) h)
    | refine And.intro (fun _ => ?_) (fun _ => ?_)
    | refine And.intro ?_ ?_
  all_goals (first | decide | rfl | (intro a b h; rw [am_upS, if_neg (by omega), am_upS, if_neg (by omega), am_upS, if_neg (by omega), am_upS, if_neg (by omega)]) | (intro b hb; rcases (show b = 0 ∨ b = 1 ∨ b = 2 ∨ b = 3 by omega) with rfl | rfl | rfl | rfl <;> rfl) | (trace_state; fail))
theorem x_tR_8_1 {l : Launch} {ν : am_N} {Q : Option am_V → am_N → Prop} (i j : Int) (i0 : 0 ≤ i) (i1 : i < 4) (j0 : 0 ≤ j) (j1 : j < 4) (k : ∀ μ' : am_N, (∀ a b, ¬((8 < a ∧ a < 15) ∧ b = i.toNat) → μ' a b = ν a b) → (∀ a : Nat, 0 < a → a < 7 → μ' (8 + a) i.toNat = ν (1 + a) j.toNat) → Q none μ') : am_Does l 5 [.inr (.inr 8), .inl i, .inr (.inr 1), .inl j] ν Q := by
  refine am_Does_of (Nat.le_of_ble_eq_true rfl) (Nat.le_of_ble_eq_true rfl) (Nat.le_of_ble_eq_true rfl) ?_
  have ci : am_c i = i := am_cR (by omega) (by omega)
  have cj : am_c j = j := am_cR (by omega) (by omega)
  have c0 : am_c 0 = 0 := rfl
  have c4 : am_c 4 = 4 := rfl
  refine am_go (ct := fun _ => false) am_oX0_takeRunner 300 ?_
  conv => whnf
  repeat' first
    | (refine (?_ : am_wp _ _ _ _ _ _ _ _ _ _ _ _); conv => whnf)
    | (refine (?_ : am_sw _ _ _ _); conv => whnf)
    | refine And.intro trivial ?_
    | exact trivial
    | refine k _ ?_ ?_
    | refine And.intro (fun h => absurd h (by decide)) (fun _ => ?_)
    | refine And.intro (fun _ => ?_) (fun h => absurd (by decide) h)
    | refine And.intro (fun _ => ?_) (fun _ => ?_)
    | refine And.intro ?_ ?_
  all_goals (first | decide | omega | (simp only [ci, cj, c0, c4] at *; omega) | (intro a b h; simp only [ci]; rw [am_upS, if_neg (by omega), am_upS, if_neg (by omega), am_upS, if_neg (by omega), am_upS, if_neg (by omega), am_upS, if_neg (by omega), am_upS, if_neg (by omega)]) | (intro a h0 h1; simp only [ci, cj]; rcases (show a = 1 ∨ a = 2 ∨ a = 3 ∨ a = 4 ∨ a = 5 ∨ a = 6 by omega) with rfl | rfl | rfl | rfl | rfl | rfl <;> simp [am_up]) | (exfalso; simp only [ci, cj, c0, c4] at *; omega) | (trace_state; fail))
theorem x_take_8_1 {l : Launch} {ν : am_N} {Q : Option am_V → am_N → Prop} (k : ∀ μ' : am_N, (∀ a b, ¬(8 ≤ a ∧ a < 15) → μ' a b = ν a b) → (∀ b : Nat, b < 5 → μ' 8 b = ν 1 b) → (∀ a : Nat, 0 < a → a < 7 → ∀ b : Nat, b < 4 → μ' (8 + a) b = ν (1 + a) b) → Q none μ') : am_Does l 2 [.inr (.inr 8), .inr (.inr 1)] ν Q := by
  refine am_Does_of (Nat.le_of_ble_eq_true rfl) (Nat.le_of_ble_eq_true rfl) (Nat.le_of_ble_eq_true rfl) ?_
  have lp15 : ∀ (m : Nat) (i : Int) (μ : am_N) , (∀ a b, ¬(8 ≤ a ∧ a < 15) → μ a b = ν a b) → (∀ b : Nat, b < 5 → μ 8 b = ν 1 b) → 0 ≤ i → i ≤ 4 → (∀ a : Nat, 0 < a → a < 7 → ∀ b : Nat, (b : Int) < i → μ (8 + a) b = ν (1 + a) b) → 4 - i < (m : Int) → am_AW l 0 (fun _ => 0) 2 Q 15 [some (.inr (.inr 8)), some (.inr (.inr 1)), some (.inl i)] [] μ := by
    intro m
    induction m with
    | zero =>
      intro i μ hv0 hv1 hv2 hv3 hv4 hm
      exfalso
      omega
    | succ m ih =>
      intro i μ hv0 hv1 hv2 hv3 hv4 hm
      have ci : am_c i = i := am_cR (by omega) (by omega)
      have c4 : am_c 4 = 4 := rfl
      refine am_go (ct := fun pc => Nat.beq pc 15) am_oX0_take 300 ?_
      conv => whnf
      repeat' first
        | (refine (?_ : am_wp _ _ _ _ _ _ _ _ _ _ _ _); conv => whnf)
        | (refine (?_ : am_sw _ _ _ _); conv => whnf)
        | refine And.intro trivial ?_
        | exact trivial
        | ((with_reducible refine (?_ : am_Does _ 5 _ _ _)); refine x_tR_8_1 _ _ ?_ ?_ ?_ ?_ (fun _ _ _ => ?_))
        | refine k _ ?_ ?_ ?_
        | ((with_reducible refine (?_ : am_Does _ 4 _ _ _)); refine x_tS_8_1 (fun _ _ _ => ?_))
        | ((with_reducible refine (?_ : am_AW _ _ _ _ _ 15 _ _ _)); refine ih _ _ ?_ ?_ ?_ ?_ ?_ ?_)
        | refine And.intro (fun h => absurd h (by decide)) (fun _ => ?_)
        | refine And.intro (fun _ => ?_) (fun h => absurd (by decide) h)
        | refine And.intro (fun _ => ?_) (fun _ => ?_)
        | refine And.intro ?_ ?_
      all_goals (first | decide | assumption | omega | (simp only [ci, c4] at *; omega) | (intro a h0 h1 b hb; exact hv4 a h0 h1 b (by simp only [ci, c4] at *; omega)) | (rename_i h1 h2; intro a b h; rw [h1 a b (by omega)]; exact hv0 a b h) | (rename_i h1 h2; intro b hb; rw [h1 _ _ (by omega)]; exact hv1 b hb) | (rename_i h1 h2; intro a h3 h4 b hb; by_cases d : (b : Int) = i; (rw [show b = i.toNat by omega, h2 a h3 h4, hv0 _ _ (by omega)]); (rw [h1 _ _ (by omega)]; exact hv4 a h3 h4 b (by omega))) | (trace_state; fail))
  have lp15' : ∀ (i : Int) (μ : am_N) , (∀ a b, ¬(8 ≤ a ∧ a < 15) → μ a b = ν a b) → (∀ b : Nat, b < 5 → μ 8 b = ν 1 b) → 0 ≤ i → i ≤ 4 → (∀ a : Nat, 0 < a → a < 7 → ∀ b : Nat, (b : Int) < i → μ (8 + a) b = ν (1 + a) b) → am_AW l 0 (fun _ => 0) 2 Q 15 [some (.inr (.inr 8)), some (.inr (.inr 1)), some (.inl i)] [] μ := fun i μ hv0 hv1 hv2 hv3 hv4 => lp15 ((4 - i) + 1).toNat i μ hv0 hv1 hv2 hv3 hv4 (by omega)
  refine am_go (ct := fun pc => Nat.beq pc 15) am_oX0_take 300 ?_
  conv => whnf
  repeat' first
    | (refine (?_ : am_wp _ _ _ _ _ _ _ _ _ _ _ _); conv => whnf)
    | (refine (?_ : am_sw _ _ _ _); conv => whnf)
    | refine And.intro trivial ?_
    | exact trivial
    | ((with_reducible refine (?_ : am_Does _ 4 _ _ _)); refine x_tS_8_1 (fun _ _ _ => ?_))
    | ((with_reducible refine (?_ : am_AW _ _ _ _ _ 15 _ _ _)); refine lp15' _ _ ?_ ?_ ?_ ?_ ?_)
    | refine And.intro (fun h => absurd h (by decide)) (fun _ => ?_)
    | refine And.intro (fun _ => ?_) (fun h => absurd (by decide) h)
    | refine And.intro (fun _ => ?_) (fun _ => ?_)
    | refine And.intro ?_ ?_
  all_goals (first | decide | assumption | omega | (rename_i h1 h2; intro a b h; rw [am_upS, if_neg (by omega)]; exact h1 a b (by omega)) | (rename_i h1 h2; intro b hb; by_cases d : b = 4; (subst d; rw [am_upS, if_pos ⟨rfl, rfl⟩]; exact h1 _ _ (by omega)); (rw [am_upM d]; exact h2 b (by omega))) | (intros; omega) | (trace_state; fail))
theorem x_tS_1_8 {l : Launch} {ν : am_N} {Q : Option am_V → am_N → Prop} (k : ∀ μ' : am_N, (∀ a b, ¬(a = 1 ∧ b < 4) → μ' a b = ν a b) → (∀ b : Nat, b < 4 → μ' 1 b = ν 8 b) → Q none μ') : am_Does l 4 [.inr (.inr 1), .inr (.inr 8)] ν Q := by
  refine am_Does_of (Nat.le_of_ble_eq_true rfl) (Nat.le_of_ble_eq_true rfl) (Nat.le_of_ble_eq_true rfl) ?_
  refine am_go (ct := fun _ => false) am_oX0_takeSettings 300 ?_
  conv => whnf
  repeat' first
    | (refine (?_ : am_wp _ _ _ _ _ _ _ _ _ _ _ _); conv => whnf)
    | (refine (?_ : am_sw _ _ _ _); conv => whnf)
    | refine And.intro trivial ?_
    | exact trivial
    | refine k _ ?_ ?_
    | refine And.intro (fun h => absurd h (by decide)) (fun _ => ?_)
    | refine And.intro (fun _ => ?_) (fun h => absurd (by decide) h)
    | refine And.intro (fun _ => ?_) (fun _ => ?_)
    | refine And.intro ?_ ?_
  all_goals (first | decide | rfl | (intro a b h; rw [am_upS, if_neg (by omega), am_upS, if_neg (by omega), am_upS, if_neg (by omega), am_upS, if_neg (by omega)]) | (intro b hb; rcases (show b = 0 ∨ b = 1 ∨ b = 2 ∨ b = 3 by omega) with rfl | rfl | rfl | rfl <;> rfl) | (trace_state; fail))
theorem x_tR_1_8 {l : Launch} {ν : am_N} {Q : Option am_V → am_N → Prop} (i j : Int) (i0 : 0 ≤ i) (i1 : i < 4) (j0 : 0 ≤ j) (j1 : j < 4) (k : ∀ μ' : am_N, (∀ a b, ¬((1 < a ∧ a < 8) ∧ b = i.toNat) → μ' a b = ν a b) → (∀ a : Nat, 0 < a → a < 7 → μ' (1 + a) i.toNat = ν (8 + a) j.toNat) → Q none μ') : am_Does l 5 [.inr (.inr 1), .inl i, .inr (.inr 8), .inl j] ν Q := by
  refine am_Does_of (Nat.le_of_ble_eq_true rfl) (Nat.le_of_ble_eq_true rfl) (Nat.le_of_ble_eq_true rfl) ?_
  have ci : am_c i = i := am_cR (by omega) (by omega)
  have cj : am_c j = j := am_cR (by omega) (by omega)
  have c0 : am_c 0 = 0 := rfl
  have c4 : am_c 4 = 4 := rfl
  refine am_go (ct := fun _ => false) am_oX0_takeRunner 300 ?_
  conv => whnf
  repeat' first
    | (refine (?_ : am_wp _ _ _ _ _ _ _ _ _ _ _ _); conv => whnf)
    | (refine (?_ : am_sw _ _ _ _); conv => whnf)
    | refine And.intro trivial ?_
    | exact trivial
    | refine k _ ?_ ?_
    | refine And.intro (fun h => absurd h (by decide)) (fun _ => ?_)
    | refine And.intro (fun _ => ?_) (fun h => absurd (by decide) h)
    | refine And.intro (fun _ => ?_) (fun _ => ?_)
    | refine And.intro ?_ ?_
  all_goals (first | decide | omega | (simp only [ci, cj, c0, c4] at *; omega) | (intro a b h; simp only [ci]; rw [am_upS, if_neg (by omega), am_upS, if_neg (by omega), am_upS, if_neg (by omega), am_upS, if_neg (by omega), am_upS, if_neg (by omega), am_upS, if_neg (by omega)]) | (intro a h0 h1; simp only [ci, cj]; rcases (show a = 1 ∨ a = 2 ∨ a = 3 ∨ a = 4 ∨ a = 5 ∨ a = 6 by omega) with rfl | rfl | rfl | rfl | rfl | rfl <;> simp [am_up]) | (exfalso; simp only [ci, cj, c0, c4] at *; omega) | (trace_state; fail))
theorem x_take_1_8 {l : Launch} {ν : am_N} {Q : Option am_V → am_N → Prop} (k : ∀ μ' : am_N, (∀ a b, ¬(1 ≤ a ∧ a < 8) → μ' a b = ν a b) → (∀ b : Nat, b < 5 → μ' 1 b = ν 8 b) → (∀ a : Nat, 0 < a → a < 7 → ∀ b : Nat, b < 4 → μ' (1 + a) b = ν (8 + a) b) → Q none μ') : am_Does l 2 [.inr (.inr 1), .inr (.inr 8)] ν Q := by
  refine am_Does_of (Nat.le_of_ble_eq_true rfl) (Nat.le_of_ble_eq_true rfl) (Nat.le_of_ble_eq_true rfl) ?_
  have lp15 : ∀ (m : Nat) (i : Int) (μ : am_N) , (∀ a b, ¬(1 ≤ a ∧ a < 8) → μ a b = ν a b) → (∀ b : Nat, b < 5 → μ 1 b = ν 8 b) → 0 ≤ i → i ≤ 4 → (∀ a : Nat, 0 < a → a < 7 → ∀ b : Nat, (b : Int) < i → μ (1 + a) b = ν (8 + a) b) → 4 - i < (m : Int) → am_AW l 0 (fun _ => 0) 2 Q 15 [some (.inr (.inr 1)), some (.inr (.inr 8)), some (.inl i)] [] μ := by
    intro m
    induction m with
    | zero =>
      intro i μ hv0 hv1 hv2 hv3 hv4 hm
      exfalso
      omega
    | succ m ih =>
      intro i μ hv0 hv1 hv2 hv3 hv4 hm
      have ci : am_c i = i := am_cR (by omega) (by omega)
      have c4 : am_c 4 = 4 := rfl
      refine am_go (ct := fun pc => Nat.beq pc 15) am_oX0_take 300 ?_
      conv => whnf
      repeat' first
        | (refine (?_ : am_wp _ _ _ _ _ _ _ _ _ _ _ _); conv => whnf)
        | (refine (?_ : am_sw _ _ _ _); conv => whnf)
        | refine And.intro trivial ?_
        | exact trivial
        | ((with_reducible refine (?_ : am_Does _ 5 _ _ _)); refine x_tR_1_8 _ _ ?_ ?_ ?_ ?_ (fun _ _ _ => ?_))
        | refine k _ ?_ ?_ ?_
        | ((with_reducible refine (?_ : am_Does _ 4 _ _ _)); refine x_tS_1_8 (fun _ _ _ => ?_))
        | ((with_reducible refine (?_ : am_AW _ _ _ _ _ 15 _ _ _)); refine ih _ _ ?_ ?_ ?_ ?_ ?_ ?_)
        | refine And.intro (fun h => absurd h (by decide)) (fun _ => ?_)
        | refine And.intro (fun _ => ?_) (fun h => absurd (by decide) h)
        | refine And.intro (fun _ => ?_) (fun _ => ?_)
        | refine And.intro ?_ ?_
      all_goals (first | decide | assumption | omega | (simp only [ci, c4] at *; omega) | (intro a h0 h1 b hb; exact hv4 a h0 h1 b (by simp only [ci, c4] at *; omega)) | (rename_i h1 h2; intro a b h; rw [h1 a b (by omega)]; exact hv0 a b h) | (rename_i h1 h2; intro b hb; rw [h1 _ _ (by omega)]; exact hv1 b hb) | (rename_i h1 h2; intro a h3 h4 b hb; by_cases d : (b : Int) = i; (rw [show b = i.toNat by omega, h2 a h3 h4, hv0 _ _ (by omega)]); (rw [h1 _ _ (by omega)]; exact hv4 a h3 h4 b (by omega))) | (trace_state; fail))
  have lp15' : ∀ (i : Int) (μ : am_N) , (∀ a b, ¬(1 ≤ a ∧ a < 8) → μ a b = ν a b) → (∀ b : Nat, b < 5 → μ 1 b = ν 8 b) → 0 ≤ i → i ≤ 4 → (∀ a : Nat, 0 < a → a < 7 → ∀ b : Nat, (b : Int) < i → μ (1 + a) b = ν (8 + a) b) → am_AW l 0 (fun _ => 0) 2 Q 15 [some (.inr (.inr 1)), some (.inr (.inr 8)), some (.inl i)] [] μ := fun i μ hv0 hv1 hv2 hv3 hv4 => lp15 ((4 - i) + 1).toNat i μ hv0 hv1 hv2 hv3 hv4 (by omega)
  refine am_go (ct := fun pc => Nat.beq pc 15) am_oX0_take 300 ?_
  conv => whnf
  repeat' first
    | (refine (?_ : am_wp _ _ _ _ _ _ _ _ _ _ _ _); conv => whnf)
    | (refine (?_ : am_sw _ _ _ _); conv => whnf)
    | refine And.intro trivial ?_
    | exact trivial
    | ((with_reducible refine (?_ : am_Does _ 4 _ _ _)); refine x_tS_1_8 (fun _ _ _ => ?_))
    | ((with_reducible refine (?_ : am_AW _ _ _ _ _ 15 _ _ _)); refine lp15' _ _ ?_ ?_ ?_ ?_ ?_)
    | refine And.intro (fun h => absurd h (by decide)) (fun _ => ?_)
    | refine And.intro (fun _ => ?_) (fun h => absurd (by decide) h)
    | refine And.intro (fun _ => ?_) (fun _ => ?_)
    | refine And.intro ?_ ?_
  all_goals (first | decide | assumption | omega | (rename_i h1 h2; intro a b h; rw [am_upS, if_neg (by omega)]; exact h1 a b (by omega)) | (rename_i h1 h2; intro b hb; by_cases d : b = 4; (subst d; rw [am_upS, if_pos ⟨rfl, rfl⟩]; exact h1 _ _ (by omega)); (rw [am_upM d]; exact h2 b (by omega))) | (intros; omega) | (trace_state; fail))
theorem x_tS_22_1 {l : Launch} {ν : am_N} {Q : Option am_V → am_N → Prop} (k : ∀ μ' : am_N, (∀ a b, ¬(a = 22 ∧ b < 4) → μ' a b = ν a b) → (∀ b : Nat, b < 4 → μ' 22 b = ν 1 b) → Q none μ') : am_Does l 4 [.inr (.inr 22), .inr (.inr 1)] ν Q := by
  refine am_Does_of (Nat.le_of_ble_eq_true rfl) (Nat.le_of_ble_eq_true rfl) (Nat.le_of_ble_eq_true rfl) ?_
  refine am_go (ct := fun _ => false) am_oX0_takeSettings 300 ?_
  conv => whnf
  repeat' first
    | (refine (?_ : am_wp _ _ _ _ _ _ _ _ _ _ _ _); conv => whnf)
    | (refine (?_ : am_sw _ _ _ _); conv => whnf)
    | refine And.intro trivial ?_
    | exact trivial
    | refine k _ ?_ ?_
    | refine And.intro (fun h => absurd h (by decide)) (fun _ => ?_)
    | refine And.intro (fun _ => ?_) (fun h => absurd (by decide) h)
    | refine And.intro (fun _ => ?_) (fun _ => ?_)
    | refine And.intro ?_ ?_
  all_goals (first | decide | rfl | (intro a b h; rw [am_upS, if_neg (by omega), am_upS, if_neg (by omega), am_upS, if_neg (by omega), am_upS, if_neg (by omega)]) | (intro b hb; rcases (show b = 0 ∨ b = 1 ∨ b = 2 ∨ b = 3 by omega) with rfl | rfl | rfl | rfl <;> rfl) | (trace_state; fail))
theorem x_tR_22_1 {l : Launch} {ν : am_N} {Q : Option am_V → am_N → Prop} (i j : Int) (i0 : 0 ≤ i) (i1 : i < 4) (j0 : 0 ≤ j) (j1 : j < 4) (k : ∀ μ' : am_N, (∀ a b, ¬((22 < a ∧ a < 29) ∧ b = i.toNat) → μ' a b = ν a b) → (∀ a : Nat, 0 < a → a < 7 → μ' (22 + a) i.toNat = ν (1 + a) j.toNat) → Q none μ') : am_Does l 5 [.inr (.inr 22), .inl i, .inr (.inr 1), .inl j] ν Q := by
  refine am_Does_of (Nat.le_of_ble_eq_true rfl) (Nat.le_of_ble_eq_true rfl) (Nat.le_of_ble_eq_true rfl) ?_
  have ci : am_c i = i := am_cR (by omega) (by omega)
  have cj : am_c j = j := am_cR (by omega) (by omega)
  have c0 : am_c 0 = 0 := rfl
  have c4 : am_c 4 = 4 := rfl
  refine am_go (ct := fun _ => false) am_oX0_takeRunner 300 ?_
  conv => whnf
  repeat' first
    | (refine (?_ : am_wp _ _ _ _ _ _ _ _ _ _ _ _); conv => whnf)
    | (refine (?_ : am_sw _ _ _ _); conv => whnf)
    | refine And.intro trivial ?_
    | exact trivial
    | refine k _ ?_ ?_
    | refine And.intro (fun h => absurd h (by decide)) (fun _ => ?_)
    | refine And.intro (fun _ => ?_) (fun h => absurd (by decide) h)
    | refine And.intro (fun _ => ?_) (fun _ => ?_)
    | refine And.intro ?_ ?_
  all_goals (first | decide | omega | (simp only [ci, cj, c0, c4] at *; omega) | (intro a b h; simp only [ci]; rw [am_upS, if_neg (by omega), am_upS, if_neg (by omega), am_upS, if_neg (by omega), am_upS, if_neg (by omega), am_upS, if_neg (by omega), am_upS, if_neg (by omega)]) | (intro a h0 h1; simp only [ci, cj]; rcases (show a = 1 ∨ a = 2 ∨ a = 3 ∨ a = 4 ∨ a = 5 ∨ a = 6 by omega) with rfl | rfl | rfl | rfl | rfl | rfl <;> simp [am_up]) | (exfalso; simp only [ci, cj, c0, c4] at *; omega) | (trace_state; fail))
theorem x_take_22_1 {l : Launch} {ν : am_N} {Q : Option am_V → am_N → Prop} (k : ∀ μ' : am_N, (∀ a b, ¬(22 ≤ a ∧ a < 29) → μ' a b = ν a b) → (∀ b : Nat, b < 5 → μ' 22 b = ν 1 b) → (∀ a : Nat, 0 < a → a < 7 → ∀ b : Nat, b < 4 → μ' (22 + a) b = ν (1 + a) b) → Q none μ') : am_Does l 2 [.inr (.inr 22), .inr (.inr 1)] ν Q := by
  refine am_Does_of (Nat.le_of_ble_eq_true rfl) (Nat.le_of_ble_eq_true rfl) (Nat.le_of_ble_eq_true rfl) ?_
  have lp15 : ∀ (m : Nat) (i : Int) (μ : am_N) , (∀ a b, ¬(22 ≤ a ∧ a < 29) → μ a b = ν a b) → (∀ b : Nat, b < 5 → μ 22 b = ν 1 b) → 0 ≤ i → i ≤ 4 → (∀ a : Nat, 0 < a → a < 7 → ∀ b : Nat, (b : Int) < i → μ (22 + a) b = ν (1 + a) b) → 4 - i < (m : Int) → am_AW l 0 (fun _ => 0) 2 Q 15 [some (.inr (.inr 22)), some (.inr (.inr 1)), some (.inl i)] [] μ := by
    intro m
    induction m with
    | zero =>
      intro i μ hv0 hv1 hv2 hv3 hv4 hm
      exfalso
      omega
    | succ m ih =>
      intro i μ hv0 hv1 hv2 hv3 hv4 hm
      have ci : am_c i = i := am_cR (by omega) (by omega)
      have c4 : am_c 4 = 4 := rfl
      refine am_go (ct := fun pc => Nat.beq pc 15) am_oX0_take 300 ?_
      conv => whnf
      repeat' first
        | (refine (?_ : am_wp _ _ _ _ _ _ _ _ _ _ _ _); conv => whnf)
        | (refine (?_ : am_sw _ _ _ _); conv => whnf)
        | refine And.intro trivial ?_
        | exact trivial
        | ((with_reducible refine (?_ : am_Does _ 5 _ _ _)); refine x_tR_22_1 _ _ ?_ ?_ ?_ ?_ (fun _ _ _ => ?_))
        | refine k _ ?_ ?_ ?_
        | ((with_reducible refine (?_ : am_Does _ 4 _ _ _)); refine x_tS_22_1 (fun _ _ _ => ?_))
        | ((with_reducible refine (?_ : am_AW _ _ _ _ _ 15 _ _ _)); refine ih _ _ ?_ ?_ ?_ ?_ ?_ ?_)
        | refine And.intro (fun h => absurd h (by decide)) (fun _ => ?_)
        | refine And.intro (fun _ => ?_) (fun h => absurd (by decide) h)
        | refine And.intro (fun _ => ?_) (fun _ => ?_)
        | refine And.intro ?_ ?_
      all_goals (first | decide | assumption | omega | (simp only [ci, c4] at *; omega) | (intro a h0 h1 b hb; exact hv4 a h0 h1 b (by simp only [ci, c4] at *; omega)) | (rename_i h1 h2; intro a b h; rw [h1 a b (by omega)]; exact hv0 a b h) | (rename_i h1 h2; intro b hb; rw [h1 _ _ (by omega)]; exact hv1 b hb) | (rename_i h1 h2; intro a h3 h4 b hb; by_cases d : (b : Int) = i; (rw [show b = i.toNat by omega, h2 a h3 h4, hv0 _ _ (by omega)]); (rw [h1 _ _ (by omega)]; exact hv4 a h3 h4 b (by omega))) | (trace_state; fail))
  have lp15' : ∀ (i : Int) (μ : am_N) , (∀ a b, ¬(22 ≤ a ∧ a < 29) → μ a b = ν a b) → (∀ b : Nat, b < 5 → μ 22 b = ν 1 b) → 0 ≤ i → i ≤ 4 → (∀ a : Nat, 0 < a → a < 7 → ∀ b : Nat, (b : Int) < i → μ (22 + a) b = ν (1 + a) b) → am_AW l 0 (fun _ => 0) 2 Q 15 [some (.inr (.inr 22)), some (.inr (.inr 1)), some (.inl i)] [] μ := fun i μ hv0 hv1 hv2 hv3 hv4 => lp15 ((4 - i) + 1).toNat i μ hv0 hv1 hv2 hv3 hv4 (by omega)
  refine am_go (ct := fun pc => Nat.beq pc 15) am_oX0_take 300 ?_
  conv => whnf
  repeat' first
    | (refine (?_ : am_wp _ _ _ _ _ _ _ _ _ _ _ _); conv => whnf)
    | (refine (?_ : am_sw _ _ _ _); conv => whnf)
    | refine And.intro trivial ?_
    | exact trivial
    | ((with_reducible refine (?_ : am_Does _ 4 _ _ _)); refine x_tS_22_1 (fun _ _ _ => ?_))
    | ((with_reducible refine (?_ : am_AW _ _ _ _ _ 15 _ _ _)); refine lp15' _ _ ?_ ?_ ?_ ?_ ?_)
    | refine And.intro (fun h => absurd h (by decide)) (fun _ => ?_)
    | refine And.intro (fun _ => ?_) (fun h => absurd (by decide) h)
    | refine And.intro (fun _ => ?_) (fun _ => ?_)
    | refine And.intro ?_ ?_
  all_goals (first | decide | assumption | omega | (rename_i h1 h2; intro a b h; rw [am_upS, if_neg (by omega)]; exact h1 a b (by omega)) | (rename_i h1 h2; intro b hb; by_cases d : b = 4; (subst d; rw [am_upS, if_pos ⟨rfl, rfl⟩]; exact h1 _ _ (by omega)); (rw [am_upM d]; exact h2 b (by omega))) | (intros; omega) | (trace_state; fail))
theorem x_tS_1_22 {l : Launch} {ν : am_N} {Q : Option am_V → am_N → Prop} (k : ∀ μ' : am_N, (∀ a b, ¬(a = 1 ∧ b < 4) → μ' a b = ν a b) → (∀ b : Nat, b < 4 → μ' 1 b = ν 22 b) → Q none μ') : am_Does l 4 [.inr (.inr 1), .inr (.inr 22)] ν Q := by
  refine am_Does_of (Nat.le_of_ble_eq_true rfl) (Nat.le_of_ble_eq_true rfl) (Nat.le_of_ble_eq_true rfl) ?_
  refine am_go (ct := fun _ => false) am_oX0_takeSettings 300 ?_
  conv => whnf
  repeat' first
    | (refine (?_ : am_wp _ _ _ _ _ _ _ _ _ _ _ _); conv => whnf)
    | (refine (?_ : am_sw _ _ _ _); conv => whnf)
    | refine And.intro trivial ?_
    | exact trivial
    | refine k _ ?_ ?_
    | refine And.intro (fun h => absurd h (by decide)) (fun _ => ?_)
    | refine And.intro (fun _ => ?_) (fun h => absurd (by decide) h)
    | refine And.intro (fun _ => ?_) (fun _ => ?_)
    | refine And.intro ?_ ?_
  all_goals (first | decide | rfl | (intro a b h; rw [am_upS, if_neg (by omega), am_upS, if_neg (by omega), am_upS, if_neg (by omega), am_upS, if_neg (by omega)]) | (intro b hb; rcases (show b = 0 ∨ b = 1 ∨ b = 2 ∨ b = 3 by omega) with rfl | rfl | rfl | rfl <;> rfl) | (trace_state; fail))
theorem x_tR_1_22 {l : Launch} {ν : am_N} {Q : Option am_V → am_N → Prop} (i j : Int) (i0 : 0 ≤ i) (i1 : i < 4) (j0 : 0 ≤ j) (j1 : j < 4) (k : ∀ μ' : am_N, (∀ a b, ¬((1 < a ∧ a < 8) ∧ b = i.toNat) → μ' a b = ν a b) → (∀ a : Nat, 0 < a → a < 7 → μ' (1 + a) i.toNat = ν (22 + a) j.toNat) → Q none μ') : am_Does l 5 [.inr (.inr 1), .inl i, .inr (.inr 22), .inl j] ν Q := by
  refine am_Does_of (Nat.le_of_ble_eq_true rfl) (Nat.le_of_ble_eq_true rfl) (Nat.le_of_ble_eq_true rfl) ?_
  have ci : am_c i = i := am_cR (by omega) (by omega)
  have cj : am_c j = j := am_cR (by omega) (by omega)
  have c0 : am_c 0 = 0 := rfl
  have c4 : am_c 4 = 4 := rfl
  refine am_go (ct := fun _ => false) am_oX0_takeRunner 300 ?_
  conv => whnf
  repeat' first
    | (refine (?_ : am_wp _ _ _ _ _ _ _ _ _ _ _ _); conv => whnf)
    | (refine (?_ : am_sw _ _ _ _); conv => whnf)
    | refine And.intro trivial ?_
    | exact trivial
    | refine k _ ?_ ?_
    | refine And.intro (fun h => absurd h (by decide)) (fun _ => ?_)
    | refine And.intro (fun _ => ?_) (fun h => absurd (by decide) h)
    | refine And.intro (fun _ => ?_) (fun _ => ?_)
    | refine And.intro ?_ ?_
  all_goals (first | decide | omega | (simp only [ci, cj, c0, c4] at *; omega) | (intro a b h; simp only [ci]; rw [am_upS, if_neg (by omega), am_upS, if_neg (by omega), am_upS, if_neg (by omega), am_upS, if_neg (by omega), am_upS, if_neg (by omega), am_upS, if_neg (by omega)]) | (intro a h0 h1; simp only [ci, cj]; rcases (show a = 1 ∨ a = 2 ∨ a = 3 ∨ a = 4 ∨ a = 5 ∨ a = 6 by omega) with rfl | rfl | rfl | rfl | rfl | rfl <;> simp [am_up]) | (exfalso; simp only [ci, cj, c0, c4] at *; omega) | (trace_state; fail))
theorem x_take_1_22 {l : Launch} {ν : am_N} {Q : Option am_V → am_N → Prop} (k : ∀ μ' : am_N, (∀ a b, ¬(1 ≤ a ∧ a < 8) → μ' a b = ν a b) → (∀ b : Nat, b < 5 → μ' 1 b = ν 22 b) → (∀ a : Nat, 0 < a → a < 7 → ∀ b : Nat, b < 4 → μ' (1 + a) b = ν (22 + a) b) → Q none μ') : am_Does l 2 [.inr (.inr 1), .inr (.inr 22)] ν Q := by
  refine am_Does_of (Nat.le_of_ble_eq_true rfl) (Nat.le_of_ble_eq_true rfl) (Nat.le_of_ble_eq_true rfl) ?_
  have lp15 : ∀ (m : Nat) (i : Int) (μ : am_N) , (∀ a b, ¬(1 ≤ a ∧ a < 8) → μ a b = ν a b) → (∀ b : Nat, b < 5 → μ 1 b = ν 22 b) → 0 ≤ i → i ≤ 4 → (∀ a : Nat, 0 < a → a < 7 → ∀ b : Nat, (b : Int) < i → μ (1 + a) b = ν (22 + a) b) → 4 - i < (m : Int) → am_AW l 0 (fun _ => 0) 2 Q 15 [some (.inr (.inr 1)), some (.inr (.inr 22)), some (.inl i)] [] μ := by
    intro m
    induction m with
    | zero =>
      intro i μ hv0 hv1 hv2 hv3 hv4 hm
      exfalso
      omega
    | succ m ih =>
      intro i μ hv0 hv1 hv2 hv3 hv4 hm
      have ci : am_c i = i := am_cR (by omega) (by omega)
      have c4 : am_c 4 = 4 := rfl
      refine am_go (ct := fun pc => Nat.beq pc 15) am_oX0_take 300 ?_
      conv => whnf
      repeat' first
        | (refine (?_ : am_wp _ _ _ _ _ _ _ _ _ _ _ _); conv => whnf)
        | (refine (?_ : am_sw _ _ _ _); conv => whnf)
        | refine And.intro trivial ?_
        | exact trivial
        | ((with_reducible refine (?_ : am_Does _ 5 _ _ _)); refine x_tR_1_22 _ _ ?_ ?_ ?_ ?_ (fun _ _ _ => ?_))
        | refine k _ ?_ ?_ ?_
        | ((with_reducible refine (?_ : am_Does _ 4 _ _ _)); refine x_tS_1_22 (fun _ _ _ => ?_))
        | ((with_reducible refine (?_ : am_AW _ _ _ _ _ 15 _ _ _)); refine ih _ _ ?_ ?_ ?_ ?_ ?_ ?_)
        | refine And.intro (fun h => absurd h (by decide)) (fun _ => ?_)
        | refine And.intro (fun _ => ?_) (fun h => absurd (by decide) h)
        | refine And.intro (fun _ => ?_) (fun _ => ?_)
        | refine And.intro ?_ ?_
      all_goals (first | decide | assumption | omega | (simp only [ci, c4] at *; omega) | (intro a h0 h1 b hb; exact hv4 a h0 h1 b (by simp only [ci, c4] at *; omega)) | (rename_i h1 h2; intro a b h; rw [h1 a b (by omega)]; exact hv0 a b h) | (rename_i h1 h2; intro b hb; rw [h1 _ _ (by omega)]; exact hv1 b hb) | (rename_i h1 h2; intro a h3 h4 b hb; by_cases d : (b : Int) = i; (rw [show b = i.toNat by omega, h2 a h3 h4, hv0 _ _ (by omega)]); (rw [h1 _ _ (by omega)]; exact hv4 a h3 h4 b (by omega))) | (trace_state; fail))
  have lp15' : ∀ (i : Int) (μ : am_N) , (∀ a b, ¬(1 ≤ a ∧ a < 8) → μ a b = ν a b) → (∀ b : Nat, b < 5 → μ 1 b = ν 22 b) → 0 ≤ i → i ≤ 4 → (∀ a : Nat, 0 < a → a < 7 → ∀ b : Nat, (b : Int) < i → μ (1 + a) b = ν (22 + a) b) → am_AW l 0 (fun _ => 0) 2 Q 15 [some (.inr (.inr 1)), some (.inr (.inr 22)), some (.inl i)] [] μ := fun i μ hv0 hv1 hv2 hv3 hv4 => lp15 ((4 - i) + 1).toNat i μ hv0 hv1 hv2 hv3 hv4 (by omega)
  refine am_go (ct := fun pc => Nat.beq pc 15) am_oX0_take 300 ?_
  conv => whnf
  repeat' first
    | (refine (?_ : am_wp _ _ _ _ _ _ _ _ _ _ _ _); conv => whnf)
    | (refine (?_ : am_sw _ _ _ _); conv => whnf)
    | refine And.intro trivial ?_
    | exact trivial
    | ((with_reducible refine (?_ : am_Does _ 4 _ _ _)); refine x_tS_1_22 (fun _ _ _ => ?_))
    | ((with_reducible refine (?_ : am_AW _ _ _ _ _ 15 _ _ _)); refine lp15' _ _ ?_ ?_ ?_ ?_ ?_)
    | refine And.intro (fun h => absurd h (by decide)) (fun _ => ?_)
    | refine And.intro (fun _ => ?_) (fun h => absurd (by decide) h)
    | refine And.intro (fun _ => ?_) (fun _ => ?_)
    | refine And.intro ?_ ?_
  all_goals (first | decide | assumption | omega | (rename_i h1 h2; intro a b h; rw [am_upS, if_neg (by omega)]; exact h1 a b (by omega)) | (rename_i h1 h2; intro b hb; by_cases d : b = 4; (subst d; rw [am_upS, if_pos ⟨rfl, rfl⟩]; exact h1 _ _ (by omega)); (rw [am_upM d]; exact h2 b (by omega))) | (intros; omega) | (trace_state; fail))
/-! the reading of a LANE -/
/-- the letter at a place, -1 if there is none -/
def am_nx (t : Nat → Int) (n q : Int) : Int := if 0 ≤ q ∧ q < n then t q.toNat else -1
def am_dt (t : Nat → Int) (n q : Int) : Int := if 48 ≤ am_nx t n q ∧ am_nx t n q ≤ 57 then am_nx t n q - 48 else -1
/-- the place behind m digits at most -/
def am_dn (t : Nat → Int) (n : Int) : Nat → Int → Int
  | 0, q => q
  | m + 1, q => if 0 ≤ am_dt t n q then am_dn t n m (q + 1) else q
/-- the number that m digits at most tell -/
def am_dv (t : Nat → Int) (n : Int) : Nat → Int → Int → Int
  | 0, _, v => v
  | m + 1, q, v => if 0 ≤ am_dt t n q then am_dv t n m (q + 1) (10 * v + am_dt t n q) else v
def am_ld (c : Int) : Int := if c = 119 then 3 else if c = 114 then 8 else if c = 109 then 2 else if c = 115 then 3 else if c = 103 then 0 else -1
def am_ls (c : Int) : Int := if c = 119 then 1 else am_ld c
/-- the place behind the STATEMENT at p, or -1 less the place of the fault -/
def am_bh (t : Nat → Int) (n p : Int) : Int :=
  if am_ld (am_nx t n p) < 0 then -1 - p
  else if am_dn t n (am_ld (am_nx t n p)).toNat (p + 1) - p - 1 < am_ls (am_nx t n p) ∨ am_nx t n (am_dn t n (am_ld (am_nx t n p)).toNat (p + 1)) ≠ 59 then -1 - am_dn t n (am_ld (am_nx t n p)).toNat (p + 1)
  else am_dn t n (am_ld (am_nx t n p)).toNat (p + 1) + 1
theorem am_dt_b (t : Nat → Int) (n q : Int) : -1 ≤ am_dt t n q ∧ am_dt t n q ≤ 9 := by
  unfold am_dt; split <;> omega
theorem am_dn_b (t : Nat → Int) (n : Int) : ∀ (m : Nat) (q : Int), q ≤ am_dn t n m q ∧ am_dn t n m q ≤ q + m
  | 0, q => ⟨Int.le_refl _, by simp [am_dn]⟩
  | m + 1, q => by
    simp only [am_dn]
    split
    · have h := am_dn_b t n m (q + 1); omega
    · omega
/-- digits lie before the end -/
theorem am_dn_n (t : Nat → Int) (n : Int) : ∀ (m : Nat) (q : Int), q ≤ n → am_dn t n m q ≤ n
  | 0, q, h => h
  | m + 1, q, h => by
    simp only [am_dn]
    split
    · next e =>
      have : q < n := by
        unfold am_dt am_nx at e
        split at e <;> (split at e <;> omega)
      exact am_dn_n t n m (q + 1) (by omega)
    · exact h
theorem am_dn_p {t : Nat → Int} {n q : Int} (m : Nat) (h : 0 ≤ am_dt t n q) : am_dn t n (m + 1) q = am_dn t n m (q + 1) := if_pos h
theorem am_dn_q {t : Nat → Int} {n q : Int} (m : Nat) (h : ¬0 ≤ am_dt t n q) : am_dn t n (m + 1) q = q := if_neg h
theorem am_dn_add (t : Nat → Int) (n : Int) (b : Nat) : ∀ (a : Nat) (q : Int), am_dn t n (a + b) q = if am_dn t n a q = q + a then am_dn t n b (q + a) else am_dn t n a q
  | 0, q => by simp [am_dn]
  | a + 1, q => by
    rw [show a + 1 + b = (a + b) + 1 by omega]
    by_cases e : 0 ≤ am_dt t n q
    · have p := am_dn_p a e
      rw [am_dn_p (a + b) e, am_dn_add t n b a (q + 1)]
      by_cases f : am_dn t n a (q + 1) = q + 1 + a
      · rw [if_pos f, if_pos (by omega), show q + ((a + 1 : Nat) : Int) = q + 1 + a by omega]
      · rw [if_neg f, if_neg (by omega), p]
    · have p := am_dn_q a e
      rw [am_dn_q (a + b) e, if_neg (by omega), p]
/-- all m are digits -/
theorem am_dn_d (t : Nat → Int) (n : Int) : ∀ (m : Nat) (q : Int), am_dn t n m q = q + m → ∀ i : Nat, i < m → 0 ≤ am_dt t n (q + i)
  | 0, _, _, i, hi => absurd hi (Nat.not_lt_zero _)
  | m + 1, q, h, i, hi => by
    simp only [am_dn] at h
    by_cases e : 0 ≤ am_dt t n q
    · rw [if_pos e] at h
      cases i with
      | zero => simpa using e
      | succ i =>
        have z := am_dn_d t n m (q + 1) (by omega) i (by omega)
        rw [show q + ((i + 1 : Nat) : Int) = q + 1 + i by omega]
        exact z
    · rw [if_neg e] at h
      omega
theorem am_dv_b (t : Nat → Int) (n : Int) : ∀ (m : Nat) (q v : Int), 0 ≤ v → v ≤ am_dv t n m q v ∧ am_dv t n m q v ≤ (v + 1) * 10 ^ m - 1
  | 0, q, v, h => by simp [am_dv]
  | m + 1, q, v, h => by
    simp only [am_dv]
    have hp : (1 : Int) ≤ 10 ^ m := Int.pow_pos (m := m) (by decide)
    have hd := am_dt_b t n q
    split
    · have z := am_dv_b t n m (q + 1) (10 * v + am_dt t n q) (by omega)
      refine ⟨by omega, Int.le_trans z.2 ?_⟩
      have y : (10 * v + am_dt t n q + 1) * 10 ^ m ≤ ((v + 1) * 10) * 10 ^ m := Int.mul_le_mul_of_nonneg_right (by omega) (by omega)
      rw [Int.pow_succ, Int.mul_comm (10 ^ m) 10, ← Int.mul_assoc]
      omega
    · refine ⟨Int.le_refl _, ?_⟩
      have y : (v + 1) * 1 ≤ (v + 1) * 10 ^ (m + 1) := Int.mul_le_mul_of_nonneg_left (Int.pow_pos (m := m + 1) (by decide)) (by omega)
      omega
theorem am_dv_2 (t : Nat → Int) (n q : Int) (h0 : 0 ≤ am_dt t n q) (h1 : 0 ≤ am_dt t n (q + 1)) : am_dv t n 2 q 0 = 10 * am_dt t n q + am_dt t n (q + 1) := by
  simp only [am_dv]
  rw [if_pos h0, if_pos h1]
  omega
theorem am_dv_1 (t : Nat → Int) (n q : Int) (h0 : 0 ≤ am_dt t n q) : am_dv t n 1 q 0 = am_dt t n q := by
  simp only [am_dv]
  rw [if_pos h0]
  omega
/-- a STATEMENT ends behind its place, and within the letters -/
theorem am_bh_b (t : Nat → Int) (n p : Int) (h0 : 0 ≤ p) (h1 : p ≤ n) : (0 ≤ am_bh t n p → p + 1 < am_bh t n p ∧ am_bh t n p ≤ n) ∧ (am_bh t n p < 0 → p ≤ -1 - am_bh t n p ∧ -1 - am_bh t n p ≤ n) := by
  unfold am_bh
  split
  · omega
  · next e0 =>
    have hp : p < n := by
      by_cases h : p < n
      · exact h
      · exact absurd (by rw [show am_nx t n p = -1 from if_neg (by omega)]; decide) e0
    have b := am_dn_b t n (am_ld (am_nx t n p)).toNat (p + 1)
    have c := am_dn_n t n (am_ld (am_nx t n p)).toNat (p + 1) (by omega)
    split
    · omega
    · next e =>
      have f : am_nx t n (am_dn t n (am_ld (am_nx t n p)).toNat (p + 1)) = 59 := by
        by_cases g : am_nx t n (am_dn t n (am_ld (am_nx t n p)).toNat (p + 1)) = 59
        · exact g
        · exact absurd (Or.inr g) e
      have g : am_dn t n (am_ld (am_nx t n p)).toNat (p + 1) < n := by
        by_cases h : am_dn t n (am_ld (am_nx t n p)).toNat (p + 1) < n
        · exact h
        · rw [show am_nx t n (am_dn t n (am_ld (am_nx t n p)).toNat (p + 1)) = -1 from if_neg (by omega)] at f
          omega
      omega
theorem am_nx_b {t : Nat → Int} {n : Int} (h : ∀ i : Nat, (i : Int) < n → 0 ≤ t i ∧ t i ≤ 255) (q : Int) : -1 ≤ am_nx t n q ∧ am_nx t n q ≤ 255 := by
  unfold am_nx
  split
  · next e => have := h q.toNat (by omega); omega
  · omega
theorem am_ld_b (c : Int) : -1 ≤ am_ld c ∧ am_ld c ≤ 8 := by
  unfold am_ld
  repeat' split
  all_goals omega
theorem am_ls_b (c : Int) : -1 ≤ am_ls c ∧ am_ls c ≤ 8 := by
  unfold am_ls
  have := am_ld_b c
  split <;> omega
/-- one digit on -/
theorem am_dn_s {t : Nat → Int} {n q : Int} {M j : Int} (h0 : j < M) (h1 : 0 ≤ am_dt t n q) : am_dn t n (M - j).toNat q = am_dn t n (M - (j + 1)).toNat (q + 1) := by
  rw [show (M - j).toNat = (M - (j + 1)).toNat + 1 by omega]
  exact am_dn_p _ h1
theorem am_dn_z {t : Nat → Int} {n q : Int} {M j : Int} (h : M ≤ j ∨ am_dt t n q < 0) : am_dn t n (M - j).toNat q = q := by
  by_cases e : M ≤ j
  · rw [show (M - j).toNat = 0 by omega]; rfl
  · rw [show (M - j).toNat = (M - (j + 1)).toNat + 1 by omega]
    exact am_dn_q _ (by omega)
theorem am_dv_s {t : Nat → Int} {n q v : Int} {M j : Int} (h0 : j < M) (h1 : 0 ≤ am_dt t n q) : am_dv t n (M - j).toNat q v = am_dv t n (M - (j + 1)).toNat (q + 1) (10 * v + am_dt t n q) := by
  rw [show (M - j).toNat = (M - (j + 1)).toNat + 1 by omega]
  exact if_pos h1
theorem am_dv_z {t : Nat → Int} {n q v : Int} {M j : Int} (h : M ≤ j ∨ am_dt t n q < 0) : am_dv t n (M - j).toNat q v = v := by
  by_cases e : M ≤ j
  · rw [show (M - j).toNat = 0 by omega]; rfl
  · rw [show (M - j).toNat = (M - (j + 1)).toNat + 1 by omega]
    exact if_neg (by omega)
theorem am_dt_i {t : Nat → Int} {n q : Int} (h0 : 48 ≤ am_nx t n q) (h1 : am_nx t n q ≤ 57) : am_dt t n q = am_nx t n q - 48 := if_pos ⟨h0, h1⟩
theorem am_dt_o {t : Nat → Int} {n q : Int} (h : am_nx t n q < 48 ∨ 57 < am_nx t n q) : am_dt t n q = -1 := if_neg (by omega)
theorem am_dn_o {t : Nat → Int} {n q : Int} {m : Nat} (k : Nat) (h : am_dn t n m q = q + m) : am_dn t n (m + k) q = am_dn t n k (q + m) := by
  rw [am_dn_add, if_pos h]
theorem am_dn_x {t : Nat → Int} {n q : Int} {m : Nat} (k : Nat) (h : am_dn t n m q ≠ q + m) : am_dn t n (m + k) q = am_dn t n m q := by
  rw [am_dn_add, if_neg h]
theorem am_dn8 {t : Nat → Int} {n a : Int} (e1 : am_dn t n 1 a = a + 1) (e2 : am_dn t n 1 (a + 1) = a + 1 + 1) (e3 : am_dn t n 2 (a + 2) = a + 2 + 2) (e4 : am_dn t n 2 (a + 4) = a + 4 + 2) (e5 : am_dn t n 2 (a + 6) = a + 6 + 2) : am_dn t n 8 a = a + 8 := by
  have h1 : am_dn t n 8 a = am_dn t n 7 (a + 1) := am_dn_o (m := 1) 7 e1
  have h2 : am_dn t n 7 (a + 1) = am_dn t n 6 (a + 1 + 1) := am_dn_o (m := 1) 6 e2
  have h3 : am_dn t n 6 (a + 2) = am_dn t n 4 (a + 2 + 2) := am_dn_o (m := 2) 4 e3
  have h4 : am_dn t n 4 (a + 4) = am_dn t n 2 (a + 4 + 2) := am_dn_o (m := 2) 2 e4
  rw [h1, h2, show a + 1 + 1 = a + 2 by omega, h3, show a + 2 + 2 = a + 4 by omega, h4, show a + 4 + 2 = a + 6 by omega, e5]
  omega
theorem am_dn8_1 {t : Nat → Int} {n a : Int} (e1 : am_dn t n 1 a ≠ a + 1) : am_dn t n 8 a = am_dn t n 1 a := am_dn_x (m := 1) 7 e1
theorem am_dn8_2 {t : Nat → Int} {n a : Int} (e1 : am_dn t n 1 a = a + 1) (e2 : am_dn t n 1 (a + 1) ≠ a + 1 + 1) : am_dn t n 8 a = am_dn t n 1 (a + 1) := by
  have h1 : am_dn t n 8 a = am_dn t n 7 (a + 1) := am_dn_o (m := 1) 7 e1
  have h2 : am_dn t n 7 (a + 1) = am_dn t n 1 (a + 1) := am_dn_x (m := 1) 6 e2
  rw [h1, h2]
theorem am_dn8_3 {t : Nat → Int} {n a : Int} (e1 : am_dn t n 1 a = a + 1) (e2 : am_dn t n 1 (a + 1) = a + 1 + 1) (e3 : am_dn t n 2 (a + 2) ≠ a + 2 + 2) : am_dn t n 8 a = am_dn t n 2 (a + 2) := by
  have h1 : am_dn t n 8 a = am_dn t n 7 (a + 1) := am_dn_o (m := 1) 7 e1
  have h2 : am_dn t n 7 (a + 1) = am_dn t n 6 (a + 1 + 1) := am_dn_o (m := 1) 6 e2
  have h3 : am_dn t n 6 (a + 2) = am_dn t n 2 (a + 2) := am_dn_x (m := 2) 4 e3
  rw [h1, h2, show a + 1 + 1 = a + 2 by omega, h3]
theorem am_dn8_4 {t : Nat → Int} {n a : Int} (e1 : am_dn t n 1 a = a + 1) (e2 : am_dn t n 1 (a + 1) = a + 1 + 1) (e3 : am_dn t n 2 (a + 2) = a + 2 + 2) (e4 : am_dn t n 2 (a + 4) ≠ a + 4 + 2) : am_dn t n 8 a = am_dn t n 2 (a + 4) := by
  have h1 : am_dn t n 8 a = am_dn t n 7 (a + 1) := am_dn_o (m := 1) 7 e1
  have h2 : am_dn t n 7 (a + 1) = am_dn t n 6 (a + 1 + 1) := am_dn_o (m := 1) 6 e2
  have h3 : am_dn t n 6 (a + 2) = am_dn t n 4 (a + 2 + 2) := am_dn_o (m := 2) 4 e3
  have h4 : am_dn t n 4 (a + 4) = am_dn t n 2 (a + 4) := am_dn_x (m := 2) 2 e4
  rw [h1, h2, show a + 1 + 1 = a + 2 by omega, h3, show a + 2 + 2 = a + 4 by omega, h4]
theorem am_dn8_5 {t : Nat → Int} {n a : Int} (e1 : am_dn t n 1 a = a + 1) (e2 : am_dn t n 1 (a + 1) = a + 1 + 1) (e3 : am_dn t n 2 (a + 2) = a + 2 + 2) (e4 : am_dn t n 2 (a + 4) = a + 4 + 2) : am_dn t n 8 a = am_dn t n 2 (a + 6) := by
  have h1 : am_dn t n 8 a = am_dn t n 7 (a + 1) := am_dn_o (m := 1) 7 e1
  have h2 : am_dn t n 7 (a + 1) = am_dn t n 6 (a + 1 + 1) := am_dn_o (m := 1) 6 e2
  have h3 : am_dn t n 6 (a + 2) = am_dn t n 4 (a + 2 + 2) := am_dn_o (m := 2) 4 e3
  have h4 : am_dn t n 4 (a + 4) = am_dn t n 2 (a + 4 + 2) := am_dn_o (m := 2) 2 e4
  rw [h1, h2, show a + 1 + 1 = a + 2 by omega, h3, show a + 2 + 2 = a + 4 by omega, h4, show a + 4 + 2 = a + 6 by omega]
/-! the places of STATEMENTS, what each brings -/
theorem am_bh_1 {t : Nat → Int} {n p : Int} (h : am_ld (am_nx t n p) < 0) : am_bh t n p = -1 - p := if_pos h
theorem am_bh_2 {t : Nat → Int} {n p M L q : Int} (eM : M = am_ld (am_nx t n p)) (eL : L = am_ls (am_nx t n p)) (h0 : 0 ≤ M) (eq : q = am_dn t n M.toNat (p + 1)) (h : q - p - 1 < L ∨ am_nx t n q ≠ 59) : am_bh t n p = -1 - q := by
  subst eM; subst eL; subst eq
  unfold am_bh
  rw [if_neg (by omega), if_pos h]
theorem am_bh_3 {t : Nat → Int} {n p M L q : Int} (eM : M = am_ld (am_nx t n p)) (eL : L = am_ls (am_nx t n p)) (h0 : 0 ≤ M) (eq : q = am_dn t n M.toNat (p + 1)) (h : ¬(q - p - 1 < L ∨ am_nx t n q ≠ 59)) : am_bh t n p = q + 1 := by
  subst eM; subst eL; subst eq
  unfold am_bh
  rw [if_neg (by omega), if_neg h]
/-- digits that must be there are -/
theorem am_bh_d {t : Nat → Int} {n p : Int} (h : 0 ≤ am_bh t n p) (h0 : 0 ≤ p) (hc : am_nx t n p ≠ 119) : ∀ i : Nat, (i : Int) < am_ld (am_nx t n p) → 0 ≤ am_dt t n (p + 1 + i) := by
  intro i hi
  have hl : am_ls (am_nx t n p) = am_ld (am_nx t n p) := if_neg hc
  have b := am_dn_b t n (am_ld (am_nx t n p)).toNat (p + 1)
  have e : am_dn t n (am_ld (am_nx t n p)).toNat (p + 1) = p + 1 + ((am_ld (am_nx t n p)).toNat : Nat) := by
    unfold am_bh at h
    rw [if_neg (by omega)] at h
    by_cases q : am_dn t n (am_ld (am_nx t n p)).toNat (p + 1) - p - 1 < am_ls (am_nx t n p) ∨ am_nx t n (am_dn t n (am_ld (am_nx t n p)).toNat (p + 1)) ≠ 59
    · rw [if_pos q] at h; omega
    · omega
  exact am_dn_d t n _ _ e i (by omega)
def fp_pk (t : Nat → Int) (n : Int) : Nat → Int
  | 0 => 0
  | k + 1 => am_bh t n (fp_pk t n k)
/-- K STATEMENTS stand well -/
def fp_pr (t : Nat → Int) (n : Int) (K : Nat) : Prop := ∀ j : Nat, j < K → fp_pk t n j < n ∧ 0 ≤ am_bh t n (fp_pk t n j)
theorem fp_pr_0 {t : Nat → Int} {n : Int} : fp_pr t n 0 := fun j h => absurd h (Nat.not_lt_zero j)
theorem fp_pr_s {t : Nat → Int} {n : Int} {K : Nat} (h : fp_pr t n K) (h1 : fp_pk t n K < n) (h2 : 0 ≤ am_bh t n (fp_pk t n K)) : fp_pr t n (K + 1) := fun j hj => by
  by_cases e : j = K
  · subst e; exact ⟨h1, h2⟩
  · exact h j (by omega)
theorem fp_pk_b {t : Nat → Int} {n : Int} (h0 : 0 ≤ n) : ∀ K : Nat, fp_pr t n K → 2 * (K : Int) ≤ fp_pk t n K ∧ fp_pk t n K ≤ n
  | 0, _ => ⟨by simp [fp_pk], by simp [fp_pk]; exact h0⟩
  | K + 1, h => by
    have q := fp_pk_b h0 K (fun j hj => h j (by omega))
    obtain ⟨q1, q2⟩ := h K (by omega)
    have b := (am_bh_b t n (fp_pk t n K) (by omega) (by omega)).1 q2
    show 2 * ((K + 1 : Nat) : Int) ≤ am_bh t n (fp_pk t n K) ∧ am_bh t n (fp_pk t n K) ≤ n
    omega
def fp_w (t : Nat → Int) (n p : Int) : Int := am_dv t n 3 (p + 1) 0
def fp_2 (t : Nat → Int) (n q : Int) : Int := 10 * am_dt t n q + am_dt t n (q + 1)
/-- the STATEMENT at p is as it must be on the field F -/
def fp_ok (t : Nat → Int) (n : Int) (F : am_N) (p : Int) : Prop :=
  if am_nx t n p = 119 then 20 ≤ fp_w t n p ∧ fp_w t n p ≤ 200
  else if am_nx t n p = 114 then F 0 4 < 4 ∧ am_dt t n (p + 1) ≤ 5 ∧ 5 ≤ fp_2 t n (p + 3) ∧ fp_2 t n (p + 3) ≤ 40 ∧ fp_2 t n (p + 5) ≤ 20
  else if am_nx t n p = 109 then am_dt t n (p + 1) ≤ 4 ∧ 1 ≤ am_dt t n (p + 2)
  else if am_nx t n p = 115 then am_dt t n (p + 1) < F 0 4
  else 0 < F 0 4 ∧ F 0 1 < 999
def fp_cr (t : Nat → Int) (n : Int) (F : am_N) (p : Int) : am_N :=
  if am_nx t n p = 119 then am_up F 0 0 (fp_w t n p)
  else if am_nx t n p = 114 then am_up (am_up (am_up (am_up (am_up (am_up (am_up F 1 (F 0 4).toNat (am_dt t n (p + 1))) 2 (F 0 4).toNat (am_dt t n (p + 2))) 3 (F 0 4).toNat (fp_2 t n (p + 3))) 4 (F 0 4).toNat (fp_2 t n (p + 5))) 5 (F 0 4).toNat (fp_2 t n (p + 7))) 6 (F 0 4).toNat 0) 0 4 (F 0 4 + 1)
  else if am_nx t n p = 109 then am_up (am_up F 0 2 (am_dt t n (p + 1))) 0 3 (am_dt t n (p + 2))
  else if am_nx t n p = 115 then am_up F 5 (am_dt t n (p + 1)).toNat (fp_2 t n (p + 2))
  else fp_rn F
/-- what comes of it -/
def fp_cf (t : Nat → Int) (n : Int) (F : am_N) (p : Int) : am_N := fp_ct (fp_cr t n F p)
def fp_fk (t : Nat → Int) (n : Int) (F : am_N) : Nat → am_N
  | 0 => F
  | k + 1 => fp_cf t n (fp_fk t n F k) (fp_pk t n k)
def fp_okp (t : Nat → Int) (n : Int) (F : am_N) (K : Nat) : Prop := ∀ j : Nat, j < K → fp_ok t n (fp_fk t n F j) (fp_pk t n j)
theorem fp_okp_0 {t : Nat → Int} {n : Int} {F : am_N} : fp_okp t n F 0 := fun j h => absurd h (Nat.not_lt_zero j)
theorem fp_okp_s {t : Nat → Int} {n : Int} {F : am_N} {K : Nat} (h : fp_okp t n F K) (h1 : fp_ok t n (fp_fk t n F K) (fp_pk t n K)) : fp_okp t n F (K + 1) := fun j hj => by
  by_cases e : j = K
  · subst e; exact h1
  · exact h j (by omega)
/-- what a LANE answers, and the field then -/
def fp_LN (t : Nat → Int) (n : Int) (F : am_N) (r : Int) (G : am_N) : Prop :=
  (∃ K : Nat, fp_pr t n K ∧ (fp_pk t n K < n ∨ K = 0) ∧ am_bh t n (fp_pk t n K) < 0 ∧ r = -1000 - (-1 - am_bh t n (fp_pk t n K)) ∧ G = F) ∨
  ∃ K : Nat, 1 ≤ K ∧ fp_pr t n K ∧ n ≤ fp_pk t n K ∧ ((∃ j : Nat, j < K ∧ fp_okp t n F j ∧ ¬ fp_ok t n (fp_fk t n F j) (fp_pk t n j) ∧ r = -2000 - fp_pk t n j ∧ G = F) ∨ (fp_okp t n F K ∧ r = K ∧ G = fp_fk t n F K))
theorem fp_LN_u {t : Nat → Int} {n : Int} {F G G' : am_N} {r r' : Int} (h : fp_LN t n F r G) (h' : fp_LN t n F r' G') : r = r' ∧ G = G' := by
  rcases h with ⟨K, a1, a2, a3, a4, a5⟩ | ⟨K, a1, a2, a3, a4⟩ <;> rcases h' with ⟨L, b1, b2, b3, b4, b5⟩ | ⟨L, b1, b2, b3, b4⟩
  · have e : K = L := by
      rcases Nat.lt_trichotomy K L with q | q | q
      · have := (b1 K q).2; omega
      · exact q
      · have := (a1 L q).2; omega
    subst e
    exact ⟨by omega, by rw [a5, b5]⟩
  · exfalso
    rcases Nat.lt_trichotomy K L with q | q | q
    · have := (b2 K q).2; omega
    · subst q; omega
    · have := (a1 L q).1; omega
  · exfalso
    rcases Nat.lt_trichotomy K L with q | q | q
    · have := (b1 K q).1; omega
    · subst q; omega
    · have := (a2 L q).2; omega
  · have e : K = L := by
      rcases Nat.lt_trichotomy K L with q | q | q
      · have := (b2 K q).1; omega
      · exact q
      · have := (a2 L q).1; omega
    subst e
    rcases a4 with ⟨i, c1, c2, c3, c4, c5⟩ | ⟨c1, c2, c3⟩ <;> rcases b4 with ⟨j, d1, d2, d3, d4, d5⟩ | ⟨d1, d2, d3⟩
    · have e : i = j := by
        rcases Nat.lt_trichotomy i j with q | q | q
        · exact absurd (d2 i q) c3
        · exact q
        · exact absurd (c2 j q) d3
      subst e
      exact ⟨by omega, by rw [c5, d5]⟩
    · exact absurd (d1 i c1) c3
    · exact absurd (c1 j d1) d3
    · exact ⟨by omega, by rw [c3, d3]⟩
theorem fp_2_b {t : Nat → Int} {n q : Int} (h0 : 0 ≤ am_dt t n q) (h1 : 0 ≤ am_dt t n (q + 1)) : 0 ≤ fp_2 t n q ∧ fp_2 t n q ≤ 99 := by
  have a := am_dt_b t n q
  have b := am_dt_b t n (q + 1)
  unfold fp_2; omega
theorem am_ld_114 {c : Int} (h : c = 114) : am_ld c = 8 := by subst h; rfl
theorem am_ld_109 {c : Int} (h : c = 109) : am_ld c = 2 := by subst h; rfl
theorem am_ld_115 {c : Int} (h : c = 115) : am_ld c = 3 := by subst h; rfl
theorem fp_cf_w {t : Nat → Int} {n p : Int} {F : am_N} (h : am_nx t n p = 119) : fp_cf t n F p = fp_ct (am_up F 0 0 (fp_w t n p)) := by
  unfold fp_cf fp_cr; rw [if_pos h]
theorem fp_cf_r {t : Nat → Int} {n p : Int} {F : am_N} (h : am_nx t n p = 114) : fp_cf t n F p = fp_ct (am_up (am_up (am_up (am_up (am_up (am_up (am_up F 1 (F 0 4).toNat (am_dt t n (p + 1))) 2 (F 0 4).toNat (am_dt t n (p + 2))) 3 (F 0 4).toNat (fp_2 t n (p + 3))) 4 (F 0 4).toNat (fp_2 t n (p + 5))) 5 (F 0 4).toNat (fp_2 t n (p + 7))) 6 (F 0 4).toNat 0) 0 4 (F 0 4 + 1)) := by
  unfold fp_cf fp_cr; rw [if_neg (by omega), if_pos h]
theorem fp_cf_m {t : Nat → Int} {n p : Int} {F : am_N} (h : am_nx t n p = 109) : fp_cf t n F p = fp_ct (am_up (am_up F 0 2 (am_dt t n (p + 1))) 0 3 (am_dt t n (p + 2))) := by
  unfold fp_cf fp_cr; rw [if_neg (by omega), if_neg (by omega), if_pos h]
theorem fp_cf_s {t : Nat → Int} {n p : Int} {F : am_N} (h : am_nx t n p = 115) : fp_cf t n F p = fp_ct (am_up F 5 (am_dt t n (p + 1)).toNat (fp_2 t n (p + 2))) := by
  unfold fp_cf fp_cr; rw [if_neg (by omega), if_neg (by omega), if_neg (by omega), if_pos h]
theorem fp_ct_ct (F : am_N) : fp_ct (fp_ct F) = fp_ct F := by
  funext a b
  unfold fp_ct
  cases fp_in a b <;> rfl
theorem fp_cf_g {t : Nat → Int} {n p : Int} {F : am_N} (h1 : am_nx t n p ≠ 119) (h2 : am_nx t n p ≠ 114) (h3 : am_nx t n p ≠ 109) (h4 : am_nx t n p ≠ 115) : fp_cf t n F p = fp_rn F := by
  unfold fp_cf fp_cr; rw [if_neg h1, if_neg h2, if_neg h3, if_neg h4]
  unfold fp_rn
  exact fp_ct_ct _
theorem fp_ok_w {t : Nat → Int} {n p : Int} {F : am_N} (h : am_nx t n p = 119) : fp_ok t n F p ↔ (20 ≤ fp_w t n p ∧ fp_w t n p ≤ 200) := by
  unfold fp_ok; rw [if_pos h]
theorem fp_ok_r {t : Nat → Int} {n p : Int} {F : am_N} (h : am_nx t n p = 114) : fp_ok t n F p ↔ (F 0 4 < 4 ∧ am_dt t n (p + 1) ≤ 5 ∧ 5 ≤ fp_2 t n (p + 3) ∧ fp_2 t n (p + 3) ≤ 40 ∧ fp_2 t n (p + 5) ≤ 20) := by
  unfold fp_ok; rw [if_neg (by omega), if_pos h]
theorem fp_ok_m {t : Nat → Int} {n p : Int} {F : am_N} (h : am_nx t n p = 109) : fp_ok t n F p ↔ (am_dt t n (p + 1) ≤ 4 ∧ 1 ≤ am_dt t n (p + 2)) := by
  unfold fp_ok; rw [if_neg (by omega), if_neg (by omega), if_pos h]
theorem fp_ok_s {t : Nat → Int} {n p : Int} {F : am_N} (h : am_nx t n p = 115) : fp_ok t n F p ↔ am_dt t n (p + 1) < F 0 4 := by
  unfold fp_ok; rw [if_neg (by omega), if_neg (by omega), if_neg (by omega), if_pos h]
theorem fp_ok_g {t : Nat → Int} {n p : Int} {F : am_N} (h1 : am_nx t n p ≠ 119) (h2 : am_nx t n p ≠ 114) (h3 : am_nx t n p ≠ 109) (h4 : am_nx t n p ≠ 115) : fp_ok t n F p ↔ (0 < F 0 4 ∧ F 0 1 < 999) := by
  unfold fp_ok; rw [if_neg h1, if_neg h2, if_neg h3, if_neg h4]
theorem fw_ct {W : Int} {F : am_N} (h : fp_fw W F) : fp_fw W (fp_ct F) := by
  obtain ⟨h0, h1, h2, h3, h4, h5, h6⟩ := h
  have e : ∀ b : Nat, b < 5 → fp_ct F 0 b = F 0 b := fun b hb => fp_ct_i (fp_in_0 hb)
  have ea : ∀ a b : Nat, 0 < a → a < 7 → b < 4 → fp_ct F a b = F a b := fun a b p q r => fp_ct_i (fp_in_a p q r)
  unfold fp_fw
  rw [e 0 (by decide), e 1 (by decide), e 2 (by decide), e 3 (by decide), e 4 (by decide)]
  refine ⟨h0, h1, h2, h3, h4, fun i hi => ?_, fun i hi => ?_⟩
  · rw [ea 5 i (by decide) (by decide) hi]; exact h5 i hi
  · have i4 : i < 4 := by omega
    rw [ea 1 i (by decide) (by decide) i4, ea 2 i (by decide) (by decide) i4, ea 3 i (by decide) (by decide) i4, ea 4 i (by decide) (by decide) i4]
    exact h6 i hi
/-- a row's number behind the last, or one of no bounds -/
theorem fw_arr {W : Int} {F : am_N} {a j : Nat} {v : Int} (h : fp_fw W F) (ha : 0 < a) (hv : a = 5 → 0 ≤ v ∧ v ≤ 99) (hj : F 0 4 ≤ (j : Int) ∨ 5 ≤ a) : fp_fw W (am_up F a j v) := by
  obtain ⟨h0, h1, h2, h3, h4, h5, h6⟩ := h
  have e : ∀ b : Nat, am_up F a j v 0 b = F 0 b := fun b => am_upN (by omega)
  unfold fp_fw
  rw [e 0, e 1, e 2, e 3, e 4]
  refine ⟨h0, h1, h2, h3, h4, fun i hi => ?_, fun i hi => ?_⟩
  · by_cases z : 5 = a ∧ i = j
    · rw [am_upS, if_pos z]; exact hv z.1.symm
    · rw [am_uE z]; exact h5 i hi
  · have g : ∀ c : Nat, c < 5 → am_up F a j v c i = F c i := fun c hc => am_uE (fun z => by omega)
    rw [g 1 (by decide), g 2 (by decide), g 3 (by decide), g 4 (by decide)]
    exact h6 i hi
theorem fw_n1 {W : Int} {F : am_N} {v : Int} (h : fp_fw W F) (hn : F 0 4 < 4) (hv : v = F 0 4 + 1) (hk : (0 ≤ F 1 (F 0 4).toNat ∧ F 1 (F 0 4).toNat ≤ 5) ∧ (0 ≤ F 2 (F 0 4).toNat ∧ F 2 (F 0 4).toNat ≤ 9) ∧ (5 ≤ F 3 (F 0 4).toNat ∧ F 3 (F 0 4).toNat ≤ 40) ∧ (0 ≤ F 4 (F 0 4).toNat ∧ F 4 (F 0 4).toNat ≤ 20)) : fp_fw W (am_up F 0 4 v) := by
  subst hv
  obtain ⟨h0, h1, h2, h3, h4, h5, h6⟩ := h
  have e : ∀ b : Nat, b ≠ 4 → am_up F 0 4 (F 0 4 + 1) 0 b = F 0 b := fun b hb => am_upM hb
  have e4 : am_up F 0 4 (F 0 4 + 1) 0 4 = F 0 4 + 1 := if_pos ⟨rfl, rfl⟩
  have ea : ∀ a b : Nat, 0 < a → am_up F 0 4 (F 0 4 + 1) a b = F a b := fun a b ha => am_upN (by omega)
  unfold fp_fw
  rw [e 0 (by decide), e 1 (by decide), e 2 (by decide), e 3 (by decide), e4]
  refine ⟨h0, h1, h2, h3, by omega, fun i hi => ?_, fun i hi => ?_⟩
  · rw [ea 5 i (by decide)]; exact h5 i hi
  · rw [ea 1 i (by decide), ea 2 i (by decide), ea 3 i (by decide), ea 4 i (by decide)]
    by_cases d : (i : Int) < F 0 4
    · exact h6 i d
    · rw [show i = (F 0 4).toNat by omega]; exact hk
theorem fw_way {W : Int} {F : am_N} {v : Int} (h : fp_fw W F) (hv : 20 ≤ v ∧ v ≤ 200) : fp_fw W (am_up F 0 0 v) := by
  obtain ⟨h0, h1, h2, h3, h4, h5, h6⟩ := h
  have e : ∀ b : Nat, b ≠ 0 → am_up F 0 0 v 0 b = F 0 b := fun b hb => am_upM hb
  have e4 : am_up F 0 0 v 0 0 = v := if_pos ⟨rfl, rfl⟩
  have ea : ∀ a b : Nat, 0 < a → am_up F 0 0 v a b = F a b := fun a b ha => am_upN (by omega)
  unfold fp_fw
  rw [e4, e 1 (by decide), e 2 (by decide), e 3 (by decide), e 4 (by decide)]
  refine ⟨hv, h1, h2, h3, h4, fun i hi => ?_, fun i hi => ?_⟩
  · rw [ea 5 i (by decide)]; exact h5 i hi
  · rw [ea 1 i (by decide), ea 2 i (by decide), ea 3 i (by decide), ea 4 i (by decide)]; exact h6 i hi
theorem fw_rule {W : Int} {F : am_N} {v w : Int} (h : fp_fw W F) (hv : 0 ≤ v ∧ v ≤ 4) (hw : 1 ≤ w ∧ w ≤ 9) : fp_fw W (am_up (am_up F 0 2 v) 0 3 w) := by
  obtain ⟨h0, h1, h2, h3, h4, h5, h6⟩ := h
  have e : ∀ b : Nat, b ≠ 2 → b ≠ 3 → am_up (am_up F 0 2 v) 0 3 w 0 b = F 0 b := fun b hb hc => (am_upM hc).trans (am_upM hb)
  have e2 : am_up (am_up F 0 2 v) 0 3 w 0 2 = v := (am_upM (by decide)).trans (if_pos ⟨rfl, rfl⟩)
  have e3 : am_up (am_up F 0 2 v) 0 3 w 0 3 = w := if_pos ⟨rfl, rfl⟩
  have ea : ∀ a b : Nat, 0 < a → am_up (am_up F 0 2 v) 0 3 w a b = F a b := fun a b ha => (am_upN (by omega)).trans (am_upN (by omega))
  unfold fp_fw
  rw [e 0 (by decide) (by decide), e 1 (by decide) (by decide), e2, e3, e 4 (by decide) (by decide)]
  refine ⟨h0, h1, hv, hw, h4, fun i hi => ?_, fun i hi => ?_⟩
  · rw [ea 5 i (by decide)]; exact h5 i hi
  · rw [ea 1 i (by decide), ea 2 i (by decide), ea 3 i (by decide), ea 4 i (by decide)]; exact h6 i hi
/-- what comes is as it must be -/
theorem fw_cf {t : Nat → Int} {n p : Int} {F : am_N} (hf : fp_fw 999 F) (h : fp_ok t n F p) (h0 : 0 ≤ p) (hb : 0 ≤ am_bh t n p) : fp_fw 999 (fp_cf t n F p) := by
  have dg := am_bh_d hb h0
  by_cases c1 : am_nx t n p = 119
  · rw [fp_ok_w c1] at h
    rw [fp_cf_w c1]
    exact fw_ct (fw_way hf h)
  · have dg := dg c1
    by_cases c2 : am_nx t n p = 114
    · rw [fp_ok_r c2] at h
      rw [am_ld_114 c2] at dg
      have d1 : 0 ≤ am_dt t n (p + 1) := (Int.add_zero (p + 1)) ▸ dg 0 (by decide)
      have d2 : 0 ≤ am_dt t n (p + 1 + 1) := dg 1 (by decide)
      have d5 : 0 ≤ am_dt t n (p + 1 + 4) := dg 4 (by decide)
      have d6 : 0 ≤ am_dt t n (p + 1 + 5) := dg 5 (by decide)
      have d7 : 0 ≤ am_dt t n (p + 1 + 6) := dg 6 (by decide)
      have d8 : 0 ≤ am_dt t n (p + 1 + 7) := dg 7 (by decide)
      rw [show p + 1 + 1 = p + 2 by omega] at d2
      have b5 := fp_2_b (q := p + 5) (by rw [show p + 5 = p + 1 + 4 by omega]; exact d5) (by rw [show p + 5 + 1 = p + 1 + 5 by omega]; exact d6)
      have b7 := fp_2_b (q := p + 7) (by rw [show p + 7 = p + 1 + 6 by omega]; exact d7) (by rw [show p + 7 + 1 = p + 1 + 7 by omega]; exact d8)
      have e2 := am_dt_b t n (p + 2)
      have f4 := hf.2.2.2.2.1
      have hj : F 0 4 ≤ (((F 0 4).toNat : Nat) : Int) := by omega
      rw [fp_cf_r c2]
      have g1 : fp_fw 999 (am_up F 1 (F 0 4).toNat (am_dt t n (p + 1))) := fw_arr hf (by decide) (fun z => absurd z (by decide)) (Or.inl hj)
      have g2 : fp_fw 999 (am_up (am_up F 1 (F 0 4).toNat (am_dt t n (p + 1))) 2 (F 0 4).toNat (am_dt t n (p + 2))) := fw_arr g1 (by decide) (fun z => absurd z (by decide)) (Or.inl (by rw [am_upN (by decide)]; exact hj))
      have g3 : fp_fw 999 (am_up (am_up (am_up F 1 (F 0 4).toNat (am_dt t n (p + 1))) 2 (F 0 4).toNat (am_dt t n (p + 2))) 3 (F 0 4).toNat (fp_2 t n (p + 3))) := fw_arr g2 (by decide) (fun z => absurd z (by decide)) (Or.inl (by rw [am_upN (by decide), am_upN (by decide)]; exact hj))
      have g4 : fp_fw 999 (am_up (am_up (am_up (am_up F 1 (F 0 4).toNat (am_dt t n (p + 1))) 2 (F 0 4).toNat (am_dt t n (p + 2))) 3 (F 0 4).toNat (fp_2 t n (p + 3))) 4 (F 0 4).toNat (fp_2 t n (p + 5))) := fw_arr g3 (by decide) (fun z => absurd z (by decide)) (Or.inl (by rw [am_upN (by decide), am_upN (by decide), am_upN (by decide)]; exact hj))
      have g5 := fw_arr (a := 5) (j := (F 0 4).toNat) (v := fp_2 t n (p + 7)) g4 (by decide) (fun _ => b7) (Or.inr (by decide))
      have g6 := fw_arr (a := 6) (j := (F 0 4).toNat) (v := 0) g5 (by decide) (fun z => absurd z (by decide)) (Or.inr (by decide))
      have n6 : am_up (am_up (am_up (am_up (am_up (am_up F 1 (F 0 4).toNat (am_dt t n (p + 1))) 2 (F 0 4).toNat (am_dt t n (p + 2))) 3 (F 0 4).toNat (fp_2 t n (p + 3))) 4 (F 0 4).toNat (fp_2 t n (p + 5))) 5 (F 0 4).toNat (fp_2 t n (p + 7))) 6 (F 0 4).toNat 0 0 4 = F 0 4 := by
        rw [am_upN (by decide), am_upN (by decide), am_upN (by decide), am_upN (by decide), am_upN (by decide), am_upN (by decide)]
      refine fw_ct (fw_n1 g6 (by rw [n6]; exact h.1) (by rw [n6]) ?_)
      rw [n6]
      refine ⟨?_, ?_, ?_, ?_⟩
      · rw [am_upN (by decide), am_upN (by decide), am_upN (by decide), am_upN (by decide), am_upN (by decide), am_upS, if_pos ⟨rfl, rfl⟩]; exact ⟨d1, h.2.1⟩
      · rw [am_upN (by decide), am_upN (by decide), am_upN (by decide), am_upN (by decide), am_upS, if_pos ⟨rfl, rfl⟩]; exact ⟨d2, e2.2⟩
      · rw [am_upN (by decide), am_upN (by decide), am_upN (by decide), am_upS, if_pos ⟨rfl, rfl⟩]; exact ⟨h.2.2.1, h.2.2.2.1⟩
      · rw [am_upN (by decide), am_upN (by decide), am_upS, if_pos ⟨rfl, rfl⟩]; exact ⟨b5.1, h.2.2.2.2⟩
    · by_cases c3 : am_nx t n p = 109
      · rw [fp_ok_m c3] at h
        rw [am_ld_109 c3] at dg
        have d1 : 0 ≤ am_dt t n (p + 1) := (Int.add_zero (p + 1)) ▸ dg 0 (by decide)
        have e2 := am_dt_b t n (p + 2)
        rw [fp_cf_m c3]
        exact fw_ct (fw_rule hf ⟨d1, h.1⟩ ⟨h.2, e2.2⟩)
      · by_cases c4 : am_nx t n p = 115
        · rw [fp_ok_s c4] at h
          rw [am_ld_115 c4] at dg
          have d2 : 0 ≤ am_dt t n (p + 1 + 1) := dg 1 (by decide)
          have d3 : 0 ≤ am_dt t n (p + 1 + 2) := dg 2 (by decide)
          have b2 := fp_2_b (q := p + 2) (by rw [show p + 2 = p + 1 + 1 by omega]; exact d2) (by rw [show p + 2 + 1 = p + 1 + 2 by omega]; exact d3)
          rw [fp_cf_s c4]
          exact fw_ct (fw_arr hf (by decide) (fun _ => b2) (Or.inr (by decide)))
        · rw [fp_ok_g c1 c2 c3 c4] at h
          rw [fp_cf_g c1 c2 c3 c4]
          exact fw_rn (W := F 0 1) (V := 999) ⟨hf.1, ⟨hf.2.1.1, Int.le_refl _⟩, hf.2.2⟩ (by omega)
theorem fw_fk {t : Nat → Int} {n : Int} {F : am_N} (h0 : 0 ≤ n) (hf : fp_fw 999 F) : ∀ K : Nat, fp_pr t n K → fp_okp t n F K → fp_fw 999 (fp_fk t n F K)
  | 0, _, _ => hf
  | K + 1, h, g => by
    have b := fp_pk_b h0 K (fun j hj => h j (by omega))
    exact fw_cf (fw_fk h0 hf K (fun j hj => h j (by omega)) (fun j hj => g j (by omega))) (g K (by omega)) (by omega) (h K (by omega)).2
theorem x_lat {l : Launch} {ν : am_N} {Q : Option am_V → am_N → Prop} (t : Nat → Int) (n i : Int) (ht : ν 37 = t) (hn : ν 36 1 = n) (n0 : 0 ≤ n) (n1 : n ≤ 96) (hL : ∀ i : Nat, (i : Int) < n → 0 ≤ t i ∧ t i ≤ 255) (i0 : -1000 ≤ i) (i1 : i ≤ 1000) (k : ∀ v : Int, v = am_nx t n i → -1 ≤ v → v ≤ 255 → am_c v = v → Q (some (.inl v)) ν) : am_Does l 43 [.inr (.inr 36), .inl i] ν Q := by
  refine am_Does_of (Nat.le_of_ble_eq_true rfl) (Nat.le_of_ble_eq_true rfl) (Nat.le_of_ble_eq_true rfl) ?_
  have l0 : am_c 0 = 0 := rfl
  have l1 : am_c 1 = 1 := rfl
  have l3 : am_c 3 = 3 := rfl
  have l4 : am_c 4 = 4 := rfl
  have l5 : am_c 5 = 5 := rfl
  have l20 : am_c 20 = 20 := rfl
  have l40 : am_c 40 = 40 := rfl
  have l48 : am_c 48 = 48 := rfl
  have l57 : am_c 57 = 57 := rfl
  have l59 : am_c 59 = 59 := rfl
  have l119 : am_c 119 = 119 := rfl
  have l200 : am_c 200 = 200 := rfl
  have l999 : am_c 999 = 999 := rfl
  have ci : am_c i = i := am_cR (by omega) (by omega)
  have cn : am_c (ν 36 1) = n := by rw [hn]; exact am_cR (by omega) (by omega)
  have hb := am_nx_b hL i
  have kk := k _ rfl hb.1 hb.2 (am_cR (by omega) (by omega))
  clear hb
  refine am_go (ct := fun _ => false) am_oX3_at 300 ?_
  conv => whnf
  repeat' first
    | (refine (?_ : am_wp _ _ _ _ _ _ _ _ _ _ _ _); conv => whnf)
    | (refine (?_ : am_sw _ _ _ _); conv => whnf)
    | refine And.intro trivial ?_
    | exact trivial
    | refine am_qe kk ?_
    | refine And.intro (fun h => absurd h (by decide)) (fun _ => ?_)
    | refine And.intro (fun _ => ?_) (fun h => absurd (by decide) h)
    | refine And.intro (fun _ => ?_) (fun _ => ?_)
    | refine And.intro ?_ ?_
  all_goals (first | decide | omega | (unfold am_nx; rw [if_pos (by omega), ci, ht]) | (unfold am_nx; rw [if_neg (by omega)]) | (trace_state; fail))
theorem x_digit {l : Launch} {ν : am_N} {Q : Option am_V → am_N → Prop} (t : Nat → Int) (n p : Int) (ht : ν 37 = t) (hn : ν 36 1 = n) (n0 : 0 ≤ n) (n1 : n ≤ 96) (hL : ∀ i : Nat, (i : Int) < n → 0 ≤ t i ∧ t i ≤ 255) (i0 : -1000 ≤ p) (i1 : p ≤ 1000) (k : ∀ d : Int, d = am_dt t n p → -1 ≤ d → d ≤ 9 → am_c d = d → Q (some (.inl d)) ν) : am_Does l 54 [.inr (.inr 35), .inl p] ν Q := by
  refine am_Does_of (Nat.le_of_ble_eq_true rfl) (Nat.le_of_ble_eq_true rfl) (Nat.le_of_ble_eq_true rfl) ?_
  have l0 : am_c 0 = 0 := rfl
  have l1 : am_c 1 = 1 := rfl
  have l3 : am_c 3 = 3 := rfl
  have l4 : am_c 4 = 4 := rfl
  have l5 : am_c 5 = 5 := rfl
  have l20 : am_c 20 = 20 := rfl
  have l40 : am_c 40 = 40 := rfl
  have l48 : am_c 48 = 48 := rfl
  have l57 : am_c 57 = 57 := rfl
  have l59 : am_c 59 = 59 := rfl
  have l119 : am_c 119 = 119 := rfl
  have l200 : am_c 200 = 200 := rfl
  have l999 : am_c 999 = 999 := rfl
  have hb := am_dt_b t n p
  have kk := k _ rfl hb.1 hb.2 (am_cR (by omega) (by omega))
  clear hb
  refine am_go (ct := fun _ => false) am_oX5_digit 300 ?_
  conv => whnf
  repeat' first
    | (refine (?_ : am_wp _ _ _ _ _ _ _ _ _ _ _ _); conv => whnf)
    | (refine (?_ : am_sw _ _ _ _); conv => whnf)
    | refine And.intro trivial ?_
    | exact trivial
    | ((with_reducible refine (?_ : am_Does _ 43 _ _ _)); refine x_lat t n _ ?_ ?_ n0 n1 hL ?_ ?_ (fun v ev v0 v1 cv => ?_))
    | refine am_qe kk ?_
    | refine And.intro (fun h => absurd h (by decide)) (fun _ => ?_)
    | refine And.intro (fun _ => ?_) (fun h => absurd (by decide) h)
    | refine And.intro (fun _ => ?_) (fun _ => ?_)
    | refine And.intro ?_ ?_
  all_goals (first | decide | exact ht | exact hn | omega | (rw [am_dt_i (by omega) (by omega)]; omega) | (rw [am_dt_o (by omega)]) | (trace_state; fail))
theorem x_two {l : Launch} {ν : am_N} {Q : Option am_V → am_N → Prop} (t : Nat → Int) (n p : Int) (ht : ν 37 = t) (hn : ν 36 1 = n) (n0 : 0 ≤ n) (n1 : n ≤ 96) (hL : ∀ i : Nat, (i : Int) < n → 0 ≤ t i ∧ t i ≤ 255) (i0 : -1000 ≤ p) (i1 : p ≤ 999) (k : ∀ d : Int, d = fp_2 t n p → am_c d = d → Q (some (.inl d)) ν) : am_Does l 55 [.inr (.inr 35), .inl p] ν Q := by
  refine am_Does_of (Nat.le_of_ble_eq_true rfl) (Nat.le_of_ble_eq_true rfl) (Nat.le_of_ble_eq_true rfl) ?_
  have hb := am_dt_b t n p
  have hb2 := am_dt_b t n (p + 1)
  have kk := k _ rfl (am_cR (by unfold fp_2; omega) (by unfold fp_2; omega))
  clear hb hb2
  refine am_go (ct := fun _ => false) am_oX5_two 300 ?_
  conv => whnf
  repeat' first
    | (refine (?_ : am_wp _ _ _ _ _ _ _ _ _ _ _ _); conv => whnf)
    | (refine (?_ : am_sw _ _ _ _); conv => whnf)
    | refine And.intro trivial ?_
    | exact trivial
    | ((with_reducible refine (?_ : am_Does _ 54 _ _ _)); refine x_digit t n _ ?_ ?_ n0 n1 hL ?_ ?_ (fun u eu u0 u1 cu => ?_))
    | refine am_qe kk ?_
    | refine And.intro (fun h => absurd h (by decide)) (fun _ => ?_)
    | refine And.intro (fun _ => ?_) (fun h => absurd (by decide) h)
    | refine And.intro (fun _ => ?_) (fun _ => ?_)
    | refine And.intro ?_ ?_
  all_goals (first | decide | exact ht | exact hn | omega | (unfold fp_2; omega) | (unfold fp_2; subst_vars; rfl) | (trace_state; fail))
theorem x_most {l : Launch} {μ : am_N} {Q : Option am_V → am_N → Prop} (c : Int) (c0 : -1 ≤ c) (c1 : c ≤ 255) (k : ∀ m : Int, m = am_ld c → -1 ≤ m → m ≤ 8 → am_c m = m → Q (some (.inl m)) μ) : am_Does l 53 [.inl c] μ Q := by
  refine am_Does_of (Nat.le_of_ble_eq_true rfl) (Nat.le_of_ble_eq_true rfl) (Nat.le_of_ble_eq_true rfl) ?_
  have cc : am_c c = c := am_cR (by omega) (by omega)
  have hb := am_ld_b c
  have kk := k _ rfl hb.1 hb.2 (am_cR (by omega) (by omega))
  clear hb
  refine am_go (ct := fun _ => false) am_oX5_mostDigits 300 ?_
  conv => whnf
  repeat' first
    | (refine (?_ : am_wp _ _ _ _ _ _ _ _ _ _ _ _); conv => whnf)
    | (refine (?_ : am_sw _ _ _ _); conv => whnf)
    | refine And.intro trivial ?_
    | exact trivial
    | refine am_qe kk ?_
    | refine And.intro (fun h => absurd h (by decide)) (fun _ => ?_)
    | refine And.intro (fun _ => ?_) (fun h => absurd (by decide) h)
    | refine And.intro (fun _ => ?_) (fun _ => ?_)
    | refine And.intro ?_ ?_
  all_goals (first | decide | omega | (unfold am_ld; repeat' split) <;> omega | (trace_state; fail))
theorem x_behindT {l : Launch} {ν : am_N} {Q : Option am_V → am_N → Prop} (t : Nat → Int) (n p : Int) (ht : ν 37 = t) (hn : ν 36 1 = n) (n0 : 0 ≤ n) (n1 : n ≤ 96) (hL : ∀ i : Nat, (i : Int) < n → 0 ≤ t i ∧ t i ≤ 255) (p0 : 0 ≤ p) (p1 : p ≤ n) (k : ∀ v : Int, v = am_bh t n p → (0 ≤ v → p + 1 < v ∧ v ≤ n) → (v < 0 → p ≤ -1 - v ∧ -1 - v ≤ n) → am_c v = v → Q (some (.inl v)) ν) : am_Does l 52 [.inr (.inr 35), .inl p] ν Q := by
  refine am_Does_of (Nat.le_of_ble_eq_true rfl) (Nat.le_of_ble_eq_true rfl) (Nat.le_of_ble_eq_true rfl) ?_
  have l0 : am_c 0 = 0 := rfl
  have l1 : am_c 1 = 1 := rfl
  have l3 : am_c 3 = 3 := rfl
  have l4 : am_c 4 = 4 := rfl
  have l5 : am_c 5 = 5 := rfl
  have l20 : am_c 20 = 20 := rfl
  have l40 : am_c 40 = 40 := rfl
  have l48 : am_c 48 = 48 := rfl
  have l57 : am_c 57 = 57 := rfl
  have l59 : am_c 59 = 59 := rfl
  have l119 : am_c 119 = 119 := rfl
  have l200 : am_c 200 = 200 := rfl
  have l999 : am_c 999 = 999 := rfl
  have hb := am_bh_b t n p p0 p1
  have kk := k _ rfl hb.1 hb.2 (am_cR (by omega) (by omega))
  clear hb
  have lp71 : ∀ (M L q : Int) (o5 : Option am_V), M = am_ld (am_nx t n p) → L = am_ls (am_nx t n p) → 0 ≤ M → q = am_dn t n M.toNat (p + 1) → p + 1 ≤ q → q ≤ p + 9 → am_AW l 0 (fun _ => 0) 52 Q 71 [some (.inr (.inr 35)), some (.inl p), some (.inl M), some (.inl L), some (.inl q), o5] [] ν := by
    intro M L q o5  hv0 hv1 hv2 hv3 hv4 hv5
    have hl := am_ls_b (am_nx t n p)
    have cl : am_c L = L := am_cR (by omega) (by omega)
    have cd : am_c (q - p - 1) = q - p - 1 := am_cR (by omega) (by omega)
    have cq : am_c q = q := am_cR (by omega) (by omega)
    refine am_go (ct := fun pc => Nat.beq pc 71 || Nat.beq pc 47) am_oX5_behind 300 ?_
    conv => whnf
    repeat' first
      | (refine (?_ : am_wp _ _ _ _ _ _ _ _ _ _ _ _); conv => whnf)
      | (refine (?_ : am_sw _ _ _ _); conv => whnf)
      | refine And.intro trivial ?_
      | exact trivial
      | ((with_reducible refine (?_ : am_Does _ 43 _ _ _)); first | refine x_lat t n _ ?_ ?_ n0 n1 hL ?_ ?_ (fun v ev v0 v1 cv => ?_) | refine x_lat t n _ ?_ ?_ n0 n1 hL ?_ ?_ (fun v ev v0 v1 cv => ?_))
      | refine am_qe kk ?_
      | ((with_reducible refine (?_ : am_Does _ 53 _ _ _)); refine x_most _ ?_ ?_ (fun m em m0 m1 cm => ?_))
      | refine am_qe kk ?_
      | refine And.intro (fun h => absurd h (by decide)) (fun _ => ?_)
      | refine And.intro (fun _ => ?_) (fun h => absurd (by decide) h)
      | refine And.intro (fun _ => ?_) (fun _ => ?_)
      | refine And.intro ?_ ?_
    all_goals (first | decide | exact ht | exact hn | omega | (rw [am_bh_2 hv0 hv1 hv2 hv3 (by omega)]) | (rw [am_bh_3 hv0 hv1 hv2 hv3 (by omega)]) | (trace_state; fail))
  have lp47 : ∀ (m : Nat) (M L q j : Int) , M = am_ld (am_nx t n p) → L = am_ls (am_nx t n p) → 0 ≤ j → j ≤ M → q = p + 1 + j → am_dn t n (M - j).toNat q = am_dn t n M.toNat (p + 1) → M - j < (m : Int) → am_AW l 0 (fun _ => 0) 52 Q 47 [some (.inr (.inr 35)), some (.inl p), some (.inl M), some (.inl L), some (.inl q), some (.inl j)] [] ν := by
    intro m
    induction m with
    | zero =>
      intro M L q j  hv0 hv1 hv2 hv3 hv4 hv5 hm
      exfalso
      omega
    | succ m ih =>
      intro M L q j  hv0 hv1 hv2 hv3 hv4 hv5 hm
      have hm := am_ld_b (am_nx t n p)
      have cj : am_c j = j := am_cR (by omega) (by omega)
      have cM : am_c M = M := am_cR (by omega) (by omega)
      refine am_go (ct := fun pc => Nat.beq pc 71 || Nat.beq pc 47) am_oX5_behind 300 ?_
      conv => whnf
      repeat' first
        | (refine (?_ : am_wp _ _ _ _ _ _ _ _ _ _ _ _); conv => whnf)
        | (refine (?_ : am_sw _ _ _ _); conv => whnf)
        | refine And.intro trivial ?_
        | exact trivial
        | ((with_reducible refine (?_ : am_Does _ 54 _ _ _)); refine x_digit t n _ ?_ ?_ n0 n1 hL ?_ ?_ (fun d ed d0 d1 cd => ?_))
        | ((with_reducible refine (?_ : am_Does _ 43 _ _ _)); refine x_lat t n _ ?_ ?_ n0 n1 hL ?_ ?_ (fun v ev v0 v1 cv => ?_))
        | ((with_reducible refine (?_ : am_Does _ 53 _ _ _)); refine x_most _ ?_ ?_ (fun m em m0 m1 cm => ?_))
        | refine am_qe kk ?_
        | ((with_reducible refine (?_ : am_AW _ _ _ _ _ 47 _ _ _)); refine ih _ _ _ _  ?_ ?_ ?_ ?_ ?_ ?_ ?_)
        | ((with_reducible refine (?_ : am_AW _ _ _ _ _ 71 _ _ _)); refine lp71 _ _ _ _  ?_ ?_ ?_ ?_ ?_ ?_)
        | refine And.intro (fun h => absurd h (by decide)) (fun _ => ?_)
        | refine And.intro (fun _ => ?_) (fun h => absurd (by decide) h)
        | refine And.intro (fun _ => ?_) (fun _ => ?_)
        | refine And.intro ?_ ?_
      all_goals (first | decide | exact ht | exact hn | omega | assumption | (rw [← hv5]; first | (exact (am_dn_z (by omega)).symm) | (exact (am_dn_s (by omega) (by omega)).symm)) | (trace_state; fail))
  have lp47' : ∀ (M L q j : Int) , M = am_ld (am_nx t n p) → L = am_ls (am_nx t n p) → 0 ≤ j → j ≤ M → q = p + 1 + j → am_dn t n (M - j).toNat q = am_dn t n M.toNat (p + 1) → am_AW l 0 (fun _ => 0) 52 Q 47 [some (.inr (.inr 35)), some (.inl p), some (.inl M), some (.inl L), some (.inl q), some (.inl j)] [] ν := fun M L q j  hv0 hv1 hv2 hv3 hv4 hv5 => lp47 ((M - j) + 1).toNat M L q j  hv0 hv1 hv2 hv3 hv4 hv5 (by omega)
  refine am_go (ct := fun pc => Nat.beq pc 71 || Nat.beq pc 47) am_oX5_behind 300 ?_
  conv => whnf
  repeat' first
    | (refine (?_ : am_wp _ _ _ _ _ _ _ _ _ _ _ _); conv => whnf)
    | (refine (?_ : am_sw _ _ _ _); conv => whnf)
    | refine And.intro trivial ?_
    | exact trivial
    | ((with_reducible refine (?_ : am_Does _ 43 _ _ _)); refine x_lat t n _ ?_ ?_ n0 n1 hL ?_ ?_ (fun v ev v0 v1 cv => ?_))
    | ((with_reducible refine (?_ : am_Does _ 53 _ _ _)); refine x_most _ ?_ ?_ (fun m em m0 m1 cm => ?_))
    | refine am_qe kk ?_
    | ((with_reducible refine (?_ : am_AW _ _ _ _ _ 47 _ _ _)); refine lp47' _ _ _ _  ?_ ?_ ?_ ?_ ?_ ?_)
    | ((with_reducible refine (?_ : am_AW _ _ _ _ _ 71 _ _ _)); refine lp71 _ _ _ _  ?_ ?_ ?_ ?_ ?_ ?_)
    | refine And.intro (fun h => absurd h (by decide)) (fun _ => ?_)
    | refine And.intro (fun _ => ?_) (fun h => absurd (by decide) h)
    | refine And.intro (fun _ => ?_) (fun _ => ?_)
    | refine And.intro ?_ ?_
  all_goals (first | decide | exact ht | exact hn | omega | (rw [am_bh_1 (by rw [← ev, ← em]; omega)]) | exact em.trans (congrArg am_ld (by assumption)) | (unfold am_ls; rw [if_pos (by omega)]) | (unfold am_ls; rw [if_neg (by omega)]; exact em.trans (congrArg am_ld (by assumption))) | (rw [show m - 0 = m by omega, show p + 1 + 0 = p + 1 by omega]) | (rw [show m - 0 = m by omega]) | (trace_state; fail))
theorem x_firstFault {l : Launch} {ν : am_N} {Q : Option am_V → am_N → Prop} (t : Nat → Int) (n : Int) (ht : ν 37 = t) (hn : ν 36 1 = n) (n0 : 0 ≤ n) (n1 : n ≤ 96) (hL : ∀ i : Nat, (i : Int) < n → 0 ≤ t i ∧ t i ≤ 255) (k1 : ∀ K : Nat, fp_pr t n K → (fp_pk t n K < n ∨ K = 0) → am_bh t n (fp_pk t n K) < 0 → Q (some (.inl (-1 - am_bh t n (fp_pk t n K)))) ν) (k2 : ∀ K : Nat, 1 ≤ K → fp_pr t n K → n ≤ fp_pk t n K → Q (some (.inl (-1))) ν) : am_Does l 51 [.inr (.inr 35)] ν Q := by
  refine am_Does_of (Nat.le_of_ble_eq_true rfl) (Nat.le_of_ble_eq_true rfl) (Nat.le_of_ble_eq_true rfl) ?_
  have l0 : am_c 0 = 0 := rfl
  have l1 : am_c 1 = 1 := rfl
  have l3 : am_c 3 = 3 := rfl
  have l4 : am_c 4 = 4 := rfl
  have l5 : am_c 5 = 5 := rfl
  have l20 : am_c 20 = 20 := rfl
  have l40 : am_c 40 = 40 := rfl
  have l48 : am_c 48 = 48 := rfl
  have l57 : am_c 57 = 57 := rfl
  have l59 : am_c 59 = 59 := rfl
  have l119 : am_c 119 = 119 := rfl
  have l200 : am_c 200 = 200 := rfl
  have l999 : am_c 999 = 999 := rfl
  have cn : am_c (ν 36 1) = n := by rw [hn]; exact am_cR (by omega) (by omega)
  have lp16 : ∀ (m : Nat) (a j : Int) (o3 : Option am_V) , 0 ≤ j → a = fp_pk t n j.toNat → fp_pr t n j.toNat → 1 ≤ n → n - j < (m : Int) → am_AW l 0 (fun _ => 0) 51 Q 16 [some (.inr (.inr 35)), some (.inl a), some (.inl j), o3] [] ν := by
    intro m
    induction m with
    | zero =>
      intro a j o3  hv0 hv1 hv2 hv3 hm
      have hb := fp_pk_b n0 j.toNat hv2
      exfalso
      omega
    | succ m ih =>
      intro a j o3  hv0 hv1 hv2 hv3 hm
      have hb := fp_pk_b n0 j.toNat hv2
      have ca : am_c a = a := am_cR (by omega) (by omega)
      have cj : am_c j = j := am_cR (by omega) (by omega)
      have ej : (j + 1).toNat = j.toNat + 1 := by omega
      refine am_go (ct := fun pc => Nat.beq pc 16) am_oX5_firstFault 300 ?_
      conv => whnf
      repeat' first
        | (refine (?_ : am_wp _ _ _ _ _ _ _ _ _ _ _ _); conv => whnf)
        | (refine (?_ : am_sw _ _ _ _); conv => whnf)
        | refine And.intro trivial ?_
        | exact trivial
        | ((with_reducible refine (?_ : am_Does _ 52 _ _ _)); refine x_behindT t n _ ?_ ?_ n0 n1 hL ?_ ?_ (fun v ev v0 v1 cv => ?_))
        | refine k2 j.toNat ?_ hv2 ?_
        | (refine am_qe (k1 j.toNat hv2 ?_ ?_) ?_)
        | (refine am_qe (k1 0 fp_pr_0 (Or.inr rfl) ?_) ?_)
        | ((with_reducible refine (?_ : am_AW _ _ _ _ _ 16 _ _ _)); refine ih _ _ _  ?_ ?_ ?_ ?_ ?_)
        | refine And.intro (fun h => absurd h (by decide)) (fun _ => ?_)
        | refine And.intro (fun _ => ?_) (fun h => absurd (by decide) h)
        | refine And.intro (fun _ => ?_) (fun _ => ?_)
        | refine And.intro ?_ ?_
      all_goals (first | decide | exact ht | exact hn | omega | (simp only [cn] at *; omega) | (rw [← hv1]; first | omega | (simp only [cn] at *; omega)) | (rw [← hv1, ← ev]; omega) | (rw [ej]; show v = am_bh t n (fp_pk t n j.toNat); rw [← hv1]; exact ev) | (rw [ej]; exact fp_pr_s hv2 (by omega) (by rw [← hv1]; omega)) | (have z : j.toNat ≠ 0 := (fun y => by rw [y] at hv1; have : a = 0 := hv1; simp only [cn] at *; omega); omega) | (trace_state; fail))
  have lp16' : ∀ (a j : Int) (o3 : Option am_V) , 0 ≤ j → a = fp_pk t n j.toNat → fp_pr t n j.toNat → 1 ≤ n → am_AW l 0 (fun _ => 0) 51 Q 16 [some (.inr (.inr 35)), some (.inl a), some (.inl j), o3] [] ν := fun a j o3  hv0 hv1 hv2 hv3 => lp16 ((n - j) + 1).toNat a j o3  hv0 hv1 hv2 hv3 (by omega)
  refine am_go (ct := fun pc => Nat.beq pc 16) am_oX5_firstFault 300 ?_
  conv => whnf
  repeat' first
    | (refine (?_ : am_wp _ _ _ _ _ _ _ _ _ _ _ _); conv => whnf)
    | (refine (?_ : am_sw _ _ _ _); conv => whnf)
    | refine And.intro trivial ?_
    | exact trivial
    | (refine am_qe (k1 0 fp_pr_0 (Or.inr rfl) ?_) ?_)
    | ((with_reducible refine (?_ : am_AW _ _ _ _ _ 16 _ _ _)); refine lp16' _ _ _  ?_ ?_ ?_ ?_)
    | refine And.intro (fun h => absurd h (by decide)) (fun _ => ?_)
    | refine And.intro (fun _ => ?_) (fun h => absurd (by decide) h)
    | refine And.intro (fun _ => ?_) (fun _ => ?_)
    | refine And.intro ?_ ?_
  all_goals (first | decide | exact ht | exact hn | omega | rfl | exact fp_pr_0 | (simp only [cn] at *; omega) | (have z : am_bh t n (fp_pk t n 0) = -1 - 0 := am_bh_1 (by rw [show am_nx t n (fp_pk t n 0) = -1 from if_neg (by show ¬(0 ≤ (0 : Int) ∧ (0 : Int) < n); simp only [cn] at *; omega)]; decide); omega) | (trace_state; fail))
theorem x_has8 {l : Launch} {ν : am_N} {Q : Option am_V → am_N → Prop} (i : Int) (f0 : 0 ≤ ν 8 4) (f1 : ν 8 4 ≤ 4) (k1 : 0 ≤ am_c i → am_c i < ν 8 4 → Q (some (.inl 1)) ν) (k0 : (am_c i < 0 ∨ ν 8 4 ≤ am_c i) → Q (some (.inl 0)) ν) : am_Does l 1 [.inr (.inr 8), .inl i] ν Q := by
  refine am_Does_of (Nat.le_of_ble_eq_true rfl) (Nat.le_of_ble_eq_true rfl) (Nat.le_of_ble_eq_true rfl) ?_
  have c4 : am_c (ν 8 4) = ν 8 4 := am_cR (by omega) (by omega)
  have l0 : am_c 0 = 0 := rfl
  refine am_go (ct := fun _ => false) am_oX0_has 300 ?_
  conv => whnf
  repeat' first
    | (refine (?_ : am_wp _ _ _ _ _ _ _ _ _ _ _ _); conv => whnf)
    | (refine (?_ : am_sw _ _ _ _); conv => whnf)
    | refine And.intro trivial ?_
    | exact trivial
    | refine k1 ?_ ?_
    | refine k0 ?_
    | refine And.intro (fun h => absurd h (by decide)) (fun _ => ?_)
    | refine And.intro (fun _ => ?_) (fun h => absurd (by decide) h)
    | refine And.intro (fun _ => ?_) (fun _ => ?_)
    | refine And.intro ?_ ?_
  all_goals (first | omega | (trace_state; fail))
theorem x_wayComes {l : Launch} {ν : am_N} {Q : Option am_V → am_N → Prop} (t : Nat → Int) (n p : Int) (ht : ν 37 = t) (hn : ν 36 1 = n) (n0 : 0 ≤ n) (n1 : n ≤ 96) (hL : ∀ i : Nat, (i : Int) < n → 0 ≤ t i ∧ t i ≤ 255) (p0 : 0 ≤ p) (p1 : p ≤ n) (k1 : 20 ≤ fp_w t n p → fp_w t n p ≤ 200 → Q (some (.inl 1)) (am_up ν 8 0 (fp_w t n p))) (k0 : ¬(20 ≤ fp_w t n p ∧ fp_w t n p ≤ 200) → Q (some (.inl 0)) ν) : am_Does l 57 [.inr (.inr 35), .inr (.inr 8), .inl p] ν Q := by
  refine am_Does_of (Nat.le_of_ble_eq_true rfl) (Nat.le_of_ble_eq_true rfl) (Nat.le_of_ble_eq_true rfl) ?_
  have l0 : am_c 0 = 0 := rfl
  have l1 : am_c 1 = 1 := rfl
  have l3 : am_c 3 = 3 := rfl
  have l4 : am_c 4 = 4 := rfl
  have l5 : am_c 5 = 5 := rfl
  have l20 : am_c 20 = 20 := rfl
  have l40 : am_c 40 = 40 := rfl
  have l48 : am_c 48 = 48 := rfl
  have l57 : am_c 57 = 57 := rfl
  have l59 : am_c 59 = 59 := rfl
  have l119 : am_c 119 = 119 := rfl
  have l200 : am_c 200 = 200 := rfl
  have l999 : am_c 999 = 999 := rfl
  have hw := am_dv_b t n 3 (p + 1) 0 (by decide)
  have hw3 : fp_w t n p ≤ 999 := hw.2
  have k1' := fun (x : Int) (e : x = fp_w t n p) a b => (show Q (some (.inl 1)) (am_up ν 8 0 x) by rw [e]; exact k1 a b)
  have lp7 : ∀ (m : Nat) (v q : Int) , p + 1 ≤ q → q ≤ p + 4 → 0 ≤ v → am_dv t n ((p + 4) - q).toNat q v = fp_w t n p → p + 4 - q < (m : Int) → am_AW l 0 (fun _ => 0) 57 Q 7 [some (.inr (.inr 35)), some (.inr (.inr 8)), some (.inl p), some (.inl v), some (.inl q)] [] ν := by
    intro m
    induction m with
    | zero =>
      intro v q  hv0 hv1 hv2 hv3 hm
      exfalso
      omega
    | succ m ih =>
      intro v q  hv0 hv1 hv2 hv3 hm
      have hz := (am_dv_b t n ((p + 4) - q).toNat q v hv2).1
      have cv : am_c v = v := am_cR (by omega) (by omega)
      have cq : am_c q = q := am_cR (by omega) (by omega)
      have cp : am_c (p + 3) = p + 3 := am_cR (by omega) (by omega)
      refine am_go (ct := fun pc => Nat.beq pc 7) am_oX5_wayComes 300 ?_
      conv => whnf
      repeat' first
        | (refine (?_ : am_wp _ _ _ _ _ _ _ _ _ _ _ _); conv => whnf)
        | (refine (?_ : am_sw _ _ _ _); conv => whnf)
        | refine And.intro trivial ?_
        | exact trivial
        | ((with_reducible refine (?_ : am_Does _ 54 _ _ _)); refine x_digit t n _ ?_ ?_ n0 n1 hL ?_ ?_ (fun d ed d0 d1 cd => ?_))
        | refine k1' _ ?_ ?_ ?_
        | refine k0 ?_
        | ((with_reducible refine (?_ : am_AW _ _ _ _ _ 7 _ _ _)); refine ih _ _  ?_ ?_ ?_ ?_ ?_)
        | refine And.intro (fun h => absurd h (by decide)) (fun _ => ?_)
        | refine And.intro (fun _ => ?_) (fun h => absurd (by decide) h)
        | refine And.intro (fun _ => ?_) (fun _ => ?_)
        | refine And.intro ?_ ?_
      all_goals (first | decide | exact ht | exact hn | omega | (have z := am_dv_z (t := t) (n := n) (q := q) (v := v) (M := p + 4) (j := q) (by omega); omega) | (rw [← hv3]; have z := am_dv_s (t := t) (n := n) (q := q) (v := v) (M := p + 4) (j := q) (by omega) (by omega); rw [z]; congr 1; omega) | (trace_state; fail))
  have lp7' : ∀ (v q : Int) , p + 1 ≤ q → q ≤ p + 4 → 0 ≤ v → am_dv t n ((p + 4) - q).toNat q v = fp_w t n p → am_AW l 0 (fun _ => 0) 57 Q 7 [some (.inr (.inr 35)), some (.inr (.inr 8)), some (.inl p), some (.inl v), some (.inl q)] [] ν := fun v q  hv0 hv1 hv2 hv3 => lp7 ((p + 4 - q) + 1).toNat v q  hv0 hv1 hv2 hv3 (by omega)
  refine am_go (ct := fun pc => Nat.beq pc 7) am_oX5_wayComes 300 ?_
  conv => whnf
  repeat' first
    | (refine (?_ : am_wp _ _ _ _ _ _ _ _ _ _ _ _); conv => whnf)
    | (refine (?_ : am_sw _ _ _ _); conv => whnf)
    | refine And.intro trivial ?_
    | exact trivial
    | ((with_reducible refine (?_ : am_AW _ _ _ _ _ 7 _ _ _)); refine lp7' _ _  ?_ ?_ ?_ ?_)
    | refine And.intro (fun h => absurd h (by decide)) (fun _ => ?_)
    | refine And.intro (fun _ => ?_) (fun h => absurd (by decide) h)
    | refine And.intro (fun _ => ?_) (fun _ => ?_)
    | refine And.intro ?_ ?_
  all_goals (first | decide | exact ht | exact hn | omega | (rw [show p + 4 - (p + 1) = 3 by omega]; rfl) | (trace_state; fail))
theorem x_runnerComes {l : Launch} {ν : am_N} {Q : Option am_V → am_N → Prop} (t : Nat → Int) (n p : Int) (ht : ν 37 = t) (hn : ν 36 1 = n) (n0 : 0 ≤ n) (n1 : n ≤ 96) (hL : ∀ i : Nat, (i : Int) < n → 0 ≤ t i ∧ t i ≤ 255) (p0 : 0 ≤ p) (p1 : p ≤ n) (dg : ∀ i : Nat, (i : Int) < 8 → 0 ≤ am_dt t n (p + 1 + i)) (f0 : 0 ≤ ν 8 4) (f1 : ν 8 4 ≤ 4) (k1 : ν 8 4 < 4 → am_dt t n (p + 1) ≤ 5 → 5 ≤ fp_2 t n (p + 3) → fp_2 t n (p + 3) ≤ 40 → fp_2 t n (p + 5) ≤ 20 → ∀ μ' : am_N, (∀ a b, ¬(9 ≤ a ∧ a ≤ 14 ∧ b = (ν 8 4).toNat) → ¬(a = 8 ∧ b = 4) → μ' a b = ν a b) → μ' 9 (ν 8 4).toNat = am_dt t n (p + 1) → μ' 10 (ν 8 4).toNat = am_dt t n (p + 2) → μ' 11 (ν 8 4).toNat = fp_2 t n (p + 3) → μ' 12 (ν 8 4).toNat = fp_2 t n (p + 5) → μ' 13 (ν 8 4).toNat = fp_2 t n (p + 7) → μ' 14 (ν 8 4).toNat = 0 → μ' 8 4 = ν 8 4 + 1 → Q (some (.inl 1)) μ') (k0 : ¬(ν 8 4 < 4 ∧ am_dt t n (p + 1) ≤ 5 ∧ 5 ≤ fp_2 t n (p + 3) ∧ fp_2 t n (p + 3) ≤ 40 ∧ fp_2 t n (p + 5) ≤ 20) → Q (some (.inl 0)) ν) : am_Does l 58 [.inr (.inr 35), .inr (.inr 8), .inl p] ν Q := by
  refine am_Does_of (Nat.le_of_ble_eq_true rfl) (Nat.le_of_ble_eq_true rfl) (Nat.le_of_ble_eq_true rfl) ?_
  have l0 : am_c 0 = 0 := rfl
  have l1 : am_c 1 = 1 := rfl
  have l3 : am_c 3 = 3 := rfl
  have l4 : am_c 4 = 4 := rfl
  have l5 : am_c 5 = 5 := rfl
  have l20 : am_c 20 = 20 := rfl
  have l40 : am_c 40 = 40 := rfl
  have l48 : am_c 48 = 48 := rfl
  have l57 : am_c 57 = 57 := rfl
  have l59 : am_c 59 = 59 := rfl
  have l119 : am_c 119 = 119 := rfl
  have l200 : am_c 200 = 200 := rfl
  have l999 : am_c 999 = 999 := rfl
  have c4 : am_c (ν 8 4) = ν 8 4 := am_cR (by omega) (by omega)
  refine am_go (ct := fun _ => false) am_oX5_runnerComes 300 ?_
  conv => whnf
  repeat' first
    | (refine (?_ : am_wp _ _ _ _ _ _ _ _ _ _ _ _); conv => whnf)
    | (refine (?_ : am_sw _ _ _ _); conv => whnf)
    | refine And.intro trivial ?_
    | exact trivial
    | ((with_reducible refine (?_ : am_Does _ 54 _ _ _)); refine x_digit t n _ ?_ ?_ n0 n1 hL ?_ ?_ (fun d ed d0 d1 cd => ?_))
    | ((with_reducible refine (?_ : am_Does _ 55 _ _ _)); refine x_two t n _ ?_ ?_ n0 n1 hL ?_ ?_ (fun u eu cu => ?_))
    | refine k0 ?_
    | refine k1 ?_ ?_ ?_ ?_ ?_ _ ?_ ?_ ?_ ?_ ?_ ?_ ?_ ?_
    | refine And.intro (fun h => absurd h (by decide)) (fun _ => ?_)
    | refine And.intro (fun _ => ?_) (fun h => absurd (by decide) h)
    | refine And.intro (fun _ => ?_) (fun _ => ?_)
    | refine And.intro ?_ ?_
  all_goals (first | decide | exact ht | exact hn | omega | (funext z; simp only [am_upN (show (37 : Nat) ≠ 9 by decide), am_upN (show (37 : Nat) ≠ 10 by decide), am_upN (show (37 : Nat) ≠ 11 by decide), am_upN (show (37 : Nat) ≠ 12 by decide), am_upN (show (37 : Nat) ≠ 13 by decide)]; exact congrFun ht z) | (simp only [am_upN (show (36 : Nat) ≠ 9 by decide), am_upN (show (36 : Nat) ≠ 10 by decide), am_upN (show (36 : Nat) ≠ 11 by decide), am_upN (show (36 : Nat) ≠ 12 by decide), am_upN (show (36 : Nat) ≠ 13 by decide)]; exact hn) | (simp only [am_upN (show (8 : Nat) ≠ 9 by decide), am_upN (show (8 : Nat) ≠ 10 by decide), am_upN (show (8 : Nat) ≠ 11 by decide), am_upN (show (8 : Nat) ≠ 12 by decide), am_upN (show (8 : Nat) ≠ 13 by decide), am_upN (show (8 : Nat) ≠ 14 by decide), c4] at *; omega) | (intro a b h1 h2; simp only [am_upN (show (8 : Nat) ≠ 9 by decide), am_upN (show (8 : Nat) ≠ 10 by decide), am_upN (show (8 : Nat) ≠ 11 by decide), am_upN (show (8 : Nat) ≠ 12 by decide), am_upN (show (8 : Nat) ≠ 13 by decide), am_upN (show (8 : Nat) ≠ 14 by decide), c4]; rw [am_uE (by omega), am_uE (by omega), am_uE (by omega), am_uE (by omega), am_uE (by omega), am_uE (by omega), am_uE (by omega)]) | (subst_vars; simp [am_up, c4]; done) | (trace_state; fail))
theorem x_ruleComes {l : Launch} {ν : am_N} {Q : Option am_V → am_N → Prop} (t : Nat → Int) (n p : Int) (ht : ν 37 = t) (hn : ν 36 1 = n) (n0 : 0 ≤ n) (n1 : n ≤ 96) (hL : ∀ i : Nat, (i : Int) < n → 0 ≤ t i ∧ t i ≤ 255) (p0 : 0 ≤ p) (p1 : p ≤ n) (k1 : am_dt t n (p + 1) ≤ 4 → 1 ≤ am_dt t n (p + 2) → Q (some (.inl 1)) (am_up (am_up ν 8 2 (am_dt t n (p + 1))) 8 3 (am_dt t n (p + 2)))) (k0 : ¬(am_dt t n (p + 1) ≤ 4 ∧ 1 ≤ am_dt t n (p + 2)) → Q (some (.inl 0)) ν) : am_Does l 59 [.inr (.inr 35), .inr (.inr 8), .inl p] ν Q := by
  refine am_Does_of (Nat.le_of_ble_eq_true rfl) (Nat.le_of_ble_eq_true rfl) (Nat.le_of_ble_eq_true rfl) ?_
  have l0 : am_c 0 = 0 := rfl
  have l1 : am_c 1 = 1 := rfl
  have l3 : am_c 3 = 3 := rfl
  have l4 : am_c 4 = 4 := rfl
  have l5 : am_c 5 = 5 := rfl
  have l20 : am_c 20 = 20 := rfl
  have l40 : am_c 40 = 40 := rfl
  have l48 : am_c 48 = 48 := rfl
  have l57 : am_c 57 = 57 := rfl
  have l59 : am_c 59 = 59 := rfl
  have l119 : am_c 119 = 119 := rfl
  have l200 : am_c 200 = 200 := rfl
  have l999 : am_c 999 = 999 := rfl
  have k1' := fun (x y : Int) (e : x = am_dt t n (p + 1)) (g : y = am_dt t n (p + 2)) a b => (show Q (some (.inl 1)) (am_up (am_up ν 8 2 x) 8 3 y) by rw [e, g]; exact k1 a b)
  refine am_go (ct := fun _ => false) am_oX5_ruleComes 300 ?_
  conv => whnf
  repeat' first
    | (refine (?_ : am_wp _ _ _ _ _ _ _ _ _ _ _ _); conv => whnf)
    | (refine (?_ : am_sw _ _ _ _); conv => whnf)
    | refine And.intro trivial ?_
    | exact trivial
    | ((with_reducible refine (?_ : am_Does _ 54 _ _ _)); refine x_digit t n _ ?_ ?_ n0 n1 hL ?_ ?_ (fun d ed d0 d1 cd => ?_))
    | refine k1' _ _ ?_ ?_ ?_ ?_
    | refine k0 ?_
    | refine And.intro (fun h => absurd h (by decide)) (fun _ => ?_)
    | refine And.intro (fun _ => ?_) (fun h => absurd (by decide) h)
    | refine And.intro (fun _ => ?_) (fun _ => ?_)
    | refine And.intro ?_ ?_
  all_goals (first | decide | exact ht | exact hn | omega | assumption | (trace_state; fail))
theorem x_startComes {l : Launch} {ν : am_N} {Q : Option am_V → am_N → Prop} (t : Nat → Int) (n p : Int) (ht : ν 37 = t) (hn : ν 36 1 = n) (n0 : 0 ≤ n) (n1 : n ≤ 96) (hL : ∀ i : Nat, (i : Int) < n → 0 ≤ t i ∧ t i ≤ 255) (p0 : 0 ≤ p) (p1 : p ≤ n) (dg : ∀ i : Nat, (i : Int) < 3 → 0 ≤ am_dt t n (p + 1 + i)) (f0 : 0 ≤ ν 8 4) (f1 : ν 8 4 ≤ 4) (k1 : am_dt t n (p + 1) < ν 8 4 → Q (some (.inl 1)) (am_up ν 13 (am_dt t n (p + 1)).toNat (fp_2 t n (p + 2)))) (k0 : ¬ am_dt t n (p + 1) < ν 8 4 → Q (some (.inl 0)) ν) : am_Does l 60 [.inr (.inr 35), .inr (.inr 8), .inl p] ν Q := by
  refine am_Does_of (Nat.le_of_ble_eq_true rfl) (Nat.le_of_ble_eq_true rfl) (Nat.le_of_ble_eq_true rfl) ?_
  have l0 : am_c 0 = 0 := rfl
  have l1 : am_c 1 = 1 := rfl
  have l3 : am_c 3 = 3 := rfl
  have l4 : am_c 4 = 4 := rfl
  have l5 : am_c 5 = 5 := rfl
  have l20 : am_c 20 = 20 := rfl
  have l40 : am_c 40 = 40 := rfl
  have l48 : am_c 48 = 48 := rfl
  have l57 : am_c 57 = 57 := rfl
  have l59 : am_c 59 = 59 := rfl
  have l119 : am_c 119 = 119 := rfl
  have l200 : am_c 200 = 200 := rfl
  have l999 : am_c 999 = 999 := rfl
  have d1 : 0 ≤ am_dt t n (p + 1) := (Int.add_zero (p + 1)) ▸ dg 0 (by decide)
  have c4 : am_c (ν 8 4) = ν 8 4 := am_cR (by omega) (by omega)
  have k1' := fun (j : Nat) (x : Int) (e : j = (am_dt t n (p + 1)).toNat) (g : x = fp_2 t n (p + 2)) a => (show Q (some (.inl 1)) (am_up ν 13 j x) by rw [e, g]; exact k1 a)
  refine am_go (ct := fun _ => false) am_oX5_startComes 300 ?_
  conv => whnf
  repeat' first
    | (refine (?_ : am_wp _ _ _ _ _ _ _ _ _ _ _ _); conv => whnf)
    | (refine (?_ : am_sw _ _ _ _); conv => whnf)
    | refine And.intro trivial ?_
    | exact trivial
    | ((with_reducible refine (?_ : am_Does _ 54 _ _ _)); refine x_digit t n _ ?_ ?_ n0 n1 hL ?_ ?_ (fun d ed d0 d1 cd => ?_))
    | ((with_reducible refine (?_ : am_Does _ 55 _ _ _)); refine x_two t n _ ?_ ?_ n0 n1 hL ?_ ?_ (fun u eu cu => ?_))
    | ((with_reducible refine (?_ : am_Does _ 1 _ _ _)); refine x_has8 _ ?_ ?_ (fun _ _ => ?_) (fun _ => ?_))
    | refine k1' _ _ ?_ ?_ ?_
    | refine k0 ?_
    | refine And.intro (fun h => absurd h (by decide)) (fun _ => ?_)
    | refine And.intro (fun _ => ?_) (fun h => absurd (by decide) h)
    | refine And.intro (fun _ => ?_) (fun _ => ?_)
    | refine And.intro ?_ ?_
  all_goals (first | decide | exact ht | exact hn | omega | assumption | (rw [cd, ed]) | (trace_state; fail))
theorem x_comes {l : Launch} {ν : am_N} {Q : Option am_V → am_N → Prop} (t : Nat → Int) (n p : Int) (ht : ν 37 = t) (hn : ν 36 1 = n) (n0 : 0 ≤ n) (n1 : n ≤ 96) (hL : ∀ i : Nat, (i : Int) < n → 0 ≤ t i ∧ t i ≤ 255) (p0 : 0 ≤ p) (p1 : p < n) (hb : 0 ≤ am_bh t n p) (hw : fp_fw 999 (fv ν 8)) (h43 : sx_3 ν 43) (h38 : 0 ≤ ν 38 0 ∧ ν 38 0 ≤ 4) (k1 : fp_ok t n (fv ν 8) p → ∀ μ' : am_N, (∀ a b, ¬(8 ≤ a ∧ a ≤ 14) → ¬(38 ≤ a ∧ a ≤ 43) → μ' a b = ν a b) → fv μ' 8 = fp_cf t n (fv ν 8) p → sx_3 μ' 43 → (0 ≤ μ' 38 0 ∧ μ' 38 0 ≤ 4) → Q (some (.inl 1)) μ') (k0 : ¬ fp_ok t n (fv ν 8) p → Q (some (.inl 0)) ν) : am_Does l 56 [.inr (.inr 35), .inr (.inr 8), .inl p] ν Q := by
  refine am_Does_of (Nat.le_of_ble_eq_true rfl) (Nat.le_of_ble_eq_true rfl) (Nat.le_of_ble_eq_true rfl) ?_
  have l0 : am_c 0 = 0 := rfl
  have l1 : am_c 1 = 1 := rfl
  have l3 : am_c 3 = 3 := rfl
  have l4 : am_c 4 = 4 := rfl
  have l5 : am_c 5 = 5 := rfl
  have l20 : am_c 20 = 20 := rfl
  have l40 : am_c 40 = 40 := rfl
  have l48 : am_c 48 = 48 := rfl
  have l57 : am_c 57 = 57 := rfl
  have l59 : am_c 59 = 59 := rfl
  have l119 : am_c 119 = 119 := rfl
  have l200 : am_c 200 = 200 := rfl
  have l999 : am_c 999 = 999 := rfl
  obtain ⟨hf, hr, hy, hs, hway, hweek, hmore⟩ := fw_C hw (by decide)
  have f0 := hf.1.1
  have f1 := hf.1.2
  have c4 : am_c (ν 8 4) = ν 8 4 := am_cR (by omega) (by omega)
  have cw8 : am_c (ν 8 1) = ν 8 1 := am_cR (by omega) (by omega)
  have e4 : fv ν 8 0 4 = ν 8 4 := fv_0 (by decide)
  have e1 : fv ν 8 0 1 = ν 8 1 := fv_0 (by decide)
  have dg := am_bh_d hb p0
  have fb := fp_f_b (fv ν 8)
  have cf : am_c (fp_f (fv ν 8)) = fp_f (fv ν 8) := am_cR (by omega) (by omega)
  have gW := fun q : ν 8 1 < 999 => fw_mono (W := 999) (V := 999) hw (Int.le_refl _)
  refine am_go (ct := fun _ => false) am_oX5_comes 300 ?_
  conv => whnf
  repeat' first
    | (refine (?_ : am_wp _ _ _ _ _ _ _ _ _ _ _ _); conv => whnf)
    | (refine (?_ : am_sw _ _ _ _); conv => whnf)
    | refine And.intro trivial ?_
    | exact trivial
    | ((with_reducible refine (?_ : am_Does _ 43 _ _ _)); refine x_lat t n _ ?_ ?_ n0 n1 hL ?_ ?_ (fun v ev v0 v1 cv => ?_))
    | ((with_reducible refine (?_ : am_Does _ 57 _ _ _)); refine x_wayComes t n _ ?_ ?_ n0 n1 hL ?_ ?_ (fun y0 y1 => ?_) (fun y => ?_))
    | ((with_reducible refine (?_ : am_Does _ 58 _ _ _)); refine x_runnerComes t n _ ?_ ?_ n0 n1 hL ?_ ?_ ?_ f0 f1 (fun y1 y2 y3 y4 y5 μ2 g0 g1 g2 g3 g4 g5 g6 g7 => ?_) (fun y => ?_))
    | ((with_reducible refine (?_ : am_Does _ 59 _ _ _)); refine x_ruleComes t n _ ?_ ?_ n0 n1 hL ?_ ?_ (fun y0 y1 => ?_) (fun y => ?_))
    | ((with_reducible refine (?_ : am_Does _ 60 _ _ _)); refine x_startComes t n _ ?_ ?_ n0 n1 hL ?_ ?_ ?_ f0 f1 (fun y => ?_) (fun y => ?_))
    | ((with_reducible refine (?_ : am_Does _ 34 _ _ _)); refine x_goOn_38_8 999 hw (by decide) ?_ h43 (fun μ2 g0 g1 g2 g3 g4 g5 => ?_))
    | ((with_reducible refine (?_ : Q _ _)); refine k1 ((fp_ok_w (by omega)).mpr ⟨y0, y1⟩) _ ?_ ?_ ?_ ?_)
    | ((with_reducible refine (?_ : Q _ _)); refine k1 ((fp_ok_r (by omega)).mpr ⟨by omega, y2, y3, y4, y5⟩) _ ?_ ?_ ?_ ?_)
    | ((with_reducible refine (?_ : Q _ _)); refine k1 ((fp_ok_m (by omega)).mpr ⟨y0, y1⟩) _ ?_ ?_ ?_ ?_)
    | ((with_reducible refine (?_ : Q _ _)); refine k1 ((fp_ok_s (by omega)).mpr (by omega)) _ ?_ ?_ ?_ ?_)
    | ((with_reducible refine (?_ : Q _ _)); exact k0 (fun z => y ((fp_ok_w (by omega)).mp z)))
    | ((with_reducible refine (?_ : Q _ _)); (refine k0 (fun z => y ?_); have q := (fp_ok_r (by omega)).mp z; rw [e4] at q; exact q))
    | ((with_reducible refine (?_ : Q _ _)); exact k0 (fun z => y ((fp_ok_m (by omega)).mp z)))
    | ((with_reducible refine (?_ : Q _ _)); (refine k0 (fun z => y ?_); have q := (fp_ok_s (by omega)).mp z; omega))
    | ((with_reducible refine (?_ : Q _ _)); refine k1 ((fp_ok_g (by omega) (by omega) (by omega) (by omega)).mpr ⟨by simp only [e4, c4] at *; omega, by simp only [e1, cw8] at *; omega⟩) _ ?_ ?_ ?_ ?_)
    | ((with_reducible refine (?_ : Q _ _)); (refine k0 (fun z => ?_); have q := (fp_ok_g (by omega) (by omega) (by omega) (by omega)).mp z; simp only [e4, e1, c4, cw8] at *; omega))
    | refine And.intro (fun h => absurd h (by decide)) (fun _ => ?_)
    | refine And.intro (fun _ => ?_) (fun h => absurd (by decide) h)
    | refine And.intro (fun _ => ?_) (fun _ => ?_)
    | refine And.intro ?_ ?_
  all_goals (first | decide | exact ht | exact hn | omega | exact h43 | exact h38 | (intro i hi; exact dg (by omega) i (by first | rw [am_ld_114 (by omega)]; exact hi | rw [am_ld_115 (by omega)]; exact hi)) | (intro a b q1 q2; exact am_uE (by omega)) | (intro a b q1 q2; rw [am_uE (by omega), am_uE (by omega)]) | (intro a b q1 q2; exact g0 a b (by omega) (by omega)) | (intro a b q1 q2; exact g0 a b (by omega) (by omega) (by omega) (by omega) (by omega) (by omega)) | exact sx_3N h43 (by decide) | exact sx_3N (sx_3N h43 (by decide)) (by decide) | (intro x hx; rw [g0 _ _ (by omega) (by omega)]; exact h43 x hx) | (rw [g0 _ _ (by omega) (by omega)]; exact h38) | exact g2 | exact h38.1 | exact h38.2 | (rw [g3]; exact f0) | (rw [g3]; exact f1) | (rw [g0 38 0 (by omega) (by omega)]; first | exact h38.1 | exact h38.2) | (rw [g3]; exact ⟨f0, f1⟩)     | (rw [fp_cf_w (by omega)]; refine fp_ct_e (fun b hb => ?_) (fun a b q1 q2 hb => ?_); (by_cases d : b = 0; (subst d; rfl); (show am_up ν 8 0 _ 8 b = _; rw [am_upM d, am_upM d]; exact (fv_0 hb).symm)); (show am_up ν 8 0 _ (8 + a) b = _; rw [am_upN (by omega), am_upN (by omega)]; exact (fv_a q1 q2 hb).symm))     | (rw [fp_cf_m (by omega)]; refine fp_ct_e (fun b hb => ?_) (fun a b q1 q2 hb => ?_); (show am_up (am_up ν 8 2 _) 8 3 _ 8 b = am_up (am_up _ 0 2 _) 0 3 _ 0 b; by_cases d3 : b = 3; (subst d3; rfl); (rw [am_upM d3, am_upM d3]; by_cases d2 : b = 2; (subst d2; rfl); (rw [am_upM d2, am_upM d2]; exact (fv_0 hb).symm))); (show am_up (am_up ν 8 2 _) 8 3 _ (8 + a) b = am_up (am_up _ 0 2 _) 0 3 _ a b; rw [am_upN (by omega), am_upN (by omega), am_upN (by omega), am_upN (by omega)]; exact (fv_a q1 q2 hb).symm))     | (rw [fp_cf_s (by omega)]; refine fp_ct_e (fun b hb => ?_) (fun a b q1 q2 hb => ?_); (show am_up ν 13 _ _ 8 b = _; rw [am_upN (by decide), am_upN (by decide)]; exact (fv_0 hb).symm); (show am_up ν 13 _ _ (8 + a) b = _; by_cases d : a = 5 ∧ b = (am_dt t n (p + 1)).toNat; (rw [am_upS, if_pos (by omega), am_upS, if_pos (by omega)]); (rw [am_uE (by omega), am_uE (by omega)]; exact (fv_a q1 q2 hb).symm)))     | (rw [fp_cf_g (by omega) (by omega) (by omega) (by omega)]; exact g1)     | (rw [fp_cf_r (by omega), e4]; refine fp_ct_e (fun b hb => ?_) (fun a b q1 q2 hb => ?_); (show μ2 8 b = _; by_cases d : b = 4; (subst d; exact g7); (rw [am_uE (by omega), am_upN (by decide), am_upN (by decide), am_upN (by decide), am_upN (by decide), am_upN (by decide), am_upN (by decide), fv_0 hb]; exact g0 8 b (by omega) (by omega))); (show μ2 (8 + a) b = _; rw [am_uE (by omega)]; by_cases d : b = (ν 8 4).toNat; (subst d; rcases (show a = 1 ∨ a = 2 ∨ a = 3 ∨ a = 4 ∨ a = 5 ∨ a = 6 by omega) with rfl | rfl | rfl | rfl | rfl | rfl; (rw [am_upN (by decide), am_upN (by decide), am_upN (by decide), am_upN (by decide), am_upN (by decide), am_upS, if_pos ⟨rfl, rfl⟩]; exact g1); (rw [am_upN (by decide), am_upN (by decide), am_upN (by decide), am_upN (by decide), am_upS, if_pos ⟨rfl, rfl⟩]; exact g2); (rw [am_upN (by decide), am_upN (by decide), am_upN (by decide), am_upS, if_pos ⟨rfl, rfl⟩]; exact g3); (rw [am_upN (by decide), am_upN (by decide), am_upS, if_pos ⟨rfl, rfl⟩]; exact g4); (rw [am_upN (by decide), am_upS, if_pos ⟨rfl, rfl⟩]; exact g5); (rw [am_upS, if_pos ⟨rfl, rfl⟩]; exact g6)); (rw [am_upM d, am_upM d, am_upM d, am_upM d, am_upM d, am_upM d, fv_a q1 q2 hb]; exact g0 (8 + a) b (by omega) (by omega))))     | (trace_state; fail))
theorem x_tell {l : Launch} {ν : am_N} {Q : Option am_V → am_N → Prop} (t : Nat → Int) (n : Int) (ht : ν 37 = t) (hn : ν 36 1 = n) (n0 : 0 ≤ n) (n1 : n ≤ 96) (hL : ∀ i : Nat, (i : Int) < n → 0 ≤ t i ∧ t i ≤ 255) (hw : fp_fw 999 (fv ν 8)) (h43 : sx_3 ν 43) (h38 : 0 ≤ ν 38 0 ∧ ν 38 0 ≤ 4) (k1 : ∀ K : Nat, fp_pr t n K → (fp_pk t n K < n ∨ K = 0) → am_bh t n (fp_pk t n K) < 0 → Q (some (.inl (-1000 - (-1 - am_bh t n (fp_pk t n K))))) ν) (k2 : ∀ K j : Nat, 1 ≤ K → fp_pr t n K → n ≤ fp_pk t n K → j < K → fp_okp t n (fv ν 8) j → ¬ fp_ok t n (fp_fk t n (fv ν 8) j) (fp_pk t n j) → ∀ μ' : am_N, (∀ a b, ¬(8 ≤ a ∧ a ≤ 14) → ¬(38 ≤ a ∧ a ≤ 43) → μ' a b = ν a b) → sx_3 μ' 43 → (0 ≤ μ' 38 0 ∧ μ' 38 0 ≤ 4) → (0 ≤ μ' 8 4 ∧ μ' 8 4 ≤ 4) → Q (some (.inl (-2000 - fp_pk t n j))) μ') (k3 : ∀ K : Nat, 1 ≤ K → fp_pr t n K → n ≤ fp_pk t n K → fp_okp t n (fv ν 8) K → ∀ μ' : am_N, (∀ a b, ¬(8 ≤ a ∧ a ≤ 14) → ¬(38 ≤ a ∧ a ≤ 43) → μ' a b = ν a b) → fv μ' 8 = fp_fk t n (fv ν 8) K → fp_fw 999 (fp_fk t n (fv ν 8) K) → sx_3 μ' 43 → (0 ≤ μ' 38 0 ∧ μ' 38 0 ≤ 4) → Q (some (.inl K)) μ') : am_Does l 50 [.inr (.inr 35), .inr (.inr 8)] ν Q := by
  refine am_Does_of (Nat.le_of_ble_eq_true rfl) (Nat.le_of_ble_eq_true rfl) (Nat.le_of_ble_eq_true rfl) ?_
  have l0 : am_c 0 = 0 := rfl
  have l1 : am_c 1 = 1 := rfl
  have l3 : am_c 3 = 3 := rfl
  have l4 : am_c 4 = 4 := rfl
  have l5 : am_c 5 = 5 := rfl
  have l20 : am_c 20 = 20 := rfl
  have l40 : am_c 40 = 40 := rfl
  have l48 : am_c 48 = 48 := rfl
  have l57 : am_c 57 = 57 := rfl
  have l59 : am_c 59 = 59 := rfl
  have l119 : am_c 119 = 119 := rfl
  have l200 : am_c 200 = 200 := rfl
  have l999 : am_c 999 = 999 := rfl
  have cn : am_c n = n := am_cR (by omega) (by omega)
  have lp23 : ∀ (m : Nat) (K : Nat) (f a q j : Int) (μ : am_N) , 1 ≤ K → fp_pr t n K → n ≤ fp_pk t n K → 0 ≤ j → j ≤ K → q = j → a = fp_pk t n j.toNat → (∀ a b, ¬(8 ≤ a ∧ a ≤ 14) → ¬(38 ≤ a ∧ a ≤ 43) → μ a b = ν a b) → fv μ 8 = fp_fk t n (fv ν 8) j.toNat → fp_okp t n (fv ν 8) j.toNat → sx_3 μ 43 → (0 ≤ μ 38 0 ∧ μ 38 0 ≤ 4) → K - j < (m : Int) → am_AW l 0 (fun _ => 0) 50 Q 23 [some (.inr (.inr 35)), some (.inr (.inr 8)), some (.inl f), some (.inl a), some (.inl q), some (.inl j)] [] μ := by
    intro m
    induction m with
    | zero =>
      intro K f a q j μ hv0 hv1 hv2 hv3 hv4 hv5 hv6 hv7 hv8 hv9 hv10 hv11 hm
      exfalso
      omega
    | succ m ih =>
      intro K f a q j μ hv0 hv1 hv2 hv3 hv4 hv5 hv6 hv7 hv8 hv9 hv10 hv11 hm
      have prj : fp_pr t n j.toNat := fun i hi => hv1 i (by omega)
      have hb := fp_pk_b n0 j.toNat prj
      have hbK := fp_pk_b n0 K hv1
      have ca : am_c a = a := am_cR (by omega) (by omega)
      have cj : am_c j = j := am_cR (by omega) (by omega)
      have ej : (j + 1).toNat = j.toNat + 1 := by omega
      have fwj : fp_fw 999 (fp_fk t n (fv ν 8) j.toNat) := fw_fk n0 hw _ prj hv9
      have e36 : μ 36 1 = n := (hv7 36 1 (by decide) (by decide)).trans hn
      have e37 : μ 37 = t := (funext (fun b => hv7 37 b (by decide) (by decide))).trans ht
      have c36 : am_c (μ 36 1) = n := by rw [e36]; exact cn
      have jK : a < n → j < K := fun z => by
        by_cases y : j = K
        · have : j.toNat = K := by omega
          rw [this] at hv6
          omega
        · omega
      have bhj : a < n → 0 ≤ am_bh t n (fp_pk t n j.toNat) := fun z => (hv1 j.toNat (by have := jK z; omega)).2
      refine am_go (ct := fun pc => Nat.beq pc 23) am_oX5_tell 300 ?_
      conv => whnf
      repeat' first
        | (refine (?_ : am_wp _ _ _ _ _ _ _ _ _ _ _ _); conv => whnf)
        | (refine (?_ : am_sw _ _ _ _); conv => whnf)
        | refine And.intro trivial ?_
        | exact trivial
        | (rw [hv8]; exact fwj)
        | ((with_reducible refine (?_ : am_AW _ _ _ _ _ 23 _ _ _)); refine ih K _ _ _ _ _ hv0 hv1 hv2 ?_ ?_ ?_ ?_ ?_ ?_ ?_ ?_ ?_ ?_)
        | ((with_reducible refine (?_ : am_Does _ 56 _ _ _)); (have an : a < n := (by simp only [c36, ca, cj] at *; omega); have jk := jK an; refine x_comes t n a e37 e36 n0 n1 hL ?_ an ?_ ?_ hv10 hv11 (fun y1 μ2 g0 g1 g2 g3 => ?_) (fun y0 => ?_)))
        | ((with_reducible refine (?_ : am_Does _ 52 _ _ _)); refine x_behindT t n _ ?_ ?_ n0 n1 hL ?_ ?_ (fun v ev v0 v1 cv => ?_))
        | ((with_reducible refine (?_ : Q _ _)); (refine am_qe (k2 K j.toNat hv0 hv1 hv2 ?_ hv9 (by rw [hv8, hv6] at y0; exact y0) μ hv7 hv10 hv11 (fw_C (by rw [hv8]; exact fwj) (show (999 : Int) ≤ 2000 by decide)).1.1) ?_))
        | ((with_reducible refine (?_ : Q _ _)); (have jk : j.toNat = K := (by by_cases z : j < K; (have w := (hv1 j.toNat (by omega)).1; simp only [c36, ca, cj] at *; omega); omega); refine am_qe (k3 K hv0 hv1 hv2 (by rw [← jk]; exact hv9) _ hv7 (by rw [← jk]; exact hv8) (by rw [← jk]; exact fwj) hv10 hv11) ?_))
        | ((with_reducible refine (?_ : am_Does _ 51 _ _ _)); (refine x_firstFault t n ht hn n0 n1 hL (fun K y1 y2 y3 => ?_) (fun K y1 y2 y3 => ?_)))
        | (refine am_qe (k1 K y1 y2 y3) ?_)
        | ((with_reducible refine (?_ : am_AW _ _ _ _ _ 23 _ _ _)); refine lp23' K _ _ _ _ _ y1 y2 y3 ?_ ?_ ?_ ?_ ?_ ?_ ?_ ?_ ?_)
        | ((with_reducible refine (?_ : am_AW _ _ _ _ _ 23 _ _ _)); refine ih _ _ _ _ _ _ ?_ ?_ ?_ ?_ ?_ ?_ ?_ ?_ ?_ ?_ ?_ ?_ ?_)
        | refine And.intro (fun h => absurd h (by decide)) (fun _ => ?_)
        | refine And.intro (fun _ => ?_) (fun h => absurd (by decide) h)
        | refine And.intro (fun _ => ?_) (fun _ => ?_)
        | refine And.intro ?_ ?_
      all_goals (first | decide | omega | assumption | exact e37 | exact e36 | (rw [hv6]; exact bhj an) | (funext b; rw [g0 37 b (by decide) (by decide)]; exact congrFun e37 b) | (rw [g0 36 1 (by decide) (by decide)]; exact e36) | (rw [hv6]) | (intro b c q1 q2; rw [g0 b c q1 q2]; exact hv7 b c q1 q2) | (rw [ej]; show v = am_bh t n (fp_pk t n j.toNat); rw [← hv6]; exact ev) | (rw [ej, g1, hv8, hv6]; rfl) | (rw [ej]; refine fp_okp_s hv9 ?_; rw [← hv6, ← hv8]; exact y1) | (trace_state; fail))
  have lp23' : ∀ (K : Nat) (f a q j : Int) (μ : am_N) , 1 ≤ K → fp_pr t n K → n ≤ fp_pk t n K → 0 ≤ j → j ≤ K → q = j → a = fp_pk t n j.toNat → (∀ a b, ¬(8 ≤ a ∧ a ≤ 14) → ¬(38 ≤ a ∧ a ≤ 43) → μ a b = ν a b) → fv μ 8 = fp_fk t n (fv ν 8) j.toNat → fp_okp t n (fv ν 8) j.toNat → sx_3 μ 43 → (0 ≤ μ 38 0 ∧ μ 38 0 ≤ 4) → am_AW l 0 (fun _ => 0) 50 Q 23 [some (.inr (.inr 35)), some (.inr (.inr 8)), some (.inl f), some (.inl a), some (.inl q), some (.inl j)] [] μ := fun K f a q j μ hv0 hv1 hv2 hv3 hv4 hv5 hv6 hv7 hv8 hv9 hv10 hv11 => lp23 ((K - j) + 1).toNat K f a q j μ hv0 hv1 hv2 hv3 hv4 hv5 hv6 hv7 hv8 hv9 hv10 hv11 (by omega)
  refine am_go (ct := fun pc => Nat.beq pc 23) am_oX5_tell 300 ?_
  conv => whnf
  repeat' first
    | (refine (?_ : am_wp _ _ _ _ _ _ _ _ _ _ _ _); conv => whnf)
    | (refine (?_ : am_sw _ _ _ _); conv => whnf)
    | refine And.intro trivial ?_
    | exact trivial
    | ((with_reducible refine (?_ : am_Does _ 51 _ _ _)); (refine x_firstFault t n ht hn n0 n1 hL (fun K y1 y2 y3 => ?_) (fun K y1 y2 y3 => ?_)))
    | (refine am_qe (k1 K y1 y2 y3) ?_)
    | ((with_reducible refine (?_ : am_AW _ _ _ _ _ 23 _ _ _)); refine lp23' K _ _ _ _ _ y1 y2 y3 ?_ ?_ ?_ ?_ ?_ ?_ ?_ ?_ ?_)
    | ((with_reducible refine (?_ : am_AW _ _ _ _ _ 23 _ _ _)); refine lp23' _ _ _ _ _ _ ?_ ?_ ?_ ?_ ?_ ?_ ?_ ?_ ?_ ?_ ?_ ?_)
    | refine And.intro (fun h => absurd h (by decide)) (fun _ => ?_)
    | refine And.intro (fun _ => ?_) (fun h => absurd (by decide) h)
    | refine And.intro (fun _ => ?_) (fun _ => ?_)
    | refine And.intro ?_ ?_
  all_goals (first | decide | omega | assumption | rfl | exact fun _ _ _ _ => rfl | exact fp_okp_0 | (have z := am_bh_b t n (fp_pk t n K) (by have := fp_pk_b n0 K y1; omega) (by have := fp_pk_b n0 K y1; omega); have w : am_c (-1 - am_bh t n (fp_pk t n K)) = -1 - am_bh t n (fp_pk t n K) := am_cR (by have := fp_pk_b n0 K y1; omega) (by have := fp_pk_b n0 K y1; omega); have u := fp_pk_b n0 K y1; omega) | (trace_state; fail))
