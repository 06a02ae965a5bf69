/-! a field taken, exactly -/
theorem x_tS_8_1 {l : Launch} {ν : am_N} {Q : Option am_V → am_N → Prop} (k : ∀ μ' : am_N, (∀ a b, ¬(a = 8 ∧ b < 4) → μ' a b = ν a b) → (∀ b : Nat, b < 4 → μ' 8 b = ν 1 b) → Q none μ') : am_Does l 4 [.inr (.inr 8), .inr (.inr 1)] ν Q := by
  refine am_Does_of (Nat.le_of_ble_eq_true rfl) (Nat.le_of_ble_eq_true rfl) (Nat.le_of_ble_eq_true rfl) ?_
  refine am_go (ct := fun _ => false) am_oX0_takeSettings 300 ?_
  conv => whnf
  repeat' first
    | (refine (?_ : am_wp _ _ _ _ _ _ _ _ _ _ _ _); conv => whnf)
    | (refine (?_ : am_sw _ _ _ _); conv => whnf)
    | refine And.intro trivial ?_
    | exact trivial
    | refine k _ ?_ ?_
    | refine And.intro (fun h => absurd h (by decide)) (fun _ => ?_)
    | refine And.intro (fun _ => ?_) (fun h => absurd (by decide) h)
    | refine And.intro (fun _ => ?_) (fun _ => ?_)
    | refine And.intro ?_ ?_
  all_goals (first | decide | rfl | (intro a b h; rw [am_upS, if_neg (by omega), am_upS, if_neg (by omega), am_upS, if_neg (by omega), am_upS, if_neg (by omega)]) | (intro b hb; rcases (show b = 0 ∨ b = 1 ∨ b = 2 ∨ b = 3 by omega) with rfl | rfl | rfl | rfl <;> rfl) | (trace_state; fail))
theorem x_tR_8_1 {l : Launch} {ν : am_N} {Q : Option am_V → am_N → Prop} (i j : Int) (i0 : 0 ≤ i) (i1 : i < 4) (j0 : 0 ≤ j) (j1 : j < 4) (k : ∀ μ' : am_N, (∀ a b, ¬((8 < a ∧ a < 15) ∧ b = i.toNat) → μ' a b = ν a b) → (∀ a : Nat, 0 < a → a < 7 → μ' (8 + a) i.toNat = ν (1 + a) j.toNat) → Q none μ') : am_Does l 5 [.inr (.inr 8), .inl i, .inr (.inr 1), .inl j] ν Q := by
  refine am_Does_of (Nat.le_of_ble_eq_true rfl) (Nat.le_of_ble_eq_true rfl) (Nat.le_of_ble_eq_true rfl) ?_
  have ci : am_c i = i := am_cR (by omega) (by omega)
  have cj : am_c j = j := am_cR (by omega) (by omega)
  have c0 : am_c 0 = 0 := rfl
  have c4 : am_c 4 = 4 := rfl
  refine am_go (ct := fun _ => false) am_oX0_takeRunner 300 ?_
  conv => whnf
  repeat' first
    | (refine (?_ : am_wp _ _ _ _ _ _ _ _ _ _ _ _); conv => whnf)
    | (refine (?_ : am_sw _ _ _ _); conv => whnf)
    | refine And.intro trivial ?_
    | exact trivial
    | refine k _ ?_ ?_
    | refine And.intro (fun h => absurd h (by decide)) (fun _ => ?_)
    | refine And.intro (fun _ => ?_) (fun h => absurd (by decide) h)
    | refine And.intro (fun _ => ?_) (fun _ => ?_)
    | refine And.intro ?_ ?_
  all_goals (first | decide | omega | (simp only [ci, cj, c0, c4] at *; omega) | (intro a b h; simp only [ci]; rw [am_upS, if_neg (by omega), am_upS, if_neg (by omega), am_upS, if_neg (by omega), am_upS, if_neg (by omega), am_upS, if_neg (by omega), am_upS, if_neg (by omega)]) | (intro a h0 h1; simp only [ci, cj]; rcases (show a = 1 ∨ a = 2 ∨ a = 3 ∨ a = 4 ∨ a = 5 ∨ a = 6 by omega) with rfl | rfl | rfl | rfl | rfl | rfl <;> simp [am_up]) | (exfalso; simp only [ci, cj, c0, c4] at *; omega) | (trace_state; fail))
theorem x_take_8_1 {l : Launch} {ν : am_N} {Q : Option am_V → am_N → Prop} (k : ∀ μ' : am_N, (∀ a b, ¬(8 ≤ a ∧ a < 15) → μ' a b = ν a b) → (∀ b : Nat, b < 5 → μ' 8 b = ν 1 b) → (∀ a : Nat, 0 < a → a < 7 → ∀ b : Nat, b < 4 → μ' (8 + a) b = ν (1 + a) b) → Q none μ') : am_Does l 2 [.inr (.inr 8), .inr (.inr 1)] ν Q := by
  refine am_Does_of (Nat.le_of_ble_eq_true rfl) (Nat.le_of_ble_eq_true rfl) (Nat.le_of_ble_eq_true rfl) ?_
  have lp15 : ∀ (m : Nat) (i : Int) (μ : am_N) , (∀ a b, ¬(8 ≤ a ∧ a < 15) → μ a b = ν a b) → (∀ b : Nat, b < 5 → μ 8 b = ν 1 b) → 0 ≤ i → i ≤ 4 → (∀ a : Nat, 0 < a → a < 7 → ∀ b : Nat, (b : Int) < i → μ (8 + a) b = ν (1 + a) b) → 4 - i < (m : Int) → am_AW l 0 (fun _ => 0) 2 Q 15 [some (.inr (.inr 8)), some (.inr (.inr 1)), some (.inl i)] [] μ := by
    intro m
    induction m with
    | zero =>
      intro i μ hv0 hv1 hv2 hv3 hv4 hm
      exfalso
      omega
    | succ m ih =>
      intro i μ hv0 hv1 hv2 hv3 hv4 hm
      have ci : am_c i = i := am_cR (by omega) (by omega)
      have c4 : am_c 4 = 4 := rfl
      refine am_go (ct := fun pc => Nat.beq pc 15) am_oX0_take 300 ?_
      conv => whnf
      repeat' first
        | (refine (?_ : am_wp _ _ _ _ _ _ _ _ _ _ _ _); conv => whnf)
        | (refine (?_ : am_sw _ _ _ _); conv => whnf)
        | refine And.intro trivial ?_
        | exact trivial
        | refine x_tR_8_1 _ _ ?_ ?_ ?_ ?_ (fun _ _ _ => ?_)
        | refine k _ ?_ ?_ ?_
        | refine x_tS_8_1 (fun _ _ _ => ?_)
        | refine ih _ _ ?_ ?_ ?_ ?_ ?_ ?_
        | refine And.intro (fun h => absurd h (by decide)) (fun _ => ?_)
        | refine And.intro (fun _ => ?_) (fun h => absurd (by decide) h)
        | refine And.intro (fun _ => ?_) (fun _ => ?_)
        | refine And.intro ?_ ?_
      all_goals (first | decide | assumption | omega | (simp only [ci, c4] at *; omega) | (intro a h0 h1 b hb; exact hv4 a h0 h1 b (by simp only [ci, c4] at *; omega)) | (rename_i h1 h2; intro a b h; rw [h1 a b (by omega)]; exact hv0 a b h) | (rename_i h1 h2; intro b hb; rw [h1 _ _ (by omega)]; exact hv1 b hb) | (rename_i h1 h2; intro a h3 h4 b hb; by_cases d : (b : Int) = i; (rw [show b = i.toNat by omega, h2 a h3 h4, hv0 _ _ (by omega)]); (rw [h1 _ _ (by omega)]; exact hv4 a h3 h4 b (by omega))) | (trace_state; fail))
  have lp15' : ∀ (i : Int) (μ : am_N) , (∀ a b, ¬(8 ≤ a ∧ a < 15) → μ a b = ν a b) → (∀ b : Nat, b < 5 → μ 8 b = ν 1 b) → 0 ≤ i → i ≤ 4 → (∀ a : Nat, 0 < a → a < 7 → ∀ b : Nat, (b : Int) < i → μ (8 + a) b = ν (1 + a) b) → am_AW l 0 (fun _ => 0) 2 Q 15 [some (.inr (.inr 8)), some (.inr (.inr 1)), some (.inl i)] [] μ := fun i μ hv0 hv1 hv2 hv3 hv4 => lp15 ((4 - i) + 1).toNat i μ hv0 hv1 hv2 hv3 hv4 (by omega)
  refine am_go (ct := fun pc => Nat.beq pc 15) am_oX0_take 300 ?_
  conv => whnf
  repeat' first
    | (refine (?_ : am_wp _ _ _ _ _ _ _ _ _ _ _ _); conv => whnf)
    | (refine (?_ : am_sw _ _ _ _); conv => whnf)
    | refine And.intro trivial ?_
    | exact trivial
    | refine x_tS_8_1 (fun _ _ _ => ?_)
    | refine lp15' _ _ ?_ ?_ ?_ ?_ ?_
    | refine And.intro (fun h => absurd h (by decide)) (fun _ => ?_)
    | refine And.intro (fun _ => ?_) (fun h => absurd (by decide) h)
    | refine And.intro (fun _ => ?_) (fun _ => ?_)
    | refine And.intro ?_ ?_
  all_goals (first | decide | assumption | omega | (rename_i h1 h2; intro a b h; rw [am_upS, if_neg (by omega)]; exact h1 a b (by omega)) | (rename_i h1 h2; intro b hb; by_cases d : b = 4; (subst d; rw [am_upS, if_pos ⟨rfl, rfl⟩]; exact h1 _ _ (by omega)); (rw [am_upM d]; exact h2 b (by omega))) | (intros; omega) | (trace_state; fail))
theorem x_tS_1_8 {l : Launch} {ν : am_N} {Q : Option am_V → am_N → Prop} (k : ∀ μ' : am_N, (∀ a b, ¬(a = 1 ∧ b < 4) → μ' a b = ν a b) → (∀ b : Nat, b < 4 → μ' 1 b = ν 8 b) → Q none μ') : am_Does l 4 [.inr (.inr 1), .inr (.inr 8)] ν Q := by
  refine am_Does_of (Nat.le_of_ble_eq_true rfl) (Nat.le_of_ble_eq_true rfl) (Nat.le_of_ble_eq_true rfl) ?_
  refine am_go (ct := fun _ => false) am_oX0_takeSettings 300 ?_
  conv => whnf
  repeat' first
    | (refine (?_ : am_wp _ _ _ _ _ _ _ _ _ _ _ _); conv => whnf)
    | (refine (?_ : am_sw _ _ _ _); conv => whnf)
    | refine And.intro trivial ?_
    | exact trivial
    | refine k _ ?_ ?_
    | refine And.intro (fun h => absurd h (by decide)) (fun _ => ?_)
    | refine And.intro (fun _ => ?_) (fun h => absurd (by decide) h)
    | refine And.intro (fun _ => ?_) (fun _ => ?_)
    | refine And.intro ?_ ?_
  all_goals (first | decide | rfl | (intro a b h; rw [am_upS, if_neg (by omega), am_upS, if_neg (by omega), am_upS, if_neg (by omega), am_upS, if_neg (by omega)]) | (intro b hb; rcases (show b = 0 ∨ b = 1 ∨ b = 2 ∨ b = 3 by omega) with rfl | rfl | rfl | rfl <;> rfl) | (trace_state; fail))
theorem x_tR_1_8 {l : Launch} {ν : am_N} {Q : Option am_V → am_N → Prop} (i j : Int) (i0 : 0 ≤ i) (i1 : i < 4) (j0 : 0 ≤ j) (j1 : j < 4) (k : ∀ μ' : am_N, (∀ a b, ¬((1 < a ∧ a < 8) ∧ b = i.toNat) → μ' a b = ν a b) → (∀ a : Nat, 0 < a → a < 7 → μ' (1 + a) i.toNat = ν (8 + a) j.toNat) → Q none μ') : am_Does l 5 [.inr (.inr 1), .inl i, .inr (.inr 8), .inl j] ν Q := by
  refine am_Does_of (Nat.le_of_ble_eq_true rfl) (Nat.le_of_ble_eq_true rfl) (Nat.le_of_ble_eq_true rfl) ?_
  have ci : am_c i = i := am_cR (by omega) (by omega)
  have cj : am_c j = j := am_cR (by omega) (by omega)
  have c0 : am_c 0 = 0 := rfl
  have c4 : am_c 4 = 4 := rfl
  refine am_go (ct := fun _ => false) am_oX0_takeRunner 300 ?_
  conv => whnf
  repeat' first
    | (refine (?_ : am_wp _ _ _ _ _ _ _ _ _ _ _ _); conv => whnf)
    | (refine (?_ : am_sw _ _ _ _); conv => whnf)
    | refine And.intro trivial ?_
    | exact trivial
    | refine k _ ?_ ?_
    | refine And.intro (fun h => absurd h (by decide)) (fun _ => ?_)
    | refine And.intro (fun _ => ?_) (fun h => absurd (by decide) h)
    | refine And.intro (fun _ => ?_) (fun _ => ?_)
    | refine And.intro ?_ ?_
  all_goals (first | decide | omega | (simp only [ci, cj, c0, c4] at *; omega) | (intro a b h; simp only [ci]; rw [am_upS, if_neg (by omega), am_upS, if_neg (by omega), am_upS, if_neg (by omega), am_upS, if_neg (by omega), am_upS, if_neg (by omega), am_upS, if_neg (by omega)]) | (intro a h0 h1; simp only [ci, cj]; rcases (show a = 1 ∨ a = 2 ∨ a = 3 ∨ a = 4 ∨ a = 5 ∨ a = 6 by omega) with rfl | rfl | rfl | rfl | rfl | rfl <;> simp [am_up]) | (exfalso; simp only [ci, cj, c0, c4] at *; omega) | (trace_state; fail))
theorem x_take_1_8 {l : Launch} {ν : am_N} {Q : Option am_V → am_N → Prop} (k : ∀ μ' : am_N, (∀ a b, ¬(1 ≤ a ∧ a < 8) → μ' a b = ν a b) → (∀ b : Nat, b < 5 → μ' 1 b = ν 8 b) → (∀ a : Nat, 0 < a → a < 7 → ∀ b : Nat, b < 4 → μ' (1 + a) b = ν (8 + a) b) → Q none μ') : am_Does l 2 [.inr (.inr 1), .inr (.inr 8)] ν Q := by
  refine am_Does_of (Nat.le_of_ble_eq_true rfl) (Nat.le_of_ble_eq_true rfl) (Nat.le_of_ble_eq_true rfl) ?_
  have lp15 : ∀ (m : Nat) (i : Int) (μ : am_N) , (∀ a b, ¬(1 ≤ a ∧ a < 8) → μ a b = ν a b) → (∀ b : Nat, b < 5 → μ 1 b = ν 8 b) → 0 ≤ i → i ≤ 4 → (∀ a : Nat, 0 < a → a < 7 → ∀ b : Nat, (b : Int) < i → μ (1 + a) b = ν (8 + a) b) → 4 - i < (m : Int) → am_AW l 0 (fun _ => 0) 2 Q 15 [some (.inr (.inr 1)), some (.inr (.inr 8)), some (.inl i)] [] μ := by
    intro m
    induction m with
    | zero =>
      intro i μ hv0 hv1 hv2 hv3 hv4 hm
      exfalso
      omega
    | succ m ih =>
      intro i μ hv0 hv1 hv2 hv3 hv4 hm
      have ci : am_c i = i := am_cR (by omega) (by omega)
      have c4 : am_c 4 = 4 := rfl
      refine am_go (ct := fun pc => Nat.beq pc 15) am_oX0_take 300 ?_
      conv => whnf
      repeat' first
        | (refine (?_ : am_wp _ _ _ _ _ _ _ _ _ _ _ _); conv => whnf)
        | (refine (?_ : am_sw _ _ _ _); conv => whnf)
        | refine And.intro trivial ?_
        | exact trivial
        | refine x_tR_1_8 _ _ ?_ ?_ ?_ ?_ (fun _ _ _ => ?_)
        | refine k _ ?_ ?_ ?_
        | refine x_tS_1_8 (fun _ _ _ => ?_)
        | refine ih _ _ ?_ ?_ ?_ ?_ ?_ ?_
        | refine And.intro (fun h => absurd h (by decide)) (fun _ => ?_)
        | refine And.intro (fun _ => ?_) (fun h => absurd (by decide) h)
        | refine And.intro (fun _ => ?_) (fun _ => ?_)
        | refine And.intro ?_ ?_
      all_goals (first | decide | assumption | omega | (simp only [ci, c4] at *; omega) | (intro a h0 h1 b hb; exact hv4 a h0 h1 b (by simp only [ci, c4] at *; omega)) | (rename_i h1 h2; intro a b h; rw [h1 a b (by omega)]; exact hv0 a b h) | (rename_i h1 h2; intro b hb; rw [h1 _ _ (by omega)]; exact hv1 b hb) | (rename_i h1 h2; intro a h3 h4 b hb; by_cases d : (b : Int) = i; (rw [show b = i.toNat by omega, h2 a h3 h4, hv0 _ _ (by omega)]); (rw [h1 _ _ (by omega)]; exact hv4 a h3 h4 b (by omega))) | (trace_state; fail))
  have lp15' : ∀ (i : Int) (μ : am_N) , (∀ a b, ¬(1 ≤ a ∧ a < 8) → μ a b = ν a b) → (∀ b : Nat, b < 5 → μ 1 b = ν 8 b) → 0 ≤ i → i ≤ 4 → (∀ a : Nat, 0 < a → a < 7 → ∀ b : Nat, (b : Int) < i → μ (1 + a) b = ν (8 + a) b) → am_AW l 0 (fun _ => 0) 2 Q 15 [some (.inr (.inr 1)), some (.inr (.inr 8)), some (.inl i)] [] μ := fun i μ hv0 hv1 hv2 hv3 hv4 => lp15 ((4 - i) + 1).toNat i μ hv0 hv1 hv2 hv3 hv4 (by omega)
  refine am_go (ct := fun pc => Nat.beq pc 15) am_oX0_take 300 ?_
  conv => whnf
  repeat' first
    | (refine (?_ : am_wp _ _ _ _ _ _ _ _ _ _ _ _); conv => whnf)
    | (refine (?_ : am_sw _ _ _ _); conv => whnf)
    | refine And.intro trivial ?_
    | exact trivial
    | refine x_tS_1_8 (fun _ _ _ => ?_)
    | refine lp15' _ _ ?_ ?_ ?_ ?_ ?_
    | refine And.intro (fun h => absurd h (by decide)) (fun _ => ?_)
    | refine And.intro (fun _ => ?_) (fun h => absurd (by decide) h)
    | refine And.intro (fun _ => ?_) (fun _ => ?_)
    | refine And.intro ?_ ?_
  all_goals (first | decide | assumption | omega | (rename_i h1 h2; intro a b h; rw [am_upS, if_neg (by omega)]; exact h1 a b (by omega)) | (rename_i h1 h2; intro b hb; by_cases d : b = 4; (subst d; rw [am_upS, if_pos ⟨rfl, rfl⟩]; exact h1 _ _ (by omega)); (rw [am_upM d]; exact h2 b (by omega))) | (intros; omega) | (trace_state; fail))
theorem x_tS_22_1 {l : Launch} {ν : am_N} {Q : Option am_V → am_N → Prop} (k : ∀ μ' : am_N, (∀ a b, ¬(a = 22 ∧ b < 4) → μ' a b = ν a b) → (∀ b : Nat, b < 4 → μ' 22 b = ν 1 b) → Q none μ') : am_Does l 4 [.inr (.inr 22), .inr (.inr 1)] ν Q := by
  refine am_Does_of (Nat.le_of_ble_eq_true rfl) (Nat.le_of_ble_eq_true rfl) (Nat.le_of_ble_eq_true rfl) ?_
  refine am_go (ct := fun _ => false) am_oX0_takeSettings 300 ?_
  conv => whnf
  repeat' first
    | (refine (?_ : am_wp _ _ _ _ _ _ _ _ _ _ _ _); conv => whnf)
    | (refine (?_ : am_sw _ _ _ _); conv => whnf)
    | refine And.intro trivial ?_
    | exact trivial
    | refine k _ ?_ ?_
    | refine And.intro (fun h => absurd h (by decide)) (fun _ => ?_)
    | refine And.intro (fun _ => ?_) (fun h => absurd (by decide) h)
    | refine And.intro (fun _ => ?_) (fun _ => ?_)
    | refine And.intro ?_ ?_
  all_goals (first | decide | rfl | (intro a b h; rw [am_upS, if_neg (by omega), am_upS, if_neg (by omega), am_upS, if_neg (by omega), am_upS, if_neg (by omega)]) | (intro b hb; rcases (show b = 0 ∨ b = 1 ∨ b = 2 ∨ b = 3 by omega) with rfl | rfl | rfl | rfl <;> rfl) | (trace_state; fail))
theorem x_tR_22_1 {l : Launch} {ν : am_N} {Q : Option am_V → am_N → Prop} (i j : Int) (i0 : 0 ≤ i) (i1 : i < 4) (j0 : 0 ≤ j) (j1 : j < 4) (k : ∀ μ' : am_N, (∀ a b, ¬((22 < a ∧ a < 29) ∧ b = i.toNat) → μ' a b = ν a b) → (∀ a : Nat, 0 < a → a < 7 → μ' (22 + a) i.toNat = ν (1 + a) j.toNat) → Q none μ') : am_Does l 5 [.inr (.inr 22), .inl i, .inr (.inr 1), .inl j] ν Q := by
  refine am_Does_of (Nat.le_of_ble_eq_true rfl) (Nat.le_of_ble_eq_true rfl) (Nat.le_of_ble_eq_true rfl) ?_
  have ci : am_c i = i := am_cR (by omega) (by omega)
  have cj : am_c j = j := am_cR (by omega) (by omega)
  have c0 : am_c 0 = 0 := rfl
  have c4 : am_c 4 = 4 := rfl
  refine am_go (ct := fun _ => false) am_oX0_takeRunner 300 ?_
  conv => whnf
  repeat' first
    | (refine (?_ : am_wp _ _ _ _ _ _ _ _ _ _ _ _); conv => whnf)
    | (refine (?_ : am_sw _ _ _ _); conv => whnf)
    | refine And.intro trivial ?_
    | exact trivial
    | refine k _ ?_ ?_
    | refine And.intro (fun h => absurd h (by decide)) (fun _ => ?_)
    | refine And.intro (fun _ => ?_) (fun h => absurd (by decide) h)
    | refine And.intro (fun _ => ?_) (fun _ => ?_)
    | refine And.intro ?_ ?_
  all_goals (first | decide | omega | (simp only [ci, cj, c0, c4] at *; omega) | (intro a b h; simp only [ci]; rw [am_upS, if_neg (by omega), am_upS, if_neg (by omega), am_upS, if_neg (by omega), am_upS, if_neg (by omega), am_upS, if_neg (by omega), am_upS, if_neg (by omega)]) | (intro a h0 h1; simp only [ci, cj]; rcases (show a = 1 ∨ a = 2 ∨ a = 3 ∨ a = 4 ∨ a = 5 ∨ a = 6 by omega) with rfl | rfl | rfl | rfl | rfl | rfl <;> simp [am_up]) | (exfalso; simp only [ci, cj, c0, c4] at *; omega) | (trace_state; fail))
theorem x_take_22_1 {l : Launch} {ν : am_N} {Q : Option am_V → am_N → Prop} (k : ∀ μ' : am_N, (∀ a b, ¬(22 ≤ a ∧ a < 29) → μ' a b = ν a b) → (∀ b : Nat, b < 5 → μ' 22 b = ν 1 b) → (∀ a : Nat, 0 < a → a < 7 → ∀ b : Nat, b < 4 → μ' (22 + a) b = ν (1 + a) b) → Q none μ') : am_Does l 2 [.inr (.inr 22), .inr (.inr 1)] ν Q := by
  refine am_Does_of (Nat.le_of_ble_eq_true rfl) (Nat.le_of_ble_eq_true rfl) (Nat.le_of_ble_eq_true rfl) ?_
  have lp15 : ∀ (m : Nat) (i : Int) (μ : am_N) , (∀ a b, ¬(22 ≤ a ∧ a < 29) → μ a b = ν a b) → (∀ b : Nat, b < 5 → μ 22 b = ν 1 b) → 0 ≤ i → i ≤ 4 → (∀ a : Nat, 0 < a → a < 7 → ∀ b : Nat, (b : Int) < i → μ (22 + a) b = ν (1 + a) b) → 4 - i < (m : Int) → am_AW l 0 (fun _ => 0) 2 Q 15 [some (.inr (.inr 22)), some (.inr (.inr 1)), some (.inl i)] [] μ := by
    intro m
    induction m with
    | zero =>
      intro i μ hv0 hv1 hv2 hv3 hv4 hm
      exfalso
      omega
    | succ m ih =>
      intro i μ hv0 hv1 hv2 hv3 hv4 hm
      have ci : am_c i = i := am_cR (by omega) (by omega)
      have c4 : am_c 4 = 4 := rfl
      refine am_go (ct := fun pc => Nat.beq pc 15) am_oX0_take 300 ?_
      conv => whnf
      repeat' first
        | (refine (?_ : am_wp _ _ _ _ _ _ _ _ _ _ _ _); conv => whnf)
        | (refine (?_ : am_sw _ _ _ _); conv => whnf)
        | refine And.intro trivial ?_
        | exact trivial
        | refine x_tR_22_1 _ _ ?_ ?_ ?_ ?_ (fun _ _ _ => ?_)
        | refine k _ ?_ ?_ ?_
        | refine x_tS_22_1 (fun _ _ _ => ?_)
        | refine ih _ _ ?_ ?_ ?_ ?_ ?_ ?_
        | refine And.intro (fun h => absurd h (by decide)) (fun _ => ?_)
        | refine And.intro (fun _ => ?_) (fun h => absurd (by decide) h)
        | refine And.intro (fun _ => ?_) (fun _ => ?_)
        | refine And.intro ?_ ?_
      all_goals (first | decide | assumption | omega | (simp only [ci, c4] at *; omega) | (intro a h0 h1 b hb; exact hv4 a h0 h1 b (by simp only [ci, c4] at *; omega)) | (rename_i h1 h2; intro a b h; rw [h1 a b (by omega)]; exact hv0 a b h) | (rename_i h1 h2; intro b hb; rw [h1 _ _ (by omega)]; exact hv1 b hb) | (rename_i h1 h2; intro a h3 h4 b hb; by_cases d : (b : Int) = i; (rw [show b = i.toNat by omega, h2 a h3 h4, hv0 _ _ (by omega)]); (rw [h1 _ _ (by omega)]; exact hv4 a h3 h4 b (by omega))) | (trace_state; fail))
  have lp15' : ∀ (i : Int) (μ : am_N) , (∀ a b, ¬(22 ≤ a ∧ a < 29) → μ a b = ν a b) → (∀ b : Nat, b < 5 → μ 22 b = ν 1 b) → 0 ≤ i → i ≤ 4 → (∀ a : Nat, 0 < a → a < 7 → ∀ b : Nat, (b : Int) < i → μ (22 + a) b = ν (1 + a) b) → am_AW l 0 (fun _ => 0) 2 Q 15 [some (.inr (.inr 22)), some (.inr (.inr 1)), some (.inl i)] [] μ := fun i μ hv0 hv1 hv2 hv3 hv4 => lp15 ((4 - i) + 1).toNat i μ hv0 hv1 hv2 hv3 hv4 (by omega)
  refine am_go (ct := fun pc => Nat.beq pc 15) am_oX0_take 300 ?_
  conv => whnf
  repeat' first
    | (refine (?_ : am_wp _ _ _ _ _ _ _ _ _ _ _ _); conv => whnf)
    | (refine (?_ : am_sw _ _ _ _); conv => whnf)
    | refine And.intro trivial ?_
    | exact trivial
    | refine x_tS_22_1 (fun _ _ _ => ?_)
    | refine lp15' _ _ ?_ ?_ ?_ ?_ ?_
    | refine And.intro (fun h => absurd h (by decide)) (fun _ => ?_)
    | refine And.intro (fun _ => ?_) (fun h => absurd (by decide) h)
    | refine And.intro (fun _ => ?_) (fun _ => ?_)
    | refine And.intro ?_ ?_
  all_goals (first | decide | assumption | omega | (rename_i h1 h2; intro a b h; rw [am_upS, if_neg (by omega)]; exact h1 a b (by omega)) | (rename_i h1 h2; intro b hb; by_cases d : b = 4; (subst d; rw [am_upS, if_pos ⟨rfl, rfl⟩]; exact h1 _ _ (by omega)); (rw [am_upM d]; exact h2 b (by omega))) | (intros; omega) | (trace_state; fail))
theorem x_tS_1_22 {l : Launch} {ν : am_N} {Q : Option am_V → am_N → Prop} (k : ∀ μ' : am_N, (∀ a b, ¬(a = 1 ∧ b < 4) → μ' a b = ν a b) → (∀ b : Nat, b < 4 → μ' 1 b = ν 22 b) → Q none μ') : am_Does l 4 [.inr (.inr 1), .inr (.inr 22)] ν Q := by
  refine am_Does_of (Nat.le_of_ble_eq_true rfl) (Nat.le_of_ble_eq_true rfl) (Nat.le_of_ble_eq_true rfl) ?_
  refine am_go (ct := fun _ => false) am_oX0_takeSettings 300 ?_
  conv => whnf
  repeat' first
    | (refine (?_ : am_wp _ _ _ _ _ _ _ _ _ _ _ _); conv => whnf)
    | (refine (?_ : am_sw _ _ _ _); conv => whnf)
    | refine And.intro trivial ?_
    | exact trivial
    | refine k _ ?_ ?_
    | refine And.intro (fun h => absurd h (by decide)) (fun _ => ?_)
    | refine And.intro (fun _ => ?_) (fun h => absurd (by decide) h)
    | refine And.intro (fun _ => ?_) (fun _ => ?_)
    | refine And.intro ?_ ?_
  all_goals (first | decide | rfl | (intro a b h; rw [am_upS, if_neg (by omega), am_upS, if_neg (by omega), am_upS, if_neg (by omega), am_upS, if_neg (by omega)]) | (intro b hb; rcases (show b = 0 ∨ b = 1 ∨ b = 2 ∨ b = 3 by omega) with rfl | rfl | rfl | rfl <;> rfl) | (trace_state; fail))
theorem x_tR_1_22 {l : Launch} {ν : am_N} {Q : Option am_V → am_N → Prop} (i j : Int) (i0 : 0 ≤ i) (i1 : i < 4) (j0 : 0 ≤ j) (j1 : j < 4) (k : ∀ μ' : am_N, (∀ a b, ¬((1 < a ∧ a < 8) ∧ b = i.toNat) → μ' a b = ν a b) → (∀ a : Nat, 0 < a → a < 7 → μ' (1 + a) i.toNat = ν (22 + a) j.toNat) → Q none μ') : am_Does l 5 [.inr (.inr 1), .inl i, .inr (.inr 22), .inl j] ν Q := by
  refine am_Does_of (Nat.le_of_ble_eq_true rfl) (Nat.le_of_ble_eq_true rfl) (Nat.le_of_ble_eq_true rfl) ?_
  have ci : am_c i = i := am_cR (by omega) (by omega)
  have cj : am_c j = j := am_cR (by omega) (by omega)
  have c0 : am_c 0 = 0 := rfl
  have c4 : am_c 4 = 4 := rfl
  refine am_go (ct := fun _ => false) am_oX0_takeRunner 300 ?_
  conv => whnf
  repeat' first
    | (refine (?_ : am_wp _ _ _ _ _ _ _ _ _ _ _ _); conv => whnf)
    | (refine (?_ : am_sw _ _ _ _); conv => whnf)
    | refine And.intro trivial ?_
    | exact trivial
    | refine k _ ?_ ?_
    | refine And.intro (fun h => absurd h (by decide)) (fun _ => ?_)
    | refine And.intro (fun _ => ?_) (fun h => absurd (by decide) h)
    | refine And.intro (fun _ => ?_) (fun _ => ?_)
    | refine And.intro ?_ ?_
  all_goals (first | decide | omega | (simp only [ci, cj, c0, c4] at *; omega) | (intro a b h; simp only [ci]; rw [am_upS, if_neg (by omega), am_upS, if_neg (by omega), am_upS, if_neg (by omega), am_upS, if_neg (by omega), am_upS, if_neg (by omega), am_upS, if_neg (by omega)]) | (intro a h0 h1; simp only [ci, cj]; rcases (show a = 1 ∨ a = 2 ∨ a = 3 ∨ a = 4 ∨ a = 5 ∨ a = 6 by omega) with rfl | rfl | rfl | rfl | rfl | rfl <;> simp [am_up]) | (exfalso; simp only [ci, cj, c0, c4] at *; omega) | (trace_state; fail))
theorem x_take_1_22 {l : Launch} {ν : am_N} {Q : Option am_V → am_N → Prop} (k : ∀ μ' : am_N, (∀ a b, ¬(1 ≤ a ∧ a < 8) → μ' a b = ν a b) → (∀ b : Nat, b < 5 → μ' 1 b = ν 22 b) → (∀ a : Nat, 0 < a → a < 7 → ∀ b : Nat, b < 4 → μ' (1 + a) b = ν (22 + a) b) → Q none μ') : am_Does l 2 [.inr (.inr 1), .inr (.inr 22)] ν Q := by
  refine am_Does_of (Nat.le_of_ble_eq_true rfl) (Nat.le_of_ble_eq_true rfl) (Nat.le_of_ble_eq_true rfl) ?_
  have lp15 : ∀ (m : Nat) (i : Int) (μ : am_N) , (∀ a b, ¬(1 ≤ a ∧ a < 8) → μ a b = ν a b) → (∀ b : Nat, b < 5 → μ 1 b = ν 22 b) → 0 ≤ i → i ≤ 4 → (∀ a : Nat, 0 < a → a < 7 → ∀ b : Nat, (b : Int) < i → μ (1 + a) b = ν (22 + a) b) → 4 - i < (m : Int) → am_AW l 0 (fun _ => 0) 2 Q 15 [some (.inr (.inr 1)), some (.inr (.inr 22)), some (.inl i)] [] μ := by
    intro m
    induction m with
    | zero =>
      intro i μ hv0 hv1 hv2 hv3 hv4 hm
      exfalso
      omega
    | succ m ih =>
      intro i μ hv0 hv1 hv2 hv3 hv4 hm
      have ci : am_c i = i := am_cR (by omega) (by omega)
      have c4 : am_c 4 = 4 := rfl
      refine am_go (ct := fun pc => Nat.beq pc 15) am_oX0_take 300 ?_
      conv => whnf
      repeat' first
        | (refine (?_ : am_wp _ _ _ _ _ _ _ _ _ _ _ _); conv => whnf)
        | (refine (?_ : am_sw _ _ _ _); conv => whnf)
        | refine And.intro trivial ?_
        | exact trivial
        | refine x_tR_1_22 _ _ ?_ ?_ ?_ ?_ (fun _ _ _ => ?_)
        | refine k _ ?_ ?_ ?_
        | refine x_tS_1_22 (fun _ _ _ => ?_)
        | refine ih _ _ ?_ ?_ ?_ ?_ ?_ ?_
        | refine And.intro (fun h => absurd h (by decide)) (fun _ => ?_)
        | refine And.intro (fun _ => ?_) (fun h => absurd (by decide) h)
        | refine And.intro (fun _ => ?_) (fun _ => ?_)
        | refine And.intro ?_ ?_
      all_goals (first | decide | assumption | omega | (simp only [ci, c4] at *; omega) | (intro a h0 h1 b hb; exact hv4 a h0 h1 b (by simp only [ci, c4] at *; omega)) | (rename_i h1 h2; intro a b h; rw [h1 a b (by omega)]; exact hv0 a b h) | (rename_i h1 h2; intro b hb; rw [h1 _ _ (by omega)]; exact hv1 b hb) | (rename_i h1 h2; intro a h3 h4 b hb; by_cases d : (b : Int) = i; (rw [show b = i.toNat by omega, h2 a h3 h4, hv0 _ _ (by omega)]); (rw [h1 _ _ (by omega)]; exact hv4 a h3 h4 b (by omega))) | (trace_state; fail))
  have lp15' : ∀ (i : Int) (μ : am_N) , (∀ a b, ¬(1 ≤ a ∧ a < 8) → μ a b = ν a b) → (∀ b : Nat, b < 5 → μ 1 b = ν 22 b) → 0 ≤ i → i ≤ 4 → (∀ a : Nat, 0 < a → a < 7 → ∀ b : Nat, (b : Int) < i → μ (1 + a) b = ν (22 + a) b) → am_AW l 0 (fun _ => 0) 2 Q 15 [some (.inr (.inr 1)), some (.inr (.inr 22)), some (.inl i)] [] μ := fun i μ hv0 hv1 hv2 hv3 hv4 => lp15 ((4 - i) + 1).toNat i μ hv0 hv1 hv2 hv3 hv4 (by omega)
  refine am_go (ct := fun pc => Nat.beq pc 15) am_oX0_take 300 ?_
  conv => whnf
  repeat' first
    | (refine (?_ : am_wp _ _ _ _ _ _ _ _ _ _ _ _); conv => whnf)
    | (refine (?_ : am_sw _ _ _ _); conv => whnf)
    | refine And.intro trivial ?_
    | exact trivial
    | refine x_tS_1_22 (fun _ _ _ => ?_)
    | refine lp15' _ _ ?_ ?_ ?_ ?_ ?_
    | refine And.intro (fun h => absurd h (by decide)) (fun _ => ?_)
    | refine And.intro (fun _ => ?_) (fun h => absurd (by decide) h)
    | refine And.intro (fun _ => ?_) (fun _ => ?_)
    | refine And.intro ?_ ?_
  all_goals (first | decide | assumption | omega | (rename_i h1 h2; intro a b h; rw [am_upS, if_neg (by omega)]; exact h1 a b (by omega)) | (rename_i h1 h2; intro b hb; by_cases d : b = 4; (subst d; rw [am_upS, if_pos ⟨rfl, rfl⟩]; exact h1 _ _ (by omega)); (rw [am_upM d]; exact h2 b (by omega))) | (intros; omega) | (trace_state; fail))
