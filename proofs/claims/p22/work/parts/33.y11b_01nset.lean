theorem n_set_0 {l : Launch} {ν : am_N} {Q : Option am_V → am_N → Prop} (w v : Int) (cw : am_c w = w) (cv : am_c v = v) (hW : w = 0) (k1 : (0 ≤ w ∧ w ≤ 3) → fp_sb w v → ∀ μ' : am_N, (∀ a b, ¬(a = 83 ∧ 10 ≤ b ∧ b ≤ 13) → ¬(a = 83 ∧ b = 33) → μ' a b = ν a b) → (∀ b : Nat, b < 4 → μ' 83 (10 + b) = if b = fp_sl w then v else ν 83 (10 + b)) → μ' 83 33 = 0 → Q (some (.inl (ν 83 (10 + fp_sl w)))) μ') (k0 : ¬((0 ≤ w ∧ w ≤ 3) ∧ fp_sb w v) → ∀ (r : Int) (μ' : am_N), (∀ a b, a ≠ 84 → μ' a b = ν a b) → Q (some (.inl r)) μ') : am_Does l 176 [.inr (.inr 83), .inl w, .inl v] ν Q := by
  refine am_Does_of (Nat.le_of_ble_eq_true rfl) (Nat.le_of_ble_eq_true rfl) (Nat.le_of_ble_eq_true rfl) ?_
  have l0 : am_c 0 = 0 := rfl
  have l1 : am_c 1 = 1 := rfl
  have l2 : am_c 2 = 2 := rfl
  have l3 : am_c 3 = 3 := rfl
  have l4 : am_c 4 = 4 := rfl
  have l5 : am_c 5 = 5 := rfl
  have l7 : am_c 7 = 7 := rfl
  have l9 : am_c 9 = 9 := rfl
  have l10 : am_c 10 = 10 := rfl
  have l20 : am_c 20 = 20 := rfl
  have l96 : am_c 96 = 96 := rfl
  have l99 : am_c 99 = 99 := rfl
  have l200 : am_c 200 = 200 := rfl
  have l255 : am_c 255 = 255 := rfl
  have l999 : am_c 999 = 999 := rfl
  have m1 : am_c (-1) = -1 := rfl
  have m2 : am_c (-2) = -2 := rfl
  have m3 : am_c (-3) = -3 := rfl
  have m4 : am_c (-4) = -4 := rfl
  have m6 : am_c (-6) = -6 := rfl
  subst hW
  have hsl : fp_sl 0 = 0 := rfl
  refine am_go (ct := fun _ => false) am_oX7_set 300 ?_
  conv => whnf
  repeat' first
    | (refine (?_ : am_wp _ _ _ _ _ _ _ _ _ _ _ _); conv => whnf)
    | (refine (?_ : am_sw _ _ _ _); conv => whnf)
    | refine And.intro trivial ?_
    | exact trivial
    | ((with_reducible refine (?_ : am_Does _ 143 _ _ _)); refine x_isIn 0 _ _ _ rfl cw ?_ ?_ (fun _ _ => ?_) (fun _ => ?_))
    | ((with_reducible refine (?_ : am_Does _ 144 _ _ _)); refine x_bound _ _ _ ?_ ?_ ?_ (fun _ => ?_) (fun _ => ?_) (fun _ _ => ?_))
    | ((with_reducible refine (?_ : am_Does _ 140 _ _ _)); refine x_no _ ?_ (fun μr fr => ?_))
    | refine k0 (fun z => ?_) _ _ fr
    | refine And.intro (fun h => absurd h (by omega)) (fun _ => ?_)
    | refine And.intro (fun _ => ?_) (fun h => absurd h (by omega))
    | (refine am_qe (k1 (by decide) (show 20 ≤ v ∧ v ≤ 200 from ⟨by omega, by omega⟩) _ ?_ ?_ ?_) ?_)
    | refine And.intro (fun h => absurd h (by decide)) (fun _ => ?_)
    | refine And.intro (fun _ => ?_) (fun h => absurd (by decide) h)
    | refine And.intro (fun _ => ?_) (fun _ => ?_)
    | refine And.intro ?_ ?_
  all_goals (first | decide | omega | (have z2 : 20 ≤ v ∧ v ≤ 200 := z.2; omega) | (intro a b q1 q2; rw [am_uE (by omega), am_uE (by omega), am_uE (by omega), am_uE (by omega), am_uE (by omega)]) | (intro b hb; rcases (show b = 0 ∨ b = 1 ∨ b = 2 ∨ b = 3 by omega) with rfl | rfl | rfl | rfl <;> rfl) | rfl | (trace_state; fail))
theorem n_set_1 {l : Launch} {ν : am_N} {Q : Option am_V → am_N → Prop} (w v : Int) (cw : am_c w = w) (cv : am_c v = v) (hW : w = 1) (k1 : (0 ≤ w ∧ w ≤ 3) → fp_sb w v → ∀ μ' : am_N, (∀ a b, ¬(a = 83 ∧ 10 ≤ b ∧ b ≤ 13) → ¬(a = 83 ∧ b = 33) → μ' a b = ν a b) → (∀ b : Nat, b < 4 → μ' 83 (10 + b) = if b = fp_sl w then v else ν 83 (10 + b)) → μ' 83 33 = 0 → Q (some (.inl (ν 83 (10 + fp_sl w)))) μ') (k0 : ¬((0 ≤ w ∧ w ≤ 3) ∧ fp_sb w v) → ∀ (r : Int) (μ' : am_N), (∀ a b, a ≠ 84 → μ' a b = ν a b) → Q (some (.inl r)) μ') : am_Does l 176 [.inr (.inr 83), .inl w, .inl v] ν Q := by
  refine am_Does_of (Nat.le_of_ble_eq_true rfl) (Nat.le_of_ble_eq_true rfl) (Nat.le_of_ble_eq_true rfl) ?_
  have l0 : am_c 0 = 0 := rfl
  have l1 : am_c 1 = 1 := rfl
  have l2 : am_c 2 = 2 := rfl
  have l3 : am_c 3 = 3 := rfl
  have l4 : am_c 4 = 4 := rfl
  have l5 : am_c 5 = 5 := rfl
  have l7 : am_c 7 = 7 := rfl
  have l9 : am_c 9 = 9 := rfl
  have l10 : am_c 10 = 10 := rfl
  have l20 : am_c 20 = 20 := rfl
  have l96 : am_c 96 = 96 := rfl
  have l99 : am_c 99 = 99 := rfl
  have l200 : am_c 200 = 200 := rfl
  have l255 : am_c 255 = 255 := rfl
  have l999 : am_c 999 = 999 := rfl
  have m1 : am_c (-1) = -1 := rfl
  have m2 : am_c (-2) = -2 := rfl
  have m3 : am_c (-3) = -3 := rfl
  have m4 : am_c (-4) = -4 := rfl
  have m6 : am_c (-6) = -6 := rfl
  subst hW
  have hsl : fp_sl 1 = 2 := rfl
  refine am_go (ct := fun _ => false) am_oX7_set 300 ?_
  conv => whnf
  repeat' first
    | (refine (?_ : am_wp _ _ _ _ _ _ _ _ _ _ _ _); conv => whnf)
    | (refine (?_ : am_sw _ _ _ _); conv => whnf)
    | refine And.intro trivial ?_
    | exact trivial
    | ((with_reducible refine (?_ : am_Does _ 143 _ _ _)); refine x_isIn 1 _ _ _ rfl cw ?_ ?_ (fun _ _ => ?_) (fun _ => ?_))
    | ((with_reducible refine (?_ : am_Does _ 144 _ _ _)); refine x_bound _ _ _ ?_ ?_ ?_ (fun _ => ?_) (fun _ => ?_) (fun _ _ => ?_))
    | ((with_reducible refine (?_ : am_Does _ 140 _ _ _)); refine x_no _ ?_ (fun μr fr => ?_))
    | refine k0 (fun z => ?_) _ _ fr
    | refine And.intro (fun h => absurd h (by omega)) (fun _ => ?_)
    | refine And.intro (fun _ => ?_) (fun h => absurd h (by omega))
    | (refine am_qe (k1 (by decide) (show 0 ≤ v ∧ v ≤ 4 from ⟨by omega, by omega⟩) _ ?_ ?_ ?_) ?_)
    | refine And.intro (fun h => absurd h (by decide)) (fun _ => ?_)
    | refine And.intro (fun _ => ?_) (fun h => absurd (by decide) h)
    | refine And.intro (fun _ => ?_) (fun _ => ?_)
    | refine And.intro ?_ ?_
  all_goals (first | decide | omega | (have z2 : 0 ≤ v ∧ v ≤ 4 := z.2; omega) | (intro a b q1 q2; rw [am_uE (by omega), am_uE (by omega), am_uE (by omega), am_uE (by omega), am_uE (by omega)]) | (intro b hb; rcases (show b = 0 ∨ b = 1 ∨ b = 2 ∨ b = 3 by omega) with rfl | rfl | rfl | rfl <;> rfl) | rfl | (trace_state; fail))
theorem n_set_2 {l : Launch} {ν : am_N} {Q : Option am_V → am_N → Prop} (w v : Int) (cw : am_c w = w) (cv : am_c v = v) (hW : w = 2) (k1 : (0 ≤ w ∧ w ≤ 3) → fp_sb w v → ∀ μ' : am_N, (∀ a b, ¬(a = 83 ∧ 10 ≤ b ∧ b ≤ 13) → ¬(a = 83 ∧ b = 33) → μ' a b = ν a b) → (∀ b : Nat, b < 4 → μ' 83 (10 + b) = if b = fp_sl w then v else ν 83 (10 + b)) → μ' 83 33 = 0 → Q (some (.inl (ν 83 (10 + fp_sl w)))) μ') (k0 : ¬((0 ≤ w ∧ w ≤ 3) ∧ fp_sb w v) → ∀ (r : Int) (μ' : am_N), (∀ a b, a ≠ 84 → μ' a b = ν a b) → Q (some (.inl r)) μ') : am_Does l 176 [.inr (.inr 83), .inl w, .inl v] ν Q := by
  refine am_Does_of (Nat.le_of_ble_eq_true rfl) (Nat.le_of_ble_eq_true rfl) (Nat.le_of_ble_eq_true rfl) ?_
  have l0 : am_c 0 = 0 := rfl
  have l1 : am_c 1 = 1 := rfl
  have l2 : am_c 2 = 2 := rfl
  have l3 : am_c 3 = 3 := rfl
  have l4 : am_c 4 = 4 := rfl
  have l5 : am_c 5 = 5 := rfl
  have l7 : am_c 7 = 7 := rfl
  have l9 : am_c 9 = 9 := rfl
  have l10 : am_c 10 = 10 := rfl
  have l20 : am_c 20 = 20 := rfl
  have l96 : am_c 96 = 96 := rfl
  have l99 : am_c 99 = 99 := rfl
  have l200 : am_c 200 = 200 := rfl
  have l255 : am_c 255 = 255 := rfl
  have l999 : am_c 999 = 999 := rfl
  have m1 : am_c (-1) = -1 := rfl
  have m2 : am_c (-2) = -2 := rfl
  have m3 : am_c (-3) = -3 := rfl
  have m4 : am_c (-4) = -4 := rfl
  have m6 : am_c (-6) = -6 := rfl
  subst hW
  have hsl : fp_sl 2 = 3 := rfl
  refine am_go (ct := fun _ => false) am_oX7_set 300 ?_
  conv => whnf
  repeat' first
    | (refine (?_ : am_wp _ _ _ _ _ _ _ _ _ _ _ _); conv => whnf)
    | (refine (?_ : am_sw _ _ _ _); conv => whnf)
    | refine And.intro trivial ?_
    | exact trivial
    | ((with_reducible refine (?_ : am_Does _ 143 _ _ _)); refine x_isIn 2 _ _ _ rfl cw ?_ ?_ (fun _ _ => ?_) (fun _ => ?_))
    | ((with_reducible refine (?_ : am_Does _ 144 _ _ _)); refine x_bound _ _ _ ?_ ?_ ?_ (fun _ => ?_) (fun _ => ?_) (fun _ _ => ?_))
    | ((with_reducible refine (?_ : am_Does _ 140 _ _ _)); refine x_no _ ?_ (fun μr fr => ?_))
    | refine k0 (fun z => ?_) _ _ fr
    | refine And.intro (fun h => absurd h (by omega)) (fun _ => ?_)
    | refine And.intro (fun _ => ?_) (fun h => absurd h (by omega))
    | (refine am_qe (k1 (by decide) (show 1 ≤ v ∧ v ≤ 9 from ⟨by omega, by omega⟩) _ ?_ ?_ ?_) ?_)
    | refine And.intro (fun h => absurd h (by decide)) (fun _ => ?_)
    | refine And.intro (fun _ => ?_) (fun h => absurd (by decide) h)
    | refine And.intro (fun _ => ?_) (fun _ => ?_)
    | refine And.intro ?_ ?_
  all_goals (first | decide | omega | (have z2 : 1 ≤ v ∧ v ≤ 9 := z.2; omega) | (intro a b q1 q2; rw [am_uE (by omega), am_uE (by omega), am_uE (by omega), am_uE (by omega), am_uE (by omega)]) | (intro b hb; rcases (show b = 0 ∨ b = 1 ∨ b = 2 ∨ b = 3 by omega) with rfl | rfl | rfl | rfl <;> rfl) | rfl | (trace_state; fail))
theorem n_set_3 {l : Launch} {ν : am_N} {Q : Option am_V → am_N → Prop} (w v : Int) (cw : am_c w = w) (cv : am_c v = v) (hW : w = 3) (k1 : (0 ≤ w ∧ w ≤ 3) → fp_sb w v → ∀ μ' : am_N, (∀ a b, ¬(a = 83 ∧ 10 ≤ b ∧ b ≤ 13) → ¬(a = 83 ∧ b = 33) → μ' a b = ν a b) → (∀ b : Nat, b < 4 → μ' 83 (10 + b) = if b = fp_sl w then v else ν 83 (10 + b)) → μ' 83 33 = 0 → Q (some (.inl (ν 83 (10 + fp_sl w)))) μ') (k0 : ¬((0 ≤ w ∧ w ≤ 3) ∧ fp_sb w v) → ∀ (r : Int) (μ' : am_N), (∀ a b, a ≠ 84 → μ' a b = ν a b) → Q (some (.inl r)) μ') : am_Does l 176 [.inr (.inr 83), .inl w, .inl v] ν Q := by
  refine am_Does_of (Nat.le_of_ble_eq_true rfl) (Nat.le_of_ble_eq_true rfl) (Nat.le_of_ble_eq_true rfl) ?_
  have l0 : am_c 0 = 0 := rfl
  have l1 : am_c 1 = 1 := rfl
  have l2 : am_c 2 = 2 := rfl
  have l3 : am_c 3 = 3 := rfl
  have l4 : am_c 4 = 4 := rfl
  have l5 : am_c 5 = 5 := rfl
  have l7 : am_c 7 = 7 := rfl
  have l9 : am_c 9 = 9 := rfl
  have l10 : am_c 10 = 10 := rfl
  have l20 : am_c 20 = 20 := rfl
  have l96 : am_c 96 = 96 := rfl
  have l99 : am_c 99 = 99 := rfl
  have l200 : am_c 200 = 200 := rfl
  have l255 : am_c 255 = 255 := rfl
  have l999 : am_c 999 = 999 := rfl
  have m1 : am_c (-1) = -1 := rfl
  have m2 : am_c (-2) = -2 := rfl
  have m3 : am_c (-3) = -3 := rfl
  have m4 : am_c (-4) = -4 := rfl
  have m6 : am_c (-6) = -6 := rfl
  subst hW
  have hsl : fp_sl 3 = 1 := rfl
  refine am_go (ct := fun _ => false) am_oX7_set 300 ?_
  conv => whnf
  repeat' first
    | (refine (?_ : am_wp _ _ _ _ _ _ _ _ _ _ _ _); conv => whnf)
    | (refine (?_ : am_sw _ _ _ _); conv => whnf)
    | refine And.intro trivial ?_
    | exact trivial
    | ((with_reducible refine (?_ : am_Does _ 143 _ _ _)); refine x_isIn 3 _ _ _ rfl cw ?_ ?_ (fun _ _ => ?_) (fun _ => ?_))
    | ((with_reducible refine (?_ : am_Does _ 144 _ _ _)); refine x_bound _ _ _ ?_ ?_ ?_ (fun _ => ?_) (fun _ => ?_) (fun _ _ => ?_))
    | ((with_reducible refine (?_ : am_Does _ 140 _ _ _)); refine x_no _ ?_ (fun μr fr => ?_))
    | refine k0 (fun z => ?_) _ _ fr
    | refine And.intro (fun h => absurd h (by omega)) (fun _ => ?_)
    | refine And.intro (fun _ => ?_) (fun h => absurd h (by omega))
    | (refine am_qe (k1 (by decide) (show 0 ≤ v ∧ v ≤ 999 from ⟨by omega, by omega⟩) _ ?_ ?_ ?_) ?_)
    | refine And.intro (fun h => absurd h (by decide)) (fun _ => ?_)
    | refine And.intro (fun _ => ?_) (fun h => absurd (by decide) h)
    | refine And.intro (fun _ => ?_) (fun _ => ?_)
    | refine And.intro ?_ ?_
  all_goals (first | decide | omega | (have z2 : 0 ≤ v ∧ v ≤ 999 := z.2; omega) | (intro a b q1 q2; rw [am_uE (by omega), am_uE (by omega), am_uE (by omega), am_uE (by omega), am_uE (by omega)]) | (intro b hb; rcases (show b = 0 ∨ b = 1 ∨ b = 2 ∨ b = 3 by omega) with rfl | rfl | rfl | rfl <;> rfl) | rfl | (trace_state; fail))
theorem n_set_9 {l : Launch} {ν : am_N} {Q : Option am_V → am_N → Prop} (w v : Int) (cw : am_c w = w) (cv : am_c v = v) (hW : ¬(0 ≤ w ∧ w ≤ 3)) (k1 : (0 ≤ w ∧ w ≤ 3) → fp_sb w v → ∀ μ' : am_N, (∀ a b, ¬(a = 83 ∧ 10 ≤ b ∧ b ≤ 13) → ¬(a = 83 ∧ b = 33) → μ' a b = ν a b) → (∀ b : Nat, b < 4 → μ' 83 (10 + b) = if b = fp_sl w then v else ν 83 (10 + b)) → μ' 83 33 = 0 → Q (some (.inl (ν 83 (10 + fp_sl w)))) μ') (k0 : ¬((0 ≤ w ∧ w ≤ 3) ∧ fp_sb w v) → ∀ (r : Int) (μ' : am_N), (∀ a b, a ≠ 84 → μ' a b = ν a b) → Q (some (.inl r)) μ') : am_Does l 176 [.inr (.inr 83), .inl w, .inl v] ν Q := by
  refine am_Does_of (Nat.le_of_ble_eq_true rfl) (Nat.le_of_ble_eq_true rfl) (Nat.le_of_ble_eq_true rfl) ?_
  have l0 : am_c 0 = 0 := rfl
  have l1 : am_c 1 = 1 := rfl
  have l2 : am_c 2 = 2 := rfl
  have l3 : am_c 3 = 3 := rfl
  have l4 : am_c 4 = 4 := rfl
  have l5 : am_c 5 = 5 := rfl
  have l7 : am_c 7 = 7 := rfl
  have l9 : am_c 9 = 9 := rfl
  have l10 : am_c 10 = 10 := rfl
  have l20 : am_c 20 = 20 := rfl
  have l96 : am_c 96 = 96 := rfl
  have l99 : am_c 99 = 99 := rfl
  have l200 : am_c 200 = 200 := rfl
  have l255 : am_c 255 = 255 := rfl
  have l999 : am_c 999 = 999 := rfl
  have m1 : am_c (-1) = -1 := rfl
  have m2 : am_c (-2) = -2 := rfl
  have m3 : am_c (-3) = -3 := rfl
  have m4 : am_c (-4) = -4 := rfl
  have m6 : am_c (-6) = -6 := rfl
  refine am_go (ct := fun _ => false) am_oX7_set 300 ?_
  conv => whnf
  repeat' first
    | (refine (?_ : am_wp _ _ _ _ _ _ _ _ _ _ _ _); conv => whnf)
    | (refine (?_ : am_sw _ _ _ _); conv => whnf)
    | refine And.intro trivial ?_
    | exact trivial
    | ((with_reducible refine (?_ : am_Does _ 143 _ _ _)); refine x_isIn w _ _ _ rfl cw ?_ ?_ (fun _ _ => ?_) (fun _ => ?_))
    | ((with_reducible refine (?_ : am_Does _ 144 _ _ _)); refine x_bound _ _ _ ?_ ?_ ?_ (fun _ => ?_) (fun _ => ?_) (fun _ _ => ?_))
    | ((with_reducible refine (?_ : am_Does _ 140 _ _ _)); refine x_no _ ?_ (fun μr fr => ?_))
    | refine k0 (fun z => ?_) _ _ fr
    | refine And.intro (fun h => absurd h (by omega)) (fun _ => ?_)
    | refine And.intro (fun _ => ?_) (fun h => absurd h (by omega))
    | refine And.intro (fun h => absurd h (by decide)) (fun _ => ?_)
    | refine And.intro (fun _ => ?_) (fun h => absurd (by decide) h)
    | refine And.intro (fun _ => ?_) (fun _ => ?_)
    | refine And.intro ?_ ?_
  all_goals (first | decide | omega | (have z2 : 0 ≤ v ∧ v ≤ 0 := z.2; omega) | (intro a b q1 q2; rw [am_uE (by omega), am_uE (by omega), am_uE (by omega), am_uE (by omega), am_uE (by omega)]) | (intro b hb; rcases (show b = 0 ∨ b = 1 ∨ b = 2 ∨ b = 3 by omega) with rfl | rfl | rfl | rfl <;> rfl) | rfl | (trace_state; fail))
theorem n_set {l : Launch} {ν : am_N} {Q : Option am_V → am_N → Prop} (w v : Int) (cw : am_c w = w) (cv : am_c v = v) (k1 : (0 ≤ w ∧ w ≤ 3) → fp_sb w v → ∀ μ' : am_N, (∀ a b, ¬(a = 83 ∧ 10 ≤ b ∧ b ≤ 13) → ¬(a = 83 ∧ b = 33) → μ' a b = ν a b) → (∀ b : Nat, b < 4 → μ' 83 (10 + b) = if b = fp_sl w then v else ν 83 (10 + b)) → μ' 83 33 = 0 → Q (some (.inl (ν 83 (10 + fp_sl w)))) μ') (k0 : ¬((0 ≤ w ∧ w ≤ 3) ∧ fp_sb w v) → ∀ (r : Int) (μ' : am_N), (∀ a b, a ≠ 84 → μ' a b = ν a b) → Q (some (.inl r)) μ') : am_Does l 176 [.inr (.inr 83), .inl w, .inl v] ν Q := by
  by_cases h : 0 ≤ w ∧ w ≤ 3
  · rcases (show w = 0 ∨ w = 1 ∨ w = 2 ∨ w = 3 by omega) with e | e | e | e
    · exact n_set_0 w v cw cv e k1 k0
    · exact n_set_1 w v cw cv e k1 k0
    · exact n_set_2 w v cw cv e k1 k0
    · exact n_set_3 w v cw cv e k1 k0
  · exact n_set_9 w v cw cv h k1 k0
