/-! STATEMENTS come: the model -/
theorem x_isRunnerT {l : Launch} {ν : am_N} {Q : Option am_V → am_N → Prop} (i : Int) (f0 : 0 ≤ ν 83 14) (f1 : ν 83 14 ≤ 4) (k1 : 0 ≤ am_c i → am_c i < ν 83 14 → Q (some (.inl 1)) ν) (k0 : (am_c i < 0 ∨ ν 83 14 ≤ am_c i) → Q (some (.inl 0)) ν) : am_Does l 146 [.inr (.inr 83), .inl i] ν Q := by
  refine am_Does_of (Nat.le_of_ble_eq_true rfl) (Nat.le_of_ble_eq_true rfl) (Nat.le_of_ble_eq_true rfl) ?_
  have c4 : am_c (ν 83 14) = ν 83 14 := am_cR (by omega) (by omega)
  have l0 : am_c 0 = 0 := rfl
  refine am_go (ct := fun _ => false) am_oX7_isRunner 300 ?_
  conv => whnf
  repeat' first
    | (refine (?_ : am_wp _ _ _ _ _ _ _ _ _ _ _ _); conv => whnf)
    | (refine (?_ : am_sw _ _ _ _); conv => whnf)
    | refine And.intro trivial ?_
    | exact trivial
    | refine k1 ?_ ?_
    | refine k0 ?_
    | refine And.intro (fun h => absurd h (by decide)) (fun _ => ?_)
    | refine And.intro (fun _ => ?_) (fun h => absurd (by decide) h)
    | refine And.intro (fun _ => ?_) (fun _ => ?_)
    | refine And.intro ?_ ?_
  all_goals (first | omega | (simp only [c4] at *; omega) | (trace_state; fail))
theorem x_comesRunner {l : Launch} {ν : am_N} {Q : Option am_V → am_N → Prop} (o K G P S T : Int) (o0 : 0 ≤ o) (o1 : o ≤ 235) (e0 : ν 97 o.toNat = K) (b00 : 0 ≤ K) (b01 : K ≤ 99) (e1 : ν 97 (o.toNat + 1) = G) (b10 : 0 ≤ G) (b11 : G ≤ 99) (e2 : ν 97 (o.toNat + 2) = P) (b20 : 0 ≤ P) (b21 : P ≤ 99) (e3 : ν 97 (o.toNat + 3) = S) (b30 : 0 ≤ S) (b31 : S ≤ 99) (e4 : ν 97 (o.toNat + 4) = T) (b40 : 0 ≤ T) (b41 : T ≤ 99) (f0 : 0 ≤ ν 83 14) (f1 : ν 83 14 ≤ 4) (k1 : (ν 83 14 < 4 ∧ K ≤ 5 ∧ 5 ≤ P ∧ P ≤ 40 ∧ S ≤ 20) → ∀ μ' : am_N, (∀ a b, ¬(85 ≤ a ∧ a ≤ 90 ∧ b = (ν 83 14).toNat) → ¬(a = 83 ∧ b = 14) → μ' a b = ν a b) → μ' 85 (ν 83 14).toNat = K → μ' 86 (ν 83 14).toNat = G → μ' 87 (ν 83 14).toNat = P → μ' 88 (ν 83 14).toNat = S → μ' 89 (ν 83 14).toNat = T → μ' 90 (ν 83 14).toNat = 0 → μ' 83 14 = ν 83 14 + 1 → Q (some (.inl 1)) μ') (k0 : ¬(ν 83 14 < 4 ∧ K ≤ 5 ∧ 5 ≤ P ∧ P ≤ 40 ∧ S ≤ 20) → Q (some (.inl 0)) ν) : am_Does l 154 [.inr (.inr 83), .inl o] ν Q := by
  refine am_Does_of (Nat.le_of_ble_eq_true rfl) (Nat.le_of_ble_eq_true rfl) (Nat.le_of_ble_eq_true rfl) ?_
  have l0 : am_c 0 = 0 := rfl
  have l1 : am_c 1 = 1 := rfl
  have l2 : am_c 2 = 2 := rfl
  have l3 : am_c 3 = 3 := rfl
  have l4 : am_c 4 = 4 := rfl
  have l5 : am_c 5 = 5 := rfl
  have l20 : am_c 20 = 20 := rfl
  have l40 : am_c 40 = 40 := rfl
  have l200 : am_c 200 = 200 := rfl
  have l999 : am_c 999 = 999 := rfl
  have c4 : am_c (ν 83 14) = ν 83 14 := am_cR (by omega) (by omega)
  have q0 : ν 97 (am_c o).toNat = K := by rw [am_cR (by omega) (by omega)]; exact e0
  have d0 : am_c K = K := am_cR (by omega) (by omega)
  have x0 : 0 ≤ am_c o ∧ am_c o < 240 := by rw [am_cR (by omega) (by omega)]; omega
  have q1 : ν 97 (am_c (o + 1)).toNat = G := by rw [am_cR (by omega) (by omega), show (o + 1).toNat = o.toNat + 1 by omega]; exact e1
  have d1 : am_c G = G := am_cR (by omega) (by omega)
  have x1 : 0 ≤ am_c (o + 1) ∧ am_c (o + 1) < 240 := by rw [am_cR (by omega) (by omega)]; omega
  have q2 : ν 97 (am_c (o + 2)).toNat = P := by rw [am_cR (by omega) (by omega), show (o + 2).toNat = o.toNat + 2 by omega]; exact e2
  have d2 : am_c P = P := am_cR (by omega) (by omega)
  have x2 : 0 ≤ am_c (o + 2) ∧ am_c (o + 2) < 240 := by rw [am_cR (by omega) (by omega)]; omega
  have q3 : ν 97 (am_c (o + 3)).toNat = S := by rw [am_cR (by omega) (by omega), show (o + 3).toNat = o.toNat + 3 by omega]; exact e3
  have d3 : am_c S = S := am_cR (by omega) (by omega)
  have x3 : 0 ≤ am_c (o + 3) ∧ am_c (o + 3) < 240 := by rw [am_cR (by omega) (by omega)]; omega
  have q4 : ν 97 (am_c (o + 4)).toNat = T := by rw [am_cR (by omega) (by omega), show (o + 4).toNat = o.toNat + 4 by omega]; exact e4
  have d4 : am_c T = T := am_cR (by omega) (by omega)
  have x4 : 0 ≤ am_c (o + 4) ∧ am_c (o + 4) < 240 := by rw [am_cR (by omega) (by omega)]; omega
  refine am_go (ct := fun _ => false) am_oX7_comesRunner 300 ?_
  conv => whnf
  repeat' first
    | (refine (?_ : am_wp _ _ _ _ _ _ _ _ _ _ _ _); conv => whnf)
    | (refine (?_ : am_sw _ _ _ _); conv => whnf)
    | refine And.intro trivial ?_
    | exact trivial
    | ((with_reducible refine (?_ : am_Does _ 143 _ _ _)); refine x_isIn P _ _ _ ?_ ?_ ?_ ?_ (fun _ _ => ?_) (fun _ => ?_))
    | refine k0 ?_
    | refine k1 ?_ _ ?_ ?_ ?_ ?_ ?_ ?_ ?_ ?_
    | refine And.intro (fun h => absurd h (by decide)) (fun _ => ?_)
    | refine And.intro (fun _ => ?_) (fun h => absurd (by decide) h)
    | refine And.intro (fun _ => ?_) (fun _ => ?_)
    | refine And.intro ?_ ?_
  all_goals (first | decide | omega | exact q2.symm | exact d2 | (simp only [am_upN (show (83 : Nat) ≠ 85 by decide), am_upN (show (83 : Nat) ≠ 86 by decide), am_upN (show (83 : Nat) ≠ 87 by decide), am_upN (show (83 : Nat) ≠ 88 by decide), am_upN (show (83 : Nat) ≠ 89 by decide), am_upN (show (83 : Nat) ≠ 90 by decide), q0, d0, q1, d1, q2, d2, q3, d3, q4, d4, c4] at *; omega) | (intro a b h1 h2; simp only [am_upN (show (83 : Nat) ≠ 85 by decide), am_upN (show (83 : Nat) ≠ 86 by decide), am_upN (show (83 : Nat) ≠ 87 by decide), am_upN (show (83 : Nat) ≠ 88 by decide), am_upN (show (83 : Nat) ≠ 89 by decide), am_upN (show (83 : Nat) ≠ 90 by decide), c4]; rw [am_uE (by omega), am_uE (by omega), am_uE (by omega), am_uE (by omega), am_uE (by omega), am_uE (by omega), am_uE (by omega)]) | (simp only [am_upN (show (83 : Nat) ≠ 85 by decide), am_upN (show (83 : Nat) ≠ 86 by decide), am_upN (show (83 : Nat) ≠ 87 by decide), am_upN (show (83 : Nat) ≠ 88 by decide), am_upN (show (83 : Nat) ≠ 89 by decide), am_upN (show (83 : Nat) ≠ 90 by decide), am_upN (show (97 : Nat) ≠ 83 by decide), am_upN (show (97 : Nat) ≠ 85 by decide), am_upN (show (97 : Nat) ≠ 86 by decide), am_upN (show (97 : Nat) ≠ 87 by decide), am_upN (show (97 : Nat) ≠ 88 by decide), am_upN (show (97 : Nat) ≠ 89 by decide), am_upN (show (97 : Nat) ≠ 90 by decide), c4, q0, d0, q1, d1, q2, d2, q3, d3, q4, d4]; simp [am_up]; done) | (trace_state; fail))
