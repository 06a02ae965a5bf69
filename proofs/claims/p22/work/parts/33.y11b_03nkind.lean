theorem n_kind {l : Launch} {ν : am_N} {Q : Option am_V → am_N → Prop} (i q g : Int) (ci : am_c i = i) (cq : am_c q = q) (cg : am_c g = g) (f0 : 0 ≤ ν 83 14) (f1 : ν 83 14 ≤ 4) (k1 : (0 ≤ i ∧ i < ν 83 14) → (0 ≤ q ∧ q ≤ 5) → (0 ≤ g ∧ g ≤ 9) → Q (some (.inl (10 * ν 85 i.toNat + ν 86 i.toNat))) (am_up (am_up (am_up ν 85 i.toNat q) 86 i.toNat g) 83 33 0)) (k0 : ∀ (r : Int) (μ' : am_N), ((¬(0 ≤ i ∧ i < ν 83 14) ∧ r = -1) ∨ ((0 ≤ i ∧ i < ν 83 14) ∧ ¬(0 ≤ q ∧ q ≤ 5) ∧ r = -2) ∨ ((0 ≤ i ∧ i < ν 83 14) ∧ (0 ≤ q ∧ q ≤ 5) ∧ g < 0 ∧ r = -4) ∨ ((0 ≤ i ∧ i < ν 83 14) ∧ (0 ≤ q ∧ q ≤ 5) ∧ 9 < g ∧ r = -6)) → (∀ a b, a ≠ 84 → μ' a b = ν a b) → Q (some (.inl r)) μ') : am_Does l 175 [.inr (.inr 83), .inl i, .inl q, .inl g] ν Q := by
  refine am_Does_of (Nat.le_of_ble_eq_true rfl) (Nat.le_of_ble_eq_true rfl) (Nat.le_of_ble_eq_true rfl) ?_
  have l0 : am_c 0 = 0 := rfl
  have l1 : am_c 1 = 1 := rfl
  have l2 : am_c 2 = 2 := rfl
  have l3 : am_c 3 = 3 := rfl
  have l4 : am_c 4 = 4 := rfl
  have l5 : am_c 5 = 5 := rfl
  have l7 : am_c 7 = 7 := rfl
  have l9 : am_c 9 = 9 := rfl
  have l10 : am_c 10 = 10 := rfl
  have l20 : am_c 20 = 20 := rfl
  have l96 : am_c 96 = 96 := rfl
  have l99 : am_c 99 = 99 := rfl
  have l200 : am_c 200 = 200 := rfl
  have l255 : am_c 255 = 255 := rfl
  have l999 : am_c 999 = 999 := rfl
  have m1 : am_c (-1) = -1 := rfl
  have m2 : am_c (-2) = -2 := rfl
  have m3 : am_c (-3) = -3 := rfl
  have m4 : am_c (-4) = -4 := rfl
  have m6 : am_c (-6) = -6 := rfl
  have c14 : am_c (ν 83 14) = ν 83 14 := am_cR (by omega) (by omega)
  have k1' := fun (x : Int) (j j2 : Nat) (ej : j = i.toNat) (ej2 : j2 = i.toNat) (ex : x = 10 * ν 85 i.toNat + ν 86 i.toNat) a b c => (show Q (some (.inl x)) (am_up (am_up (am_up ν 85 j q) 86 j2 g) 83 33 0) by rw [ej, ej2, ex]; exact k1 a b c)
  refine am_go (ct := fun _ => false) am_oX7_kind 300 ?_
  conv => whnf
  repeat' first
    | (refine (?_ : am_wp _ _ _ _ _ _ _ _ _ _ _ _); conv => whnf)
    | (refine (?_ : am_sw _ _ _ _); conv => whnf)
    | refine And.intro trivial ?_
    | exact trivial
    | ((with_reducible refine (?_ : am_Does _ 146 _ _ _)); refine x_isRunnerT _ f0 f1 (fun y0 y1 => ?_) (fun y => ?_))
    | ((with_reducible refine (?_ : am_Does _ 143 _ _ _)); refine x_isIn q _ _ _ rfl cq ?_ ?_ (fun _ _ => ?_) (fun _ => ?_))
    | ((with_reducible refine (?_ : am_Does _ 144 _ _ _)); refine x_bound _ _ _ ?_ ?_ ?_ (fun _ => ?_) (fun _ => ?_) (fun _ _ => ?_))
    | ((with_reducible refine (?_ : am_Does _ 140 _ _ _)); refine x_no _ ?_ (fun μr fr => ?_))
    | refine k0 _ _ ?_ fr
    | refine And.intro (fun h => absurd h (by omega)) (fun _ => ?_)
    | refine And.intro (fun _ => ?_) (fun h => absurd h (by omega))
    | refine k1' _ _ _ ?_ ?_ ?_ ?_ ?_ ?_
    | refine And.intro (fun h => absurd h (by decide)) (fun _ => ?_)
    | refine And.intro (fun _ => ?_) (fun h => absurd (by decide) h)
    | refine And.intro (fun _ => ?_) (fun _ => ?_)
    | refine And.intro ?_ ?_
  all_goals (first | decide | omega | (rw [ci]) | (constructor <;> omega) | (trace_state; fail))
