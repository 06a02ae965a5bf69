theorem s_back {l : Launch} {ν : am_N} {Q : Option am_V → am_N → Prop} (h62 : 0 ≤ ν 62 3 ∧ ν 62 3 ≤ 6) (k1 : 0 < ν 62 3 → ∀ μ' : am_N, (∀ a b, a ≠ 6 → a ≠ 7 → ¬(a = 1 ∧ b = 1) → ¬(a = 62 ∧ b = 3) → μ' a b = ν a b) → μ' 62 3 = ν 62 3 - 1 → μ' 1 1 = ν 77 (ν 62 3 - 1).toNat → (∀ r : Nat, r < 4 → μ' 6 r = ν (64 + (ν 62 3 - 1).toNat) r ∧ μ' 7 r = ν (71 + (ν 62 3 - 1).toNat) r) → Q (some (.inl (ν 62 3 - 1))) μ') (k0 : ν 62 3 = 0 → ∀ μ' : am_N, (∀ a b, a ≠ 78 → μ' a b = ν a b) → Q (some (.inl (-3))) μ') : am_Does l 90 [.inr (.inr 0)] ν Q := by
  refine am_Does_of (Nat.le_of_ble_eq_true rfl) (Nat.le_of_ble_eq_true rfl) (Nat.le_of_ble_eq_true rfl) ?_
  have l0 : am_c 0 = 0 := rfl
  have l1 : am_c 1 = 1 := rfl
  have l2 : am_c 2 = 2 := rfl
  have l3 : am_c 3 = 3 := rfl
  have l4 : am_c 4 = 4 := rfl
  have l5 : am_c 5 = 5 := rfl
  have l7 : am_c 7 = 7 := rfl
  have l9 : am_c 9 = 9 := rfl
  have l10 : am_c 10 = 10 := rfl
  have l20 : am_c 20 = 20 := rfl
  have l96 : am_c 96 = 96 := rfl
  have l99 : am_c 99 = 99 := rfl
  have l200 : am_c 200 = 200 := rfl
  have l255 : am_c 255 = 255 := rfl
  have l999 : am_c 999 = 999 := rfl
  have c62 : am_c (ν 62 3) = ν 62 3 := am_cR (by omega) (by omega)
  refine am_go (ct := fun _ => false) am_oX6_back 300 ?_
  conv => whnf
  repeat' first
    | (refine (?_ : am_wp _ _ _ _ _ _ _ _ _ _ _ _); conv => whnf)
    | (refine (?_ : am_sw _ _ _ _); conv => whnf)
    | refine And.intro trivial ?_
    | exact trivial
    | ((with_reducible refine (?_ : am_Does _ 113 _ _ _)); refine x_refuse _ ?_ (fun μr fr => ?_))
    | refine k0 ?_ _ fr
    | ((with_reducible refine (?_ : am_Does _ 48 _ _ _)); (refine x_bring ?_ ?_ (fun μ1 g0 g1 g2 g3 => ?_)))
    | exact k1 (by simp only [c62] at *; omega) _ g0 g1 g2 g3
    | refine And.intro (fun h => absurd h (by decide)) (fun _ => ?_)
    | refine And.intro (fun _ => ?_) (fun h => absurd (by decide) h)
    | refine And.intro (fun _ => ?_) (fun _ => ?_)
    | refine And.intro ?_ ?_
  all_goals (first | decide | omega | (simp only [c62] at *; omega) | (trace_state; fail))
