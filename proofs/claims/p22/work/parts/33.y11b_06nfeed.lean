theorem n_feed {l : Launch} {ν : am_N} {Q : Option am_V → am_N → Prop} (v : Int) (cv : am_c v = v) (n0 : 0 ≤ ν 83 21) (n1 : ν 83 21 ≤ 96) (k1 : (0 ≤ v ∧ v ≤ 255) → ν 83 21 < 96 → Q (some (.inl (ν 83 21 + 1))) (am_up (am_up ν 94 (ν 83 21).toNat v) 83 21 (ν 83 21 + 1))) (k0 : ∀ (r : Int) (μ' : am_N), ((v < 0 ∧ r = -4) ∨ (255 < v ∧ r = -6) ∨ ((0 ≤ v ∧ v ≤ 255) ∧ ν 83 21 = 96 ∧ r = -6)) → (∀ a b, a ≠ 84 → μ' a b = ν a b) → Q (some (.inl r)) μ') : am_Does l 148 [.inr (.inr 83), .inl v] ν Q := by
  refine am_Does_of (Nat.le_of_ble_eq_true rfl) (Nat.le_of_ble_eq_true rfl) (Nat.le_of_ble_eq_true rfl) ?_
  have l0 : am_c 0 = 0 := rfl
  have l1 : am_c 1 = 1 := rfl
  have l2 : am_c 2 = 2 := rfl
  have l3 : am_c 3 = 3 := rfl
  have l4 : am_c 4 = 4 := rfl
  have l5 : am_c 5 = 5 := rfl
  have l7 : am_c 7 = 7 := rfl
  have l9 : am_c 9 = 9 := rfl
  have l10 : am_c 10 = 10 := rfl
  have l20 : am_c 20 = 20 := rfl
  have l96 : am_c 96 = 96 := rfl
  have l99 : am_c 99 = 99 := rfl
  have l200 : am_c 200 = 200 := rfl
  have l255 : am_c 255 = 255 := rfl
  have l999 : am_c 999 = 999 := rfl
  have m1 : am_c (-1) = -1 := rfl
  have m2 : am_c (-2) = -2 := rfl
  have m3 : am_c (-3) = -3 := rfl
  have m4 : am_c (-4) = -4 := rfl
  have m6 : am_c (-6) = -6 := rfl
  have c21 : am_c (ν 83 21) = ν 83 21 := am_cR (by omega) (by omega)
  have k1' := fun (x y : Int) (j : Nat) (ej : j = (ν 83 21).toNat) (ex : x = ν 83 21 + 1) (ey : y = ν 83 21 + 1) a b => (show Q (some (.inl x)) (am_up (am_up ν 94 j v) 83 21 y) by rw [ej, ex, ey]; exact k1 a b)
  refine am_go (ct := fun _ => false) am_oX7_feed 300 ?_
  conv => whnf
  repeat' first
    | (refine (?_ : am_wp _ _ _ _ _ _ _ _ _ _ _ _); conv => whnf)
    | (refine (?_ : am_sw _ _ _ _); conv => whnf)
    | refine And.intro trivial ?_
    | exact trivial
    | ((with_reducible refine (?_ : am_Does _ 144 _ _ _)); refine x_bound _ _ _ ?_ ?_ ?_ (fun _ => ?_) (fun _ => ?_) (fun _ _ => ?_))
    | ((with_reducible refine (?_ : am_Does _ 140 _ _ _)); refine x_no _ ?_ (fun μr fr => ?_))
    | refine k0 _ _ ?_ fr
    | refine And.intro (fun h => absurd h (by omega)) (fun _ => ?_)
    | refine And.intro (fun _ => ?_) (fun h => absurd h (by omega))
    | refine k1' _ _ _ ?_ ?_ ?_ ?_ ?_
    | refine And.intro (fun h => absurd h (by decide)) (fun _ => ?_)
    | refine And.intro (fun _ => ?_) (fun h => absurd (by decide) h)
    | refine And.intro (fun _ => ?_) (fun _ => ?_)
    | refine And.intro ?_ ?_
  all_goals (first | decide | omega | (simp only [c21] at *; omega) | (rw [c21]; done) | (rw [am_upS, if_pos ⟨rfl, rfl⟩, am_upN (by decide)]; done) | (rw [am_upN (by decide)]; done) | (trace_state; fail))
