theorem s_back {l : Launch} {ν : am_N} {Q : Option am_V → am_N → Prop} (h62 : 0 ≤ ν 62 3 ∧ ν 62 3 ≤ 6) (k1 : 0 < ν 62 3 → ∀ μ' : am_N, (∀ a b, a ≠ 6 → a ≠ 7 → ¬(a = 1 ∧ b = 1) → ¬(a = 62 ∧ b = 3) → μ' a b = ν a b) → μ' 62 3 = ν 62 3 - 1 → μ' 1 1 = ν 77 (ν 62 3 - 1).toNat → (∀ r : Nat, r < 4 → μ' 6 r = ν (64 + (ν 62 3 - 1).toNat) r ∧ μ' 7 r = ν (71 + (ν 62 3 - 1).toNat) r) → Q (some (.inl (ν 62 3 - 1))) μ') (k0 : ν 62 3 = 0 → ∀ μ' : am_N, (∀ a b, a ≠ 78 → μ' a b = ν a b) → Q (some (.inl (-3))) μ') : am_Does l 90 [.inr (.inr 0)] ν Q := by
  refine am_Does_of (Nat.le_of_ble_eq_true rfl) (Nat.le_of_ble_eq_true rfl) (Nat.le_of_ble_eq_true rfl) ?_
  have l0 : am_c 0 = 0 := rfl
  have l1 : am_c 1 = 1 := rfl
  have l2 : am_c 2 = 2 := rfl
  have l3 : am_c 3 = 3 := rfl
  have l4 : am_c 4 = 4 := rfl
  have l5 : am_c 5 = 5 := rfl
  have l7 : am_c 7 = 7 := rfl
  have l9 : am_c 9 = 9 := rfl
  have l10 : am_c 10 = 10 := rfl
  have l20 : am_c 20 = 20 := rfl
  have l96 : am_c 96 = 96 := rfl
  have l99 : am_c 99 = 99 := rfl
  have l200 : am_c 200 = 200 := rfl
  have l255 : am_c 255 = 255 := rfl
  have l999 : am_c 999 = 999 := rfl
  have c62 : am_c (ν 62 3) = ν 62 3 := am_cR (by omega) (by omega)
  refine am_go (ct := fun _ => false) am_oX6_back 300 ?_
  conv => whnf
  repeat' first
    | (refine (?_ : am_wp _ _ _ _ _ _ _ _ _ _ _ _); conv => whnf)
    | (refine (?_ : am_sw _ _ _ _); conv => whnf)
    | refine And.intro trivial ?_
    | exact trivial
    | ((with_reducible refine (?_ : am_Does _ 113 _ _ _)); refine x_refuse _ ?_ (fun μr fr => ?_))
    | refine k0 ?_ _ fr
    | ((with_reducible refine (?_ : am_Does _ 48 _ _ _)); (refine x_bring ?_ ?_ (fun μ1 g0 g1 g2 g3 => ?_)))
    | exact k1 (by simp only [c62] at *; omega) _ g0 g1 g2 g3
    | refine And.intro (fun h => absurd h (by decide)) (fun _ => ?_)
    | refine And.intro (fun _ => ?_) (fun h => absurd (by decide) h)
    | refine And.intro (fun _ => ?_) (fun _ => ?_)
    | refine And.intro ?_ ?_
  all_goals (first | decide | omega | (simp only [c62] at *; omega) | (trace_state; fail))
theorem s_image {l : Launch} {ν : am_N} {Q : Option am_V → am_N → Prop} (hb : (0 ≤ ν 48 1 ∧ ν 48 1 ≤ 6) ∧ (0 ≤ ν 53 1 ∧ ν 53 1 ≤ 4) ∧ (0 ≤ ν 55 1 ∧ ν 55 1 ≤ 4)) (k : ∀ μ' : am_N, (∀ a b, ¬(22 ≤ a ∧ a ≤ 28) → ¬(50 ≤ a ∧ a ≤ 51) → ¬(57 ≤ a ∧ a ≤ 61) → ¬(a = 0 ∧ b = 15) → μ' a b = ν a b) → fv μ' 22 = fv ν 1 → μ' 0 15 = 1 → μ' 50 1 = ν 48 1 → (∀ i : Nat, (i : Int) < ν 48 1 → μ' 51 i = ν 49 i) → μ' 58 1 = ν 53 1 → (∀ i : Nat, (i : Int) < ν 53 1 → μ' 59 i = ν 54 i) → μ' 60 1 = ν 55 1 → (∀ i : Nat, (i : Int) < ν 55 1 → μ' 61 i = ν 56 i) → Q (some (.inl (ν 1 1))) μ') : am_Does l 110 [.inr (.inr 0)] ν Q := by
  refine am_Does_of (Nat.le_of_ble_eq_true rfl) (Nat.le_of_ble_eq_true rfl) (Nat.le_of_ble_eq_true rfl) ?_
  refine am_go (ct := fun _ => false) am_oX6_image 300 ?_
  conv => whnf
  repeat' first
    | (refine (?_ : am_wp _ _ _ _ _ _ _ _ _ _ _ _); conv => whnf)
    | (refine (?_ : am_sw _ _ _ _); conv => whnf)
    | refine And.intro trivial ?_
    | exact trivial
    | ((with_reducible refine (?_ : am_Does _ 2 _ _ _)); (refine x_take_22_1 (fun μ1 f1 s1 r1 => ?_)))
    | ((with_reducible refine (?_ : am_Does _ 45 _ _ _)); (refine x_rt_50_48 ?_ ?_ (fun μ2 f2 n2 r2 => ?_)))
    | ((with_reducible refine (?_ : am_Does _ 18 _ _ _)); (refine x_ht_57_52 ?_ ?_ (fun μ3 f3 n3 r3 n4 r4 => ?_)))
    | (refine am_qe (k _ ?_ ?_ ?_ ?_ ?_ ?_ ?_ ?_ ?_) ?_)
    | refine And.intro (fun h => absurd h (by decide)) (fun _ => ?_)
    | refine And.intro (fun _ => ?_) (fun h => absurd (by decide) h)
    | refine And.intro (fun _ => ?_) (fun _ => ?_)
    | refine And.intro ?_ ?_
  all_goals (first | decide | (rw [f1 48 1 (by omega)]; first | exact hb.1.1 | exact hb.1.2) | (rw [f2 53 1 (by first | decide | omega | exact fun z => absurd z.1 (by decide)) (by first | decide | omega | exact fun z => absurd z.1 (by decide)), f1 53 1 (by omega)]; first | exact hb.2.1 | exact hb.2.1.1 | exact hb.2.1.2) | (rw [f2 55 1 (by first | decide | omega | exact fun z => absurd z.1 (by decide)) (by first | decide | omega | exact fun z => absurd z.1 (by decide)), f1 55 1 (by omega)]; first | exact hb.2.2 | exact hb.2.2.1 | exact hb.2.2.2) | (intro a b q1 q2 q3 q4; rw [am_uE q4, f3 a b (by omega) (by omega) (by omega) (by omega), f2 a b (by omega) (by omega)]; exact f1 a b (by omega)) | (refine fp_ct_e (fun b hb => ?_) (fun a b q1 q2 hb => ?_); (show am_up μ3 0 15 1 22 b = ν 1 b; rw [am_upN (by decide), f3 22 b (by omega) (by omega) (by omega) (by omega), f2 22 b (by omega) (by omega)]; exact s1 b hb); (show am_up μ3 0 15 1 (22 + a) b = ν (1 + a) b; rw [am_uE (by omega), f3 _ b (by omega) (by omega) (by omega) (by omega), f2 _ b (by omega) (by omega)]; exact r1 a q1 q2 b hb)) | exact if_pos ⟨rfl, rfl⟩ | (rw [am_upN (by decide), f3 50 1 (by omega) (by omega) (by omega) (by omega), n2, f1 48 1 (by omega)]) | (intro i hi; rw [am_upN (by decide), f3 51 i (by omega) (by omega) (by omega) (by omega), r2 i (by rw [f1 48 1 (by omega)]; exact hi), f1 49 i (by omega)]) | (rw [am_upN (by decide), n3, f2 53 1 (by first | decide | omega | exact fun z => absurd z.1 (by decide)) (by first | decide | omega | exact fun z => absurd z.1 (by decide)), f1 53 1 (by omega)]) | (intro i hi; rw [am_upN (by decide), r3 i (by rw [f2 53 1 (by first | decide | omega | exact fun z => absurd z.1 (by decide)) (by first | decide | omega | exact fun z => absurd z.1 (by decide)), f1 53 1 (by omega)]; exact hi), f2 54 i (by first | decide | omega | exact fun z => absurd z.1 (by decide)) (by first | decide | omega | exact fun z => absurd z.1 (by decide)), f1 54 i (by omega)]) | (rw [am_upN (by decide), n4, f2 55 1 (by first | decide | omega | exact fun z => absurd z.1 (by decide)) (by first | decide | omega | exact fun z => absurd z.1 (by decide)), f1 55 1 (by omega)]) | (intro i hi; rw [am_upN (by decide), r4 i (by rw [f2 55 1 (by first | decide | omega | exact fun z => absurd z.1 (by decide)) (by first | decide | omega | exact fun z => absurd z.1 (by decide)), f1 55 1 (by omega)]; exact hi), f2 56 i (by first | decide | omega | exact fun z => absurd z.1 (by decide)) (by first | decide | omega | exact fun z => absurd z.1 (by decide)), f1 56 i (by omega)]) | (rw [am_upN (by decide), f3 1 1 (by omega) (by omega) (by omega) (by omega), f2 1 1 (by omega) (by omega), f1 1 1 (by omega)]) | (trace_state; fail))
