theorem x_runnerComes {l : Launch} {ν : am_N} {Q : Option am_V → am_N → Prop} (t : Nat → Int) (n p : Int) (ht : ν 37 = t) (hn : ν 36 1 = n) (n0 : 0 ≤ n) (n1 : n ≤ 96) (hL : ∀ i : Nat, (i : Int) < n → 0 ≤ t i ∧ t i ≤ 255) (p0 : 0 ≤ p) (p1 : p ≤ n) (dg : ∀ i : Nat, (i : Int) < 8 → 0 ≤ am_dt t n (p + 1 + i)) (f0 : 0 ≤ ν 8 4) (f1 : ν 8 4 ≤ 4) (k1 : ν 8 4 < 4 → am_dt t n (p + 1) ≤ 5 → 5 ≤ fp_2 t n (p + 3) → fp_2 t n (p + 3) ≤ 40 → fp_2 t n (p + 5) ≤ 20 → ∀ μ' : am_N, (∀ a b, ¬(9 ≤ a ∧ a ≤ 14 ∧ b = (ν 8 4).toNat) → ¬(a = 8 ∧ b = 4) → μ' a b = ν a b) → μ' 9 (ν 8 4).toNat = am_dt t n (p + 1) → μ' 10 (ν 8 4).toNat = am_dt t n (p + 2) → μ' 11 (ν 8 4).toNat = fp_2 t n (p + 3) → μ' 12 (ν 8 4).toNat = fp_2 t n (p + 5) → μ' 13 (ν 8 4).toNat = fp_2 t n (p + 7) → μ' 14 (ν 8 4).toNat = 0 → μ' 8 4 = ν 8 4 + 1 → Q (some (.inl 1)) μ') (k0 : ¬(ν 8 4 < 4 ∧ am_dt t n (p + 1) ≤ 5 ∧ 5 ≤ fp_2 t n (p + 3) ∧ fp_2 t n (p + 3) ≤ 40 ∧ fp_2 t n (p + 5) ≤ 20) → Q (some (.inl 0)) ν) : am_Does l 58 [.inr (.inr 35), .inr (.inr 8), .inl p] ν Q := by
  refine am_Does_of (Nat.le_of_ble_eq_true rfl) (Nat.le_of_ble_eq_true rfl) (Nat.le_of_ble_eq_true rfl) ?_
  have l0 : am_c 0 = 0 := rfl
  have l1 : am_c 1 = 1 := rfl
  have l3 : am_c 3 = 3 := rfl
  have l4 : am_c 4 = 4 := rfl
  have l5 : am_c 5 = 5 := rfl
  have l20 : am_c 20 = 20 := rfl
  have l40 : am_c 40 = 40 := rfl
  have l48 : am_c 48 = 48 := rfl
  have l57 : am_c 57 = 57 := rfl
  have l59 : am_c 59 = 59 := rfl
  have l119 : am_c 119 = 119 := rfl
  have l200 : am_c 200 = 200 := rfl
  have l999 : am_c 999 = 999 := rfl
  have c4 : am_c (ν 8 4) = ν 8 4 := am_cR (by omega) (by omega)
  refine am_go (ct := fun _ => false) am_oX5_runnerComes 300 ?_
  conv => whnf
  repeat' first
    | (refine (?_ : am_wp _ _ _ _ _ _ _ _ _ _ _ _); conv => whnf)
    | (refine (?_ : am_sw _ _ _ _); conv => whnf)
    | refine And.intro trivial ?_
    | exact trivial
    | ((with_reducible refine (?_ : am_Does _ 54 _ _ _)); refine x_digit t n _ ?_ ?_ n0 n1 hL ?_ ?_ (fun d ed d0 d1 cd => ?_))
    | ((with_reducible refine (?_ : am_Does _ 55 _ _ _)); refine x_two t n _ ?_ ?_ n0 n1 hL ?_ ?_ (fun u eu cu => ?_))
    | refine k0 ?_
    | refine k1 ?_ ?_ ?_ ?_ ?_ _ ?_ ?_ ?_ ?_ ?_ ?_ ?_ ?_
    | refine And.intro (fun h => absurd h (by decide)) (fun _ => ?_)
    | refine And.intro (fun _ => ?_) (fun h => absurd (by decide) h)
    | refine And.intro (fun _ => ?_) (fun _ => ?_)
    | refine And.intro ?_ ?_
  all_goals (first | decide | exact ht | exact hn | omega | (funext z; simp only [am_upN (show (37 : Nat) ≠ 9 by decide), am_upN (show (37 : Nat) ≠ 10 by decide), am_upN (show (37 : Nat) ≠ 11 by decide), am_upN (show (37 : Nat) ≠ 12 by decide), am_upN (show (37 : Nat) ≠ 13 by decide)]; exact congrFun ht z) | (simp only [am_upN (show (36 : Nat) ≠ 9 by decide), am_upN (show (36 : Nat) ≠ 10 by decide), am_upN (show (36 : Nat) ≠ 11 by decide), am_upN (show (36 : Nat) ≠ 12 by decide), am_upN (show (36 : Nat) ≠ 13 by decide)]; exact hn) | (simp only [am_upN (show (8 : Nat) ≠ 9 by decide), am_upN (show (8 : Nat) ≠ 10 by decide), am_upN (show (8 : Nat) ≠ 11 by decide), am_upN (show (8 : Nat) ≠ 12 by decide), am_upN (show (8 : Nat) ≠ 13 by decide), am_upN (show (8 : Nat) ≠ 14 by decide), c4] at *; omega) | (intro a b h1 h2; simp only [am_upN (show (8 : Nat) ≠ 9 by decide), am_upN (show (8 : Nat) ≠ 10 by decide), am_upN (show (8 : Nat) ≠ 11 by decide), am_upN (show (8 : Nat) ≠ 12 by decide), am_upN (show (8 : Nat) ≠ 13 by decide), am_upN (show (8 : Nat) ≠ 14 by decide), c4]; rw [am_uE (by omega), am_uE (by omega), am_uE (by omega), am_uE (by omega), am_uE (by omega), am_uE (by omega), am_uE (by omega)]) | (subst_vars; simp [am_up, c4]; done) | (trace_state; fail))
