theorem x_ruleComes {l : Launch} {ν : am_N} {Q : Option am_V → am_N → Prop} (t : Nat → Int) (n p : Int) (ht : ν 37 = t) (hn : ν 36 1 = n) (n0 : 0 ≤ n) (n1 : n ≤ 96) (hL : ∀ i : Nat, (i : Int) < n → 0 ≤ t i ∧ t i ≤ 255) (p0 : 0 ≤ p) (p1 : p ≤ n) (k1 : am_dt t n (p + 1) ≤ 4 → 1 ≤ am_dt t n (p + 2) → Q (some (.inl 1)) (am_up (am_up ν 8 2 (am_dt t n (p + 1))) 8 3 (am_dt t n (p + 2)))) (k0 : ¬(am_dt t n (p + 1) ≤ 4 ∧ 1 ≤ am_dt t n (p + 2)) → Q (some (.inl 0)) ν) : am_Does l 59 [.inr (.inr 35), .inr (.inr 8), .inl p] ν Q := by
  refine am_Does_of (Nat.le_of_ble_eq_true rfl) (Nat.le_of_ble_eq_true rfl) (Nat.le_of_ble_eq_true rfl) ?_
  have l0 : am_c 0 = 0 := rfl
  have l1 : am_c 1 = 1 := rfl
  have l3 : am_c 3 = 3 := rfl
  have l4 : am_c 4 = 4 := rfl
  have l5 : am_c 5 = 5 := rfl
  have l20 : am_c 20 = 20 := rfl
  have l40 : am_c 40 = 40 := rfl
  have l48 : am_c 48 = 48 := rfl
  have l57 : am_c 57 = 57 := rfl
  have l59 : am_c 59 = 59 := rfl
  have l119 : am_c 119 = 119 := rfl
  have l200 : am_c 200 = 200 := rfl
  have l999 : am_c 999 = 999 := rfl
  have k1' := fun (x y : Int) (e : x = am_dt t n (p + 1)) (g : y = am_dt t n (p + 2)) a b => (show Q (some (.inl 1)) (am_up (am_up ν 8 2 x) 8 3 y) by rw [e, g]; exact k1 a b)
  refine am_go (ct := fun _ => false) am_oX5_ruleComes 300 ?_
  conv => whnf
  repeat' first
    | (refine (?_ : am_wp _ _ _ _ _ _ _ _ _ _ _ _); conv => whnf)
    | (refine (?_ : am_sw _ _ _ _); conv => whnf)
    | refine And.intro trivial ?_
    | exact trivial
    | ((with_reducible refine (?_ : am_Does _ 54 _ _ _)); refine x_digit t n _ ?_ ?_ n0 n1 hL ?_ ?_ (fun d ed d0 d1 cd => ?_))
    | refine k1' _ _ ?_ ?_ ?_ ?_
    | refine k0 ?_
    | refine And.intro (fun h => absurd h (by decide)) (fun _ => ?_)
    | refine And.intro (fun _ => ?_) (fun h => absurd (by decide) h)
    | refine And.intro (fun _ => ?_) (fun _ => ?_)
    | refine And.intro ?_ ?_
  all_goals (first | decide | exact ht | exact hn | omega | assumption | (trace_state; fail))
theorem x_startComes {l : Launch} {ν : am_N} {Q : Option am_V → am_N → Prop} (t : Nat → Int) (n p : Int) (ht : ν 37 = t) (hn : ν 36 1 = n) (n0 : 0 ≤ n) (n1 : n ≤ 96) (hL : ∀ i : Nat, (i : Int) < n → 0 ≤ t i ∧ t i ≤ 255) (p0 : 0 ≤ p) (p1 : p ≤ n) (dg : ∀ i : Nat, (i : Int) < 3 → 0 ≤ am_dt t n (p + 1 + i)) (f0 : 0 ≤ ν 8 4) (f1 : ν 8 4 ≤ 4) (k1 : am_dt t n (p + 1) < ν 8 4 → Q (some (.inl 1)) (am_up ν 13 (am_dt t n (p + 1)).toNat (fp_2 t n (p + 2)))) (k0 : ¬ am_dt t n (p + 1) < ν 8 4 → Q (some (.inl 0)) ν) : am_Does l 60 [.inr (.inr 35), .inr (.inr 8), .inl p] ν Q := by
  refine am_Does_of (Nat.le_of_ble_eq_true rfl) (Nat.le_of_ble_eq_true rfl) (Nat.le_of_ble_eq_true rfl) ?_
  have l0 : am_c 0 = 0 := rfl
  have l1 : am_c 1 = 1 := rfl
  have l3 : am_c 3 = 3 := rfl
  have l4 : am_c 4 = 4 := rfl
  have l5 : am_c 5 = 5 := rfl
  have l20 : am_c 20 = 20 := rfl
  have l40 : am_c 40 = 40 := rfl
  have l48 : am_c 48 = 48 := rfl
  have l57 : am_c 57 = 57 := rfl
  have l59 : am_c 59 = 59 := rfl
  have l119 : am_c 119 = 119 := rfl
  have l200 : am_c 200 = 200 := rfl
  have l999 : am_c 999 = 999 := rfl
  have d1 : 0 ≤ am_dt t n (p + 1) := (Int.add_zero (p + 1)) ▸ dg 0 (by decide)
  have c4 : am_c (ν 8 4) = ν 8 4 := am_cR (by omega) (by omega)
  have k1' := fun (j : Nat) (x : Int) (e : j = (am_dt t n (p + 1)).toNat) (g : x = fp_2 t n (p + 2)) a => (show Q (some (.inl 1)) (am_up ν 13 j x) by rw [e, g]; exact k1 a)
  refine am_go (ct := fun _ => false) am_oX5_startComes 300 ?_
  conv => whnf
  repeat' first
    | (refine (?_ : am_wp _ _ _ _ _ _ _ _ _ _ _ _); conv => whnf)
    | (refine (?_ : am_sw _ _ _ _); conv => whnf)
    | refine And.intro trivial ?_
    | exact trivial
    | ((with_reducible refine (?_ : am_Does _ 54 _ _ _)); refine x_digit t n _ ?_ ?_ n0 n1 hL ?_ ?_ (fun d ed d0 d1 cd => ?_))
    | ((with_reducible refine (?_ : am_Does _ 55 _ _ _)); refine x_two t n _ ?_ ?_ n0 n1 hL ?_ ?_ (fun u eu cu => ?_))
    | ((with_reducible refine (?_ : am_Does _ 1 _ _ _)); refine x_has8 _ ?_ ?_ (fun _ _ => ?_) (fun _ => ?_))
    | refine k1' _ _ ?_ ?_ ?_
    | refine k0 ?_
    | refine And.intro (fun h => absurd h (by decide)) (fun _ => ?_)
    | refine And.intro (fun _ => ?_) (fun h => absurd (by decide) h)
    | refine And.intro (fun _ => ?_) (fun _ => ?_)
    | refine And.intro ?_ ?_
  all_goals (first | decide | exact ht | exact hn | omega | assumption | (rw [cd, ed]) | (trace_state; fail))
