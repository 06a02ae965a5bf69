theorem x_ra_114 {l : Launch} {ν : am_N} {Q : Option am_V → am_N → Prop} (t : Nat → Int) (n q o w : Int) (ht : ν 94 = t) (hn : ν 83 21 = n) (hq : ν 83 22 = q) (n0 : 0 ≤ n) (n1 : n ≤ 96) (hL : ∀ i : Nat, (i : Int) < n → 0 ≤ t i ∧ t i ≤ 255) (ew : o = w) (o0 : 0 ≤ o) (o1 : o < 236) (a0 : 0 ≤ q) (a1 : q ≤ 100) (k1 : ∀ μ' : am_N, (∀ a b, ¬(a = 83 ∧ b = 22) → ¬(a = 97 ∧ o.toNat ≤ b ∧ b < o.toNat + 5) → μ' a b = ν a b) → am_dn t n 8 q = q + 8 → μ' 83 22 = q + 8 → μ' 97 o.toNat = am_dt t n q → μ' 97 (o.toNat + 1) = am_dt t n (q + 1) → μ' 97 (o.toNat + 2) = fp_2 t n (q + 2) → μ' 97 (o.toNat + 3) = fp_2 t n (q + 4) → μ' 97 (o.toNat + 4) = fp_2 t n (q + 6) → Q (some (.inl 1)) μ') (k0 : ∀ μ' : am_N, (∀ a b, ¬(a = 83 ∧ b = 22) → ¬(a = 97 ∧ o.toNat ≤ b ∧ b < o.toNat + 5) → μ' a b = ν a b) → am_dn t n 8 q ≠ q + 8 → μ' 83 22 = am_dn t n 8 q → Q (some (.inl 0)) μ') : am_Does l 152 [.inr (.inr 83), .inl 114, .inl w] ν Q := by
  refine am_Does_of (Nat.le_of_ble_eq_true rfl) (Nat.le_of_ble_eq_true rfl) (Nat.le_of_ble_eq_true rfl) ?_
  subst ew
  refine am_go (ct := fun _ => false) am_oX7_readsAll 300 ?_
  conv => whnf
  repeat' first
    | (refine (?_ : am_wp _ _ _ _ _ _ _ _ _ _ _ _); conv => whnf)
    | (refine (?_ : am_sw _ _ _ _); conv => whnf)
    | refine And.intro trivial ?_
    | exact trivial
    | ((with_reducible refine (?_ : am_Does _ 151 _ _ _)); refine x_readsRunner t n q o ?_ ?_ ?_ n0 n1 hL ?_ ?_ ?_ ?_ (fun μ1 f1 e1 g1 v1 v2 v3 v4 v5 => ?_) (fun μ1 f1 e1 g1 => ?_))
    | exact k1 _ f1 e1 g1 v1 v2 v3 v4 v5
    | exact k0 _ f1 e1 g1
    | refine And.intro (fun h => absurd h (by decide)) (fun _ => ?_)
    | refine And.intro (fun _ => ?_) (fun h => absurd (by decide) h)
    | refine And.intro (fun _ => ?_) (fun _ => ?_)
    | refine And.intro ?_ ?_
  all_goals (first | decide | exact ht | exact hn | exact hq | omega | (trace_state; fail))
