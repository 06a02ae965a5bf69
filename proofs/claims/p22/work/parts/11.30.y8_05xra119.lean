theorem x_ra_119 {l : Launch} {ν : am_N} {Q : Option am_V → am_N → Prop} (t : Nat → Int) (n q o w : Int) (ht : ν 94 = t) (hn : ν 83 21 = n) (hq : ν 83 22 = q) (n0 : 0 ≤ n) (n1 : n ≤ 96) (hL : ∀ i : Nat, (i : Int) < n → 0 ≤ t i ∧ t i ≤ 255) (ew : o = w) (o0 : 0 ≤ o) (o1 : o < 236) (a0 : 0 ≤ q) (a1 : q ≤ 100) (k1 : ∀ μ' : am_N, (∀ a b, ¬(a = 83 ∧ b = 22) → ¬(a = 97 ∧ o.toNat ≤ b ∧ b < o.toNat + 5) → μ' a b = ν a b) → 1 ≤ am_dn t n 3 q - q → μ' 83 22 = am_dn t n 3 q → μ' 97 o.toNat = am_dv t n 3 q 0 → Q (some (.inl 1)) μ') (k0 : ∀ μ' : am_N, (∀ a b, ¬(a = 83 ∧ b = 22) → ¬(a = 97 ∧ o.toNat ≤ b ∧ b < o.toNat + 5) → μ' a b = ν a b) → am_dn t n 3 q - q < 1 → μ' 83 22 = am_dn t n 3 q → Q (some (.inl 0)) μ') : am_Does l 152 [.inr (.inr 83), .inl 119, .inl w] ν Q := by
  refine am_Does_of (Nat.le_of_ble_eq_true rfl) (Nat.le_of_ble_eq_true rfl) (Nat.le_of_ble_eq_true rfl) ?_
  subst ew
  have kk := fun (x : Int) (μ' : am_N) b1 (b2 : μ' 83 22 = am_dn t n 3 q) b3 (e : x = (if 1 ≤ am_dn t n 3 q - q then 1 else 0)) => (show Q (some (.inl x)) μ' by
    rw [e]
    by_cases g : 1 ≤ am_dn t n 3 q - q
    · rw [if_pos g]; exact k1 μ' b1 g b2 b3
    · rw [if_neg g]; exact k0 μ' b1 (by omega) b2)
  refine am_go (ct := fun _ => false) am_oX7_readsAll 300 ?_
  conv => whnf
  repeat' first
    | (refine (?_ : am_wp _ _ _ _ _ _ _ _ _ _ _ _); conv => whnf)
    | (refine (?_ : am_sw _ _ _ _); conv => whnf)
    | refine And.intro trivial ?_
    | exact trivial
    | ((with_reducible refine (?_ : am_Does _ 150 _ _ _)); refine x_readsNumber t n q o 1 3 ?_ ?_ ?_ n0 n1 hL ?_ ?_ ?_ ?_ ?_ ?_ ?_ ?_ (fun e μ1 e1 e2 e3 f1 g1 v1 => ?_))
    | refine kk _ _ ?_ ?_ ?_ ?_
    | refine And.intro (fun h => absurd h (by decide)) (fun _ => ?_)
    | refine And.intro (fun _ => ?_) (fun h => absurd (by decide) h)
    | refine And.intro (fun _ => ?_) (fun _ => ?_)
    | refine And.intro ?_ ?_
  all_goals (first | decide | exact ht | exact hn | exact hq | omega | (intro b c h1 h2; exact f1 b c h1 (by omega)) | (rw [g1, e1]; rfl) | exact v1 | (rw [e1]; rfl) | (trace_state; fail))
