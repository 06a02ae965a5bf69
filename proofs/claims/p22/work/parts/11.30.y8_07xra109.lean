theorem x_ra_109 {l : Launch} {ν : am_N} {Q : Option am_V → am_N → Prop} (t : Nat → Int) (n q o w : Int) (ht : ν 94 = t) (hn : ν 83 21 = n) (hq : ν 83 22 = q) (n0 : 0 ≤ n) (n1 : n ≤ 96) (hL : ∀ i : Nat, (i : Int) < n → 0 ≤ t i ∧ t i ≤ 255) (ew : o = w) (o0 : 0 ≤ o) (o1 : o < 236) (a0 : 0 ≤ q) (a1 : q ≤ 100) (k1 : ∀ μ' : am_N, (∀ a b, ¬(a = 83 ∧ b = 22) → ¬(a = 97 ∧ o.toNat ≤ b ∧ b < o.toNat + 5) → μ' a b = ν a b) → am_dn t n 2 q = q + 2 → μ' 83 22 = q + 2 → μ' 97 o.toNat = am_dt t n q → μ' 97 (o.toNat + 1) = am_dt t n (q + 1) → Q (some (.inl 1)) μ') (k0 : ∀ μ' : am_N, (∀ a b, ¬(a = 83 ∧ b = 22) → ¬(a = 97 ∧ o.toNat ≤ b ∧ b < o.toNat + 5) → μ' a b = ν a b) → am_dn t n 2 q ≠ q + 2 → μ' 83 22 = am_dn t n 2 q → Q (some (.inl 0)) μ') : am_Does l 152 [.inr (.inr 83), .inl 109, .inl w] ν Q := by
  refine am_Does_of (Nat.le_of_ble_eq_true rfl) (Nat.le_of_ble_eq_true rfl) (Nat.le_of_ble_eq_true rfl) ?_
  subst ew
  have b1 := am_dn_b t n 1 q
  have b2 := am_dn_b t n 1 (q + 1)
  refine am_go (ct := fun _ => false) am_oX7_readsAll 300 ?_
  conv => whnf
  repeat' first
    | (refine (?_ : am_wp _ _ _ _ _ _ _ _ _ _ _ _); conv => whnf)
    | (refine (?_ : am_sw _ _ _ _); conv => whnf)
    | refine And.intro trivial ?_
    | exact trivial
    | ((with_reducible refine (?_ : am_Does _ 150 _ _ _)); first | ((with_reducible refine (?_ : am_Does _ 150 (Sum.inr (Sum.inr 83) :: Sum.inl o :: Sum.inl 1 :: Sum.inl 1 :: _) _ _)); refine x_rn t n q o 1 ?_ ?_ ?_ n0 n1 hL ?_ ?_ ?_ ?_ ?_ ?_ (fun μ1 f1 e1 g1 v1 => ?_) (fun μ1 f1 e1 g1 => ?_)) | ((with_reducible refine (?_ : am_Does _ 150 (Sum.inr (Sum.inr 83) :: Sum.inl (o + 1) :: Sum.inl 1 :: Sum.inl 1 :: _) _ _)); refine x_rn t n (q + 1) (o + 1) 1 ?_ ?_ ?_ n0 n1 hL ?_ ?_ ?_ ?_ ?_ ?_ (fun μ2 f2 e2 g2 v2 => ?_) (fun μ2 f2 e2 g2 => ?_)) | refine x_rn t n q o 1 ?_ ?_ ?_ n0 n1 hL ?_ ?_ ?_ ?_ ?_ ?_ (fun μ1 f1 e1 g1 v1 => ?_) (fun μ1 f1 e1 g1 => ?_) | refine x_rn t n (q + 1) (o + 1) 1 ?_ ?_ ?_ n0 n1 hL ?_ ?_ ?_ ?_ ?_ ?_ (fun μ2 f2 e2 g2 v2 => ?_) (fun μ2 f2 e2 g2 => ?_))
    | refine k1 _ ?_ ?_ ?_ ?_ ?_
    | refine k0 _ ?_ ?_ ?_
    | refine And.intro (fun h => absurd h (by decide)) (fun _ => ?_)
    | refine And.intro (fun _ => ?_) (fun h => absurd (by decide) h)
    | refine And.intro (fun _ => ?_) (fun _ => ?_)
    | refine And.intro ?_ ?_
  all_goals (first | decide | exact ht | exact hn | exact hq | omega | (rw [g1]; omega) | (intro b c h1 h2; rw [f2 _ _ (by omega) (by omega)]; rw [f1 _ _ (by omega) (by omega)]) | (intro b c h1 h2; rw [f1 _ _ (by omega) (by omega)]) | (refine Eq.trans (funext fun b => ?_) ht; rw [f1 _ _ (by omega) (by omega)]) | (rw [f1 _ _ (by omega) (by omega)]; exact hn) | (rw [g2]; omega) | exact (am_dn2_2 e1).trans (e2.trans (by omega)) | exact (fun z => e2 ((am_dn2_2 e1).symm.trans (z.trans (by omega)))) | (rw [f2 _ _ (by omega) (by omega), v1]; exact am_dv_1d e1) | (rw [show o.toNat + 1 = (o + 1).toNat by omega, v2]; exact am_dv_1d e2) | (rw [am_dn2_2 e1]; first | omega | exact g2) | (rw [am_dn2_1 e1]; first | exact e1 | omega | exact g1) | (trace_state; fail))
