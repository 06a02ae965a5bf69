theorem x_has8 {l : Launch} {ν : am_N} {Q : Option am_V → am_N → Prop} (i : Int) (f0 : 0 ≤ ν 8 4) (f1 : ν 8 4 ≤ 4) (k1 : 0 ≤ am_c i → am_c i < ν 8 4 → Q (some (.inl 1)) ν) (k0 : (am_c i < 0 ∨ ν 8 4 ≤ am_c i) → Q (some (.inl 0)) ν) : am_Does l 1 [.inr (.inr 8), .inl i] ν Q := by
  refine am_Does_of (Nat.le_of_ble_eq_true rfl) (Nat.le_of_ble_eq_true rfl) (Nat.le_of_ble_eq_true rfl) ?_
  have c4 : am_c (ν 8 4) = ν 8 4 := am_cR (by omega) (by omega)
  have l0 : am_c 0 = 0 := rfl
  refine am_go (ct := fun _ => false) am_oX0_has 300 ?_
  conv => whnf
  repeat' first
    | (refine (?_ : am_wp _ _ _ _ _ _ _ _ _ _ _ _); conv => whnf)
    | (refine (?_ : am_sw _ _ _ _); conv => whnf)
    | refine And.intro trivial ?_
    | exact trivial
    | refine k1 ?_ ?_
    | refine k0 ?_
    | refine And.intro (fun h => absurd h (by decide)) (fun _ => ?_)
    | refine And.intro (fun _ => ?_) (fun h => absurd (by decide) h)
    | refine And.intro (fun _ => ?_) (fun _ => ?_)
    | refine And.intro ?_ ?_
  all_goals (first | omega | (trace_state; fail))
theorem x_wayComes {l : Launch} {ν : am_N} {Q : Option am_V → am_N → Prop} (t : Nat → Int) (n p : Int) (ht : ν 37 = t) (hn : ν 36 1 = n) (n0 : 0 ≤ n) (n1 : n ≤ 96) (hL : ∀ i : Nat, (i : Int) < n → 0 ≤ t i ∧ t i ≤ 255) (p0 : 0 ≤ p) (p1 : p ≤ n) (k1 : 20 ≤ fp_w t n p → fp_w t n p ≤ 200 → Q (some (.inl 1)) (am_up ν 8 0 (fp_w t n p))) (k0 : ¬(20 ≤ fp_w t n p ∧ fp_w t n p ≤ 200) → Q (some (.inl 0)) ν) : am_Does l 57 [.inr (.inr 35), .inr (.inr 8), .inl p] ν Q := by
  refine am_Does_of (Nat.le_of_ble_eq_true rfl) (Nat.le_of_ble_eq_true rfl) (Nat.le_of_ble_eq_true rfl) ?_
  have l0 : am_c 0 = 0 := rfl
  have l1 : am_c 1 = 1 := rfl
  have l3 : am_c 3 = 3 := rfl
  have l4 : am_c 4 = 4 := rfl
  have l5 : am_c 5 = 5 := rfl
  have l20 : am_c 20 = 20 := rfl
  have l40 : am_c 40 = 40 := rfl
  have l48 : am_c 48 = 48 := rfl
  have l57 : am_c 57 = 57 := rfl
  have l59 : am_c 59 = 59 := rfl
  have l119 : am_c 119 = 119 := rfl
  have l200 : am_c 200 = 200 := rfl
  have l999 : am_c 999 = 999 := rfl
  have hw := am_dv_b t n 3 (p + 1) 0 (by decide)
  have hw3 : fp_w t n p ≤ 999 := hw.2
  have k1' := fun (x : Int) (e : x = fp_w t n p) a b => (show Q (some (.inl 1)) (am_up ν 8 0 x) by rw [e]; exact k1 a b)
  have lp7 : ∀ (m : Nat) (v q : Int) , p + 1 ≤ q → q ≤ p + 4 → 0 ≤ v → am_dv t n ((p + 4) - q).toNat q v = fp_w t n p → p + 4 - q < (m : Int) → am_AW l 0 (fun _ => 0) 57 Q 7 [some (.inr (.inr 35)), some (.inr (.inr 8)), some (.inl p), some (.inl v), some (.inl q)] [] ν := by
    intro m
    induction m with
    | zero =>
      intro v q  hv0 hv1 hv2 hv3 hm
      exfalso
      omega
    | succ m ih =>
      intro v q  hv0 hv1 hv2 hv3 hm
      have hz := (am_dv_b t n ((p + 4) - q).toNat q v hv2).1
      have cv : am_c v = v := am_cR (by omega) (by omega)
      have cq : am_c q = q := am_cR (by omega) (by omega)
      have cp : am_c (p + 3) = p + 3 := am_cR (by omega) (by omega)
      refine am_go (ct := fun pc => Nat.beq pc 7) am_oX5_wayComes 300 ?_
      conv => whnf
      repeat' first
        | (refine (?_ : am_wp _ _ _ _ _ _ _ _ _ _ _ _); conv => whnf)
        | (refine (?_ : am_sw _ _ _ _); conv => whnf)
        | refine And.intro trivial ?_
        | exact trivial
        | refine x_digit t n _ ?_ ?_ n0 n1 hL ?_ ?_ (fun d ed d0 d1 cd => ?_)
        | refine k1' _ ?_ ?_ ?_
        | refine k0 ?_
        | refine ih _ _  ?_ ?_ ?_ ?_ ?_
        | refine And.intro (fun h => absurd h (by decide)) (fun _ => ?_)
        | refine And.intro (fun _ => ?_) (fun h => absurd (by decide) h)
        | refine And.intro (fun _ => ?_) (fun _ => ?_)
        | refine And.intro ?_ ?_
      all_goals (first | decide | exact ht | exact hn | omega | (have z := am_dv_z (t := t) (n := n) (q := q) (v := v) (M := p + 4) (j := q) (by omega); omega) | (rw [← hv3]; have z := am_dv_s (t := t) (n := n) (q := q) (v := v) (M := p + 4) (j := q) (by omega) (by omega); rw [z]; congr 1; omega) | (trace_state; fail))
  have lp7' : ∀ (v q : Int) , p + 1 ≤ q → q ≤ p + 4 → 0 ≤ v → am_dv t n ((p + 4) - q).toNat q v = fp_w t n p → am_AW l 0 (fun _ => 0) 57 Q 7 [some (.inr (.inr 35)), some (.inr (.inr 8)), some (.inl p), some (.inl v), some (.inl q)] [] ν := fun v q  hv0 hv1 hv2 hv3 => lp7 ((p + 4 - q) + 1).toNat v q  hv0 hv1 hv2 hv3 (by omega)
  refine am_go (ct := fun pc => Nat.beq pc 7) am_oX5_wayComes 300 ?_
  conv => whnf
  repeat' first
    | (refine (?_ : am_wp _ _ _ _ _ _ _ _ _ _ _ _); conv => whnf)
    | (refine (?_ : am_sw _ _ _ _); conv => whnf)
    | refine And.intro trivial ?_
    | exact trivial
    | refine lp7' _ _  ?_ ?_ ?_ ?_
    | refine And.intro (fun h => absurd h (by decide)) (fun _ => ?_)
    | refine And.intro (fun _ => ?_) (fun h => absurd (by decide) h)
    | refine And.intro (fun _ => ?_) (fun _ => ?_)
    | refine And.intro ?_ ?_
  all_goals (first | decide | exact ht | exact hn | omega | (rw [show p + 4 - (p + 1) = 3 by omega]; rfl) | (trace_state; fail))
theorem x_runnerComes {l : Launch} {ν : am_N} {Q : Option am_V → am_N → Prop} (t : Nat → Int) (n p : Int) (ht : ν 37 = t) (hn : ν 36 1 = n) (n0 : 0 ≤ n) (n1 : n ≤ 96) (hL : ∀ i : Nat, (i : Int) < n → 0 ≤ t i ∧ t i ≤ 255) (p0 : 0 ≤ p) (p1 : p ≤ n) (dg : ∀ i : Nat, (i : Int) < 8 → 0 ≤ am_dt t n (p + 1 + i)) (f0 : 0 ≤ ν 8 4) (f1 : ν 8 4 ≤ 4) (k1 : ν 8 4 < 4 → am_dt t n (p + 1) ≤ 5 → 5 ≤ fp_2 t n (p + 3) → fp_2 t n (p + 3) ≤ 40 → fp_2 t n (p + 5) ≤ 20 → ∀ μ' : am_N, (∀ a b, ¬(9 ≤ a ∧ a ≤ 14 ∧ b = (ν 8 4).toNat) → ¬(a = 8 ∧ b = 4) → μ' a b = ν a b) → μ' 9 (ν 8 4).toNat = am_dt t n (p + 1) → μ' 10 (ν 8 4).toNat = am_dt t n (p + 2) → μ' 11 (ν 8 4).toNat = fp_2 t n (p + 3) → μ' 12 (ν 8 4).toNat = fp_2 t n (p + 5) → μ' 13 (ν 8 4).toNat = fp_2 t n (p + 7) → μ' 14 (ν 8 4).toNat = 0 → μ' 8 4 = ν 8 4 + 1 → Q (some (.inl 1)) μ') (k0 : ¬(ν 8 4 < 4 ∧ am_dt t n (p + 1) ≤ 5 ∧ 5 ≤ fp_2 t n (p + 3) ∧ fp_2 t n (p + 3) ≤ 40 ∧ fp_2 t n (p + 5) ≤ 20) → Q (some (.inl 0)) ν) : am_Does l 58 [.inr (.inr 35), .inr (.inr 8), .inl p] ν Q := by
  refine am_Does_of (Nat.le_of_ble_eq_true rfl) (Nat.le_of_ble_eq_true rfl) (Nat.le_of_ble_eq_true rfl) ?_
  have l0 : am_c 0 = 0 := rfl
  have l1 : am_c 1 = 1 := rfl
  have l3 : am_c 3 = 3 := rfl
  have l4 : am_c 4 = 4 := rfl
  have l5 : am_c 5 = 5 := rfl
  have l20 : am_c 20 = 20 := rfl
  have l40 : am_c 40 = 40 := rfl
  have l48 : am_c 48 = 48 := rfl
  have l57 : am_c 57 = 57 := rfl
  have l59 : am_c 59 = 59 := rfl
  have l119 : am_c 119 = 119 := rfl
  have l200 : am_c 200 = 200 := rfl
  have l999 : am_c 999 = 999 := rfl
  have c4 : am_c (ν 8 4) = ν 8 4 := am_cR (by omega) (by omega)
  refine am_go (ct := fun _ => false) am_oX5_runnerComes 300 ?_
  conv => whnf
  repeat' first
    | (refine (?_ : am_wp _ _ _ _ _ _ _ _ _ _ _ _); conv => whnf)
    | (refine (?_ : am_sw _ _ _ _); conv => whnf)
    | refine And.intro trivial ?_
    | exact trivial
    | refine x_digit t n _ ?_ ?_ n0 n1 hL ?_ ?_ (fun d ed d0 d1 cd => ?_)
    | refine x_two t n _ ?_ ?_ n0 n1 hL ?_ ?_ (fun u eu cu => ?_)
    | refine k0 ?_
    | refine k1 ?_ ?_ ?_ ?_ ?_ _ ?_ ?_ ?_ ?_ ?_ ?_ ?_ ?_
    | refine And.intro (fun h => absurd h (by decide)) (fun _ => ?_)
    | refine And.intro (fun _ => ?_) (fun h => absurd (by decide) h)
    | refine And.intro (fun _ => ?_) (fun _ => ?_)
    | refine And.intro ?_ ?_
  all_goals (first | decide | exact ht | exact hn | omega | (funext z; simp only [am_upN (show (37 : Nat) ≠ 9 by decide), am_upN (show (37 : Nat) ≠ 10 by decide), am_upN (show (37 : Nat) ≠ 11 by decide), am_upN (show (37 : Nat) ≠ 12 by decide), am_upN (show (37 : Nat) ≠ 13 by decide)]; exact congrFun ht z) | (simp only [am_upN (show (36 : Nat) ≠ 9 by decide), am_upN (show (36 : Nat) ≠ 10 by decide), am_upN (show (36 : Nat) ≠ 11 by decide), am_upN (show (36 : Nat) ≠ 12 by decide), am_upN (show (36 : Nat) ≠ 13 by decide)]; exact hn) | (simp only [am_upN (show (8 : Nat) ≠ 9 by decide), am_upN (show (8 : Nat) ≠ 10 by decide), am_upN (show (8 : Nat) ≠ 11 by decide), am_upN (show (8 : Nat) ≠ 12 by decide), am_upN (show (8 : Nat) ≠ 13 by decide), am_upN (show (8 : Nat) ≠ 14 by decide), c4] at *; omega) | (intro a b h1 h2; simp only [am_upN (show (8 : Nat) ≠ 9 by decide), am_upN (show (8 : Nat) ≠ 10 by decide), am_upN (show (8 : Nat) ≠ 11 by decide), am_upN (show (8 : Nat) ≠ 12 by decide), am_upN (show (8 : Nat) ≠ 13 by decide), am_upN (show (8 : Nat) ≠ 14 by decide), c4]; rw [am_uE (by omega), am_uE (by omega), am_uE (by omega), am_uE (by omega), am_uE (by omega), am_uE (by omega), am_uE (by omega)]) | (subst_vars; simp [am_up, c4]; done) | (trace_state; fail))
theorem x_ruleComes {l : Launch} {ν : am_N} {Q : Option am_V → am_N → Prop} (t : Nat → Int) (n p : Int) (ht : ν 37 = t) (hn : ν 36 1 = n) (n0 : 0 ≤ n) (n1 : n ≤ 96) (hL : ∀ i : Nat, (i : Int) < n → 0 ≤ t i ∧ t i ≤ 255) (p0 : 0 ≤ p) (p1 : p ≤ n) (k1 : am_dt t n (p + 1) ≤ 4 → 1 ≤ am_dt t n (p + 2) → Q (some (.inl 1)) (am_up (am_up ν 8 2 (am_dt t n (p + 1))) 8 3 (am_dt t n (p + 2)))) (k0 : ¬(am_dt t n (p + 1) ≤ 4 ∧ 1 ≤ am_dt t n (p + 2)) → Q (some (.inl 0)) ν) : am_Does l 59 [.inr (.inr 35), .inr (.inr 8), .inl p] ν Q := by
  refine am_Does_of (Nat.le_of_ble_eq_true rfl) (Nat.le_of_ble_eq_true rfl) (Nat.le_of_ble_eq_true rfl) ?_
  have l0 : am_c 0 = 0 := rfl
  have l1 : am_c 1 = 1 := rfl
  have l3 : am_c 3 = 3 := rfl
  have l4 : am_c 4 = 4 := rfl
  have l5 : am_c 5 = 5 := rfl
  have l20 : am_c 20 = 20 := rfl
  have l40 : am_c 40 = 40 := rfl
  have l48 : am_c 48 = 48 := rfl
  have l57 : am_c 57 = 57 := rfl
  have l59 : am_c 59 = 59 := rfl
  have l119 : am_c 119 = 119 := rfl
  have l200 : am_c 200 = 200 := rfl
  have l999 : am_c 999 = 999 := rfl
  have k1' := fun (x y : Int) (e : x = am_dt t n (p + 1)) (g : y = am_dt t n (p + 2)) a b => (show Q (some (.inl 1)) (am_up (am_up ν 8 2 x) 8 3 y) by rw [e, g]; exact k1 a b)
  refine am_go (ct := fun _ => false) am_oX5_ruleComes 300 ?_
  conv => whnf
  repeat' first
    | (refine (?_ : am_wp _ _ _ _ _ _ _ _ _ _ _ _); conv => whnf)
    | (refine (?_ : am_sw _ _ _ _); conv => whnf)
    | refine And.intro trivial ?_
    | exact trivial
    | refine x_digit t n _ ?_ ?_ n0 n1 hL ?_ ?_ (fun d ed d0 d1 cd => ?_)
    | refine k1' _ _ ?_ ?_ ?_ ?_
    | refine k0 ?_
    | refine And.intro (fun h => absurd h (by decide)) (fun _ => ?_)
    | refine And.intro (fun _ => ?_) (fun h => absurd (by decide) h)
    | refine And.intro (fun _ => ?_) (fun _ => ?_)
    | refine And.intro ?_ ?_
  all_goals (first | decide | exact ht | exact hn | omega | assumption | (trace_state; fail))
theorem x_startComes {l : Launch} {ν : am_N} {Q : Option am_V → am_N → Prop} (t : Nat → Int) (n p : Int) (ht : ν 37 = t) (hn : ν 36 1 = n) (n0 : 0 ≤ n) (n1 : n ≤ 96) (hL : ∀ i : Nat, (i : Int) < n → 0 ≤ t i ∧ t i ≤ 255) (p0 : 0 ≤ p) (p1 : p ≤ n) (dg : ∀ i : Nat, (i : Int) < 3 → 0 ≤ am_dt t n (p + 1 + i)) (f0 : 0 ≤ ν 8 4) (f1 : ν 8 4 ≤ 4) (k1 : am_dt t n (p + 1) < ν 8 4 → Q (some (.inl 1)) (am_up ν 13 (am_dt t n (p + 1)).toNat (fp_2 t n (p + 2)))) (k0 : ¬ am_dt t n (p + 1) < ν 8 4 → Q (some (.inl 0)) ν) : am_Does l 60 [.inr (.inr 35), .inr (.inr 8), .inl p] ν Q := by
  refine am_Does_of (Nat.le_of_ble_eq_true rfl) (Nat.le_of_ble_eq_true rfl) (Nat.le_of_ble_eq_true rfl) ?_
  have l0 : am_c 0 = 0 := rfl
  have l1 : am_c 1 = 1 := rfl
  have l3 : am_c 3 = 3 := rfl
  have l4 : am_c 4 = 4 := rfl
  have l5 : am_c 5 = 5 := rfl
  have l20 : am_c 20 = 20 := rfl
  have l40 : am_c 40 = 40 := rfl
  have l48 : am_c 48 = 48 := rfl
  have l57 : am_c 57 = 57 := rfl
  have l59 : am_c 59 = 59 := rfl
  have l119 : am_c 119 = 119 := rfl
  have l200 : am_c 200 = 200 := rfl
  have l999 : am_c 999 = 999 := rfl
  have d1 : 0 ≤ am_dt t n (p + 1) := (Int.add_zero (p + 1)) ▸ dg 0 (by decide)
  have c4 : am_c (ν 8 4) = ν 8 4 := am_cR (by omega) (by omega)
  have k1' := fun (j : Nat) (x : Int) (e : j = (am_dt t n (p + 1)).toNat) (g : x = fp_2 t n (p + 2)) a => (show Q (some (.inl 1)) (am_up ν 13 j x) by rw [e, g]; exact k1 a)
  refine am_go (ct := fun _ => false) am_oX5_startComes 300 ?_
  conv => whnf
  repeat' first
    | (refine (?_ : am_wp _ _ _ _ _ _ _ _ _ _ _ _); conv => whnf)
    | (refine (?_ : am_sw _ _ _ _); conv => whnf)
    | refine And.intro trivial ?_
    | exact trivial
    | refine x_digit t n _ ?_ ?_ n0 n1 hL ?_ ?_ (fun d ed d0 d1 cd => ?_)
    | refine x_two t n _ ?_ ?_ n0 n1 hL ?_ ?_ (fun u eu cu => ?_)
    | refine x_has8 _ ?_ ?_ (fun _ _ => ?_) (fun _ => ?_)
    | refine k1' _ _ ?_ ?_ ?_
    | refine k0 ?_
    | refine And.intro (fun h => absurd h (by decide)) (fun _ => ?_)
    | refine And.intro (fun _ => ?_) (fun h => absurd (by decide) h)
    | refine And.intro (fun _ => ?_) (fun _ => ?_)
    | refine And.intro ?_ ?_
  all_goals (first | decide | exact ht | exact hn | omega | assumption | (rw [cd, ed]) | (trace_state; fail))
