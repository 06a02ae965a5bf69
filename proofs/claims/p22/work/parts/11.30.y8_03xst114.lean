theorem am_bh_114 {t : Nat → Int} {n q : Int} (hc : am_nx t n q = 114) : ((am_dn t n 8 (q + 1) - q - 1 < 8 ∨ am_nx t n (am_dn t n 8 (q + 1)) ≠ 59) → am_bh t n q = -1 - am_dn t n 8 (q + 1)) ∧ (¬(am_dn t n 8 (q + 1) - q - 1 < 8 ∨ am_nx t n (am_dn t n 8 (q + 1)) ≠ 59) → am_bh t n q = am_dn t n 8 (q + 1) + 1) := by
  have e : am_bh t n q = if am_dn t n 8 (q + 1) - q - 1 < 8 ∨ am_nx t n (am_dn t n 8 (q + 1)) ≠ 59 then -1 - am_dn t n 8 (q + 1) else am_dn t n 8 (q + 1) + 1 := by
    unfold am_bh
    rw [hc]
    rfl
  exact ⟨fun h => by rw [e, if_pos h], fun h => by rw [e, if_neg h]⟩
theorem x_st_114 {l : Launch} {ν : am_N} {Q : Option am_V → am_N → Prop} (t : Nat → Int) (n q s : Int) (ht : ν 94 = t) (hn : ν 83 21 = n) (hq : ν 83 22 = q) (n0 : 0 ≤ n) (n1 : n ≤ 96) (hL : ∀ i : Nat, (i : Int) < n → 0 ≤ t i ∧ t i ≤ 255) (es : ν 83 23 = s) (s0 : 0 ≤ s) (s1 : s < 48) (a0 : 0 ≤ q) (a1 : q ≤ n) (hc : am_nx t n q = 114) (k1 : 0 ≤ am_bh t n q → ∀ μ' : am_N, (∀ a b, ¬(a = 83 ∧ b = 22) → ¬(a = 95 ∧ b = s.toNat) → ¬(a = 96 ∧ b = s.toNat) → ¬(a = 97 ∧ 5 * s.toNat ≤ b ∧ b < 5 * s.toNat + 5) → μ' a b = ν a b) → μ' 83 22 = am_bh t n q → μ' 95 s.toNat = am_nx t n q → μ' 96 s.toNat = q → fp_td t n q (μ' 97) (5 * s.toNat) → Q (some (.inl 1)) μ') (k0 : am_bh t n q < 0 → ∀ μ' : am_N, (∀ a b, ¬(a = 83 ∧ b = 22) → ¬(a = 95 ∧ b = s.toNat) → ¬(a = 96 ∧ b = s.toNat) → ¬(a = 97 ∧ 5 * s.toNat ≤ b ∧ b < 5 * s.toNat + 5) → μ' a b = ν a b) → μ' 83 22 = -1 - am_bh t n q → Q (some (.inl 0)) μ') : am_Does l 153 [.inr (.inr 83)] ν Q := by
  refine am_Does_of (Nat.le_of_ble_eq_true rfl) (Nat.le_of_ble_eq_true rfl) (Nat.le_of_ble_eq_true rfl) ?_
  have l0 : am_c 0 = 0 := rfl
  have l1 : am_c 1 = 1 := rfl
  have l2 : am_c 2 = 2 := rfl
  have l3 : am_c 3 = 3 := rfl
  have l4 : am_c 4 = 4 := rfl
  have l5 : am_c 5 = 5 := rfl
  have l8 : am_c 8 = 8 := rfl
  have l10 : am_c 10 = 10 := rfl
  have l20 : am_c 20 = 20 := rfl
  have l40 : am_c 40 = 40 := rfl
  have l48 : am_c 48 = 48 := rfl
  have l57 : am_c 57 = 57 := rfl
  have l59 : am_c 59 = 59 := rfl
  have l103 : am_c 103 = 103 := rfl
  have l109 : am_c 109 = 109 := rfl
  have l114 : am_c 114 = 114 := rfl
  have l115 : am_c 115 = 115 := rfl
  have l119 : am_c 119 = 119 := rfl
  have l200 : am_c 200 = 200 := rfl
  have l999 : am_c 999 = 999 := rfl
  have qn : q < n := by
    by_cases z : q < n
    · exact z
    · rw [show am_nx t n q = -1 from if_neg (by omega)] at hc; omega
  have db := am_dn_b t n 8 (q + 1)
  have dn := am_dn_n t n 8 (q + 1) (by omega)
  have cs : am_c (ν 83 23) = s := by rw [es]; exact am_cR (by omega) (by omega)
  have lp70 : ∀ (v : Int) (μ : am_N), v = 114 → (∀ a b, ¬(a = 83 ∧ b = 22) → ¬(a = 95 ∧ b = s.toNat) → ¬(a = 96 ∧ b = s.toNat) → μ a b = ν a b) → μ 83 22 = q + 1 → μ 95 s.toNat = 114 → μ 96 s.toNat = q → am_AW l 0 (fun _ => 0) 153 Q 70 [some (.inr (.inr 83)), some (.inl v)] [] μ := by
    intro v μ hv0 hv1 hv2 hv3 hv4
    subst hv0
    have e23 : μ 83 23 = s := (hv1 83 23 (by omega) (by omega) (by omega)).trans es
    have e94 : μ 94 = t := (funext (fun b => hv1 94 b (by omega) (by omega) (by omega))).trans ht
    have e21 : μ 83 21 = n := (hv1 83 21 (by omega) (by omega) (by omega)).trans hn
    refine am_go (ct := fun pc => Nat.beq pc 70) am_oX7_statement 300 ?_
    conv => whnf
    repeat' first
      | (refine (?_ : am_wp _ _ _ _ _ _ _ _ _ _ _ _); conv => whnf)
      | (refine (?_ : am_sw _ _ _ _); conv => whnf)
      | refine And.intro trivial ?_
      | exact trivial
      | (exact ⟨fun z => (by omega), fun _ => (by rw [am_upN (by decide), am_upN (by decide), am_upN (by decide), am_upN (by decide), am_upN (by decide), show 5 * s.toNat = (5 * s).toNat by omega, v1, v2, v3, v4, v5, show q + 1 + 1 = q + 2 by omega, show q + 1 + 2 = q + 3 by omega, show q + 1 + 4 = q + 5 by omega, show q + 1 + 6 = q + 7 by omega]; exact ⟨rfl, rfl, rfl, rfl, rfl⟩), fun z => (by omega), fun z => (by omega)⟩)
      | ((with_reducible refine (?_ : am_Does _ 152 _ _ _)); refine x_ra_114 t n (q + 1) (5 * s) _ ?_ ?_ ?_ n0 n1 hL (by rw [e23]) ?_ ?_ ?_ ?_ (fun μ1 f1 e1 g1 v1 v2 v3 v4 v5 => ?_) (fun μ1 f1 e1 g1 => ?_))
      | ((with_reducible refine (?_ : am_Does _ 149 _ _ _)); first | refine x_next t n (q + 1 + 8) ?_ ?_ ?_ n0 n1 hL ?_ ?_ (fun w ew w0 w1 cw => ?_) | refine x_next t n q ?_ ?_ ?_ n0 n1 hL ?_ ?_ (fun v ev v0 v1 cv => ?_))
      | refine k1 ?_ _ ?_ ?_ ?_ ?_ ?_
      | refine k0 ?_ _ ?_ ?_
      | ((with_reducible refine (?_ : am_AW _ _ _ _ _ 70 _ _ _)); (refine lp70 _ _ ?_ ?_ ?_ ?_ ?_))
      | refine And.intro (fun h => absurd h (by decide)) (fun _ => ?_)
      | refine And.intro (fun _ => ?_) (fun h => absurd (by decide) h)
      | refine And.intro (fun _ => ?_) (fun _ => ?_)
      | refine And.intro ?_ ?_
    all_goals (first | decide | exact e94 | exact e21 | exact hv2 | omega | (refine Eq.trans (funext fun b => f1 94 b (by omega) (by omega)) e94) | (rw [f1 _ _ (by omega) (by omega)]; exact e21) | exact g1 | (have z := am_bh_114 hc; rw [e1] at z; rw [z.2 (by omega)]; omega) | (have z := am_bh_114 hc; rw [z.1 (by omega)]; omega) | (have z := am_bh_114 hc; rw [e1] at z; rw [z.1 (by omega)]; omega) | (intro a b h1 h2 h3 h4; rw [am_uE h1, f1 a b h1 (by omega)]; exact hv1 a b h1 h2 h3) | (intro a b h1 h2 h3 h4; rw [f1 a b h1 (by omega)]; exact hv1 a b h1 h2 h3) | (have z := am_bh_114 hc; rw [e1] at z; rw [am_upS, if_pos ⟨rfl, rfl⟩, g1, z.2 (by omega)]) | (rw [am_upN (by decide), f1 _ _ (by omega) (by omega)]; exact hv3.trans hc.symm) | (rw [am_upN (by decide), f1 _ _ (by omega) (by omega)]; exact hv4) | (exact ⟨fun z => (by omega), fun _ => (by rw [am_upN (by decide), am_upN (by decide), am_upN (by decide), am_upN (by decide), am_upN (by decide), show 5 * s.toNat = (5 * s).toNat by omega, v1, v2, v3, v4, v5, show q + 1 + 1 = q + 2 by omega, show q + 1 + 2 = q + 3 by omega, show q + 1 + 4 = q + 5 by omega, show q + 1 + 6 = q + 7 by omega]; exact ⟨rfl, rfl, rfl, rfl, rfl⟩), fun z => (by omega), fun z => (by omega)⟩) | (have z := am_bh_114 hc; rw [g1, z.1 (by omega)]; omega) | (have z := am_bh_114 hc; rw [e1] at z; rw [g1, z.1 (by omega)]; omega) | (trace_state; fail))
  refine am_go (ct := fun pc => Nat.beq pc 70) am_oX7_statement 300 ?_
  conv => whnf
  repeat' first
    | (refine (?_ : am_wp _ _ _ _ _ _ _ _ _ _ _ _); conv => whnf)
    | (refine (?_ : am_sw _ _ _ _); conv => whnf)
    | refine And.intro trivial ?_
    | exact trivial
    | ((with_reducible refine (?_ : am_Does _ 149 _ _ _)); refine x_next t n q ?_ ?_ ?_ n0 n1 hL ?_ ?_ (fun v ev v0 v1 cv => ?_))
    | ((with_reducible refine (?_ : am_AW _ _ _ _ _ 70 _ _ _)); (refine lp70 _ _ ?_ ?_ ?_ ?_ ?_))
    | ((with_reducible refine (?_ : am_AW _ _ _ _ _ 70 _ _ _)); refine lp70 _ _ ?_ ?_ ?_ ?_ ?_)
    | refine And.intro (fun h => absurd h (by decide)) (fun _ => ?_)
    | refine And.intro (fun _ => ?_) (fun h => absurd (by decide) h)
    | refine And.intro (fun _ => ?_) (fun _ => ?_)
    | refine And.intro ?_ ?_
  all_goals (first | decide | exact ht | exact hn | exact hq | omega | (rw [am_upN (by decide), cs]; omega) | (intro a b h1 h2 h3; rw [am_uE h1, am_uE (by rw [am_upN (by decide), cs]; exact h3), am_uE (by rw [cs]; exact h2)]) | (rw [am_upS, if_pos ⟨rfl, rfl⟩, am_upN (by decide), am_upN (by decide), hq]) | (rw [am_upN (by decide), am_upN (by decide), am_upS, if_pos ⟨rfl, by rw [cs]⟩]; omega) | (rw [am_upN (by decide), am_upS, if_pos ⟨rfl, by rw [am_upN (by decide), cs]⟩, am_upN (by decide)]; exact hq) | (trace_state; fail))
