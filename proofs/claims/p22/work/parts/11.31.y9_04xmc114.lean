theorem x_mc_114 {l : Launch} {ν : am_N} {Q : Option am_V → am_N → Prop} (t : Nat → Int) (n p i : Int) (n0 : 0 ≤ n) (n1 : n ≤ 96) (hL : ∀ i : Nat, (i : Int) < n → 0 ≤ t i ∧ t i ≤ 255) (p0 : 0 ≤ p) (p1 : p < n) (hb : 0 ≤ am_bh t n p) (i0 : 0 ≤ i) (i1 : i < 48) (el : ν 95 i.toNat = am_nx t n p) (td : fp_td t n p (ν 97) (5 * i.toNat)) (hw : fp_fw 999 (mv ν)) (h3 : sx_3 ν 100) (hc : am_nx t n p = 114) (k1 : fp_ok t n (mv ν) p → ∀ μ' : am_N, (∀ a b, ¬(85 ≤ a ∧ a ≤ 90) → ¬(a = 83 ∧ 10 ≤ b ∧ b ≤ 14) → a ≠ 99 → a ≠ 100 → μ' a b = ν a b) → mv μ' = fp_cf t n (mv ν) p → sx_3 μ' 100 → Q (some (.inl 1)) μ') (k0 : ¬ fp_ok t n (mv ν) p → ∀ μ' : am_N, (∀ a b, ¬(85 ≤ a ∧ a ≤ 90) → ¬(a = 83 ∧ 10 ≤ b ∧ b ≤ 14) → a ≠ 99 → a ≠ 100 → μ' a b = ν a b) → sx_3 μ' 100 → Q (some (.inl 0)) μ') : am_Does l 155 [.inr (.inr 83), .inl i] ν Q := by
  refine am_Does_of (Nat.le_of_ble_eq_true rfl) (Nat.le_of_ble_eq_true rfl) (Nat.le_of_ble_eq_true rfl) ?_
  have l0 : am_c 0 = 0 := rfl
  have l1 : am_c 1 = 1 := rfl
  have l2 : am_c 2 = 2 := rfl
  have l3 : am_c 3 = 3 := rfl
  have l4 : am_c 4 = 4 := rfl
  have l5 : am_c 5 = 5 := rfl
  have l20 : am_c 20 = 20 := rfl
  have l40 : am_c 40 = 40 := rfl
  have l200 : am_c 200 = 200 := rfl
  have l999 : am_c 999 = 999 := rfl
  obtain ⟨hf, hr, hy, hs, hway, hweek, hmore⟩ := fw_M hw (by decide)
  have f0 := hf.1.1
  have f1 := hf.1.2
  have c14 : am_c (ν 83 14) = ν 83 14 := am_cR (by omega) (by omega)
  have c11 : am_c (ν 83 11) = ν 83 11 := am_cR (by omega) (by omega)
  have ci : am_c i = i := am_cR (by omega) (by omega)
  have c5 : am_c (5 * i) = 5 * i := am_cR (by omega) (by omega)
  have c6 : am_c (5 * i + 1) = 5 * i + 1 := am_cR (by omega) (by omega)
  have e5 : (5 * i).toNat = 5 * i.toNat := by omega
  have e6 : (5 * i + 1).toNat = 5 * i.toNat + 1 := by omega
  have dg := am_bh_d hb p0
  have cl : am_c (ν 95 (am_c i).toNat) = 114 := by rw [ci, el, hc]; rfl
  obtain ⟨td1, td2, td3, td4⟩ := td
  have dg := dg (by omega)
  rw [am_ld_114 hc] at dg
  have d1 : 0 ≤ am_dt t n (p + 1) := (Int.add_zero (p + 1)) ▸ dg 0 (by decide)
  have d2 : 0 ≤ am_dt t n (p + 2) := by have q := dg 1 (by decide); rw [show p + 1 + ((1 : Nat) : Int) = p + 2 by omega] at q; exact q
  have d3 : 0 ≤ am_dt t n (p + 3) := by have q := dg 2 (by decide); rw [show p + 1 + ((2 : Nat) : Int) = p + 3 by omega] at q; exact q
  have d4 : 0 ≤ am_dt t n (p + 4) := by have q := dg 3 (by decide); rw [show p + 1 + ((3 : Nat) : Int) = p + 4 by omega] at q; exact q
  have d5 : 0 ≤ am_dt t n (p + 5) := by have q := dg 4 (by decide); rw [show p + 1 + ((4 : Nat) : Int) = p + 5 by omega] at q; exact q
  have d6 : 0 ≤ am_dt t n (p + 6) := by have q := dg 5 (by decide); rw [show p + 1 + ((5 : Nat) : Int) = p + 6 by omega] at q; exact q
  have d7 : 0 ≤ am_dt t n (p + 7) := by have q := dg 6 (by decide); rw [show p + 1 + ((6 : Nat) : Int) = p + 7 by omega] at q; exact q
  have d8 : 0 ≤ am_dt t n (p + 8) := by have q := dg 7 (by decide); rw [show p + 1 + ((7 : Nat) : Int) = p + 8 by omega] at q; exact q
  have b1 := am_dt_b t n (p + 1)
  have b2 := am_dt_b t n (p + 2)
  have b3 := fp_2_b (t := t) (n := n) (q := p + 3) d3 (by rw [show p + 3 + 1 = p + 4 by omega]; exact d4)
  have b5 := fp_2_b (t := t) (n := n) (q := p + 5) d5 (by rw [show p + 5 + 1 = p + 6 by omega]; exact d6)
  have b7 := fp_2_b (t := t) (n := n) (q := p + 7) d7 (by rw [show p + 7 + 1 = p + 8 by omega]; exact d8)
  obtain ⟨u0, u1, u2, u3, u4⟩ := td2 hc
  refine am_go (ct := fun _ => false) am_oX7_comes 300 ?_
  conv => whnf
  repeat' first
    | (refine (?_ : am_wp _ _ _ _ _ _ _ _ _ _ _ _); conv => whnf)
    | (refine (?_ : am_sw _ _ _ _); conv => whnf)
    | refine And.intro trivial ?_
    | exact trivial
    | refine And.intro (fun h => absurd (h.symm.trans cl) (by decide)) (fun _ => ?_)
    | refine And.intro (fun _ => ?_) (fun h => absurd cl h)
    | ((with_reducible refine (?_ : am_Does _ 154 _ _ _)); (refine x_comesRunner (5 * i) (am_dt t n (p + 1)) (am_dt t n (p + 2)) (fp_2 t n (p + 3)) (fp_2 t n (p + 5)) (fp_2 t n (p + 7)) ?_ ?_ ?_ ?_ ?_ ?_ ?_ ?_ ?_ ?_ ?_ ?_ ?_ ?_ ?_ ?_ ?_ f0 f1 (fun y μ2 g0 g1 g2 g3 g4 g5 g6 g7 => ?_) (fun y => ?_)))
    | (refine k1 ((fp_ok_r hc).mpr y) _ ?_ ?_ ?_)
    | (refine k0 (fun z => y ((fp_ok_r hc).mp z)) _ (fun _ _ _ _ _ _ => rfl) h3)
    | refine And.intro (fun h => absurd h (by decide)) (fun _ => ?_)
    | refine And.intro (fun _ => ?_) (fun h => absurd (by decide) h)
    | refine And.intro (fun _ => ?_) (fun _ => ?_)
    | refine And.intro ?_ ?_
  all_goals (first | decide | omega | exact b3.1 | exact b3.2 | exact b5.1 | exact b5.2 | exact b7.1 | exact b7.2 | (rw [e5]; first | exact u0 | exact u1 | exact u2 | exact u3 | exact u4) | (intro a b h1 h2 h3 h4; exact g0 a b (by omega) (by omega)) | (intro x hx; rw [g0 _ _ (by omega) (by omega)]; exact h3 x hx) | (rw [fp_cf_r hc, mv_n]; refine fp_ct_e (fun b hb => ?_) (fun a b q1 q2 hb => ?_); (show μ2 83 (10 + b) = _; by_cases d : b = 4; (subst d; exact g7); (rw [am_uE (by omega), am_upN (by decide), am_upN (by decide), am_upN (by decide), am_upN (by decide), am_upN (by decide), am_upN (by decide), mv_0 hb]; exact g0 83 (10 + b) (by omega) (by omega))); (obtain ⟨a, rfl⟩ : ∃ e, a = e + 1 := ⟨a - 1, by omega⟩; show μ2 (85 + a) b = _; rw [am_uE (by omega)]; by_cases d : b = (ν 83 14).toNat; (subst d; rcases (show a = 0 ∨ a = 1 ∨ a = 2 ∨ a = 3 ∨ a = 4 ∨ a = 5 by omega) with rfl | rfl | rfl | rfl | rfl | rfl; (rw [am_upN (by decide), am_upN (by decide), am_upN (by decide), am_upN (by decide), am_upN (by decide), am_upS, if_pos ⟨rfl, rfl⟩]; exact g1); (rw [am_upN (by decide), am_upN (by decide), am_upN (by decide), am_upN (by decide), am_upS, if_pos ⟨rfl, rfl⟩]; exact g2); (rw [am_upN (by decide), am_upN (by decide), am_upN (by decide), am_upS, if_pos ⟨rfl, rfl⟩]; exact g3); (rw [am_upN (by decide), am_upN (by decide), am_upS, if_pos ⟨rfl, rfl⟩]; exact g4); (rw [am_upN (by decide), am_upS, if_pos ⟨rfl, rfl⟩]; exact g5); (rw [am_upS, if_pos ⟨rfl, rfl⟩]; exact g6)); (rw [am_upM d, am_upM d, am_upM d, am_upM d, am_upM d, am_upM d, mv_a (by omega) hb]; exact g0 (85 + a) b (by omega) (by omega)))) | (trace_state; fail))
