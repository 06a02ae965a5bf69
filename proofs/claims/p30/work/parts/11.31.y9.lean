/-! STATEMENTS come: the model -/
theorem x_isRunnerT {l : Launch} {ν : am_N} {Q : Option am_V → am_N → Prop} (i : Int) (f0 : 0 ≤ ν 83 14) (f1 : ν 83 14 ≤ 4) (k1 : 0 ≤ am_c i → am_c i < ν 83 14 → Q (some (.inl 1)) ν) (k0 : (am_c i < 0 ∨ ν 83 14 ≤ am_c i) → Q (some (.inl 0)) ν) : am_Does l 146 [.inr (.inr 83), .inl i] ν Q := by
  refine am_Does_of (Nat.le_of_ble_eq_true rfl) (Nat.le_of_ble_eq_true rfl) (Nat.le_of_ble_eq_true rfl) ?_
  have c4 : am_c (ν 83 14) = ν 83 14 := am_cR (by omega) (by omega)
  have l0 : am_c 0 = 0 := rfl
  refine am_go (ct := fun _ => false) am_oX7_isRunner 300 ?_
  conv => whnf
  repeat' first
    | (refine (?_ : am_wp _ _ _ _ _ _ _ _ _ _ _ _); conv => whnf)
    | (refine (?_ : am_sw _ _ _ _); conv => whnf)
    | refine And.intro trivial ?_
    | exact trivial
    | refine k1 ?_ ?_
    | refine k0 ?_
    | refine And.intro (fun h => absurd h (by decide)) (fun _ => ?_)
    | refine And.intro (fun _ => ?_) (fun h => absurd (by decide) h)
    | refine And.intro (fun _ => ?_) (fun _ => ?_)
    | refine And.intro ?_ ?_
  all_goals (first | omega | (simp only [c4] at *; omega) | (trace_state; fail))
theorem x_comesRunner {l : Launch} {ν : am_N} {Q : Option am_V → am_N → Prop} (o K G P S T : Int) (o0 : 0 ≤ o) (o1 : o ≤ 235) (e0 : ν 97 o.toNat = K) (b00 : 0 ≤ K) (b01 : K ≤ 99) (e1 : ν 97 (o.toNat + 1) = G) (b10 : 0 ≤ G) (b11 : G ≤ 99) (e2 : ν 97 (o.toNat + 2) = P) (b20 : 0 ≤ P) (b21 : P ≤ 99) (e3 : ν 97 (o.toNat + 3) = S) (b30 : 0 ≤ S) (b31 : S ≤ 99) (e4 : ν 97 (o.toNat + 4) = T) (b40 : 0 ≤ T) (b41 : T ≤ 99) (f0 : 0 ≤ ν 83 14) (f1 : ν 83 14 ≤ 4) (k1 : (ν 83 14 < 4 ∧ K ≤ 5 ∧ 5 ≤ P ∧ P ≤ 40 ∧ S ≤ 20) → ∀ μ' : am_N, (∀ a b, ¬(85 ≤ a ∧ a ≤ 90 ∧ b = (ν 83 14).toNat) → ¬(a = 83 ∧ b = 14) → μ' a b = ν a b) → μ' 85 (ν 83 14).toNat = K → μ' 86 (ν 83 14).toNat = G → μ' 87 (ν 83 14).toNat = P → μ' 88 (ν 83 14).toNat = S → μ' 89 (ν 83 14).toNat = T → μ' 90 (ν 83 14).toNat = 0 → μ' 83 14 = ν 83 14 + 1 → Q (some (.inl 1)) μ') (k0 : ¬(ν 83 14 < 4 ∧ K ≤ 5 ∧ 5 ≤ P ∧ P ≤ 40 ∧ S ≤ 20) → Q (some (.inl 0)) ν) : am_Does l 154 [.inr (.inr 83), .inl o] ν Q := by
  refine am_Does_of (Nat.le_of_ble_eq_true rfl) (Nat.le_of_ble_eq_true rfl) (Nat.le_of_ble_eq_true rfl) ?_
  have l0 : am_c 0 = 0 := rfl
  have l1 : am_c 1 = 1 := rfl
  have l2 : am_c 2 = 2 := rfl
  have l3 : am_c 3 = 3 := rfl
  have l4 : am_c 4 = 4 := rfl
  have l5 : am_c 5 = 5 := rfl
  have l20 : am_c 20 = 20 := rfl
  have l40 : am_c 40 = 40 := rfl
  have l200 : am_c 200 = 200 := rfl
  have l999 : am_c 999 = 999 := rfl
  have c4 : am_c (ν 83 14) = ν 83 14 := am_cR (by omega) (by omega)
  have q0 : ν 97 (am_c o).toNat = K := by rw [am_cR (by omega) (by omega)]; exact e0
  have d0 : am_c K = K := am_cR (by omega) (by omega)
  have x0 : 0 ≤ am_c o ∧ am_c o < 240 := by rw [am_cR (by omega) (by omega)]; omega
  have q1 : ν 97 (am_c (o + 1)).toNat = G := by rw [am_cR (by omega) (by omega), show (o + 1).toNat = o.toNat + 1 by omega]; exact e1
  have d1 : am_c G = G := am_cR (by omega) (by omega)
  have x1 : 0 ≤ am_c (o + 1) ∧ am_c (o + 1) < 240 := by rw [am_cR (by omega) (by omega)]; omega
  have q2 : ν 97 (am_c (o + 2)).toNat = P := by rw [am_cR (by omega) (by omega), show (o + 2).toNat = o.toNat + 2 by omega]; exact e2
  have d2 : am_c P = P := am_cR (by omega) (by omega)
  have x2 : 0 ≤ am_c (o + 2) ∧ am_c (o + 2) < 240 := by rw [am_cR (by omega) (by omega)]; omega
  have q3 : ν 97 (am_c (o + 3)).toNat = S := by rw [am_cR (by omega) (by omega), show (o + 3).toNat = o.toNat + 3 by omega]; exact e3
  have d3 : am_c S = S := am_cR (by omega) (by omega)
  have x3 : 0 ≤ am_c (o + 3) ∧ am_c (o + 3) < 240 := by rw [am_cR (by omega) (by omega)]; omega
  have q4 : ν 97 (am_c (o + 4)).toNat = T := by rw [am_cR (by omega) (by omega), show (o + 4).toNat = o.toNat + 4 by omega]; exact e4
  have d4 : am_c T = T := am_cR (by omega) (by omega)
  have x4 : 0 ≤ am_c (o + 4) ∧ am_c (o + 4) < 240 := by rw [am_cR (by omega) (by omega)]; omega
  refine am_go (ct := fun _ => false) am_oX7_comesRunner 300 ?_
  conv => whnf
  repeat' first
    | (refine (?_ : am_wp _ _ _ _ _ _ _ _ _ _ _ _); conv => whnf)
    | (refine (?_ : am_sw _ _ _ _); conv => whnf)
    | refine And.intro trivial ?_
    | exact trivial
    | ((with_reducible refine (?_ : am_Does _ 143 _ _ _)); refine x_isIn P _ _ _ ?_ ?_ ?_ ?_ (fun _ _ => ?_) (fun _ => ?_))
    | refine k0 ?_
    | refine k1 ?_ _ ?_ ?_ ?_ ?_ ?_ ?_ ?_ ?_
    | refine And.intro (fun h => absurd h (by decide)) (fun _ => ?_)
    | refine And.intro (fun _ => ?_) (fun h => absurd (by decide) h)
    | refine And.intro (fun _ => ?_) (fun _ => ?_)
    | refine And.intro ?_ ?_
  all_goals (first | decide | omega | exact q2.symm | exact d2 | (simp only [am_upN (show (83 : Nat) ≠ 85 by decide), am_upN (show (83 : Nat) ≠ 86 by decide), am_upN (show (83 : Nat) ≠ 87 by decide), am_upN (show (83 : Nat) ≠ 88 by decide), am_upN (show (83 : Nat) ≠ 89 by decide), am_upN (show (83 : Nat) ≠ 90 by decide), q0, d0, q1, d1, q2, d2, q3, d3, q4, d4, c4] at *; omega) | (intro a b h1 h2; simp only [am_upN (show (83 : Nat) ≠ 85 by decide), am_upN (show (83 : Nat) ≠ 86 by decide), am_upN (show (83 : Nat) ≠ 87 by decide), am_upN (show (83 : Nat) ≠ 88 by decide), am_upN (show (83 : Nat) ≠ 89 by decide), am_upN (show (83 : Nat) ≠ 90 by decide), c4]; rw [am_uE (by omega), am_uE (by omega), am_uE (by omega), am_uE (by omega), am_uE (by omega), am_uE (by omega), am_uE (by omega)]) | (simp only [am_upN (show (83 : Nat) ≠ 85 by decide), am_upN (show (83 : Nat) ≠ 86 by decide), am_upN (show (83 : Nat) ≠ 87 by decide), am_upN (show (83 : Nat) ≠ 88 by decide), am_upN (show (83 : Nat) ≠ 89 by decide), am_upN (show (83 : Nat) ≠ 90 by decide), am_upN (show (97 : Nat) ≠ 83 by decide), am_upN (show (97 : Nat) ≠ 85 by decide), am_upN (show (97 : Nat) ≠ 86 by decide), am_upN (show (97 : Nat) ≠ 87 by decide), am_upN (show (97 : Nat) ≠ 88 by decide), am_upN (show (97 : Nat) ≠ 89 by decide), am_upN (show (97 : Nat) ≠ 90 by decide), c4, q0, d0, q1, d1, q2, d2, q3, d3, q4, d4]; simp [am_up]; done) | (trace_state; fail))
theorem x_mc_119 {l : Launch} {ν : am_N} {Q : Option am_V → am_N → Prop} (t : Nat → Int) (n p i : Int) (n0 : 0 ≤ n) (n1 : n ≤ 96) (hL : ∀ i : Nat, (i : Int) < n → 0 ≤ t i ∧ t i ≤ 255) (p0 : 0 ≤ p) (p1 : p < n) (hb : 0 ≤ am_bh t n p) (i0 : 0 ≤ i) (i1 : i < 48) (el : ν 95 i.toNat = am_nx t n p) (td : fp_td t n p (ν 97) (5 * i.toNat)) (hw : fp_fw 999 (mv ν)) (h3 : sx_3 ν 100) (hc : am_nx t n p = 119) (k1 : fp_ok t n (mv ν) p → ∀ μ' : am_N, (∀ a b, ¬(85 ≤ a ∧ a ≤ 90) → ¬(a = 83 ∧ 10 ≤ b ∧ b ≤ 14) → a ≠ 99 → a ≠ 100 → μ' a b = ν a b) → mv μ' = fp_cf t n (mv ν) p → sx_3 μ' 100 → Q (some (.inl 1)) μ') (k0 : ¬ fp_ok t n (mv ν) p → ∀ μ' : am_N, (∀ a b, ¬(85 ≤ a ∧ a ≤ 90) → ¬(a = 83 ∧ 10 ≤ b ∧ b ≤ 14) → a ≠ 99 → a ≠ 100 → μ' a b = ν a b) → sx_3 μ' 100 → Q (some (.inl 0)) μ') : am_Does l 155 [.inr (.inr 83), .inl i] ν Q := by
  refine am_Does_of (Nat.le_of_ble_eq_true rfl) (Nat.le_of_ble_eq_true rfl) (Nat.le_of_ble_eq_true rfl) ?_
  have l0 : am_c 0 = 0 := rfl
  have l1 : am_c 1 = 1 := rfl
  have l2 : am_c 2 = 2 := rfl
  have l3 : am_c 3 = 3 := rfl
  have l4 : am_c 4 = 4 := rfl
  have l5 : am_c 5 = 5 := rfl
  have l20 : am_c 20 = 20 := rfl
  have l40 : am_c 40 = 40 := rfl
  have l200 : am_c 200 = 200 := rfl
  have l999 : am_c 999 = 999 := rfl
  obtain ⟨hf, hr, hy, hs, hway, hweek, hmore⟩ := fw_M hw (by decide)
  have f0 := hf.1.1
  have f1 := hf.1.2
  have c14 : am_c (ν 83 14) = ν 83 14 := am_cR (by omega) (by omega)
  have c11 : am_c (ν 83 11) = ν 83 11 := am_cR (by omega) (by omega)
  have ci : am_c i = i := am_cR (by omega) (by omega)
  have c5 : am_c (5 * i) = 5 * i := am_cR (by omega) (by omega)
  have c6 : am_c (5 * i + 1) = 5 * i + 1 := am_cR (by omega) (by omega)
  have e5 : (5 * i).toNat = 5 * i.toNat := by omega
  have e6 : (5 * i + 1).toNat = 5 * i.toNat + 1 := by omega
  have dg := am_bh_d hb p0
  have cl : am_c (ν 95 (am_c i).toNat) = 119 := by rw [ci, el, hc]; rfl
  obtain ⟨td1, td2, td3, td4⟩ := td
  have tw : ν 97 (am_c (5 * i)).toNat = fp_w t n p := by rw [c5, e5]; exact td1 hc
  have hv := am_dv_b t n 3 (p + 1) 0 (by decide)
  have w0 : 0 ≤ fp_w t n p := hv.1
  have w1 : fp_w t n p ≤ 999 := hv.2
  have cw : am_c (fp_w t n p) = fp_w t n p := am_cR (by omega) (by omega)
  refine am_go (ct := fun _ => false) am_oX7_comes 300 ?_
  conv => whnf
  repeat' first
    | (refine (?_ : am_wp _ _ _ _ _ _ _ _ _ _ _ _); conv => whnf)
    | (refine (?_ : am_sw _ _ _ _); conv => whnf)
    | refine And.intro trivial ?_
    | exact trivial
    | refine And.intro (fun h => absurd (h.symm.trans cl) (by decide)) (fun _ => ?_)
    | refine And.intro (fun _ => ?_) (fun h => absurd cl h)
    | ((with_reducible refine (?_ : am_Does _ 143 _ _ _)); refine x_isIn (fp_w t n p) _ _ _ ?_ cw ?_ ?_ (fun y0 y1 => ?_) (fun y => ?_))
    | refine k1 ((fp_ok_w hc).mpr ⟨y0, y1⟩) _ ?_ ?_ ?_
    | refine k0 (fun z => ?_) _ ?_ ?_
    | refine And.intro (fun h => absurd h (by decide)) (fun _ => ?_)
    | refine And.intro (fun _ => ?_) (fun h => absurd (by decide) h)
    | refine And.intro (fun _ => ?_) (fun _ => ?_)
    | refine And.intro ?_ ?_
  all_goals (first | decide | omega | (have q := (fp_ok_w hc).mp z; omega) | (rw [c5]; omega) | (rw [am_upS, if_pos ⟨rfl, rfl⟩]; exact tw.symm) | (intro a b h1 h2 h3 h4; exact am_uE (fun z => h2 (by rw [z.1, z.2]; decide))) | exact sx_3N h3 (by decide) | (rw [fp_cf_w hc]; refine fp_ct_e (fun b hb => ?_) (fun a b q1 q2 hb => ?_); (by_cases d : b = 0; (subst d; show am_up ν 83 10 _ 83 10 = am_up _ 0 0 _ 0 0; rw [am_upS, if_pos ⟨rfl, rfl⟩, am_upS, if_pos ⟨rfl, rfl⟩]; exact tw); (rw [am_upM d]; exact Eq.trans (am_upM (by omega)) (mv_0 hb).symm)); (obtain ⟨a, rfl⟩ : ∃ e, a = e + 1 := ⟨a - 1, by omega⟩; rw [am_upN (by omega)]; exact Eq.trans (am_upN (show 85 + a ≠ 83 by omega)) (mv_a (by omega) hb).symm)) | (trace_state; fail))
theorem x_mc_109 {l : Launch} {ν : am_N} {Q : Option am_V → am_N → Prop} (t : Nat → Int) (n p i : Int) (n0 : 0 ≤ n) (n1 : n ≤ 96) (hL : ∀ i : Nat, (i : Int) < n → 0 ≤ t i ∧ t i ≤ 255) (p0 : 0 ≤ p) (p1 : p < n) (hb : 0 ≤ am_bh t n p) (i0 : 0 ≤ i) (i1 : i < 48) (el : ν 95 i.toNat = am_nx t n p) (td : fp_td t n p (ν 97) (5 * i.toNat)) (hw : fp_fw 999 (mv ν)) (h3 : sx_3 ν 100) (hc : am_nx t n p = 109) (k1 : fp_ok t n (mv ν) p → ∀ μ' : am_N, (∀ a b, ¬(85 ≤ a ∧ a ≤ 90) → ¬(a = 83 ∧ 10 ≤ b ∧ b ≤ 14) → a ≠ 99 → a ≠ 100 → μ' a b = ν a b) → mv μ' = fp_cf t n (mv ν) p → sx_3 μ' 100 → Q (some (.inl 1)) μ') (k0 : ¬ fp_ok t n (mv ν) p → ∀ μ' : am_N, (∀ a b, ¬(85 ≤ a ∧ a ≤ 90) → ¬(a = 83 ∧ 10 ≤ b ∧ b ≤ 14) → a ≠ 99 → a ≠ 100 → μ' a b = ν a b) → sx_3 μ' 100 → Q (some (.inl 0)) μ') : am_Does l 155 [.inr (.inr 83), .inl i] ν Q := by
  refine am_Does_of (Nat.le_of_ble_eq_true rfl) (Nat.le_of_ble_eq_true rfl) (Nat.le_of_ble_eq_true rfl) ?_
  have l0 : am_c 0 = 0 := rfl
  have l1 : am_c 1 = 1 := rfl
  have l2 : am_c 2 = 2 := rfl
  have l3 : am_c 3 = 3 := rfl
  have l4 : am_c 4 = 4 := rfl
  have l5 : am_c 5 = 5 := rfl
  have l20 : am_c 20 = 20 := rfl
  have l40 : am_c 40 = 40 := rfl
  have l200 : am_c 200 = 200 := rfl
  have l999 : am_c 999 = 999 := rfl
  obtain ⟨hf, hr, hy, hs, hway, hweek, hmore⟩ := fw_M hw (by decide)
  have f0 := hf.1.1
  have f1 := hf.1.2
  have c14 : am_c (ν 83 14) = ν 83 14 := am_cR (by omega) (by omega)
  have c11 : am_c (ν 83 11) = ν 83 11 := am_cR (by omega) (by omega)
  have ci : am_c i = i := am_cR (by omega) (by omega)
  have c5 : am_c (5 * i) = 5 * i := am_cR (by omega) (by omega)
  have c6 : am_c (5 * i + 1) = 5 * i + 1 := am_cR (by omega) (by omega)
  have e5 : (5 * i).toNat = 5 * i.toNat := by omega
  have e6 : (5 * i + 1).toNat = 5 * i.toNat + 1 := by omega
  have dg := am_bh_d hb p0
  have cl : am_c (ν 95 (am_c i).toNat) = 109 := by rw [ci, el, hc]; rfl
  obtain ⟨td1, td2, td3, td4⟩ := td
  have dg := dg (by omega)
  rw [am_ld_109 hc] at dg
  have d1 : 0 ≤ am_dt t n (p + 1) := (Int.add_zero (p + 1)) ▸ dg 0 (by decide)
  have b1 := am_dt_b t n (p + 1)
  have b2 := am_dt_b t n (p + 2)
  have t1 : ν 97 (am_c (5 * i)).toNat = am_dt t n (p + 1) := by rw [c5, e5]; exact (td3 hc).1
  have t2 : ν 97 (am_c (5 * i + 1)).toNat = am_dt t n (p + 2) := by rw [c6, e6]; exact (td3 hc).2
  have t2' : ∀ v : Int, am_up ν 83 12 v 97 (am_c (5 * i + 1)).toNat = am_dt t n (p + 2) := fun v => (am_upN (by decide)).trans t2
  have cd1 : am_c (am_dt t n (p + 1)) = am_dt t n (p + 1) := am_cR (by omega) (by omega)
  have cd2 : am_c (am_dt t n (p + 2)) = am_dt t n (p + 2) := am_cR (by omega) (by omega)
  have r12 : ∀ v w : Int, am_up (am_up ν 83 12 v) 83 13 w 83 12 = v := fun v w => (am_upM (by decide)).trans (if_pos ⟨rfl, rfl⟩)
  have r13 : ∀ v w : Int, am_up (am_up ν 83 12 v) 83 13 w 83 13 = w := fun v w => if_pos ⟨rfl, rfl⟩
  refine am_go (ct := fun _ => false) am_oX7_comes 300 ?_
  conv => whnf
  repeat' first
    | (refine (?_ : am_wp _ _ _ _ _ _ _ _ _ _ _ _); conv => whnf)
    | (refine (?_ : am_sw _ _ _ _); conv => whnf)
    | refine And.intro trivial ?_
    | exact trivial
    | refine And.intro (fun h => absurd (h.symm.trans cl) (by decide)) (fun _ => ?_)
    | refine And.intro (fun _ => ?_) (fun h => absurd cl h)
    | (refine k1 ((fp_ok_m hc).mpr ?_) _ ?_ ?_ ?_)
    | (refine k0 (fun z => ?_) _ ?_ ?_)
    | refine And.intro (fun h => absurd h (by decide)) (fun _ => ?_)
    | refine And.intro (fun _ => ?_) (fun h => absurd (by decide) h)
    | refine And.intro (fun _ => ?_) (fun _ => ?_)
    | refine And.intro ?_ ?_
  all_goals (first | decide | omega | (rw [c5]; omega) | (rw [c6]; omega) | (intro a b h1 h2 h3 h4; exact Eq.trans (am_uE (fun z => h2 (by rw [z.1, z.2]; decide))) (am_uE (fun z => h2 (by rw [z.1, z.2]; decide)))) | exact sx_3N (sx_3N h3 (by decide)) (by decide) | (simp only [r12, r13, t1, t2, t2', cd1, cd2] at *; omega) | (have q := (fp_ok_m hc).mp z; simp only [r12, r13, t1, t2, t2', cd1, cd2] at *; omega) | (simp only [t1, t2']; rw [fp_cf_m hc]; refine fp_ct_e (fun b hb => ?_) (fun a b q1 q2 hb => ?_); (by_cases z3 : b = 3; (subst z3; rfl); (by_cases z2 : b = 2; (subst z2; rfl); (rw [am_upM z3, am_upM z2]; exact Eq.trans (am_upM (by omega)) (Eq.trans (am_upM (by omega)) (mv_0 hb).symm)))); (obtain ⟨a, rfl⟩ : ∃ e, a = e + 1 := ⟨a - 1, by omega⟩; rw [am_upN (by omega), am_upN (by omega)]; exact Eq.trans (am_upN (show 85 + a ≠ 83 by omega)) (Eq.trans (am_upN (show 85 + a ≠ 83 by omega)) (mv_a (by omega) hb).symm))) | (trace_state; fail))
theorem x_mc_115 {l : Launch} {ν : am_N} {Q : Option am_V → am_N → Prop} (t : Nat → Int) (n p i : Int) (n0 : 0 ≤ n) (n1 : n ≤ 96) (hL : ∀ i : Nat, (i : Int) < n → 0 ≤ t i ∧ t i ≤ 255) (p0 : 0 ≤ p) (p1 : p < n) (hb : 0 ≤ am_bh t n p) (i0 : 0 ≤ i) (i1 : i < 48) (el : ν 95 i.toNat = am_nx t n p) (td : fp_td t n p (ν 97) (5 * i.toNat)) (hw : fp_fw 999 (mv ν)) (h3 : sx_3 ν 100) (hc : am_nx t n p = 115) (k1 : fp_ok t n (mv ν) p → ∀ μ' : am_N, (∀ a b, ¬(85 ≤ a ∧ a ≤ 90) → ¬(a = 83 ∧ 10 ≤ b ∧ b ≤ 14) → a ≠ 99 → a ≠ 100 → μ' a b = ν a b) → mv μ' = fp_cf t n (mv ν) p → sx_3 μ' 100 → Q (some (.inl 1)) μ') (k0 : ¬ fp_ok t n (mv ν) p → ∀ μ' : am_N, (∀ a b, ¬(85 ≤ a ∧ a ≤ 90) → ¬(a = 83 ∧ 10 ≤ b ∧ b ≤ 14) → a ≠ 99 → a ≠ 100 → μ' a b = ν a b) → sx_3 μ' 100 → Q (some (.inl 0)) μ') : am_Does l 155 [.inr (.inr 83), .inl i] ν Q := by
  refine am_Does_of (Nat.le_of_ble_eq_true rfl) (Nat.le_of_ble_eq_true rfl) (Nat.le_of_ble_eq_true rfl) ?_
  have l0 : am_c 0 = 0 := rfl
  have l1 : am_c 1 = 1 := rfl
  have l2 : am_c 2 = 2 := rfl
  have l3 : am_c 3 = 3 := rfl
  have l4 : am_c 4 = 4 := rfl
  have l5 : am_c 5 = 5 := rfl
  have l20 : am_c 20 = 20 := rfl
  have l40 : am_c 40 = 40 := rfl
  have l200 : am_c 200 = 200 := rfl
  have l999 : am_c 999 = 999 := rfl
  obtain ⟨hf, hr, hy, hs, hway, hweek, hmore⟩ := fw_M hw (by decide)
  have f0 := hf.1.1
  have f1 := hf.1.2
  have c14 : am_c (ν 83 14) = ν 83 14 := am_cR (by omega) (by omega)
  have c11 : am_c (ν 83 11) = ν 83 11 := am_cR (by omega) (by omega)
  have ci : am_c i = i := am_cR (by omega) (by omega)
  have c5 : am_c (5 * i) = 5 * i := am_cR (by omega) (by omega)
  have c6 : am_c (5 * i + 1) = 5 * i + 1 := am_cR (by omega) (by omega)
  have e5 : (5 * i).toNat = 5 * i.toNat := by omega
  have e6 : (5 * i + 1).toNat = 5 * i.toNat + 1 := by omega
  have dg := am_bh_d hb p0
  have cl : am_c (ν 95 (am_c i).toNat) = 115 := by rw [ci, el, hc]; rfl
  obtain ⟨td1, td2, td3, td4⟩ := td
  have dg := dg (by omega)
  rw [am_ld_115 hc] at dg
  have d1 : 0 ≤ am_dt t n (p + 1) := (Int.add_zero (p + 1)) ▸ dg 0 (by decide)
  have b1 := am_dt_b t n (p + 1)
  have t1 : ν 97 (am_c (5 * i)).toNat = am_dt t n (p + 1) := by rw [c5, e5]; exact (td4 hc).1
  have t2 : ν 97 (am_c (5 * i + 1)).toNat = fp_2 t n (p + 2) := by rw [c6, e6]; exact (td4 hc).2
  have cd1 : am_c (am_dt t n (p + 1)) = am_dt t n (p + 1) := am_cR (by omega) (by omega)
  have cv1 : am_c (ν 97 (am_c (5 * i)).toNat) = am_dt t n (p + 1) := by rw [t1]; exact cd1
  refine am_go (ct := fun _ => false) am_oX7_comes 300 ?_
  conv => whnf
  repeat' first
    | (refine (?_ : am_wp _ _ _ _ _ _ _ _ _ _ _ _); conv => whnf)
    | (refine (?_ : am_sw _ _ _ _); conv => whnf)
    | refine And.intro trivial ?_
    | exact trivial
    | refine And.intro (fun h => absurd (h.symm.trans cl) (by decide)) (fun _ => ?_)
    | refine And.intro (fun _ => ?_) (fun h => absurd cl h)
    | ((with_reducible refine (?_ : am_Does _ 146 _ _ _)); refine x_isRunnerT _ f0 f1 (fun y0 y1 => ?_) (fun y => ?_))
    | (refine k1 ((fp_ok_s hc).mpr ?_) _ ?_ ?_ ?_)
    | (refine k0 (fun z => ?_) _ (fun _ _ _ _ _ _ => rfl) h3)
    | refine And.intro (fun h => absurd h (by decide)) (fun _ => ?_)
    | refine And.intro (fun _ => ?_) (fun h => absurd (by decide) h)
    | refine And.intro (fun _ => ?_) (fun _ => ?_)
    | refine And.intro ?_ ?_
  all_goals (first | decide | omega | (rw [c5]; omega) | (rw [c6]; omega) | (rw [cv1] at *; rw [mv_n]; omega) | (rw [cv1] at *; omega) | (have q := (fp_ok_s hc).mp z; rw [mv_n] at q; rw [cv1] at y; omega) | (intro a b h1 h2 h3 h4; exact am_uE (fun z => h1 (by rw [z.1]; decide))) | exact sx_3N h3 (by decide) | (rw [cv1, t2, fp_cf_s hc]; refine fp_ct_e (fun b hb => ?_) (fun a b q1 q2 hb => ?_); (rw [am_upN (by decide)]; exact Eq.trans (am_upN (by decide)) (mv_0 hb).symm); (obtain ⟨a, rfl⟩ : ∃ e, a = e + 1 := ⟨a - 1, by omega⟩; by_cases d : a = 4 ∧ b = (am_dt t n (p + 1)).toNat; (obtain ⟨rfl, rfl⟩ := d; exact Eq.trans (if_pos ⟨rfl, rfl⟩) (Eq.symm (if_pos ⟨rfl, rfl⟩))); (rw [am_uE (show ¬(a + 1 = 5 ∧ b = (am_dt t n (p + 1)).toNat) by omega)]; exact Eq.trans (am_uE (show ¬(85 + a = 89 ∧ b = (am_dt t n (p + 1)).toNat) by omega)) (mv_a (by omega) hb).symm))) | (trace_state; fail))
theorem x_mc_114 {l : Launch} {ν : am_N} {Q : Option am_V → am_N → Prop} (t : Nat → Int) (n p i : Int) (n0 : 0 ≤ n) (n1 : n ≤ 96) (hL : ∀ i : Nat, (i : Int) < n → 0 ≤ t i ∧ t i ≤ 255) (p0 : 0 ≤ p) (p1 : p < n) (hb : 0 ≤ am_bh t n p) (i0 : 0 ≤ i) (i1 : i < 48) (el : ν 95 i.toNat = am_nx t n p) (td : fp_td t n p (ν 97) (5 * i.toNat)) (hw : fp_fw 999 (mv ν)) (h3 : sx_3 ν 100) (hc : am_nx t n p = 114) (k1 : fp_ok t n (mv ν) p → ∀ μ' : am_N, (∀ a b, ¬(85 ≤ a ∧ a ≤ 90) → ¬(a = 83 ∧ 10 ≤ b ∧ b ≤ 14) → a ≠ 99 → a ≠ 100 → μ' a b = ν a b) → mv μ' = fp_cf t n (mv ν) p → sx_3 μ' 100 → Q (some (.inl 1)) μ') (k0 : ¬ fp_ok t n (mv ν) p → ∀ μ' : am_N, (∀ a b, ¬(85 ≤ a ∧ a ≤ 90) → ¬(a = 83 ∧ 10 ≤ b ∧ b ≤ 14) → a ≠ 99 → a ≠ 100 → μ' a b = ν a b) → sx_3 μ' 100 → Q (some (.inl 0)) μ') : am_Does l 155 [.inr (.inr 83), .inl i] ν Q := by
  refine am_Does_of (Nat.le_of_ble_eq_true rfl) (Nat.le_of_ble_eq_true rfl) (Nat.le_of_ble_eq_true rfl) ?_
  have l0 : am_c 0 = 0 := rfl
  have l1 : am_c 1 = 1 := rfl
  have l2 : am_c 2 = 2 := rfl
  have l3 : am_c 3 = 3 := rfl
  have l4 : am_c 4 = 4 := rfl
  have l5 : am_c 5 = 5 := rfl
  have l20 : am_c 20 = 20 := rfl
  have l40 : am_c 40 = 40 := rfl
  have l200 : am_c 200 = 200 := rfl
  have l999 : am_c 999 = 999 := rfl
  obtain ⟨hf, hr, hy, hs, hway, hweek, hmore⟩ := fw_M hw (by decide)
  have f0 := hf.1.1
  have f1 := hf.1.2
  have c14 : am_c (ν 83 14) = ν 83 14 := am_cR (by omega) (by omega)
  have c11 : am_c (ν 83 11) = ν 83 11 := am_cR (by omega) (by omega)
  have ci : am_c i = i := am_cR (by omega) (by omega)
  have c5 : am_c (5 * i) = 5 * i := am_cR (by omega) (by omega)
  have c6 : am_c (5 * i + 1) = 5 * i + 1 := am_cR (by omega) (by omega)
  have e5 : (5 * i).toNat = 5 * i.toNat := by omega
  have e6 : (5 * i + 1).toNat = 5 * i.toNat + 1 := by omega
  have dg := am_bh_d hb p0
  have cl : am_c (ν 95 (am_c i).toNat) = 114 := by rw [ci, el, hc]; rfl
  obtain ⟨td1, td2, td3, td4⟩ := td
  have dg := dg (by omega)
  rw [am_ld_114 hc] at dg
  have d1 : 0 ≤ am_dt t n (p + 1) := (Int.add_zero (p + 1)) ▸ dg 0 (by decide)
  have d2 : 0 ≤ am_dt t n (p + 2) := by have q := dg 1 (by decide); rw [show p + 1 + ((1 : Nat) : Int) = p + 2 by omega] at q; exact q
  have d3 : 0 ≤ am_dt t n (p + 3) := by have q := dg 2 (by decide); rw [show p + 1 + ((2 : Nat) : Int) = p + 3 by omega] at q; exact q
  have d4 : 0 ≤ am_dt t n (p + 4) := by have q := dg 3 (by decide); rw [show p + 1 + ((3 : Nat) : Int) = p + 4 by omega] at q; exact q
  have d5 : 0 ≤ am_dt t n (p + 5) := by have q := dg 4 (by decide); rw [show p + 1 + ((4 : Nat) : Int) = p + 5 by omega] at q; exact q
  have d6 : 0 ≤ am_dt t n (p + 6) := by have q := dg 5 (by decide); rw [show p + 1 + ((5 : Nat) : Int) = p + 6 by omega] at q; exact q
  have d7 : 0 ≤ am_dt t n (p + 7) := by have q := dg 6 (by decide); rw [show p + 1 + ((6 : Nat) : Int) = p + 7 by omega] at q; exact q
  have d8 : 0 ≤ am_dt t n (p + 8) := by have q := dg 7 (by decide); rw [show p + 1 + ((7 : Nat) : Int) = p + 8 by omega] at q; exact q
  have b1 := am_dt_b t n (p + 1)
  have b2 := am_dt_b t n (p + 2)
  have b3 := fp_2_b (t := t) (n := n) (q := p + 3) d3 (by rw [show p + 3 + 1 = p + 4 by omega]; exact d4)
  have b5 := fp_2_b (t := t) (n := n) (q := p + 5) d5 (by rw [show p + 5 + 1 = p + 6 by omega]; exact d6)
  have b7 := fp_2_b (t := t) (n := n) (q := p + 7) d7 (by rw [show p + 7 + 1 = p + 8 by omega]; exact d8)
  obtain ⟨u0, u1, u2, u3, u4⟩ := td2 hc
  refine am_go (ct := fun _ => false) am_oX7_comes 300 ?_
  conv => whnf
  repeat' first
    | (refine (?_ : am_wp _ _ _ _ _ _ _ _ _ _ _ _); conv => whnf)
    | (refine (?_ : am_sw _ _ _ _); conv => whnf)
    | refine And.intro trivial ?_
    | exact trivial
    | refine And.intro (fun h => absurd (h.symm.trans cl) (by decide)) (fun _ => ?_)
    | refine And.intro (fun _ => ?_) (fun h => absurd cl h)
    | ((with_reducible refine (?_ : am_Does _ 154 _ _ _)); (refine x_comesRunner (5 * i) (am_dt t n (p + 1)) (am_dt t n (p + 2)) (fp_2 t n (p + 3)) (fp_2 t n (p + 5)) (fp_2 t n (p + 7)) ?_ ?_ ?_ ?_ ?_ ?_ ?_ ?_ ?_ ?_ ?_ ?_ ?_ ?_ ?_ ?_ ?_ f0 f1 (fun y μ2 g0 g1 g2 g3 g4 g5 g6 g7 => ?_) (fun y => ?_)))
    | (refine k1 ((fp_ok_r hc).mpr y) _ ?_ ?_ ?_)
    | (refine k0 (fun z => y ((fp_ok_r hc).mp z)) _ (fun _ _ _ _ _ _ => rfl) h3)
    | refine And.intro (fun h => absurd h (by decide)) (fun _ => ?_)
    | refine And.intro (fun _ => ?_) (fun h => absurd (by decide) h)
    | refine And.intro (fun _ => ?_) (fun _ => ?_)
    | refine And.intro ?_ ?_
  all_goals (first | decide | omega | exact b3.1 | exact b3.2 | exact b5.1 | exact b5.2 | exact b7.1 | exact b7.2 | (rw [e5]; first | exact u0 | exact u1 | exact u2 | exact u3 | exact u4) | (intro a b h1 h2 h3 h4; exact g0 a b (by omega) (by omega)) | (intro x hx; rw [g0 _ _ (by omega) (by omega)]; exact h3 x hx) | (rw [fp_cf_r hc, mv_n]; refine fp_ct_e (fun b hb => ?_) (fun a b q1 q2 hb => ?_); (show μ2 83 (10 + b) = _; by_cases d : b = 4; (subst d; exact g7); (rw [am_uE (by omega), am_upN (by decide), am_upN (by decide), am_upN (by decide), am_upN (by decide), am_upN (by decide), am_upN (by decide), mv_0 hb]; exact g0 83 (10 + b) (by omega) (by omega))); (obtain ⟨a, rfl⟩ : ∃ e, a = e + 1 := ⟨a - 1, by omega⟩; show μ2 (85 + a) b = _; rw [am_uE (by omega)]; by_cases d : b = (ν 83 14).toNat; (subst d; rcases (show a = 0 ∨ a = 1 ∨ a = 2 ∨ a = 3 ∨ a = 4 ∨ a = 5 by omega) with rfl | rfl | rfl | rfl | rfl | rfl; (rw [am_upN (by decide), am_upN (by decide), am_upN (by decide), am_upN (by decide), am_upN (by decide), am_upS, if_pos ⟨rfl, rfl⟩]; exact g1); (rw [am_upN (by decide), am_upN (by decide), am_upN (by decide), am_upN (by decide), am_upS, if_pos ⟨rfl, rfl⟩]; exact g2); (rw [am_upN (by decide), am_upN (by decide), am_upN (by decide), am_upS, if_pos ⟨rfl, rfl⟩]; exact g3); (rw [am_upN (by decide), am_upN (by decide), am_upS, if_pos ⟨rfl, rfl⟩]; exact g4); (rw [am_upN (by decide), am_upS, if_pos ⟨rfl, rfl⟩]; exact g5); (rw [am_upS, if_pos ⟨rfl, rfl⟩]; exact g6)); (rw [am_upM d, am_upM d, am_upM d, am_upM d, am_upM d, am_upM d, mv_a (by omega) hb]; exact g0 (85 + a) b (by omega) (by omega)))) | (trace_state; fail))
theorem x_mc_103 {l : Launch} {ν : am_N} {Q : Option am_V → am_N → Prop} (t : Nat → Int) (n p i : Int) (n0 : 0 ≤ n) (n1 : n ≤ 96) (hL : ∀ i : Nat, (i : Int) < n → 0 ≤ t i ∧ t i ≤ 255) (p0 : 0 ≤ p) (p1 : p < n) (hb : 0 ≤ am_bh t n p) (i0 : 0 ≤ i) (i1 : i < 48) (el : ν 95 i.toNat = am_nx t n p) (td : fp_td t n p (ν 97) (5 * i.toNat)) (hw : fp_fw 999 (mv ν)) (h3 : sx_3 ν 100) (hc : am_nx t n p = 103) (k1 : fp_ok t n (mv ν) p → ∀ μ' : am_N, (∀ a b, ¬(85 ≤ a ∧ a ≤ 90) → ¬(a = 83 ∧ 10 ≤ b ∧ b ≤ 14) → a ≠ 99 → a ≠ 100 → μ' a b = ν a b) → mv μ' = fp_cf t n (mv ν) p → sx_3 μ' 100 → Q (some (.inl 1)) μ') (k0 : ¬ fp_ok t n (mv ν) p → ∀ μ' : am_N, (∀ a b, ¬(85 ≤ a ∧ a ≤ 90) → ¬(a = 83 ∧ 10 ≤ b ∧ b ≤ 14) → a ≠ 99 → a ≠ 100 → μ' a b = ν a b) → sx_3 μ' 100 → Q (some (.inl 0)) μ') : am_Does l 155 [.inr (.inr 83), .inl i] ν Q := by
  refine am_Does_of (Nat.le_of_ble_eq_true rfl) (Nat.le_of_ble_eq_true rfl) (Nat.le_of_ble_eq_true rfl) ?_
  have l0 : am_c 0 = 0 := rfl
  have l1 : am_c 1 = 1 := rfl
  have l2 : am_c 2 = 2 := rfl
  have l3 : am_c 3 = 3 := rfl
  have l4 : am_c 4 = 4 := rfl
  have l5 : am_c 5 = 5 := rfl
  have l20 : am_c 20 = 20 := rfl
  have l40 : am_c 40 = 40 := rfl
  have l200 : am_c 200 = 200 := rfl
  have l999 : am_c 999 = 999 := rfl
  obtain ⟨hf, hr, hy, hs, hway, hweek, hmore⟩ := fw_M hw (by decide)
  have f0 := hf.1.1
  have f1 := hf.1.2
  have c14 : am_c (ν 83 14) = ν 83 14 := am_cR (by omega) (by omega)
  have c11 : am_c (ν 83 11) = ν 83 11 := am_cR (by omega) (by omega)
  have ci : am_c i = i := am_cR (by omega) (by omega)
  have c5 : am_c (5 * i) = 5 * i := am_cR (by omega) (by omega)
  have c6 : am_c (5 * i + 1) = 5 * i + 1 := am_cR (by omega) (by omega)
  have e5 : (5 * i).toNat = 5 * i.toNat := by omega
  have e6 : (5 * i + 1).toNat = 5 * i.toNat + 1 := by omega
  have dg := am_bh_d hb p0
  have cl : am_c (ν 95 (am_c i).toNat) = 103 := by rw [ci, el, hc]; rfl
  obtain ⟨td1, td2, td3, td4⟩ := td
  have n1' : am_nx t n p ≠ 119 := by omega
  have n2' : am_nx t n p ≠ 114 := by omega
  have n3' : am_nx t n p ≠ 109 := by omega
  have n4' : am_nx t n p ≠ 115 := by omega
  refine am_go (ct := fun _ => false) am_oX7_comes 300 ?_
  conv => whnf
  repeat' first
    | (refine (?_ : am_wp _ _ _ _ _ _ _ _ _ _ _ _); conv => whnf)
    | (refine (?_ : am_sw _ _ _ _); conv => whnf)
    | refine And.intro trivial ?_
    | exact trivial
    | refine And.intro (fun h => absurd (h.symm.trans cl) (by decide)) (fun _ => ?_)
    | refine And.intro (fun _ => ?_) (fun h => absurd cl h)
    | ((with_reducible refine (?_ : am_Does _ 172 _ _ _)); refine x_runs 999 hw (by decide) ?_ h3 (fun μ2 g0 g1 g2 g3 g4 => ?_))
    | (refine k1 ((fp_ok_g n1' n2' n3' n4').mpr ?_) _ ?_ ?_ ?_)
    | (refine k0 (fun z => ?_) _ (fun _ _ _ _ _ _ => rfl) h3)
    | refine And.intro (fun h => absurd h (by decide)) (fun _ => ?_)
    | refine And.intro (fun _ => ?_) (fun h => absurd (by decide) h)
    | refine And.intro (fun _ => ?_) (fun _ => ?_)
    | refine And.intro ?_ ?_
  all_goals (first | decide | omega | (simp only [c14, c11] at *; omega) | (rw [mv_n]; simp only [c14, c11] at *; omega) | (rw [mv_k]; simp only [c14, c11] at *; omega) | (have q := (fp_ok_g n1' n2' n3' n4').mp z; rw [mv_n, mv_k] at q; simp only [c14, c11] at *; omega) | (intro a b h1 h2 h3 h4; exact g0 a b (by omega) (by omega) (by omega) h3 h4) | (rw [fp_cf_g n1' n2' n3' n4']; exact g1) | exact g2 | (trace_state; fail))
theorem x_mcomes {l : Launch} {ν : am_N} {Q : Option am_V → am_N → Prop} (t : Nat → Int) (n p i : Int) (n0 : 0 ≤ n) (n1 : n ≤ 96) (hL : ∀ i : Nat, (i : Int) < n → 0 ≤ t i ∧ t i ≤ 255) (p0 : 0 ≤ p) (p1 : p < n) (hb : 0 ≤ am_bh t n p) (i0 : 0 ≤ i) (i1 : i < 48) (el : ν 95 i.toNat = am_nx t n p) (td : fp_td t n p (ν 97) (5 * i.toNat)) (hw : fp_fw 999 (mv ν)) (h3 : sx_3 ν 100) (k1 : fp_ok t n (mv ν) p → ∀ μ' : am_N, (∀ a b, ¬(85 ≤ a ∧ a ≤ 90) → ¬(a = 83 ∧ 10 ≤ b ∧ b ≤ 14) → a ≠ 99 → a ≠ 100 → μ' a b = ν a b) → mv μ' = fp_cf t n (mv ν) p → sx_3 μ' 100 → Q (some (.inl 1)) μ') (k0 : ¬ fp_ok t n (mv ν) p → ∀ μ' : am_N, (∀ a b, ¬(85 ≤ a ∧ a ≤ 90) → ¬(a = 83 ∧ 10 ≤ b ∧ b ≤ 14) → a ≠ 99 → a ≠ 100 → μ' a b = ν a b) → sx_3 μ' 100 → Q (some (.inl 0)) μ') : am_Does l 155 [.inr (.inr 83), .inl i] ν Q := by
  have hc : 0 ≤ am_ld (am_nx t n p) := by
    by_cases z : 0 ≤ am_ld (am_nx t n p)
    · exact z
    · rw [am_bh_1 (by omega)] at hb; omega
  have hd : am_nx t n p = 119 ∨ am_nx t n p = 114 ∨ am_nx t n p = 109 ∨ am_nx t n p = 115 ∨ am_nx t n p = 103 := by
    unfold am_ld at hc
    repeat' split at hc
    all_goals omega
  rcases hd with h | h | h | h | h
  · exact x_mc_119 t n p i n0 n1 hL p0 p1 hb i0 i1 el td hw h3 h k1 k0
  · exact x_mc_114 t n p i n0 n1 hL p0 p1 hb i0 i1 el td hw h3 h k1 k0
  · exact x_mc_109 t n p i n0 n1 hL p0 p1 hb i0 i1 el td hw h3 h k1 k0
  · exact x_mc_115 t n p i n0 n1 hL p0 p1 hb i0 i1 el td hw h3 h k1 k0
  · exact x_mc_103 t n p i n0 n1 hL p0 p1 hb i0 i1 el td hw h3 h k1 k0
theorem w_has_X0_1 {l : Launch} {μ : am_N} {Q : Option am_V → am_N → Prop} {ν : am_N} (i : Int) (hS : sx ν μ) (k1 : 0 ≤ am_c i → am_c i < μ 1 4 → am_c i < 4 → Q (some (.inl 1)) μ) (k2 : (am_c i < 0 ∨ μ 1 4 ≤ am_c i) → Q (some (.inl 0)) μ) : am_Does l 1 [.inr (.inr 1), .inl i] μ Q := by
  refine am_Does_of (Nat.le_of_ble_eq_true rfl) (Nat.le_of_ble_eq_true rfl) (Nat.le_of_ble_eq_true rfl) ?_
  have hb := sx_all hS
  refine am_go (ct := fun _ => false) am_oX0_has 300 ?_
  conv => whnf
  repeat' first
    | (refine (?_ : am_wp _ _ _ _ _ _ _ _ _ _ _ _); conv => whnf)
    | (refine (?_ : am_sw _ _ _ _); conv => whnf)
    | refine And.intro trivial ?_
    | exact trivial
    | (with_reducible assumption)
    | ((with_reducible refine (?_ : _ ∧ _)); first | (with_reducible first | refine am_jn am_q1 ?_ | refine am_jn am_q2 ?_ | refine am_jn am_q3 ?_ | refine am_jn am_q4 ?_ | refine am_jn am_q6 ?_ | refine am_jn am_q9 ?_ | refine am_jn am_p1 ?_ | refine am_jy am_p0 ?_ | refine am_kn am_q1 ?_ | refine am_kn am_q2 ?_ | refine am_kn am_q3 ?_ | refine am_kn am_q4 ?_ | refine am_kn am_q6 ?_ | refine am_kn am_q9 ?_ | refine am_kn am_p1 ?_ | refine am_ky am_p0 ?_) | refine And.intro (fun h => absurd h (by decide)) (fun _ => ?_) | refine And.intro (fun _ => ?_) (fun h => absurd (by decide) h) | refine And.intro (fun _ => ?_) (fun _ => ?_) | refine And.intro ?_ ?_)
    | refine k1 ?_ ?_ ?_
    | refine k2 ?_
    | refine And.intro (fun h => absurd h (by decide)) (fun _ => ?_)
    | refine And.intro (fun _ => ?_) (fun h => absurd (by decide) h)
    | refine And.intro (fun _ => ?_) (fun _ => ?_)
    | refine And.intro ?_ ?_
  all_goals (first | (with_reducible assumption) | omega | assumption | (simp only [am_c, am_up] at *; omega) | (simp [am_c, am_up] at *; omega))
theorem w_tenthsOver_X0_1 {l : Launch} {μ : am_N} {Q : Option am_V → am_N → Prop} {ν : am_N} (i y s : Int) (hS : sx ν μ)  (k : ∀ r, Q (some (.inl r)) μ) : am_Does l 10 [.inr (.inr 1), .inl i, .inl y, .inl s] μ Q := by
  refine am_Does_of (Nat.le_of_ble_eq_true rfl) (Nat.le_of_ble_eq_true rfl) (Nat.le_of_ble_eq_true rfl) ?_
  have hb := sx_all hS
  have lp177 : ∀ (y4 t5 f6 k7 : Int), 0 ≤ am_c i → am_c i < 4 → am_AW l 0 (fun _ => 0) 10 Q 177 [some (.inr (.inr 1)), some (.inl i), some (.inl y), some (.inl s), some (.inl y4), some (.inl t5), some (.inl f6), some (.inl k7)] [] μ := by
    intro y4 t5 f6 k7  hv0 hv1
    refine am_go (ct := fun pc => Nat.beq pc 177 || Nat.beq pc 164 || Nat.beq pc 136 || Nat.beq pc 121 || Nat.beq pc 86 || Nat.beq pc 49 || Nat.beq pc 26) am_oX0_tenthsOver 300 ?_
    conv => whnf
    repeat' first
      | (refine (?_ : am_wp _ _ _ _ _ _ _ _ _ _ _ _); conv => whnf)
      | (refine (?_ : am_sw _ _ _ _); conv => whnf)
      | refine And.intro trivial ?_
      | exact trivial
      | (with_reducible assumption)
      | ((with_reducible refine (?_ : _ ∧ _)); first | (with_reducible first | refine am_jn am_q1 ?_ | refine am_jn am_q2 ?_ | refine am_jn am_q3 ?_ | refine am_jn am_q4 ?_ | refine am_jn am_q6 ?_ | refine am_jn am_q9 ?_ | refine am_jn am_p1 ?_ | refine am_jy am_p0 ?_ | refine am_kn am_q1 ?_ | refine am_kn am_q2 ?_ | refine am_kn am_q3 ?_ | refine am_kn am_q4 ?_ | refine am_kn am_q6 ?_ | refine am_kn am_q9 ?_ | refine am_kn am_p1 ?_ | refine am_ky am_p0 ?_) | refine And.intro (fun h => absurd h (by decide)) (fun _ => ?_) | refine And.intro (fun _ => ?_) (fun h => absurd (by decide) h) | refine And.intro (fun _ => ?_) (fun _ => ?_) | refine And.intro ?_ ?_)
      | exact k _
      | refine sx_up ?_ rfl
      | refine And.intro (fun h => absurd h (by decide)) (fun _ => ?_)
      | refine And.intro (fun _ => ?_) (fun h => absurd (by decide) h)
      | refine And.intro (fun _ => ?_) (fun _ => ?_)
      | refine And.intro ?_ ?_
    all_goals (first | (with_reducible assumption) | omega | assumption | (simp only [am_c, am_up] at *; omega) | (simp [am_c, am_up] at *; omega))
  have lp164 : ∀ (y4 t5 f6 k7 : Int), 0 ≤ am_c i → am_c i < 4 → am_AW l 0 (fun _ => 0) 10 Q 164 [some (.inr (.inr 1)), some (.inl i), some (.inl y), some (.inl s), some (.inl y4), some (.inl t5), some (.inl f6), some (.inl k7)] [] μ := by
    intro y4 t5 f6 k7  hv0 hv1
    refine am_go (ct := fun pc => Nat.beq pc 177 || Nat.beq pc 164 || Nat.beq pc 136 || Nat.beq pc 121 || Nat.beq pc 86 || Nat.beq pc 49 || Nat.beq pc 26) am_oX0_tenthsOver 300 ?_
    conv => whnf
    repeat' first
      | (refine (?_ : am_wp _ _ _ _ _ _ _ _ _ _ _ _); conv => whnf)
      | (refine (?_ : am_sw _ _ _ _); conv => whnf)
      | refine And.intro trivial ?_
      | exact trivial
      | (with_reducible assumption)
      | ((with_reducible refine (?_ : _ ∧ _)); first | (with_reducible first | refine am_jn am_q1 ?_ | refine am_jn am_q2 ?_ | refine am_jn am_q3 ?_ | refine am_jn am_q4 ?_ | refine am_jn am_q6 ?_ | refine am_jn am_q9 ?_ | refine am_jn am_p1 ?_ | refine am_jy am_p0 ?_ | refine am_kn am_q1 ?_ | refine am_kn am_q2 ?_ | refine am_kn am_q3 ?_ | refine am_kn am_q4 ?_ | refine am_kn am_q6 ?_ | refine am_kn am_q9 ?_ | refine am_kn am_p1 ?_ | refine am_ky am_p0 ?_) | refine And.intro (fun h => absurd h (by decide)) (fun _ => ?_) | refine And.intro (fun _ => ?_) (fun h => absurd (by decide) h) | refine And.intro (fun _ => ?_) (fun _ => ?_) | refine And.intro ?_ ?_)
      | exact k _
      | refine sx_up ?_ rfl
      | ((with_reducible refine (?_ : am_AW _ _ _ _ _ 177 _ _ _)); refine lp177 _ _ _ _  ?_ ?_)
      | refine And.intro (fun h => absurd h (by decide)) (fun _ => ?_)
      | refine And.intro (fun _ => ?_) (fun h => absurd (by decide) h)
      | refine And.intro (fun _ => ?_) (fun _ => ?_)
      | refine And.intro ?_ ?_
    all_goals (first | (with_reducible assumption) | omega | assumption | (simp only [am_c, am_up] at *; omega) | (simp [am_c, am_up] at *; omega))
  have lp136 : ∀ (y4 t5 f6 k7 : Int), 0 ≤ am_c i → am_c i < 4 → am_AW l 0 (fun _ => 0) 10 Q 136 [some (.inr (.inr 1)), some (.inl i), some (.inl y), some (.inl s), some (.inl y4), some (.inl t5), some (.inl f6), some (.inl k7)] [] μ := by
    intro y4 t5 f6 k7  hv0 hv1
    refine am_go (ct := fun pc => Nat.beq pc 177 || Nat.beq pc 164 || Nat.beq pc 136 || Nat.beq pc 121 || Nat.beq pc 86 || Nat.beq pc 49 || Nat.beq pc 26) am_oX0_tenthsOver 300 ?_
    conv => whnf
    repeat' first
      | (refine (?_ : am_wp _ _ _ _ _ _ _ _ _ _ _ _); conv => whnf)
      | (refine (?_ : am_sw _ _ _ _); conv => whnf)
      | refine And.intro trivial ?_
      | exact trivial
      | (with_reducible assumption)
      | ((with_reducible refine (?_ : _ ∧ _)); first | (with_reducible first | refine am_jn am_q1 ?_ | refine am_jn am_q2 ?_ | refine am_jn am_q3 ?_ | refine am_jn am_q4 ?_ | refine am_jn am_q6 ?_ | refine am_jn am_q9 ?_ | refine am_jn am_p1 ?_ | refine am_jy am_p0 ?_ | refine am_kn am_q1 ?_ | refine am_kn am_q2 ?_ | refine am_kn am_q3 ?_ | refine am_kn am_q4 ?_ | refine am_kn am_q6 ?_ | refine am_kn am_q9 ?_ | refine am_kn am_p1 ?_ | refine am_ky am_p0 ?_) | refine And.intro (fun h => absurd h (by decide)) (fun _ => ?_) | refine And.intro (fun _ => ?_) (fun h => absurd (by decide) h) | refine And.intro (fun _ => ?_) (fun _ => ?_) | refine And.intro ?_ ?_)
      | exact k _
      | refine sx_up ?_ rfl
      | ((with_reducible refine (?_ : am_AW _ _ _ _ _ 164 _ _ _)); refine lp164 _ _ _ _  ?_ ?_)
      | ((with_reducible refine (?_ : am_AW _ _ _ _ _ 177 _ _ _)); refine lp177 _ _ _ _  ?_ ?_)
      | refine And.intro (fun h => absurd h (by decide)) (fun _ => ?_)
      | refine And.intro (fun _ => ?_) (fun h => absurd (by decide) h)
      | refine And.intro (fun _ => ?_) (fun _ => ?_)
      | refine And.intro ?_ ?_
    all_goals (first | (with_reducible assumption) | omega | assumption | (simp only [am_c, am_up] at *; omega) | (simp [am_c, am_up] at *; omega))
  have lp121 : ∀ (y4 t5 f6 k7 : Int), 0 ≤ am_c i → am_c i < 4 → am_AW l 0 (fun _ => 0) 10 Q 121 [some (.inr (.inr 1)), some (.inl i), some (.inl y), some (.inl s), some (.inl y4), some (.inl t5), some (.inl f6), some (.inl k7)] [] μ := by
    intro y4 t5 f6 k7  hv0 hv1
    refine am_go (ct := fun pc => Nat.beq pc 177 || Nat.beq pc 164 || Nat.beq pc 136 || Nat.beq pc 121 || Nat.beq pc 86 || Nat.beq pc 49 || Nat.beq pc 26) am_oX0_tenthsOver 300 ?_
    conv => whnf
    repeat' first
      | (refine (?_ : am_wp _ _ _ _ _ _ _ _ _ _ _ _); conv => whnf)
      | (refine (?_ : am_sw _ _ _ _); conv => whnf)
      | refine And.intro trivial ?_
      | exact trivial
      | (with_reducible assumption)
      | ((with_reducible refine (?_ : _ ∧ _)); first | (with_reducible first | refine am_jn am_q1 ?_ | refine am_jn am_q2 ?_ | refine am_jn am_q3 ?_ | refine am_jn am_q4 ?_ | refine am_jn am_q6 ?_ | refine am_jn am_q9 ?_ | refine am_jn am_p1 ?_ | refine am_jy am_p0 ?_ | refine am_kn am_q1 ?_ | refine am_kn am_q2 ?_ | refine am_kn am_q3 ?_ | refine am_kn am_q4 ?_ | refine am_kn am_q6 ?_ | refine am_kn am_q9 ?_ | refine am_kn am_p1 ?_ | refine am_ky am_p0 ?_) | refine And.intro (fun h => absurd h (by decide)) (fun _ => ?_) | refine And.intro (fun _ => ?_) (fun h => absurd (by decide) h) | refine And.intro (fun _ => ?_) (fun _ => ?_) | refine And.intro ?_ ?_)
      | exact k _
      | refine sx_up ?_ rfl
      | ((with_reducible refine (?_ : am_AW _ _ _ _ _ 136 _ _ _)); refine lp136 _ _ _ _  ?_ ?_)
      | ((with_reducible refine (?_ : am_AW _ _ _ _ _ 164 _ _ _)); refine lp164 _ _ _ _  ?_ ?_)
      | ((with_reducible refine (?_ : am_AW _ _ _ _ _ 177 _ _ _)); refine lp177 _ _ _ _  ?_ ?_)
      | refine And.intro (fun h => absurd h (by decide)) (fun _ => ?_)
      | refine And.intro (fun _ => ?_) (fun h => absurd (by decide) h)
      | refine And.intro (fun _ => ?_) (fun _ => ?_)
      | refine And.intro ?_ ?_
    all_goals (first | (with_reducible assumption) | omega | assumption | (simp only [am_c, am_up] at *; omega) | (simp [am_c, am_up] at *; omega))
  have lp86 : ∀ (y4 t5 f6 k7 : Int), 0 ≤ am_c i → am_c i < 4 → am_AW l 0 (fun _ => 0) 10 Q 86 [some (.inr (.inr 1)), some (.inl i), some (.inl y), some (.inl s), some (.inl y4), some (.inl t5), some (.inl f6), some (.inl k7)] [] μ := by
    intro y4 t5 f6 k7  hv0 hv1
    refine am_go (ct := fun pc => Nat.beq pc 177 || Nat.beq pc 164 || Nat.beq pc 136 || Nat.beq pc 121 || Nat.beq pc 86 || Nat.beq pc 49 || Nat.beq pc 26) am_oX0_tenthsOver 300 ?_
    conv => whnf
    repeat' first
      | (refine (?_ : am_wp _ _ _ _ _ _ _ _ _ _ _ _); conv => whnf)
      | (refine (?_ : am_sw _ _ _ _); conv => whnf)
      | refine And.intro trivial ?_
      | exact trivial
      | (with_reducible assumption)
      | ((with_reducible refine (?_ : _ ∧ _)); first | (with_reducible first | refine am_jn am_q1 ?_ | refine am_jn am_q2 ?_ | refine am_jn am_q3 ?_ | refine am_jn am_q4 ?_ | refine am_jn am_q6 ?_ | refine am_jn am_q9 ?_ | refine am_jn am_p1 ?_ | refine am_jy am_p0 ?_ | refine am_kn am_q1 ?_ | refine am_kn am_q2 ?_ | refine am_kn am_q3 ?_ | refine am_kn am_q4 ?_ | refine am_kn am_q6 ?_ | refine am_kn am_q9 ?_ | refine am_kn am_p1 ?_ | refine am_ky am_p0 ?_) | refine And.intro (fun h => absurd h (by decide)) (fun _ => ?_) | refine And.intro (fun _ => ?_) (fun h => absurd (by decide) h) | refine And.intro (fun _ => ?_) (fun _ => ?_) | refine And.intro ?_ ?_)
      | exact k _
      | refine sx_up ?_ rfl
      | ((with_reducible refine (?_ : am_AW _ _ _ _ _ 121 _ _ _)); refine lp121 _ _ _ _  ?_ ?_)
      | ((with_reducible refine (?_ : am_AW _ _ _ _ _ 136 _ _ _)); refine lp136 _ _ _ _  ?_ ?_)
      | ((with_reducible refine (?_ : am_AW _ _ _ _ _ 164 _ _ _)); refine lp164 _ _ _ _  ?_ ?_)
      | ((with_reducible refine (?_ : am_AW _ _ _ _ _ 177 _ _ _)); refine lp177 _ _ _ _  ?_ ?_)
      | refine And.intro (fun h => absurd h (by decide)) (fun _ => ?_)
      | refine And.intro (fun _ => ?_) (fun h => absurd (by decide) h)
      | refine And.intro (fun _ => ?_) (fun _ => ?_)
      | refine And.intro ?_ ?_
    all_goals (first | (with_reducible assumption) | omega | assumption | (simp only [am_c, am_up] at *; omega) | (simp [am_c, am_up] at *; omega))
  have lp49 : ∀ (y4 t5 : Int), 0 ≤ am_c i → am_c i < 4 → am_AW l 0 (fun _ => 0) 10 Q 49 [some (.inr (.inr 1)), some (.inl i), some (.inl y), some (.inl s), some (.inl y4), some (.inl t5), none, none] [] μ := by
    intro y4 t5  hv0 hv1
    refine am_go (ct := fun pc => Nat.beq pc 177 || Nat.beq pc 164 || Nat.beq pc 136 || Nat.beq pc 121 || Nat.beq pc 86 || Nat.beq pc 49 || Nat.beq pc 26) am_oX0_tenthsOver 300 ?_
    conv => whnf
    repeat' first
      | (refine (?_ : am_wp _ _ _ _ _ _ _ _ _ _ _ _); conv => whnf)
      | (refine (?_ : am_sw _ _ _ _); conv => whnf)
      | refine And.intro trivial ?_
      | exact trivial
      | (with_reducible assumption)
      | ((with_reducible refine (?_ : _ ∧ _)); first | (with_reducible first | refine am_jn am_q1 ?_ | refine am_jn am_q2 ?_ | refine am_jn am_q3 ?_ | refine am_jn am_q4 ?_ | refine am_jn am_q6 ?_ | refine am_jn am_q9 ?_ | refine am_jn am_p1 ?_ | refine am_jy am_p0 ?_ | refine am_kn am_q1 ?_ | refine am_kn am_q2 ?_ | refine am_kn am_q3 ?_ | refine am_kn am_q4 ?_ | refine am_kn am_q6 ?_ | refine am_kn am_q9 ?_ | refine am_kn am_p1 ?_ | refine am_ky am_p0 ?_) | refine And.intro (fun h => absurd h (by decide)) (fun _ => ?_) | refine And.intro (fun _ => ?_) (fun h => absurd (by decide) h) | refine And.intro (fun _ => ?_) (fun _ => ?_) | refine And.intro ?_ ?_)
      | exact k _
      | refine sx_up ?_ rfl
      | ((with_reducible refine (?_ : am_AW _ _ _ _ _ 86 _ _ _)); refine lp86 _ _ _ _  ?_ ?_)
      | ((with_reducible refine (?_ : am_AW _ _ _ _ _ 121 _ _ _)); refine lp121 _ _ _ _  ?_ ?_)
      | ((with_reducible refine (?_ : am_AW _ _ _ _ _ 136 _ _ _)); refine lp136 _ _ _ _  ?_ ?_)
      | ((with_reducible refine (?_ : am_AW _ _ _ _ _ 164 _ _ _)); refine lp164 _ _ _ _  ?_ ?_)
      | ((with_reducible refine (?_ : am_AW _ _ _ _ _ 177 _ _ _)); refine lp177 _ _ _ _  ?_ ?_)
      | refine And.intro (fun h => absurd h (by decide)) (fun _ => ?_)
      | refine And.intro (fun _ => ?_) (fun h => absurd (by decide) h)
      | refine And.intro (fun _ => ?_) (fun _ => ?_)
      | refine And.intro ?_ ?_
    all_goals (first | (with_reducible assumption) | omega | assumption | (simp only [am_c, am_up] at *; omega) | (simp [am_c, am_up] at *; omega))
  have lp26 : ∀ (y4 : Int), 0 ≤ am_c i → am_c i < 4 → am_AW l 0 (fun _ => 0) 10 Q 26 [some (.inr (.inr 1)), some (.inl i), some (.inl y), some (.inl s), some (.inl y4), none, none, none] [] μ := by
    intro y4  hv0 hv1
    refine am_go (ct := fun pc => Nat.beq pc 177 || Nat.beq pc 164 || Nat.beq pc 136 || Nat.beq pc 121 || Nat.beq pc 86 || Nat.beq pc 49 || Nat.beq pc 26) am_oX0_tenthsOver 300 ?_
    conv => whnf
    repeat' first
      | (refine (?_ : am_wp _ _ _ _ _ _ _ _ _ _ _ _); conv => whnf)
      | (refine (?_ : am_sw _ _ _ _); conv => whnf)
      | refine And.intro trivial ?_
      | exact trivial
      | (with_reducible assumption)
      | ((with_reducible refine (?_ : _ ∧ _)); first | (with_reducible first | refine am_jn am_q1 ?_ | refine am_jn am_q2 ?_ | refine am_jn am_q3 ?_ | refine am_jn am_q4 ?_ | refine am_jn am_q6 ?_ | refine am_jn am_q9 ?_ | refine am_jn am_p1 ?_ | refine am_jy am_p0 ?_ | refine am_kn am_q1 ?_ | refine am_kn am_q2 ?_ | refine am_kn am_q3 ?_ | refine am_kn am_q4 ?_ | refine am_kn am_q6 ?_ | refine am_kn am_q9 ?_ | refine am_kn am_p1 ?_ | refine am_ky am_p0 ?_) | refine And.intro (fun h => absurd h (by decide)) (fun _ => ?_) | refine And.intro (fun _ => ?_) (fun h => absurd (by decide) h) | refine And.intro (fun _ => ?_) (fun _ => ?_) | refine And.intro ?_ ?_)
      | exact k _
      | refine sx_up ?_ rfl
      | ((with_reducible refine (?_ : am_AW _ _ _ _ _ 49 _ _ _)); refine lp49 _ _  ?_ ?_)
      | ((with_reducible refine (?_ : am_AW _ _ _ _ _ 86 _ _ _)); refine lp86 _ _ _ _  ?_ ?_)
      | ((with_reducible refine (?_ : am_AW _ _ _ _ _ 121 _ _ _)); refine lp121 _ _ _ _  ?_ ?_)
      | ((with_reducible refine (?_ : am_AW _ _ _ _ _ 136 _ _ _)); refine lp136 _ _ _ _  ?_ ?_)
      | ((with_reducible refine (?_ : am_AW _ _ _ _ _ 164 _ _ _)); refine lp164 _ _ _ _  ?_ ?_)
      | ((with_reducible refine (?_ : am_AW _ _ _ _ _ 177 _ _ _)); refine lp177 _ _ _ _  ?_ ?_)
      | refine And.intro (fun h => absurd h (by decide)) (fun _ => ?_)
      | refine And.intro (fun _ => ?_) (fun h => absurd (by decide) h)
      | refine And.intro (fun _ => ?_) (fun _ => ?_)
      | refine And.intro ?_ ?_
    all_goals (first | (with_reducible assumption) | omega | assumption | (simp only [am_c, am_up] at *; omega) | (simp [am_c, am_up] at *; omega))
  refine am_go (ct := fun pc => Nat.beq pc 177 || Nat.beq pc 164 || Nat.beq pc 136 || Nat.beq pc 121 || Nat.beq pc 86 || Nat.beq pc 49 || Nat.beq pc 26) am_oX0_tenthsOver 300 ?_
  conv => whnf
  repeat' first
    | (refine (?_ : am_wp _ _ _ _ _ _ _ _ _ _ _ _); conv => whnf)
    | (refine (?_ : am_sw _ _ _ _); conv => whnf)
    | refine And.intro trivial ?_
    | exact trivial
    | (with_reducible assumption)
    | ((with_reducible refine (?_ : _ ∧ _)); first | (with_reducible first | refine am_jn am_q1 ?_ | refine am_jn am_q2 ?_ | refine am_jn am_q3 ?_ | refine am_jn am_q4 ?_ | refine am_jn am_q6 ?_ | refine am_jn am_q9 ?_ | refine am_jn am_p1 ?_ | refine am_jy am_p0 ?_ | refine am_kn am_q1 ?_ | refine am_kn am_q2 ?_ | refine am_kn am_q3 ?_ | refine am_kn am_q4 ?_ | refine am_kn am_q6 ?_ | refine am_kn am_q9 ?_ | refine am_kn am_p1 ?_ | refine am_ky am_p0 ?_) | refine And.intro (fun h => absurd h (by decide)) (fun _ => ?_) | refine And.intro (fun _ => ?_) (fun h => absurd (by decide) h) | refine And.intro (fun _ => ?_) (fun _ => ?_) | refine And.intro ?_ ?_)
    | exact k _
    | refine sx_up ?_ rfl
    | ((with_reducible refine (?_ : am_AW _ _ _ _ _ 26 _ _ _)); refine lp26 _  ?_ ?_)
    | ((with_reducible refine (?_ : am_AW _ _ _ _ _ 49 _ _ _)); refine lp49 _ _  ?_ ?_)
    | ((with_reducible refine (?_ : am_AW _ _ _ _ _ 86 _ _ _)); refine lp86 _ _ _ _  ?_ ?_)
    | ((with_reducible refine (?_ : am_AW _ _ _ _ _ 121 _ _ _)); refine lp121 _ _ _ _  ?_ ?_)
    | ((with_reducible refine (?_ : am_AW _ _ _ _ _ 136 _ _ _)); refine lp136 _ _ _ _  ?_ ?_)
    | ((with_reducible refine (?_ : am_AW _ _ _ _ _ 164 _ _ _)); refine lp164 _ _ _ _  ?_ ?_)
    | ((with_reducible refine (?_ : am_AW _ _ _ _ _ 177 _ _ _)); refine lp177 _ _ _ _  ?_ ?_)
    | refine And.intro (fun h => absurd h (by decide)) (fun _ => ?_)
    | refine And.intro (fun _ => ?_) (fun h => absurd (by decide) h)
    | refine And.intro (fun _ => ?_) (fun _ => ?_)
    | refine And.intro ?_ ?_
  all_goals (first | (with_reducible assumption) | omega | assumption | (simp only [am_c, am_up] at *; omega) | (simp [am_c, am_up] at *; omega))
theorem w_tenths_X0_1 {l : Launch} {μ : am_N} {Q : Option am_V → am_N → Prop} {ν : am_N} (i : Int) (hS : sx ν μ)  (k : ∀ r, Q (some (.inl r)) μ) : am_Does l 8 [.inr (.inr 1), .inl i] μ Q := by
  refine am_Does_of (Nat.le_of_ble_eq_true rfl) (Nat.le_of_ble_eq_true rfl) (Nat.le_of_ble_eq_true rfl) ?_
  have hb := sx_all hS
  refine am_go (ct := fun _ => false) am_oX0_tenths 300 ?_
  conv => whnf
  repeat' first
    | (refine (?_ : am_wp _ _ _ _ _ _ _ _ _ _ _ _); conv => whnf)
    | (refine (?_ : am_sw _ _ _ _); conv => whnf)
    | refine And.intro trivial ?_
    | exact trivial
    | (with_reducible assumption)
    | ((with_reducible refine (?_ : _ ∧ _)); first | (with_reducible first | refine am_jn am_q1 ?_ | refine am_jn am_q2 ?_ | refine am_jn am_q3 ?_ | refine am_jn am_q4 ?_ | refine am_jn am_q6 ?_ | refine am_jn am_q9 ?_ | refine am_jn am_p1 ?_ | refine am_jy am_p0 ?_ | refine am_kn am_q1 ?_ | refine am_kn am_q2 ?_ | refine am_kn am_q3 ?_ | refine am_kn am_q4 ?_ | refine am_kn am_q6 ?_ | refine am_kn am_q9 ?_ | refine am_kn am_p1 ?_ | refine am_ky am_p0 ?_) | refine And.intro (fun h => absurd h (by decide)) (fun _ => ?_) | refine And.intro (fun _ => ?_) (fun h => absurd (by decide) h) | refine And.intro (fun _ => ?_) (fun _ => ?_) | refine And.intro ?_ ?_)
    | exact k _
    | refine sx_up ?_ rfl
    | ((with_reducible refine (?_ : am_Does _ 10 _ _ _)); refine w_tenthsOver_X0_1 (ν := ν) _ _ _ ?_  (fun _ => ?_))
    | refine And.intro (fun h => absurd h (by decide)) (fun _ => ?_)
    | refine And.intro (fun _ => ?_) (fun h => absurd (by decide) h)
    | refine And.intro (fun _ => ?_) (fun _ => ?_)
    | refine And.intro ?_ ?_
  all_goals (first | (with_reducible assumption) | omega | assumption | (simp only [am_c, am_up] at *; omega) | (simp [am_c, am_up] at *; omega))
theorem w_has_X0_8 {l : Launch} {μ : am_N} {Q : Option am_V → am_N → Prop} {ν : am_N} (i : Int) (hS : sx ν μ) (k1 : 0 ≤ am_c i → am_c i < μ 8 4 → am_c i < 4 → Q (some (.inl 1)) μ) (k2 : (am_c i < 0 ∨ μ 8 4 ≤ am_c i) → Q (some (.inl 0)) μ) : am_Does l 1 [.inr (.inr 8), .inl i] μ Q := by
  refine am_Does_of (Nat.le_of_ble_eq_true rfl) (Nat.le_of_ble_eq_true rfl) (Nat.le_of_ble_eq_true rfl) ?_
  have hb := sx_all hS
  refine am_go (ct := fun _ => false) am_oX0_has 300 ?_
  conv => whnf
  repeat' first
    | (refine (?_ : am_wp _ _ _ _ _ _ _ _ _ _ _ _); conv => whnf)
    | (refine (?_ : am_sw _ _ _ _); conv => whnf)
    | refine And.intro trivial ?_
    | exact trivial
    | (with_reducible assumption)
    | ((with_reducible refine (?_ : _ ∧ _)); first | (with_reducible first | refine am_jn am_q1 ?_ | refine am_jn am_q2 ?_ | refine am_jn am_q3 ?_ | refine am_jn am_q4 ?_ | refine am_jn am_q6 ?_ | refine am_jn am_q9 ?_ | refine am_jn am_p1 ?_ | refine am_jy am_p0 ?_ | refine am_kn am_q1 ?_ | refine am_kn am_q2 ?_ | refine am_kn am_q3 ?_ | refine am_kn am_q4 ?_ | refine am_kn am_q6 ?_ | refine am_kn am_q9 ?_ | refine am_kn am_p1 ?_ | refine am_ky am_p0 ?_) | refine And.intro (fun h => absurd h (by decide)) (fun _ => ?_) | refine And.intro (fun _ => ?_) (fun h => absurd (by decide) h) | refine And.intro (fun _ => ?_) (fun _ => ?_) | refine And.intro ?_ ?_)
    | refine k1 ?_ ?_ ?_
    | refine k2 ?_
    | refine And.intro (fun h => absurd h (by decide)) (fun _ => ?_)
    | refine And.intro (fun _ => ?_) (fun h => absurd (by decide) h)
    | refine And.intro (fun _ => ?_) (fun _ => ?_)
    | refine And.intro ?_ ?_
  all_goals (first | (with_reducible assumption) | omega | assumption | (simp only [am_c, am_up] at *; omega) | (simp [am_c, am_up] at *; omega))
theorem w_tenthsOver_X0_8 {l : Launch} {μ : am_N} {Q : Option am_V → am_N → Prop} {ν : am_N} (i y s : Int) (hS : sx ν μ)  (k : ∀ r, Q (some (.inl r)) μ) : am_Does l 10 [.inr (.inr 8), .inl i, .inl y, .inl s] μ Q := by
  refine am_Does_of (Nat.le_of_ble_eq_true rfl) (Nat.le_of_ble_eq_true rfl) (Nat.le_of_ble_eq_true rfl) ?_
  have hb := sx_all hS
  have lp177 : ∀ (y4 t5 f6 k7 : Int), 0 ≤ am_c i → am_c i < 4 → am_AW l 0 (fun _ => 0) 10 Q 177 [some (.inr (.inr 8)), some (.inl i), some (.inl y), some (.inl s), some (.inl y4), some (.inl t5), some (.inl f6), some (.inl k7)] [] μ := by
    intro y4 t5 f6 k7  hv0 hv1
    refine am_go (ct := fun pc => Nat.beq pc 177 || Nat.beq pc 164 || Nat.beq pc 136 || Nat.beq pc 121 || Nat.beq pc 86 || Nat.beq pc 49 || Nat.beq pc 26) am_oX0_tenthsOver 300 ?_
    conv => whnf
    repeat' first
      | (refine (?_ : am_wp _ _ _ _ _ _ _ _ _ _ _ _); conv => whnf)
      | (refine (?_ : am_sw _ _ _ _); conv => whnf)
      | refine And.intro trivial ?_
      | exact trivial
      | (with_reducible assumption)
      | ((with_reducible refine (?_ : _ ∧ _)); first | (with_reducible first | refine am_jn am_q1 ?_ | refine am_jn am_q2 ?_ | refine am_jn am_q3 ?_ | refine am_jn am_q4 ?_ | refine am_jn am_q6 ?_ | refine am_jn am_q9 ?_ | refine am_jn am_p1 ?_ | refine am_jy am_p0 ?_ | refine am_kn am_q1 ?_ | refine am_kn am_q2 ?_ | refine am_kn am_q3 ?_ | refine am_kn am_q4 ?_ | refine am_kn am_q6 ?_ | refine am_kn am_q9 ?_ | refine am_kn am_p1 ?_ | refine am_ky am_p0 ?_) | refine And.intro (fun h => absurd h (by decide)) (fun _ => ?_) | refine And.intro (fun _ => ?_) (fun h => absurd (by decide) h) | refine And.intro (fun _ => ?_) (fun _ => ?_) | refine And.intro ?_ ?_)
      | exact k _
      | refine sx_up ?_ rfl
      | refine And.intro (fun h => absurd h (by decide)) (fun _ => ?_)
      | refine And.intro (fun _ => ?_) (fun h => absurd (by decide) h)
      | refine And.intro (fun _ => ?_) (fun _ => ?_)
      | refine And.intro ?_ ?_
    all_goals (first | (with_reducible assumption) | omega | assumption | (simp only [am_c, am_up] at *; omega) | (simp [am_c, am_up] at *; omega))
  have lp164 : ∀ (y4 t5 f6 k7 : Int), 0 ≤ am_c i → am_c i < 4 → am_AW l 0 (fun _ => 0) 10 Q 164 [some (.inr (.inr 8)), some (.inl i), some (.inl y), some (.inl s), some (.inl y4), some (.inl t5), some (.inl f6), some (.inl k7)] [] μ := by
    intro y4 t5 f6 k7  hv0 hv1
    refine am_go (ct := fun pc => Nat.beq pc 177 || Nat.beq pc 164 || Nat.beq pc 136 || Nat.beq pc 121 || Nat.beq pc 86 || Nat.beq pc 49 || Nat.beq pc 26) am_oX0_tenthsOver 300 ?_
    conv => whnf
    repeat' first
      | (refine (?_ : am_wp _ _ _ _ _ _ _ _ _ _ _ _); conv => whnf)
      | (refine (?_ : am_sw _ _ _ _); conv => whnf)
      | refine And.intro trivial ?_
      | exact trivial
      | (with_reducible assumption)
      | ((with_reducible refine (?_ : _ ∧ _)); first | (with_reducible first | refine am_jn am_q1 ?_ | refine am_jn am_q2 ?_ | refine am_jn am_q3 ?_ | refine am_jn am_q4 ?_ | refine am_jn am_q6 ?_ | refine am_jn am_q9 ?_ | refine am_jn am_p1 ?_ | refine am_jy am_p0 ?_ | refine am_kn am_q1 ?_ | refine am_kn am_q2 ?_ | refine am_kn am_q3 ?_ | refine am_kn am_q4 ?_ | refine am_kn am_q6 ?_ | refine am_kn am_q9 ?_ | refine am_kn am_p1 ?_ | refine am_ky am_p0 ?_) | refine And.intro (fun h => absurd h (by decide)) (fun _ => ?_) | refine And.intro (fun _ => ?_) (fun h => absurd (by decide) h) | refine And.intro (fun _ => ?_) (fun _ => ?_) | refine And.intro ?_ ?_)
      | exact k _
      | refine sx_up ?_ rfl
      | ((with_reducible refine (?_ : am_AW _ _ _ _ _ 177 _ _ _)); refine lp177 _ _ _ _  ?_ ?_)
      | refine And.intro (fun h => absurd h (by decide)) (fun _ => ?_)
      | refine And.intro (fun _ => ?_) (fun h => absurd (by decide) h)
      | refine And.intro (fun _ => ?_) (fun _ => ?_)
      | refine And.intro ?_ ?_
    all_goals (first | (with_reducible assumption) | omega | assumption | (simp only [am_c, am_up] at *; omega) | (simp [am_c, am_up] at *; omega))
  have lp136 : ∀ (y4 t5 f6 k7 : Int), 0 ≤ am_c i → am_c i < 4 → am_AW l 0 (fun _ => 0) 10 Q 136 [some (.inr (.inr 8)), some (.inl i), some (.inl y), some (.inl s), some (.inl y4), some (.inl t5), some (.inl f6), some (.inl k7)] [] μ := by
    intro y4 t5 f6 k7  hv0 hv1
    refine am_go (ct := fun pc => Nat.beq pc 177 || Nat.beq pc 164 || Nat.beq pc 136 || Nat.beq pc 121 || Nat.beq pc 86 || Nat.beq pc 49 || Nat.beq pc 26) am_oX0_tenthsOver 300 ?_
    conv => whnf
    repeat' first
      | (refine (?_ : am_wp _ _ _ _ _ _ _ _ _ _ _ _); conv => whnf)
      | (refine (?_ : am_sw _ _ _ _); conv => whnf)
      | refine And.intro trivial ?_
      | exact trivial
      | (with_reducible assumption)
      | ((with_reducible refine (?_ : _ ∧ _)); first | (with_reducible first | refine am_jn am_q1 ?_ | refine am_jn am_q2 ?_ | refine am_jn am_q3 ?_ | refine am_jn am_q4 ?_ | refine am_jn am_q6 ?_ | refine am_jn am_q9 ?_ | refine am_jn am_p1 ?_ | refine am_jy am_p0 ?_ | refine am_kn am_q1 ?_ | refine am_kn am_q2 ?_ | refine am_kn am_q3 ?_ | refine am_kn am_q4 ?_ | refine am_kn am_q6 ?_ | refine am_kn am_q9 ?_ | refine am_kn am_p1 ?_ | refine am_ky am_p0 ?_) | refine And.intro (fun h => absurd h (by decide)) (fun _ => ?_) | refine And.intro (fun _ => ?_) (fun h => absurd (by decide) h) | refine And.intro (fun _ => ?_) (fun _ => ?_) | refine And.intro ?_ ?_)
      | exact k _
      | refine sx_up ?_ rfl
      | ((with_reducible refine (?_ : am_AW _ _ _ _ _ 164 _ _ _)); refine lp164 _ _ _ _  ?_ ?_)
      | ((with_reducible refine (?_ : am_AW _ _ _ _ _ 177 _ _ _)); refine lp177 _ _ _ _  ?_ ?_)
      | refine And.intro (fun h => absurd h (by decide)) (fun _ => ?_)
      | refine And.intro (fun _ => ?_) (fun h => absurd (by decide) h)
      | refine And.intro (fun _ => ?_) (fun _ => ?_)
      | refine And.intro ?_ ?_
    all_goals (first | (with_reducible assumption) | omega | assumption | (simp only [am_c, am_up] at *; omega) | (simp [am_c, am_up] at *; omega))
  have lp121 : ∀ (y4 t5 f6 k7 : Int), 0 ≤ am_c i → am_c i < 4 → am_AW l 0 (fun _ => 0) 10 Q 121 [some (.inr (.inr 8)), some (.inl i), some (.inl y), some (.inl s), some (.inl y4), some (.inl t5), some (.inl f6), some (.inl k7)] [] μ := by
    intro y4 t5 f6 k7  hv0 hv1
    refine am_go (ct := fun pc => Nat.beq pc 177 || Nat.beq pc 164 || Nat.beq pc 136 || Nat.beq pc 121 || Nat.beq pc 86 || Nat.beq pc 49 || Nat.beq pc 26) am_oX0_tenthsOver 300 ?_
    conv => whnf
    repeat' first
      | (refine (?_ : am_wp _ _ _ _ _ _ _ _ _ _ _ _); conv => whnf)
      | (refine (?_ : am_sw _ _ _ _); conv => whnf)
      | refine And.intro trivial ?_
      | exact trivial
      | (with_reducible assumption)
      | ((with_reducible refine (?_ : _ ∧ _)); first | (with_reducible first | refine am_jn am_q1 ?_ | refine am_jn am_q2 ?_ | refine am_jn am_q3 ?_ | refine am_jn am_q4 ?_ | refine am_jn am_q6 ?_ | refine am_jn am_q9 ?_ | refine am_jn am_p1 ?_ | refine am_jy am_p0 ?_ | refine am_kn am_q1 ?_ | refine am_kn am_q2 ?_ | refine am_kn am_q3 ?_ | refine am_kn am_q4 ?_ | refine am_kn am_q6 ?_ | refine am_kn am_q9 ?_ | refine am_kn am_p1 ?_ | refine am_ky am_p0 ?_) | refine And.intro (fun h => absurd h (by decide)) (fun _ => ?_) | refine And.intro (fun _ => ?_) (fun h => absurd (by decide) h) | refine And.intro (fun _ => ?_) (fun _ => ?_) | refine And.intro ?_ ?_)
      | exact k _
      | refine sx_up ?_ rfl
      | ((with_reducible refine (?_ : am_AW _ _ _ _ _ 136 _ _ _)); refine lp136 _ _ _ _  ?_ ?_)
      | ((with_reducible refine (?_ : am_AW _ _ _ _ _ 164 _ _ _)); refine lp164 _ _ _ _  ?_ ?_)
      | ((with_reducible refine (?_ : am_AW _ _ _ _ _ 177 _ _ _)); refine lp177 _ _ _ _  ?_ ?_)
      | refine And.intro (fun h => absurd h (by decide)) (fun _ => ?_)
      | refine And.intro (fun _ => ?_) (fun h => absurd (by decide) h)
      | refine And.intro (fun _ => ?_) (fun _ => ?_)
      | refine And.intro ?_ ?_
    all_goals (first | (with_reducible assumption) | omega | assumption | (simp only [am_c, am_up] at *; omega) | (simp [am_c, am_up] at *; omega))
  have lp86 : ∀ (y4 t5 f6 k7 : Int), 0 ≤ am_c i → am_c i < 4 → am_AW l 0 (fun _ => 0) 10 Q 86 [some (.inr (.inr 8)), some (.inl i), some (.inl y), some (.inl s), some (.inl y4), some (.inl t5), some (.inl f6), some (.inl k7)] [] μ := by
    intro y4 t5 f6 k7  hv0 hv1
    refine am_go (ct := fun pc => Nat.beq pc 177 || Nat.beq pc 164 || Nat.beq pc 136 || Nat.beq pc 121 || Nat.beq pc 86 || Nat.beq pc 49 || Nat.beq pc 26) am_oX0_tenthsOver 300 ?_
    conv => whnf
    repeat' first
      | (refine (?_ : am_wp _ _ _ _ _ _ _ _ _ _ _ _); conv => whnf)
      | (refine (?_ : am_sw _ _ _ _); conv => whnf)
      | refine And.intro trivial ?_
      | exact trivial
      | (with_reducible assumption)
      | ((with_reducible refine (?_ : _ ∧ _)); first | (with_reducible first | refine am_jn am_q1 ?_ | refine am_jn am_q2 ?_ | refine am_jn am_q3 ?_ | refine am_jn am_q4 ?_ | refine am_jn am_q6 ?_ | refine am_jn am_q9 ?_ | refine am_jn am_p1 ?_ | refine am_jy am_p0 ?_ | refine am_kn am_q1 ?_ | refine am_kn am_q2 ?_ | refine am_kn am_q3 ?_ | refine am_kn am_q4 ?_ | refine am_kn am_q6 ?_ | refine am_kn am_q9 ?_ | refine am_kn am_p1 ?_ | refine am_ky am_p0 ?_) | refine And.intro (fun h => absurd h (by decide)) (fun _ => ?_) | refine And.intro (fun _ => ?_) (fun h => absurd (by decide) h) | refine And.intro (fun _ => ?_) (fun _ => ?_) | refine And.intro ?_ ?_)
      | exact k _
      | refine sx_up ?_ rfl
      | ((with_reducible refine (?_ : am_AW _ _ _ _ _ 121 _ _ _)); refine lp121 _ _ _ _  ?_ ?_)
      | ((with_reducible refine (?_ : am_AW _ _ _ _ _ 136 _ _ _)); refine lp136 _ _ _ _  ?_ ?_)
      | ((with_reducible refine (?_ : am_AW _ _ _ _ _ 164 _ _ _)); refine lp164 _ _ _ _  ?_ ?_)
      | ((with_reducible refine (?_ : am_AW _ _ _ _ _ 177 _ _ _)); refine lp177 _ _ _ _  ?_ ?_)
      | refine And.intro (fun h => absurd h (by decide)) (fun _ => ?_)
      | refine And.intro (fun _ => ?_) (fun h => absurd (by decide) h)
      | refine And.intro (fun _ => ?_) (fun _ => ?_)
      | refine And.intro ?_ ?_
    all_goals (first | (with_reducible assumption) | omega | assumption | (simp only [am_c, am_up] at *; omega) | (simp [am_c, am_up] at *; omega))
  have lp49 : ∀ (y4 t5 : Int), 0 ≤ am_c i → am_c i < 4 → am_AW l 0 (fun _ => 0) 10 Q 49 [some (.inr (.inr 8)), some (.inl i), some (.inl y), some (.inl s), some (.inl y4), some (.inl t5), none, none] [] μ := by
    intro y4 t5  hv0 hv1
    refine am_go (ct := fun pc => Nat.beq pc 177 || Nat.beq pc 164 || Nat.beq pc 136 || Nat.beq pc 121 || Nat.beq pc 86 || Nat.beq pc 49 || Nat.beq pc 26) am_oX0_tenthsOver 300 ?_
    conv => whnf
    repeat' first
      | (refine (?_ : am_wp _ _ _ _ _ _ _ _ _ _ _ _); conv => whnf)
      | (refine (?_ : am_sw _ _ _ _); conv => whnf)
      | refine And.intro trivial ?_
      | exact trivial
      | (with_reducible assumption)
      | ((with_reducible refine (?_ : _ ∧ _)); first | (with_reducible first | refine am_jn am_q1 ?_ | refine am_jn am_q2 ?_ | refine am_jn am_q3 ?_ | refine am_jn am_q4 ?_ | refine am_jn am_q6 ?_ | refine am_jn am_q9 ?_ | refine am_jn am_p1 ?_ | refine am_jy am_p0 ?_ | refine am_kn am_q1 ?_ | refine am_kn am_q2 ?_ | refine am_kn am_q3 ?_ | refine am_kn am_q4 ?_ | refine am_kn am_q6 ?_ | refine am_kn am_q9 ?_ | refine am_kn am_p1 ?_ | refine am_ky am_p0 ?_) | refine And.intro (fun h => absurd h (by decide)) (fun _ => ?_) | refine And.intro (fun _ => ?_) (fun h => absurd (by decide) h) | refine And.intro (fun _ => ?_) (fun _ => ?_) | refine And.intro ?_ ?_)
      | exact k _
      | refine sx_up ?_ rfl
      | ((with_reducible refine (?_ : am_AW _ _ _ _ _ 86 _ _ _)); refine lp86 _ _ _ _  ?_ ?_)
      | ((with_reducible refine (?_ : am_AW _ _ _ _ _ 121 _ _ _)); refine lp121 _ _ _ _  ?_ ?_)
      | ((with_reducible refine (?_ : am_AW _ _ _ _ _ 136 _ _ _)); refine lp136 _ _ _ _  ?_ ?_)
      | ((with_reducible refine (?_ : am_AW _ _ _ _ _ 164 _ _ _)); refine lp164 _ _ _ _  ?_ ?_)
      | ((with_reducible refine (?_ : am_AW _ _ _ _ _ 177 _ _ _)); refine lp177 _ _ _ _  ?_ ?_)
      | refine And.intro (fun h => absurd h (by decide)) (fun _ => ?_)
      | refine And.intro (fun _ => ?_) (fun h => absurd (by decide) h)
      | refine And.intro (fun _ => ?_) (fun _ => ?_)
      | refine And.intro ?_ ?_
    all_goals (first | (with_reducible assumption) | omega | assumption | (simp only [am_c, am_up] at *; omega) | (simp [am_c, am_up] at *; omega))
  have lp26 : ∀ (y4 : Int), 0 ≤ am_c i → am_c i < 4 → am_AW l 0 (fun _ => 0) 10 Q 26 [some (.inr (.inr 8)), some (.inl i), some (.inl y), some (.inl s), some (.inl y4), none, none, none] [] μ := by
    intro y4  hv0 hv1
    refine am_go (ct := fun pc => Nat.beq pc 177 || Nat.beq pc 164 || Nat.beq pc 136 || Nat.beq pc 121 || Nat.beq pc 86 || Nat.beq pc 49 || Nat.beq pc 26) am_oX0_tenthsOver 300 ?_
    conv => whnf
    repeat' first
      | (refine (?_ : am_wp _ _ _ _ _ _ _ _ _ _ _ _); conv => whnf)
      | (refine (?_ : am_sw _ _ _ _); conv => whnf)
      | refine And.intro trivial ?_
      | exact trivial
      | (with_reducible assumption)
      | ((with_reducible refine (?_ : _ ∧ _)); first | (with_reducible first | refine am_jn am_q1 ?_ | refine am_jn am_q2 ?_ | refine am_jn am_q3 ?_ | refine am_jn am_q4 ?_ | refine am_jn am_q6 ?_ | refine am_jn am_q9 ?_ | refine am_jn am_p1 ?_ | refine am_jy am_p0 ?_ | refine am_kn am_q1 ?_ | refine am_kn am_q2 ?_ | refine am_kn am_q3 ?_ | refine am_kn am_q4 ?_ | refine am_kn am_q6 ?_ | refine am_kn am_q9 ?_ | refine am_kn am_p1 ?_ | refine am_ky am_p0 ?_) | refine And.intro (fun h => absurd h (by decide)) (fun _ => ?_) | refine And.intro (fun _ => ?_) (fun h => absurd (by decide) h) | refine And.intro (fun _ => ?_) (fun _ => ?_) | refine And.intro ?_ ?_)
      | exact k _
      | refine sx_up ?_ rfl
      | ((with_reducible refine (?_ : am_AW _ _ _ _ _ 49 _ _ _)); refine lp49 _ _  ?_ ?_)
      | ((with_reducible refine (?_ : am_AW _ _ _ _ _ 86 _ _ _)); refine lp86 _ _ _ _  ?_ ?_)
      | ((with_reducible refine (?_ : am_AW _ _ _ _ _ 121 _ _ _)); refine lp121 _ _ _ _  ?_ ?_)
      | ((with_reducible refine (?_ : am_AW _ _ _ _ _ 136 _ _ _)); refine lp136 _ _ _ _  ?_ ?_)
      | ((with_reducible refine (?_ : am_AW _ _ _ _ _ 164 _ _ _)); refine lp164 _ _ _ _  ?_ ?_)
      | ((with_reducible refine (?_ : am_AW _ _ _ _ _ 177 _ _ _)); refine lp177 _ _ _ _  ?_ ?_)
      | refine And.intro (fun h => absurd h (by decide)) (fun _ => ?_)
      | refine And.intro (fun _ => ?_) (fun h => absurd (by decide) h)
      | refine And.intro (fun _ => ?_) (fun _ => ?_)
      | refine And.intro ?_ ?_
    all_goals (first | (with_reducible assumption) | omega | assumption | (simp only [am_c, am_up] at *; omega) | (simp [am_c, am_up] at *; omega))
  refine am_go (ct := fun pc => Nat.beq pc 177 || Nat.beq pc 164 || Nat.beq pc 136 || Nat.beq pc 121 || Nat.beq pc 86 || Nat.beq pc 49 || Nat.beq pc 26) am_oX0_tenthsOver 300 ?_
  conv => whnf
  repeat' first
    | (refine (?_ : am_wp _ _ _ _ _ _ _ _ _ _ _ _); conv => whnf)
    | (refine (?_ : am_sw _ _ _ _); conv => whnf)
    | refine And.intro trivial ?_
    | exact trivial
    | (with_reducible assumption)
    | ((with_reducible refine (?_ : _ ∧ _)); first | (with_reducible first | refine am_jn am_q1 ?_ | refine am_jn am_q2 ?_ | refine am_jn am_q3 ?_ | refine am_jn am_q4 ?_ | refine am_jn am_q6 ?_ | refine am_jn am_q9 ?_ | refine am_jn am_p1 ?_ | refine am_jy am_p0 ?_ | refine am_kn am_q1 ?_ | refine am_kn am_q2 ?_ | refine am_kn am_q3 ?_ | refine am_kn am_q4 ?_ | refine am_kn am_q6 ?_ | refine am_kn am_q9 ?_ | refine am_kn am_p1 ?_ | refine am_ky am_p0 ?_) | refine And.intro (fun h => absurd h (by decide)) (fun _ => ?_) | refine And.intro (fun _ => ?_) (fun h => absurd (by decide) h) | refine And.intro (fun _ => ?_) (fun _ => ?_) | refine And.intro ?_ ?_)
    | exact k _
    | refine sx_up ?_ rfl
    | ((with_reducible refine (?_ : am_AW _ _ _ _ _ 26 _ _ _)); refine lp26 _  ?_ ?_)
    | ((with_reducible refine (?_ : am_AW _ _ _ _ _ 49 _ _ _)); refine lp49 _ _  ?_ ?_)
    | ((with_reducible refine (?_ : am_AW _ _ _ _ _ 86 _ _ _)); refine lp86 _ _ _ _  ?_ ?_)
    | ((with_reducible refine (?_ : am_AW _ _ _ _ _ 121 _ _ _)); refine lp121 _ _ _ _  ?_ ?_)
    | ((with_reducible refine (?_ : am_AW _ _ _ _ _ 136 _ _ _)); refine lp136 _ _ _ _  ?_ ?_)
    | ((with_reducible refine (?_ : am_AW _ _ _ _ _ 164 _ _ _)); refine lp164 _ _ _ _  ?_ ?_)
    | ((with_reducible refine (?_ : am_AW _ _ _ _ _ 177 _ _ _)); refine lp177 _ _ _ _  ?_ ?_)
    | refine And.intro (fun h => absurd h (by decide)) (fun _ => ?_)
    | refine And.intro (fun _ => ?_) (fun h => absurd (by decide) h)
    | refine And.intro (fun _ => ?_) (fun _ => ?_)
    | refine And.intro ?_ ?_
  all_goals (first | (with_reducible assumption) | omega | assumption | (simp only [am_c, am_up] at *; omega) | (simp [am_c, am_up] at *; omega))
theorem w_tenths_X0_8 {l : Launch} {μ : am_N} {Q : Option am_V → am_N → Prop} {ν : am_N} (i : Int) (hS : sx ν μ)  (k : ∀ r, Q (some (.inl r)) μ) : am_Does l 8 [.inr (.inr 8), .inl i] μ Q := by
  refine am_Does_of (Nat.le_of_ble_eq_true rfl) (Nat.le_of_ble_eq_true rfl) (Nat.le_of_ble_eq_true rfl) ?_
  have hb := sx_all hS
  refine am_go (ct := fun _ => false) am_oX0_tenths 300 ?_
  conv => whnf
  repeat' first
    | (refine (?_ : am_wp _ _ _ _ _ _ _ _ _ _ _ _); conv => whnf)
    | (refine (?_ : am_sw _ _ _ _); conv => whnf)
    | refine And.intro trivial ?_
    | exact trivial
    | (with_reducible assumption)
    | ((with_reducible refine (?_ : _ ∧ _)); first | (with_reducible first | refine am_jn am_q1 ?_ | refine am_jn am_q2 ?_ | refine am_jn am_q3 ?_ | refine am_jn am_q4 ?_ | refine am_jn am_q6 ?_ | refine am_jn am_q9 ?_ | refine am_jn am_p1 ?_ | refine am_jy am_p0 ?_ | refine am_kn am_q1 ?_ | refine am_kn am_q2 ?_ | refine am_kn am_q3 ?_ | refine am_kn am_q4 ?_ | refine am_kn am_q6 ?_ | refine am_kn am_q9 ?_ | refine am_kn am_p1 ?_ | refine am_ky am_p0 ?_) | refine And.intro (fun h => absurd h (by decide)) (fun _ => ?_) | refine And.intro (fun _ => ?_) (fun h => absurd (by decide) h) | refine And.intro (fun _ => ?_) (fun _ => ?_) | refine And.intro ?_ ?_)
    | exact k _
    | refine sx_up ?_ rfl
    | ((with_reducible refine (?_ : am_Does _ 10 _ _ _)); first | ((with_reducible refine (?_ : am_Does _ 10 (Sum.inr (Sum.inr 1) :: _) _ _)); refine w_tenthsOver_X0_1 (ν := ν) _ _ _ ?_  (fun _ => ?_)) | ((with_reducible refine (?_ : am_Does _ 10 (Sum.inr (Sum.inr 8) :: _) _ _)); refine w_tenthsOver_X0_8 (ν := ν) _ _ _ ?_  (fun _ => ?_)) | refine w_tenthsOver_X0_1 (ν := ν) _ _ _ ?_  (fun _ => ?_) | refine w_tenthsOver_X0_8 (ν := ν) _ _ _ ?_  (fun _ => ?_))
    | refine And.intro (fun h => absurd h (by decide)) (fun _ => ?_)
    | refine And.intro (fun _ => ?_) (fun h => absurd (by decide) h)
    | refine And.intro (fun _ => ?_) (fun _ => ?_)
    | refine And.intro ?_ ?_
  all_goals (first | (with_reducible assumption) | omega | assumption | (simp only [am_c, am_up] at *; omega) | (simp [am_c, am_up] at *; omega))
theorem w_has_X0_15 {l : Launch} {μ : am_N} {Q : Option am_V → am_N → Prop} {ν : am_N} (i : Int) (hS : sx ν μ) (k1 : 0 ≤ am_c i → am_c i < μ 15 4 → am_c i < 4 → Q (some (.inl 1)) μ) (k2 : (am_c i < 0 ∨ μ 15 4 ≤ am_c i) → Q (some (.inl 0)) μ) : am_Does l 1 [.inr (.inr 15), .inl i] μ Q := by
  refine am_Does_of (Nat.le_of_ble_eq_true rfl) (Nat.le_of_ble_eq_true rfl) (Nat.le_of_ble_eq_true rfl) ?_
  have hb := sx_all hS
  refine am_go (ct := fun _ => false) am_oX0_has 300 ?_
  conv => whnf
  repeat' first
    | (refine (?_ : am_wp _ _ _ _ _ _ _ _ _ _ _ _); conv => whnf)
    | (refine (?_ : am_sw _ _ _ _); conv => whnf)
    | refine And.intro trivial ?_
    | exact trivial
    | (with_reducible assumption)
    | ((with_reducible refine (?_ : _ ∧ _)); first | (with_reducible first | refine am_jn am_q1 ?_ | refine am_jn am_q2 ?_ | refine am_jn am_q3 ?_ | refine am_jn am_q4 ?_ | refine am_jn am_q6 ?_ | refine am_jn am_q9 ?_ | refine am_jn am_p1 ?_ | refine am_jy am_p0 ?_ | refine am_kn am_q1 ?_ | refine am_kn am_q2 ?_ | refine am_kn am_q3 ?_ | refine am_kn am_q4 ?_ | refine am_kn am_q6 ?_ | refine am_kn am_q9 ?_ | refine am_kn am_p1 ?_ | refine am_ky am_p0 ?_) | refine And.intro (fun h => absurd h (by decide)) (fun _ => ?_) | refine And.intro (fun _ => ?_) (fun h => absurd (by decide) h) | refine And.intro (fun _ => ?_) (fun _ => ?_) | refine And.intro ?_ ?_)
    | refine k1 ?_ ?_ ?_
    | refine k2 ?_
    | refine And.intro (fun h => absurd h (by decide)) (fun _ => ?_)
    | refine And.intro (fun _ => ?_) (fun h => absurd (by decide) h)
    | refine And.intro (fun _ => ?_) (fun _ => ?_)
    | refine And.intro ?_ ?_
  all_goals (first | (with_reducible assumption) | omega | assumption | (simp only [am_c, am_up] at *; omega) | (simp [am_c, am_up] at *; omega))
theorem w_tenthsOver_X0_15 {l : Launch} {μ : am_N} {Q : Option am_V → am_N → Prop} {ν : am_N} (i y s : Int) (hS : sx ν μ)  (k : ∀ r, Q (some (.inl r)) μ) : am_Does l 10 [.inr (.inr 15), .inl i, .inl y, .inl s] μ Q := by
  refine am_Does_of (Nat.le_of_ble_eq_true rfl) (Nat.le_of_ble_eq_true rfl) (Nat.le_of_ble_eq_true rfl) ?_
  have hb := sx_all hS
  have lp177 : ∀ (y4 t5 f6 k7 : Int), 0 ≤ am_c i → am_c i < 4 → am_AW l 0 (fun _ => 0) 10 Q 177 [some (.inr (.inr 15)), some (.inl i), some (.inl y), some (.inl s), some (.inl y4), some (.inl t5), some (.inl f6), some (.inl k7)] [] μ := by
    intro y4 t5 f6 k7  hv0 hv1
    refine am_go (ct := fun pc => Nat.beq pc 177 || Nat.beq pc 164 || Nat.beq pc 136 || Nat.beq pc 121 || Nat.beq pc 86 || Nat.beq pc 49 || Nat.beq pc 26) am_oX0_tenthsOver 300 ?_
    conv => whnf
    repeat' first
      | (refine (?_ : am_wp _ _ _ _ _ _ _ _ _ _ _ _); conv => whnf)
      | (refine (?_ : am_sw _ _ _ _); conv => whnf)
      | refine And.intro trivial ?_
      | exact trivial
      | (with_reducible assumption)
      | ((with_reducible refine (?_ : _ ∧ _)); first | (with_reducible first | refine am_jn am_q1 ?_ | refine am_jn am_q2 ?_ | refine am_jn am_q3 ?_ | refine am_jn am_q4 ?_ | refine am_jn am_q6 ?_ | refine am_jn am_q9 ?_ | refine am_jn am_p1 ?_ | refine am_jy am_p0 ?_ | refine am_kn am_q1 ?_ | refine am_kn am_q2 ?_ | refine am_kn am_q3 ?_ | refine am_kn am_q4 ?_ | refine am_kn am_q6 ?_ | refine am_kn am_q9 ?_ | refine am_kn am_p1 ?_ | refine am_ky am_p0 ?_) | refine And.intro (fun h => absurd h (by decide)) (fun _ => ?_) | refine And.intro (fun _ => ?_) (fun h => absurd (by decide) h) | refine And.intro (fun _ => ?_) (fun _ => ?_) | refine And.intro ?_ ?_)
      | exact k _
      | refine sx_up ?_ rfl
      | refine And.intro (fun h => absurd h (by decide)) (fun _ => ?_)
      | refine And.intro (fun _ => ?_) (fun h => absurd (by decide) h)
      | refine And.intro (fun _ => ?_) (fun _ => ?_)
      | refine And.intro ?_ ?_
    all_goals (first | (with_reducible assumption) | omega | assumption | (simp only [am_c, am_up] at *; omega) | (simp [am_c, am_up] at *; omega))
  have lp164 : ∀ (y4 t5 f6 k7 : Int), 0 ≤ am_c i → am_c i < 4 → am_AW l 0 (fun _ => 0) 10 Q 164 [some (.inr (.inr 15)), some (.inl i), some (.inl y), some (.inl s), some (.inl y4), some (.inl t5), some (.inl f6), some (.inl k7)] [] μ := by
    intro y4 t5 f6 k7  hv0 hv1
    refine am_go (ct := fun pc => Nat.beq pc 177 || Nat.beq pc 164 || Nat.beq pc 136 || Nat.beq pc 121 || Nat.beq pc 86 || Nat.beq pc 49 || Nat.beq pc 26) am_oX0_tenthsOver 300 ?_
    conv => whnf
    repeat' first
      | (refine (?_ : am_wp _ _ _ _ _ _ _ _ _ _ _ _); conv => whnf)
      | (refine (?_ : am_sw _ _ _ _); conv => whnf)
      | refine And.intro trivial ?_
      | exact trivial
      | (with_reducible assumption)
      | ((with_reducible refine (?_ : _ ∧ _)); first | (with_reducible first | refine am_jn am_q1 ?_ | refine am_jn am_q2 ?_ | refine am_jn am_q3 ?_ | refine am_jn am_q4 ?_ | refine am_jn am_q6 ?_ | refine am_jn am_q9 ?_ | refine am_jn am_p1 ?_ | refine am_jy am_p0 ?_ | refine am_kn am_q1 ?_ | refine am_kn am_q2 ?_ | refine am_kn am_q3 ?_ | refine am_kn am_q4 ?_ | refine am_kn am_q6 ?_ | refine am_kn am_q9 ?_ | refine am_kn am_p1 ?_ | refine am_ky am_p0 ?_) | refine And.intro (fun h => absurd h (by decide)) (fun _ => ?_) | refine And.intro (fun _ => ?_) (fun h => absurd (by decide) h) | refine And.intro (fun _ => ?_) (fun _ => ?_) | refine And.intro ?_ ?_)
      | exact k _
      | refine sx_up ?_ rfl
      | ((with_reducible refine (?_ : am_AW _ _ _ _ _ 177 _ _ _)); refine lp177 _ _ _ _  ?_ ?_)
      | refine And.intro (fun h => absurd h (by decide)) (fun _ => ?_)
      | refine And.intro (fun _ => ?_) (fun h => absurd (by decide) h)
      | refine And.intro (fun _ => ?_) (fun _ => ?_)
      | refine And.intro ?_ ?_
    all_goals (first | (with_reducible assumption) | omega | assumption | (simp only [am_c, am_up] at *; omega) | (simp [am_c, am_up] at *; omega))
  have lp136 : ∀ (y4 t5 f6 k7 : Int), 0 ≤ am_c i → am_c i < 4 → am_AW l 0 (fun _ => 0) 10 Q 136 [some (.inr (.inr 15)), some (.inl i), some (.inl y), some (.inl s), some (.inl y4), some (.inl t5), some (.inl f6), some (.inl k7)] [] μ := by
    intro y4 t5 f6 k7  hv0 hv1
    refine am_go (ct := fun pc => Nat.beq pc 177 || Nat.beq pc 164 || Nat.beq pc 136 || Nat.beq pc 121 || Nat.beq pc 86 || Nat.beq pc 49 || Nat.beq pc 26) am_oX0_tenthsOver 300 ?_
    conv => whnf
    repeat' first
      | (refine (?_ : am_wp _ _ _ _ _ _ _ _ _ _ _ _); conv => whnf)
      | (refine (?_ : am_sw _ _ _ _); conv => whnf)
      | refine And.intro trivial ?_
      | exact trivial
      | (with_reducible assumption)
      | ((with_reducible refine (?_ : _ ∧ _)); first | (with_reducible first | refine am_jn am_q1 ?_ | refine am_jn am_q2 ?_ | refine am_jn am_q3 ?_ | refine am_jn am_q4 ?_ | refine am_jn am_q6 ?_ | refine am_jn am_q9 ?_ | refine am_jn am_p1 ?_ | refine am_jy am_p0 ?_ | refine am_kn am_q1 ?_ | refine am_kn am_q2 ?_ | refine am_kn am_q3 ?_ | refine am_kn am_q4 ?_ | refine am_kn am_q6 ?_ | refine am_kn am_q9 ?_ | refine am_kn am_p1 ?_ | refine am_ky am_p0 ?_) | refine And.intro (fun h => absurd h (by decide)) (fun _ => ?_) | refine And.intro (fun _ => ?_) (fun h => absurd (by decide) h) | refine And.intro (fun _ => ?_) (fun _ => ?_) | refine And.intro ?_ ?_)
      | exact k _
      | refine sx_up ?_ rfl
      | ((with_reducible refine (?_ : am_AW _ _ _ _ _ 164 _ _ _)); refine lp164 _ _ _ _  ?_ ?_)
      | ((with_reducible refine (?_ : am_AW _ _ _ _ _ 177 _ _ _)); refine lp177 _ _ _ _  ?_ ?_)
      | refine And.intro (fun h => absurd h (by decide)) (fun _ => ?_)
      | refine And.intro (fun _ => ?_) (fun h => absurd (by decide) h)
      | refine And.intro (fun _ => ?_) (fun _ => ?_)
      | refine And.intro ?_ ?_
    all_goals (first | (with_reducible assumption) | omega | assumption | (simp only [am_c, am_up] at *; omega) | (simp [am_c, am_up] at *; omega))
  have lp121 : ∀ (y4 t5 f6 k7 : Int), 0 ≤ am_c i → am_c i < 4 → am_AW l 0 (fun _ => 0) 10 Q 121 [some (.inr (.inr 15)), some (.inl i), some (.inl y), some (.inl s), some (.inl y4), some (.inl t5), some (.inl f6), some (.inl k7)] [] μ := by
    intro y4 t5 f6 k7  hv0 hv1
    refine am_go (ct := fun pc => Nat.beq pc 177 || Nat.beq pc 164 || Nat.beq pc 136 || Nat.beq pc 121 || Nat.beq pc 86 || Nat.beq pc 49 || Nat.beq pc 26) am_oX0_tenthsOver 300 ?_
    conv => whnf
    repeat' first
      | (refine (?_ : am_wp _ _ _ _ _ _ _ _ _ _ _ _); conv => whnf)
      | (refine (?_ : am_sw _ _ _ _); conv => whnf)
      | refine And.intro trivial ?_
      | exact trivial
      | (with_reducible assumption)
      | ((with_reducible refine (?_ : _ ∧ _)); first | (with_reducible first | refine am_jn am_q1 ?_ | refine am_jn am_q2 ?_ | refine am_jn am_q3 ?_ | refine am_jn am_q4 ?_ | refine am_jn am_q6 ?_ | refine am_jn am_q9 ?_ | refine am_jn am_p1 ?_ | refine am_jy am_p0 ?_ | refine am_kn am_q1 ?_ | refine am_kn am_q2 ?_ | refine am_kn am_q3 ?_ | refine am_kn am_q4 ?_ | refine am_kn am_q6 ?_ | refine am_kn am_q9 ?_ | refine am_kn am_p1 ?_ | refine am_ky am_p0 ?_) | refine And.intro (fun h => absurd h (by decide)) (fun _ => ?_) | refine And.intro (fun _ => ?_) (fun h => absurd (by decide) h) | refine And.intro (fun _ => ?_) (fun _ => ?_) | refine And.intro ?_ ?_)
      | exact k _
      | refine sx_up ?_ rfl
      | ((with_reducible refine (?_ : am_AW _ _ _ _ _ 136 _ _ _)); refine lp136 _ _ _ _  ?_ ?_)
      | ((with_reducible refine (?_ : am_AW _ _ _ _ _ 164 _ _ _)); refine lp164 _ _ _ _  ?_ ?_)
      | ((with_reducible refine (?_ : am_AW _ _ _ _ _ 177 _ _ _)); refine lp177 _ _ _ _  ?_ ?_)
      | refine And.intro (fun h => absurd h (by decide)) (fun _ => ?_)
      | refine And.intro (fun _ => ?_) (fun h => absurd (by decide) h)
      | refine And.intro (fun _ => ?_) (fun _ => ?_)
      | refine And.intro ?_ ?_
    all_goals (first | (with_reducible assumption) | omega | assumption | (simp only [am_c, am_up] at *; omega) | (simp [am_c, am_up] at *; omega))
  have lp86 : ∀ (y4 t5 f6 k7 : Int), 0 ≤ am_c i → am_c i < 4 → am_AW l 0 (fun _ => 0) 10 Q 86 [some (.inr (.inr 15)), some (.inl i), some (.inl y), some (.inl s), some (.inl y4), some (.inl t5), some (.inl f6), some (.inl k7)] [] μ := by
    intro y4 t5 f6 k7  hv0 hv1
    refine am_go (ct := fun pc => Nat.beq pc 177 || Nat.beq pc 164 || Nat.beq pc 136 || Nat.beq pc 121 || Nat.beq pc 86 || Nat.beq pc 49 || Nat.beq pc 26) am_oX0_tenthsOver 300 ?_
    conv => whnf
    repeat' first
      | (refine (?_ : am_wp _ _ _ _ _ _ _ _ _ _ _ _); conv => whnf)
      | (refine (?_ : am_sw _ _ _ _); conv => whnf)
      | refine And.intro trivial ?_
      | exact trivial
      | (with_reducible assumption)
      | ((with_reducible refine (?_ : _ ∧ _)); first | (with_reducible first | refine am_jn am_q1 ?_ | refine am_jn am_q2 ?_ | refine am_jn am_q3 ?_ | refine am_jn am_q4 ?_ | refine am_jn am_q6 ?_ | refine am_jn am_q9 ?_ | refine am_jn am_p1 ?_ | refine am_jy am_p0 ?_ | refine am_kn am_q1 ?_ | refine am_kn am_q2 ?_ | refine am_kn am_q3 ?_ | refine am_kn am_q4 ?_ | refine am_kn am_q6 ?_ | refine am_kn am_q9 ?_ | refine am_kn am_p1 ?_ | refine am_ky am_p0 ?_) | refine And.intro (fun h => absurd h (by decide)) (fun _ => ?_) | refine And.intro (fun _ => ?_) (fun h => absurd (by decide) h) | refine And.intro (fun _ => ?_) (fun _ => ?_) | refine And.intro ?_ ?_)
      | exact k _
      | refine sx_up ?_ rfl
      | ((with_reducible refine (?_ : am_AW _ _ _ _ _ 121 _ _ _)); refine lp121 _ _ _ _  ?_ ?_)
      | ((with_reducible refine (?_ : am_AW _ _ _ _ _ 136 _ _ _)); refine lp136 _ _ _ _  ?_ ?_)
      | ((with_reducible refine (?_ : am_AW _ _ _ _ _ 164 _ _ _)); refine lp164 _ _ _ _  ?_ ?_)
      | ((with_reducible refine (?_ : am_AW _ _ _ _ _ 177 _ _ _)); refine lp177 _ _ _ _  ?_ ?_)
      | refine And.intro (fun h => absurd h (by decide)) (fun _ => ?_)
      | refine And.intro (fun _ => ?_) (fun h => absurd (by decide) h)
      | refine And.intro (fun _ => ?_) (fun _ => ?_)
      | refine And.intro ?_ ?_
    all_goals (first | (with_reducible assumption) | omega | assumption | (simp only [am_c, am_up] at *; omega) | (simp [am_c, am_up] at *; omega))
  have lp49 : ∀ (y4 t5 : Int), 0 ≤ am_c i → am_c i < 4 → am_AW l 0 (fun _ => 0) 10 Q 49 [some (.inr (.inr 15)), some (.inl i), some (.inl y), some (.inl s), some (.inl y4), some (.inl t5), none, none] [] μ := by
    intro y4 t5  hv0 hv1
    refine am_go (ct := fun pc => Nat.beq pc 177 || Nat.beq pc 164 || Nat.beq pc 136 || Nat.beq pc 121 || Nat.beq pc 86 || Nat.beq pc 49 || Nat.beq pc 26) am_oX0_tenthsOver 300 ?_
    conv => whnf
    repeat' first
      | (refine (?_ : am_wp _ _ _ _ _ _ _ _ _ _ _ _); conv => whnf)
      | (refine (?_ : am_sw _ _ _ _); conv => whnf)
      | refine And.intro trivial ?_
      | exact trivial
      | (with_reducible assumption)
      | ((with_reducible refine (?_ : _ ∧ _)); first | (with_reducible first | refine am_jn am_q1 ?_ | refine am_jn am_q2 ?_ | refine am_jn am_q3 ?_ | refine am_jn am_q4 ?_ | refine am_jn am_q6 ?_ | refine am_jn am_q9 ?_ | refine am_jn am_p1 ?_ | refine am_jy am_p0 ?_ | refine am_kn am_q1 ?_ | refine am_kn am_q2 ?_ | refine am_kn am_q3 ?_ | refine am_kn am_q4 ?_ | refine am_kn am_q6 ?_ | refine am_kn am_q9 ?_ | refine am_kn am_p1 ?_ | refine am_ky am_p0 ?_) | refine And.intro (fun h => absurd h (by decide)) (fun _ => ?_) | refine And.intro (fun _ => ?_) (fun h => absurd (by decide) h) | refine And.intro (fun _ => ?_) (fun _ => ?_) | refine And.intro ?_ ?_)
      | exact k _
      | refine sx_up ?_ rfl
      | ((with_reducible refine (?_ : am_AW _ _ _ _ _ 86 _ _ _)); refine lp86 _ _ _ _  ?_ ?_)
      | ((with_reducible refine (?_ : am_AW _ _ _ _ _ 121 _ _ _)); refine lp121 _ _ _ _  ?_ ?_)
      | ((with_reducible refine (?_ : am_AW _ _ _ _ _ 136 _ _ _)); refine lp136 _ _ _ _  ?_ ?_)
      | ((with_reducible refine (?_ : am_AW _ _ _ _ _ 164 _ _ _)); refine lp164 _ _ _ _  ?_ ?_)
      | ((with_reducible refine (?_ : am_AW _ _ _ _ _ 177 _ _ _)); refine lp177 _ _ _ _  ?_ ?_)
      | refine And.intro (fun h => absurd h (by decide)) (fun _ => ?_)
      | refine And.intro (fun _ => ?_) (fun h => absurd (by decide) h)
      | refine And.intro (fun _ => ?_) (fun _ => ?_)
      | refine And.intro ?_ ?_
    all_goals (first | (with_reducible assumption) | omega | assumption | (simp only [am_c, am_up] at *; omega) | (simp [am_c, am_up] at *; omega))
  have lp26 : ∀ (y4 : Int), 0 ≤ am_c i → am_c i < 4 → am_AW l 0 (fun _ => 0) 10 Q 26 [some (.inr (.inr 15)), some (.inl i), some (.inl y), some (.inl s), some (.inl y4), none, none, none] [] μ := by
    intro y4  hv0 hv1
    refine am_go (ct := fun pc => Nat.beq pc 177 || Nat.beq pc 164 || Nat.beq pc 136 || Nat.beq pc 121 || Nat.beq pc 86 || Nat.beq pc 49 || Nat.beq pc 26) am_oX0_tenthsOver 300 ?_
    conv => whnf
    repeat' first
      | (refine (?_ : am_wp _ _ _ _ _ _ _ _ _ _ _ _); conv => whnf)
      | (refine (?_ : am_sw _ _ _ _); conv => whnf)
      | refine And.intro trivial ?_
      | exact trivial
      | (with_reducible assumption)
      | ((with_reducible refine (?_ : _ ∧ _)); first | (with_reducible first | refine am_jn am_q1 ?_ | refine am_jn am_q2 ?_ | refine am_jn am_q3 ?_ | refine am_jn am_q4 ?_ | refine am_jn am_q6 ?_ | refine am_jn am_q9 ?_ | refine am_jn am_p1 ?_ | refine am_jy am_p0 ?_ | refine am_kn am_q1 ?_ | refine am_kn am_q2 ?_ | refine am_kn am_q3 ?_ | refine am_kn am_q4 ?_ | refine am_kn am_q6 ?_ | refine am_kn am_q9 ?_ | refine am_kn am_p1 ?_ | refine am_ky am_p0 ?_) | refine And.intro (fun h => absurd h (by decide)) (fun _ => ?_) | refine And.intro (fun _ => ?_) (fun h => absurd (by decide) h) | refine And.intro (fun _ => ?_) (fun _ => ?_) | refine And.intro ?_ ?_)
      | exact k _
      | refine sx_up ?_ rfl
      | ((with_reducible refine (?_ : am_AW _ _ _ _ _ 49 _ _ _)); refine lp49 _ _  ?_ ?_)
      | ((with_reducible refine (?_ : am_AW _ _ _ _ _ 86 _ _ _)); refine lp86 _ _ _ _  ?_ ?_)
      | ((with_reducible refine (?_ : am_AW _ _ _ _ _ 121 _ _ _)); refine lp121 _ _ _ _  ?_ ?_)
      | ((with_reducible refine (?_ : am_AW _ _ _ _ _ 136 _ _ _)); refine lp136 _ _ _ _  ?_ ?_)
      | ((with_reducible refine (?_ : am_AW _ _ _ _ _ 164 _ _ _)); refine lp164 _ _ _ _  ?_ ?_)
      | ((with_reducible refine (?_ : am_AW _ _ _ _ _ 177 _ _ _)); refine lp177 _ _ _ _  ?_ ?_)
      | refine And.intro (fun h => absurd h (by decide)) (fun _ => ?_)
      | refine And.intro (fun _ => ?_) (fun h => absurd (by decide) h)
      | refine And.intro (fun _ => ?_) (fun _ => ?_)
      | refine And.intro ?_ ?_
    all_goals (first | (with_reducible assumption) | omega | assumption | (simp only [am_c, am_up] at *; omega) | (simp [am_c, am_up] at *; omega))
  refine am_go (ct := fun pc => Nat.beq pc 177 || Nat.beq pc 164 || Nat.beq pc 136 || Nat.beq pc 121 || Nat.beq pc 86 || Nat.beq pc 49 || Nat.beq pc 26) am_oX0_tenthsOver 300 ?_
  conv => whnf
  repeat' first
    | (refine (?_ : am_wp _ _ _ _ _ _ _ _ _ _ _ _); conv => whnf)
    | (refine (?_ : am_sw _ _ _ _); conv => whnf)
    | refine And.intro trivial ?_
    | exact trivial
    | (with_reducible assumption)
    | ((with_reducible refine (?_ : _ ∧ _)); first | (with_reducible first | refine am_jn am_q1 ?_ | refine am_jn am_q2 ?_ | refine am_jn am_q3 ?_ | refine am_jn am_q4 ?_ | refine am_jn am_q6 ?_ | refine am_jn am_q9 ?_ | refine am_jn am_p1 ?_ | refine am_jy am_p0 ?_ | refine am_kn am_q1 ?_ | refine am_kn am_q2 ?_ | refine am_kn am_q3 ?_ | refine am_kn am_q4 ?_ | refine am_kn am_q6 ?_ | refine am_kn am_q9 ?_ | refine am_kn am_p1 ?_ | refine am_ky am_p0 ?_) | refine And.intro (fun h => absurd h (by decide)) (fun _ => ?_) | refine And.intro (fun _ => ?_) (fun h => absurd (by decide) h) | refine And.intro (fun _ => ?_) (fun _ => ?_) | refine And.intro ?_ ?_)
    | exact k _
    | refine sx_up ?_ rfl
    | ((with_reducible refine (?_ : am_AW _ _ _ _ _ 26 _ _ _)); refine lp26 _  ?_ ?_)
    | ((with_reducible refine (?_ : am_AW _ _ _ _ _ 49 _ _ _)); refine lp49 _ _  ?_ ?_)
    | ((with_reducible refine (?_ : am_AW _ _ _ _ _ 86 _ _ _)); refine lp86 _ _ _ _  ?_ ?_)
    | ((with_reducible refine (?_ : am_AW _ _ _ _ _ 121 _ _ _)); refine lp121 _ _ _ _  ?_ ?_)
    | ((with_reducible refine (?_ : am_AW _ _ _ _ _ 136 _ _ _)); refine lp136 _ _ _ _  ?_ ?_)
    | ((with_reducible refine (?_ : am_AW _ _ _ _ _ 164 _ _ _)); refine lp164 _ _ _ _  ?_ ?_)
    | ((with_reducible refine (?_ : am_AW _ _ _ _ _ 177 _ _ _)); refine lp177 _ _ _ _  ?_ ?_)
    | refine And.intro (fun h => absurd h (by decide)) (fun _ => ?_)
    | refine And.intro (fun _ => ?_) (fun h => absurd (by decide) h)
    | refine And.intro (fun _ => ?_) (fun _ => ?_)
    | refine And.intro ?_ ?_
  all_goals (first | (with_reducible assumption) | omega | assumption | (simp only [am_c, am_up] at *; omega) | (simp [am_c, am_up] at *; omega))
theorem w_tenths_X0_15 {l : Launch} {μ : am_N} {Q : Option am_V → am_N → Prop} {ν : am_N} (i : Int) (hS : sx ν μ)  (k : ∀ r, Q (some (.inl r)) μ) : am_Does l 8 [.inr (.inr 15), .inl i] μ Q := by
  refine am_Does_of (Nat.le_of_ble_eq_true rfl) (Nat.le_of_ble_eq_true rfl) (Nat.le_of_ble_eq_true rfl) ?_
  have hb := sx_all hS
  refine am_go (ct := fun _ => false) am_oX0_tenths 300 ?_
  conv => whnf
  repeat' first
    | (refine (?_ : am_wp _ _ _ _ _ _ _ _ _ _ _ _); conv => whnf)
    | (refine (?_ : am_sw _ _ _ _); conv => whnf)
    | refine And.intro trivial ?_
    | exact trivial
    | (with_reducible assumption)
    | ((with_reducible refine (?_ : _ ∧ _)); first | (with_reducible first | refine am_jn am_q1 ?_ | refine am_jn am_q2 ?_ | refine am_jn am_q3 ?_ | refine am_jn am_q4 ?_ | refine am_jn am_q6 ?_ | refine am_jn am_q9 ?_ | refine am_jn am_p1 ?_ | refine am_jy am_p0 ?_ | refine am_kn am_q1 ?_ | refine am_kn am_q2 ?_ | refine am_kn am_q3 ?_ | refine am_kn am_q4 ?_ | refine am_kn am_q6 ?_ | refine am_kn am_q9 ?_ | refine am_kn am_p1 ?_ | refine am_ky am_p0 ?_) | refine And.intro (fun h => absurd h (by decide)) (fun _ => ?_) | refine And.intro (fun _ => ?_) (fun h => absurd (by decide) h) | refine And.intro (fun _ => ?_) (fun _ => ?_) | refine And.intro ?_ ?_)
    | exact k _
    | refine sx_up ?_ rfl
    | ((with_reducible refine (?_ : am_Does _ 10 _ _ _)); first | ((with_reducible refine (?_ : am_Does _ 10 (Sum.inr (Sum.inr 1) :: _) _ _)); refine w_tenthsOver_X0_1 (ν := ν) _ _ _ ?_  (fun _ => ?_)) | ((with_reducible refine (?_ : am_Does _ 10 (Sum.inr (Sum.inr 8) :: _) _ _)); refine w_tenthsOver_X0_8 (ν := ν) _ _ _ ?_  (fun _ => ?_)) | ((with_reducible refine (?_ : am_Does _ 10 (Sum.inr (Sum.inr 15) :: _) _ _)); refine w_tenthsOver_X0_15 (ν := ν) _ _ _ ?_  (fun _ => ?_)) | refine w_tenthsOver_X0_1 (ν := ν) _ _ _ ?_  (fun _ => ?_) | refine w_tenthsOver_X0_8 (ν := ν) _ _ _ ?_  (fun _ => ?_) | refine w_tenthsOver_X0_15 (ν := ν) _ _ _ ?_  (fun _ => ?_))
    | refine And.intro (fun h => absurd h (by decide)) (fun _ => ?_)
    | refine And.intro (fun _ => ?_) (fun h => absurd (by decide) h)
    | refine And.intro (fun _ => ?_) (fun _ => ?_)
    | refine And.intro ?_ ?_
  all_goals (first | (with_reducible assumption) | omega | assumption | (simp only [am_c, am_up] at *; omega) | (simp [am_c, am_up] at *; omega))
theorem w_tenthsFrom_X0_1 {l : Launch} {μ : am_N} {Q : Option am_V → am_N → Prop} {ν : am_N} (i s : Int) (hS : sx ν μ)  (k : ∀ r, Q (some (.inl r)) μ) : am_Does l 9 [.inr (.inr 1), .inl i, .inl s] μ Q := by
  refine am_Does_of (Nat.le_of_ble_eq_true rfl) (Nat.le_of_ble_eq_true rfl) (Nat.le_of_ble_eq_true rfl) ?_
  have hb := sx_all hS
  refine am_go (ct := fun _ => false) am_oX0_tenthsFrom 300 ?_
  conv => whnf
  repeat' first
    | (refine (?_ : am_wp _ _ _ _ _ _ _ _ _ _ _ _); conv => whnf)
    | (refine (?_ : am_sw _ _ _ _); conv => whnf)
    | refine And.intro trivial ?_
    | exact trivial
    | (with_reducible assumption)
    | ((with_reducible refine (?_ : _ ∧ _)); first | (with_reducible first | refine am_jn am_q1 ?_ | refine am_jn am_q2 ?_ | refine am_jn am_q3 ?_ | refine am_jn am_q4 ?_ | refine am_jn am_q6 ?_ | refine am_jn am_q9 ?_ | refine am_jn am_p1 ?_ | refine am_jy am_p0 ?_ | refine am_kn am_q1 ?_ | refine am_kn am_q2 ?_ | refine am_kn am_q3 ?_ | refine am_kn am_q4 ?_ | refine am_kn am_q6 ?_ | refine am_kn am_q9 ?_ | refine am_kn am_p1 ?_ | refine am_ky am_p0 ?_) | refine And.intro (fun h => absurd h (by decide)) (fun _ => ?_) | refine And.intro (fun _ => ?_) (fun h => absurd (by decide) h) | refine And.intro (fun _ => ?_) (fun _ => ?_) | refine And.intro ?_ ?_)
    | exact k _
    | refine sx_up ?_ rfl
    | ((with_reducible refine (?_ : am_Does _ 10 _ _ _)); first | ((with_reducible refine (?_ : am_Does _ 10 (Sum.inr (Sum.inr 1) :: _) _ _)); refine w_tenthsOver_X0_1 (ν := ν) _ _ _ ?_  (fun _ => ?_)) | ((with_reducible refine (?_ : am_Does _ 10 (Sum.inr (Sum.inr 8) :: _) _ _)); refine w_tenthsOver_X0_8 (ν := ν) _ _ _ ?_  (fun _ => ?_)) | ((with_reducible refine (?_ : am_Does _ 10 (Sum.inr (Sum.inr 15) :: _) _ _)); refine w_tenthsOver_X0_15 (ν := ν) _ _ _ ?_  (fun _ => ?_)) | refine w_tenthsOver_X0_1 (ν := ν) _ _ _ ?_  (fun _ => ?_) | refine w_tenthsOver_X0_8 (ν := ν) _ _ _ ?_  (fun _ => ?_) | refine w_tenthsOver_X0_15 (ν := ν) _ _ _ ?_  (fun _ => ?_))
    | refine And.intro (fun h => absurd h (by decide)) (fun _ => ?_)
    | refine And.intro (fun _ => ?_) (fun h => absurd (by decide) h)
    | refine And.intro (fun _ => ?_) (fun _ => ?_)
    | refine And.intro ?_ ?_
  all_goals (first | (with_reducible assumption) | omega | assumption | (simp only [am_c, am_up] at *; omega) | (simp [am_c, am_up] at *; omega))
theorem w_more_X0_8 {l : Launch} {μ : am_N} {Q : Option am_V → am_N → Prop} {ν : am_N} (i v : Int) (hS : sx ν μ)  (k : ∀ μ', sx ν μ' → Q none μ') : am_Does l 11 [.inr (.inr 8), .inl i, .inl v] μ Q := by
  refine am_Does_of (Nat.le_of_ble_eq_true rfl) (Nat.le_of_ble_eq_true rfl) (Nat.le_of_ble_eq_true rfl) ?_
  have hb := sx_all hS
  refine am_go (ct := fun _ => false) am_oX0_more 300 ?_
  conv => whnf
  repeat' first
    | (refine (?_ : am_wp _ _ _ _ _ _ _ _ _ _ _ _); conv => whnf)
    | (refine (?_ : am_sw _ _ _ _); conv => whnf)
    | refine And.intro trivial ?_
    | exact trivial
    | (with_reducible assumption)
    | ((with_reducible refine (?_ : _ ∧ _)); first | (with_reducible first | refine am_jn am_q1 ?_ | refine am_jn am_q2 ?_ | refine am_jn am_q3 ?_ | refine am_jn am_q4 ?_ | refine am_jn am_q6 ?_ | refine am_jn am_q9 ?_ | refine am_jn am_p1 ?_ | refine am_jy am_p0 ?_ | refine am_kn am_q1 ?_ | refine am_kn am_q2 ?_ | refine am_kn am_q3 ?_ | refine am_kn am_q4 ?_ | refine am_kn am_q6 ?_ | refine am_kn am_q9 ?_ | refine am_kn am_p1 ?_ | refine am_ky am_p0 ?_) | refine And.intro (fun h => absurd h (by decide)) (fun _ => ?_) | refine And.intro (fun _ => ?_) (fun h => absurd (by decide) h) | refine And.intro (fun _ => ?_) (fun _ => ?_) | refine And.intro ?_ ?_)
    | refine k _ ?_
    | refine sx_up ?_ rfl
    | refine And.intro (fun h => absurd h (by decide)) (fun _ => ?_)
    | refine And.intro (fun _ => ?_) (fun h => absurd (by decide) h)
    | refine And.intro (fun _ => ?_) (fun _ => ?_)
    | refine And.intro ?_ ?_
  all_goals (first | (with_reducible assumption) | omega | assumption | (simp only [am_c, am_up] at *; omega) | (simp [am_c, am_up] at *; omega))
theorem w_mend_X0_8 {l : Launch} {μ : am_N} {Q : Option am_V → am_N → Prop} {ν : am_N} (a b : Int) (hS : sx ν μ)  (k : ∀ μ', sx ν μ' → Q none μ') : am_Does l 12 [.inr (.inr 8), .inl a, .inl b] μ Q := by
  refine am_Does_of (Nat.le_of_ble_eq_true rfl) (Nat.le_of_ble_eq_true rfl) (Nat.le_of_ble_eq_true rfl) ?_
  have hb := sx_all hS
  have lp61 : ∀ (m : Nat) (i : Int) (μ : am_N) , sx ν μ → 0 ≤ i → i ≤ 4 → 4 - i < (m : Int) → am_AW l 0 (fun _ => 0) 12 Q 61 [some (.inr (.inr 8)), some (.inl a), some (.inl b), some (.inl i)] [] μ := by
    intro m
    induction m with
    | zero =>
      intro i μ hv0 hv1 hv2 hm
      have hb := sx_all hv0
      exfalso
      omega
    | succ m ih =>
      intro i μ hv0 hv1 hv2 hm
      have hb := sx_all hv0
      refine am_go (ct := fun pc => Nat.beq pc 61 || Nat.beq pc 59 || Nat.beq pc 34) am_oX0_mend 300 ?_
      conv => whnf
      repeat' first
        | (refine (?_ : am_wp _ _ _ _ _ _ _ _ _ _ _ _); conv => whnf)
        | (refine (?_ : am_sw _ _ _ _); conv => whnf)
        | refine And.intro trivial ?_
        | exact trivial
        | (with_reducible assumption)
        | ((with_reducible refine (?_ : _ ∧ _)); first | (with_reducible first | refine am_jn am_q1 ?_ | refine am_jn am_q2 ?_ | refine am_jn am_q3 ?_ | refine am_jn am_q4 ?_ | refine am_jn am_q6 ?_ | refine am_jn am_q9 ?_ | refine am_jn am_p1 ?_ | refine am_jy am_p0 ?_ | refine am_kn am_q1 ?_ | refine am_kn am_q2 ?_ | refine am_kn am_q3 ?_ | refine am_kn am_q4 ?_ | refine am_kn am_q6 ?_ | refine am_kn am_q9 ?_ | refine am_kn am_p1 ?_ | refine am_ky am_p0 ?_) | refine And.intro (fun h => absurd h (by decide)) (fun _ => ?_) | refine And.intro (fun _ => ?_) (fun h => absurd (by decide) h) | refine And.intro (fun _ => ?_) (fun _ => ?_) | refine And.intro ?_ ?_)
        | refine k _ ?_
        | refine sx_up ?_ rfl
        | ((with_reducible refine (?_ : am_Does _ 11 _ _ _)); refine w_more_X0_8 (ν := ν) _ _ ?_  (fun _ _ => ?_))
        | ((with_reducible refine (?_ : am_AW _ _ _ _ _ 61 _ _ _)); refine ih _ _ ?_ ?_ ?_ ?_)
        | refine And.intro (fun h => absurd h (by decide)) (fun _ => ?_)
        | refine And.intro (fun _ => ?_) (fun h => absurd (by decide) h)
        | refine And.intro (fun _ => ?_) (fun _ => ?_)
        | refine And.intro ?_ ?_
      all_goals (first | (with_reducible assumption) | omega | assumption | (simp only [am_c, am_up] at *; omega) | (simp [am_c, am_up] at *; omega))
  have lp61' : ∀ (i : Int) (μ : am_N) , sx ν μ → 0 ≤ i → i ≤ 4 → am_AW l 0 (fun _ => 0) 12 Q 61 [some (.inr (.inr 8)), some (.inl a), some (.inl b), some (.inl i)] [] μ := fun i μ hv0 hv1 hv2 => lp61 ((4 - i) + 1).toNat i μ hv0 hv1 hv2 (by omega)
  have lp59 : ∀  (μ : am_N), sx ν μ → am_AW l 0 (fun _ => 0) 12 Q 59 [some (.inr (.inr 8)), some (.inl a), some (.inl b), none] [] μ := by
    intro  μ hv0
    refine am_go (ct := fun pc => Nat.beq pc 61 || Nat.beq pc 59 || Nat.beq pc 34) am_oX0_mend 300 ?_
    conv => whnf
    repeat' first
      | (refine (?_ : am_wp _ _ _ _ _ _ _ _ _ _ _ _); conv => whnf)
      | (refine (?_ : am_sw _ _ _ _); conv => whnf)
      | refine And.intro trivial ?_
      | exact trivial
      | (with_reducible assumption)
      | ((with_reducible refine (?_ : _ ∧ _)); first | (with_reducible first | refine am_jn am_q1 ?_ | refine am_jn am_q2 ?_ | refine am_jn am_q3 ?_ | refine am_jn am_q4 ?_ | refine am_jn am_q6 ?_ | refine am_jn am_q9 ?_ | refine am_jn am_p1 ?_ | refine am_jy am_p0 ?_ | refine am_kn am_q1 ?_ | refine am_kn am_q2 ?_ | refine am_kn am_q3 ?_ | refine am_kn am_q4 ?_ | refine am_kn am_q6 ?_ | refine am_kn am_q9 ?_ | refine am_kn am_p1 ?_ | refine am_ky am_p0 ?_) | refine And.intro (fun h => absurd h (by decide)) (fun _ => ?_) | refine And.intro (fun _ => ?_) (fun h => absurd (by decide) h) | refine And.intro (fun _ => ?_) (fun _ => ?_) | refine And.intro ?_ ?_)
      | refine k _ ?_
      | refine sx_up ?_ rfl
      | ((with_reducible refine (?_ : am_Does _ 11 _ _ _)); refine w_more_X0_8 (ν := ν) _ _ ?_  (fun _ _ => ?_))
      | ((with_reducible refine (?_ : am_AW _ _ _ _ _ 61 _ _ _)); refine lp61' _ _ ?_ ?_ ?_)
      | refine And.intro (fun h => absurd h (by decide)) (fun _ => ?_)
      | refine And.intro (fun _ => ?_) (fun h => absurd (by decide) h)
      | refine And.intro (fun _ => ?_) (fun _ => ?_)
      | refine And.intro ?_ ?_
    all_goals (first | (with_reducible assumption) | omega | assumption | (simp only [am_c, am_up] at *; omega) | (simp [am_c, am_up] at *; omega))
  have lp34 : ∀  (μ : am_N), sx ν μ → am_AW l 0 (fun _ => 0) 12 Q 34 [some (.inr (.inr 8)), some (.inl a), some (.inl b), none] [] μ := by
    intro  μ hv0
    refine am_go (ct := fun pc => Nat.beq pc 61 || Nat.beq pc 59 || Nat.beq pc 34) am_oX0_mend 300 ?_
    conv => whnf
    repeat' first
      | (refine (?_ : am_wp _ _ _ _ _ _ _ _ _ _ _ _); conv => whnf)
      | (refine (?_ : am_sw _ _ _ _); conv => whnf)
      | refine And.intro trivial ?_
      | exact trivial
      | (with_reducible assumption)
      | ((with_reducible refine (?_ : _ ∧ _)); first | (with_reducible first | refine am_jn am_q1 ?_ | refine am_jn am_q2 ?_ | refine am_jn am_q3 ?_ | refine am_jn am_q4 ?_ | refine am_jn am_q6 ?_ | refine am_jn am_q9 ?_ | refine am_jn am_p1 ?_ | refine am_jy am_p0 ?_ | refine am_kn am_q1 ?_ | refine am_kn am_q2 ?_ | refine am_kn am_q3 ?_ | refine am_kn am_q4 ?_ | refine am_kn am_q6 ?_ | refine am_kn am_q9 ?_ | refine am_kn am_p1 ?_ | refine am_ky am_p0 ?_) | refine And.intro (fun h => absurd h (by decide)) (fun _ => ?_) | refine And.intro (fun _ => ?_) (fun h => absurd (by decide) h) | refine And.intro (fun _ => ?_) (fun _ => ?_) | refine And.intro ?_ ?_)
      | refine k _ ?_
      | refine sx_up ?_ rfl
      | ((with_reducible refine (?_ : am_Does _ 11 _ _ _)); refine w_more_X0_8 (ν := ν) _ _ ?_  (fun _ _ => ?_))
      | ((with_reducible refine (?_ : am_AW _ _ _ _ _ 59 _ _ _)); refine lp59  _ ?_)
      | ((with_reducible refine (?_ : am_AW _ _ _ _ _ 61 _ _ _)); refine lp61' _ _ ?_ ?_ ?_)
      | refine And.intro (fun h => absurd h (by decide)) (fun _ => ?_)
      | refine And.intro (fun _ => ?_) (fun h => absurd (by decide) h)
      | refine And.intro (fun _ => ?_) (fun _ => ?_)
      | refine And.intro ?_ ?_
    all_goals (first | (with_reducible assumption) | omega | assumption | (simp only [am_c, am_up] at *; omega) | (simp [am_c, am_up] at *; omega))
  refine am_go (ct := fun pc => Nat.beq pc 61 || Nat.beq pc 59 || Nat.beq pc 34) am_oX0_mend 300 ?_
  conv => whnf
  repeat' first
    | (refine (?_ : am_wp _ _ _ _ _ _ _ _ _ _ _ _); conv => whnf)
    | (refine (?_ : am_sw _ _ _ _); conv => whnf)
    | refine And.intro trivial ?_
    | exact trivial
    | (with_reducible assumption)
    | ((with_reducible refine (?_ : _ ∧ _)); first | (with_reducible first | refine am_jn am_q1 ?_ | refine am_jn am_q2 ?_ | refine am_jn am_q3 ?_ | refine am_jn am_q4 ?_ | refine am_jn am_q6 ?_ | refine am_jn am_q9 ?_ | refine am_jn am_p1 ?_ | refine am_jy am_p0 ?_ | refine am_kn am_q1 ?_ | refine am_kn am_q2 ?_ | refine am_kn am_q3 ?_ | refine am_kn am_q4 ?_ | refine am_kn am_q6 ?_ | refine am_kn am_q9 ?_ | refine am_kn am_p1 ?_ | refine am_ky am_p0 ?_) | refine And.intro (fun h => absurd h (by decide)) (fun _ => ?_) | refine And.intro (fun _ => ?_) (fun h => absurd (by decide) h) | refine And.intro (fun _ => ?_) (fun _ => ?_) | refine And.intro ?_ ?_)
    | refine k _ ?_
    | refine sx_up ?_ rfl
    | ((with_reducible refine (?_ : am_Does _ 11 _ _ _)); refine w_more_X0_8 (ν := ν) _ _ ?_  (fun _ _ => ?_))
    | ((with_reducible refine (?_ : am_AW _ _ _ _ _ 34 _ _ _)); refine lp34  _ ?_)
    | ((with_reducible refine (?_ : am_AW _ _ _ _ _ 59 _ _ _)); refine lp59  _ ?_)
    | ((with_reducible refine (?_ : am_AW _ _ _ _ _ 61 _ _ _)); refine lp61' _ _ ?_ ?_ ?_)
    | refine And.intro (fun h => absurd h (by decide)) (fun _ => ?_)
    | refine And.intro (fun _ => ?_) (fun h => absurd (by decide) h)
    | refine And.intro (fun _ => ?_) (fun _ => ?_)
    | refine And.intro ?_ ?_
  all_goals (first | (with_reducible assumption) | omega | assumption | (simp only [am_c, am_up] at *; omega) | (simp [am_c, am_up] at *; omega))
theorem w_more_X0_15 {l : Launch} {μ : am_N} {Q : Option am_V → am_N → Prop} {ν : am_N} (i v : Int) (hS : sx ν μ)  (k : ∀ μ', sx ν μ' → Q none μ') : am_Does l 11 [.inr (.inr 15), .inl i, .inl v] μ Q := by
  refine am_Does_of (Nat.le_of_ble_eq_true rfl) (Nat.le_of_ble_eq_true rfl) (Nat.le_of_ble_eq_true rfl) ?_
  have hb := sx_all hS
  refine am_go (ct := fun _ => false) am_oX0_more 300 ?_
  conv => whnf
  repeat' first
    | (refine (?_ : am_wp _ _ _ _ _ _ _ _ _ _ _ _); conv => whnf)
    | (refine (?_ : am_sw _ _ _ _); conv => whnf)
    | refine And.intro trivial ?_
    | exact trivial
    | (with_reducible assumption)
    | ((with_reducible refine (?_ : _ ∧ _)); first | (with_reducible first | refine am_jn am_q1 ?_ | refine am_jn am_q2 ?_ | refine am_jn am_q3 ?_ | refine am_jn am_q4 ?_ | refine am_jn am_q6 ?_ | refine am_jn am_q9 ?_ | refine am_jn am_p1 ?_ | refine am_jy am_p0 ?_ | refine am_kn am_q1 ?_ | refine am_kn am_q2 ?_ | refine am_kn am_q3 ?_ | refine am_kn am_q4 ?_ | refine am_kn am_q6 ?_ | refine am_kn am_q9 ?_ | refine am_kn am_p1 ?_ | refine am_ky am_p0 ?_) | refine And.intro (fun h => absurd h (by decide)) (fun _ => ?_) | refine And.intro (fun _ => ?_) (fun h => absurd (by decide) h) | refine And.intro (fun _ => ?_) (fun _ => ?_) | refine And.intro ?_ ?_)
    | refine k _ ?_
    | refine sx_up ?_ rfl
    | refine And.intro (fun h => absurd h (by decide)) (fun _ => ?_)
    | refine And.intro (fun _ => ?_) (fun h => absurd (by decide) h)
    | refine And.intro (fun _ => ?_) (fun _ => ?_)
    | refine And.intro ?_ ?_
  all_goals (first | (with_reducible assumption) | omega | assumption | (simp only [am_c, am_up] at *; omega) | (simp [am_c, am_up] at *; omega))
theorem w_mend_X0_15 {l : Launch} {μ : am_N} {Q : Option am_V → am_N → Prop} {ν : am_N} (a b : Int) (hS : sx ν μ)  (k : ∀ μ', sx ν μ' → Q none μ') : am_Does l 12 [.inr (.inr 15), .inl a, .inl b] μ Q := by
  refine am_Does_of (Nat.le_of_ble_eq_true rfl) (Nat.le_of_ble_eq_true rfl) (Nat.le_of_ble_eq_true rfl) ?_
  have hb := sx_all hS
  have lp61 : ∀ (m : Nat) (i : Int) (μ : am_N) , sx ν μ → 0 ≤ i → i ≤ 4 → 4 - i < (m : Int) → am_AW l 0 (fun _ => 0) 12 Q 61 [some (.inr (.inr 15)), some (.inl a), some (.inl b), some (.inl i)] [] μ := by
    intro m
    induction m with
    | zero =>
      intro i μ hv0 hv1 hv2 hm
      have hb := sx_all hv0
      exfalso
      omega
    | succ m ih =>
      intro i μ hv0 hv1 hv2 hm
      have hb := sx_all hv0
      refine am_go (ct := fun pc => Nat.beq pc 61 || Nat.beq pc 59 || Nat.beq pc 34) am_oX0_mend 300 ?_
      conv => whnf
      repeat' first
        | (refine (?_ : am_wp _ _ _ _ _ _ _ _ _ _ _ _); conv => whnf)
        | (refine (?_ : am_sw _ _ _ _); conv => whnf)
        | refine And.intro trivial ?_
        | exact trivial
        | (with_reducible assumption)
        | ((with_reducible refine (?_ : _ ∧ _)); first | (with_reducible first | refine am_jn am_q1 ?_ | refine am_jn am_q2 ?_ | refine am_jn am_q3 ?_ | refine am_jn am_q4 ?_ | refine am_jn am_q6 ?_ | refine am_jn am_q9 ?_ | refine am_jn am_p1 ?_ | refine am_jy am_p0 ?_ | refine am_kn am_q1 ?_ | refine am_kn am_q2 ?_ | refine am_kn am_q3 ?_ | refine am_kn am_q4 ?_ | refine am_kn am_q6 ?_ | refine am_kn am_q9 ?_ | refine am_kn am_p1 ?_ | refine am_ky am_p0 ?_) | refine And.intro (fun h => absurd h (by decide)) (fun _ => ?_) | refine And.intro (fun _ => ?_) (fun h => absurd (by decide) h) | refine And.intro (fun _ => ?_) (fun _ => ?_) | refine And.intro ?_ ?_)
        | refine k _ ?_
        | refine sx_up ?_ rfl
        | ((with_reducible refine (?_ : am_Does _ 11 _ _ _)); first | ((with_reducible refine (?_ : am_Does _ 11 (Sum.inr (Sum.inr 8) :: _) _ _)); refine w_more_X0_8 (ν := ν) _ _ ?_  (fun _ _ => ?_)) | ((with_reducible refine (?_ : am_Does _ 11 (Sum.inr (Sum.inr 15) :: _) _ _)); refine w_more_X0_15 (ν := ν) _ _ ?_  (fun _ _ => ?_)) | refine w_more_X0_8 (ν := ν) _ _ ?_  (fun _ _ => ?_) | refine w_more_X0_15 (ν := ν) _ _ ?_  (fun _ _ => ?_))
        | ((with_reducible refine (?_ : am_AW _ _ _ _ _ 61 _ _ _)); refine ih _ _ ?_ ?_ ?_ ?_)
        | refine And.intro (fun h => absurd h (by decide)) (fun _ => ?_)
        | refine And.intro (fun _ => ?_) (fun h => absurd (by decide) h)
        | refine And.intro (fun _ => ?_) (fun _ => ?_)
        | refine And.intro ?_ ?_
      all_goals (first | (with_reducible assumption) | omega | assumption | (simp only [am_c, am_up] at *; omega) | (simp [am_c, am_up] at *; omega))
  have lp61' : ∀ (i : Int) (μ : am_N) , sx ν μ → 0 ≤ i → i ≤ 4 → am_AW l 0 (fun _ => 0) 12 Q 61 [some (.inr (.inr 15)), some (.inl a), some (.inl b), some (.inl i)] [] μ := fun i μ hv0 hv1 hv2 => lp61 ((4 - i) + 1).toNat i μ hv0 hv1 hv2 (by omega)
  have lp59 : ∀  (μ : am_N), sx ν μ → am_AW l 0 (fun _ => 0) 12 Q 59 [some (.inr (.inr 15)), some (.inl a), some (.inl b), none] [] μ := by
    intro  μ hv0
    refine am_go (ct := fun pc => Nat.beq pc 61 || Nat.beq pc 59 || Nat.beq pc 34) am_oX0_mend 300 ?_
    conv => whnf
    repeat' first
      | (refine (?_ : am_wp _ _ _ _ _ _ _ _ _ _ _ _); conv => whnf)
      | (refine (?_ : am_sw _ _ _ _); conv => whnf)
      | refine And.intro trivial ?_
      | exact trivial
      | (with_reducible assumption)
      | ((with_reducible refine (?_ : _ ∧ _)); first | (with_reducible first | refine am_jn am_q1 ?_ | refine am_jn am_q2 ?_ | refine am_jn am_q3 ?_ | refine am_jn am_q4 ?_ | refine am_jn am_q6 ?_ | refine am_jn am_q9 ?_ | refine am_jn am_p1 ?_ | refine am_jy am_p0 ?_ | refine am_kn am_q1 ?_ | refine am_kn am_q2 ?_ | refine am_kn am_q3 ?_ | refine am_kn am_q4 ?_ | refine am_kn am_q6 ?_ | refine am_kn am_q9 ?_ | refine am_kn am_p1 ?_ | refine am_ky am_p0 ?_) | refine And.intro (fun h => absurd h (by decide)) (fun _ => ?_) | refine And.intro (fun _ => ?_) (fun h => absurd (by decide) h) | refine And.intro (fun _ => ?_) (fun _ => ?_) | refine And.intro ?_ ?_)
      | refine k _ ?_
      | refine sx_up ?_ rfl
      | ((with_reducible refine (?_ : am_Does _ 11 _ _ _)); first | ((with_reducible refine (?_ : am_Does _ 11 (Sum.inr (Sum.inr 8) :: _) _ _)); refine w_more_X0_8 (ν := ν) _ _ ?_  (fun _ _ => ?_)) | ((with_reducible refine (?_ : am_Does _ 11 (Sum.inr (Sum.inr 15) :: _) _ _)); refine w_more_X0_15 (ν := ν) _ _ ?_  (fun _ _ => ?_)) | refine w_more_X0_8 (ν := ν) _ _ ?_  (fun _ _ => ?_) | refine w_more_X0_15 (ν := ν) _ _ ?_  (fun _ _ => ?_))
      | ((with_reducible refine (?_ : am_AW _ _ _ _ _ 61 _ _ _)); refine lp61' _ _ ?_ ?_ ?_)
      | refine And.intro (fun h => absurd h (by decide)) (fun _ => ?_)
      | refine And.intro (fun _ => ?_) (fun h => absurd (by decide) h)
      | refine And.intro (fun _ => ?_) (fun _ => ?_)
      | refine And.intro ?_ ?_
    all_goals (first | (with_reducible assumption) | omega | assumption | (simp only [am_c, am_up] at *; omega) | (simp [am_c, am_up] at *; omega))
  have lp34 : ∀  (μ : am_N), sx ν μ → am_AW l 0 (fun _ => 0) 12 Q 34 [some (.inr (.inr 15)), some (.inl a), some (.inl b), none] [] μ := by
    intro  μ hv0
    refine am_go (ct := fun pc => Nat.beq pc 61 || Nat.beq pc 59 || Nat.beq pc 34) am_oX0_mend 300 ?_
    conv => whnf
    repeat' first
      | (refine (?_ : am_wp _ _ _ _ _ _ _ _ _ _ _ _); conv => whnf)
      | (refine (?_ : am_sw _ _ _ _); conv => whnf)
      | refine And.intro trivial ?_
      | exact trivial
      | (with_reducible assumption)
      | ((with_reducible refine (?_ : _ ∧ _)); first | (with_reducible first | refine am_jn am_q1 ?_ | refine am_jn am_q2 ?_ | refine am_jn am_q3 ?_ | refine am_jn am_q4 ?_ | refine am_jn am_q6 ?_ | refine am_jn am_q9 ?_ | refine am_jn am_p1 ?_ | refine am_jy am_p0 ?_ | refine am_kn am_q1 ?_ | refine am_kn am_q2 ?_ | refine am_kn am_q3 ?_ | refine am_kn am_q4 ?_ | refine am_kn am_q6 ?_ | refine am_kn am_q9 ?_ | refine am_kn am_p1 ?_ | refine am_ky am_p0 ?_) | refine And.intro (fun h => absurd h (by decide)) (fun _ => ?_) | refine And.intro (fun _ => ?_) (fun h => absurd (by decide) h) | refine And.intro (fun _ => ?_) (fun _ => ?_) | refine And.intro ?_ ?_)
      | refine k _ ?_
      | refine sx_up ?_ rfl
      | ((with_reducible refine (?_ : am_Does _ 11 _ _ _)); first | ((with_reducible refine (?_ : am_Does _ 11 (Sum.inr (Sum.inr 8) :: _) _ _)); refine w_more_X0_8 (ν := ν) _ _ ?_  (fun _ _ => ?_)) | ((with_reducible refine (?_ : am_Does _ 11 (Sum.inr (Sum.inr 15) :: _) _ _)); refine w_more_X0_15 (ν := ν) _ _ ?_  (fun _ _ => ?_)) | refine w_more_X0_8 (ν := ν) _ _ ?_  (fun _ _ => ?_) | refine w_more_X0_15 (ν := ν) _ _ ?_  (fun _ _ => ?_))
      | ((with_reducible refine (?_ : am_AW _ _ _ _ _ 59 _ _ _)); refine lp59  _ ?_)
      | ((with_reducible refine (?_ : am_AW _ _ _ _ _ 61 _ _ _)); refine lp61' _ _ ?_ ?_ ?_)
      | refine And.intro (fun h => absurd h (by decide)) (fun _ => ?_)
      | refine And.intro (fun _ => ?_) (fun h => absurd (by decide) h)
      | refine And.intro (fun _ => ?_) (fun _ => ?_)
      | refine And.intro ?_ ?_
    all_goals (first | (with_reducible assumption) | omega | assumption | (simp only [am_c, am_up] at *; omega) | (simp [am_c, am_up] at *; omega))
  refine am_go (ct := fun pc => Nat.beq pc 61 || Nat.beq pc 59 || Nat.beq pc 34) am_oX0_mend 300 ?_
  conv => whnf
  repeat' first
    | (refine (?_ : am_wp _ _ _ _ _ _ _ _ _ _ _ _); conv => whnf)
    | (refine (?_ : am_sw _ _ _ _); conv => whnf)
    | refine And.intro trivial ?_
    | exact trivial
    | (with_reducible assumption)
    | ((with_reducible refine (?_ : _ ∧ _)); first | (with_reducible first | refine am_jn am_q1 ?_ | refine am_jn am_q2 ?_ | refine am_jn am_q3 ?_ | refine am_jn am_q4 ?_ | refine am_jn am_q6 ?_ | refine am_jn am_q9 ?_ | refine am_jn am_p1 ?_ | refine am_jy am_p0 ?_ | refine am_kn am_q1 ?_ | refine am_kn am_q2 ?_ | refine am_kn am_q3 ?_ | refine am_kn am_q4 ?_ | refine am_kn am_q6 ?_ | refine am_kn am_q9 ?_ | refine am_kn am_p1 ?_ | refine am_ky am_p0 ?_) | refine And.intro (fun h => absurd h (by decide)) (fun _ => ?_) | refine And.intro (fun _ => ?_) (fun h => absurd (by decide) h) | refine And.intro (fun _ => ?_) (fun _ => ?_) | refine And.intro ?_ ?_)
    | refine k _ ?_
    | refine sx_up ?_ rfl
    | ((with_reducible refine (?_ : am_Does _ 11 _ _ _)); first | ((with_reducible refine (?_ : am_Does _ 11 (Sum.inr (Sum.inr 8) :: _) _ _)); refine w_more_X0_8 (ν := ν) _ _ ?_  (fun _ _ => ?_)) | ((with_reducible refine (?_ : am_Does _ 11 (Sum.inr (Sum.inr 15) :: _) _ _)); refine w_more_X0_15 (ν := ν) _ _ ?_  (fun _ _ => ?_)) | refine w_more_X0_8 (ν := ν) _ _ ?_  (fun _ _ => ?_) | refine w_more_X0_15 (ν := ν) _ _ ?_  (fun _ _ => ?_))
    | ((with_reducible refine (?_ : am_AW _ _ _ _ _ 34 _ _ _)); refine lp34  _ ?_)
    | ((with_reducible refine (?_ : am_AW _ _ _ _ _ 59 _ _ _)); refine lp59  _ ?_)
    | ((with_reducible refine (?_ : am_AW _ _ _ _ _ 61 _ _ _)); refine lp61' _ _ ?_ ?_ ?_)
    | refine And.intro (fun h => absurd h (by decide)) (fun _ => ?_)
    | refine And.intro (fun _ => ?_) (fun h => absurd (by decide) h)
    | refine And.intro (fun _ => ?_) (fun _ => ?_)
    | refine And.intro ?_ ?_
  all_goals (first | (with_reducible assumption) | omega | assumption | (simp only [am_c, am_up] at *; omega) | (simp [am_c, am_up] at *; omega))
theorem w_takeSettings_X0_8_1 {l : Launch} {μ : am_N} {Q : Option am_V → am_N → Prop} {ν : am_N}  (hS : sx ν μ)  (k : ∀ μ', sx ν μ' → Q none μ') : am_Does l 4 [.inr (.inr 8), .inr (.inr 1)] μ Q := by
  refine am_Does_of (Nat.le_of_ble_eq_true rfl) (Nat.le_of_ble_eq_true rfl) (Nat.le_of_ble_eq_true rfl) ?_
  have hb := sx_all hS
  refine am_go (ct := fun _ => false) am_oX0_takeSettings 300 ?_
  conv => whnf
  repeat' first
    | (refine (?_ : am_wp _ _ _ _ _ _ _ _ _ _ _ _); conv => whnf)
    | (refine (?_ : am_sw _ _ _ _); conv => whnf)
    | refine And.intro trivial ?_
    | exact trivial
    | (with_reducible assumption)
    | ((with_reducible refine (?_ : _ ∧ _)); first | (with_reducible first | refine am_jn am_q1 ?_ | refine am_jn am_q2 ?_ | refine am_jn am_q3 ?_ | refine am_jn am_q4 ?_ | refine am_jn am_q6 ?_ | refine am_jn am_q9 ?_ | refine am_jn am_p1 ?_ | refine am_jy am_p0 ?_ | refine am_kn am_q1 ?_ | refine am_kn am_q2 ?_ | refine am_kn am_q3 ?_ | refine am_kn am_q4 ?_ | refine am_kn am_q6 ?_ | refine am_kn am_q9 ?_ | refine am_kn am_p1 ?_ | refine am_ky am_p0 ?_) | refine And.intro (fun h => absurd h (by decide)) (fun _ => ?_) | refine And.intro (fun _ => ?_) (fun h => absurd (by decide) h) | refine And.intro (fun _ => ?_) (fun _ => ?_) | refine And.intro ?_ ?_)
    | refine k _ ?_
    | refine sx_up ?_ rfl
    | refine And.intro (fun h => absurd h (by decide)) (fun _ => ?_)
    | refine And.intro (fun _ => ?_) (fun h => absurd (by decide) h)
    | refine And.intro (fun _ => ?_) (fun _ => ?_)
    | refine And.intro ?_ ?_
  all_goals (first | (with_reducible assumption) | omega | assumption | (simp only [am_c, am_up] at *; omega) | (simp [am_c, am_up] at *; omega))
theorem w_takeRunner_X0_8_1 {l : Launch} {μ : am_N} {Q : Option am_V → am_N → Prop} {ν : am_N} (i j : Int) (hS : sx ν μ)  (k : ∀ μ', sx ν μ' → Q none μ') : am_Does l 5 [.inr (.inr 8), .inl i, .inr (.inr 1), .inl j] μ Q := by
  refine am_Does_of (Nat.le_of_ble_eq_true rfl) (Nat.le_of_ble_eq_true rfl) (Nat.le_of_ble_eq_true rfl) ?_
  have hb := sx_all hS
  refine am_go (ct := fun _ => false) am_oX0_takeRunner 300 ?_
  conv => whnf
  repeat' first
    | (refine (?_ : am_wp _ _ _ _ _ _ _ _ _ _ _ _); conv => whnf)
    | (refine (?_ : am_sw _ _ _ _); conv => whnf)
    | refine And.intro trivial ?_
    | exact trivial
    | (with_reducible assumption)
    | ((with_reducible refine (?_ : _ ∧ _)); first | (with_reducible first | refine am_jn am_q1 ?_ | refine am_jn am_q2 ?_ | refine am_jn am_q3 ?_ | refine am_jn am_q4 ?_ | refine am_jn am_q6 ?_ | refine am_jn am_q9 ?_ | refine am_jn am_p1 ?_ | refine am_jy am_p0 ?_ | refine am_kn am_q1 ?_ | refine am_kn am_q2 ?_ | refine am_kn am_q3 ?_ | refine am_kn am_q4 ?_ | refine am_kn am_q6 ?_ | refine am_kn am_q9 ?_ | refine am_kn am_p1 ?_ | refine am_ky am_p0 ?_) | refine And.intro (fun h => absurd h (by decide)) (fun _ => ?_) | refine And.intro (fun _ => ?_) (fun h => absurd (by decide) h) | refine And.intro (fun _ => ?_) (fun _ => ?_) | refine And.intro ?_ ?_)
    | refine k _ ?_
    | refine sx_up ?_ rfl
    | refine And.intro (fun h => absurd h (by decide)) (fun _ => ?_)
    | refine And.intro (fun _ => ?_) (fun h => absurd (by decide) h)
    | refine And.intro (fun _ => ?_) (fun _ => ?_)
    | refine And.intro ?_ ?_
  all_goals (first | (with_reducible assumption) | omega | assumption | (simp only [am_c, am_up] at *; omega) | (simp [am_c, am_up] at *; omega))
theorem w_takeSettings_X0_15_8 {l : Launch} {μ : am_N} {Q : Option am_V → am_N → Prop} {ν : am_N}  (hS : sx ν μ)  (k : ∀ μ', sx ν μ' → Q none μ') : am_Does l 4 [.inr (.inr 15), .inr (.inr 8)] μ Q := by
  refine am_Does_of (Nat.le_of_ble_eq_true rfl) (Nat.le_of_ble_eq_true rfl) (Nat.le_of_ble_eq_true rfl) ?_
  have hb := sx_all hS
  refine am_go (ct := fun _ => false) am_oX0_takeSettings 300 ?_
  conv => whnf
  repeat' first
    | (refine (?_ : am_wp _ _ _ _ _ _ _ _ _ _ _ _); conv => whnf)
    | (refine (?_ : am_sw _ _ _ _); conv => whnf)
    | refine And.intro trivial ?_
    | exact trivial
    | (with_reducible assumption)
    | ((with_reducible refine (?_ : _ ∧ _)); first | (with_reducible first | refine am_jn am_q1 ?_ | refine am_jn am_q2 ?_ | refine am_jn am_q3 ?_ | refine am_jn am_q4 ?_ | refine am_jn am_q6 ?_ | refine am_jn am_q9 ?_ | refine am_jn am_p1 ?_ | refine am_jy am_p0 ?_ | refine am_kn am_q1 ?_ | refine am_kn am_q2 ?_ | refine am_kn am_q3 ?_ | refine am_kn am_q4 ?_ | refine am_kn am_q6 ?_ | refine am_kn am_q9 ?_ | refine am_kn am_p1 ?_ | refine am_ky am_p0 ?_) | refine And.intro (fun h => absurd h (by decide)) (fun _ => ?_) | refine And.intro (fun _ => ?_) (fun h => absurd (by decide) h) | refine And.intro (fun _ => ?_) (fun _ => ?_) | refine And.intro ?_ ?_)
    | refine k _ ?_
    | refine sx_up ?_ rfl
    | refine And.intro (fun h => absurd h (by decide)) (fun _ => ?_)
    | refine And.intro (fun _ => ?_) (fun h => absurd (by decide) h)
    | refine And.intro (fun _ => ?_) (fun _ => ?_)
    | refine And.intro ?_ ?_
  all_goals (first | (with_reducible assumption) | omega | assumption | (simp only [am_c, am_up] at *; omega) | (simp [am_c, am_up] at *; omega))
theorem w_takeRunner_X0_15_8 {l : Launch} {μ : am_N} {Q : Option am_V → am_N → Prop} {ν : am_N} (i j : Int) (hS : sx ν μ)  (k : ∀ μ', sx ν μ' → Q none μ') : am_Does l 5 [.inr (.inr 15), .inl i, .inr (.inr 8), .inl j] μ Q := by
  refine am_Does_of (Nat.le_of_ble_eq_true rfl) (Nat.le_of_ble_eq_true rfl) (Nat.le_of_ble_eq_true rfl) ?_
  have hb := sx_all hS
  refine am_go (ct := fun _ => false) am_oX0_takeRunner 300 ?_
  conv => whnf
  repeat' first
    | (refine (?_ : am_wp _ _ _ _ _ _ _ _ _ _ _ _); conv => whnf)
    | (refine (?_ : am_sw _ _ _ _); conv => whnf)
    | refine And.intro trivial ?_
    | exact trivial
    | (with_reducible assumption)
    | ((with_reducible refine (?_ : _ ∧ _)); first | (with_reducible first | refine am_jn am_q1 ?_ | refine am_jn am_q2 ?_ | refine am_jn am_q3 ?_ | refine am_jn am_q4 ?_ | refine am_jn am_q6 ?_ | refine am_jn am_q9 ?_ | refine am_jn am_p1 ?_ | refine am_jy am_p0 ?_ | refine am_kn am_q1 ?_ | refine am_kn am_q2 ?_ | refine am_kn am_q3 ?_ | refine am_kn am_q4 ?_ | refine am_kn am_q6 ?_ | refine am_kn am_q9 ?_ | refine am_kn am_p1 ?_ | refine am_ky am_p0 ?_) | refine And.intro (fun h => absurd h (by decide)) (fun _ => ?_) | refine And.intro (fun _ => ?_) (fun h => absurd (by decide) h) | refine And.intro (fun _ => ?_) (fun _ => ?_) | refine And.intro ?_ ?_)
    | refine k _ ?_
    | refine sx_up ?_ rfl
    | refine And.intro (fun h => absurd h (by decide)) (fun _ => ?_)
    | refine And.intro (fun _ => ?_) (fun h => absurd (by decide) h)
    | refine And.intro (fun _ => ?_) (fun _ => ?_)
    | refine And.intro ?_ ?_
  all_goals (first | (with_reducible assumption) | omega | assumption | (simp only [am_c, am_up] at *; omega) | (simp [am_c, am_up] at *; omega))
theorem w_takeSettings_X0_15_1 {l : Launch} {μ : am_N} {Q : Option am_V → am_N → Prop} {ν : am_N}  (hS : sx ν μ)  (k : ∀ μ', sx ν μ' → Q none μ') : am_Does l 4 [.inr (.inr 15), .inr (.inr 1)] μ Q := by
  refine am_Does_of (Nat.le_of_ble_eq_true rfl) (Nat.le_of_ble_eq_true rfl) (Nat.le_of_ble_eq_true rfl) ?_
  have hb := sx_all hS
  refine am_go (ct := fun _ => false) am_oX0_takeSettings 300 ?_
  conv => whnf
  repeat' first
    | (refine (?_ : am_wp _ _ _ _ _ _ _ _ _ _ _ _); conv => whnf)
    | (refine (?_ : am_sw _ _ _ _); conv => whnf)
    | refine And.intro trivial ?_
    | exact trivial
    | (with_reducible assumption)
    | ((with_reducible refine (?_ : _ ∧ _)); first | (with_reducible first | refine am_jn am_q1 ?_ | refine am_jn am_q2 ?_ | refine am_jn am_q3 ?_ | refine am_jn am_q4 ?_ | refine am_jn am_q6 ?_ | refine am_jn am_q9 ?_ | refine am_jn am_p1 ?_ | refine am_jy am_p0 ?_ | refine am_kn am_q1 ?_ | refine am_kn am_q2 ?_ | refine am_kn am_q3 ?_ | refine am_kn am_q4 ?_ | refine am_kn am_q6 ?_ | refine am_kn am_q9 ?_ | refine am_kn am_p1 ?_ | refine am_ky am_p0 ?_) | refine And.intro (fun h => absurd h (by decide)) (fun _ => ?_) | refine And.intro (fun _ => ?_) (fun h => absurd (by decide) h) | refine And.intro (fun _ => ?_) (fun _ => ?_) | refine And.intro ?_ ?_)
    | refine k _ ?_
    | refine sx_up ?_ rfl
    | refine And.intro (fun h => absurd h (by decide)) (fun _ => ?_)
    | refine And.intro (fun _ => ?_) (fun h => absurd (by decide) h)
    | refine And.intro (fun _ => ?_) (fun _ => ?_)
    | refine And.intro ?_ ?_
  all_goals (first | (with_reducible assumption) | omega | assumption | (simp only [am_c, am_up] at *; omega) | (simp [am_c, am_up] at *; omega))
theorem w_takeRunner_X0_15_1 {l : Launch} {μ : am_N} {Q : Option am_V → am_N → Prop} {ν : am_N} (i j : Int) (hS : sx ν μ)  (k : ∀ μ', sx ν μ' → Q none μ') : am_Does l 5 [.inr (.inr 15), .inl i, .inr (.inr 1), .inl j] μ Q := by
  refine am_Does_of (Nat.le_of_ble_eq_true rfl) (Nat.le_of_ble_eq_true rfl) (Nat.le_of_ble_eq_true rfl) ?_
  have hb := sx_all hS
  refine am_go (ct := fun _ => false) am_oX0_takeRunner 300 ?_
  conv => whnf
  repeat' first
    | (refine (?_ : am_wp _ _ _ _ _ _ _ _ _ _ _ _); conv => whnf)
    | (refine (?_ : am_sw _ _ _ _); conv => whnf)
    | refine And.intro trivial ?_
    | exact trivial
    | (with_reducible assumption)
    | ((with_reducible refine (?_ : _ ∧ _)); first | (with_reducible first | refine am_jn am_q1 ?_ | refine am_jn am_q2 ?_ | refine am_jn am_q3 ?_ | refine am_jn am_q4 ?_ | refine am_jn am_q6 ?_ | refine am_jn am_q9 ?_ | refine am_jn am_p1 ?_ | refine am_jy am_p0 ?_ | refine am_kn am_q1 ?_ | refine am_kn am_q2 ?_ | refine am_kn am_q3 ?_ | refine am_kn am_q4 ?_ | refine am_kn am_q6 ?_ | refine am_kn am_q9 ?_ | refine am_kn am_p1 ?_ | refine am_ky am_p0 ?_) | refine And.intro (fun h => absurd h (by decide)) (fun _ => ?_) | refine And.intro (fun _ => ?_) (fun h => absurd (by decide) h) | refine And.intro (fun _ => ?_) (fun _ => ?_) | refine And.intro ?_ ?_)
    | refine k _ ?_
    | refine sx_up ?_ rfl
    | refine And.intro (fun h => absurd h (by decide)) (fun _ => ?_)
    | refine And.intro (fun _ => ?_) (fun h => absurd (by decide) h)
    | refine And.intro (fun _ => ?_) (fun _ => ?_)
    | refine And.intro ?_ ?_
  all_goals (first | (with_reducible assumption) | omega | assumption | (simp only [am_c, am_up] at *; omega) | (simp [am_c, am_up] at *; omega))
theorem w_take_X0_8_1 {l : Launch} {μ : am_N} {Q : Option am_V → am_N → Prop} {ν : am_N}  (hS : sx ν μ)  (k : ∀ μ', sx ν μ' → Q none μ') : am_Does l 2 [.inr (.inr 8), .inr (.inr 1)] μ Q := by
  refine am_Does_of (Nat.le_of_ble_eq_true rfl) (Nat.le_of_ble_eq_true rfl) (Nat.le_of_ble_eq_true rfl) ?_
  have hb := sx_all hS
  have lp15 : ∀ (m : Nat) (i : Int) (μ : am_N) , sx ν μ → 0 ≤ i → i ≤ 4 → 4 - i < (m : Int) → am_AW l 0 (fun _ => 0) 2 Q 15 [some (.inr (.inr 8)), some (.inr (.inr 1)), some (.inl i)] [] μ := by
    intro m
    induction m with
    | zero =>
      intro i μ hv0 hv1 hv2 hm
      have hb := sx_all hv0
      exfalso
      omega
    | succ m ih =>
      intro i μ hv0 hv1 hv2 hm
      have hb := sx_all hv0
      refine am_go (ct := fun pc => Nat.beq pc 15) am_oX0_take 300 ?_
      conv => whnf
      repeat' first
        | (refine (?_ : am_wp _ _ _ _ _ _ _ _ _ _ _ _); conv => whnf)
        | (refine (?_ : am_sw _ _ _ _); conv => whnf)
        | refine And.intro trivial ?_
        | exact trivial
        | (with_reducible assumption)
        | refine sx_c8 ?_ ?_
        | exact (sx_all (ν := ν) (by assumption)).1
        | ((with_reducible refine (?_ : _ ∧ _)); first | (with_reducible first | refine am_jn am_q1 ?_ | refine am_jn am_q2 ?_ | refine am_jn am_q3 ?_ | refine am_jn am_q4 ?_ | refine am_jn am_q6 ?_ | refine am_jn am_q9 ?_ | refine am_jn am_p1 ?_ | refine am_jy am_p0 ?_ | refine am_kn am_q1 ?_ | refine am_kn am_q2 ?_ | refine am_kn am_q3 ?_ | refine am_kn am_q4 ?_ | refine am_kn am_q6 ?_ | refine am_kn am_q9 ?_ | refine am_kn am_p1 ?_ | refine am_ky am_p0 ?_) | refine And.intro (fun h => absurd h (by decide)) (fun _ => ?_) | refine And.intro (fun _ => ?_) (fun h => absurd (by decide) h) | refine And.intro (fun _ => ?_) (fun _ => ?_) | refine And.intro ?_ ?_)
        | refine k _ ?_
        | refine sx_up ?_ rfl
        | ((with_reducible refine (?_ : am_Does _ 4 _ _ _)); first | ((with_reducible refine (?_ : am_Does _ 4 (Sum.inr (Sum.inr 8) :: Sum.inr (Sum.inr 1) :: _) _ _)); refine w_takeSettings_X0_8_1 (ν := ν)  ?_  (fun _ _ => ?_)) | ((with_reducible refine (?_ : am_Does _ 4 (Sum.inr (Sum.inr 15) :: Sum.inr (Sum.inr 8) :: _) _ _)); refine w_takeSettings_X0_15_8 (ν := ν)  ?_  (fun _ _ => ?_)) | ((with_reducible refine (?_ : am_Does _ 4 (Sum.inr (Sum.inr 15) :: Sum.inr (Sum.inr 1) :: _) _ _)); refine w_takeSettings_X0_15_1 (ν := ν)  ?_  (fun _ _ => ?_)) | refine w_takeSettings_X0_8_1 (ν := ν)  ?_  (fun _ _ => ?_) | refine w_takeSettings_X0_15_8 (ν := ν)  ?_  (fun _ _ => ?_) | refine w_takeSettings_X0_15_1 (ν := ν)  ?_  (fun _ _ => ?_))
        | ((with_reducible refine (?_ : am_Does _ 5 _ _ _)); first | ((with_reducible refine (?_ : am_Does _ 5 (Sum.inr (Sum.inr 8) :: _ :: Sum.inr (Sum.inr 1) :: _) _ _)); refine w_takeRunner_X0_8_1 (ν := ν) _ _ ?_  (fun _ _ => ?_)) | ((with_reducible refine (?_ : am_Does _ 5 (Sum.inr (Sum.inr 15) :: _ :: Sum.inr (Sum.inr 8) :: _) _ _)); refine w_takeRunner_X0_15_8 (ν := ν) _ _ ?_  (fun _ _ => ?_)) | ((with_reducible refine (?_ : am_Does _ 5 (Sum.inr (Sum.inr 15) :: _ :: Sum.inr (Sum.inr 1) :: _) _ _)); refine w_takeRunner_X0_15_1 (ν := ν) _ _ ?_  (fun _ _ => ?_)) | refine w_takeRunner_X0_8_1 (ν := ν) _ _ ?_  (fun _ _ => ?_) | refine w_takeRunner_X0_15_8 (ν := ν) _ _ ?_  (fun _ _ => ?_) | refine w_takeRunner_X0_15_1 (ν := ν) _ _ ?_  (fun _ _ => ?_))
        | ((with_reducible refine (?_ : am_AW _ _ _ _ _ 15 _ _ _)); refine ih _ _ ?_ ?_ ?_ ?_)
        | refine And.intro (fun h => absurd h (by decide)) (fun _ => ?_)
        | refine And.intro (fun _ => ?_) (fun h => absurd (by decide) h)
        | refine And.intro (fun _ => ?_) (fun _ => ?_)
        | refine And.intro ?_ ?_
      all_goals (first | (with_reducible assumption) | omega | assumption | (simp only [am_c, am_up] at *; omega) | (simp [am_c, am_up] at *; omega))
  have lp15' : ∀ (i : Int) (μ : am_N) , sx ν μ → 0 ≤ i → i ≤ 4 → am_AW l 0 (fun _ => 0) 2 Q 15 [some (.inr (.inr 8)), some (.inr (.inr 1)), some (.inl i)] [] μ := fun i μ hv0 hv1 hv2 => lp15 ((4 - i) + 1).toNat i μ hv0 hv1 hv2 (by omega)
  refine am_go (ct := fun pc => Nat.beq pc 15) am_oX0_take 300 ?_
  conv => whnf
  repeat' first
    | (refine (?_ : am_wp _ _ _ _ _ _ _ _ _ _ _ _); conv => whnf)
    | (refine (?_ : am_sw _ _ _ _); conv => whnf)
    | refine And.intro trivial ?_
    | exact trivial
    | (with_reducible assumption)
    | refine sx_c8 ?_ ?_
    | exact (sx_all (ν := ν) (by assumption)).1
    | ((with_reducible refine (?_ : _ ∧ _)); first | (with_reducible first | refine am_jn am_q1 ?_ | refine am_jn am_q2 ?_ | refine am_jn am_q3 ?_ | refine am_jn am_q4 ?_ | refine am_jn am_q6 ?_ | refine am_jn am_q9 ?_ | refine am_jn am_p1 ?_ | refine am_jy am_p0 ?_ | refine am_kn am_q1 ?_ | refine am_kn am_q2 ?_ | refine am_kn am_q3 ?_ | refine am_kn am_q4 ?_ | refine am_kn am_q6 ?_ | refine am_kn am_q9 ?_ | refine am_kn am_p1 ?_ | refine am_ky am_p0 ?_) | refine And.intro (fun h => absurd h (by decide)) (fun _ => ?_) | refine And.intro (fun _ => ?_) (fun h => absurd (by decide) h) | refine And.intro (fun _ => ?_) (fun _ => ?_) | refine And.intro ?_ ?_)
    | refine k _ ?_
    | refine sx_up ?_ rfl
    | ((with_reducible refine (?_ : am_Does _ 4 _ _ _)); first | ((with_reducible refine (?_ : am_Does _ 4 (Sum.inr (Sum.inr 8) :: Sum.inr (Sum.inr 1) :: _) _ _)); refine w_takeSettings_X0_8_1 (ν := ν)  ?_  (fun _ _ => ?_)) | ((with_reducible refine (?_ : am_Does _ 4 (Sum.inr (Sum.inr 15) :: Sum.inr (Sum.inr 8) :: _) _ _)); refine w_takeSettings_X0_15_8 (ν := ν)  ?_  (fun _ _ => ?_)) | ((with_reducible refine (?_ : am_Does _ 4 (Sum.inr (Sum.inr 15) :: Sum.inr (Sum.inr 1) :: _) _ _)); refine w_takeSettings_X0_15_1 (ν := ν)  ?_  (fun _ _ => ?_)) | refine w_takeSettings_X0_8_1 (ν := ν)  ?_  (fun _ _ => ?_) | refine w_takeSettings_X0_15_8 (ν := ν)  ?_  (fun _ _ => ?_) | refine w_takeSettings_X0_15_1 (ν := ν)  ?_  (fun _ _ => ?_))
    | ((with_reducible refine (?_ : am_Does _ 5 _ _ _)); first | ((with_reducible refine (?_ : am_Does _ 5 (Sum.inr (Sum.inr 8) :: _ :: Sum.inr (Sum.inr 1) :: _) _ _)); refine w_takeRunner_X0_8_1 (ν := ν) _ _ ?_  (fun _ _ => ?_)) | ((with_reducible refine (?_ : am_Does _ 5 (Sum.inr (Sum.inr 15) :: _ :: Sum.inr (Sum.inr 8) :: _) _ _)); refine w_takeRunner_X0_15_8 (ν := ν) _ _ ?_  (fun _ _ => ?_)) | ((with_reducible refine (?_ : am_Does _ 5 (Sum.inr (Sum.inr 15) :: _ :: Sum.inr (Sum.inr 1) :: _) _ _)); refine w_takeRunner_X0_15_1 (ν := ν) _ _ ?_  (fun _ _ => ?_)) | refine w_takeRunner_X0_8_1 (ν := ν) _ _ ?_  (fun _ _ => ?_) | refine w_takeRunner_X0_15_8 (ν := ν) _ _ ?_  (fun _ _ => ?_) | refine w_takeRunner_X0_15_1 (ν := ν) _ _ ?_  (fun _ _ => ?_))
    | ((with_reducible refine (?_ : am_AW _ _ _ _ _ 15 _ _ _)); refine lp15' _ _ ?_ ?_ ?_)
    | refine And.intro (fun h => absurd h (by decide)) (fun _ => ?_)
    | refine And.intro (fun _ => ?_) (fun h => absurd (by decide) h)
    | refine And.intro (fun _ => ?_) (fun _ => ?_)
    | refine And.intro ?_ ?_
  all_goals (first | (with_reducible assumption) | omega | assumption | (simp only [am_c, am_up] at *; omega) | (simp [am_c, am_up] at *; omega))
theorem w_take_X0_15_8 {l : Launch} {μ : am_N} {Q : Option am_V → am_N → Prop} {ν : am_N}  (hS : sx ν μ)  (k : ∀ μ', sx ν μ' → Q none μ') : am_Does l 2 [.inr (.inr 15), .inr (.inr 8)] μ Q := by
  refine am_Does_of (Nat.le_of_ble_eq_true rfl) (Nat.le_of_ble_eq_true rfl) (Nat.le_of_ble_eq_true rfl) ?_
  have hb := sx_all hS
  have lp15 : ∀ (m : Nat) (i : Int) (μ : am_N) , sx ν μ → 0 ≤ i → i ≤ 4 → 4 - i < (m : Int) → am_AW l 0 (fun _ => 0) 2 Q 15 [some (.inr (.inr 15)), some (.inr (.inr 8)), some (.inl i)] [] μ := by
    intro m
    induction m with
    | zero =>
      intro i μ hv0 hv1 hv2 hm
      have hb := sx_all hv0
      exfalso
      omega
    | succ m ih =>
      intro i μ hv0 hv1 hv2 hm
      have hb := sx_all hv0
      refine am_go (ct := fun pc => Nat.beq pc 15) am_oX0_take 300 ?_
      conv => whnf
      repeat' first
        | (refine (?_ : am_wp _ _ _ _ _ _ _ _ _ _ _ _); conv => whnf)
        | (refine (?_ : am_sw _ _ _ _); conv => whnf)
        | refine And.intro trivial ?_
        | exact trivial
        | (with_reducible assumption)
        | refine sx_c15 ?_ ?_
        | exact (sx_all (ν := ν) (by assumption)).2.1
        | ((with_reducible refine (?_ : _ ∧ _)); first | (with_reducible first | refine am_jn am_q1 ?_ | refine am_jn am_q2 ?_ | refine am_jn am_q3 ?_ | refine am_jn am_q4 ?_ | refine am_jn am_q6 ?_ | refine am_jn am_q9 ?_ | refine am_jn am_p1 ?_ | refine am_jy am_p0 ?_ | refine am_kn am_q1 ?_ | refine am_kn am_q2 ?_ | refine am_kn am_q3 ?_ | refine am_kn am_q4 ?_ | refine am_kn am_q6 ?_ | refine am_kn am_q9 ?_ | refine am_kn am_p1 ?_ | refine am_ky am_p0 ?_) | refine And.intro (fun h => absurd h (by decide)) (fun _ => ?_) | refine And.intro (fun _ => ?_) (fun h => absurd (by decide) h) | refine And.intro (fun _ => ?_) (fun _ => ?_) | refine And.intro ?_ ?_)
        | refine k _ ?_
        | refine sx_up ?_ rfl
        | ((with_reducible refine (?_ : am_Does _ 4 _ _ _)); first | ((with_reducible refine (?_ : am_Does _ 4 (Sum.inr (Sum.inr 8) :: Sum.inr (Sum.inr 1) :: _) _ _)); refine w_takeSettings_X0_8_1 (ν := ν)  ?_  (fun _ _ => ?_)) | ((with_reducible refine (?_ : am_Does _ 4 (Sum.inr (Sum.inr 15) :: Sum.inr (Sum.inr 8) :: _) _ _)); refine w_takeSettings_X0_15_8 (ν := ν)  ?_  (fun _ _ => ?_)) | ((with_reducible refine (?_ : am_Does _ 4 (Sum.inr (Sum.inr 15) :: Sum.inr (Sum.inr 1) :: _) _ _)); refine w_takeSettings_X0_15_1 (ν := ν)  ?_  (fun _ _ => ?_)) | refine w_takeSettings_X0_8_1 (ν := ν)  ?_  (fun _ _ => ?_) | refine w_takeSettings_X0_15_8 (ν := ν)  ?_  (fun _ _ => ?_) | refine w_takeSettings_X0_15_1 (ν := ν)  ?_  (fun _ _ => ?_))
        | ((with_reducible refine (?_ : am_Does _ 5 _ _ _)); first | ((with_reducible refine (?_ : am_Does _ 5 (Sum.inr (Sum.inr 8) :: _ :: Sum.inr (Sum.inr 1) :: _) _ _)); refine w_takeRunner_X0_8_1 (ν := ν) _ _ ?_  (fun _ _ => ?_)) | ((with_reducible refine (?_ : am_Does _ 5 (Sum.inr (Sum.inr 15) :: _ :: Sum.inr (Sum.inr 8) :: _) _ _)); refine w_takeRunner_X0_15_8 (ν := ν) _ _ ?_  (fun _ _ => ?_)) | ((with_reducible refine (?_ : am_Does _ 5 (Sum.inr (Sum.inr 15) :: _ :: Sum.inr (Sum.inr 1) :: _) _ _)); refine w_takeRunner_X0_15_1 (ν := ν) _ _ ?_  (fun _ _ => ?_)) | refine w_takeRunner_X0_8_1 (ν := ν) _ _ ?_  (fun _ _ => ?_) | refine w_takeRunner_X0_15_8 (ν := ν) _ _ ?_  (fun _ _ => ?_) | refine w_takeRunner_X0_15_1 (ν := ν) _ _ ?_  (fun _ _ => ?_))
        | ((with_reducible refine (?_ : am_AW _ _ _ _ _ 15 _ _ _)); refine ih _ _ ?_ ?_ ?_ ?_)
        | refine And.intro (fun h => absurd h (by decide)) (fun _ => ?_)
        | refine And.intro (fun _ => ?_) (fun h => absurd (by decide) h)
        | refine And.intro (fun _ => ?_) (fun _ => ?_)
        | refine And.intro ?_ ?_
      all_goals (first | (with_reducible assumption) | omega | assumption | (simp only [am_c, am_up] at *; omega) | (simp [am_c, am_up] at *; omega))
  have lp15' : ∀ (i : Int) (μ : am_N) , sx ν μ → 0 ≤ i → i ≤ 4 → am_AW l 0 (fun _ => 0) 2 Q 15 [some (.inr (.inr 15)), some (.inr (.inr 8)), some (.inl i)] [] μ := fun i μ hv0 hv1 hv2 => lp15 ((4 - i) + 1).toNat i μ hv0 hv1 hv2 (by omega)
  refine am_go (ct := fun pc => Nat.beq pc 15) am_oX0_take 300 ?_
  conv => whnf
  repeat' first
    | (refine (?_ : am_wp _ _ _ _ _ _ _ _ _ _ _ _); conv => whnf)
    | (refine (?_ : am_sw _ _ _ _); conv => whnf)
    | refine And.intro trivial ?_
    | exact trivial
    | (with_reducible assumption)
    | refine sx_c15 ?_ ?_
    | exact (sx_all (ν := ν) (by assumption)).2.1
    | ((with_reducible refine (?_ : _ ∧ _)); first | (with_reducible first | refine am_jn am_q1 ?_ | refine am_jn am_q2 ?_ | refine am_jn am_q3 ?_ | refine am_jn am_q4 ?_ | refine am_jn am_q6 ?_ | refine am_jn am_q9 ?_ | refine am_jn am_p1 ?_ | refine am_jy am_p0 ?_ | refine am_kn am_q1 ?_ | refine am_kn am_q2 ?_ | refine am_kn am_q3 ?_ | refine am_kn am_q4 ?_ | refine am_kn am_q6 ?_ | refine am_kn am_q9 ?_ | refine am_kn am_p1 ?_ | refine am_ky am_p0 ?_) | refine And.intro (fun h => absurd h (by decide)) (fun _ => ?_) | refine And.intro (fun _ => ?_) (fun h => absurd (by decide) h) | refine And.intro (fun _ => ?_) (fun _ => ?_) | refine And.intro ?_ ?_)
    | refine k _ ?_
    | refine sx_up ?_ rfl
    | ((with_reducible refine (?_ : am_Does _ 4 _ _ _)); first | ((with_reducible refine (?_ : am_Does _ 4 (Sum.inr (Sum.inr 8) :: Sum.inr (Sum.inr 1) :: _) _ _)); refine w_takeSettings_X0_8_1 (ν := ν)  ?_  (fun _ _ => ?_)) | ((with_reducible refine (?_ : am_Does _ 4 (Sum.inr (Sum.inr 15) :: Sum.inr (Sum.inr 8) :: _) _ _)); refine w_takeSettings_X0_15_8 (ν := ν)  ?_  (fun _ _ => ?_)) | ((with_reducible refine (?_ : am_Does _ 4 (Sum.inr (Sum.inr 15) :: Sum.inr (Sum.inr 1) :: _) _ _)); refine w_takeSettings_X0_15_1 (ν := ν)  ?_  (fun _ _ => ?_)) | refine w_takeSettings_X0_8_1 (ν := ν)  ?_  (fun _ _ => ?_) | refine w_takeSettings_X0_15_8 (ν := ν)  ?_  (fun _ _ => ?_) | refine w_takeSettings_X0_15_1 (ν := ν)  ?_  (fun _ _ => ?_))
    | ((with_reducible refine (?_ : am_Does _ 5 _ _ _)); first | ((with_reducible refine (?_ : am_Does _ 5 (Sum.inr (Sum.inr 8) :: _ :: Sum.inr (Sum.inr 1) :: _) _ _)); refine w_takeRunner_X0_8_1 (ν := ν) _ _ ?_  (fun _ _ => ?_)) | ((with_reducible refine (?_ : am_Does _ 5 (Sum.inr (Sum.inr 15) :: _ :: Sum.inr (Sum.inr 8) :: _) _ _)); refine w_takeRunner_X0_15_8 (ν := ν) _ _ ?_  (fun _ _ => ?_)) | ((with_reducible refine (?_ : am_Does _ 5 (Sum.inr (Sum.inr 15) :: _ :: Sum.inr (Sum.inr 1) :: _) _ _)); refine w_takeRunner_X0_15_1 (ν := ν) _ _ ?_  (fun _ _ => ?_)) | refine w_takeRunner_X0_8_1 (ν := ν) _ _ ?_  (fun _ _ => ?_) | refine w_takeRunner_X0_15_8 (ν := ν) _ _ ?_  (fun _ _ => ?_) | refine w_takeRunner_X0_15_1 (ν := ν) _ _ ?_  (fun _ _ => ?_))
    | ((with_reducible refine (?_ : am_AW _ _ _ _ _ 15 _ _ _)); refine lp15' _ _ ?_ ?_ ?_)
    | refine And.intro (fun h => absurd h (by decide)) (fun _ => ?_)
    | refine And.intro (fun _ => ?_) (fun h => absurd (by decide) h)
    | refine And.intro (fun _ => ?_) (fun _ => ?_)
    | refine And.intro ?_ ?_
  all_goals (first | (with_reducible assumption) | omega | assumption | (simp only [am_c, am_up] at *; omega) | (simp [am_c, am_up] at *; omega))
theorem w_takeTwo_X0_15_1 {l : Launch} {μ : am_N} {Q : Option am_V → am_N → Prop} {ν : am_N} (i j : Int) (hS : sx ν μ)  (k : ∀ μ', sx ν μ' → Q none μ') : am_Does l 3 [.inr (.inr 15), .inr (.inr 1), .inl i, .inl j] μ Q := by
  refine am_Does_of (Nat.le_of_ble_eq_true rfl) (Nat.le_of_ble_eq_true rfl) (Nat.le_of_ble_eq_true rfl) ?_
  have hb := sx_all hS
  refine am_go (ct := fun _ => false) am_oX0_takeTwo 300 ?_
  conv => whnf
  repeat' first
    | (refine (?_ : am_wp _ _ _ _ _ _ _ _ _ _ _ _); conv => whnf)
    | (refine (?_ : am_sw _ _ _ _); conv => whnf)
    | refine And.intro trivial ?_
    | exact trivial
    | (with_reducible assumption)
    | refine sx_c15 ?_ ?_
    | ((with_reducible refine (?_ : _ ∧ _)); first | (with_reducible first | refine am_jn am_q1 ?_ | refine am_jn am_q2 ?_ | refine am_jn am_q3 ?_ | refine am_jn am_q4 ?_ | refine am_jn am_q6 ?_ | refine am_jn am_q9 ?_ | refine am_jn am_p1 ?_ | refine am_jy am_p0 ?_ | refine am_kn am_q1 ?_ | refine am_kn am_q2 ?_ | refine am_kn am_q3 ?_ | refine am_kn am_q4 ?_ | refine am_kn am_q6 ?_ | refine am_kn am_q9 ?_ | refine am_kn am_p1 ?_ | refine am_ky am_p0 ?_) | refine And.intro (fun h => absurd h (by decide)) (fun _ => ?_) | refine And.intro (fun _ => ?_) (fun h => absurd (by decide) h) | refine And.intro (fun _ => ?_) (fun _ => ?_) | refine And.intro ?_ ?_)
    | refine k _ ?_
    | refine sx_up ?_ rfl
    | ((with_reducible refine (?_ : am_Does _ 4 _ _ _)); first | ((with_reducible refine (?_ : am_Does _ 4 (Sum.inr (Sum.inr 8) :: Sum.inr (Sum.inr 1) :: _) _ _)); refine w_takeSettings_X0_8_1 (ν := ν)  ?_  (fun _ _ => ?_)) | ((with_reducible refine (?_ : am_Does _ 4 (Sum.inr (Sum.inr 15) :: Sum.inr (Sum.inr 8) :: _) _ _)); refine w_takeSettings_X0_15_8 (ν := ν)  ?_  (fun _ _ => ?_)) | ((with_reducible refine (?_ : am_Does _ 4 (Sum.inr (Sum.inr 15) :: Sum.inr (Sum.inr 1) :: _) _ _)); refine w_takeSettings_X0_15_1 (ν := ν)  ?_  (fun _ _ => ?_)) | refine w_takeSettings_X0_8_1 (ν := ν)  ?_  (fun _ _ => ?_) | refine w_takeSettings_X0_15_8 (ν := ν)  ?_  (fun _ _ => ?_) | refine w_takeSettings_X0_15_1 (ν := ν)  ?_  (fun _ _ => ?_))
    | ((with_reducible refine (?_ : am_Does _ 5 _ _ _)); first | ((with_reducible refine (?_ : am_Does _ 5 (Sum.inr (Sum.inr 8) :: _ :: Sum.inr (Sum.inr 1) :: _) _ _)); refine w_takeRunner_X0_8_1 (ν := ν) _ _ ?_  (fun _ _ => ?_)) | ((with_reducible refine (?_ : am_Does _ 5 (Sum.inr (Sum.inr 15) :: _ :: Sum.inr (Sum.inr 8) :: _) _ _)); refine w_takeRunner_X0_15_8 (ν := ν) _ _ ?_  (fun _ _ => ?_)) | ((with_reducible refine (?_ : am_Does _ 5 (Sum.inr (Sum.inr 15) :: _ :: Sum.inr (Sum.inr 1) :: _) _ _)); refine w_takeRunner_X0_15_1 (ν := ν) _ _ ?_  (fun _ _ => ?_)) | refine w_takeRunner_X0_8_1 (ν := ν) _ _ ?_  (fun _ _ => ?_) | refine w_takeRunner_X0_15_8 (ν := ν) _ _ ?_  (fun _ _ => ?_) | refine w_takeRunner_X0_15_1 (ν := ν) _ _ ?_  (fun _ _ => ?_))
    | refine And.intro (fun h => absurd h (by decide)) (fun _ => ?_)
    | refine And.intro (fun _ => ?_) (fun h => absurd (by decide) h)
    | refine And.intro (fun _ => ?_) (fun _ => ?_)
    | refine And.intro ?_ ?_
  all_goals (first | (with_reducible assumption) | omega | assumption | (simp only [am_c, am_up] at *; omega) | (simp [am_c, am_up] at *; omega))
theorem w_startsAs_X0_8_15 {l : Launch} {μ : am_N} {Q : Option am_V → am_N → Prop} {ν : am_N}  (hS : sx ν μ)  (k : ∀ r, Q (some (.inl r)) μ) : am_Does l 13 [.inr (.inr 8), .inr (.inr 15)] μ Q := by
  refine am_Does_of (Nat.le_of_ble_eq_true rfl) (Nat.le_of_ble_eq_true rfl) (Nat.le_of_ble_eq_true rfl) ?_
  have hb := sx_all hS
  have lp2 : ∀ (m : Nat) (i : Int) , 0 ≤ i → i ≤ 4 → 4 - i < (m : Int) → am_AW l 0 (fun _ => 0) 13 Q 2 [some (.inr (.inr 8)), some (.inr (.inr 15)), some (.inl i)] [] μ := by
    intro m
    induction m with
    | zero =>
      intro i  hv0 hv1 hm
      exfalso
      omega
    | succ m ih =>
      intro i  hv0 hv1 hm
      refine am_go (ct := fun pc => Nat.beq pc 2) am_oX0_startsAs 300 ?_
      conv => whnf
      repeat' first
        | (refine (?_ : am_wp _ _ _ _ _ _ _ _ _ _ _ _); conv => whnf)
        | (refine (?_ : am_sw _ _ _ _); conv => whnf)
        | refine And.intro trivial ?_
        | exact trivial
        | (with_reducible assumption)
        | ((with_reducible refine (?_ : _ ∧ _)); first | (with_reducible first | refine am_jn am_q1 ?_ | refine am_jn am_q2 ?_ | refine am_jn am_q3 ?_ | refine am_jn am_q4 ?_ | refine am_jn am_q6 ?_ | refine am_jn am_q9 ?_ | refine am_jn am_p1 ?_ | refine am_jy am_p0 ?_ | refine am_kn am_q1 ?_ | refine am_kn am_q2 ?_ | refine am_kn am_q3 ?_ | refine am_kn am_q4 ?_ | refine am_kn am_q6 ?_ | refine am_kn am_q9 ?_ | refine am_kn am_p1 ?_ | refine am_ky am_p0 ?_) | refine And.intro (fun h => absurd h (by decide)) (fun _ => ?_) | refine And.intro (fun _ => ?_) (fun h => absurd (by decide) h) | refine And.intro (fun _ => ?_) (fun _ => ?_) | refine And.intro ?_ ?_)
        | exact k _
        | refine sx_up ?_ rfl
        | ((with_reducible refine (?_ : am_AW _ _ _ _ _ 2 _ _ _)); refine ih _  ?_ ?_ ?_)
        | refine And.intro (fun h => absurd h (by decide)) (fun _ => ?_)
        | refine And.intro (fun _ => ?_) (fun h => absurd (by decide) h)
        | refine And.intro (fun _ => ?_) (fun _ => ?_)
        | refine And.intro ?_ ?_
      all_goals (first | (with_reducible assumption) | omega | assumption | (simp only [am_c, am_up] at *; omega) | (simp [am_c, am_up] at *; omega))
  have lp2' : ∀ (i : Int) , 0 ≤ i → i ≤ 4 → am_AW l 0 (fun _ => 0) 13 Q 2 [some (.inr (.inr 8)), some (.inr (.inr 15)), some (.inl i)] [] μ := fun i  hv0 hv1 => lp2 ((4 - i) + 1).toNat i  hv0 hv1 (by omega)
  refine am_go (ct := fun pc => Nat.beq pc 2) am_oX0_startsAs 300 ?_
  conv => whnf
  repeat' first
    | (refine (?_ : am_wp _ _ _ _ _ _ _ _ _ _ _ _); conv => whnf)
    | (refine (?_ : am_sw _ _ _ _); conv => whnf)
    | refine And.intro trivial ?_
    | exact trivial
    | (with_reducible assumption)
    | ((with_reducible refine (?_ : _ ∧ _)); first | (with_reducible first | refine am_jn am_q1 ?_ | refine am_jn am_q2 ?_ | refine am_jn am_q3 ?_ | refine am_jn am_q4 ?_ | refine am_jn am_q6 ?_ | refine am_jn am_q9 ?_ | refine am_jn am_p1 ?_ | refine am_jy am_p0 ?_ | refine am_kn am_q1 ?_ | refine am_kn am_q2 ?_ | refine am_kn am_q3 ?_ | refine am_kn am_q4 ?_ | refine am_kn am_q6 ?_ | refine am_kn am_q9 ?_ | refine am_kn am_p1 ?_ | refine am_ky am_p0 ?_) | refine And.intro (fun h => absurd h (by decide)) (fun _ => ?_) | refine And.intro (fun _ => ?_) (fun h => absurd (by decide) h) | refine And.intro (fun _ => ?_) (fun _ => ?_) | refine And.intro ?_ ?_)
    | exact k _
    | refine sx_up ?_ rfl
    | ((with_reducible refine (?_ : am_AW _ _ _ _ _ 2 _ _ _)); refine lp2' _  ?_ ?_)
    | refine And.intro (fun h => absurd h (by decide)) (fun _ => ?_)
    | refine And.intro (fun _ => ?_) (fun h => absurd (by decide) h)
    | refine And.intro (fun _ => ?_) (fun _ => ?_)
    | refine And.intro ?_ ?_
  all_goals (first | (with_reducible assumption) | omega | assumption | (simp only [am_c, am_up] at *; omega) | (simp [am_c, am_up] at *; omega))
theorem w_sum_X0_6 {l : Launch} {μ : am_N} {Q : Option am_V → am_N → Prop} {ν : am_N}  (hS : sx ν μ)  (k : ∀ r, Q (some (.inl r)) μ) : am_Does l 14 [.inr (.inr 1), .inr (.inr 6)] μ Q := by
  refine am_Does_of (Nat.le_of_ble_eq_true rfl) (Nat.le_of_ble_eq_true rfl) (Nat.le_of_ble_eq_true rfl) ?_
  have hb := sx_all hS
  have lp4 : ∀ (m : Nat) (s i : Int) , 0 ≤ i → i ≤ 4 → 4 - i < (m : Int) → am_AW l 0 (fun _ => 0) 14 Q 4 [some (.inr (.inr 1)), some (.inr (.inr 6)), some (.inl s), some (.inl i)] [] μ := by
    intro m
    induction m with
    | zero =>
      intro s i  hv0 hv1 hm
      exfalso
      omega
    | succ m ih =>
      intro s i  hv0 hv1 hm
      refine am_go (ct := fun pc => Nat.beq pc 4) am_oX0_sum 300 ?_
      conv => whnf
      repeat' first
        | (refine (?_ : am_wp _ _ _ _ _ _ _ _ _ _ _ _); conv => whnf)
        | (refine (?_ : am_sw _ _ _ _); conv => whnf)
        | refine And.intro trivial ?_
        | exact trivial
        | (with_reducible assumption)
        | ((with_reducible refine (?_ : _ ∧ _)); first | (with_reducible first | refine am_jn am_q1 ?_ | refine am_jn am_q2 ?_ | refine am_jn am_q3 ?_ | refine am_jn am_q4 ?_ | refine am_jn am_q6 ?_ | refine am_jn am_q9 ?_ | refine am_jn am_p1 ?_ | refine am_jy am_p0 ?_ | refine am_kn am_q1 ?_ | refine am_kn am_q2 ?_ | refine am_kn am_q3 ?_ | refine am_kn am_q4 ?_ | refine am_kn am_q6 ?_ | refine am_kn am_q9 ?_ | refine am_kn am_p1 ?_ | refine am_ky am_p0 ?_) | refine And.intro (fun h => absurd h (by decide)) (fun _ => ?_) | refine And.intro (fun _ => ?_) (fun h => absurd (by decide) h) | refine And.intro (fun _ => ?_) (fun _ => ?_) | refine And.intro ?_ ?_)
        | exact k _
        | refine sx_up ?_ rfl
        | ((with_reducible refine (?_ : am_AW _ _ _ _ _ 4 _ _ _)); refine ih _ _  ?_ ?_ ?_)
        | refine And.intro (fun h => absurd h (by decide)) (fun _ => ?_)
        | refine And.intro (fun _ => ?_) (fun h => absurd (by decide) h)
        | refine And.intro (fun _ => ?_) (fun _ => ?_)
        | refine And.intro ?_ ?_
      all_goals (first | (with_reducible assumption) | omega | assumption | (simp only [am_c, am_up] at *; omega) | (simp [am_c, am_up] at *; omega))
  have lp4' : ∀ (s i : Int) , 0 ≤ i → i ≤ 4 → am_AW l 0 (fun _ => 0) 14 Q 4 [some (.inr (.inr 1)), some (.inr (.inr 6)), some (.inl s), some (.inl i)] [] μ := fun s i  hv0 hv1 => lp4 ((4 - i) + 1).toNat s i  hv0 hv1 (by omega)
  refine am_go (ct := fun pc => Nat.beq pc 4) am_oX0_sum 300 ?_
  conv => whnf
  repeat' first
    | (refine (?_ : am_wp _ _ _ _ _ _ _ _ _ _ _ _); conv => whnf)
    | (refine (?_ : am_sw _ _ _ _); conv => whnf)
    | refine And.intro trivial ?_
    | exact trivial
    | (with_reducible assumption)
    | ((with_reducible refine (?_ : _ ∧ _)); first | (with_reducible first | refine am_jn am_q1 ?_ | refine am_jn am_q2 ?_ | refine am_jn am_q3 ?_ | refine am_jn am_q4 ?_ | refine am_jn am_q6 ?_ | refine am_jn am_q9 ?_ | refine am_jn am_p1 ?_ | refine am_jy am_p0 ?_ | refine am_kn am_q1 ?_ | refine am_kn am_q2 ?_ | refine am_kn am_q3 ?_ | refine am_kn am_q4 ?_ | refine am_kn am_q6 ?_ | refine am_kn am_q9 ?_ | refine am_kn am_p1 ?_ | refine am_ky am_p0 ?_) | refine And.intro (fun h => absurd h (by decide)) (fun _ => ?_) | refine And.intro (fun _ => ?_) (fun h => absurd (by decide) h) | refine And.intro (fun _ => ?_) (fun _ => ?_) | refine And.intro ?_ ?_)
    | exact k _
    | refine sx_up ?_ rfl
    | ((with_reducible refine (?_ : am_AW _ _ _ _ _ 4 _ _ _)); refine lp4' _ _  ?_ ?_)
    | refine And.intro (fun h => absurd h (by decide)) (fun _ => ?_)
    | refine And.intro (fun _ => ?_) (fun h => absurd (by decide) h)
    | refine And.intro (fun _ => ?_) (fun _ => ?_)
    | refine And.intro ?_ ?_
  all_goals (first | (with_reducible assumption) | omega | assumption | (simp only [am_c, am_up] at *; omega) | (simp [am_c, am_up] at *; omega))
theorem w_sum_X0_7 {l : Launch} {μ : am_N} {Q : Option am_V → am_N → Prop} {ν : am_N}  (hS : sx ν μ)  (k : ∀ r, Q (some (.inl r)) μ) : am_Does l 14 [.inr (.inr 1), .inr (.inr 7)] μ Q := by
  refine am_Does_of (Nat.le_of_ble_eq_true rfl) (Nat.le_of_ble_eq_true rfl) (Nat.le_of_ble_eq_true rfl) ?_
  have hb := sx_all hS
  have lp4 : ∀ (m : Nat) (s i : Int) , 0 ≤ i → i ≤ 4 → 4 - i < (m : Int) → am_AW l 0 (fun _ => 0) 14 Q 4 [some (.inr (.inr 1)), some (.inr (.inr 7)), some (.inl s), some (.inl i)] [] μ := by
    intro m
    induction m with
    | zero =>
      intro s i  hv0 hv1 hm
      exfalso
      omega
    | succ m ih =>
      intro s i  hv0 hv1 hm
      refine am_go (ct := fun pc => Nat.beq pc 4) am_oX0_sum 300 ?_
      conv => whnf
      repeat' first
        | (refine (?_ : am_wp _ _ _ _ _ _ _ _ _ _ _ _); conv => whnf)
        | (refine (?_ : am_sw _ _ _ _); conv => whnf)
        | refine And.intro trivial ?_
        | exact trivial
        | (with_reducible assumption)
        | ((with_reducible refine (?_ : _ ∧ _)); first | (with_reducible first | refine am_jn am_q1 ?_ | refine am_jn am_q2 ?_ | refine am_jn am_q3 ?_ | refine am_jn am_q4 ?_ | refine am_jn am_q6 ?_ | refine am_jn am_q9 ?_ | refine am_jn am_p1 ?_ | refine am_jy am_p0 ?_ | refine am_kn am_q1 ?_ | refine am_kn am_q2 ?_ | refine am_kn am_q3 ?_ | refine am_kn am_q4 ?_ | refine am_kn am_q6 ?_ | refine am_kn am_q9 ?_ | refine am_kn am_p1 ?_ | refine am_ky am_p0 ?_) | refine And.intro (fun h => absurd h (by decide)) (fun _ => ?_) | refine And.intro (fun _ => ?_) (fun h => absurd (by decide) h) | refine And.intro (fun _ => ?_) (fun _ => ?_) | refine And.intro ?_ ?_)
        | exact k _
        | refine sx_up ?_ rfl
        | ((with_reducible refine (?_ : am_AW _ _ _ _ _ 4 _ _ _)); refine ih _ _  ?_ ?_ ?_)
        | refine And.intro (fun h => absurd h (by decide)) (fun _ => ?_)
        | refine And.intro (fun _ => ?_) (fun h => absurd (by decide) h)
        | refine And.intro (fun _ => ?_) (fun _ => ?_)
        | refine And.intro ?_ ?_
      all_goals (first | (with_reducible assumption) | omega | assumption | (simp only [am_c, am_up] at *; omega) | (simp [am_c, am_up] at *; omega))
  have lp4' : ∀ (s i : Int) , 0 ≤ i → i ≤ 4 → am_AW l 0 (fun _ => 0) 14 Q 4 [some (.inr (.inr 1)), some (.inr (.inr 7)), some (.inl s), some (.inl i)] [] μ := fun s i  hv0 hv1 => lp4 ((4 - i) + 1).toNat s i  hv0 hv1 (by omega)
  refine am_go (ct := fun pc => Nat.beq pc 4) am_oX0_sum 300 ?_
  conv => whnf
  repeat' first
    | (refine (?_ : am_wp _ _ _ _ _ _ _ _ _ _ _ _); conv => whnf)
    | (refine (?_ : am_sw _ _ _ _); conv => whnf)
    | refine And.intro trivial ?_
    | exact trivial
    | (with_reducible assumption)
    | ((with_reducible refine (?_ : _ ∧ _)); first | (with_reducible first | refine am_jn am_q1 ?_ | refine am_jn am_q2 ?_ | refine am_jn am_q3 ?_ | refine am_jn am_q4 ?_ | refine am_jn am_q6 ?_ | refine am_jn am_q9 ?_ | refine am_jn am_p1 ?_ | refine am_jy am_p0 ?_ | refine am_kn am_q1 ?_ | refine am_kn am_q2 ?_ | refine am_kn am_q3 ?_ | refine am_kn am_q4 ?_ | refine am_kn am_q6 ?_ | refine am_kn am_q9 ?_ | refine am_kn am_p1 ?_ | refine am_ky am_p0 ?_) | refine And.intro (fun h => absurd h (by decide)) (fun _ => ?_) | refine And.intro (fun _ => ?_) (fun h => absurd (by decide) h) | refine And.intro (fun _ => ?_) (fun _ => ?_) | refine And.intro ?_ ?_)
    | exact k _
    | refine sx_up ?_ rfl
    | ((with_reducible refine (?_ : am_AW _ _ _ _ _ 4 _ _ _)); refine lp4' _ _  ?_ ?_)
    | refine And.intro (fun h => absurd h (by decide)) (fun _ => ?_)
    | refine And.intro (fun _ => ?_) (fun h => absurd (by decide) h)
    | refine And.intro (fun _ => ?_) (fun _ => ?_)
    | refine And.intro ?_ ?_
  all_goals (first | (with_reducible assumption) | omega | assumption | (simp only [am_c, am_up] at *; omega) | (simp [am_c, am_up] at *; omega))
theorem w_eachOnce_X0_1 {l : Launch} {μ : am_N} {Q : Option am_V → am_N → Prop} {ν : am_N} (d : Int) (hS : sx ν μ)  (k : ∀ r, Q (some (.inl r)) μ) : am_Does l 15 [.inr (.inr 1), .inl d] μ Q := by
  refine am_Does_of (Nat.le_of_ble_eq_true rfl) (Nat.le_of_ble_eq_true rfl) (Nat.le_of_ble_eq_true rfl) ?_
  have hb := sx_all hS
  have lp13 : ∀ (m : Nat) (a b i : Int) , 0 ≤ i → i ≤ 4 → 4 - i < (m : Int) → am_AW l 0 (fun _ => 0) 15 Q 13 [some (.inr (.inr 1)), some (.inl d), some (.inl a), some (.inl b), some (.inl i)] [] μ := by
    intro m
    induction m with
    | zero =>
      intro a b i  hv0 hv1 hm
      exfalso
      omega
    | succ m ih =>
      intro a b i  hv0 hv1 hm
      refine am_go (ct := fun pc => Nat.beq pc 13) am_oX0_eachOnce 300 ?_
      conv => whnf
      repeat' first
        | (refine (?_ : am_wp _ _ _ _ _ _ _ _ _ _ _ _); conv => whnf)
        | (refine (?_ : am_sw _ _ _ _); conv => whnf)
        | refine And.intro trivial ?_
        | exact trivial
        | (with_reducible assumption)
        | ((with_reducible refine (?_ : _ ∧ _)); first | (with_reducible first | refine am_jn am_q1 ?_ | refine am_jn am_q2 ?_ | refine am_jn am_q3 ?_ | refine am_jn am_q4 ?_ | refine am_jn am_q6 ?_ | refine am_jn am_q9 ?_ | refine am_jn am_p1 ?_ | refine am_jy am_p0 ?_ | refine am_kn am_q1 ?_ | refine am_kn am_q2 ?_ | refine am_kn am_q3 ?_ | refine am_kn am_q4 ?_ | refine am_kn am_q6 ?_ | refine am_kn am_q9 ?_ | refine am_kn am_p1 ?_ | refine am_ky am_p0 ?_) | refine And.intro (fun h => absurd h (by decide)) (fun _ => ?_) | refine And.intro (fun _ => ?_) (fun h => absurd (by decide) h) | refine And.intro (fun _ => ?_) (fun _ => ?_) | refine And.intro ?_ ?_)
        | exact k _
        | refine sx_up ?_ rfl
        | ((with_reducible refine (?_ : am_AW _ _ _ _ _ 13 _ _ _)); refine ih _ _ _  ?_ ?_ ?_)
        | refine And.intro (fun h => absurd h (by decide)) (fun _ => ?_)
        | refine And.intro (fun _ => ?_) (fun h => absurd (by decide) h)
        | refine And.intro (fun _ => ?_) (fun _ => ?_)
        | refine And.intro ?_ ?_
      all_goals (first | (with_reducible assumption) | omega | assumption | (simp only [am_c, am_up] at *; omega) | (simp [am_c, am_up] at *; omega))
  have lp13' : ∀ (a b i : Int) , 0 ≤ i → i ≤ 4 → am_AW l 0 (fun _ => 0) 15 Q 13 [some (.inr (.inr 1)), some (.inl d), some (.inl a), some (.inl b), some (.inl i)] [] μ := fun a b i  hv0 hv1 => lp13 ((4 - i) + 1).toNat a b i  hv0 hv1 (by omega)
  refine am_go (ct := fun pc => Nat.beq pc 13) am_oX0_eachOnce 300 ?_
  conv => whnf
  repeat' first
    | (refine (?_ : am_wp _ _ _ _ _ _ _ _ _ _ _ _); conv => whnf)
    | (refine (?_ : am_sw _ _ _ _); conv => whnf)
    | refine And.intro trivial ?_
    | exact trivial
    | (with_reducible assumption)
    | ((with_reducible refine (?_ : _ ∧ _)); first | (with_reducible first | refine am_jn am_q1 ?_ | refine am_jn am_q2 ?_ | refine am_jn am_q3 ?_ | refine am_jn am_q4 ?_ | refine am_jn am_q6 ?_ | refine am_jn am_q9 ?_ | refine am_jn am_p1 ?_ | refine am_jy am_p0 ?_ | refine am_kn am_q1 ?_ | refine am_kn am_q2 ?_ | refine am_kn am_q3 ?_ | refine am_kn am_q4 ?_ | refine am_kn am_q6 ?_ | refine am_kn am_q9 ?_ | refine am_kn am_p1 ?_ | refine am_ky am_p0 ?_) | refine And.intro (fun h => absurd h (by decide)) (fun _ => ?_) | refine And.intro (fun _ => ?_) (fun h => absurd (by decide) h) | refine And.intro (fun _ => ?_) (fun _ => ?_) | refine And.intro ?_ ?_)
    | exact k _
    | refine sx_up ?_ rfl
    | ((with_reducible refine (?_ : am_AW _ _ _ _ _ 13 _ _ _)); refine lp13' _ _ _  ?_ ?_)
    | refine And.intro (fun h => absurd h (by decide)) (fun _ => ?_)
    | refine And.intro (fun _ => ?_) (fun h => absurd (by decide) h)
    | refine And.intro (fun _ => ?_) (fun _ => ?_)
    | refine And.intro ?_ ?_
  all_goals (first | (with_reducible assumption) | omega | assumption | (simp only [am_c, am_up] at *; omega) | (simp [am_c, am_up] at *; omega))
