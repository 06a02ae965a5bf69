/-! STATEMENTS come: the model -/
theorem x_isRunnerT {l : Launch} {ν : am_N} {Q : Option am_V → am_N → Prop} (i : Int) (f0 : 0 ≤ ν 83 14) (f1 : ν 83 14 ≤ 4) (k1 : 0 ≤ am_c i → am_c i < ν 83 14 → Q (some (.inl 1)) ν) (k0 : (am_c i < 0 ∨ ν 83 14 ≤ am_c i) → Q (some (.inl 0)) ν) : am_Does l 146 [.inr (.inr 83), .inl i] ν Q := by
  refine am_Does_of (Nat.le_of_ble_eq_true rfl) (Nat.le_of_ble_eq_true rfl) (Nat.le_of_ble_eq_true rfl) ?_
  have c4 : am_c (ν 83 14) = ν 83 14 := am_cR (by omega) (by omega)
  have l0 : am_c 0 = 0 := rfl
  refine am_go (ct := fun _ => false) am_oX7_isRunner 300 ?_
  conv => whnf
  repeat' first
    | (refine (?_ : am_wp _ _ _ _ _ _ _ _ _ _ _ _); conv => whnf)
    | (refine (?_ : am_sw _ _ _ _); conv => whnf)
    | refine And.intro trivial ?_
    | exact trivial
    | refine k1 ?_ ?_
    | refine k0 ?_
    | refine And.intro (fun h => absurd h (by decide)) (fun _ => ?_)
    | refine And.intro (fun _ => ?_) (fun h => absurd (by decide) h)
    | refine And.intro (fun _ => ?_) (fun _ => ?_)
    | refine And.intro ?_ ?_
  all_goals (first | omega | (simp only [c4] at *; omega) | (trace_state; fail))
theorem x_comesRunner {l : Launch} {ν : am_N} {Q : Option am_V → am_N → Prop} (o K G P S T : Int) (o0 : 0 ≤ o) (o1 : o ≤ 235) (e0 : ν 97 o.toNat = K) (b00 : 0 ≤ K) (b01 : K ≤ 99) (e1 : ν 97 (o.toNat + 1) = G) (b10 : 0 ≤ G) (b11 : G ≤ 99) (e2 : ν 97 (o.toNat + 2) = P) (b20 : 0 ≤ P) (b21 : P ≤ 99) (e3 : ν 97 (o.toNat + 3) = S) (b30 : 0 ≤ S) (b31 : S ≤ 99) (e4 : ν 97 (o.toNat + 4) = T) (b40 : 0 ≤ T) (b41 : T ≤ 99) (f0 : 0 ≤ ν 83 14) (f1 : ν 83 14 ≤ 4) (k1 : (ν 83 14 < 4 ∧ K ≤ 5 ∧ 5 ≤ P ∧ P ≤ 40 ∧ S ≤ 20) → ∀ μ' : am_N, (∀ a b, ¬(85 ≤ a ∧ a ≤ 90 ∧ b = (ν 83 14).toNat) → ¬(a = 83 ∧ b = 14) → μ' a b = ν a b) → μ' 85 (ν 83 14).toNat = K → μ' 86 (ν 83 14).toNat = G → μ' 87 (ν 83 14).toNat = P → μ' 88 (ν 83 14).toNat = S → μ' 89 (ν 83 14).toNat = T → μ' 90 (ν 83 14).toNat = 0 → μ' 83 14 = ν 83 14 + 1 → Q (some (.inl 1)) μ') (k0 : ¬(ν 83 14 < 4 ∧ K ≤ 5 ∧ 5 ≤ P ∧ P ≤ 40 ∧ S ≤ 20) → Q (some (.inl 0)) ν) : am_Does l 154 [.inr (.inr 83), .inl o] ν Q := by
  refine am_Does_of (Nat.le_of_ble_eq_true rfl) (Nat.le_of_ble_eq_true rfl) (Nat.le_of_ble_eq_true rfl) ?_
  have l0 : am_c 0 = 0 := rfl
  have l1 : am_c 1 = 1 := rfl
  have l2 : am_c 2 = 2 := rfl
  have l3 : am_c 3 = 3 := rfl
  have l4 : am_c 4 = 4 := rfl
  have l5 : am_c 5 = 5 := rfl
  have l20 : am_c 20 = 20 := rfl
  have l40 : am_c 40 = 40 := rfl
  have l200 : am_c 200 = 200 := rfl
  have l999 : am_c 999 = 999 := rfl
  have c4 : am_c (ν 83 14) = ν 83 14 := am_cR (by omega) (by omega)
  have q0 : ν 97 (am_c o).toNat = K := by rw [am_cR (by omega) (by omega)]; exact e0
  have d0 : am_c K = K := am_cR (by omega) (by omega)
  have x0 : 0 ≤ am_c o ∧ am_c o < 240 := by rw [am_cR (by omega) (by omega)]; omega
  have q1 : ν 97 (am_c (o + 1)).toNat = G := by rw [am_cR (by omega) (by omega), show (o + 1).toNat = o.toNat + 1 by omega]; exact e1
  have d1 : am_c G = G := am_cR (by omega) (by omega)
  have x1 : 0 ≤ am_c (o + 1) ∧ am_c (o + 1) < 240 := by rw [am_cR (by omega) (by omega)]; omega
  have q2 : ν 97 (am_c (o + 2)).toNat = P := by rw [am_cR (by omega) (by omega), show (o + 2).toNat = o.toNat + 2 by omega]; exact e2
  have d2 : am_c P = P := am_cR (by omega) (by omega)
  have x2 : 0 ≤ am_c (o + 2) ∧ am_c (o + 2) < 240 := by rw [am_cR (by omega) (by omega)]; omega
  have q3 : ν 97 (am_c (o + 3)).toNat = S := by rw [am_cR (by omega) (by omega), show (o + 3).toNat = o.toNat + 3 by omega]; exact e3
  have d3 : am_c S = S := am_cR (by omega) (by omega)
  have x3 : 0 ≤ am_c (o + 3) ∧ am_c (o + 3) < 240 := by rw [am_cR (by omega) (by omega)]; omega
  have q4 : ν 97 (am_c (o + 4)).toNat = T := by rw [am_cR (by omega) (by omega), show (o + 4).toNat = o.toNat + 4 by omega]; exact e4
  have d4 : am_c T = T := am_cR (by omega) (by omega)
  have x4 : 0 ≤ am_c (o + 4) ∧ am_c (o + 4) < 240 := by rw [am_cR (by omega) (by omega)]; omega
  refine am_go (ct := fun _ => false) am_oX7_comesRunner 300 ?_
  conv => whnf
  repeat' first
    | (refine (?_ : am_wp _ _ _ _ _ _ _ _ _ _ _ _); conv => whnf)
    | (refine (?_ : am_sw _ _ _ _); conv => whnf)
    | refine And.intro trivial ?_
    | exact trivial
    | refine x_isIn P _ _ _ ?_ ?_ ?_ ?_ (fun _ _ => ?_) (fun _ => ?_)
    | refine k0 ?_
    | refine k1 ?_ _ ?_ ?_ ?_ ?_ ?_ ?_ ?_ ?_
    | refine And.intro (fun h => absurd h (by decide)) (fun _ => ?_)
    | refine And.intro (fun _ => ?_) (fun h => absurd (by decide) h)
    | refine And.intro (fun _ => ?_) (fun _ => ?_)
    | refine And.intro ?_ ?_
  all_goals (first | decide | omega | exact q2.symm | exact d2 | (simp only [am_upN (show (83 : Nat) ≠ 85 by decide), am_upN (show (83 : Nat) ≠ 86 by decide), am_upN (show (83 : Nat) ≠ 87 by decide), am_upN (show (83 : Nat) ≠ 88 by decide), am_upN (show (83 : Nat) ≠ 89 by decide), am_upN (show (83 : Nat) ≠ 90 by decide), q0, d0, q1, d1, q2, d2, q3, d3, q4, d4, c4] at *; omega) | (intro a b h1 h2; simp only [am_upN (show (83 : Nat) ≠ 85 by decide), am_upN (show (83 : Nat) ≠ 86 by decide), am_upN (show (83 : Nat) ≠ 87 by decide), am_upN (show (83 : Nat) ≠ 88 by decide), am_upN (show (83 : Nat) ≠ 89 by decide), am_upN (show (83 : Nat) ≠ 90 by decide), c4]; rw [am_uE (by omega), am_uE (by omega), am_uE (by omega), am_uE (by omega), am_uE (by omega), am_uE (by omega), am_uE (by omega)]) | (simp only [am_upN (show (83 : Nat) ≠ 85 by decide), am_upN (show (83 : Nat) ≠ 86 by decide), am_upN (show (83 : Nat) ≠ 87 by decide), am_upN (show (83 : Nat) ≠ 88 by decide), am_upN (show (83 : Nat) ≠ 89 by decide), am_upN (show (83 : Nat) ≠ 90 by decide), am_upN (show (97 : Nat) ≠ 83 by decide), am_upN (show (97 : Nat) ≠ 85 by decide), am_upN (show (97 : Nat) ≠ 86 by decide), am_upN (show (97 : Nat) ≠ 87 by decide), am_upN (show (97 : Nat) ≠ 88 by decide), am_upN (show (97 : Nat) ≠ 89 by decide), am_upN (show (97 : Nat) ≠ 90 by decide), c4, q0, d0, q1, d1, q2, d2, q3, d3, q4, d4]; simp [am_up]; done) | (trace_state; fail))
theorem x_mc_119 {l : Launch} {ν : am_N} {Q : Option am_V → am_N → Prop} (t : Nat → Int) (n p i : Int) (n0 : 0 ≤ n) (n1 : n ≤ 96) (hL : ∀ i : Nat, (i : Int) < n → 0 ≤ t i ∧ t i ≤ 255) (p0 : 0 ≤ p) (p1 : p < n) (hb : 0 ≤ am_bh t n p) (i0 : 0 ≤ i) (i1 : i < 48) (el : ν 95 i.toNat = am_nx t n p) (td : fp_td t n p (ν 97) (5 * i.toNat)) (hw : fp_fw 999 (mv ν)) (h3 : sx_3 ν 100) (hc : am_nx t n p = 119) (k1 : fp_ok t n (mv ν) p → ∀ μ' : am_N, (∀ a b, ¬(85 ≤ a ∧ a ≤ 90) → ¬(a = 83 ∧ 10 ≤ b ∧ b ≤ 14) → a ≠ 99 → a ≠ 100 → μ' a b = ν a b) → mv μ' = fp_cf t n (mv ν) p → sx_3 μ' 100 → Q (some (.inl 1)) μ') (k0 : ¬ fp_ok t n (mv ν) p → ∀ μ' : am_N, (∀ a b, ¬(85 ≤ a ∧ a ≤ 90) → ¬(a = 83 ∧ 10 ≤ b ∧ b ≤ 14) → a ≠ 99 → a ≠ 100 → μ' a b = ν a b) → sx_3 μ' 100 → Q (some (.inl 0)) μ') : am_Does l 155 [.inr (.inr 83), .inl i] ν Q := by
  refine am_Does_of (Nat.le_of_ble_eq_true rfl) (Nat.le_of_ble_eq_true rfl) (Nat.le_of_ble_eq_true rfl) ?_
  have l0 : am_c 0 = 0 := rfl
  have l1 : am_c 1 = 1 := rfl
  have l2 : am_c 2 = 2 := rfl
  have l3 : am_c 3 = 3 := rfl
  have l4 : am_c 4 = 4 := rfl
  have l5 : am_c 5 = 5 := rfl
  have l20 : am_c 20 = 20 := rfl
  have l40 : am_c 40 = 40 := rfl
  have l200 : am_c 200 = 200 := rfl
  have l999 : am_c 999 = 999 := rfl
  obtain ⟨hf, hr, hy, hs, hway, hweek, hmore⟩ := fw_M hw (by decide)
  have f0 := hf.1.1
  have f1 := hf.1.2
  have c14 : am_c (ν 83 14) = ν 83 14 := am_cR (by omega) (by omega)
  have c11 : am_c (ν 83 11) = ν 83 11 := am_cR (by omega) (by omega)
  have ci : am_c i = i := am_cR (by omega) (by omega)
  have c5 : am_c (5 * i) = 5 * i := am_cR (by omega) (by omega)
  have c6 : am_c (5 * i + 1) = 5 * i + 1 := am_cR (by omega) (by omega)
  have e5 : (5 * i).toNat = 5 * i.toNat := by omega
  have e6 : (5 * i + 1).toNat = 5 * i.toNat + 1 := by omega
  have dg := am_bh_d hb p0
  have cl : am_c (ν 95 (am_c i).toNat) = 119 := by rw [ci, el, hc]; rfl
  obtain ⟨td1, td2, td3, td4⟩ := td
  have tw : ν 97 (am_c (5 * i)).toNat = fp_w t n p := by rw [c5, e5]; exact td1 hc
  have hv := am_dv_b t n 3 (p + 1) 0 (by decide)
  have w0 : 0 ≤ fp_w t n p := hv.1
  have w1 : fp_w t n p ≤ 999 := hv.2
  have cw : am_c (fp_w t n p) = fp_w t n p := am_cR (by omega) (by omega)
  refine am_go (ct := fun _ => false) am_oX7_comes 300 ?_
  conv => whnf
  repeat' first
    | (refine (?_ : am_wp _ _ _ _ _ _ _ _ _ _ _ _); conv => whnf)
    | (refine (?_ : am_sw _ _ _ _); conv => whnf)
    | refine And.intro trivial ?_
    | exact trivial
    | refine And.intro (fun h => absurd (h.symm.trans cl) (by decide)) (fun _ => ?_)
    | refine And.intro (fun _ => ?_) (fun h => absurd cl h)
    | refine x_isIn (fp_w t n p) _ _ _ ?_ cw ?_ ?_ (fun y0 y1 => ?_) (fun y => ?_)
    | refine k1 ((fp_ok_w hc).mpr ⟨y0, y1⟩) _ ?_ ?_ ?_
    | refine k0 (fun z => ?_) _ ?_ ?_
    | refine And.intro (fun h => absurd h (by decide)) (fun _ => ?_)
    | refine And.intro (fun _ => ?_) (fun h => absurd (by decide) h)
    | refine And.intro (fun _ => ?_) (fun _ => ?_)
    | refine And.intro ?_ ?_
  all_goals (first | decide | omega | (have q := (fp_ok_w hc).mp z; omega) | (rw [c5]; omega) | (rw [am_upS, if_pos ⟨rfl, rfl⟩]; exact tw.symm) | (intro a b h1 h2 h3 h4; exact am_uE (fun z => h2 (by rw [z.1, z.2]; decide))) | exact sx_3N h3 (by decide) | (rw [fp_cf_w hc]; refine fp_ct_e (fun b hb => ?_) (fun a b q1 q2 hb => ?_); (by_cases d : b = 0; (subst d; show am_up ν 83 10 _ 83 10 = am_up _ 0 0 _ 0 0; rw [am_upS, if_pos ⟨rfl, rfl⟩, am_upS, if_pos ⟨rfl, rfl⟩]; exact tw); (rw [am_upM d]; exact Eq.trans (am_upM (by omega)) (mv_0 hb).symm)); (obtain ⟨a, rfl⟩ : ∃ e, a = e + 1 := ⟨a - 1, by omega⟩; rw [am_upN (by omega)]; exact Eq.trans (am_upN (show 85 + a ≠ 83 by omega)) (mv_a (by omega) hb).symm)) | (trace_state; fail))
theorem x_mc_109 {l : Launch} {ν : am_N} {Q : Option am_V → am_N → Prop} (t : Nat → Int) (n p i : Int) (n0 : 0 ≤ n) (n1 : n ≤ 96) (hL : ∀ i : Nat, (i : Int) < n → 0 ≤ t i ∧ t i ≤ 255) (p0 : 0 ≤ p) (p1 : p < n) (hb : 0 ≤ am_bh t n p) (i0 : 0 ≤ i) (i1 : i < 48) (el : ν 95 i.toNat = am_nx t n p) (td : fp_td t n p (ν 97) (5 * i.toNat)) (hw : fp_fw 999 (mv ν)) (h3 : sx_3 ν 100) (hc : am_nx t n p = 109) (k1 : fp_ok t n (mv ν) p → ∀ μ' : am_N, (∀ a b, ¬(85 ≤ a ∧ a ≤ 90) → ¬(a = 83 ∧ 10 ≤ b ∧ b ≤ 14) → a ≠ 99 → a ≠ 100 → μ' a b = ν a b) → mv μ' = fp_cf t n (mv ν) p → sx_3 μ' 100 → Q (some (.inl 1)) μ') (k0 : ¬ fp_ok t n (mv ν) p → ∀ μ' : am_N, (∀ a b, ¬(85 ≤ a ∧ a ≤ 90) → ¬(a = 83 ∧ 10 ≤ b ∧ b ≤ 14) → a ≠ 99 → a ≠ 100 → μ' a b = ν a b) → sx_3 μ' 100 → Q (some (.inl 0)) μ') : am_Does l 155 [.inr (.inr 83), .inl i] ν Q := by
  refine am_Does_of (Nat.le_of_ble_eq_true rfl) (Nat.le_of_ble_eq_true rfl) (Nat.le_of_ble_eq_true rfl) ?_
  have l0 : am_c 0 = 0 := rfl
  have l1 : am_c 1 = 1 := rfl
  have l2 : am_c 2 = 2 := rfl
  have l3 : am_c 3 = 3 := rfl
  have l4 : am_c 4 = 4 := rfl
  have l5 : am_c 5 = 5 := rfl
  have l20 : am_c 20 = 20 := rfl
  have l40 : am_c 40 = 40 := rfl
  have l200 : am_c 200 = 200 := rfl
  have l999 : am_c 999 = 999 := rfl
  obtain ⟨hf, hr, hy, hs, hway, hweek, hmore⟩ := fw_M hw (by decide)
  have f0 := hf.1.1
  have f1 := hf.1.2
  have c14 : am_c (ν 83 14) = ν 83 14 := am_cR (by omega) (by omega)
  have c11 : am_c (ν 83 11) = ν 83 11 := am_cR (by omega) (by omega)
  have ci : am_c i = i := am_cR (by omega) (by omega)
  have c5 : am_c (5 * i) = 5 * i := am_cR (by omega) (by omega)
  have c6 : am_c (5 * i + 1) = 5 * i + 1 := am_cR (by omega) (by omega)
  have e5 : (5 * i).toNat = 5 * i.toNat := by omega
  have e6 : (5 * i + 1).toNat = 5 * i.toNat + 1 := by omega
  have dg := am_bh_d hb p0
  have cl : am_c (ν 95 (am_c i).toNat) = 109 := by rw [ci, el, hc]; rfl
  obtain ⟨td1, td2, td3, td4⟩ := td
  have dg := dg (by omega)
  rw [am_ld_109 hc] at dg
  have d1 : 0 ≤ am_dt t n (p + 1) := (Int.add_zero (p + 1)) ▸ dg 0 (by decide)
  have b1 := am_dt_b t n (p + 1)
  have b2 := am_dt_b t n (p + 2)
  have t1 : ν 97 (am_c (5 * i)).toNat = am_dt t n (p + 1) := by rw [c5, e5]; exact (td3 hc).1
  have t2 : ν 97 (am_c (5 * i + 1)).toNat = am_dt t n (p + 2) := by rw [c6, e6]; exact (td3 hc).2
  have t2' : ∀ v : Int, am_up ν 83 12 v 97 (am_c (5 * i + 1)).toNat = am_dt t n (p + 2) := fun v => (am_upN (by decide)).trans t2
  have cd1 : am_c (am_dt t n (p + 1)) = am_dt t n (p + 1) := am_cR (by omega) (by omega)
  have cd2 : am_c (am_dt t n (p + 2)) = am_dt t n (p + 2) := am_cR (by omega) (by omega)
  have r12 : ∀ v w : Int, am_up (am_up ν 83 12 v) 83 13 w 83 12 = v := fun v w => (am_upM (by decide)).trans (if_pos ⟨rfl, rfl⟩)
  have r13 : ∀ v w : Int, am_up (am_up ν 83 12 v) 83 13 w 83 13 = w := fun v w => if_pos ⟨rfl, rfl⟩
  refine am_go (ct := fun _ => false) am_oX7_comes 300 ?_
  conv => whnf
  repeat' first
    | (refine (?_ : am_wp _ _ _ _ _ _ _ _ _ _ _ _); conv => whnf)
    | (refine (?_ : am_sw _ _ _ _); conv => whnf)
    | refine And.intro trivial ?_
    | exact trivial
    | refine And.intro (fun h => absurd (h.symm.trans cl) (by decide)) (fun _ => ?_)
    | refine And.intro (fun _ => ?_) (fun h => absurd cl h)
    | (refine k1 ((fp_ok_m hc).mpr ?_) _ ?_ ?_ ?_)
    | (refine k0 (fun z => ?_) _ ?_ ?_)
    | refine And.intro (fun h => absurd h (by decide)) (fun _ => ?_)
    | refine And.intro (fun _ => ?_) (fun h => absurd (by decide) h)
    | refine And.intro (fun _ => ?_) (fun _ => ?_)
    | refine And.intro ?_ ?_
  all_goals (first | decide | omega | (rw [c5]; omega) | (rw [c6]; omega) | (intro a b h1 h2 h3 h4; exact Eq.trans (am_uE (fun z => h2 (by rw [z.1, z.2]; decide))) (am_uE (fun z => h2 (by rw [z.1, z.2]; decide)))) | exact sx_3N (sx_3N h3 (by decide)) (by decide) | (simp only [r12, r13, t1, t2, t2', cd1, cd2] at *; omega) | (have q := (fp_ok_m hc).mp z; simp only [r12, r13, t1, t2, t2', cd1, cd2] at *; omega) | (simp only [t1, t2']; rw [fp_cf_m hc]; refine fp_ct_e (fun b hb => ?_) (fun a b q1 q2 hb => ?_); (by_cases z3 : b = 3; (subst z3; rfl); (by_cases z2 : b = 2; (subst z2; rfl); (rw [am_upM z3, am_upM z2]; exact Eq.trans (am_upM (by omega)) (Eq.trans (am_upM (by omega)) (mv_0 hb).symm)))); (obtain ⟨a, rfl⟩ : ∃ e, a = e + 1 := ⟨a - 1, by omega⟩; rw [am_upN (by omega), am_upN (by omega)]; exact Eq.trans (am_upN (show 85 + a ≠ 83 by omega)) (Eq.trans (am_upN (show 85 + a ≠ 83 by omega)) (mv_a (by omega) hb).symm))) | (trace_state; fail))
theorem x_mc_115 {l : Launch} {ν : am_N} {Q : Option am_V → am_N → Prop} (t : Nat → Int) (n p i : Int) (n0 : 0 ≤ n) (n1 : n ≤ 96) (hL : ∀ i : Nat, (i : Int) < n → 0 ≤ t i ∧ t i ≤ 255) (p0 : 0 ≤ p) (p1 : p < n) (hb : 0 ≤ am_bh t n p) (i0 : 0 ≤ i) (i1 : i < 48) (el : ν 95 i.toNat = am_nx t n p) (td : fp_td t n p (ν 97) (5 * i.toNat)) (hw : fp_fw 999 (mv ν)) (h3 : sx_3 ν 100) (hc : am_nx t n p = 115) (k1 : fp_ok t n (mv ν) p → ∀ μ' : am_N, (∀ a b, ¬(85 ≤ a ∧ a ≤ 90) → ¬(a = 83 ∧ 10 ≤ b ∧ b ≤ 14) → a ≠ 99 → a ≠ 100 → μ' a b = ν a b) → mv μ' = fp_cf t n (mv ν) p → sx_3 μ' 100 → Q (some (.inl 1)) μ') (k0 : ¬ fp_ok t n (mv ν) p → ∀ μ' : am_N, (∀ a b, ¬(85 ≤ a ∧ a ≤ 90) → ¬(a = 83 ∧ 10 ≤ b ∧ b ≤ 14) → a ≠ 99 → a ≠ 100 → μ' a b = ν a b) → sx_3 μ' 100 → Q (some (.inl 0)) μ') : am_Does l 155 [.inr (.inr 83), .inl i] ν Q := by
  refine am_Does_of (Nat.le_of_ble_eq_true rfl) (Nat.le_of_ble_eq_true rfl) (Nat.le_of_ble_eq_true rfl) ?_
  have l0 : am_c 0 = 0 := rfl
  have l1 : am_c 1 = 1 := rfl
  have l2 : am_c 2 = 2 := rfl
  have l3 : am_c 3 = 3 := rfl
  have l4 : am_c 4 = 4 := rfl
  have l5 : am_c 5 = 5 := rfl
  have l20 : am_c 20 = 20 := rfl
  have l40 : am_c 40 = 40 := rfl
  have l200 : am_c 200 = 200 := rfl
  have l999 : am_c 999 = 999 := rfl
  obtain ⟨hf, hr, hy, hs, hway, hweek, hmore⟩ := fw_M hw (by decide)
  have f0 := hf.1.1
  have f1 := hf.1.2
  have c14 : am_c (ν 83 14) = ν 83 14 := am_cR (by omega) (by omega)
  have c11 : am_c (ν 83 11) = ν 83 11 := am_cR (by omega) (by omega)
  have ci : am_c i = i := am_cR (by omega) (by omega)
  have c5 : am_c (5 * i) = 5 * i := am_cR (by omega) (by omega)
  have c6 : am_c (5 * i + 1) = 5 * i + 1 := am_cR (by omega) (by omega)
  have e5 : (5 * i).toNat = 5 * i.toNat := by omega
  have e6 : (5 * i + 1).toNat = 5 * i.toNat + 1 := by omega
  have dg := am_bh_d hb p0
  have cl : am_c (ν 95 (am_c i).toNat) = 115 := by rw [ci, el, hc]; rfl
  obtain ⟨td1, td2, td3, td4⟩ := td
  have dg := dg (by omega)
  rw [am_ld_115 hc] at dg
  have d1 : 0 ≤ am_dt t n (p + 1) := (Int.add_zero (p + 1)) ▸ dg 0 (by decide)
  have b1 := am_dt_b t n (p + 1)
  have t1 : ν 97 (am_c (5 * i)).toNat = am_dt t n (p + 1) := by rw [c5, e5]; exact (td4 hc).1
  have t2 : ν 97 (am_c (5 * i + 1)).toNat = fp_2 t n (p + 2) := by rw [c6, e6]; exact (td4 hc).2
  have cd1 : am_c (am_dt t n (p + 1)) = am_dt t n (p + 1) := am_cR (by omega) (by omega)
  have cv1 : am_c (ν 97 (am_c (5 * i)).toNat) = am_dt t n (p + 1) := by rw [t1]; exact cd1
  refine am_go (ct := fun _ => false) am_oX7_comes 300 ?_
  conv => whnf
  repeat' first
    | (refine (?_ : am_wp _ _ _ _ _ _ _ _ _ _ _ _); conv => whnf)
    | (refine (?_ : am_sw _ _ _ _); conv => whnf)
    | refine And.intro trivial ?_
    | exact trivial
    | refine And.intro (fun h => absurd (h.symm.trans cl) (by decide)) (fun _ => ?_)
    | refine And.intro (fun _ => ?_) (fun h => absurd cl h)
    | refine x_isRunnerT _ f0 f1 (fun y0 y1 => ?_) (fun y => ?_)
    | (refine k1 ((fp_ok_s hc).mpr ?_) _ ?_ ?_ ?_)
    | (refine k0 (fun z => ?_) _ (fun _ _ _ _ _ _ => rfl) h3)
    | refine And.intro (fun h => absurd h (by decide)) (fun _ => ?_)
    | refine And.intro (fun _ => ?_) (fun h => absurd (by decide) h)
    | refine And.intro (fun _ => ?_) (fun _ => ?_)
    | refine And.intro ?_ ?_
  all_goals (first | decide | omega | (rw [c5]; omega) | (rw [c6]; omega) | (rw [cv1] at *; rw [mv_n]; omega) | (rw [cv1] at *; omega) | (have q := (fp_ok_s hc).mp z; rw [mv_n] at q; rw [cv1] at y; omega) | (intro a b h1 h2 h3 h4; exact am_uE (fun z => h1 (by rw [z.1]; decide))) | exact sx_3N h3 (by decide) | (rw [cv1, t2, fp_cf_s hc]; refine fp_ct_e (fun b hb => ?_) (fun a b q1 q2 hb => ?_); (rw [am_upN (by decide)]; exact Eq.trans (am_upN (by decide)) (mv_0 hb).symm); (obtain ⟨a, rfl⟩ : ∃ e, a = e + 1 := ⟨a - 1, by omega⟩; by_cases d : a = 4 ∧ b = (am_dt t n (p + 1)).toNat; (obtain ⟨rfl, rfl⟩ := d; exact Eq.trans (if_pos ⟨rfl, rfl⟩) (Eq.symm (if_pos ⟨rfl, rfl⟩))); (rw [am_uE (show ¬(a + 1 = 5 ∧ b = (am_dt t n (p + 1)).toNat) by omega)]; exact Eq.trans (am_uE (show ¬(85 + a = 89 ∧ b = (am_dt t n (p + 1)).toNat) by omega)) (mv_a (by omega) hb).symm))) | (trace_state; fail))
theorem x_mc_114 {l : Launch} {ν : am_N} {Q : Option am_V → am_N → Prop} (t : Nat → Int) (n p i : Int) (n0 : 0 ≤ n) (n1 : n ≤ 96) (hL : ∀ i : Nat, (i : Int) < n → 0 ≤ t i ∧ t i ≤ 255) (p0 : 0 ≤ p) (p1 : p < n) (hb : 0 ≤ am_bh t n p) (i0 : 0 ≤ i) (i1 : i < 48) (el : ν 95 i.toNat = am_nx t n p) (td : fp_td t n p (ν 97) (5 * i.toNat)) (hw : fp_fw 999 (mv ν)) (h3 : sx_3 ν 100) (hc : am_nx t n p = 114) (k1 : fp_ok t n (mv ν) p → ∀ μ' : am_N, (∀ a b, ¬(85 ≤ a ∧ a ≤ 90) → ¬(a = 83 ∧ 10 ≤ b ∧ b ≤ 14) → a ≠ 99 → a ≠ 100 → μ' a b = ν a b) → mv μ' = fp_cf t n (mv ν) p → sx_3 μ' 100 → Q (some (.inl 1)) μ') (k0 : ¬ fp_ok t n (mv ν) p → ∀ μ' : am_N, (∀ a b, ¬(85 ≤ a ∧ a ≤ 90) → ¬(a = 83 ∧ 10 ≤ b ∧ b ≤ 14) → a ≠ 99 → a ≠ 100 → μ' a b = ν a b) → sx_3 μ' 100 → Q (some (.inl 0)) μ') : am_Does l 155 [.inr (.inr 83), .inl i] ν Q := by
  refine am_Does_of (Nat.le_of_ble_eq_true rfl) (Nat.le_of_ble_eq_true rfl) (Nat.le_of_ble_eq_true rfl) ?_
  have l0 : am_c 0 = 0 := rfl
  have l1 : am_c 1 = 1 := rfl
  have l2 : am_c 2 = 2 := rfl
  have l3 : am_c 3 = 3 := rfl
  have l4 : am_c 4 = 4 := rfl
  have l5 : am_c 5 = 5 := rfl
  have l20 : am_c 20 = 20 := rfl
  have l40 : am_c 40 = 40 := rfl
  have l200 : am_c 200 = 200 := rfl
  have l999 : am_c 999 = 999 := rfl
  obtain ⟨hf, hr, hy, hs, hway, hweek, hmore⟩ := fw_M hw (by decide)
  have f0 := hf.1.1
  have f1 := hf.1.2
  have c14 : am_c (ν 83 14) = ν 83 14 := am_cR (by omega) (by omega)
  have c11 : am_c (ν 83 11) = ν 83 11 := am_cR (by omega) (by omega)
  have ci : am_c i = i := am_cR (by omega) (by omega)
  have c5 : am_c (5 * i) = 5 * i := am_cR (by omega) (by omega)
  have c6 : am_c (5 * i + 1) = 5 * i + 1 := am_cR (by omega) (by omega)
  have e5 : (5 * i).toNat = 5 * i.toNat := by omega
  have e6 : (5 * i + 1).toNat = 5 * i.toNat + 1 := by omega
  have dg := am_bh_d hb p0
  have cl : am_c (ν 95 (am_c i).toNat) = 114 := by rw [ci, el, hc]; rfl
  obtain ⟨td1, td2, td3, td4⟩ := td
  have dg := dg (by omega)
  rw [am_ld_114 hc] at dg
  have d1 : 0 ≤ am_dt t n (p + 1) := (Int.add_zero (p + 1)) ▸ dg 0 (by decide)
  have d2 : 0 ≤ am_dt t n (p + 2) := by have q := dg 1 (by decide); rw [show p + 1 + ((1 : Nat) : Int) = p + 2 by omega] at q; exact q
  have d3 : 0 ≤ am_dt t n (p + 3) := by have q := dg 2 (by decide); rw [show p + 1 + ((2 : Nat) : Int) = p + 3 by omega] at q; exact q
  have d4 : 0 ≤ am_dt t n (p + 4) := by have q := dg 3 (by decide); rw [show p + 1 + ((3 : Nat) : Int) = p + 4 by omega] at q; exact q
  have d5 : 0 ≤ am_dt t n (p + 5) := by have q := dg 4 (by decide); rw [show p + 1 + ((4 : Nat) : Int) = p + 5 by omega] at q; exact q
  have d6 : 0 ≤ am_dt t n (p + 6) := by have q := dg 5 (by decide); rw [show p + 1 + ((5 : Nat) : Int) = p + 6 by omega] at q; exact q
  have d7 : 0 ≤ am_dt t n (p + 7) := by have q := dg 6 (by decide); rw [show p + 1 + ((6 : Nat) : Int) = p + 7 by omega] at q; exact q
  have d8 : 0 ≤ am_dt t n (p + 8) := by have q := dg 7 (by decide); rw [show p + 1 + ((7 : Nat) : Int) = p + 8 by omega] at q; exact q
  have b1 := am_dt_b t n (p + 1)
  have b2 := am_dt_b t n (p + 2)
  have b3 := fp_2_b (t := t) (n := n) (q := p + 3) d3 (by rw [show p + 3 + 1 = p + 4 by omega]; exact d4)
  have b5 := fp_2_b (t := t) (n := n) (q := p + 5) d5 (by rw [show p + 5 + 1 = p + 6 by omega]; exact d6)
  have b7 := fp_2_b (t := t) (n := n) (q := p + 7) d7 (by rw [show p + 7 + 1 = p + 8 by omega]; exact d8)
  obtain ⟨u0, u1, u2, u3, u4⟩ := td2 hc
  refine am_go (ct := fun _ => false) am_oX7_comes 300 ?_
  conv => whnf
  repeat' first
    | (refine (?_ : am_wp _ _ _ _ _ _ _ _ _ _ _ _); conv => whnf)
    | (refine (?_ : am_sw _ _ _ _); conv => whnf)
    | refine And.intro trivial ?_
    | exact trivial
    | refine And.intro (fun h => absurd (h.symm.trans cl) (by decide)) (fun _ => ?_)
    | refine And.intro (fun _ => ?_) (fun h => absurd cl h)
    | (refine x_comesRunner (5 * i) (am_dt t n (p + 1)) (am_dt t n (p + 2)) (fp_2 t n (p + 3)) (fp_2 t n (p + 5)) (fp_2 t n (p + 7)) ?_ ?_ ?_ ?_ ?_ ?_ ?_ ?_ ?_ ?_ ?_ ?_ ?_ ?_ ?_ ?_ ?_ f0 f1 (fun y μ2 g0 g1 g2 g3 g4 g5 g6 g7 => ?_) (fun y => ?_))
    | (refine k1 ((fp_ok_r hc).mpr y) _ ?_ ?_ ?_)
    | (refine k0 (fun z => y ((fp_ok_r hc).mp z)) _ (fun _ _ _ _ _ _ => rfl) h3)
    | refine And.intro (fun h => absurd h (by decide)) (fun _ => ?_)
    | refine And.intro (fun _ => ?_) (fun h => absurd (by decide) h)
    | refine And.intro (fun _ => ?_) (fun _ => ?_)
    | refine And.intro ?_ ?_
  all_goals (first | decide | omega | exact b3.1 | exact b3.2 | exact b5.1 | exact b5.2 | exact b7.1 | exact b7.2 | (rw [e5]; first | exact u0 | exact u1 | exact u2 | exact u3 | exact u4) | (intro a b h1 h2 h3 h4; exact g0 a b (by omega) (by omega)) | (intro x hx; rw [g0 _ _ (by omega) (by omega)]; exact h3 x hx) | (rw [fp_cf_r hc, mv_n]; refine fp_ct_e (fun b hb => ?_) (fun a b q1 q2 hb => ?_); (show μ2 83 (10 + b) = _; by_cases d : b = 4; (subst d; exact g7); (rw [am_uE (by omega), am_upN (by decide), am_upN (by decide), am_upN (by decide), am_upN (by decide), am_upN (by decide), am_upN (by decide), mv_0 hb]; exact g0 83 (10 + b) (by omega) (by omega))); (obtain ⟨a, rfl⟩ : ∃ e, a = e + 1 := ⟨a - 1, by omega⟩; show μ2 (85 + a) b = _; rw [am_uE (by omega)]; by_cases d : b = (ν 83 14).toNat; (subst d; rcases (show a = 0 ∨ a = 1 ∨ a = 2 ∨ a = 3 ∨ a = 4 ∨ a = 5 by omega) with rfl | rfl | rfl | rfl | rfl | rfl; (rw [am_upN (by decide), am_upN (by decide), am_upN (by decide), am_upN (by decide), am_upN (by decide), am_upS, if_pos ⟨rfl, rfl⟩]; exact g1); (rw [am_upN (by decide), am_upN (by decide), am_upN (by decide), am_upN (by decide), am_upS, if_pos ⟨rfl, rfl⟩]; exact g2); (rw [am_upN (by decide), am_upN (by decide), am_upN (by decide), am_upS, if_pos ⟨rfl, rfl⟩]; exact g3); (rw [am_upN (by decide), am_upN (by decide), am_upS, if_pos ⟨rfl, rfl⟩]; exact g4); (rw [am_upN (by decide), am_upS, if_pos ⟨rfl, rfl⟩]; exact g5); (rw [am_upS, if_pos ⟨rfl, rfl⟩]; exact g6)); (rw [am_upM d, am_upM d, am_upM d, am_upM d, am_upM d, am_upM d, mv_a (by omega) hb]; exact g0 (85 + a) b (by omega) (by omega)))) | (trace_state; fail))
theorem x_mc_103 {l : Launch} {ν : am_N} {Q : Option am_V → am_N → Prop} (t : Nat → Int) (n p i : Int) (n0 : 0 ≤ n) (n1 : n ≤ 96) (hL : ∀ i : Nat, (i : Int) < n → 0 ≤ t i ∧ t i ≤ 255) (p0 : 0 ≤ p) (p1 : p < n) (hb : 0 ≤ am_bh t n p) (i0 : 0 ≤ i) (i1 : i < 48) (el : ν 95 i.toNat = am_nx t n p) (td : fp_td t n p (ν 97) (5 * i.toNat)) (hw : fp_fw 999 (mv ν)) (h3 : sx_3 ν 100) (hc : am_nx t n p = 103) (k1 : fp_ok t n (mv ν) p → ∀ μ' : am_N, (∀ a b, ¬(85 ≤ a ∧ a ≤ 90) → ¬(a = 83 ∧ 10 ≤ b ∧ b ≤ 14) → a ≠ 99 → a ≠ 100 → μ' a b = ν a b) → mv μ' = fp_cf t n (mv ν) p → sx_3 μ' 100 → Q (some (.inl 1)) μ') (k0 : ¬ fp_ok t n (mv ν) p → ∀ μ' : am_N, (∀ a b, ¬(85 ≤ a ∧ a ≤ 90) → ¬(a = 83 ∧ 10 ≤ b ∧ b ≤ 14) → a ≠ 99 → a ≠ 100 → μ' a b = ν a b) → sx_3 μ' 100 → Q (some (.inl 0)) μ') : am_Does l 155 [.inr (.inr 83), .inl i] ν Q := by
  refine am_Does_of (Nat.le_of_ble_eq_true rfl) (Nat.le_of_ble_eq_true rfl) (Nat.le_of_ble_eq_true rfl) ?_
  have l0 : am_c 0 = 0 := rfl
  have l1 : am_c 1 = 1 := rfl
  have l2 : am_c 2 = 2 := rfl
  have l3 : am_c 3 = 3 := rfl
  have l4 : am_c 4 = 4 := rfl
  have l5 : am_c 5 = 5 := rfl
  have l20 : am_c 20 = 20 := rfl
  have l40 : am_c 40 = 40 := rfl
  have l200 : am_c 200 = 200 := rfl
  have l999 : am_c 999 = 999 := rfl
  obtain ⟨hf, hr, hy, hs, hway, hweek, hmore⟩ := fw_M hw (by decide)
  have f0 := hf.1.1
  have f1 := hf.1.2
  have c14 : am_c (ν 83 14) = ν 83 14 := am_cR (by omega) (by omega)
  have c11 : am_c (ν 83 11) = ν 83 11 := am_cR (by omega) (by omega)
  have ci : am_c i = i := am_cR (by omega) (by omega)
  have c5 : am_c (5 * i) = 5 * i := am_cR (by omega) (by omega)
  have c6 : am_c (5 * i + 1) = 5 * i + 1 := am_cR (by omega) (by omega)
  have e5 : (5 * i).toNat = 5 * i.toNat := by omega
  have e6 : (5 * i + 1).toNat = 5 * i.toNat + 1 := by omega
  have dg := am_bh_d hb p0
  have cl : am_c (ν 95 (am_c i).toNat) = 103 := by rw [ci, el, hc]; rfl
  obtain ⟨td1, td2, td3, td4⟩ := td
  have n1' : am_nx t n p ≠ 119 := by omega
  have n2' : am_nx t n p ≠ 114 := by omega
  have n3' : am_nx t n p ≠ 109 := by omega
  have n4' : am_nx t n p ≠ 115 := by omega
  refine am_go (ct := fun _ => false) am_oX7_comes 300 ?_
  conv => whnf
  repeat' first
    | (refine (?_ : am_wp _ _ _ _ _ _ _ _ _ _ _ _); conv => whnf)
    | (refine (?_ : am_sw _ _ _ _); conv => whnf)
    | refine And.intro trivial ?_
    | exact trivial
    | refine And.intro (fun h => absurd (h.symm.trans cl) (by decide)) (fun _ => ?_)
    | refine And.intro (fun _ => ?_) (fun h => absurd cl h)
    | refine x_runs 999 hw (by decide) ?_ h3 (fun μ2 g0 g1 g2 g3 g4 => ?_)
    | (refine k1 ((fp_ok_g n1' n2' n3' n4').mpr ?_) _ ?_ ?_ ?_)
    | (refine k0 (fun z => ?_) _ (fun _ _ _ _ _ _ => rfl) h3)
    | refine And.intro (fun h => absurd h (by decide)) (fun _ => ?_)
    | refine And.intro (fun _ => ?_) (fun h => absurd (by decide) h)
    | refine And.intro (fun _ => ?_) (fun _ => ?_)
    | refine And.intro ?_ ?_
  all_goals (first | decide | omega | (simp only [c14, c11] at *; omega) | (rw [mv_n]; simp only [c14, c11] at *; omega) | (rw [mv_k]; simp only [c14, c11] at *; omega) | (have q := (fp_ok_g n1' n2' n3' n4').mp z; rw [mv_n, mv_k] at q; simp only [c14, c11] at *; omega) | (intro a b h1 h2 h3 h4; exact g0 a b (by omega) (by omega) (by omega) h3 h4) | (rw [fp_cf_g n1' n2' n3' n4']; exact g1) | exact g2 | (trace_state; fail))
theorem x_mcomes {l : Launch} {ν : am_N} {Q : Option am_V → am_N → Prop} (t : Nat → Int) (n p i : Int) (n0 : 0 ≤ n) (n1 : n ≤ 96) (hL : ∀ i : Nat, (i : Int) < n → 0 ≤ t i ∧ t i ≤ 255) (p0 : 0 ≤ p) (p1 : p < n) (hb : 0 ≤ am_bh t n p) (i0 : 0 ≤ i) (i1 : i < 48) (el : ν 95 i.toNat = am_nx t n p) (td : fp_td t n p (ν 97) (5 * i.toNat)) (hw : fp_fw 999 (mv ν)) (h3 : sx_3 ν 100) (k1 : fp_ok t n (mv ν) p → ∀ μ' : am_N, (∀ a b, ¬(85 ≤ a ∧ a ≤ 90) → ¬(a = 83 ∧ 10 ≤ b ∧ b ≤ 14) → a ≠ 99 → a ≠ 100 → μ' a b = ν a b) → mv μ' = fp_cf t n (mv ν) p → sx_3 μ' 100 → Q (some (.inl 1)) μ') (k0 : ¬ fp_ok t n (mv ν) p → ∀ μ' : am_N, (∀ a b, ¬(85 ≤ a ∧ a ≤ 90) → ¬(a = 83 ∧ 10 ≤ b ∧ b ≤ 14) → a ≠ 99 → a ≠ 100 → μ' a b = ν a b) → sx_3 μ' 100 → Q (some (.inl 0)) μ') : am_Does l 155 [.inr (.inr 83), .inl i] ν Q := by
  have hc : 0 ≤ am_ld (am_nx t n p) := by
    by_cases z : 0 ≤ am_ld (am_nx t n p)
    · exact z
    · rw [am_bh_1 (by omega)] at hb; omega
  have hd : am_nx t n p = 119 ∨ am_nx t n p = 114 ∨ am_nx t n p = 109 ∨ am_nx t n p = 115 ∨ am_nx t n p = 103 := by
    unfold am_ld at hc
    repeat' split at hc
    all_goals omega
  rcases hd with h | h | h | h | h
  · exact x_mc_119 t n p i n0 n1 hL p0 p1 hb i0 i1 el td hw h3 h k1 k0
  · exact x_mc_114 t n p i n0 n1 hL p0 p1 hb i0 i1 el td hw h3 h k1 k0
  · exact x_mc_109 t n p i n0 n1 hL p0 p1 hb i0 i1 el td hw h3 h k1 k0
  · exact x_mc_115 t n p i n0 n1 hL p0 p1 hb i0 i1 el td hw h3 h k1 k0
  · exact x_mc_103 t n p i n0 n1 hL p0 p1 hb i0 i1 el td hw h3 h k1 k0
