theorem x_mc_109 {l : Launch} {ν : am_N} {Q : Option am_V → am_N → Prop} (t : Nat → Int) (n p i : Int) (n0 : 0 ≤ n) (n1 : n ≤ 96) (hL : ∀ i : Nat, (i : Int) < n → 0 ≤ t i ∧ t i ≤ 255) (p0 : 0 ≤ p) (p1 : p < n) (hb : 0 ≤ am_bh t n p) (i0 : 0 ≤ i) (i1 : i < 48) (el : ν 95 i.toNat = am_nx t n p) (td : fp_td t n p (ν 97) (5 * i.toNat)) (hw : fp_fw 999 (mv ν)) (h3 : sx_3 ν 100) (hc : am_nx t n p = 109) (k1 : fp_ok t n (mv ν) p → ∀ μ' : am_N, (∀ a b, ¬(85 ≤ a ∧ a ≤ 90) → ¬(a = 83 ∧ 10 ≤ b ∧ b ≤ 14) → a ≠ 99 → a ≠ 100 → μ' a b = ν a b) → mv μ' = fp_cf t n (mv ν) p → sx_3 μ' 100 → Q (some (.inl 1)) μ') (k0 : ¬ fp_ok t n (mv ν) p → ∀ μ' : am_N, (∀ a b, ¬(85 ≤ a ∧ a ≤ 90) → ¬(a = 83 ∧ 10 ≤ b ∧ b ≤ 14) → a ≠ 99 → a ≠ 100 → μ' a b = ν a b) → sx_3 μ' 100 → Q (some (.inl 0)) μ') : am_Does l 155 [.inr (.inr 83), .inl i] ν Q := by
  refine am_Does_of (Nat.le_of_ble_eq_true rfl) (Nat.le_of_ble_eq_true rfl) (Nat.le_of_ble_eq_true rfl) ?_
  have l0 : am_c 0 = 0 := rfl
  have l1 : am_c 1 = 1 := rfl
  have l2 : am_c 2 = 2 := rfl
  have l3 : am_c 3 = 3 := rfl
  have l4 : am_c 4 = 4 := rfl
  have l5 : am_c 5 = 5 := rfl
  have l20 : am_c 20 = 20 := rfl
  have l40 : am_c 40 = 40 := rfl
  have l200 : am_c 200 = 200 := rfl
  have l999 : am_c 999 = 999 := rfl
  obtain ⟨hf, hr, hy, hs, hway, hweek, hmore⟩ := fw_M hw (by decide)
  have f0 := hf.1.1
  have f1 := hf.1.2
  have c14 : am_c (ν 83 14) = ν 83 14 := am_cR (by omega) (by omega)
  have c11 : am_c (ν 83 11) = ν 83 11 := am_cR (by omega) (by omega)
  have ci : am_c i = i := am_cR (by omega) (by omega)
  have c5 : am_c (5 * i) = 5 * i := am_cR (by omega) (by omega)
  have c6 : am_c (5 * i + 1) = 5 * i + 1 := am_cR (by omega) (by omega)
  have e5 : (5 * i).toNat = 5 * i.toNat := by omega
  have e6 : (5 * i + 1).toNat = 5 * i.toNat + 1 := by omega
  have dg := am_bh_d hb p0
  have cl : am_c (ν 95 (am_c i).toNat) = 109 := by rw [ci, el, hc]; rfl
  obtain ⟨td1, td2, td3, td4⟩ := td
  have dg := dg (by omega)
  rw [am_ld_109 hc] at dg
  have d1 : 0 ≤ am_dt t n (p + 1) := (Int.add_zero (p + 1)) ▸ dg 0 (by decide)
  have b1 := am_dt_b t n (p + 1)
  have b2 := am_dt_b t n (p + 2)
  have t1 : ν 97 (am_c (5 * i)).toNat = am_dt t n (p + 1) := by rw [c5, e5]; exact (td3 hc).1
  have t2 : ν 97 (am_c (5 * i + 1)).toNat = am_dt t n (p + 2) := by rw [c6, e6]; exact (td3 hc).2
  have t2' : ∀ v : Int, am_up ν 83 12 v 97 (am_c (5 * i + 1)).toNat = am_dt t n (p + 2) := fun v => (am_upN (by decide)).trans t2
  have cd1 : am_c (am_dt t n (p + 1)) = am_dt t n (p + 1) := am_cR (by omega) (by omega)
  have cd2 : am_c (am_dt t n (p + 2)) = am_dt t n (p + 2) := am_cR (by omega) (by omega)
  have r12 : ∀ v w : Int, am_up (am_up ν 83 12 v) 83 13 w 83 12 = v := fun v w => (am_upM (by decide)).trans (if_pos ⟨rfl, rfl⟩)
  have r13 : ∀ v w : Int, am_up (am_up ν 83 12 v) 83 13 w 83 13 = w := fun v w => if_pos ⟨rfl, rfl⟩
  refine am_go (ct := fun _ => false) am_oX7_comes 300 ?_
  conv => whnf
  repeat' first
    | (refine (?_ : am_wp _ _ _ _ _ _ _ _ _ _ _ _); conv => whnf)
    | (refine (?_ : am_sw _ _ _ _); conv => whnf)
    | refine And.intro trivial ?_
    | exact trivial
    | refine And.intro (fun h => absurd (h.symm.trans cl) (by decide)) (fun _ => ?_)
    | refine And.intro (fun _ => ?_) (fun h => absurd cl h)
    | (refine k1 ((fp_ok_m hc).mpr ?_) _ ?_ ?_ ?_)
    | (refine k0 (fun z => ?_) _ ?_ ?_)
    | refine And.intro (fun h => absurd h (by decide)) (fun _ => ?_)
    | refine And.intro (fun _ => ?_) (fun h => absurd (by decide) h)
    | refine And.intro (fun _ => ?_) (fun _ => ?_)
    | refine And.intro ?_ ?_
  all_goals (first | decide | omega | (rw [c5]; omega) | (rw [c6]; omega) | (intro a b h1 h2 h3 h4; exact Eq.trans (am_uE (fun z => h2 (by rw [z.1, z.2]; decide))) (am_uE (fun z => h2 (by rw [z.1, z.2]; decide)))) | exact sx_3N (sx_3N h3 (by decide)) (by decide) | (simp only [r12, r13, t1, t2, t2', cd1, cd2] at *; omega) | (have q := (fp_ok_m hc).mp z; simp only [r12, r13, t1, t2, t2', cd1, cd2] at *; omega) | (simp only [t1, t2']; rw [fp_cf_m hc]; refine fp_ct_e (fun b hb => ?_) (fun a b q1 q2 hb => ?_); (by_cases z3 : b = 3; (subst z3; rfl); (by_cases z2 : b = 2; (subst z2; rfl); (rw [am_upM z3, am_upM z2]; exact Eq.trans (am_upM (by omega)) (Eq.trans (am_upM (by omega)) (mv_0 hb).symm)))); (obtain ⟨a, rfl⟩ : ∃ e, a = e + 1 := ⟨a - 1, by omega⟩; rw [am_upN (by omega), am_upN (by omega)]; exact Eq.trans (am_upN (show 85 + a ≠ 83 by omega)) (Eq.trans (am_upN (show 85 + a ≠ 83 by omega)) (mv_a (by omega) hb).symm))) | (trace_state; fail))
