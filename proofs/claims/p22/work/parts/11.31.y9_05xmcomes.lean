theorem x_mc_103 {l : Launch} {ν : am_N} {Q : Option am_V → am_N → Prop} (t : Nat → Int) (n p i : Int) (n0 : 0 ≤ n) (n1 : n ≤ 96) (hL : ∀ i : Nat, (i : Int) < n → 0 ≤ t i ∧ t i ≤ 255) (p0 : 0 ≤ p) (p1 : p < n) (hb : 0 ≤ am_bh t n p) (i0 : 0 ≤ i) (i1 : i < 48) (el : ν 95 i.toNat = am_nx t n p) (td : fp_td t n p (ν 97) (5 * i.toNat)) (hw : fp_fw 999 (mv ν)) (h3 : sx_3 ν 100) (hc : am_nx t n p = 103) (k1 : fp_ok t n (mv ν) p → ∀ μ' : am_N, (∀ a b, ¬(85 ≤ a ∧ a ≤ 90) → ¬(a = 83 ∧ 10 ≤ b ∧ b ≤ 14) → a ≠ 99 → a ≠ 100 → μ' a b = ν a b) → mv μ' = fp_cf t n (mv ν) p → sx_3 μ' 100 → Q (some (.inl 1)) μ') (k0 : ¬ fp_ok t n (mv ν) p → ∀ μ' : am_N, (∀ a b, ¬(85 ≤ a ∧ a ≤ 90) → ¬(a = 83 ∧ 10 ≤ b ∧ b ≤ 14) → a ≠ 99 → a ≠ 100 → μ' a b = ν a b) → sx_3 μ' 100 → Q (some (.inl 0)) μ') : am_Does l 155 [.inr (.inr 83), .inl i] ν Q := by
  refine am_Does_of (Nat.le_of_ble_eq_true rfl) (Nat.le_of_ble_eq_true rfl) (Nat.le_of_ble_eq_true rfl) ?_
  have l0 : am_c 0 = 0 := rfl
  have l1 : am_c 1 = 1 := rfl
  have l2 : am_c 2 = 2 := rfl
  have l3 : am_c 3 = 3 := rfl
  have l4 : am_c 4 = 4 := rfl
  have l5 : am_c 5 = 5 := rfl
  have l20 : am_c 20 = 20 := rfl
  have l40 : am_c 40 = 40 := rfl
  have l200 : am_c 200 = 200 := rfl
  have l999 : am_c 999 = 999 := rfl
  obtain ⟨hf, hr, hy, hs, hway, hweek, hmore⟩ := fw_M hw (by decide)
  have f0 := hf.1.1
  have f1 := hf.1.2
  have c14 : am_c (ν 83 14) = ν 83 14 := am_cR (by omega) (by omega)
  have c11 : am_c (ν 83 11) = ν 83 11 := am_cR (by omega) (by omega)
  have ci : am_c i = i := am_cR (by omega) (by omega)
  have c5 : am_c (5 * i) = 5 * i := am_cR (by omega) (by omega)
  have c6 : am_c (5 * i + 1) = 5 * i + 1 := am_cR (by omega) (by omega)
  have e5 : (5 * i).toNat = 5 * i.toNat := by omega
  have e6 : (5 * i + 1).toNat = 5 * i.toNat + 1 := by omega
  have dg := am_bh_d hb p0
  have cl : am_c (ν 95 (am_c i).toNat) = 103 := by rw [ci, el, hc]; rfl
  obtain ⟨td1, td2, td3, td4⟩ := td
  have n1' : am_nx t n p ≠ 119 := by omega
  have n2' : am_nx t n p ≠ 114 := by omega
  have n3' : am_nx t n p ≠ 109 := by omega
  have n4' : am_nx t n p ≠ 115 := by omega
  refine am_go (ct := fun _ => false) am_oX7_comes 300 ?_
  conv => whnf
  repeat' first
    | (refine (?_ : am_wp _ _ _ _ _ _ _ _ _ _ _ _); conv => whnf)
    | (refine (?_ : am_sw _ _ _ _); conv => whnf)
    | refine And.intro trivial ?_
    | exact trivial
    | refine And.intro (fun h => absurd (h.symm.trans cl) (by decide)) (fun _ => ?_)
    | refine And.intro (fun _ => ?_) (fun h => absurd cl h)
    | ((with_reducible refine (?_ : am_Does _ 172 _ _ _)); refine x_runs 999 hw (by decide) ?_ h3 (fun μ2 g0 g1 g2 g3 g4 => ?_))
    | (refine k1 ((fp_ok_g n1' n2' n3' n4').mpr ?_) _ ?_ ?_ ?_)
    | (refine k0 (fun z => ?_) _ (fun _ _ _ _ _ _ => rfl) h3)
    | refine And.intro (fun h => absurd h (by decide)) (fun _ => ?_)
    | refine And.intro (fun _ => ?_) (fun h => absurd (by decide) h)
    | refine And.intro (fun _ => ?_) (fun _ => ?_)
    | refine And.intro ?_ ?_
  all_goals (first | decide | omega | (simp only [c14, c11] at *; omega) | (rw [mv_n]; simp only [c14, c11] at *; omega) | (rw [mv_k]; simp only [c14, c11] at *; omega) | (have q := (fp_ok_g n1' n2' n3' n4').mp z; rw [mv_n, mv_k] at q; simp only [c14, c11] at *; omega) | (intro a b h1 h2 h3 h4; exact g0 a b (by omega) (by omega) (by omega) h3 h4) | (rw [fp_cf_g n1' n2' n3' n4']; exact g1) | exact g2 | (trace_state; fail))
theorem x_mcomes {l : Launch} {ν : am_N} {Q : Option am_V → am_N → Prop} (t : Nat → Int) (n p i : Int) (n0 : 0 ≤ n) (n1 : n ≤ 96) (hL : ∀ i : Nat, (i : Int) < n → 0 ≤ t i ∧ t i ≤ 255) (p0 : 0 ≤ p) (p1 : p < n) (hb : 0 ≤ am_bh t n p) (i0 : 0 ≤ i) (i1 : i < 48) (el : ν 95 i.toNat = am_nx t n p) (td : fp_td t n p (ν 97) (5 * i.toNat)) (hw : fp_fw 999 (mv ν)) (h3 : sx_3 ν 100) (k1 : fp_ok t n (mv ν) p → ∀ μ' : am_N, (∀ a b, ¬(85 ≤ a ∧ a ≤ 90) → ¬(a = 83 ∧ 10 ≤ b ∧ b ≤ 14) → a ≠ 99 → a ≠ 100 → μ' a b = ν a b) → mv μ' = fp_cf t n (mv ν) p → sx_3 μ' 100 → Q (some (.inl 1)) μ') (k0 : ¬ fp_ok t n (mv ν) p → ∀ μ' : am_N, (∀ a b, ¬(85 ≤ a ∧ a ≤ 90) → ¬(a = 83 ∧ 10 ≤ b ∧ b ≤ 14) → a ≠ 99 → a ≠ 100 → μ' a b = ν a b) → sx_3 μ' 100 → Q (some (.inl 0)) μ') : am_Does l 155 [.inr (.inr 83), .inl i] ν Q := by
  have hc : 0 ≤ am_ld (am_nx t n p) := by
    by_cases z : 0 ≤ am_ld (am_nx t n p)
    · exact z
    · rw [am_bh_1 (by omega)] at hb; omega
  have hd : am_nx t n p = 119 ∨ am_nx t n p = 114 ∨ am_nx t n p = 109 ∨ am_nx t n p = 115 ∨ am_nx t n p = 103 := by
    unfold am_ld at hc
    repeat' split at hc
    all_goals omega
  rcases hd with h | h | h | h | h
  · exact x_mc_119 t n p i n0 n1 hL p0 p1 hb i0 i1 el td hw h3 h k1 k0
  · exact x_mc_114 t n p i n0 n1 hL p0 p1 hb i0 i1 el td hw h3 h k1 k0
  · exact x_mc_109 t n p i n0 n1 hL p0 p1 hb i0 i1 el td hw h3 h k1 k0
  · exact x_mc_115 t n p i n0 n1 hL p0 p1 hb i0 i1 el td hw h3 h k1 k0
  · exact x_mc_103 t n p i n0 n1 hL p0 p1 hb i0 i1 el td hw h3 h k1 k0
