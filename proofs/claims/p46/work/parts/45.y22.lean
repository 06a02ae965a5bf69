/-! when STARTS settle, which RULE is best -/
/-- the gap of a race as a rule -/
def fp_gp (F : am_N) : Int := fp_tf F (fp_od (fp_tf F) (F 0 4) 1).toNat - fp_tf F (fp_f F).toNat
def fp_gs (F : am_N) : Nat → Int
  | 0 => 0
  | k + 1 => fp_gs F k + fp_gp (fp_go F k)
def fp_ru2 (F : am_N) (r : Int) : am_N := fp_ct (am_up F 0 2 r)
theorem fw_ru2 {W : Int} {F : am_N} {r : Int} (h : fp_fw W F) (hr : 0 ≤ r ∧ r ≤ 4) : fp_fw W (fp_ru2 F r) := by
  refine fw_ct ?_
  obtain ⟨h0, h1, h2, h3, h4, h5, h6⟩ := h
  have e : ∀ b : Nat, b ≠ 2 → am_up F 0 2 r 0 b = F 0 b := fun b z => am_upM z
  have ea : ∀ a b : Nat, 0 < a → am_up F 0 2 r a b = F a b := fun a b z => am_upN (by omega)
  have e2 : am_up F 0 2 r 0 2 = r := if_pos ⟨rfl, rfl⟩
  unfold fp_fw
  rw [e 0 (by decide), e 1 (by decide), e2, e 3 (by decide), e 4 (by decide)]
  refine ⟨h0, h1, hr, h3, h4, fun j hj => ?_, fun j hj => ?_⟩
  · rw [ea 5 j (by decide)]; exact h5 j hj
  · rw [ea 1 j (by decide), ea 2 j (by decide), ea 3 j (by decide), ea 4 j (by decide)]; exact h6 j hj
theorem fp_gp_b {W : Int} {F : am_N} (h : fp_fw W F) (hW : W ≤ 2000) (h2 : 2 ≤ F 0 4) : -60000 ≤ fp_gp F ∧ fp_gp F ≤ 60000 := by
  have h4 := h.2.2.2.2.1
  have hc : am_fC F 0 := by
    obtain ⟨a0, a1, a2, a3, a4, a5, a6⟩ := h
    refine ⟨a4, ⟨by omega, by omega⟩, fun i hi => ?_⟩
    obtain ⟨q1, q2, q3, q4⟩ := a6 i hi
    exact ⟨⟨q3, q2, q1, by omega, by omega⟩, a5 i (by omega)⟩
  have o1 := fp_od_n (t := fp_tf F) (n := F 0 4) (p := 1) h4.2 (by decide) (by omega)
  have b1 := fp_od_b (fp_tf F) (F 0 4) 1
  have o0 : fp_f F < F 0 4 := fp_od_n (t := fp_tf F) (n := F 0 4) (p := 0) h4.2 (by decide) (by omega)
  have b0 := fp_f_b F
  have t1 := am_TC_b (i := (fp_od (fp_tf F) (F 0 4) 1).toNat) hc (by omega)
  have t0 := am_TC_b (i := (fp_f F).toNat) hc (by omega)
  have t1 : 1 ≤ fp_tf F (fp_od (fp_tf F) (F 0 4) 1).toNat ∧ fp_tf F (fp_od (fp_tf F) (F 0 4) 1).toNat ≤ 60000 := t1
  have t0 : 1 ≤ fp_tf F (fp_f F).toNat ∧ fp_tf F (fp_f F).toNat ≤ 60000 := t0
  unfold fp_gp
  omega
theorem fp_gs_b {F : am_N} (h : fp_fw 999 F) (h2 : 2 ≤ F 0 4) : ∀ k : Nat, k ≤ 60 → -(60000 * (k : Int)) ≤ fp_gs F k ∧ fp_gs F k ≤ 60000 * (k : Int) := by
  intro k
  induction k with
  | zero => intro _; exact ⟨(by first | exact Int.le_refl 0 | (show (0 : Int) ≤ 1; decide) | (show (0 : Int) ≤ _; decide) | (show _ ≤ (0 : Int); decide) | (show (1 : Int) ≤ _; decide) | (show (0 : Int) < _; decide)), (by first | exact Int.le_refl 0 | (show (0 : Int) ≤ 1; decide) | (show (0 : Int) ≤ _; decide) | (show _ ≤ (0 : Int); decide) | (show (1 : Int) ≤ _; decide) | (show (0 : Int) < _; decide))⟩
  | succ k ih =>
    intro hk
    have q := ih (by omega)
    have p := fp_gp_b (W := 999 + (k : Int)) (F := fp_go F k) (fw_go h k) (by omega) (by rw [fp_go_n]; exact h2)
    simp only [fp_gs]
    omega
theorem x_gap {l : Launch} {ν : am_N} {Q : Option am_V → am_N → Prop} (P S : Int) (hP : ν 34 0 = P) (hS : ν 34 1 = S) (P0 : 0 ≤ P) (P1 : P < 4) (S0 : 0 ≤ S) (S1 : S < 4) (h2 : 2 ≤ ν 29 0) (h4 : ν 29 0 ≤ 4) (k : Q (some (.inl (ν 33 S.toNat - ν 33 P.toNat))) ν) : am_Does l 39 [.inr (.inr 29)] ν Q := by
  refine am_Does_of (Nat.le_of_ble_eq_true rfl) (Nat.le_of_ble_eq_true rfl) (Nat.le_of_ble_eq_true rfl) ?_
  have l0 : am_c 0 = 0 := rfl
  have l1 : am_c 1 = 1 := rfl
  have l2 : am_c 2 = 2 := rfl
  have l4 : am_c 4 = 4 := rfl
  have l5 : am_c 5 = 5 := rfl
  have l60 : am_c 60 = 60 := rfl
  have l100 : am_c 100 = 100 := rfl
  have cn : am_c (ν 29 0) = ν 29 0 := am_cR (by omega) (by omega)
  have w0 : ν 34 (am_c 0).toNat = P := hP
  have w1 : ν 34 (am_c 1).toNat = S := hS
  have cP : am_c P = P := am_cR (by omega) (by omega)
  have cS : am_c S = S := am_cR (by omega) (by omega)
  refine am_go (ct := fun _ => false) am_oX2_gap 300 ?_
  conv => whnf
  repeat' first
    | (refine (?_ : am_wp _ _ _ _ _ _ _ _ _ _ _ _); conv => whnf)
    | (refine (?_ : am_sw _ _ _ _); conv => whnf)
    | refine And.intro trivial ?_
    | exact trivial
    | refine am_qe k ?_
    | refine And.intro (fun h => absurd h (by decide)) (fun _ => ?_)
    | refine And.intro (fun _ => ?_) (fun h => absurd (by decide) h)
    | refine And.intro (fun _ => ?_) (fun _ => ?_)
    | refine And.intro ?_ ?_
  all_goals (first | decide | omega | ((simp only [cn, l1] at *; first | done | omega)) | (rw [w1, cS]; omega) | (rw [w0, cP]; omega) | (rw [w0, w1, cP, cS]) | (trace_state; fail))
theorem n_gap {l : Launch} {ν : am_N} {Q : Option am_V → am_N → Prop} (P S : Int) (hP : ν 100 0 = P) (hS : ν 100 1 = S) (P0 : 0 ≤ P) (P1 : P < 4) (S0 : 0 ≤ S) (S1 : S < 4) (k : Q (some (.inl (ν 99 S.toNat - ν 99 P.toNat))) ν) : am_Does l 189 [.inr (.inr 83)] ν Q := by
  refine am_Does_of (Nat.le_of_ble_eq_true rfl) (Nat.le_of_ble_eq_true rfl) (Nat.le_of_ble_eq_true rfl) ?_
  have l0 : am_c 0 = 0 := rfl
  have l1 : am_c 1 = 1 := rfl
  have l2 : am_c 2 = 2 := rfl
  have l4 : am_c 4 = 4 := rfl
  have l5 : am_c 5 = 5 := rfl
  have l60 : am_c 60 = 60 := rfl
  have l100 : am_c 100 = 100 := rfl
  have w0 : ν 100 (am_c 0).toNat = P := hP
  have w1 : ν 100 (am_c 1).toNat = S := hS
  have cP : am_c P = P := am_cR (by omega) (by omega)
  have cS : am_c S = S := am_cR (by omega) (by omega)
  refine am_go (ct := fun _ => false) am_oX7_gap 300 ?_
  conv => whnf
  repeat' first
    | (refine (?_ : am_wp _ _ _ _ _ _ _ _ _ _ _ _); conv => whnf)
    | (refine (?_ : am_sw _ _ _ _); conv => whnf)
    | refine And.intro trivial ?_
    | exact trivial
    | refine am_qe k ?_
    | refine And.intro (fun h => absurd h (by decide)) (fun _ => ?_)
    | refine And.intro (fun _ => ?_) (fun h => absurd (by decide) h)
    | refine And.intro (fun _ => ?_) (fun _ => ?_)
    | refine And.intro ?_ ?_
  all_goals (first | decide | omega | (rw [w1, cS]; omega) | (rw [w0, cP]; omega) | (rw [w0, w1, cP, cS]) | (trace_state; fail))
theorem s_gaps {l : Launch} {ν : am_N} {Q : Option am_V → am_N → Prop} (n : Int) (cn : am_c n = n) (hw : fp_fw 999 (fv ν 8)) (n0 : 0 ≤ n) (n1 : n ≤ 60) (h2 : 2 ≤ ν 8 4) (hp : sx_3 ν 34) (hb : 0 ≤ ν 29 0 ∧ ν 29 0 ≤ 4) (k : ∀ μ' : am_N, (∀ a b, ¬(8 ≤ a ∧ a < 15) → a ≠ 33 → a ≠ 34 → ¬(a = 29 ∧ b = 0) → μ' a b = ν a b) → μ' 8 4 = ν 8 4 → sx_3 μ' 34 → (0 ≤ μ' 29 0 ∧ μ' 29 0 ≤ 4) → Q (some (.inl (fp_gs (fv ν 8) n.toNat))) μ') : am_Does l 127 [.inr (.inr 0), .inl n, .inl 0] ν Q := by
  refine am_Does_of (Nat.le_of_ble_eq_true rfl) (Nat.le_of_ble_eq_true rfl) (Nat.le_of_ble_eq_true rfl) ?_
  have l0 : am_c 0 = 0 := rfl
  have l1 : am_c 1 = 1 := rfl
  have l2 : am_c 2 = 2 := rfl
  have l4 : am_c 4 = 4 := rfl
  have l5 : am_c 5 = 5 := rfl
  have l60 : am_c 60 = 60 := rfl
  have l100 : am_c 100 = 100 := rfl
  have h4 := (fw_C hw (by decide)).1.1
  have kk := fun (x : Int) (μ' : am_N) a1 a2 a3 a4 (e : x = fp_gs (fv ν 8) n.toNat) => am_qe (k μ' a1 a2 a3 a4) e
  have lp5 : ∀ (m : Nat) (w i : Int) (μ : am_N) , (∀ a b, ¬(8 ≤ a ∧ a < 15) → a ≠ 33 → a ≠ 34 → ¬(a = 29 ∧ b = 0) → μ a b = ν a b) → fv μ 8 = fp_go (fv ν 8) i.toNat → 0 ≤ i → i ≤ n → w = fp_gs (fv ν 8) i.toNat → sx_3 μ 34 → (0 ≤ μ 29 0 ∧ μ 29 0 ≤ 4) → n - i < (m : Int) → am_AW l 0 (fun _ => 0) 127 Q 5 [some (.inr (.inr 0)), some (.inl n), some (.inl 0), some (.inl w), some (.inl i)] [] μ := by
    intro m
    induction m with
    | zero =>
      intro w i μ hv0 hv1 hv2 hv3 hv4 hv5 hv6 hm
      exfalso
      omega
    | succ m ih =>
      intro w i μ hv0 hv1 hv2 hv3 hv4 hv5 hv6 hm
      have ci : am_c i = i := am_cR (by omega) (by omega)
      have h8 : fp_fw 1059 (fv μ 8) := by rw [hv1]; exact fw_mono (fw_go hw i.toNat) (by omega)
      have n8 : μ 8 4 = ν 8 4 := by rw [← fv_0 (μ := μ) (c := 8) (b := 4) (by decide), hv1, fp_go_n]; exact fv_0 (by decide)
      have b0 := fp_f_b (fv μ 8)
      have b1 := fp_od_b (fp_tf (fv μ 8)) (μ 8 4) 1
      have o0 : fp_f (fv μ 8) < μ 8 4 := by rw [← fv_f (by omega)]; exact fp_od_n (by omega) (by decide) (by omega)
      have o1 : fp_od (fp_tf (fv μ 8)) (μ 8 4) 1 < μ 8 4 := fp_od_n (by omega) (by decide) (by omega)
      have eF : fp_od (fp_tf (fv μ 8)) (μ 8 4) 0 = fp_f (fv μ 8) := by unfold fp_f; rw [fv_0 (by decide)]
      refine am_go (ct := fun pc => Nat.beq pc 5) am_oX6_gaps 300 ?_
      conv => whnf
      repeat' first
        | (refine (?_ : am_wp _ _ _ _ _ _ _ _ _ _ _ _); conv => whnf)
        | (refine (?_ : am_sw _ _ _ _); conv => whnf)
        | refine And.intro trivial ?_
        | exact trivial
        | ((with_reducible refine (?_ : am_Does _ 34 _ _ _)); (refine x_goOn_29_8 1059 h8 (by decide) (by omega) hv5 (fun μ2 g2 p2 b2 n2 y34 y33 => ?_)))
        | ((with_reducible refine (?_ : am_Does _ 39 _ _ _)); (refine x_gap (fp_f (fv μ 8)) (fp_od (fp_tf (fv μ 8)) (μ 8 4) 1) ((y34 0 (by omega)).trans eF) (y34 1 (by omega)) (by omega) (by omega) (by omega) (by omega) (by rw [n2]; omega) (by rw [n2]; omega) ?_; rw [y33 _ (by omega), y33 _ (by omega)]))
        | refine kk _ _ hv0 n8 hv5 hv6 ?_
        | ((with_reducible refine (?_ : am_AW _ _ _ _ _ 5 _ _ _)); refine ih _ _ _ ?_ ?_ ?_ ?_ ?_ ?_ ?_ ?_)
        | refine And.intro (fun h => absurd h (by decide)) (fun _ => ?_)
        | refine And.intro (fun _ => ?_) (fun h => absurd (by decide) h)
        | refine And.intro (fun _ => ?_) (fun _ => ?_)
        | refine And.intro ?_ ?_
      all_goals (first | decide | assumption | omega | (intro a b q1 q2 q3 q4; rw [g2 a b (by omega) (by omega) (by omega) q2 q3 q4]; exact hv0 a b q1 q2 q3 q4) | (rw [show (i + 1).toNat = i.toNat + 1 by omega, p2, hv1]; rfl) | (rw [show (i + 1).toNat = i.toNat + 1 by omega, hv4]; show _ = fp_gs (fv ν 8) i.toNat + fp_gp (fp_go (fv ν 8) i.toNat); rw [← hv1]; unfold fp_gp; rw [fv_0 (by decide)]) | (rw [n2, n8]; omega) | (rw [hv4, show i.toNat = n.toNat by (simp only [ci, cn] at *; first | done | omega)]) | (trace_state; fail))
  have lp5' : ∀ (w i : Int) (μ : am_N) , (∀ a b, ¬(8 ≤ a ∧ a < 15) → a ≠ 33 → a ≠ 34 → ¬(a = 29 ∧ b = 0) → μ a b = ν a b) → fv μ 8 = fp_go (fv ν 8) i.toNat → 0 ≤ i → i ≤ n → w = fp_gs (fv ν 8) i.toNat → sx_3 μ 34 → (0 ≤ μ 29 0 ∧ μ 29 0 ≤ 4) → am_AW l 0 (fun _ => 0) 127 Q 5 [some (.inr (.inr 0)), some (.inl n), some (.inl 0), some (.inl w), some (.inl i)] [] μ := fun w i μ hv0 hv1 hv2 hv3 hv4 hv5 hv6 => lp5 ((n - i) + 1).toNat w i μ hv0 hv1 hv2 hv3 hv4 hv5 hv6 (by omega)
  refine am_go (ct := fun pc => Nat.beq pc 5) am_oX6_gaps 300 ?_
  conv => whnf
  repeat' first
    | (refine (?_ : am_wp _ _ _ _ _ _ _ _ _ _ _ _); conv => whnf)
    | (refine (?_ : am_sw _ _ _ _); conv => whnf)
    | refine And.intro trivial ?_
    | exact trivial
    | ((with_reducible refine (?_ : am_AW _ _ _ _ _ 5 _ _ _)); refine lp5' _ _ _ ?_ ?_ ?_ ?_ ?_ ?_ ?_)
    | refine And.intro (fun h => absurd h (by decide)) (fun _ => ?_)
    | refine And.intro (fun _ => ?_) (fun h => absurd (by decide) h)
    | refine And.intro (fun _ => ?_) (fun _ => ?_)
    | refine And.intro ?_ ?_
  all_goals (first | decide | assumption | omega | rfl | (intros; rfl) | (trace_state; fail))
theorem n_gapsBy {l : Launch} {ν : am_N} {Q : Option am_V → am_N → Prop} (r n : Int) (cn : am_c n = n) (hm : mi ν) (hw : fp_fw 999 (mv ν)) (r0 : 0 ≤ r) (r1 : r ≤ 4) (n0 : 0 ≤ n) (n1 : n ≤ 60) (h2 : 2 ≤ ν 83 14) (k : ∀ μ' : am_N, gm mQ ν μ' → Q (some (.inl (fp_gs (fp_ru2 (mv ν) r) n.toNat))) μ') : am_Does l 203 [.inr (.inr 83), .inl r, .inl n] ν Q := by
  refine am_Does_of (Nat.le_of_ble_eq_true rfl) (Nat.le_of_ble_eq_true rfl) (Nat.le_of_ble_eq_true rfl) ?_
  have l0 : am_c 0 = 0 := rfl
  have l1 : am_c 1 = 1 := rfl
  have l2 : am_c 2 = 2 := rfl
  have l4 : am_c 4 = 4 := rfl
  have l5 : am_c 5 = 5 := rfl
  have l60 : am_c 60 = 60 := rfl
  have l100 : am_c 100 = 100 := rfl
  have h4 := (fw_M hw (by decide)).1.1
  have hwr := fw_ru2 hw (r := r) ⟨r0, r1⟩
  have kk := fun (x : Int) (μ' : am_N) a1 (e : x = fp_gs (fp_ru2 (mv ν) r) n.toNat) => am_qe (k μ' a1) e
  have lp16 : ∀ (m : Nat) (w i : Int) (μ : am_N) , MD mQ ν μ → mv μ = fp_go (fp_ru2 (mv ν) r) i.toNat → 0 ≤ i → i ≤ n → w = fp_gs (fp_ru2 (mv ν) r) i.toNat → n - i < (m : Int) → am_AW l 0 (fun _ => 0) 203 Q 16 [some (.inr (.inr 83)), some (.inl r), some (.inl n), some (.inl w), some (.inl i)] [] μ := by
    intro m
    induction m with
    | zero =>
      intro w i μ hv0 hv1 hv2 hv3 hv4 hm
      exfalso
      omega
    | succ m ih =>
      intro w i μ hv0 hv1 hv2 hv3 hv4 hm
      have ci : am_c i = i := am_cR (by omega) (by omega)
      have hmi := md_i hv0
      have h8 : fp_fw 1059 (mv μ) := by rw [hv1]; exact fw_mono (fw_go hwr i.toNat) (by omega)
      have n8 : μ 83 14 = ν 83 14 := by rw [← mv_n (μ := μ), hv1, fp_go_n]; rfl
      obtain ⟨hf8, hr8, hy8, hs8, -, -, -⟩ := fw_M h8 (by decide)
      have hn8 := hf8.1.2
      have b0 := fp_f_b (mv μ)
      have b1 := fp_od_b (fp_tf (mv μ)) (μ 83 14) 1
      have gb := fp_g_b (mv μ)
      have o0 : fp_f (mv μ) < μ 83 14 := by rw [← mv_f hn8]; exact fp_od_n hn8 (by decide) (by omega)
      have o1 : fp_od (fp_tf (mv μ)) (μ 83 14) 1 < μ 83 14 := fp_od_n hn8 (by decide) (by omega)
      have og : fp_g (mv μ) < μ 83 14 := by rw [← mv_g hn8]; exact fp_od_n hn8 (by omega) (by omega)
      refine am_go (ct := fun pc => Nat.beq pc 16) am_oX7_gapsBy 300 ?_
      conv => whnf
      repeat' first
        | (refine (?_ : am_wp _ _ _ _ _ _ _ _ _ _ _ _); conv => whnf)
        | (refine (?_ : am_sw _ _ _ _); conv => whnf)
        | refine And.intro trivial ?_
        | exact trivial
        | ((with_reducible refine (?_ : am_Does _ 166 _ _ _)); (refine x_takesTimes hf8 (fun μ1 f1 y2 t1 z1 => ?_); have w0 : μ1 100 0 = fp_f (mv μ) := (fp_od_o hn8 y2 0 (by omega)).trans (mv_f hn8); have w1 : μ1 100 1 = fp_od (fp_tf (mv μ)) (μ 83 14) 1 := (fp_od_o hn8 y2 1 (by omega)).trans (fp_od_t hn8 (fun i hi => mv_T hi)); have k4 : μ1 83 14 = μ 83 14 := f1 83 14 (by decide) (by decide); have wg : μ1 100 (μ1 83 14 - 1).toNat = fp_g (mv μ) := (by rw [k4, fp_od_o hn8 y2 _ (by omega), show (((μ 83 14 - 1).toNat : Nat) : Int) = μ 83 14 - 1 by omega]; exact mv_g hn8)))
        | ((with_reducible refine (?_ : am_Does _ 189 _ _ _)); (refine n_gap (fp_f (mv μ)) (fp_od (fp_tf (mv μ)) (μ 83 14) 1) w0 w1 (by omega) (by omega) (by omega) (by omega) ?_; rw [t1 _ (by omega), t1 _ (by omega), mv_T (by omega), mv_T (by omega)]))
        | ((with_reducible refine (?_ : am_Does _ 171 _ _ _)); (refine x_mends (fp_f (mv μ)) (fp_g (mv μ)) w0 wg (by omega) (by rw [k4]; exact o0) (by omega) (by rw [k4]; exact og) (by rw [k4]; exact hn8) (by rw [f1 83 12 (by decide) (by decide)]; exact hr8) (by rw [f1 83 13 (by decide) (by decide)]; exact hy8) (fun b hb => by rw [f1 89 b (by decide) (by decide)]; exact hs8 b hb) (fun μ2 f2 s2 v2 k2 => ?_); have p2 : mv μ2 = fp_rn (mv μ) := mv_rn (fun b hb => by rw [v2 b, f1 90 b (by decide) (by decide)]) (fun b hb => by rw [s2, f1 83 12 (by decide) (by decide), f1 83 13 (by decide) (by decide), k4, show μ1 89 = μ 89 from funext (fun b => f1 89 b (by decide) (by decide))]) (by rw [k2, f1 83 11 (by decide) (by decide)]) (fun b hb => by rw [f2 83 b (by decide) (by decide) (by omega)]; exact f1 83 b (by decide) (by decide)) (fun a b q1 q2 => by rw [f2 a b (by omega) (by omega) (by omega)]; exact f1 a b (by omega) (by omega)); have hG2 : gm mM μ μ2 := gm_runs hmi (fun a b q1 q2 q3 q4 q5 => (f2 a b q1 q2 q3).trans (f1 a b q4 q5)) (fun p hp => by rw [f2 100 p (by decide) (by decide) (by omega)]; exact z1 (fun p hp => mi_or hmi p hp) p hp)))
        | ((with_reducible refine (?_ : am_Does _ 159 _ _ _)); first | ((with_reducible refine (?_ : am_Does _ 159 (Sum.inr (Sum.inr 83) :: Sum.inl (1) :: Sum.inl (0) :: _) _ _)); (refine m_come1 (fun μ3 u1 _ _ _ => ?_); have hG : gm mQ ν μ3 := md_back hv0 u1 (fun _ _ q => q))) | ((with_reducible refine (?_ : am_Does _ 159 (Sum.inr (Sum.inr 83) :: Sum.inl (1) :: Sum.inl (1) :: _) _ _)); (refine m_keep1 (fun μ1 u1 _ _ _ => ?_); have hD : MD mQ ν (am_up μ1 83 12 r) := md_up (md_start (gm_rf hm) u1) rfl rfl; have p1 : mv (am_up μ1 83 12 r) = fp_ru2 (mv ν) r := (by rw [show mv ν = mv μ1 from (mv_keep (fun a b q => u1.2 a b (by omega) (by omega))).symm]; refine fp_ct_e (fun b hb => ?_) (fun a b q1 q2 hb => ?_); (by_cases d : b = 2; (subst d; rfl); (rw [am_upM d, mv_0 hb]; exact am_upM (by omega))); (rw [am_upN (by omega)]; obtain ⟨a, rfl⟩ : ∃ y, a = y + 1 := ⟨a - 1, by omega⟩; rw [mv_a (by omega) hb]; exact am_upN (by omega))))) | (refine m_come1 (fun μ3 u1 _ _ _ => ?_); have hG : gm mQ ν μ3 := md_back hv0 u1 (fun _ _ q => q)) | (refine m_keep1 (fun μ1 u1 _ _ _ => ?_); have hD : MD mQ ν (am_up μ1 83 12 r) := md_up (md_start (gm_rf hm) u1) rfl rfl; have p1 : mv (am_up μ1 83 12 r) = fp_ru2 (mv ν) r := (by rw [show mv ν = mv μ1 from (mv_keep (fun a b q => u1.2 a b (by omega) (by omega))).symm]; refine fp_ct_e (fun b hb => ?_) (fun a b q1 q2 hb => ?_); (by_cases d : b = 2; (subst d; rfl); (rw [am_upM d, mv_0 hb]; exact am_upM (by omega))); (rw [am_upN (by omega)]; obtain ⟨a, rfl⟩ : ∃ y, a = y + 1 := ⟨a - 1, by omega⟩; rw [mv_a (by omega) hb]; exact am_upN (by omega)))))
        | refine kk _ _ hG ?_
        | ((with_reducible refine (?_ : am_AW _ _ _ _ _ 16 _ _ _)); refine ih _ _ _ ?_ ?_ ?_ ?_ ?_ ?_)
        | refine And.intro (fun h => absurd h (by decide)) (fun _ => ?_)
        | refine And.intro (fun _ => ?_) (fun h => absurd (by decide) h)
        | refine And.intro (fun _ => ?_) (fun _ => ?_)
        | refine And.intro ?_ ?_
      all_goals (first | decide | assumption | omega | exact md_tr hv0 hG2 (fun _ _ q => q) | (rw [show (i + 1).toNat = i.toNat + 1 by omega, p2, hv1]; rfl) | (rw [show (i + 1).toNat = i.toNat + 1 by omega, hv4]; show _ = fp_gs (fp_ru2 (mv ν) r) i.toNat + fp_gp (fp_go (fp_ru2 (mv ν) r) i.toNat); rw [← hv1]; rfl) | (rw [hv4, show i.toNat = n.toNat by (simp only [ci, cn] at *; first | done | omega)]) | (trace_state; fail))
  have lp16' : ∀ (w i : Int) (μ : am_N) , MD mQ ν μ → mv μ = fp_go (fp_ru2 (mv ν) r) i.toNat → 0 ≤ i → i ≤ n → w = fp_gs (fp_ru2 (mv ν) r) i.toNat → am_AW l 0 (fun _ => 0) 203 Q 16 [some (.inr (.inr 83)), some (.inl r), some (.inl n), some (.inl w), some (.inl i)] [] μ := fun w i μ hv0 hv1 hv2 hv3 hv4 => lp16 ((n - i) + 1).toNat w i μ hv0 hv1 hv2 hv3 hv4 (by omega)
  refine am_go (ct := fun pc => Nat.beq pc 16) am_oX7_gapsBy 300 ?_
  conv => whnf
  repeat' first
    | (refine (?_ : am_wp _ _ _ _ _ _ _ _ _ _ _ _); conv => whnf)
    | (refine (?_ : am_sw _ _ _ _); conv => whnf)
    | refine And.intro trivial ?_
    | exact trivial
    | ((with_reducible refine (?_ : am_Does _ 159 _ _ _)); (refine m_keep1 (fun μ1 u1 _ _ _ => ?_); have hD : MD mQ ν (am_up μ1 83 12 r) := md_up (md_start (gm_rf hm) u1) rfl rfl; have p1 : mv (am_up μ1 83 12 r) = fp_ru2 (mv ν) r := (by rw [show mv ν = mv μ1 from (mv_keep (fun a b q => u1.2 a b (by omega) (by omega))).symm]; refine fp_ct_e (fun b hb => ?_) (fun a b q1 q2 hb => ?_); (by_cases d : b = 2; (subst d; rfl); (rw [am_upM d, mv_0 hb]; exact am_upM (by omega))); (rw [am_upN (by omega)]; obtain ⟨a, rfl⟩ : ∃ y, a = y + 1 := ⟨a - 1, by omega⟩; rw [mv_a (by omega) hb]; exact am_upN (by omega)))))
    | ((with_reducible refine (?_ : am_AW _ _ _ _ _ 16 _ _ _)); refine lp16' _ _ _ ?_ ?_ ?_ ?_ ?_)
    | refine And.intro (fun h => absurd h (by decide)) (fun _ => ?_)
    | refine And.intro (fun _ => ?_) (fun h => absurd (by decide) h)
    | refine And.intro (fun _ => ?_) (fun _ => ?_)
    | refine And.intro ?_ ?_
  all_goals (first | decide | assumption | omega | exact hD | exact p1 | rfl | (trace_state; fail))
