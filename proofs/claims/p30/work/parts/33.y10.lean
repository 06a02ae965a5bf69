/-! lane(): the model -/
theorem am_bh_n {t : Nat → Int} {n p : Int} (h : 0 ≤ am_bh t n p) (h0 : 0 ≤ p) : p < n := by
  by_cases z : p < n
  · exact z
  · rw [am_bh_1 (by rw [show am_nx t n p = -1 from if_neg (by omega)]; decide)] at h; omega
theorem mv_keep {μ ν : am_N} (h : ∀ a b : Nat, (85 ≤ a ∧ a ≤ 90) ∨ (a = 83 ∧ 10 ≤ b ∧ b ≤ 14) → μ a b = ν a b) : mv μ = mv ν := by
  refine fp_ct_e (fun b hb => h 83 (10 + b) (Or.inr (by omega))) (fun a b q1 q2 hb => ?_)
  obtain ⟨a, rfl⟩ : ∃ e, a = e + 1 := ⟨a - 1, by omega⟩
  exact h (85 + a) b (Or.inl (by omega))
theorem mv_keep4 {μ ν : am_N} (h : ∀ a b : Nat, ((85 ≤ a ∧ a ≤ 90) ∧ b < 4) ∨ (a = 83 ∧ 10 ≤ b ∧ b ≤ 14) → μ a b = ν a b) : mv μ = mv ν := by
  refine fp_ct_e (fun b hb => h 83 (10 + b) (Or.inr (by omega))) (fun a b q1 q2 hb => ?_)
  obtain ⟨a, rfl⟩ : ∃ e, a = e + 1 := ⟨a - 1, by omega⟩
  exact h (85 + a) b (Or.inl (by omega))
theorem kp_f {a b : Nat} (h : (85 ≤ a ∧ a ≤ 90) ∧ b < 4) : kp_at a b = some (4 * (a - 85) + b) := if_pos h
theorem kp_g {b : Nat} (h : 10 ≤ b ∧ b ≤ 14) : kp_at 83 b = some (30 + b) := by
  unfold kp_at
  rw [if_neg (by omega), if_neg (by omega), if_neg (by omega), if_neg (by omega), if_neg (by omega), if_pos ⟨rfl, h⟩]
theorem x_mlane {l : Launch} {ν : am_N} {Q : Option am_V → am_N → Prop} (t : Nat → Int) (n : Int) (ht : ν 94 = t) (hn : ν 83 21 = n) (n0 : 0 ≤ n) (n1 : n ≤ 96) (hL : ∀ i : Nat, (i : Int) < n → 0 ≤ t i ∧ t i ≤ 255) (hw : fp_fw 999 (mv ν)) (h3 : sx_3 ν 100) (k : ∀ (r : Int) (μ' : am_N), fp_LN t n (mv ν) r (mv μ') → (∀ a b, ¬(85 ≤ a ∧ a ≤ 90) → ¬(a = 83 ∧ 10 ≤ b ∧ b ≤ 14) → a ≠ 95 → a ≠ 96 → a ≠ 97 → a ≠ 99 → a ≠ 100 → ¬(a = 98 ∧ 60 ≤ b) → ¬(a = 83 ∧ (b = 21 ∨ b = 22 ∨ b = 23 ∨ b = 26 ∨ b = 27 ∨ b = 33)) → μ' a b = ν a b) → sx_3 μ' 100 → μ' 83 21 = 0 → (μ' 83 33 = if 0 < r then 0 else ν 83 33) → Q (some (.inl r)) μ') : am_Does l 156 [.inr (.inr 83)] ν Q := by
  refine am_Does_of (Nat.le_of_ble_eq_true rfl) (Nat.le_of_ble_eq_true rfl) (Nat.le_of_ble_eq_true rfl) ?_
  have l0 : am_c 0 = 0 := rfl
  have l1 : am_c 1 = 1 := rfl
  have cn : am_c (ν 83 21) = n := by rw [hn]; exact am_cR (by omega) (by omega)
  have lpz : ∀ (K : Nat) (μ : am_N), (∀ a b, a ≠ 95 → a ≠ 96 → a ≠ 97 → ¬(a = 83 ∧ (b = 22 ∨ b = 23)) → μ a b = ν a b) → fp_pr t n K → (fp_pk t n K < n ∨ K = 0) → am_bh t n (fp_pk t n K) < 0 → μ 83 22 = -1 - am_bh t n (fp_pk t n K) → am_AW l 0 (fun _ => 0) 156 Q 12 [some (.inr (.inr 83)), some (.inl 0), none] [] μ := by
    intro K μ hv0 hv1 hv2 hv3 hv4
    have z := fp_pk_b n0 K hv1
    have zb := am_bh_b t n (fp_pk t n K) (by omega) (by omega)
    have kk := fun (x : Int) (μ' : am_N) a1 a2 a3 a4 a5 (e : x = -1000 - (-1 - am_bh t n (fp_pk t n K))) => am_qe (k (-1000 - (-1 - am_bh t n (fp_pk t n K))) μ' (Or.inl ⟨K, hv1, hv2, hv3, rfl, a1⟩) a2 a3 a4 a5) e
    refine am_go (ct := fun pc => Nat.beq pc 12 || Nat.beq pc 86) am_oX7_lane 300 ?_
    conv => whnf
    repeat' first
      | (refine (?_ : am_wp _ _ _ _ _ _ _ _ _ _ _ _); conv => whnf)
      | (refine (?_ : am_sw _ _ _ _); conv => whnf)
      | refine And.intro trivial ?_
      | exact trivial
      | refine kk _ _ ?_ ?_ ?_ ?_ ?_ ?_
      | refine lp12' 0 _ ?_ ?_ ?_ ?_ ?_
      | refine And.intro (fun h => absurd h (by decide)) (fun _ => ?_)
      | refine And.intro (fun _ => ?_) (fun h => absurd (by decide) h)
      | refine And.intro (fun _ => ?_) (fun _ => ?_)
      | refine And.intro ?_ ?_
    all_goals (first | decide | omega | (exact mv_keep (fun a b q => Eq.trans (am_uE (by omega)) (hv0 a b (by omega) (by omega) (by omega) (by omega)))) | (intro a b q1 q2 q3 q4 q5 q6 q7 q8 q9; exact Eq.trans (am_uE (by omega)) (hv0 a b q3 q4 q5 (by omega))) | (intro x hx; rw [am_upN (by decide), hv0 _ _ (by decide) (by decide) (by decide) (by omega)]; exact h3 x hx) | exact if_pos ⟨rfl, rfl⟩ | (rw [am_upM (by decide), hv0 _ _ (by decide) (by decide) (by decide) (by decide), if_neg (by omega)]) | (rw [am_upM (by decide), hv4]) | (trace_state; fail))
  have lp86 : ∀ (m : Nat) (K : Nat) (g j : Int) (μ : am_N) , 1 ≤ K → fp_pr t n K → n ≤ fp_pk t n K → 0 ≤ j → j ≤ K → μ 83 23 = K → (∀ i : Nat, i < K → μ 95 i = am_nx t n (fp_pk t n i) ∧ μ 96 i = fp_pk t n i ∧ fp_td t n (fp_pk t n i) (μ 97) (5 * i)) → (∀ a b, ¬(85 ≤ a ∧ a ≤ 90) → ¬(a = 83 ∧ 10 ≤ b ∧ b ≤ 14) → a ≠ 95 → a ≠ 96 → a ≠ 97 → a ≠ 99 → a ≠ 100 → ¬(a = 98 ∧ 60 ≤ b) → ¬(a = 83 ∧ (b = 21 ∨ b = 22 ∨ b = 23 ∨ b = 26 ∨ b = 27 ∨ b = 33)) → μ a b = ν a b) → mv μ = fp_fk t n (mv ν) j.toNat → fp_okp t n (mv ν) j.toNat → sx_3 μ 100 → μ 83 21 = 0 → (∀ a b o, kp_at a b = some o → μ 98 (60 + o) = ν a b) → μ 83 33 = ν 83 33 → K - j < (m : Int) → am_AW l 0 (fun _ => 0) 156 Q 86 [some (.inr (.inr 83)), some (.inl g), some (.inl j)] [] μ := by
    intro m
    induction m with
    | zero =>
      intro K g j μ hv0 hv1 hv2 hv3 hv4 hv5 hv6 hv7 hv8 hv9 hv10 hv11 hv12 hv13 hm
      exfalso
      omega
    | succ m ih =>
      intro K g j μ hv0 hv1 hv2 hv3 hv4 hv5 hv6 hv7 hv8 hv9 hv10 hv11 hv12 hv13 hm
      have prj : fp_pr t n j.toNat := fun i hi => hv1 i (by omega)
      have hbK := fp_pk_b n0 K hv1
      have hbj := fp_pk_b n0 j.toNat prj
      have cj : am_c j = j := am_cR (by omega) (by omega)
      have c23 : am_c (μ 83 23) = K := by rw [hv5]; exact am_cR (by omega) (by omega)
      have ej : (j + 1).toNat = j.toNat + 1 := by omega
      have fwj : fp_fw 999 (fp_fk t n (mv ν) j.toNat) := fw_fk n0 hw _ prj hv9
      have rj := fun q : j < K => hv6 j.toNat (by omega)
      have bj := fun q : j < K => hv1 j.toNat (by omega)
      refine am_go (ct := fun pc => Nat.beq pc 12 || Nat.beq pc 86) am_oX7_lane 300 ?_
      conv => whnf
      repeat' first
        | (refine (?_ : am_wp _ _ _ _ _ _ _ _ _ _ _ _); conv => whnf)
        | (refine (?_ : am_sw _ _ _ _); conv => whnf)
        | refine And.intro trivial ?_
        | exact trivial
        | (have jK : j < K := (by simp only [cj, c23] at *; omega); obtain ⟨r1, r2, r3⟩ := rj jK; obtain ⟨b1, b2⟩ := bj jK; refine x_mcomes t n (fp_pk t n j.toNat) j n0 n1 hL (by omega) b1 b2 hv3 (by omega) r1 r3 (by rw [hv8]; exact fwj) hv10 (fun y1 μ2 g1 g2 g3 => ?_) (fun y0 μ2 g1 g3 => ?_))
        | (refine m_come1 (fun μ3 u1 _ _ _ => ?_); have kb : ∀ a b o, kp_at a b = some o → μ3 a b = ν a b := (fun a b o ho => by rw [u1.1 a b o ho, g1 98 (60 + o) (by omega) (by omega) (by omega) (by omega)]; exact hv12 a b o ho); have ko : ∀ a b, kp_at a b = none → ¬(a = 83 ∧ (b = 26 ∨ b = 27)) → μ3 a b = μ2 a b := u1.2)
        | (refine am_qe (k (-2000 - fp_pk t n j.toNat) _ (Or.inr ⟨K, hv0, hv1, hv2, Or.inl ⟨j.toNat, by omega, hv9, (by rw [hv8] at y0; exact y0), rfl, ?_⟩⟩) ?_ ?_ ?_ ?_) ?_)
        | (have jK : j = K := (by simp only [cj, c23] at *; omega); have jn : j.toNat = K := (by omega); rw [jn] at hv8 hv9; refine am_qe (k K _ (Or.inr ⟨K, hv0, hv1, hv2, Or.inr ⟨hv9, rfl, ?_⟩⟩) ?_ ?_ ?_ ?_) ?_)
        | refine ih K _ _ _ hv0 hv1 hv2 ?_ ?_ ?_ ?_ ?_ ?_ ?_ ?_ ?_ ?_ ?_ ?_
        | refine lp12' 0 _ ?_ ?_ ?_ ?_ ?_
        | refine ih _ _ _ _ ?_ ?_ ?_ ?_ ?_ ?_ ?_ ?_ ?_ ?_ ?_ ?_ ?_ ?_ ?_
        | refine lpz _ _ ?_ ?_ ?_ ?_ ?_
        | refine And.intro (fun h => absurd h (by decide)) (fun _ => ?_)
        | refine And.intro (fun _ => ?_) (fun h => absurd (by decide) h)
        | refine And.intro (fun _ => ?_) (fun _ => ?_)
        | refine And.intro ?_ ?_
      all_goals (first | decide | omega | (rw [g1 83 23 (by omega) (by omega) (by omega) (by omega)]; exact hv5) | (intro i hi; rw [show μ2 95 = μ 95 from funext (fun b => g1 95 b (by omega) (by omega) (by omega) (by omega)), show μ2 96 = μ 96 from funext (fun b => g1 96 b (by omega) (by omega) (by omega) (by omega)), show μ2 97 = μ 97 from funext (fun b => g1 97 b (by omega) (by omega) (by omega) (by omega))]; exact hv6 i hi) | (intro a b q1 q2 q3 q4 q5 q6 q7 q8 q9; rw [g1 a b q1 q2 q6 q7]; exact hv7 a b q1 q2 q3 q4 q5 q6 q7 q8 q9) | (rw [ej, g2, hv8]; rfl) | (rw [ej]; exact fp_okp_s hv9 (by rw [hv8] at y1; exact y1)) | exact g3 | (rw [g1 83 21 (by omega) (by omega) (by omega) (by omega)]; exact hv11) | (intro a b o ho; rw [g1 98 (60 + o) (by omega) (by omega) (by omega) (by omega)]; exact hv12 a b o ho) | (rw [g1 83 33 (by omega) (by omega) (by omega) (by omega)]; exact hv13)             | (exact mv_keep4 (fun a b q => by rcases q with q | ⟨rfl, q⟩; exact kb a b _ (kp_f q); exact kb 83 b _ (kp_g q))) | (intro a b q1 q2 q3 q4 q5 q6 q7 q8 q9; cases ho : kp_at a b with | some o => exact kb a b o ho | none => rw [ko a b ho (by omega), g1 a b q1 q2 q6 q7]; exact hv7 a b q1 q2 q3 q4 q5 q6 q7 q8 q9) | (intro x hx; rw [ko 100 x (by unfold kp_at; rw [if_neg (by omega), if_neg (by omega), if_neg (by omega), if_neg (by omega), if_neg (by omega), if_neg (by omega)]) (by omega)]; exact g3 x hx) | (rw [ko 83 21 rfl (by omega), g1 83 21 (by omega) (by omega) (by omega) (by omega)]; exact hv11) | (rw [if_neg (by omega), ko 83 33 rfl (by omega), g1 83 33 (by omega) (by omega) (by omega) (by omega)]; exact hv13) | (rw [ko 96 _ (by unfold kp_at; rw [if_neg (by omega), if_neg (by omega), if_neg (by omega), if_neg (by omega), if_neg (by omega), if_neg (by omega)]) (by omega), cj, g1 96 _ (by omega) (by omega) (by omega) (by omega), r2])             | (rw [← hv8]; exact mv_keep (fun a b q => am_uE (by omega))) | (intro a b q1 q2 q3 q4 q5 q6 q7 q8 q9; rw [am_uE (by omega)]; exact hv7 a b q1 q2 q3 q4 q5 q6 q7 q8 q9) | exact sx_3N hv10 (by decide) | (rw [am_upM (by decide)]; exact hv11) | (rw [if_pos (by omega)]; exact if_pos ⟨rfl, rfl⟩) | (rw [am_upM (by decide)]; exact hv5) | (exfalso; simp only [cj, c23] at *; omega) | (trace_state; fail))
  have lp86' : ∀ (K : Nat) (g j : Int) (μ : am_N) , 1 ≤ K → fp_pr t n K → n ≤ fp_pk t n K → 0 ≤ j → j ≤ K → μ 83 23 = K → (∀ i : Nat, i < K → μ 95 i = am_nx t n (fp_pk t n i) ∧ μ 96 i = fp_pk t n i ∧ fp_td t n (fp_pk t n i) (μ 97) (5 * i)) → (∀ a b, ¬(85 ≤ a ∧ a ≤ 90) → ¬(a = 83 ∧ 10 ≤ b ∧ b ≤ 14) → a ≠ 95 → a ≠ 96 → a ≠ 97 → a ≠ 99 → a ≠ 100 → ¬(a = 98 ∧ 60 ≤ b) → ¬(a = 83 ∧ (b = 21 ∨ b = 22 ∨ b = 23 ∨ b = 26 ∨ b = 27 ∨ b = 33)) → μ a b = ν a b) → mv μ = fp_fk t n (mv ν) j.toNat → fp_okp t n (mv ν) j.toNat → sx_3 μ 100 → μ 83 21 = 0 → (∀ a b o, kp_at a b = some o → μ 98 (60 + o) = ν a b) → μ 83 33 = ν 83 33 → am_AW l 0 (fun _ => 0) 156 Q 86 [some (.inr (.inr 83)), some (.inl g), some (.inl j)] [] μ := fun K g j μ hv0 hv1 hv2 hv3 hv4 hv5 hv6 hv7 hv8 hv9 hv10 hv11 hv12 hv13 => lp86 ((K - j) + 1).toNat K g j μ hv0 hv1 hv2 hv3 hv4 hv5 hv6 hv7 hv8 hv9 hv10 hv11 hv12 hv13 (by omega)
  have lp12 : ∀ (m : Nat) (K : Nat) (μ : am_N) , (∀ a b, a ≠ 95 → a ≠ 96 → a ≠ 97 → ¬(a = 83 ∧ (b = 22 ∨ b = 23)) → μ a b = ν a b) → fp_pr t n K → μ 83 22 = fp_pk t n K → μ 83 23 = K → (∀ i : Nat, i < K → μ 95 i = am_nx t n (fp_pk t n i) ∧ μ 96 i = fp_pk t n i ∧ fp_td t n (fp_pk t n i) (μ 97) (5 * i)) → 50 - (K : Int) < (m : Int) → am_AW l 0 (fun _ => 0) 156 Q 12 [some (.inr (.inr 83)), some (.inl 1), none] [] μ := by
    intro m
    induction m with
    | zero =>
      intro K μ hv0 hv1 hv2 hv3 hv4 hm
      have hb := fp_pk_b n0 K hv1
      exfalso
      omega
    | succ m ih =>
      intro K μ hv0 hv1 hv2 hv3 hv4 hm
      have hb := fp_pk_b n0 K hv1
      have e94 : μ 94 = t := (funext (fun b => hv0 94 b (by omega) (by omega) (by omega) (by omega))).trans ht
      have e21 : μ 83 21 = n := (hv0 83 21 (by omega) (by omega) (by omega) (by omega)).trans hn
      have c21 : am_c (μ 83 21) = n := by rw [e21]; exact am_cR (by omega) (by omega)
      have c22 : am_c (μ 83 22) = fp_pk t n K := by rw [hv2]; exact am_cR (by omega) (by omega)
      have c23 : am_c (μ 83 23) = K := by rw [hv3]; exact am_cR (by omega) (by omega)
      refine am_go (ct := fun pc => Nat.beq pc 12 || Nat.beq pc 86) am_oX7_lane 300 ?_
      conv => whnf
      repeat' first
        | (refine (?_ : am_wp _ _ _ _ _ _ _ _ _ _ _ _); conv => whnf)
        | (refine (?_ : am_sw _ _ _ _); conv => whnf)
        | refine And.intro trivial ?_
        | exact trivial
        | (have st : fp_pk t n K < n ∨ K = 0 := (by simp only [c21, c22, c23] at *; omega); refine x_statement t n (fp_pk t n K) K e94 e21 hv2 n0 n1 hL hv3 (by omega) (by omega) (by omega) (by omega) (fun y1 μ2 f2 a2 l2 p2 d2 => ?_) (fun y0 μ2 f2 a2 => ?_))
        | refine ih (K + 1) _ ?_ ?_ ?_ ?_ ?_ ?_
        | refine lpz K _ ?_ ?_ st y0 ?_
        | (have K1 : 1 ≤ K := (by simp only [c21, c22, c23] at *; omega); have nK : n ≤ fp_pk t n K := (by simp only [c21, c22, c23] at *; omega); refine m_keep1 (fun μ2 u1 _ _ _ => ?_); have ku : ∀ a b, ¬(a = 98 ∧ 60 ≤ b ∧ b < 60 + 45) → ¬(a = 83 ∧ (b = 26 ∨ b = 27)) → μ2 a b = am_up μ 83 21 0 a b := u1.2)
        | refine lp86' K _ _ _ K1 hv1 nK ?_ ?_ ?_ ?_ ?_ ?_ ?_ ?_ ?_ ?_ ?_
        | refine lp12' 0 _ ?_ ?_ ?_ ?_ ?_
        | refine ih _ _ ?_ ?_ ?_ ?_ ?_ ?_
        | refine lp86' _ _ _ _ ?_ ?_ ?_ ?_ ?_ ?_ ?_ ?_ ?_ ?_ ?_ ?_ ?_ ?_
        | refine lpz _ _ ?_ ?_ ?_ ?_ ?_
        | refine And.intro (fun h => absurd h (by decide)) (fun _ => ?_)
        | refine And.intro (fun _ => ?_) (fun h => absurd (by decide) h)
        | refine And.intro (fun _ => ?_) (fun _ => ?_)
        | refine And.intro ?_ ?_
      all_goals (first | decide | omega | (intro a b q1 q2 q3 q4; rw [am_uE (by omega), f2 a b (by omega) (by omega) (by omega) (by omega)]; exact hv0 a b q1 q2 q3 q4) | exact fp_pr_s hv1 (am_bh_n y1 (by omega)) y1 | exact hv1 | (rw [am_upM (by decide)]; exact a2) | (rw [am_upS, if_pos ⟨rfl, rfl⟩, f2 83 23 (by omega) (by omega) (by omega) (by omega), hv3]; omega) | (intro i hi; rw [am_upN (by decide), am_upN (by decide), show am_up μ2 83 23 (μ2 83 23 + 1) 97 = μ2 97 from funext (fun b => am_upN (by decide))]; by_cases d : i = K; (subst d; exact ⟨by rw [show i = ((i : Int)).toNat by omega]; exact l2, by rw [show i = ((i : Int)).toNat by omega]; exact p2, by exact d2⟩); (obtain ⟨z1, z2, z3⟩ := hv4 i (by omega); refine ⟨?_, ?_, ?_⟩; (rw [f2 95 i (by omega) (by omega) (by omega) (by omega)]; exact z1); (rw [f2 96 i (by omega) (by omega) (by omega) (by omega)]; exact z2); exact fp_td_e z3 (fun x h1 h2 => f2 97 x (by omega) (by omega) (by omega) (by omega)))) | (rw [ku 83 23 (by omega) (by omega), am_upM (by decide)]; exact hv3) | (intro i hi; rw [show μ2 95 = μ 95 from funext (fun b => (ku 95 b (by omega) (by omega)).trans (am_upN (by decide))), show μ2 96 = μ 96 from funext (fun b => (ku 96 b (by omega) (by omega)).trans (am_upN (by decide))), show μ2 97 = μ 97 from funext (fun b => (ku 97 b (by omega) (by omega)).trans (am_upN (by decide)))]; exact hv4 i hi) | (intro a b q1 q2 q3 q4 q5 q6 q7 q8 q9; rw [ku a b (by omega) (by omega), am_uE (by omega)]; exact hv0 a b q3 q4 q5 (by omega)) | (exact mv_keep (fun a b q => by rw [ku a b (by omega) (by omega), am_uE (by omega)]; exact hv0 a b (by omega) (by omega) (by omega) (by omega))) | exact fp_okp_0 | (intro x hx; rw [ku 100 x (by omega) (by omega), am_upN (by decide), hv0 100 x (by omega) (by omega) (by omega) (by omega)]; exact h3 x hx) | (rw [ku 83 21 (by omega) (by omega)]; exact if_pos ⟨rfl, rfl⟩) | (intro a b o ho; have w := kp_lt ho; rw [u1.1 a b o ho, am_uE (by intro z; rw [z.1, z.2] at ho; cases ho)]; refine hv0 a b ?_ ?_ ?_ ?_ <;> (intro z; first | (subst z; unfold kp_at at ho; rw [if_neg (by omega), if_neg (by omega), if_neg (by omega), if_neg (by omega), if_neg (by omega), if_neg (by omega)] at ho; cases ho) | (rcases z with ⟨z1, z2 | z2⟩ <;> (subst z1; subst z2; cases ho)))) | (rw [ku 83 33 (by omega) (by omega), am_upM (by decide)]; exact hv0 83 33 (by omega) (by omega) (by omega) (by omega)) | (exfalso; simp only [c21, c22, c23] at *; omega) | (simp only [c21, c22, c23] at *; omega) | (trace_state; fail))
  have lp12' : ∀ (K : Nat) (μ : am_N) , (∀ a b, a ≠ 95 → a ≠ 96 → a ≠ 97 → ¬(a = 83 ∧ (b = 22 ∨ b = 23)) → μ a b = ν a b) → fp_pr t n K → μ 83 22 = fp_pk t n K → μ 83 23 = K → (∀ i : Nat, i < K → μ 95 i = am_nx t n (fp_pk t n i) ∧ μ 96 i = fp_pk t n i ∧ fp_td t n (fp_pk t n i) (μ 97) (5 * i)) → am_AW l 0 (fun _ => 0) 156 Q 12 [some (.inr (.inr 83)), some (.inl 1), none] [] μ := fun K μ hv0 hv1 hv2 hv3 hv4 => lp12 ((50 - (K : Int)) + 1).toNat K μ hv0 hv1 hv2 hv3 hv4 (by omega)
  refine am_go (ct := fun pc => Nat.beq pc 12 || Nat.beq pc 86) am_oX7_lane 300 ?_
  conv => whnf
  repeat' first
    | (refine (?_ : am_wp _ _ _ _ _ _ _ _ _ _ _ _); conv => whnf)
    | (refine (?_ : am_sw _ _ _ _); conv => whnf)
    | refine And.intro trivial ?_
    | exact trivial
    | refine lp12' 0 _ ?_ ?_ ?_ ?_ ?_
    | refine lp12' _ _ ?_ ?_ ?_ ?_ ?_
    | refine lp86' _ _ _ _ ?_ ?_ ?_ ?_ ?_ ?_ ?_ ?_ ?_ ?_ ?_ ?_ ?_ ?_
    | refine lpz _ _ ?_ ?_ ?_ ?_ ?_
    | refine And.intro (fun h => absurd h (by decide)) (fun _ => ?_)
    | refine And.intro (fun _ => ?_) (fun h => absurd (by decide) h)
    | refine And.intro (fun _ => ?_) (fun _ => ?_)
    | refine And.intro ?_ ?_
  all_goals (first | decide | omega | exact fp_pr_0 | (intro a b q1 q2 q3 q4; rw [am_uE (by omega), am_uE (by omega)]) | (rw [am_upM (by decide)]; exact if_pos ⟨rfl, rfl⟩) | exact if_pos ⟨rfl, rfl⟩ | (intro i hi; omega) | (trace_state; fail))
