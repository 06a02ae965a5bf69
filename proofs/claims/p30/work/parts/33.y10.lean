/-! lane(): the model -/
theorem am_bh_n {t : Nat → Int} {n p : Int} (h : 0 ≤ am_bh t n p) (h0 : 0 ≤ p) : p < n := by
  by_cases z : p < n
  · exact z
  · rw [am_bh_1 (by rw [show am_nx t n p = -1 from if_neg (by omega)]; decide)] at h; omega
theorem mv_keep {μ ν : am_N} (h : ∀ a b : Nat, (85 ≤ a ∧ a ≤ 90) ∨ (a = 83 ∧ 10 ≤ b ∧ b ≤ 14) → μ a b = ν a b) : mv μ = mv ν := by
  refine fp_ct_e (fun b hb => h 83 (10 + b) (Or.inr (by omega))) (fun a b q1 q2 hb => ?_)
  obtain ⟨a, rfl⟩ : ∃ e, a = e + 1 := ⟨a - 1, by omega⟩
  exact h (85 + a) b (Or.inl (by omega))
theorem mv_keep4 {μ ν : am_N} (h : ∀ a b : Nat, ((85 ≤ a ∧ a ≤ 90) ∧ b < 4) ∨ (a = 83 ∧ 10 ≤ b ∧ b ≤ 14) → μ a b = ν a b) : mv μ = mv ν := by
  refine fp_ct_e (fun b hb => h 83 (10 + b) (Or.inr (by omega))) (fun a b q1 q2 hb => ?_)
  obtain ⟨a, rfl⟩ : ∃ e, a = e + 1 := ⟨a - 1, by omega⟩
  exact h (85 + a) b (Or.inl (by omega))
theorem kp_f {a b : Nat} (h : (85 ≤ a ∧ a ≤ 90) ∧ b < 4) : kp_at a b = some (4 * (a - 85) + b) := if_pos h
theorem kp_g {b : Nat} (h : 10 ≤ b ∧ b ≤ 14) : kp_at 83 b = some (30 + b) := by
  unfold kp_at
  rw [if_neg (by omega), if_neg (by omega), if_neg (by omega), if_neg (by omega), if_neg (by omega), if_pos ⟨rfl, h⟩]
theorem x_mlane {l : Launch} {ν : am_N} {Q : Option am_V → am_N → Prop} (t : Nat → Int) (n : Int) (ht : ν 94 = t) (hn : ν 83 21 = n) (n0 : 0 ≤ n) (n1 : n ≤ 96) (hL : ∀ i : Nat, (i : Int) < n → 0 ≤ t i ∧ t i ≤ 255) (hw : fp_fw 999 (mv ν)) (h3 : sx_3 ν 100) (k : ∀ (r : Int) (μ' : am_N), fp_LN t n (mv ν) r (mv μ') → (∀ a b, ¬(85 ≤ a ∧ a ≤ 90) → ¬(a = 83 ∧ 10 ≤ b ∧ b ≤ 14) → a ≠ 95 → a ≠ 96 → a ≠ 97 → a ≠ 99 → a ≠ 100 → ¬(a = 98 ∧ 60 ≤ b) → ¬(a = 83 ∧ (b = 21 ∨ b = 22 ∨ b = 23 ∨ b = 26 ∨ b = 27 ∨ b = 33)) → μ' a b = ν a b) → sx_3 μ' 100 → μ' 83 21 = 0 → (μ' 83 33 = if 0 < r then 0 else ν 83 33) → Q (some (.inl r)) μ') : am_Does l 156 [.inr (.inr 83)] ν Q := by
  refine am_Does_of (Nat.le_of_ble_eq_true rfl) (Nat.le_of_ble_eq_true rfl) (Nat.le_of_ble_eq_true rfl) ?_
  have l0 : am_c 0 = 0 := rfl
  have l1 : am_c 1 = 1 := rfl
  have cn : am_c (ν 83 21) = n := by rw [hn]; exact am_cR (by omega) (by omega)
  have lpz : ∀ (K : Nat) (μ : am_N), (∀ a b, a ≠ 95 → a ≠ 96 → a ≠ 97 → ¬(a = 83 ∧ (b = 22 ∨ b = 23)) → μ a b = ν a b) → fp_pr t n K → (fp_pk t n K < n ∨ K = 0) → am_bh t n (fp_pk t n K) < 0 → μ 83 22 = -1 - am_bh t n (fp_pk t n K) → am_AW l 0 (fun _ => 0) 156 Q 12 [some (.inr (.inr 83)), some (.inl 0), none] [] μ := by
    intro K μ hv0 hv1 hv2 hv3 hv4
    have z := fp_pk_b n0 K hv1
    have zb := am_bh_b t n (fp_pk t n K) (by omega) (by omega)
    have kk := fun (x : Int) (μ' : am_N) a1 a2 a3 a4 a5 (e : x = -1000 - (-1 - am_bh t n (fp_pk t n K))) => am_qe (k (-1000 - (-1 - am_bh t n (fp_pk t n K))) μ' (Or.inl ⟨K, hv1, hv2, hv3, rfl, a1⟩) a2 a3 a4 a5) e
    refine am_go (ct := fun pc => Nat.beq pc 12 || Nat.beq pc 86) am_oX7_lane 300 ?_
    conv => whnf
    repeat' first
      | (refine (?_ : am_wp _ _ _ _ _ _ _ _ _ _ _ _); conv => whnf)
      | (refine (?_ : am_sw _ _ _ _); conv => whnf)
      | refine And.intro trivial ?_
      | exact trivial
      | refine kk _ _ ?_ ?_ ?_ ?_ ?_ ?_
      | ((with_reducible refine (?_ : am_AW _ _ _ _ _ 12 _ _ _)); refine lp12' 0 _ ?_ ?_ ?_ ?_ ?_)
      | refine And.intro (fun h => absurd h (by decide)) (fun _ => ?_)
      | refine And.intro (fun _ => ?_) (fun h => absurd (by decide) h)
      | refine And.intro (fun _ => ?_) (fun _ => ?_)
      | refine And.intro ?_ ?_
    all_goals (first | decide | omega | (exact mv_keep (fun a b q => Eq.trans (am_uE (by omega)) (hv0 a b (by omega) (by omega) (by omega) (by omega)))) | (intro a b q1 q2 q3 q4 q5 q6 q7 q8 q9; exact Eq.trans (am_uE (by omega)) (hv0 a b q3 q4 q5 (by omega))) | (intro x hx; rw [am_upN (by decide), hv0 _ _ (by decide) (by decide) (by decide) (by omega)]; exact h3 x hx) | exact if_pos ⟨rfl, rfl⟩ | (rw [am_upM (by decide), hv0 _ _ (by decide) (by decide) (by decide) (by decide), if_neg (by omega)]) | (rw [am_upM (by decide), hv4]) | (trace_state; fail))
  have lp86 : ∀ (m : Nat) (K : Nat) (g j : Int) (μ : am_N) , 1 ≤ K → fp_pr t n K → n ≤ fp_pk t n K → 0 ≤ j → j ≤ K → μ 83 23 = K → (∀ i : Nat, i < K → μ 95 i = am_nx t n (fp_pk t n i) ∧ μ 96 i = fp_pk t n i ∧ fp_td t n (fp_pk t n i) (μ 97) (5 * i)) → (∀ a b, ¬(85 ≤ a ∧ a ≤ 90) → ¬(a = 83 ∧ 10 ≤ b ∧ b ≤ 14) → a ≠ 95 → a ≠ 96 → a ≠ 97 → a ≠ 99 → a ≠ 100 → ¬(a = 98 ∧ 60 ≤ b) → ¬(a = 83 ∧ (b = 21 ∨ b = 22 ∨ b = 23 ∨ b = 26 ∨ b = 27 ∨ b = 33)) → μ a b = ν a b) → mv μ = fp_fk t n (mv ν) j.toNat → fp_okp t n (mv ν) j.toNat → sx_3 μ 100 → μ 83 21 = 0 → (∀ a b o, kp_at a b = some o → μ 98 (60 + o) = ν a b) → μ 83 33 = ν 83 33 → K - j < (m : Int) → am_AW l 0 (fun _ => 0) 156 Q 86 [some (.inr (.inr 83)), some (.inl g), some (.inl j)] [] μ := by
    intro m
    induction m with
    | zero =>
      intro K g j μ hv0 hv1 hv2 hv3 hv4 hv5 hv6 hv7 hv8 hv9 hv10 hv11 hv12 hv13 hm
      exfalso
      omega
    | succ m ih =>
      intro K g j μ hv0 hv1 hv2 hv3 hv4 hv5 hv6 hv7 hv8 hv9 hv10 hv11 hv12 hv13 hm
      have prj : fp_pr t n j.toNat := fun i hi => hv1 i (by omega)
      have hbK := fp_pk_b n0 K hv1
      have hbj := fp_pk_b n0 j.toNat prj
      have cj : am_c j = j := am_cR (by omega) (by omega)
      have c23 : am_c (μ 83 23) = K := by rw [hv5]; exact am_cR (by omega) (by omega)
      have ej : (j + 1).toNat = j.toNat + 1 := by omega
      have fwj : fp_fw 999 (fp_fk t n (mv ν) j.toNat) := fw_fk n0 hw _ prj hv9
      have rj := fun q : j < K => hv6 j.toNat (by omega)
      have bj := fun q : j < K => hv1 j.toNat (by omega)
      refine am_go (ct := fun pc => Nat.beq pc 12 || Nat.beq pc 86) am_oX7_lane 300 ?_
      conv => whnf
      repeat' first
        | (refine (?_ : am_wp _ _ _ _ _ _ _ _ _ _ _ _); conv => whnf)
        | (refine (?_ : am_sw _ _ _ _); conv => whnf)
        | refine And.intro trivial ?_
        | exact trivial
        | ((with_reducible refine (?_ : am_Does _ 155 _ _ _)); (have jK : j < K := (by simp only [cj, c23] at *; omega); obtain ⟨r1, r2, r3⟩ := rj jK; obtain ⟨b1, b2⟩ := bj jK; refine x_mcomes t n (fp_pk t n j.toNat) j n0 n1 hL (by omega) b1 b2 hv3 (by omega) r1 r3 (by rw [hv8]; exact fwj) hv10 (fun y1 μ2 g1 g2 g3 => ?_) (fun y0 μ2 g1 g3 => ?_)))
        | ((with_reducible refine (?_ : am_Does _ 159 _ _ _)); (refine m_come1 (fun μ3 u1 _ _ _ => ?_); have kb : ∀ a b o, kp_at a b = some o → μ3 a b = ν a b := (fun a b o ho => by rw [u1.1 a b o ho, g1 98 (60 + o) (by omega) (by omega) (by omega) (by omega)]; exact hv12 a b o ho); have ko : ∀ a b, kp_at a b = none → ¬(a = 83 ∧ (b = 26 ∨ b = 27)) → μ3 a b = μ2 a b := u1.2))
        | ((with_reducible refine (?_ : Q _ _)); (refine am_qe (k (-2000 - fp_pk t n j.toNat) _ (Or.inr ⟨K, hv0, hv1, hv2, Or.inl ⟨j.toNat, by omega, hv9, (by rw [hv8] at y0; exact y0), rfl, ?_⟩⟩) ?_ ?_ ?_ ?_) ?_))
        | ((with_reducible refine (?_ : Q _ _)); (have jK : j = K := (by simp only [cj, c23] at *; omega); have jn : j.toNat = K := (by omega); rw [jn] at hv8 hv9; refine am_qe (k K _ (Or.inr ⟨K, hv0, hv1, hv2, Or.inr ⟨hv9, rfl, ?_⟩⟩) ?_ ?_ ?_ ?_) ?_))
        | ((with_reducible refine (?_ : am_AW _ _ _ _ _ 86 _ _ _)); refine ih K _ _ _ hv0 hv1 hv2 ?_ ?_ ?_ ?_ ?_ ?_ ?_ ?_ ?_ ?_ ?_ ?_)
        | ((with_reducible refine (?_ : am_AW _ _ _ _ _ 12 _ _ _)); refine lp12' 0 _ ?_ ?_ ?_ ?_ ?_)
        | ((with_reducible refine (?_ : am_AW _ _ _ _ _ 86 _ _ _)); refine ih _ _ _ _ ?_ ?_ ?_ ?_ ?_ ?_ ?_ ?_ ?_ ?_ ?_ ?_ ?_ ?_ ?_)
        | refine lpz _ _ ?_ ?_ ?_ ?_ ?_
        | refine And.intro (fun h => absurd h (by decide)) (fun _ => ?_)
        | refine And.intro (fun _ => ?_) (fun h => absurd (by decide) h)
        | refine And.intro (fun _ => ?_) (fun _ => ?_)
        | refine And.intro ?_ ?_
      all_goals (first | decide | omega | (rw [g1 83 23 (by omega) (by omega) (by omega) (by omega)]; exact hv5) | (intro i hi; rw [show μ2 95 = μ 95 from funext (fun b => g1 95 b (by omega) (by omega) (by omega) (by omega)), show μ2 96 = μ 96 from funext (fun b => g1 96 b (by omega) (by omega) (by omega) (by omega)), show μ2 97 = μ 97 from funext (fun b => g1 97 b (by omega) (by omega) (by omega) (by omega))]; exact hv6 i hi) | (intro a b q1 q2 q3 q4 q5 q6 q7 q8 q9; rw [g1 a b q1 q2 q6 q7]; exact hv7 a b q1 q2 q3 q4 q5 q6 q7 q8 q9) | (rw [ej, g2, hv8]; rfl) | (rw [ej]; exact fp_okp_s hv9 (by rw [hv8] at y1; exact y1)) | exact g3 | (rw [g1 83 21 (by omega) (by omega) (by omega) (by omega)]; exact hv11) | (intro a b o ho; rw [g1 98 (60 + o) (by omega) (by omega) (by omega) (by omega)]; exact hv12 a b o ho) | (rw [g1 83 33 (by omega) (by omega) (by omega) (by omega)]; exact hv13)             | (exact mv_keep4 (fun a b q => by rcases q with q | ⟨rfl, q⟩; exact kb a b _ (kp_f q); exact kb 83 b _ (kp_g q))) | (intro a b q1 q2 q3 q4 q5 q6 q7 q8 q9; cases ho : kp_at a b with | some o => exact kb a b o ho | none => rw [ko a b ho (by omega), g1 a b q1 q2 q6 q7]; exact hv7 a b q1 q2 q3 q4 q5 q6 q7 q8 q9) | (intro x hx; rw [ko 100 x (by unfold kp_at; rw [if_neg (by omega), if_neg (by omega), if_neg (by omega), if_neg (by omega), if_neg (by omega), if_neg (by omega)]) (by omega)]; exact g3 x hx) | (rw [ko 83 21 rfl (by omega), g1 83 21 (by omega) (by omega) (by omega) (by omega)]; exact hv11) | (rw [if_neg (by omega), ko 83 33 rfl (by omega), g1 83 33 (by omega) (by omega) (by omega) (by omega)]; exact hv13) | (rw [ko 96 _ (by unfold kp_at; rw [if_neg (by omega), if_neg (by omega), if_neg (by omega), if_neg (by omega), if_neg (by omega), if_neg (by omega)]) (by omega), cj, g1 96 _ (by omega) (by omega) (by omega) (by omega), r2])             | (rw [← hv8]; exact mv_keep (fun a b q => am_uE (by omega))) | (intro a b q1 q2 q3 q4 q5 q6 q7 q8 q9; rw [am_uE (by omega)]; exact hv7 a b q1 q2 q3 q4 q5 q6 q7 q8 q9) | exact sx_3N hv10 (by decide) | (rw [am_upM (by decide)]; exact hv11) | (rw [if_pos (by omega)]; exact if_pos ⟨rfl, rfl⟩) | (rw [am_upM (by decide)]; exact hv5) | (exfalso; simp only [cj, c23] at *; omega) | (trace_state; fail))
  have lp86' : ∀ (K : Nat) (g j : Int) (μ : am_N) , 1 ≤ K → fp_pr t n K → n ≤ fp_pk t n K → 0 ≤ j → j ≤ K → μ 83 23 = K → (∀ i : Nat, i < K → μ 95 i = am_nx t n (fp_pk t n i) ∧ μ 96 i = fp_pk t n i ∧ fp_td t n (fp_pk t n i) (μ 97) (5 * i)) → (∀ a b, ¬(85 ≤ a ∧ a ≤ 90) → ¬(a = 83 ∧ 10 ≤ b ∧ b ≤ 14) → a ≠ 95 → a ≠ 96 → a ≠ 97 → a ≠ 99 → a ≠ 100 → ¬(a = 98 ∧ 60 ≤ b) → ¬(a = 83 ∧ (b = 21 ∨ b = 22 ∨ b = 23 ∨ b = 26 ∨ b = 27 ∨ b = 33)) → μ a b = ν a b) → mv μ = fp_fk t n (mv ν) j.toNat → fp_okp t n (mv ν) j.toNat → sx_3 μ 100 → μ 83 21 = 0 → (∀ a b o, kp_at a b = some o → μ 98 (60 + o) = ν a b) → μ 83 33 = ν 83 33 → am_AW l 0 (fun _ => 0) 156 Q 86 [some (.inr (.inr 83)), some (.inl g), some (.inl j)] [] μ := fun K g j μ hv0 hv1 hv2 hv3 hv4 hv5 hv6 hv7 hv8 hv9 hv10 hv11 hv12 hv13 => lp86 ((K - j) + 1).toNat K g j μ hv0 hv1 hv2 hv3 hv4 hv5 hv6 hv7 hv8 hv9 hv10 hv11 hv12 hv13 (by omega)
  have lp12 : ∀ (m : Nat) (K : Nat) (μ : am_N) , (∀ a b, a ≠ 95 → a ≠ 96 → a ≠ 97 → ¬(a = 83 ∧ (b = 22 ∨ b = 23)) → μ a b = ν a b) → fp_pr t n K → μ 83 22 = fp_pk t n K → μ 83 23 = K → (∀ i : Nat, i < K → μ 95 i = am_nx t n (fp_pk t n i) ∧ μ 96 i = fp_pk t n i ∧ fp_td t n (fp_pk t n i) (μ 97) (5 * i)) → 50 - (K : Int) < (m : Int) → am_AW l 0 (fun _ => 0) 156 Q 12 [some (.inr (.inr 83)), some (.inl 1), none] [] μ := by
    intro m
    induction m with
    | zero =>
      intro K μ hv0 hv1 hv2 hv3 hv4 hm
      have hb := fp_pk_b n0 K hv1
      exfalso
      omega
    | succ m ih =>
      intro K μ hv0 hv1 hv2 hv3 hv4 hm
      have hb := fp_pk_b n0 K hv1
      have e94 : μ 94 = t := (funext (fun b => hv0 94 b (by omega) (by omega) (by omega) (by omega))).trans ht
      have e21 : μ 83 21 = n := (hv0 83 21 (by omega) (by omega) (by omega) (by omega)).trans hn
      have c21 : am_c (μ 83 21) = n := by rw [e21]; exact am_cR (by omega) (by omega)
      have c22 : am_c (μ 83 22) = fp_pk t n K := by rw [hv2]; exact am_cR (by omega) (by omega)
      have c23 : am_c (μ 83 23) = K := by rw [hv3]; exact am_cR (by omega) (by omega)
      refine am_go (ct := fun pc => Nat.beq pc 12 || Nat.beq pc 86) am_oX7_lane 300 ?_
      conv => whnf
      repeat' first
        | (refine (?_ : am_wp _ _ _ _ _ _ _ _ _ _ _ _); conv => whnf)
        | (refine (?_ : am_sw _ _ _ _); conv => whnf)
        | refine And.intro trivial ?_
        | exact trivial
        | ((with_reducible refine (?_ : am_Does _ 153 _ _ _)); (have st : fp_pk t n K < n ∨ K = 0 := (by simp only [c21, c22, c23] at *; omega); refine x_statement t n (fp_pk t n K) K e94 e21 hv2 n0 n1 hL hv3 (by omega) (by omega) (by omega) (by omega) (fun y1 μ2 f2 a2 l2 p2 d2 => ?_) (fun y0 μ2 f2 a2 => ?_)))
        | ((with_reducible refine (?_ : am_AW _ _ _ _ _ 12 _ _ _)); refine ih (K + 1) _ ?_ ?_ ?_ ?_ ?_ ?_)
        | refine lpz K _ ?_ ?_ st y0 ?_
        | ((with_reducible refine (?_ : am_Does _ 159 _ _ _)); (have K1 : 1 ≤ K := (by simp only [c21, c22, c23] at *; omega); have nK : n ≤ fp_pk t n K := (by simp only [c21, c22, c23] at *; omega); refine m_keep1 (fun μ2 u1 _ _ _ => ?_); have ku : ∀ a b, ¬(a = 98 ∧ 60 ≤ b ∧ b < 60 + 45) → ¬(a = 83 ∧ (b = 26 ∨ b = 27)) → μ2 a b = am_up μ 83 21 0 a b := u1.2))
        | ((with_reducible refine (?_ : am_AW _ _ _ _ _ 86 _ _ _)); refine lp86' K _ _ _ K1 hv1 nK ?_ ?_ ?_ ?_ ?_ ?_ ?_ ?_ ?_ ?_ ?_)
        | ((with_reducible refine (?_ : am_AW _ _ _ _ _ 12 _ _ _)); refine lp12' 0 _ ?_ ?_ ?_ ?_ ?_)
        | ((with_reducible refine (?_ : am_AW _ _ _ _ _ 12 _ _ _)); refine ih _ _ ?_ ?_ ?_ ?_ ?_ ?_)
        | ((with_reducible refine (?_ : am_AW _ _ _ _ _ 86 _ _ _)); refine lp86' _ _ _ _ ?_ ?_ ?_ ?_ ?_ ?_ ?_ ?_ ?_ ?_ ?_ ?_ ?_ ?_)
        | refine lpz _ _ ?_ ?_ ?_ ?_ ?_
        | refine And.intro (fun h => absurd h (by decide)) (fun _ => ?_)
        | refine And.intro (fun _ => ?_) (fun h => absurd (by decide) h)
        | refine And.intro (fun _ => ?_) (fun _ => ?_)
        | refine And.intro ?_ ?_
      all_goals (first | decide | omega | (intro a b q1 q2 q3 q4; rw [am_uE (by omega), f2 a b (by omega) (by omega) (by omega) (by omega)]; exact hv0 a b q1 q2 q3 q4) | exact fp_pr_s hv1 (am_bh_n y1 (by omega)) y1 | exact hv1 | (rw [am_upM (by decide)]; exact a2) | (rw [am_upS, if_pos ⟨rfl, rfl⟩, f2 83 23 (by omega) (by omega) (by omega) (by omega), hv3]; omega) | (intro i hi; rw [am_upN (by decide), am_upN (by decide), show am_up μ2 83 23 (μ2 83 23 + 1) 97 = μ2 97 from funext (fun b => am_upN (by decide))]; by_cases d : i = K; (subst d; exact ⟨by rw [show i = ((i : Int)).toNat by omega]; exact l2, by rw [show i = ((i : Int)).toNat by omega]; exact p2, by exact d2⟩); (obtain ⟨z1, z2, z3⟩ := hv4 i (by omega); refine ⟨?_, ?_, ?_⟩; (rw [f2 95 i (by omega) (by omega) (by omega) (by omega)]; exact z1); (rw [f2 96 i (by omega) (by omega) (by omega) (by omega)]; exact z2); exact fp_td_e z3 (fun x h1 h2 => f2 97 x (by omega) (by omega) (by omega) (by omega)))) | (rw [ku 83 23 (by omega) (by omega), am_upM (by decide)]; exact hv3) | (intro i hi; rw [show μ2 95 = μ 95 from funext (fun b => (ku 95 b (by omega) (by omega)).trans (am_upN (by decide))), show μ2 96 = μ 96 from funext (fun b => (ku 96 b (by omega) (by omega)).trans (am_upN (by decide))), show μ2 97 = μ 97 from funext (fun b => (ku 97 b (by omega) (by omega)).trans (am_upN (by decide)))]; exact hv4 i hi) | (intro a b q1 q2 q3 q4 q5 q6 q7 q8 q9; rw [ku a b (by omega) (by omega), am_uE (by omega)]; exact hv0 a b q3 q4 q5 (by omega)) | (exact mv_keep (fun a b q => by rw [ku a b (by omega) (by omega), am_uE (by omega)]; exact hv0 a b (by omega) (by omega) (by omega) (by omega))) | exact fp_okp_0 | (intro x hx; rw [ku 100 x (by omega) (by omega), am_upN (by decide), hv0 100 x (by omega) (by omega) (by omega) (by omega)]; exact h3 x hx) | (rw [ku 83 21 (by omega) (by omega)]; exact if_pos ⟨rfl, rfl⟩) | (intro a b o ho; have w := kp_lt ho; rw [u1.1 a b o ho, am_uE (by intro z; rw [z.1, z.2] at ho; cases ho)]; refine hv0 a b ?_ ?_ ?_ ?_ <;> (intro z; first | (subst z; unfold kp_at at ho; rw [if_neg (by omega), if_neg (by omega), if_neg (by omega), if_neg (by omega), if_neg (by omega), if_neg (by omega)] at ho; cases ho) | (rcases z with ⟨z1, z2 | z2⟩ <;> (subst z1; subst z2; cases ho)))) | (rw [ku 83 33 (by omega) (by omega), am_upM (by decide)]; exact hv0 83 33 (by omega) (by omega) (by omega) (by omega)) | (exfalso; simp only [c21, c22, c23] at *; omega) | (simp only [c21, c22, c23] at *; omega) | (trace_state; fail))
  have lp12' : ∀ (K : Nat) (μ : am_N) , (∀ a b, a ≠ 95 → a ≠ 96 → a ≠ 97 → ¬(a = 83 ∧ (b = 22 ∨ b = 23)) → μ a b = ν a b) → fp_pr t n K → μ 83 22 = fp_pk t n K → μ 83 23 = K → (∀ i : Nat, i < K → μ 95 i = am_nx t n (fp_pk t n i) ∧ μ 96 i = fp_pk t n i ∧ fp_td t n (fp_pk t n i) (μ 97) (5 * i)) → am_AW l 0 (fun _ => 0) 156 Q 12 [some (.inr (.inr 83)), some (.inl 1), none] [] μ := fun K μ hv0 hv1 hv2 hv3 hv4 => lp12 ((50 - (K : Int)) + 1).toNat K μ hv0 hv1 hv2 hv3 hv4 (by omega)
  refine am_go (ct := fun pc => Nat.beq pc 12 || Nat.beq pc 86) am_oX7_lane 300 ?_
  conv => whnf
  repeat' first
    | (refine (?_ : am_wp _ _ _ _ _ _ _ _ _ _ _ _); conv => whnf)
    | (refine (?_ : am_sw _ _ _ _); conv => whnf)
    | refine And.intro trivial ?_
    | exact trivial
    | ((with_reducible refine (?_ : am_AW _ _ _ _ _ 12 _ _ _)); refine lp12' 0 _ ?_ ?_ ?_ ?_ ?_)
    | ((with_reducible refine (?_ : am_AW _ _ _ _ _ 12 _ _ _)); refine lp12' _ _ ?_ ?_ ?_ ?_ ?_)
    | ((with_reducible refine (?_ : am_AW _ _ _ _ _ 86 _ _ _)); refine lp86' _ _ _ _ ?_ ?_ ?_ ?_ ?_ ?_ ?_ ?_ ?_ ?_ ?_ ?_ ?_ ?_)
    | refine lpz _ _ ?_ ?_ ?_ ?_ ?_
    | refine And.intro (fun h => absurd h (by decide)) (fun _ => ?_)
    | refine And.intro (fun _ => ?_) (fun h => absurd (by decide) h)
    | refine And.intro (fun _ => ?_) (fun _ => ?_)
    | refine And.intro ?_ ?_
  all_goals (first | decide | omega | exact fp_pr_0 | (intro a b q1 q2 q3 q4; rw [am_uE (by omega), am_uE (by omega)]) | (rw [am_upM (by decide)]; exact if_pos ⟨rfl, rfl⟩) | exact if_pos ⟨rfl, rfl⟩ | (intro i hi; omega) | (trace_state; fail))
/-! public changes, exactly: the class -/
theorem x_rat_48 {l : Launch} {ν : am_N} {Q : Option am_V → am_N → Prop} (i : Int) (i0 : 0 ≤ i) (i1 : i < ν 48 1) (hn : ν 48 1 ≤ 6) (k : Q (some (.inl (ν 49 i.toNat))) ν) : am_Does l 43 [.inr (.inr 48), .inl i] ν Q := by
  refine am_Does_of (Nat.le_of_ble_eq_true rfl) (Nat.le_of_ble_eq_true rfl) (Nat.le_of_ble_eq_true rfl) ?_
  have l0 : am_c 0 = 0 := rfl
  have ci : am_c i = i := am_cR (by omega) (by omega)
  have cn : am_c (ν 48 1) = ν 48 1 := am_cR (by omega) (by omega)
  refine am_go (ct := fun _ => false) am_oX3_at 300 ?_
  conv => whnf
  repeat' first
    | (refine (?_ : am_wp _ _ _ _ _ _ _ _ _ _ _ _); conv => whnf)
    | (refine (?_ : am_sw _ _ _ _); conv => whnf)
    | refine And.intro trivial ?_
    | exact trivial
    | refine am_qe k ?_
    | refine And.intro (fun h => absurd h (by decide)) (fun _ => ?_)
    | refine And.intro (fun _ => ?_) (fun h => absurd (by decide) h)
    | refine And.intro (fun _ => ?_) (fun _ => ?_)
    | refine And.intro ?_ ?_
  all_goals (first | decide | omega | (simp only [ci, cn] at *; omega) | (rw [ci]) | (exfalso; simp only [ci, cn] at *; omega) | (trace_state; fail))
theorem x_rt_50_48 {l : Launch} {ν : am_N} {Q : Option am_V → am_N → Prop} (h0 : 0 ≤ ν 48 1) (h1 : ν 48 1 ≤ 6) (k : ∀ μ' : am_N, (∀ a b, ¬(a = 50 ∧ b = 1) → a ≠ 51 → μ' a b = ν a b) → μ' 50 1 = ν 48 1 → (∀ i : Nat, (i : Int) < ν 48 1 → μ' 51 i = ν 49 i) → Q none μ') : am_Does l 45 [.inr (.inr 50), .inr (.inr 48)] ν Q := by
  refine am_Does_of (Nat.le_of_ble_eq_true rfl) (Nat.le_of_ble_eq_true rfl) (Nat.le_of_ble_eq_true rfl) ?_
  have cn : am_c (ν 48 1) = ν 48 1 := am_cR (by omega) (by omega)
  have lc : am_c 6 = 6 := rfl
  have lp18 : ∀ (m : Nat) (i : Int) (μ : am_N) , (∀ a b, ¬(a = 50 ∧ b = 1) → a ≠ 51 → μ a b = ν a b) → μ 50 1 = ν 48 1 → 0 ≤ i → i ≤ ν 48 1 → (∀ q : Nat, (q : Int) < i → μ 51 q = ν 49 q) → ν 48 1 - i < (m : Int) → am_AW l 0 (fun _ => 0) 45 Q 18 [some (.inr (.inr 50)), some (.inr (.inr 48)), some (.inl i)] [] μ := by
    intro m
    induction m with
    | zero =>
      intro i μ hv0 hv1 hv2 hv3 hv4 hm
      exfalso
      omega
    | succ m ih =>
      intro i μ hv0 hv1 hv2 hv3 hv4 hm
      have ci : am_c i = i := am_cR (by omega) (by omega)
      have cF : am_c (μ 50 1) = ν 48 1 := by rw [hv1]; exact cn
      have eO : μ 48 1 = ν 48 1 := hv0 48 1 (by first | decide | omega | exact fun z => absurd z.1 (by decide)) (by first | decide | omega | exact fun z => absurd z.1 (by decide))
      refine am_go (ct := fun pc => Nat.beq pc 18) am_oX3_take 300 ?_
      conv => whnf
      repeat' first
        | (refine (?_ : am_wp _ _ _ _ _ _ _ _ _ _ _ _); conv => whnf)
        | (refine (?_ : am_sw _ _ _ _); conv => whnf)
        | refine And.intro trivial ?_
        | exact trivial
        | ((with_reducible refine (?_ : am_Does _ 43 _ _ _)); (have iN : i < ν 48 1 := (by simp only [ci, cF] at *; omega); refine x_rat_48 i hv2 (by rw [eO]; exact iN) (by rw [eO]; exact h1) ?_))
        | refine k _ hv0 hv1 ?_
        | ((with_reducible refine (?_ : am_AW _ _ _ _ _ 18 _ _ _)); refine ih _ _ ?_ ?_ ?_ ?_ ?_ ?_)
        | refine And.intro (fun h => absurd h (by decide)) (fun _ => ?_)
        | refine And.intro (fun _ => ?_) (fun h => absurd (by decide) h)
        | refine And.intro (fun _ => ?_) (fun _ => ?_)
        | refine And.intro ?_ ?_
      all_goals (first | decide | assumption | omega | (simp only [ci, cF] at *; omega) | (intro a b q1 q2; rw [am_upN q2]; exact hv0 a b q1 q2) | (rw [am_upN (by decide)]; exact hv1) | (intro q hq; by_cases d : (q : Int) = i; (rw [am_upS, if_pos ⟨rfl, by rw [ci]; omega⟩, hv0 _ _ (by first | decide | omega | exact fun z => absurd z.1 (by decide)) (by first | decide | omega | exact fun z => absurd z.1 (by decide)), show i.toNat = q by omega]); (rw [am_upM (by rw [ci]; omega)]; exact hv4 q (by omega))) | (intro q hq; exact hv4 q (by simp only [ci, cF] at *; omega)) | (trace_state; fail))
  have lp18' : ∀ (i : Int) (μ : am_N) , (∀ a b, ¬(a = 50 ∧ b = 1) → a ≠ 51 → μ a b = ν a b) → μ 50 1 = ν 48 1 → 0 ≤ i → i ≤ ν 48 1 → (∀ q : Nat, (q : Int) < i → μ 51 q = ν 49 q) → am_AW l 0 (fun _ => 0) 45 Q 18 [some (.inr (.inr 50)), some (.inr (.inr 48)), some (.inl i)] [] μ := fun i μ hv0 hv1 hv2 hv3 hv4 => lp18 ((ν 48 1 - i) + 1).toNat i μ hv0 hv1 hv2 hv3 hv4 (by omega)
  refine am_go (ct := fun pc => Nat.beq pc 18) am_oX3_take 300 ?_
  conv => whnf
  repeat' first
    | (refine (?_ : am_wp _ _ _ _ _ _ _ _ _ _ _ _); conv => whnf)
    | (refine (?_ : am_sw _ _ _ _); conv => whnf)
    | refine And.intro trivial ?_
    | exact trivial
    | ((with_reducible refine (?_ : am_AW _ _ _ _ _ 18 _ _ _)); refine lp18' _ _ ?_ ?_ ?_ ?_ ?_)
    | refine And.intro (fun h => absurd h (by decide)) (fun _ => ?_)
    | refine And.intro (fun _ => ?_) (fun h => absurd (by decide) h)
    | refine And.intro (fun _ => ?_) (fun _ => ?_)
    | refine And.intro ?_ ?_
  all_goals (first | decide | omega | (intro a b q1 q2; exact am_uE q1) | (rw [am_upS, if_pos ⟨rfl, rfl⟩]; exact if_neg (show ¬ am_c 6 < am_c (ν 48 1) by rw [cn]; omega)) | (intros; omega) | (trace_state; fail))
theorem x_rat_53 {l : Launch} {ν : am_N} {Q : Option am_V → am_N → Prop} (i : Int) (i0 : 0 ≤ i) (i1 : i < ν 53 1) (hn : ν 53 1 ≤ 4) (k : Q (some (.inl (ν 54 i.toNat))) ν) : am_Does l 43 [.inr (.inr 53), .inl i] ν Q := by
  refine am_Does_of (Nat.le_of_ble_eq_true rfl) (Nat.le_of_ble_eq_true rfl) (Nat.le_of_ble_eq_true rfl) ?_
  have l0 : am_c 0 = 0 := rfl
  have ci : am_c i = i := am_cR (by omega) (by omega)
  have cn : am_c (ν 53 1) = ν 53 1 := am_cR (by omega) (by omega)
  refine am_go (ct := fun _ => false) am_oX3_at 300 ?_
  conv => whnf
  repeat' first
    | (refine (?_ : am_wp _ _ _ _ _ _ _ _ _ _ _ _); conv => whnf)
    | (refine (?_ : am_sw _ _ _ _); conv => whnf)
    | refine And.intro trivial ?_
    | exact trivial
    | refine am_qe k ?_
    | refine And.intro (fun h => absurd h (by decide)) (fun _ => ?_)
    | refine And.intro (fun _ => ?_) (fun h => absurd (by decide) h)
    | refine And.intro (fun _ => ?_) (fun _ => ?_)
    | refine And.intro ?_ ?_
  all_goals (first | decide | omega | (simp only [ci, cn] at *; omega) | (rw [ci]) | (exfalso; simp only [ci, cn] at *; omega) | (trace_state; fail))
theorem x_rt_58_53 {l : Launch} {ν : am_N} {Q : Option am_V → am_N → Prop} (h0 : 0 ≤ ν 53 1) (h1 : ν 53 1 ≤ 4) (k : ∀ μ' : am_N, (∀ a b, ¬(a = 58 ∧ b = 1) → a ≠ 59 → μ' a b = ν a b) → μ' 58 1 = ν 53 1 → (∀ i : Nat, (i : Int) < ν 53 1 → μ' 59 i = ν 54 i) → Q none μ') : am_Does l 45 [.inr (.inr 58), .inr (.inr 53)] ν Q := by
  refine am_Does_of (Nat.le_of_ble_eq_true rfl) (Nat.le_of_ble_eq_true rfl) (Nat.le_of_ble_eq_true rfl) ?_
  have cn : am_c (ν 53 1) = ν 53 1 := am_cR (by omega) (by omega)
  have lc : am_c 4 = 4 := rfl
  have lp18 : ∀ (m : Nat) (i : Int) (μ : am_N) , (∀ a b, ¬(a = 58 ∧ b = 1) → a ≠ 59 → μ a b = ν a b) → μ 58 1 = ν 53 1 → 0 ≤ i → i ≤ ν 53 1 → (∀ q : Nat, (q : Int) < i → μ 59 q = ν 54 q) → ν 53 1 - i < (m : Int) → am_AW l 0 (fun _ => 0) 45 Q 18 [some (.inr (.inr 58)), some (.inr (.inr 53)), some (.inl i)] [] μ := by
    intro m
    induction m with
    | zero =>
      intro i μ hv0 hv1 hv2 hv3 hv4 hm
      exfalso
      omega
    | succ m ih =>
      intro i μ hv0 hv1 hv2 hv3 hv4 hm
      have ci : am_c i = i := am_cR (by omega) (by omega)
      have cF : am_c (μ 58 1) = ν 53 1 := by rw [hv1]; exact cn
      have eO : μ 53 1 = ν 53 1 := hv0 53 1 (by first | decide | omega | exact fun z => absurd z.1 (by decide)) (by first | decide | omega | exact fun z => absurd z.1 (by decide))
      refine am_go (ct := fun pc => Nat.beq pc 18) am_oX3_take 300 ?_
      conv => whnf
      repeat' first
        | (refine (?_ : am_wp _ _ _ _ _ _ _ _ _ _ _ _); conv => whnf)
        | (refine (?_ : am_sw _ _ _ _); conv => whnf)
        | refine And.intro trivial ?_
        | exact trivial
        | ((with_reducible refine (?_ : am_Does _ 43 _ _ _)); (have iN : i < ν 53 1 := (by simp only [ci, cF] at *; omega); refine x_rat_53 i hv2 (by rw [eO]; exact iN) (by rw [eO]; exact h1) ?_))
        | refine k _ hv0 hv1 ?_
        | ((with_reducible refine (?_ : am_AW _ _ _ _ _ 18 _ _ _)); refine ih _ _ ?_ ?_ ?_ ?_ ?_ ?_)
        | refine And.intro (fun h => absurd h (by decide)) (fun _ => ?_)
        | refine And.intro (fun _ => ?_) (fun h => absurd (by decide) h)
        | refine And.intro (fun _ => ?_) (fun _ => ?_)
        | refine And.intro ?_ ?_
      all_goals (first | decide | assumption | omega | (simp only [ci, cF] at *; omega) | (intro a b q1 q2; rw [am_upN q2]; exact hv0 a b q1 q2) | (rw [am_upN (by decide)]; exact hv1) | (intro q hq; by_cases d : (q : Int) = i; (rw [am_upS, if_pos ⟨rfl, by rw [ci]; omega⟩, hv0 _ _ (by first | decide | omega | exact fun z => absurd z.1 (by decide)) (by first | decide | omega | exact fun z => absurd z.1 (by decide)), show i.toNat = q by omega]); (rw [am_upM (by rw [ci]; omega)]; exact hv4 q (by omega))) | (intro q hq; exact hv4 q (by simp only [ci, cF] at *; omega)) | (trace_state; fail))
  have lp18' : ∀ (i : Int) (μ : am_N) , (∀ a b, ¬(a = 58 ∧ b = 1) → a ≠ 59 → μ a b = ν a b) → μ 58 1 = ν 53 1 → 0 ≤ i → i ≤ ν 53 1 → (∀ q : Nat, (q : Int) < i → μ 59 q = ν 54 q) → am_AW l 0 (fun _ => 0) 45 Q 18 [some (.inr (.inr 58)), some (.inr (.inr 53)), some (.inl i)] [] μ := fun i μ hv0 hv1 hv2 hv3 hv4 => lp18 ((ν 53 1 - i) + 1).toNat i μ hv0 hv1 hv2 hv3 hv4 (by omega)
  refine am_go (ct := fun pc => Nat.beq pc 18) am_oX3_take 300 ?_
  conv => whnf
  repeat' first
    | (refine (?_ : am_wp _ _ _ _ _ _ _ _ _ _ _ _); conv => whnf)
    | (refine (?_ : am_sw _ _ _ _); conv => whnf)
    | refine And.intro trivial ?_
    | exact trivial
    | ((with_reducible refine (?_ : am_AW _ _ _ _ _ 18 _ _ _)); refine lp18' _ _ ?_ ?_ ?_ ?_ ?_)
    | refine And.intro (fun h => absurd h (by decide)) (fun _ => ?_)
    | refine And.intro (fun _ => ?_) (fun h => absurd (by decide) h)
    | refine And.intro (fun _ => ?_) (fun _ => ?_)
    | refine And.intro ?_ ?_
  all_goals (first | decide | omega | (intro a b q1 q2; exact am_uE q1) | (rw [am_upS, if_pos ⟨rfl, rfl⟩]; exact if_neg (show ¬ am_c 4 < am_c (ν 53 1) by rw [cn]; omega)) | (intros; omega) | (trace_state; fail))
theorem x_rat_55 {l : Launch} {ν : am_N} {Q : Option am_V → am_N → Prop} (i : Int) (i0 : 0 ≤ i) (i1 : i < ν 55 1) (hn : ν 55 1 ≤ 4) (k : Q (some (.inl (ν 56 i.toNat))) ν) : am_Does l 43 [.inr (.inr 55), .inl i] ν Q := by
  refine am_Does_of (Nat.le_of_ble_eq_true rfl) (Nat.le_of_ble_eq_true rfl) (Nat.le_of_ble_eq_true rfl) ?_
  have l0 : am_c 0 = 0 := rfl
  have ci : am_c i = i := am_cR (by omega) (by omega)
  have cn : am_c (ν 55 1) = ν 55 1 := am_cR (by omega) (by omega)
  refine am_go (ct := fun _ => false) am_oX3_at 300 ?_
  conv => whnf
  repeat' first
    | (refine (?_ : am_wp _ _ _ _ _ _ _ _ _ _ _ _); conv => whnf)
    | (refine (?_ : am_sw _ _ _ _); conv => whnf)
    | refine And.intro trivial ?_
    | exact trivial
    | refine am_qe k ?_
    | refine And.intro (fun h => absurd h (by decide)) (fun _ => ?_)
    | refine And.intro (fun _ => ?_) (fun h => absurd (by decide) h)
    | refine And.intro (fun _ => ?_) (fun _ => ?_)
    | refine And.intro ?_ ?_
  all_goals (first | decide | omega | (simp only [ci, cn] at *; omega) | (rw [ci]) | (exfalso; simp only [ci, cn] at *; omega) | (trace_state; fail))
theorem x_rt_60_55 {l : Launch} {ν : am_N} {Q : Option am_V → am_N → Prop} (h0 : 0 ≤ ν 55 1) (h1 : ν 55 1 ≤ 4) (k : ∀ μ' : am_N, (∀ a b, ¬(a = 60 ∧ b = 1) → a ≠ 61 → μ' a b = ν a b) → μ' 60 1 = ν 55 1 → (∀ i : Nat, (i : Int) < ν 55 1 → μ' 61 i = ν 56 i) → Q none μ') : am_Does l 45 [.inr (.inr 60), .inr (.inr 55)] ν Q := by
  refine am_Does_of (Nat.le_of_ble_eq_true rfl) (Nat.le_of_ble_eq_true rfl) (Nat.le_of_ble_eq_true rfl) ?_
  have cn : am_c (ν 55 1) = ν 55 1 := am_cR (by omega) (by omega)
  have lc : am_c 4 = 4 := rfl
  have lp18 : ∀ (m : Nat) (i : Int) (μ : am_N) , (∀ a b, ¬(a = 60 ∧ b = 1) → a ≠ 61 → μ a b = ν a b) → μ 60 1 = ν 55 1 → 0 ≤ i → i ≤ ν 55 1 → (∀ q : Nat, (q : Int) < i → μ 61 q = ν 56 q) → ν 55 1 - i < (m : Int) → am_AW l 0 (fun _ => 0) 45 Q 18 [some (.inr (.inr 60)), some (.inr (.inr 55)), some (.inl i)] [] μ := by
    intro m
    induction m with
    | zero =>
      intro i μ hv0 hv1 hv2 hv3 hv4 hm
      exfalso
      omega
    | succ m ih =>
      intro i μ hv0 hv1 hv2 hv3 hv4 hm
      have ci : am_c i = i := am_cR (by omega) (by omega)
      have cF : am_c (μ 60 1) = ν 55 1 := by rw [hv1]; exact cn
      have eO : μ 55 1 = ν 55 1 := hv0 55 1 (by first | decide | omega | exact fun z => absurd z.1 (by decide)) (by first | decide | omega | exact fun z => absurd z.1 (by decide))
      refine am_go (ct := fun pc => Nat.beq pc 18) am_oX3_take 300 ?_
      conv => whnf
      repeat' first
        | (refine (?_ : am_wp _ _ _ _ _ _ _ _ _ _ _ _); conv => whnf)
        | (refine (?_ : am_sw _ _ _ _); conv => whnf)
        | refine And.intro trivial ?_
        | exact trivial
        | ((with_reducible refine (?_ : am_Does _ 43 _ _ _)); (have iN : i < ν 55 1 := (by simp only [ci, cF] at *; omega); refine x_rat_55 i hv2 (by rw [eO]; exact iN) (by rw [eO]; exact h1) ?_))
        | refine k _ hv0 hv1 ?_
        | ((with_reducible refine (?_ : am_AW _ _ _ _ _ 18 _ _ _)); refine ih _ _ ?_ ?_ ?_ ?_ ?_ ?_)
        | refine And.intro (fun h => absurd h (by decide)) (fun _ => ?_)
        | refine And.intro (fun _ => ?_) (fun h => absurd (by decide) h)
        | refine And.intro (fun _ => ?_) (fun _ => ?_)
        | refine And.intro ?_ ?_
      all_goals (first | decide | assumption | omega | (simp only [ci, cF] at *; omega) | (intro a b q1 q2; rw [am_upN q2]; exact hv0 a b q1 q2) | (rw [am_upN (by decide)]; exact hv1) | (intro q hq; by_cases d : (q : Int) = i; (rw [am_upS, if_pos ⟨rfl, by rw [ci]; omega⟩, hv0 _ _ (by first | decide | omega | exact fun z => absurd z.1 (by decide)) (by first | decide | omega | exact fun z => absurd z.1 (by decide)), show i.toNat = q by omega]); (rw [am_upM (by rw [ci]; omega)]; exact hv4 q (by omega))) | (intro q hq; exact hv4 q (by simp only [ci, cF] at *; omega)) | (trace_state; fail))
  have lp18' : ∀ (i : Int) (μ : am_N) , (∀ a b, ¬(a = 60 ∧ b = 1) → a ≠ 61 → μ a b = ν a b) → μ 60 1 = ν 55 1 → 0 ≤ i → i ≤ ν 55 1 → (∀ q : Nat, (q : Int) < i → μ 61 q = ν 56 q) → am_AW l 0 (fun _ => 0) 45 Q 18 [some (.inr (.inr 60)), some (.inr (.inr 55)), some (.inl i)] [] μ := fun i μ hv0 hv1 hv2 hv3 hv4 => lp18 ((ν 55 1 - i) + 1).toNat i μ hv0 hv1 hv2 hv3 hv4 (by omega)
  refine am_go (ct := fun pc => Nat.beq pc 18) am_oX3_take 300 ?_
  conv => whnf
  repeat' first
    | (refine (?_ : am_wp _ _ _ _ _ _ _ _ _ _ _ _); conv => whnf)
    | (refine (?_ : am_sw _ _ _ _); conv => whnf)
    | refine And.intro trivial ?_
    | exact trivial
    | ((with_reducible refine (?_ : am_AW _ _ _ _ _ 18 _ _ _)); refine lp18' _ _ ?_ ?_ ?_ ?_ ?_)
    | refine And.intro (fun h => absurd h (by decide)) (fun _ => ?_)
    | refine And.intro (fun _ => ?_) (fun h => absurd (by decide) h)
    | refine And.intro (fun _ => ?_) (fun _ => ?_)
    | refine And.intro ?_ ?_
  all_goals (first | decide | omega | (intro a b q1 q2; exact am_uE q1) | (rw [am_upS, if_pos ⟨rfl, rfl⟩]; exact if_neg (show ¬ am_c 4 < am_c (ν 55 1) by rw [cn]; omega)) | (intros; omega) | (trace_state; fail))
theorem x_rat_50 {l : Launch} {ν : am_N} {Q : Option am_V → am_N → Prop} (i : Int) (i0 : 0 ≤ i) (i1 : i < ν 50 1) (hn : ν 50 1 ≤ 6) (k : Q (some (.inl (ν 51 i.toNat))) ν) : am_Does l 43 [.inr (.inr 50), .inl i] ν Q := by
  refine am_Does_of (Nat.le_of_ble_eq_true rfl) (Nat.le_of_ble_eq_true rfl) (Nat.le_of_ble_eq_true rfl) ?_
  have l0 : am_c 0 = 0 := rfl
  have ci : am_c i = i := am_cR (by omega) (by omega)
  have cn : am_c (ν 50 1) = ν 50 1 := am_cR (by omega) (by omega)
  refine am_go (ct := fun _ => false) am_oX3_at 300 ?_
  conv => whnf
  repeat' first
    | (refine (?_ : am_wp _ _ _ _ _ _ _ _ _ _ _ _); conv => whnf)
    | (refine (?_ : am_sw _ _ _ _); conv => whnf)
    | refine And.intro trivial ?_
    | exact trivial
    | refine am_qe k ?_
    | refine And.intro (fun h => absurd h (by decide)) (fun _ => ?_)
    | refine And.intro (fun _ => ?_) (fun h => absurd (by decide) h)
    | refine And.intro (fun _ => ?_) (fun _ => ?_)
    | refine And.intro ?_ ?_
  all_goals (first | decide | omega | (simp only [ci, cn] at *; omega) | (rw [ci]) | (exfalso; simp only [ci, cn] at *; omega) | (trace_state; fail))
theorem x_rt_48_50 {l : Launch} {ν : am_N} {Q : Option am_V → am_N → Prop} (h0 : 0 ≤ ν 50 1) (h1 : ν 50 1 ≤ 6) (k : ∀ μ' : am_N, (∀ a b, ¬(a = 48 ∧ b = 1) → a ≠ 49 → μ' a b = ν a b) → μ' 48 1 = ν 50 1 → (∀ i : Nat, (i : Int) < ν 50 1 → μ' 49 i = ν 51 i) → Q none μ') : am_Does l 45 [.inr (.inr 48), .inr (.inr 50)] ν Q := by
  refine am_Does_of (Nat.le_of_ble_eq_true rfl) (Nat.le_of_ble_eq_true rfl) (Nat.le_of_ble_eq_true rfl) ?_
  have cn : am_c (ν 50 1) = ν 50 1 := am_cR (by omega) (by omega)
  have lc : am_c 6 = 6 := rfl
  have lp18 : ∀ (m : Nat) (i : Int) (μ : am_N) , (∀ a b, ¬(a = 48 ∧ b = 1) → a ≠ 49 → μ a b = ν a b) → μ 48 1 = ν 50 1 → 0 ≤ i → i ≤ ν 50 1 → (∀ q : Nat, (q : Int) < i → μ 49 q = ν 51 q) → ν 50 1 - i < (m : Int) → am_AW l 0 (fun _ => 0) 45 Q 18 [some (.inr (.inr 48)), some (.inr (.inr 50)), some (.inl i)] [] μ := by
    intro m
    induction m with
    | zero =>
      intro i μ hv0 hv1 hv2 hv3 hv4 hm
      exfalso
      omega
    | succ m ih =>
      intro i μ hv0 hv1 hv2 hv3 hv4 hm
      have ci : am_c i = i := am_cR (by omega) (by omega)
      have cF : am_c (μ 48 1) = ν 50 1 := by rw [hv1]; exact cn
      have eO : μ 50 1 = ν 50 1 := hv0 50 1 (by first | decide | omega | exact fun z => absurd z.1 (by decide)) (by first | decide | omega | exact fun z => absurd z.1 (by decide))
      refine am_go (ct := fun pc => Nat.beq pc 18) am_oX3_take 300 ?_
      conv => whnf
      repeat' first
        | (refine (?_ : am_wp _ _ _ _ _ _ _ _ _ _ _ _); conv => whnf)
        | (refine (?_ : am_sw _ _ _ _); conv => whnf)
        | refine And.intro trivial ?_
        | exact trivial
        | ((with_reducible refine (?_ : am_Does _ 43 _ _ _)); (have iN : i < ν 50 1 := (by simp only [ci, cF] at *; omega); refine x_rat_50 i hv2 (by rw [eO]; exact iN) (by rw [eO]; exact h1) ?_))
        | refine k _ hv0 hv1 ?_
        | ((with_reducible refine (?_ : am_AW _ _ _ _ _ 18 _ _ _)); refine ih _ _ ?_ ?_ ?_ ?_ ?_ ?_)
        | refine And.intro (fun h => absurd h (by decide)) (fun _ => ?_)
        | refine And.intro (fun _ => ?_) (fun h => absurd (by decide) h)
        | refine And.intro (fun _ => ?_) (fun _ => ?_)
        | refine And.intro ?_ ?_
      all_goals (first | decide | assumption | omega | (simp only [ci, cF] at *; omega) | (intro a b q1 q2; rw [am_upN q2]; exact hv0 a b q1 q2) | (rw [am_upN (by decide)]; exact hv1) | (intro q hq; by_cases d : (q : Int) = i; (rw [am_upS, if_pos ⟨rfl, by rw [ci]; omega⟩, hv0 _ _ (by first | decide | omega | exact fun z => absurd z.1 (by decide)) (by first | decide | omega | exact fun z => absurd z.1 (by decide)), show i.toNat = q by omega]); (rw [am_upM (by rw [ci]; omega)]; exact hv4 q (by omega))) | (intro q hq; exact hv4 q (by simp only [ci, cF] at *; omega)) | (trace_state; fail))
  have lp18' : ∀ (i : Int) (μ : am_N) , (∀ a b, ¬(a = 48 ∧ b = 1) → a ≠ 49 → μ a b = ν a b) → μ 48 1 = ν 50 1 → 0 ≤ i → i ≤ ν 50 1 → (∀ q : Nat, (q : Int) < i → μ 49 q = ν 51 q) → am_AW l 0 (fun _ => 0) 45 Q 18 [some (.inr (.inr 48)), some (.inr (.inr 50)), some (.inl i)] [] μ := fun i μ hv0 hv1 hv2 hv3 hv4 => lp18 ((ν 50 1 - i) + 1).toNat i μ hv0 hv1 hv2 hv3 hv4 (by omega)
  refine am_go (ct := fun pc => Nat.beq pc 18) am_oX3_take 300 ?_
  conv => whnf
  repeat' first
    | (refine (?_ : am_wp _ _ _ _ _ _ _ _ _ _ _ _); conv => whnf)
    | (refine (?_ : am_sw _ _ _ _); conv => whnf)
    | refine And.intro trivial ?_
    | exact trivial
    | ((with_reducible refine (?_ : am_AW _ _ _ _ _ 18 _ _ _)); refine lp18' _ _ ?_ ?_ ?_ ?_ ?_)
    | refine And.intro (fun h => absurd h (by decide)) (fun _ => ?_)
    | refine And.intro (fun _ => ?_) (fun h => absurd (by decide) h)
    | refine And.intro (fun _ => ?_) (fun _ => ?_)
    | refine And.intro ?_ ?_
  all_goals (first | decide | omega | (intro a b q1 q2; exact am_uE q1) | (rw [am_upS, if_pos ⟨rfl, rfl⟩]; exact if_neg (show ¬ am_c 6 < am_c (ν 50 1) by rw [cn]; omega)) | (intros; omega) | (trace_state; fail))
theorem x_rat_58 {l : Launch} {ν : am_N} {Q : Option am_V → am_N → Prop} (i : Int) (i0 : 0 ≤ i) (i1 : i < ν 58 1) (hn : ν 58 1 ≤ 4) (k : Q (some (.inl (ν 59 i.toNat))) ν) : am_Does l 43 [.inr (.inr 58), .inl i] ν Q := by
  refine am_Does_of (Nat.le_of_ble_eq_true rfl) (Nat.le_of_ble_eq_true rfl) (Nat.le_of_ble_eq_true rfl) ?_
  have l0 : am_c 0 = 0 := rfl
  have ci : am_c i = i := am_cR (by omega) (by omega)
  have cn : am_c (ν 58 1) = ν 58 1 := am_cR (by omega) (by omega)
  refine am_go (ct := fun _ => false) am_oX3_at 300 ?_
  conv => whnf
  repeat' first
    | (refine (?_ : am_wp _ _ _ _ _ _ _ _ _ _ _ _); conv => whnf)
    | (refine (?_ : am_sw _ _ _ _); conv => whnf)
    | refine And.intro trivial ?_
    | exact trivial
    | refine am_qe k ?_
    | refine And.intro (fun h => absurd h (by decide)) (fun _ => ?_)
    | refine And.intro (fun _ => ?_) (fun h => absurd (by decide) h)
    | refine And.intro (fun _ => ?_) (fun _ => ?_)
    | refine And.intro ?_ ?_
  all_goals (first | decide | omega | (simp only [ci, cn] at *; omega) | (rw [ci]) | (exfalso; simp only [ci, cn] at *; omega) | (trace_state; fail))
theorem x_rt_53_58 {l : Launch} {ν : am_N} {Q : Option am_V → am_N → Prop} (h0 : 0 ≤ ν 58 1) (h1 : ν 58 1 ≤ 4) (k : ∀ μ' : am_N, (∀ a b, ¬(a = 53 ∧ b = 1) → a ≠ 54 → μ' a b = ν a b) → μ' 53 1 = ν 58 1 → (∀ i : Nat, (i : Int) < ν 58 1 → μ' 54 i = ν 59 i) → Q none μ') : am_Does l 45 [.inr (.inr 53), .inr (.inr 58)] ν Q := by
  refine am_Does_of (Nat.le_of_ble_eq_true rfl) (Nat.le_of_ble_eq_true rfl) (Nat.le_of_ble_eq_true rfl) ?_
  have cn : am_c (ν 58 1) = ν 58 1 := am_cR (by omega) (by omega)
  have lc : am_c 4 = 4 := rfl
  have lp18 : ∀ (m : Nat) (i : Int) (μ : am_N) , (∀ a b, ¬(a = 53 ∧ b = 1) → a ≠ 54 → μ a b = ν a b) → μ 53 1 = ν 58 1 → 0 ≤ i → i ≤ ν 58 1 → (∀ q : Nat, (q : Int) < i → μ 54 q = ν 59 q) → ν 58 1 - i < (m : Int) → am_AW l 0 (fun _ => 0) 45 Q 18 [some (.inr (.inr 53)), some (.inr (.inr 58)), some (.inl i)] [] μ := by
    intro m
    induction m with
    | zero =>
      intro i μ hv0 hv1 hv2 hv3 hv4 hm
      exfalso
      omega
    | succ m ih =>
      intro i μ hv0 hv1 hv2 hv3 hv4 hm
      have ci : am_c i = i := am_cR (by omega) (by omega)
      have cF : am_c (μ 53 1) = ν 58 1 := by rw [hv1]; exact cn
      have eO : μ 58 1 = ν 58 1 := hv0 58 1 (by first | decide | omega | exact fun z => absurd z.1 (by decide)) (by first | decide | omega | exact fun z => absurd z.1 (by decide))
      refine am_go (ct := fun pc => Nat.beq pc 18) am_oX3_take 300 ?_
      conv => whnf
      repeat' first
        | (refine (?_ : am_wp _ _ _ _ _ _ _ _ _ _ _ _); conv => whnf)
        | (refine (?_ : am_sw _ _ _ _); conv => whnf)
        | refine And.intro trivial ?_
        | exact trivial
        | ((with_reducible refine (?_ : am_Does _ 43 _ _ _)); (have iN : i < ν 58 1 := (by simp only [ci, cF] at *; omega); refine x_rat_58 i hv2 (by rw [eO]; exact iN) (by rw [eO]; exact h1) ?_))
        | refine k _ hv0 hv1 ?_
        | ((with_reducible refine (?_ : am_AW _ _ _ _ _ 18 _ _ _)); refine ih _ _ ?_ ?_ ?_ ?_ ?_ ?_)
        | refine And.intro (fun h => absurd h (by decide)) (fun _ => ?_)
        | refine And.intro (fun _ => ?_) (fun h => absurd (by decide) h)
        | refine And.intro (fun _ => ?_) (fun _ => ?_)
        | refine And.intro ?_ ?_
      all_goals (first | decide | assumption | omega | (simp only [ci, cF] at *; omega) | (intro a b q1 q2; rw [am_upN q2]; exact hv0 a b q1 q2) | (rw [am_upN (by decide)]; exact hv1) | (intro q hq; by_cases d : (q : Int) = i; (rw [am_upS, if_pos ⟨rfl, by rw [ci]; omega⟩, hv0 _ _ (by first | decide | omega | exact fun z => absurd z.1 (by decide)) (by first | decide | omega | exact fun z => absurd z.1 (by decide)), show i.toNat = q by omega]); (rw [am_upM (by rw [ci]; omega)]; exact hv4 q (by omega))) | (intro q hq; exact hv4 q (by simp only [ci, cF] at *; omega)) | (trace_state; fail))
  have lp18' : ∀ (i : Int) (μ : am_N) , (∀ a b, ¬(a = 53 ∧ b = 1) → a ≠ 54 → μ a b = ν a b) → μ 53 1 = ν 58 1 → 0 ≤ i → i ≤ ν 58 1 → (∀ q : Nat, (q : Int) < i → μ 54 q = ν 59 q) → am_AW l 0 (fun _ => 0) 45 Q 18 [some (.inr (.inr 53)), some (.inr (.inr 58)), some (.inl i)] [] μ := fun i μ hv0 hv1 hv2 hv3 hv4 => lp18 ((ν 58 1 - i) + 1).toNat i μ hv0 hv1 hv2 hv3 hv4 (by omega)
  refine am_go (ct := fun pc => Nat.beq pc 18) am_oX3_take 300 ?_
  conv => whnf
  repeat' first
    | (refine (?_ : am_wp _ _ _ _ _ _ _ _ _ _ _ _); conv => whnf)
    | (refine (?_ : am_sw _ _ _ _); conv => whnf)
    | refine And.intro trivial ?_
    | exact trivial
    | ((with_reducible refine (?_ : am_AW _ _ _ _ _ 18 _ _ _)); refine lp18' _ _ ?_ ?_ ?_ ?_ ?_)
    | refine And.intro (fun h => absurd h (by decide)) (fun _ => ?_)
    | refine And.intro (fun _ => ?_) (fun h => absurd (by decide) h)
    | refine And.intro (fun _ => ?_) (fun _ => ?_)
    | refine And.intro ?_ ?_
  all_goals (first | decide | omega | (intro a b q1 q2; exact am_uE q1) | (rw [am_upS, if_pos ⟨rfl, rfl⟩]; exact if_neg (show ¬ am_c 4 < am_c (ν 58 1) by rw [cn]; omega)) | (intros; omega) | (trace_state; fail))
theorem x_rat_60 {l : Launch} {ν : am_N} {Q : Option am_V → am_N → Prop} (i : Int) (i0 : 0 ≤ i) (i1 : i < ν 60 1) (hn : ν 60 1 ≤ 4) (k : Q (some (.inl (ν 61 i.toNat))) ν) : am_Does l 43 [.inr (.inr 60), .inl i] ν Q := by
  refine am_Does_of (Nat.le_of_ble_eq_true rfl) (Nat.le_of_ble_eq_true rfl) (Nat.le_of_ble_eq_true rfl) ?_
  have l0 : am_c 0 = 0 := rfl
  have ci : am_c i = i := am_cR (by omega) (by omega)
  have cn : am_c (ν 60 1) = ν 60 1 := am_cR (by omega) (by omega)
  refine am_go (ct := fun _ => false) am_oX3_at 300 ?_
  conv => whnf
  repeat' first
    | (refine (?_ : am_wp _ _ _ _ _ _ _ _ _ _ _ _); conv => whnf)
    | (refine (?_ : am_sw _ _ _ _); conv => whnf)
    | refine And.intro trivial ?_
    | exact trivial
    | refine am_qe k ?_
    | refine And.intro (fun h => absurd h (by decide)) (fun _ => ?_)
    | refine And.intro (fun _ => ?_) (fun h => absurd (by decide) h)
    | refine And.intro (fun _ => ?_) (fun _ => ?_)
    | refine And.intro ?_ ?_
  all_goals (first | decide | omega | (simp only [ci, cn] at *; omega) | (rw [ci]) | (exfalso; simp only [ci, cn] at *; omega) | (trace_state; fail))
theorem x_rt_55_60 {l : Launch} {ν : am_N} {Q : Option am_V → am_N → Prop} (h0 : 0 ≤ ν 60 1) (h1 : ν 60 1 ≤ 4) (k : ∀ μ' : am_N, (∀ a b, ¬(a = 55 ∧ b = 1) → a ≠ 56 → μ' a b = ν a b) → μ' 55 1 = ν 60 1 → (∀ i : Nat, (i : Int) < ν 60 1 → μ' 56 i = ν 61 i) → Q none μ') : am_Does l 45 [.inr (.inr 55), .inr (.inr 60)] ν Q := by
  refine am_Does_of (Nat.le_of_ble_eq_true rfl) (Nat.le_of_ble_eq_true rfl) (Nat.le_of_ble_eq_true rfl) ?_
  have cn : am_c (ν 60 1) = ν 60 1 := am_cR (by omega) (by omega)
  have lc : am_c 4 = 4 := rfl
  have lp18 : ∀ (m : Nat) (i : Int) (μ : am_N) , (∀ a b, ¬(a = 55 ∧ b = 1) → a ≠ 56 → μ a b = ν a b) → μ 55 1 = ν 60 1 → 0 ≤ i → i ≤ ν 60 1 → (∀ q : Nat, (q : Int) < i → μ 56 q = ν 61 q) → ν 60 1 - i < (m : Int) → am_AW l 0 (fun _ => 0) 45 Q 18 [some (.inr (.inr 55)), some (.inr (.inr 60)), some (.inl i)] [] μ := by
    intro m
    induction m with
    | zero =>
      intro i μ hv0 hv1 hv2 hv3 hv4 hm
      exfalso
      omega
    | succ m ih =>
      intro i μ hv0 hv1 hv2 hv3 hv4 hm
      have ci : am_c i = i := am_cR (by omega) (by omega)
      have cF : am_c (μ 55 1) = ν 60 1 := by rw [hv1]; exact cn
      have eO : μ 60 1 = ν 60 1 := hv0 60 1 (by first | decide | omega | exact fun z => absurd z.1 (by decide)) (by first | decide | omega | exact fun z => absurd z.1 (by decide))
      refine am_go (ct := fun pc => Nat.beq pc 18) am_oX3_take 300 ?_
      conv => whnf
      repeat' first
        | (refine (?_ : am_wp _ _ _ _ _ _ _ _ _ _ _ _); conv => whnf)
        | (refine (?_ : am_sw _ _ _ _); conv => whnf)
        | refine And.intro trivial ?_
        | exact trivial
        | ((with_reducible refine (?_ : am_Does _ 43 _ _ _)); (have iN : i < ν 60 1 := (by simp only [ci, cF] at *; omega); refine x_rat_60 i hv2 (by rw [eO]; exact iN) (by rw [eO]; exact h1) ?_))
        | refine k _ hv0 hv1 ?_
        | ((with_reducible refine (?_ : am_AW _ _ _ _ _ 18 _ _ _)); refine ih _ _ ?_ ?_ ?_ ?_ ?_ ?_)
        | refine And.intro (fun h => absurd h (by decide)) (fun _ => ?_)
        | refine And.intro (fun _ => ?_) (fun h => absurd (by decide) h)
        | refine And.intro (fun _ => ?_) (fun _ => ?_)
        | refine And.intro ?_ ?_
      all_goals (first | decide | assumption | omega | (simp only [ci, cF] at *; omega) | (intro a b q1 q2; rw [am_upN q2]; exact hv0 a b q1 q2) | (rw [am_upN (by decide)]; exact hv1) | (intro q hq; by_cases d : (q : Int) = i; (rw [am_upS, if_pos ⟨rfl, by rw [ci]; omega⟩, hv0 _ _ (by first | decide | omega | exact fun z => absurd z.1 (by decide)) (by first | decide | omega | exact fun z => absurd z.1 (by decide)), show i.toNat = q by omega]); (rw [am_upM (by rw [ci]; omega)]; exact hv4 q (by omega))) | (intro q hq; exact hv4 q (by simp only [ci, cF] at *; omega)) | (trace_state; fail))
  have lp18' : ∀ (i : Int) (μ : am_N) , (∀ a b, ¬(a = 55 ∧ b = 1) → a ≠ 56 → μ a b = ν a b) → μ 55 1 = ν 60 1 → 0 ≤ i → i ≤ ν 60 1 → (∀ q : Nat, (q : Int) < i → μ 56 q = ν 61 q) → am_AW l 0 (fun _ => 0) 45 Q 18 [some (.inr (.inr 55)), some (.inr (.inr 60)), some (.inl i)] [] μ := fun i μ hv0 hv1 hv2 hv3 hv4 => lp18 ((ν 60 1 - i) + 1).toNat i μ hv0 hv1 hv2 hv3 hv4 (by omega)
  refine am_go (ct := fun pc => Nat.beq pc 18) am_oX3_take 300 ?_
  conv => whnf
  repeat' first
    | (refine (?_ : am_wp _ _ _ _ _ _ _ _ _ _ _ _); conv => whnf)
    | (refine (?_ : am_sw _ _ _ _); conv => whnf)
    | refine And.intro trivial ?_
    | exact trivial
    | ((with_reducible refine (?_ : am_AW _ _ _ _ _ 18 _ _ _)); refine lp18' _ _ ?_ ?_ ?_ ?_ ?_)
    | refine And.intro (fun h => absurd h (by decide)) (fun _ => ?_)
    | refine And.intro (fun _ => ?_) (fun h => absurd (by decide) h)
    | refine And.intro (fun _ => ?_) (fun _ => ?_)
    | refine And.intro ?_ ?_
  all_goals (first | decide | omega | (intro a b q1 q2; exact am_uE q1) | (rw [am_upS, if_pos ⟨rfl, rfl⟩]; exact if_neg (show ¬ am_c 4 < am_c (ν 60 1) by rw [cn]; omega)) | (intros; omega) | (trace_state; fail))
theorem x_ht_57_52 {l : Launch} {ν : am_N} {Q : Option am_V → am_N → Prop} (h0 : 0 ≤ ν 53 1 ∧ ν 53 1 ≤ 4) (h1 : 0 ≤ ν 55 1 ∧ ν 55 1 ≤ 4) (k : ∀ μ' : am_N, (∀ a b, ¬(a = 58 ∧ b = 1) → a ≠ 59 → ¬(a = 60 ∧ b = 1) → a ≠ 61 → μ' a b = ν a b) → μ' 58 1 = ν 53 1 → (∀ i : Nat, (i : Int) < ν 53 1 → μ' 59 i = ν 54 i) → μ' 60 1 = ν 55 1 → (∀ i : Nat, (i : Int) < ν 55 1 → μ' 61 i = ν 56 i) → Q none μ') : am_Does l 18 [.inr (.inr 57), .inr (.inr 52)] ν Q := by
  refine am_Does_of (Nat.le_of_ble_eq_true rfl) (Nat.le_of_ble_eq_true rfl) (Nat.le_of_ble_eq_true rfl) ?_
  refine am_go (ct := fun _ => false) am_oX1_take 300 ?_
  conv => whnf
  repeat' first
    | (refine (?_ : am_wp _ _ _ _ _ _ _ _ _ _ _ _); conv => whnf)
    | (refine (?_ : am_sw _ _ _ _); conv => whnf)
    | refine And.intro trivial ?_
    | exact trivial
    | ((with_reducible refine (?_ : am_Does _ 45 _ _ _)); first | ((with_reducible refine (?_ : am_Does _ 45 (Sum.inr (Sum.inr 58) :: Sum.inr (Sum.inr 53) :: _) _ _)); refine x_rt_58_53 h0.1 h0.2 (fun μ1 f1 n1 r1 => ?_)) | ((with_reducible refine (?_ : am_Does _ 45 (Sum.inr (Sum.inr 60) :: Sum.inr (Sum.inr 55) :: _) _ _)); refine x_rt_60_55 ?_ ?_ (fun μ2 f2 n2 r2 => ?_)) | refine x_rt_58_53 h0.1 h0.2 (fun μ1 f1 n1 r1 => ?_) | refine x_rt_60_55 ?_ ?_ (fun μ2 f2 n2 r2 => ?_))
    | refine k _ ?_ ?_ ?_ ?_ ?_
    | refine And.intro (fun h => absurd h (by decide)) (fun _ => ?_)
    | refine And.intro (fun _ => ?_) (fun h => absurd (by decide) h)
    | refine And.intro (fun _ => ?_) (fun _ => ?_)
    | refine And.intro ?_ ?_
  all_goals (first | decide | (rw [f1 55 1 (by first | decide | omega | exact fun z => absurd z.1 (by decide)) (by first | decide | omega | exact fun z => absurd z.1 (by decide))]; first | exact h1.1 | exact h1.2) | (intro a b q1 q2 q3 q4; rw [f2 a b q3 q4]; exact f1 a b q1 q2) | (rw [f2 _ _ (by first | decide | omega | exact fun z => absurd z.1 (by decide)) (by first | decide | omega | exact fun z => absurd z.1 (by decide))]; exact n1) | (intro i hi; rw [f2 _ _ (by first | decide | omega | exact fun z => absurd z.1 (by decide)) (by first | decide | omega | exact fun z => absurd z.1 (by decide))]; exact r1 i hi) | (rw [n2]; exact f1 _ _ (by first | decide | omega | exact fun z => absurd z.1 (by decide)) (by first | decide | omega | exact fun z => absurd z.1 (by decide))) | (intro i hi; rw [r2 i (by rw [f1 55 1 (by first | decide | omega | exact fun z => absurd z.1 (by decide)) (by first | decide | omega | exact fun z => absurd z.1 (by decide))]; exact hi)]; exact f1 _ _ (by first | decide | omega | exact fun z => absurd z.1 (by decide)) (by first | decide | omega | exact fun z => absurd z.1 (by decide))) | (trace_state; fail))
theorem x_ht_52_57 {l : Launch} {ν : am_N} {Q : Option am_V → am_N → Prop} (h0 : 0 ≤ ν 58 1 ∧ ν 58 1 ≤ 4) (h1 : 0 ≤ ν 60 1 ∧ ν 60 1 ≤ 4) (k : ∀ μ' : am_N, (∀ a b, ¬(a = 53 ∧ b = 1) → a ≠ 54 → ¬(a = 55 ∧ b = 1) → a ≠ 56 → μ' a b = ν a b) → μ' 53 1 = ν 58 1 → (∀ i : Nat, (i : Int) < ν 58 1 → μ' 54 i = ν 59 i) → μ' 55 1 = ν 60 1 → (∀ i : Nat, (i : Int) < ν 60 1 → μ' 56 i = ν 61 i) → Q none μ') : am_Does l 18 [.inr (.inr 52), .inr (.inr 57)] ν Q := by
  refine am_Does_of (Nat.le_of_ble_eq_true rfl) (Nat.le_of_ble_eq_true rfl) (Nat.le_of_ble_eq_true rfl) ?_
  refine am_go (ct := fun _ => false) am_oX1_take 300 ?_
  conv => whnf
  repeat' first
    | (refine (?_ : am_wp _ _ _ _ _ _ _ _ _ _ _ _); conv => whnf)
    | (refine (?_ : am_sw _ _ _ _); conv => whnf)
    | refine And.intro trivial ?_
    | exact trivial
    | ((with_reducible refine (?_ : am_Does _ 45 _ _ _)); first | ((with_reducible refine (?_ : am_Does _ 45 (Sum.inr (Sum.inr 53) :: Sum.inr (Sum.inr 58) :: _) _ _)); refine x_rt_53_58 h0.1 h0.2 (fun μ1 f1 n1 r1 => ?_)) | ((with_reducible refine (?_ : am_Does _ 45 (Sum.inr (Sum.inr 55) :: Sum.inr (Sum.inr 60) :: _) _ _)); refine x_rt_55_60 ?_ ?_ (fun μ2 f2 n2 r2 => ?_)) | refine x_rt_53_58 h0.1 h0.2 (fun μ1 f1 n1 r1 => ?_) | refine x_rt_55_60 ?_ ?_ (fun μ2 f2 n2 r2 => ?_))
    | refine k _ ?_ ?_ ?_ ?_ ?_
    | refine And.intro (fun h => absurd h (by decide)) (fun _ => ?_)
    | refine And.intro (fun _ => ?_) (fun h => absurd (by decide) h)
    | refine And.intro (fun _ => ?_) (fun _ => ?_)
    | refine And.intro ?_ ?_
  all_goals (first | decide | (rw [f1 60 1 (by first | decide | omega | exact fun z => absurd z.1 (by decide)) (by first | decide | omega | exact fun z => absurd z.1 (by decide))]; first | exact h1.1 | exact h1.2) | (intro a b q1 q2 q3 q4; rw [f2 a b q3 q4]; exact f1 a b q1 q2) | (rw [f2 _ _ (by first | decide | omega | exact fun z => absurd z.1 (by decide)) (by first | decide | omega | exact fun z => absurd z.1 (by decide))]; exact n1) | (intro i hi; rw [f2 _ _ (by first | decide | omega | exact fun z => absurd z.1 (by decide)) (by first | decide | omega | exact fun z => absurd z.1 (by decide))]; exact r1 i hi) | (rw [n2]; exact f1 _ _ (by first | decide | omega | exact fun z => absurd z.1 (by decide)) (by first | decide | omega | exact fun z => absurd z.1 (by decide))) | (intro i hi; rw [r2 i (by rw [f1 60 1 (by first | decide | omega | exact fun z => absurd z.1 (by decide)) (by first | decide | omega | exact fun z => absurd z.1 (by decide))]; exact hi)]; exact f1 _ _ (by first | decide | omega | exact fun z => absurd z.1 (by decide)) (by first | decide | omega | exact fun z => absurd z.1 (by decide))) | (trace_state; fail))
theorem x_refuse {l : Launch} {ν : am_N} {Q : Option am_V → am_N → Prop} (w : Int) (hw : w = -1 ∨ w = -2 ∨ w = -3 ∨ w = -4 ∨ w = -6) (k : ∀ μ' : am_N, (∀ a b, a ≠ 78 → μ' a b = ν a b) → Q (some (.inl w)) μ') : am_Does l 113 [.inr (.inr 0), .inl w] ν Q := by
  refine am_Does_of (Nat.le_of_ble_eq_true rfl) (Nat.le_of_ble_eq_true rfl) (Nat.le_of_ble_eq_true rfl) ?_
  have cw : am_c (-w) = -w := am_cR (by omega) (by omega)
  have l7 : am_c 7 = 7 := rfl
  refine am_go (ct := fun _ => false) am_oX6_refuse 300 ?_
  conv => whnf
  repeat' first
    | (refine (?_ : am_wp _ _ _ _ _ _ _ _ _ _ _ _); conv => whnf)
    | (refine (?_ : am_sw _ _ _ _); conv => whnf)
    | refine And.intro trivial ?_
    | exact trivial
    | refine k _ ?_
    | refine And.intro (fun h => absurd h (by decide)) (fun _ => ?_)
    | refine And.intro (fun _ => ?_) (fun h => absurd (by decide) h)
    | refine And.intro (fun _ => ?_) (fun _ => ?_)
    | refine And.intro ?_ ?_
  all_goals (first | decide | omega | exact fun _ _ _ => rfl | (intro a b h; exact am_upN h) | (simp only [cw] at *; omega) | (trace_state; fail))
theorem x_has1 {l : Launch} {ν : am_N} {Q : Option am_V → am_N → Prop} (i : Int) (f0 : 0 ≤ ν 1 4) (f1 : ν 1 4 ≤ 4) (k1 : 0 ≤ am_c i → am_c i < ν 1 4 → Q (some (.inl 1)) ν) (k0 : (am_c i < 0 ∨ ν 1 4 ≤ am_c i) → Q (some (.inl 0)) ν) : am_Does l 1 [.inr (.inr 1), .inl i] ν Q := by
  refine am_Does_of (Nat.le_of_ble_eq_true rfl) (Nat.le_of_ble_eq_true rfl) (Nat.le_of_ble_eq_true rfl) ?_
  have c4 : am_c (ν 1 4) = ν 1 4 := am_cR (by omega) (by omega)
  have l0 : am_c 0 = 0 := rfl
  refine am_go (ct := fun _ => false) am_oX0_has 300 ?_
  conv => whnf
  repeat' first
    | (refine (?_ : am_wp _ _ _ _ _ _ _ _ _ _ _ _); conv => whnf)
    | (refine (?_ : am_sw _ _ _ _); conv => whnf)
    | refine And.intro trivial ?_
    | exact trivial
    | refine k1 ?_ ?_
    | refine k0 ?_
    | refine And.intro (fun h => absurd h (by decide)) (fun _ => ?_)
    | refine And.intro (fun _ => ?_) (fun h => absurd (by decide) h)
    | refine And.intro (fun _ => ?_) (fun _ => ?_)
    | refine And.intro ?_ ?_
  all_goals (first | omega | (simp only [c4] at *; omega) | (trace_state; fail))
theorem s_start {l : Launch} {ν : am_N} {Q : Option am_V → am_N → Prop} (i v : Int) (ci : am_c i = i) (cv : am_c v = v) (f0 : 0 ≤ ν 1 4) (f1 : ν 1 4 ≤ 4) (k1 : (0 ≤ i ∧ i < ν 1 4) → (0 ≤ v ∧ v ≤ 99) → Q (some (.inl (ν 6 i.toNat))) (am_up (am_up ν 6 i.toNat v) 62 3 0)) (k0 : ∀ (r : Int) (μ' : am_N), ((¬(0 ≤ i ∧ i < ν 1 4) ∧ r = -1) ∨ ((0 ≤ i ∧ i < ν 1 4) ∧ v < 0 ∧ r = -4) ∨ ((0 ≤ i ∧ i < ν 1 4) ∧ 99 < v ∧ r = -6)) → (∀ a b, a ≠ 78 → μ' a b = ν a b) → Q (some (.inl r)) μ') : am_Does l 64 [.inr (.inr 0), .inl i, .inl v] ν Q := by
  refine am_Does_of (Nat.le_of_ble_eq_true rfl) (Nat.le_of_ble_eq_true rfl) (Nat.le_of_ble_eq_true rfl) ?_
  have l0 : am_c 0 = 0 := rfl
  have l1 : am_c 1 = 1 := rfl
  have l2 : am_c 2 = 2 := rfl
  have l3 : am_c 3 = 3 := rfl
  have l4 : am_c 4 = 4 := rfl
  have l5 : am_c 5 = 5 := rfl
  have l7 : am_c 7 = 7 := rfl
  have l9 : am_c 9 = 9 := rfl
  have l10 : am_c 10 = 10 := rfl
  have l20 : am_c 20 = 20 := rfl
  have l96 : am_c 96 = 96 := rfl
  have l99 : am_c 99 = 99 := rfl
  have l200 : am_c 200 = 200 := rfl
  have l255 : am_c 255 = 255 := rfl
  have l999 : am_c 999 = 999 := rfl
  have c4 : am_c (ν 1 4) = ν 1 4 := am_cR (by omega) (by omega)
  have k1' := fun (x : Int) (j : Nat) (ej : j = i.toNat) (ex : x = ν 6 i.toNat) a b => (show Q (some (.inl x)) (am_up (am_up ν 6 j v) 62 3 0) by rw [ej, ex]; exact k1 a b)
  refine am_go (ct := fun _ => false) am_oX6_start 300 ?_
  conv => whnf
  repeat' first
    | (refine (?_ : am_wp _ _ _ _ _ _ _ _ _ _ _ _); conv => whnf)
    | (refine (?_ : am_sw _ _ _ _); conv => whnf)
    | refine And.intro trivial ?_
    | exact trivial
    | ((with_reducible refine (?_ : am_Does _ 1 _ _ _)); refine x_has1 _ f0 f1 (fun y0 y1 => ?_) (fun y => ?_))
    | ((with_reducible refine (?_ : am_Does _ 113 _ _ _)); refine x_refuse _ ?_ (fun μr fr => ?_))
    | refine k0 _ _ ?_ fr
    | ((with_reducible refine (?_ : am_Does _ 49 _ _ _)); refine v_drop_X4 ?_)
    | refine k1' _ _ ?_ ?_ ?_ ?_
    | refine And.intro (fun h => absurd h (by decide)) (fun _ => ?_)
    | refine And.intro (fun _ => ?_) (fun h => absurd (by decide) h)
    | refine And.intro (fun _ => ?_) (fun _ => ?_)
    | refine And.intro ?_ ?_
  all_goals (first | decide | omega | (rw [ci]) | (constructor <;> omega) | (trace_state; fail))
theorem s_kind {l : Launch} {ν : am_N} {Q : Option am_V → am_N → Prop} (i q g : Int) (ci : am_c i = i) (cq : am_c q = q) (cg : am_c g = g) (f0 : 0 ≤ ν 1 4) (f1 : ν 1 4 ≤ 4) (k1 : (0 ≤ i ∧ i < ν 1 4) → (0 ≤ q ∧ q ≤ 5) → (0 ≤ g ∧ g ≤ 9) → Q (some (.inl (10 * ν 2 i.toNat + ν 3 i.toNat))) (am_up (am_up (am_up ν 2 i.toNat q) 3 i.toNat g) 62 3 0)) (k0 : ∀ (r : Int) (μ' : am_N), ((¬(0 ≤ i ∧ i < ν 1 4) ∧ r = -1) ∨ ((0 ≤ i ∧ i < ν 1 4) ∧ ¬(0 ≤ q ∧ q ≤ 5) ∧ r = -2) ∨ ((0 ≤ i ∧ i < ν 1 4) ∧ (0 ≤ q ∧ q ≤ 5) ∧ g < 0 ∧ r = -4) ∨ ((0 ≤ i ∧ i < ν 1 4) ∧ (0 ≤ q ∧ q ≤ 5) ∧ 9 < g ∧ r = -6)) → (∀ a b, a ≠ 78 → μ' a b = ν a b) → Q (some (.inl r)) μ') : am_Does l 65 [.inr (.inr 0), .inl i, .inl q, .inl g] ν Q := by
  refine am_Does_of (Nat.le_of_ble_eq_true rfl) (Nat.le_of_ble_eq_true rfl) (Nat.le_of_ble_eq_true rfl) ?_
  have l0 : am_c 0 = 0 := rfl
  have l1 : am_c 1 = 1 := rfl
  have l2 : am_c 2 = 2 := rfl
  have l3 : am_c 3 = 3 := rfl
  have l4 : am_c 4 = 4 := rfl
  have l5 : am_c 5 = 5 := rfl
  have l7 : am_c 7 = 7 := rfl
  have l9 : am_c 9 = 9 := rfl
  have l10 : am_c 10 = 10 := rfl
  have l20 : am_c 20 = 20 := rfl
  have l96 : am_c 96 = 96 := rfl
  have l99 : am_c 99 = 99 := rfl
  have l200 : am_c 200 = 200 := rfl
  have l255 : am_c 255 = 255 := rfl
  have l999 : am_c 999 = 999 := rfl
  have c4 : am_c (ν 1 4) = ν 1 4 := am_cR (by omega) (by omega)
  have k1' := fun (x : Int) (j j2 : Nat) (ej : j = i.toNat) (ej2 : j2 = i.toNat) (ex : x = 10 * ν 2 i.toNat + ν 3 i.toNat) a b c => (show Q (some (.inl x)) (am_up (am_up (am_up ν 2 j q) 3 j2 g) 62 3 0) by rw [ej, ej2, ex]; exact k1 a b c)
  refine am_go (ct := fun _ => false) am_oX6_kind 300 ?_
  conv => whnf
  repeat' first
    | (refine (?_ : am_wp _ _ _ _ _ _ _ _ _ _ _ _); conv => whnf)
    | (refine (?_ : am_sw _ _ _ _); conv => whnf)
    | refine And.intro trivial ?_
    | exact trivial
    | ((with_reducible refine (?_ : am_Does _ 1 _ _ _)); refine x_has1 _ f0 f1 (fun y0 y1 => ?_) (fun y => ?_))
    | ((with_reducible refine (?_ : am_Does _ 113 _ _ _)); refine x_refuse _ ?_ (fun μr fr => ?_))
    | refine k0 _ _ ?_ fr
    | ((with_reducible refine (?_ : am_Does _ 49 _ _ _)); refine v_drop_X4 ?_)
    | refine k1' _ _ _ ?_ ?_ ?_ ?_ ?_ ?_
    | refine And.intro (fun h => absurd h (by decide)) (fun _ => ?_)
    | refine And.intro (fun _ => ?_) (fun h => absurd (by decide) h)
    | refine And.intro (fun _ => ?_) (fun _ => ?_)
    | refine And.intro ?_ ?_
  all_goals (first | decide | omega | (rw [ci]) | (constructor <;> omega) | (trace_state; fail))
/-- what set() sets: the number's place -/
def fp_sl (w : Int) : Nat := if w = 0 then 0 else if w = 1 then 2 else if w = 2 then 3 else 1
/-- within bounds -/
def fp_sb (w v : Int) : Prop := if w = 0 then 20 ≤ v ∧ v ≤ 200 else if w = 1 then 0 ≤ v ∧ v ≤ 4 else if w = 2 then 1 ≤ v ∧ v ≤ 9 else 0 ≤ v ∧ v ≤ 999
theorem x_setting {l : Launch} {ν : am_N} {Q : Option am_V → am_N → Prop} (w : Int) (cw : am_c w = w) (k : Q (some (.inl (ν 1 (fp_sl w)))) ν) : am_Does l 6 [.inr (.inr 1), .inl w] ν Q := by
  refine am_Does_of (Nat.le_of_ble_eq_true rfl) (Nat.le_of_ble_eq_true rfl) (Nat.le_of_ble_eq_true rfl) ?_
  have l1 : am_c 1 = 1 := rfl
  have l2 : am_c 2 = 2 := rfl
  refine am_go (ct := fun _ => false) am_oX0_setting 300 ?_
  conv => whnf
  repeat' first
    | (refine (?_ : am_wp _ _ _ _ _ _ _ _ _ _ _ _); conv => whnf)
    | (refine (?_ : am_sw _ _ _ _); conv => whnf)
    | refine And.intro trivial ?_
    | exact trivial
    | refine am_qe k ?_
    | refine And.intro (fun h => absurd h (by decide)) (fun _ => ?_)
    | refine And.intro (fun _ => ?_) (fun h => absurd (by decide) h)
    | refine And.intro (fun _ => ?_) (fun _ => ?_)
    | refine And.intro ?_ ?_
  all_goals (first | (unfold fp_sl; rw [if_pos (by omega)]) | (unfold fp_sl; rw [if_neg (by omega), if_pos (by omega)]) | (unfold fp_sl; rw [if_neg (by omega), if_neg (by omega), if_pos (by omega)]) | (unfold fp_sl; rw [if_neg (by omega), if_neg (by omega), if_neg (by omega)]) | (trace_state; fail))
theorem x_become {l : Launch} {ν : am_N} {Q : Option am_V → am_N → Prop} (w v : Int) (cw : am_c w = w) (k : Q none (am_up ν 1 (fp_sl w) v)) : am_Does l 7 [.inr (.inr 1), .inl w, .inl v] ν Q := by
  refine am_Does_of (Nat.le_of_ble_eq_true rfl) (Nat.le_of_ble_eq_true rfl) (Nat.le_of_ble_eq_true rfl) ?_
  have kk := fun (j : Nat) (e : j = fp_sl w) => (show Q none (am_up ν 1 j v) by rw [e]; exact k)
  refine am_go (ct := fun _ => false) am_oX0_become 300 ?_
  conv => whnf
  repeat' first
    | (refine (?_ : am_wp _ _ _ _ _ _ _ _ _ _ _ _); conv => whnf)
    | (refine (?_ : am_sw _ _ _ _); conv => whnf)
    | refine And.intro trivial ?_
    | exact trivial
    | refine kk _ ?_
    | refine And.intro (fun h => absurd h (by decide)) (fun _ => ?_)
    | refine And.intro (fun _ => ?_) (fun h => absurd (by decide) h)
    | refine And.intro (fun _ => ?_) (fun _ => ?_)
    | refine And.intro ?_ ?_
  all_goals (first | (unfold fp_sl; rw [if_pos (by omega)]) | (unfold fp_sl; rw [if_neg (by omega), if_pos (by omega)]) | (unfold fp_sl; rw [if_neg (by omega), if_neg (by omega), if_pos (by omega)]) | (unfold fp_sl; rw [if_neg (by omega), if_neg (by omega), if_neg (by omega)]) | (trace_state; fail))
theorem x_leastOf {l : Launch} {μ : am_N} {Q : Option am_V → am_N → Prop} (w : Int) (cw : am_c w = w) (k : ∀ r : Int, r = (if w = 0 then 20 else if w = 2 then 1 else 0) → Q (some (.inl r)) μ) : am_Does l 119 [.inl w] μ Q := by
  refine am_Does_of (Nat.le_of_ble_eq_true rfl) (Nat.le_of_ble_eq_true rfl) (Nat.le_of_ble_eq_true rfl) ?_
  have l2 : am_c 2 = 2 := rfl
  refine am_go (ct := fun _ => false) am_oX6_leastOf 300 ?_
  conv => whnf
  repeat' first
    | (refine (?_ : am_wp _ _ _ _ _ _ _ _ _ _ _ _); conv => whnf)
    | (refine (?_ : am_sw _ _ _ _); conv => whnf)
    | refine And.intro trivial ?_
    | exact trivial
    | refine k _ ?_
    | refine And.intro (fun h => absurd h (by decide)) (fun _ => ?_)
    | refine And.intro (fun _ => ?_) (fun h => absurd (by decide) h)
    | refine And.intro (fun _ => ?_) (fun _ => ?_)
    | refine And.intro ?_ ?_
  all_goals (first | (rw [if_pos (by omega)]) | (rw [if_neg (by omega), if_pos (by omega)]) | (rw [if_neg (by omega), if_neg (by omega)]) | (trace_state; fail))
theorem x_mostOf {l : Launch} {μ : am_N} {Q : Option am_V → am_N → Prop} (w : Int) (cw : am_c w = w) (k : ∀ r : Int, r = (if w = 0 then 200 else if w = 1 then 4 else if w = 2 then 9 else 999) → Q (some (.inl r)) μ) : am_Does l 120 [.inl w] μ Q := by
  refine am_Does_of (Nat.le_of_ble_eq_true rfl) (Nat.le_of_ble_eq_true rfl) (Nat.le_of_ble_eq_true rfl) ?_
  refine am_go (ct := fun _ => false) am_oX6_mostOf 300 ?_
  conv => whnf
  repeat' first
    | (refine (?_ : am_wp _ _ _ _ _ _ _ _ _ _ _ _); conv => whnf)
    | (refine (?_ : am_sw _ _ _ _); conv => whnf)
    | refine And.intro trivial ?_
    | exact trivial
    | refine k _ ?_
    | refine And.intro (fun h => absurd h (by decide)) (fun _ => ?_)
    | refine And.intro (fun _ => ?_) (fun h => absurd (by decide) h)
    | refine And.intro (fun _ => ?_) (fun _ => ?_)
    | refine And.intro ?_ ?_
  all_goals (first | (rw [if_pos (by omega)]) | (rw [if_neg (by omega), if_pos (by omega)]) | (rw [if_neg (by omega), if_neg (by omega), if_pos (by omega)]) | (rw [if_neg (by omega), if_neg (by omega), if_neg (by omega)]) | (trace_state; fail))
theorem s_set_0 {l : Launch} {ν : am_N} {Q : Option am_V → am_N → Prop} (w v : Int) (cw : am_c w = w) (cv : am_c v = v) (hW : w = 0) (k1 : (0 ≤ w ∧ w ≤ 3) → fp_sb w v → Q (some (.inl (ν 1 (fp_sl w)))) (am_up (am_up ν 1 (fp_sl w) v) 62 3 0)) (k0 : ¬((0 ≤ w ∧ w ≤ 3) ∧ fp_sb w v) → ∀ (r : Int) (μ' : am_N), (∀ a b, a ≠ 78 → μ' a b = ν a b) → Q (some (.inl r)) μ') : am_Does l 66 [.inr (.inr 0), .inl w, .inl v] ν Q := by
  refine am_Does_of (Nat.le_of_ble_eq_true rfl) (Nat.le_of_ble_eq_true rfl) (Nat.le_of_ble_eq_true rfl) ?_
  have l0 : am_c 0 = 0 := rfl
  have l1 : am_c 1 = 1 := rfl
  have l2 : am_c 2 = 2 := rfl
  have l3 : am_c 3 = 3 := rfl
  have l4 : am_c 4 = 4 := rfl
  have l5 : am_c 5 = 5 := rfl
  have l7 : am_c 7 = 7 := rfl
  have l9 : am_c 9 = 9 := rfl
  have l10 : am_c 10 = 10 := rfl
  have l20 : am_c 20 = 20 := rfl
  have l96 : am_c 96 = 96 := rfl
  have l99 : am_c 99 = 99 := rfl
  have l200 : am_c 200 = 200 := rfl
  have l255 : am_c 255 = 255 := rfl
  have l999 : am_c 999 = 999 := rfl
  subst hW
  have kk : 20 ≤ v → v ≤ 200 → Q (some (.inl (ν 1 (fp_sl 0)))) (am_up (am_up ν 1 (fp_sl 0) v) 62 3 0) := fun a b => k1 (by decide) (show 20 ≤ v ∧ v ≤ 200 from ⟨a, b⟩)
  have kn : ¬(20 ≤ v ∧ v ≤ 200) → ∀ (r : Int) (μ' : am_N), (∀ a b, a ≠ 78 → μ' a b = ν a b) → Q (some (.inl r)) μ' := fun h => k0 (fun z => h z.2)
  refine am_go (ct := fun _ => false) am_oX6_set 300 ?_
  conv => whnf
  repeat' first
    | (refine (?_ : am_wp _ _ _ _ _ _ _ _ _ _ _ _); conv => whnf)
    | (refine (?_ : am_sw _ _ _ _); conv => whnf)
    | refine And.intro trivial ?_
    | exact trivial
    | ((with_reducible refine (?_ : am_Does _ 113 _ _ _)); refine x_refuse _ ?_ (fun μr fr => ?_))
    | ((with_reducible refine (?_ : am_Does _ 119 _ _ _)); (refine x_leastOf _ cw (fun a ea => ?_); have ea2 : a = 20 := ea; have ca : am_c a = 20 := (by rw [ea2]; rfl)))
    | ((with_reducible refine (?_ : am_Does _ 120 _ _ _)); (refine x_mostOf _ cw (fun b eb => ?_); have eb2 : b = 200 := eb; have cb : am_c b = 200 := (by rw [eb2]; rfl)))
    | ((with_reducible refine (?_ : am_Does _ 6 _ _ _)); refine x_setting _ cw ?_)
    | ((with_reducible refine (?_ : am_Does _ 7 _ _ _)); refine x_become _ _ cw ?_)
    | ((with_reducible refine (?_ : am_Does _ 49 _ _ _)); refine v_drop_X4 ?_)
    | ((with_reducible refine (?_ : Q _ _)); exact kn (by omega) _ _ fr)
    | ((with_reducible refine (?_ : Q _ _)); exact kk (by omega) (by omega))
    | ((with_reducible refine (?_ : _ ∧ _)); refine And.intro (fun h => absurd h (by omega)) (fun _ => ?_))
    | ((with_reducible refine (?_ : _ ∧ _)); refine And.intro (fun _ => ?_) (fun h => absurd h (by omega)))
    | refine And.intro (fun h => absurd h (by decide)) (fun _ => ?_)
    | refine And.intro (fun _ => ?_) (fun h => absurd (by decide) h)
    | refine And.intro (fun _ => ?_) (fun _ => ?_)
    | refine And.intro ?_ ?_
  all_goals (first | decide | omega | (trace_state; fail))
theorem s_set_1 {l : Launch} {ν : am_N} {Q : Option am_V → am_N → Prop} (w v : Int) (cw : am_c w = w) (cv : am_c v = v) (hW : w = 1) (k1 : (0 ≤ w ∧ w ≤ 3) → fp_sb w v → Q (some (.inl (ν 1 (fp_sl w)))) (am_up (am_up ν 1 (fp_sl w) v) 62 3 0)) (k0 : ¬((0 ≤ w ∧ w ≤ 3) ∧ fp_sb w v) → ∀ (r : Int) (μ' : am_N), (∀ a b, a ≠ 78 → μ' a b = ν a b) → Q (some (.inl r)) μ') : am_Does l 66 [.inr (.inr 0), .inl w, .inl v] ν Q := by
  refine am_Does_of (Nat.le_of_ble_eq_true rfl) (Nat.le_of_ble_eq_true rfl) (Nat.le_of_ble_eq_true rfl) ?_
  have l0 : am_c 0 = 0 := rfl
  have l1 : am_c 1 = 1 := rfl
  have l2 : am_c 2 = 2 := rfl
  have l3 : am_c 3 = 3 := rfl
  have l4 : am_c 4 = 4 := rfl
  have l5 : am_c 5 = 5 := rfl
  have l7 : am_c 7 = 7 := rfl
  have l9 : am_c 9 = 9 := rfl
  have l10 : am_c 10 = 10 := rfl
  have l20 : am_c 20 = 20 := rfl
  have l96 : am_c 96 = 96 := rfl
  have l99 : am_c 99 = 99 := rfl
  have l200 : am_c 200 = 200 := rfl
  have l255 : am_c 255 = 255 := rfl
  have l999 : am_c 999 = 999 := rfl
  subst hW
  have kk : 0 ≤ v → v ≤ 4 → Q (some (.inl (ν 1 (fp_sl 1)))) (am_up (am_up ν 1 (fp_sl 1) v) 62 3 0) := fun a b => k1 (by decide) (show 0 ≤ v ∧ v ≤ 4 from ⟨a, b⟩)
  have kn : ¬(0 ≤ v ∧ v ≤ 4) → ∀ (r : Int) (μ' : am_N), (∀ a b, a ≠ 78 → μ' a b = ν a b) → Q (some (.inl r)) μ' := fun h => k0 (fun z => h z.2)
  refine am_go (ct := fun _ => false) am_oX6_set 300 ?_
  conv => whnf
  repeat' first
    | (refine (?_ : am_wp _ _ _ _ _ _ _ _ _ _ _ _); conv => whnf)
    | (refine (?_ : am_sw _ _ _ _); conv => whnf)
    | refine And.intro trivial ?_
    | exact trivial
    | ((with_reducible refine (?_ : am_Does _ 113 _ _ _)); refine x_refuse _ ?_ (fun μr fr => ?_))
    | ((with_reducible refine (?_ : am_Does _ 119 _ _ _)); (refine x_leastOf _ cw (fun a ea => ?_); have ea2 : a = 0 := ea; have ca : am_c a = 0 := (by rw [ea2]; rfl)))
    | ((with_reducible refine (?_ : am_Does _ 120 _ _ _)); (refine x_mostOf _ cw (fun b eb => ?_); have eb2 : b = 4 := eb; have cb : am_c b = 4 := (by rw [eb2]; rfl)))
    | ((with_reducible refine (?_ : am_Does _ 6 _ _ _)); refine x_setting _ cw ?_)
    | ((with_reducible refine (?_ : am_Does _ 7 _ _ _)); refine x_become _ _ cw ?_)
    | ((with_reducible refine (?_ : am_Does _ 49 _ _ _)); refine v_drop_X4 ?_)
    | ((with_reducible refine (?_ : Q _ _)); exact kn (by omega) _ _ fr)
    | ((with_reducible refine (?_ : Q _ _)); exact kk (by omega) (by omega))
    | ((with_reducible refine (?_ : _ ∧ _)); refine And.intro (fun h => absurd h (by omega)) (fun _ => ?_))
    | ((with_reducible refine (?_ : _ ∧ _)); refine And.intro (fun _ => ?_) (fun h => absurd h (by omega)))
    | refine And.intro (fun h => absurd h (by decide)) (fun _ => ?_)
    | refine And.intro (fun _ => ?_) (fun h => absurd (by decide) h)
    | refine And.intro (fun _ => ?_) (fun _ => ?_)
    | refine And.intro ?_ ?_
  all_goals (first | decide | omega | (trace_state; fail))
theorem s_set_2 {l : Launch} {ν : am_N} {Q : Option am_V → am_N → Prop} (w v : Int) (cw : am_c w = w) (cv : am_c v = v) (hW : w = 2) (k1 : (0 ≤ w ∧ w ≤ 3) → fp_sb w v → Q (some (.inl (ν 1 (fp_sl w)))) (am_up (am_up ν 1 (fp_sl w) v) 62 3 0)) (k0 : ¬((0 ≤ w ∧ w ≤ 3) ∧ fp_sb w v) → ∀ (r : Int) (μ' : am_N), (∀ a b, a ≠ 78 → μ' a b = ν a b) → Q (some (.inl r)) μ') : am_Does l 66 [.inr (.inr 0), .inl w, .inl v] ν Q := by
  refine am_Does_of (Nat.le_of_ble_eq_true rfl) (Nat.le_of_ble_eq_true rfl) (Nat.le_of_ble_eq_true rfl) ?_
  have l0 : am_c 0 = 0 := rfl
  have l1 : am_c 1 = 1 := rfl
  have l2 : am_c 2 = 2 := rfl
  have l3 : am_c 3 = 3 := rfl
  have l4 : am_c 4 = 4 := rfl
  have l5 : am_c 5 = 5 := rfl
  have l7 : am_c 7 = 7 := rfl
  have l9 : am_c 9 = 9 := rfl
  have l10 : am_c 10 = 10 := rfl
  have l20 : am_c 20 = 20 := rfl
  have l96 : am_c 96 = 96 := rfl
  have l99 : am_c 99 = 99 := rfl
  have l200 : am_c 200 = 200 := rfl
  have l255 : am_c 255 = 255 := rfl
  have l999 : am_c 999 = 999 := rfl
  subst hW
  have kk : 1 ≤ v → v ≤ 9 → Q (some (.inl (ν 1 (fp_sl 2)))) (am_up (am_up ν 1 (fp_sl 2) v) 62 3 0) := fun a b => k1 (by decide) (show 1 ≤ v ∧ v ≤ 9 from ⟨a, b⟩)
  have kn : ¬(1 ≤ v ∧ v ≤ 9) → ∀ (r : Int) (μ' : am_N), (∀ a b, a ≠ 78 → μ' a b = ν a b) → Q (some (.inl r)) μ' := fun h => k0 (fun z => h z.2)
  refine am_go (ct := fun _ => false) am_oX6_set 300 ?_
  conv => whnf
  repeat' first
    | (refine (?_ : am_wp _ _ _ _ _ _ _ _ _ _ _ _); conv => whnf)
    | (refine (?_ : am_sw _ _ _ _); conv => whnf)
    | refine And.intro trivial ?_
    | exact trivial
    | ((with_reducible refine (?_ : am_Does _ 113 _ _ _)); refine x_refuse _ ?_ (fun μr fr => ?_))
    | ((with_reducible refine (?_ : am_Does _ 119 _ _ _)); (refine x_leastOf _ cw (fun a ea => ?_); have ea2 : a = 1 := ea; have ca : am_c a = 1 := (by rw [ea2]; rfl)))
    | ((with_reducible refine (?_ : am_Does _ 120 _ _ _)); (refine x_mostOf _ cw (fun b eb => ?_); have eb2 : b = 9 := eb; have cb : am_c b = 9 := (by rw [eb2]; rfl)))
    | ((with_reducible refine (?_ : am_Does _ 6 _ _ _)); refine x_setting _ cw ?_)
    | ((with_reducible refine (?_ : am_Does _ 7 _ _ _)); refine x_become _ _ cw ?_)
    | ((with_reducible refine (?_ : am_Does _ 49 _ _ _)); refine v_drop_X4 ?_)
    | ((with_reducible refine (?_ : Q _ _)); exact kn (by omega) _ _ fr)
    | ((with_reducible refine (?_ : Q _ _)); exact kk (by omega) (by omega))
    | ((with_reducible refine (?_ : _ ∧ _)); refine And.intro (fun h => absurd h (by omega)) (fun _ => ?_))
    | ((with_reducible refine (?_ : _ ∧ _)); refine And.intro (fun _ => ?_) (fun h => absurd h (by omega)))
    | refine And.intro (fun h => absurd h (by decide)) (fun _ => ?_)
    | refine And.intro (fun _ => ?_) (fun h => absurd (by decide) h)
    | refine And.intro (fun _ => ?_) (fun _ => ?_)
    | refine And.intro ?_ ?_
  all_goals (first | decide | omega | (trace_state; fail))
theorem s_set_3 {l : Launch} {ν : am_N} {Q : Option am_V → am_N → Prop} (w v : Int) (cw : am_c w = w) (cv : am_c v = v) (hW : w = 3) (k1 : (0 ≤ w ∧ w ≤ 3) → fp_sb w v → Q (some (.inl (ν 1 (fp_sl w)))) (am_up (am_up ν 1 (fp_sl w) v) 62 3 0)) (k0 : ¬((0 ≤ w ∧ w ≤ 3) ∧ fp_sb w v) → ∀ (r : Int) (μ' : am_N), (∀ a b, a ≠ 78 → μ' a b = ν a b) → Q (some (.inl r)) μ') : am_Does l 66 [.inr (.inr 0), .inl w, .inl v] ν Q := by
  refine am_Does_of (Nat.le_of_ble_eq_true rfl) (Nat.le_of_ble_eq_true rfl) (Nat.le_of_ble_eq_true rfl) ?_
  have l0 : am_c 0 = 0 := rfl
  have l1 : am_c 1 = 1 := rfl
  have l2 : am_c 2 = 2 := rfl
  have l3 : am_c 3 = 3 := rfl
  have l4 : am_c 4 = 4 := rfl
  have l5 : am_c 5 = 5 := rfl
  have l7 : am_c 7 = 7 := rfl
  have l9 : am_c 9 = 9 := rfl
  have l10 : am_c 10 = 10 := rfl
  have l20 : am_c 20 = 20 := rfl
  have l96 : am_c 96 = 96 := rfl
  have l99 : am_c 99 = 99 := rfl
  have l200 : am_c 200 = 200 := rfl
  have l255 : am_c 255 = 255 := rfl
  have l999 : am_c 999 = 999 := rfl
  subst hW
  have kk : 0 ≤ v → v ≤ 999 → Q (some (.inl (ν 1 (fp_sl 3)))) (am_up (am_up ν 1 (fp_sl 3) v) 62 3 0) := fun a b => k1 (by decide) (show 0 ≤ v ∧ v ≤ 999 from ⟨a, b⟩)
  have kn : ¬(0 ≤ v ∧ v ≤ 999) → ∀ (r : Int) (μ' : am_N), (∀ a b, a ≠ 78 → μ' a b = ν a b) → Q (some (.inl r)) μ' := fun h => k0 (fun z => h z.2)
  refine am_go (ct := fun _ => false) am_oX6_set 300 ?_
  conv => whnf
  repeat' first
    | (refine (?_ : am_wp _ _ _ _ _ _ _ _ _ _ _ _); conv => whnf)
    | (refine (?_ : am_sw _ _ _ _); conv => whnf)
    | refine And.intro trivial ?_
    | exact trivial
    | ((with_reducible refine (?_ : am_Does _ 113 _ _ _)); refine x_refuse _ ?_ (fun μr fr => ?_))
    | ((with_reducible refine (?_ : am_Does _ 119 _ _ _)); (refine x_leastOf _ cw (fun a ea => ?_); have ea2 : a = 0 := ea; have ca : am_c a = 0 := (by rw [ea2]; rfl)))
    | ((with_reducible refine (?_ : am_Does _ 120 _ _ _)); (refine x_mostOf _ cw (fun b eb => ?_); have eb2 : b = 999 := eb; have cb : am_c b = 999 := (by rw [eb2]; rfl)))
    | ((with_reducible refine (?_ : am_Does _ 6 _ _ _)); refine x_setting _ cw ?_)
    | ((with_reducible refine (?_ : am_Does _ 7 _ _ _)); refine x_become _ _ cw ?_)
    | ((with_reducible refine (?_ : am_Does _ 49 _ _ _)); refine v_drop_X4 ?_)
    | ((with_reducible refine (?_ : Q _ _)); exact kn (by omega) _ _ fr)
    | ((with_reducible refine (?_ : Q _ _)); exact kk (by omega) (by omega))
    | ((with_reducible refine (?_ : _ ∧ _)); refine And.intro (fun h => absurd h (by omega)) (fun _ => ?_))
    | ((with_reducible refine (?_ : _ ∧ _)); refine And.intro (fun _ => ?_) (fun h => absurd h (by omega)))
    | refine And.intro (fun h => absurd h (by decide)) (fun _ => ?_)
    | refine And.intro (fun _ => ?_) (fun h => absurd (by decide) h)
    | refine And.intro (fun _ => ?_) (fun _ => ?_)
    | refine And.intro ?_ ?_
  all_goals (first | decide | omega | (trace_state; fail))
theorem s_set_9 {l : Launch} {ν : am_N} {Q : Option am_V → am_N → Prop} (w v : Int) (cw : am_c w = w) (cv : am_c v = v) (hW : ¬(0 ≤ w ∧ w ≤ 3)) (k1 : (0 ≤ w ∧ w ≤ 3) → fp_sb w v → Q (some (.inl (ν 1 (fp_sl w)))) (am_up (am_up ν 1 (fp_sl w) v) 62 3 0)) (k0 : ¬((0 ≤ w ∧ w ≤ 3) ∧ fp_sb w v) → ∀ (r : Int) (μ' : am_N), (∀ a b, a ≠ 78 → μ' a b = ν a b) → Q (some (.inl r)) μ') : am_Does l 66 [.inr (.inr 0), .inl w, .inl v] ν Q := by
  refine am_Does_of (Nat.le_of_ble_eq_true rfl) (Nat.le_of_ble_eq_true rfl) (Nat.le_of_ble_eq_true rfl) ?_
  have l0 : am_c 0 = 0 := rfl
  have l1 : am_c 1 = 1 := rfl
  have l2 : am_c 2 = 2 := rfl
  have l3 : am_c 3 = 3 := rfl
  have l4 : am_c 4 = 4 := rfl
  have l5 : am_c 5 = 5 := rfl
  have l7 : am_c 7 = 7 := rfl
  have l9 : am_c 9 = 9 := rfl
  have l10 : am_c 10 = 10 := rfl
  have l20 : am_c 20 = 20 := rfl
  have l96 : am_c 96 = 96 := rfl
  have l99 : am_c 99 = 99 := rfl
  have l200 : am_c 200 = 200 := rfl
  have l255 : am_c 255 = 255 := rfl
  have l999 : am_c 999 = 999 := rfl
  have kn := k0 (fun z => hW z.1)
  refine am_go (ct := fun _ => false) am_oX6_set 300 ?_
  conv => whnf
  repeat' first
    | (refine (?_ : am_wp _ _ _ _ _ _ _ _ _ _ _ _); conv => whnf)
    | (refine (?_ : am_sw _ _ _ _); conv => whnf)
    | refine And.intro trivial ?_
    | exact trivial
    | ((with_reducible refine (?_ : am_Does _ 113 _ _ _)); refine x_refuse _ ?_ (fun μr fr => ?_))
    | ((with_reducible refine (?_ : am_Does _ 119 _ _ _)); (refine x_leastOf _ cw (fun a ea => ?_); have ea2 : a = 0 := ea; have ca : am_c a = 0 := (by rw [ea2]; rfl)))
    | ((with_reducible refine (?_ : am_Does _ 120 _ _ _)); (refine x_mostOf _ cw (fun b eb => ?_); have eb2 : b = 0 := eb; have cb : am_c b = 0 := (by rw [eb2]; rfl)))
    | ((with_reducible refine (?_ : am_Does _ 6 _ _ _)); refine x_setting _ cw ?_)
    | ((with_reducible refine (?_ : am_Does _ 7 _ _ _)); refine x_become _ _ cw ?_)
    | ((with_reducible refine (?_ : am_Does _ 49 _ _ _)); refine v_drop_X4 ?_)
    | exact kn _ _ fr
    | exact kk (by omega) (by omega)
    | ((with_reducible refine (?_ : _ ∧ _)); refine And.intro (fun h => absurd h (by omega)) (fun _ => ?_))
    | ((with_reducible refine (?_ : _ ∧ _)); refine And.intro (fun _ => ?_) (fun h => absurd h (by omega)))
    | refine And.intro (fun h => absurd h (by decide)) (fun _ => ?_)
    | refine And.intro (fun _ => ?_) (fun h => absurd (by decide) h)
    | refine And.intro (fun _ => ?_) (fun _ => ?_)
    | refine And.intro ?_ ?_
  all_goals (first | decide | omega | (trace_state; fail))
theorem s_set {l : Launch} {ν : am_N} {Q : Option am_V → am_N → Prop} (w v : Int) (cw : am_c w = w) (cv : am_c v = v) (k1 : (0 ≤ w ∧ w ≤ 3) → fp_sb w v → Q (some (.inl (ν 1 (fp_sl w)))) (am_up (am_up ν 1 (fp_sl w) v) 62 3 0)) (k0 : ¬((0 ≤ w ∧ w ≤ 3) ∧ fp_sb w v) → ∀ (r : Int) (μ' : am_N), (∀ a b, a ≠ 78 → μ' a b = ν a b) → Q (some (.inl r)) μ') : am_Does l 66 [.inr (.inr 0), .inl w, .inl v] ν Q := by
  by_cases h : 0 ≤ w ∧ w ≤ 3
  · rcases (show w = 0 ∨ w = 1 ∨ w = 2 ∨ w = 3 by omega) with e | e | e | e
    · exact s_set_0 w v cw cv e k1 k0
    · exact s_set_1 w v cw cv e k1 k0
    · exact s_set_2 w v cw cv e k1 k0
    · exact s_set_3 w v cw cv e k1 k0
  · exact s_set_9 w v cw cv h k1 k0
theorem s_run {l : Launch} {ν : am_N} {Q : Option am_V → am_N → Prop} (hw : fp_fw 999 (fv ν 1)) (h34 : sx_3 ν 34) (h62 : 0 ≤ ν 62 3 ∧ ν 62 3 ≤ 6) (k1 : 1 ≤ ν 1 4 → ν 1 1 < 999 → ∀ μ' : am_N, (∀ a b, a ≠ 6 → a ≠ 7 → ¬(a = 1 ∧ b = 1) → ¬(62 ≤ a ∧ a ≤ 77) → a ≠ 33 → a ≠ 34 → ¬(a = 29 ∧ b = 0) → μ' a b = ν a b) → fv μ' 1 = fp_rn (fv ν 1) → sx_3 μ' 34 → μ' 29 0 = ν 1 4 → μ' 62 3 = (if ν 62 3 < 6 then ν 62 3 + 1 else 6) → (∀ r : Nat, r < 4 → μ' (64 + (μ' 62 3 - 1).toNat) r = ν 6 r ∧ μ' (71 + (μ' 62 3 - 1).toNat) r = ν 7 r) → μ' 77 (μ' 62 3 - 1).toNat = ν 1 1 → (∀ j : Nat, (j : Int) + 1 < μ' 62 3 → (∀ r : Nat, r < 4 → μ' (64 + (μ' 62 3 - 2 - j).toNat) r = ν (64 + (ν 62 3 - 1 - j).toNat) r ∧ μ' (71 + (μ' 62 3 - 2 - j).toNat) r = ν (71 + (ν 62 3 - 1 - j).toNat) r) ∧ μ' 77 (μ' 62 3 - 2 - j).toNat = ν 77 (ν 62 3 - 1 - j).toNat) → Q (some (.inl (fp_f (fv ν 1)))) μ') (k0 : ∀ (r : Int) (μ' : am_N), ((ν 1 4 = 0 ∧ r = -3) ∨ (1 ≤ ν 1 4 ∧ ν 1 1 = 999 ∧ r = -6)) → (∀ a b, a ≠ 78 → μ' a b = ν a b) → Q (some (.inl r)) μ') : am_Does l 67 [.inr (.inr 0)] ν Q := by
  refine am_Does_of (Nat.le_of_ble_eq_true rfl) (Nat.le_of_ble_eq_true rfl) (Nat.le_of_ble_eq_true rfl) ?_
  have l0 : am_c 0 = 0 := rfl
  have l1 : am_c 1 = 1 := rfl
  have l2 : am_c 2 = 2 := rfl
  have l3 : am_c 3 = 3 := rfl
  have l4 : am_c 4 = 4 := rfl
  have l5 : am_c 5 = 5 := rfl
  have l7 : am_c 7 = 7 := rfl
  have l9 : am_c 9 = 9 := rfl
  have l10 : am_c 10 = 10 := rfl
  have l20 : am_c 20 = 20 := rfl
  have l96 : am_c 96 = 96 := rfl
  have l99 : am_c 99 = 99 := rfl
  have l200 : am_c 200 = 200 := rfl
  have l255 : am_c 255 = 255 := rfl
  have l999 : am_c 999 = 999 := rfl
  obtain ⟨hf, -, -, -, -, hweek, -⟩ := fw_C hw (by decide)
  have f0 := hf.1.1
  have f1 := hf.1.2
  have c4 : am_c (ν 1 4) = ν 1 4 := am_cR (by omega) (by omega)
  have c1w : am_c (ν 1 1) = ν 1 1 := am_cR (by omega) (by omega)
  refine am_go (ct := fun _ => false) am_oX6_run 300 ?_
  conv => whnf
  repeat' first
    | (refine (?_ : am_wp _ _ _ _ _ _ _ _ _ _ _ _); conv => whnf)
    | (refine (?_ : am_sw _ _ _ _); conv => whnf)
    | refine And.intro trivial ?_
    | exact trivial
    | ((with_reducible refine (?_ : am_Does _ 113 _ _ _)); refine x_refuse _ ?_ (fun μr fr => ?_))
    | refine k0 _ _ ?_ fr
    | ((with_reducible refine (?_ : am_Does _ 46 _ _ _)); (refine x_keep h62.1 h62.2 (fun μ1 g0 g1 g2 g3 g4 => ?_); have e1 : fv μ1 1 = fv ν 1 := fp_ct_e (fun b _ => g0 1 b (by omega)) (fun a b q1 q2 _ => g0 (1 + a) b (by omega))))
    | (rw [e1]; exact hw)
    | ((with_reducible refine (?_ : am_Does _ 34 _ _ _)); refine x_goOn_29_1 999 ?_ (by decide) ?_ ?_ (fun μ2 u0 u1 u2 u3 u4 u5 => ?_))
    | (rw [e1]; refine k1 ?_ ?_ _ ?_ ?_ u2 ?_ ?_ ?_ ?_ ?_)
    | refine And.intro (fun h => absurd h (by decide)) (fun _ => ?_)
    | refine And.intro (fun _ => ?_) (fun h => absurd (by decide) h)
    | refine And.intro (fun _ => ?_) (fun _ => ?_)
    | refine And.intro ?_ ?_
  all_goals (first | decide | omega | exact Or.inl ⟨by simp only [c4, c1w] at *; omega, rfl⟩ | exact Or.inr ⟨by simp only [c4, c1w] at *; omega, by simp only [c4, c1w] at *; omega, rfl⟩ | (simp only [c4, c1w] at *; omega) | (rw [g0 1 4 (by omega)]; simp only [c4] at *; omega) | (intro x hx; rw [g0 34 x (by omega)]; exact h34 x hx) | (intro a b q1 q2 q3 q4 q5 q6 q7; rw [u0 a b q1 q2 q3 q5 q6 q7]; exact g0 a b q4) | (rw [u1, e1]) | (rw [u3]; exact g0 1 4 (by omega)) | (rw [u0 62 3 (by first | decide | omega | exact fun z => absurd z.1 (by decide)) (by first | decide | omega | exact fun z => absurd z.1 (by decide)) (by first | decide | omega | exact fun z => absurd z.1 (by decide)) (by first | decide | omega | exact fun z => absurd z.1 (by decide)) (by first | decide | omega | exact fun z => absurd z.1 (by decide)) (by first | decide | omega | exact fun z => absurd z.1 (by decide))]; exact g1) | (rw [u0 62 3 (by first | decide | omega | exact fun z => absurd z.1 (by decide)) (by first | decide | omega | exact fun z => absurd z.1 (by decide)) (by first | decide | omega | exact fun z => absurd z.1 (by decide)) (by first | decide | omega | exact fun z => absurd z.1 (by decide)) (by first | decide | omega | exact fun z => absurd z.1 (by decide)) (by first | decide | omega | exact fun z => absurd z.1 (by decide))]; intro r hr; rw [u0 _ _ (by omega) (by omega) (by omega) (by omega) (by omega) (by omega), u0 _ _ (by omega) (by omega) (by omega) (by omega) (by omega) (by omega)]; exact g2 r hr) | (rw [u0 62 3 (by first | decide | omega | exact fun z => absurd z.1 (by decide)) (by first | decide | omega | exact fun z => absurd z.1 (by decide)) (by first | decide | omega | exact fun z => absurd z.1 (by decide)) (by first | decide | omega | exact fun z => absurd z.1 (by decide)) (by first | decide | omega | exact fun z => absurd z.1 (by decide)) (by first | decide | omega | exact fun z => absurd z.1 (by decide)), u0 77 _ (by first | decide | omega | exact fun z => absurd z.1 (by decide)) (by first | decide | omega | exact fun z => absurd z.1 (by decide)) (by first | decide | omega | exact fun z => absurd z.1 (by decide)) (by first | decide | omega | exact fun z => absurd z.1 (by decide)) (by first | decide | omega | exact fun z => absurd z.1 (by decide)) (by first | decide | omega | exact fun z => absurd z.1 (by decide))]; exact g3) | (rw [u0 62 3 (by first | decide | omega | exact fun z => absurd z.1 (by decide)) (by first | decide | omega | exact fun z => absurd z.1 (by decide)) (by first | decide | omega | exact fun z => absurd z.1 (by decide)) (by first | decide | omega | exact fun z => absurd z.1 (by decide)) (by first | decide | omega | exact fun z => absurd z.1 (by decide)) (by first | decide | omega | exact fun z => absurd z.1 (by decide))]; intro j hj; obtain ⟨w1, w2⟩ := g4 j hj; refine ⟨fun r hr => ?_, ?_⟩; (rw [u0 _ _ (by omega) (by omega) (by omega) (by omega) (by omega) (by omega), u0 _ _ (by omega) (by omega) (by omega) (by omega) (by omega) (by omega)]; exact w1 r hr); (rw [u0 _ _ (by omega) (by omega) (by omega) (by omega) (by omega) (by omega)]; exact w2)) | (trace_state; fail))
theorem s_back {l : Launch} {ν : am_N} {Q : Option am_V → am_N → Prop} (h62 : 0 ≤ ν 62 3 ∧ ν 62 3 ≤ 6) (k1 : 0 < ν 62 3 → ∀ μ' : am_N, (∀ a b, a ≠ 6 → a ≠ 7 → ¬(a = 1 ∧ b = 1) → ¬(a = 62 ∧ b = 3) → μ' a b = ν a b) → μ' 62 3 = ν 62 3 - 1 → μ' 1 1 = ν 77 (ν 62 3 - 1).toNat → (∀ r : Nat, r < 4 → μ' 6 r = ν (64 + (ν 62 3 - 1).toNat) r ∧ μ' 7 r = ν (71 + (ν 62 3 - 1).toNat) r) → Q (some (.inl (ν 62 3 - 1))) μ') (k0 : ν 62 3 = 0 → ∀ μ' : am_N, (∀ a b, a ≠ 78 → μ' a b = ν a b) → Q (some (.inl (-3))) μ') : am_Does l 90 [.inr (.inr 0)] ν Q := by
  refine am_Does_of (Nat.le_of_ble_eq_true rfl) (Nat.le_of_ble_eq_true rfl) (Nat.le_of_ble_eq_true rfl) ?_
  have l0 : am_c 0 = 0 := rfl
  have l1 : am_c 1 = 1 := rfl
  have l2 : am_c 2 = 2 := rfl
  have l3 : am_c 3 = 3 := rfl
  have l4 : am_c 4 = 4 := rfl
  have l5 : am_c 5 = 5 := rfl
  have l7 : am_c 7 = 7 := rfl
  have l9 : am_c 9 = 9 := rfl
  have l10 : am_c 10 = 10 := rfl
  have l20 : am_c 20 = 20 := rfl
  have l96 : am_c 96 = 96 := rfl
  have l99 : am_c 99 = 99 := rfl
  have l200 : am_c 200 = 200 := rfl
  have l255 : am_c 255 = 255 := rfl
  have l999 : am_c 999 = 999 := rfl
  have c62 : am_c (ν 62 3) = ν 62 3 := am_cR (by omega) (by omega)
  refine am_go (ct := fun _ => false) am_oX6_back 300 ?_
  conv => whnf
  repeat' first
    | (refine (?_ : am_wp _ _ _ _ _ _ _ _ _ _ _ _); conv => whnf)
    | (refine (?_ : am_sw _ _ _ _); conv => whnf)
    | refine And.intro trivial ?_
    | exact trivial
    | ((with_reducible refine (?_ : am_Does _ 113 _ _ _)); refine x_refuse _ ?_ (fun μr fr => ?_))
    | refine k0 ?_ _ fr
    | ((with_reducible refine (?_ : am_Does _ 48 _ _ _)); (refine x_bring ?_ ?_ (fun μ1 g0 g1 g2 g3 => ?_)))
    | ((with_reducible refine (?_ : Q _ _)); exact k1 (by simp only [c62] at *; omega) _ g0 g1 g2 g3)
    | refine And.intro (fun h => absurd h (by decide)) (fun _ => ?_)
    | refine And.intro (fun _ => ?_) (fun h => absurd (by decide) h)
    | refine And.intro (fun _ => ?_) (fun _ => ?_)
    | refine And.intro ?_ ?_
  all_goals (first | decide | omega | (simp only [c62] at *; omega) | (trace_state; fail))
theorem s_image {l : Launch} {ν : am_N} {Q : Option am_V → am_N → Prop} (hb : (0 ≤ ν 48 1 ∧ ν 48 1 ≤ 6) ∧ (0 ≤ ν 53 1 ∧ ν 53 1 ≤ 4) ∧ (0 ≤ ν 55 1 ∧ ν 55 1 ≤ 4)) (k : ∀ μ' : am_N, (∀ a b, ¬(22 ≤ a ∧ a ≤ 28) → ¬(50 ≤ a ∧ a ≤ 51) → ¬(57 ≤ a ∧ a ≤ 61) → ¬(a = 0 ∧ b = 15) → μ' a b = ν a b) → fv μ' 22 = fv ν 1 → μ' 0 15 = 1 → μ' 50 1 = ν 48 1 → (∀ i : Nat, (i : Int) < ν 48 1 → μ' 51 i = ν 49 i) → μ' 58 1 = ν 53 1 → (∀ i : Nat, (i : Int) < ν 53 1 → μ' 59 i = ν 54 i) → μ' 60 1 = ν 55 1 → (∀ i : Nat, (i : Int) < ν 55 1 → μ' 61 i = ν 56 i) → Q (some (.inl (ν 1 1))) μ') : am_Does l 110 [.inr (.inr 0)] ν Q := by
  refine am_Does_of (Nat.le_of_ble_eq_true rfl) (Nat.le_of_ble_eq_true rfl) (Nat.le_of_ble_eq_true rfl) ?_
  refine am_go (ct := fun _ => false) am_oX6_image 300 ?_
  conv => whnf
  repeat' first
    | (refine (?_ : am_wp _ _ _ _ _ _ _ _ _ _ _ _); conv => whnf)
    | (refine (?_ : am_sw _ _ _ _); conv => whnf)
    | refine And.intro trivial ?_
    | exact trivial
    | ((with_reducible refine (?_ : am_Does _ 2 _ _ _)); (refine x_take_22_1 (fun μ1 f1 s1 r1 => ?_)))
    | ((with_reducible refine (?_ : am_Does _ 45 _ _ _)); (refine x_rt_50_48 ?_ ?_ (fun μ2 f2 n2 r2 => ?_)))
    | ((with_reducible refine (?_ : am_Does _ 18 _ _ _)); (refine x_ht_57_52 ?_ ?_ (fun μ3 f3 n3 r3 n4 r4 => ?_)))
    | (refine am_qe (k _ ?_ ?_ ?_ ?_ ?_ ?_ ?_ ?_ ?_) ?_)
    | refine And.intro (fun h => absurd h (by decide)) (fun _ => ?_)
    | refine And.intro (fun _ => ?_) (fun h => absurd (by decide) h)
    | refine And.intro (fun _ => ?_) (fun _ => ?_)
    | refine And.intro ?_ ?_
  all_goals (first | decide | (rw [f1 48 1 (by omega)]; first | exact hb.1.1 | exact hb.1.2) | (rw [f2 53 1 (by first | decide | omega | exact fun z => absurd z.1 (by decide)) (by first | decide | omega | exact fun z => absurd z.1 (by decide)), f1 53 1 (by omega)]; first | exact hb.2.1 | exact hb.2.1.1 | exact hb.2.1.2) | (rw [f2 55 1 (by first | decide | omega | exact fun z => absurd z.1 (by decide)) (by first | decide | omega | exact fun z => absurd z.1 (by decide)), f1 55 1 (by omega)]; first | exact hb.2.2 | exact hb.2.2.1 | exact hb.2.2.2) | (intro a b q1 q2 q3 q4; rw [am_uE q4, f3 a b (by omega) (by omega) (by omega) (by omega), f2 a b (by omega) (by omega)]; exact f1 a b (by omega)) | (refine fp_ct_e (fun b hb => ?_) (fun a b q1 q2 hb => ?_); (show am_up μ3 0 15 1 22 b = ν 1 b; rw [am_upN (by decide), f3 22 b (by omega) (by omega) (by omega) (by omega), f2 22 b (by omega) (by omega)]; exact s1 b hb); (show am_up μ3 0 15 1 (22 + a) b = ν (1 + a) b; rw [am_uE (by omega), f3 _ b (by omega) (by omega) (by omega) (by omega), f2 _ b (by omega) (by omega)]; exact r1 a q1 q2 b hb)) | exact if_pos ⟨rfl, rfl⟩ | (rw [am_upN (by decide), f3 50 1 (by omega) (by omega) (by omega) (by omega), n2, f1 48 1 (by omega)]) | (intro i hi; rw [am_upN (by decide), f3 51 i (by omega) (by omega) (by omega) (by omega), r2 i (by rw [f1 48 1 (by omega)]; exact hi), f1 49 i (by omega)]) | (rw [am_upN (by decide), n3, f2 53 1 (by first | decide | omega | exact fun z => absurd z.1 (by decide)) (by first | decide | omega | exact fun z => absurd z.1 (by decide)), f1 53 1 (by omega)]) | (intro i hi; rw [am_upN (by decide), r3 i (by rw [f2 53 1 (by first | decide | omega | exact fun z => absurd z.1 (by decide)) (by first | decide | omega | exact fun z => absurd z.1 (by decide)), f1 53 1 (by omega)]; exact hi), f2 54 i (by first | decide | omega | exact fun z => absurd z.1 (by decide)) (by first | decide | omega | exact fun z => absurd z.1 (by decide)), f1 54 i (by omega)]) | (rw [am_upN (by decide), n4, f2 55 1 (by first | decide | omega | exact fun z => absurd z.1 (by decide)) (by first | decide | omega | exact fun z => absurd z.1 (by decide)), f1 55 1 (by omega)]) | (intro i hi; rw [am_upN (by decide), r4 i (by rw [f2 55 1 (by first | decide | omega | exact fun z => absurd z.1 (by decide)) (by first | decide | omega | exact fun z => absurd z.1 (by decide)), f1 55 1 (by omega)]; exact hi), f2 56 i (by first | decide | omega | exact fun z => absurd z.1 (by decide)) (by first | decide | omega | exact fun z => absurd z.1 (by decide)), f1 56 i (by omega)]) | (rw [am_upN (by decide), f3 1 1 (by omega) (by omega) (by omega) (by omega), f2 1 1 (by omega) (by omega), f1 1 1 (by omega)]) | (trace_state; fail))
theorem s_restore {l : Launch} {ν : am_N} {Q : Option am_V → am_N → Prop} (hb : (0 ≤ ν 50 1 ∧ ν 50 1 ≤ 6) ∧ (0 ≤ ν 58 1 ∧ ν 58 1 ≤ 4) ∧ (0 ≤ ν 60 1 ∧ ν 60 1 ≤ 4)) (c15 : am_c (ν 0 15) = ν 0 15) (k1 : ν 0 15 ≠ 0 → ∀ μ' : am_N, (∀ a b, ¬(1 ≤ a ∧ a ≤ 7) → ¬(48 ≤ a ∧ a ≤ 49) → ¬(52 ≤ a ∧ a ≤ 56) → ¬(a = 62 ∧ b = 3) → μ' a b = ν a b) → fv μ' 1 = fv ν 22 → μ' 62 3 = 0 → μ' 48 1 = ν 50 1 → (∀ i : Nat, (i : Int) < ν 50 1 → μ' 49 i = ν 51 i) → μ' 53 1 = ν 58 1 → (∀ i : Nat, (i : Int) < ν 58 1 → μ' 54 i = ν 59 i) → μ' 55 1 = ν 60 1 → (∀ i : Nat, (i : Int) < ν 60 1 → μ' 56 i = ν 61 i) → Q (some (.inl (ν 22 1))) μ') (k0 : ν 0 15 = 0 → ∀ μ' : am_N, (∀ a b, a ≠ 78 → μ' a b = ν a b) → Q (some (.inl (-3))) μ') : am_Does l 111 [.inr (.inr 0)] ν Q := by
  refine am_Does_of (Nat.le_of_ble_eq_true rfl) (Nat.le_of_ble_eq_true rfl) (Nat.le_of_ble_eq_true rfl) ?_
  refine am_go (ct := fun _ => false) am_oX6_restore 300 ?_
  conv => whnf
  repeat' first
    | (refine (?_ : am_wp _ _ _ _ _ _ _ _ _ _ _ _); conv => whnf)
    | (refine (?_ : am_sw _ _ _ _); conv => whnf)
    | refine And.intro trivial ?_
    | exact trivial
    | ((with_reducible refine (?_ : am_Does _ 113 _ _ _)); refine x_refuse _ ?_ (fun μr fr => ?_))
    | refine k0 ?_ _ fr
    | ((with_reducible refine (?_ : am_Does _ 2 _ _ _)); (refine x_take_1_22 (fun μ1 f1 s1 r1 => ?_)))
    | ((with_reducible refine (?_ : am_Does _ 45 _ _ _)); (refine x_rt_48_50 ?_ ?_ (fun μ2 f2 n2 r2 => ?_)))
    | ((with_reducible refine (?_ : am_Does _ 18 _ _ _)); (refine x_ht_52_57 ?_ ?_ (fun μ3 f3 n3 r3 n4 r4 => ?_)))
    | ((with_reducible refine (?_ : am_Does _ 49 _ _ _)); refine v_drop_X4 ?_)
    | (refine am_qe (k1 ?_ _ ?_ ?_ ?_ ?_ ?_ ?_ ?_ ?_ ?_) ?_)
    | refine And.intro (fun h => absurd h (by decide)) (fun _ => ?_)
    | refine And.intro (fun _ => ?_) (fun h => absurd (by decide) h)
    | refine And.intro (fun _ => ?_) (fun _ => ?_)
    | refine And.intro ?_ ?_
  all_goals (first | decide | (rw [c15] at *; assumption) | (intro z; rw [c15] at *; contradiction) | (simp only [c15] at *; omega) | (rw [f1 50 1 (by omega)]; first | exact hb.1.1 | exact hb.1.2) | (rw [f2 58 1 (by first | decide | omega | exact fun z => absurd z.1 (by decide)) (by first | decide | omega | exact fun z => absurd z.1 (by decide)), f1 58 1 (by omega)]; first | exact hb.2.1 | exact hb.2.1.1 | exact hb.2.1.2) | (rw [f2 60 1 (by first | decide | omega | exact fun z => absurd z.1 (by decide)) (by first | decide | omega | exact fun z => absurd z.1 (by decide)), f1 60 1 (by omega)]; first | exact hb.2.2 | exact hb.2.2.1 | exact hb.2.2.2) | (intro a b q1 q2 q3 q4; rw [am_uE q4, f3 a b (by omega) (by omega) (by omega) (by omega), f2 a b (by omega) (by omega)]; exact f1 a b (by omega)) | (refine fp_ct_e (fun b hb => ?_) (fun a b q1 q2 hb => ?_); (show am_up μ3 62 3 0 1 b = ν 22 b; rw [am_upN (by decide), f3 1 b (by omega) (by omega) (by omega) (by omega), f2 1 b (by omega) (by omega)]; exact s1 b hb); (show am_up μ3 62 3 0 (1 + a) b = ν (22 + a) b; rw [am_uE (by omega), f3 _ b (by omega) (by omega) (by omega) (by omega), f2 _ b (by omega) (by omega)]; exact r1 a q1 q2 b hb)) | exact if_pos ⟨rfl, rfl⟩ | (rw [am_upN (by decide), f3 48 1 (by omega) (by omega) (by omega) (by omega), n2, f1 50 1 (by omega)]) | (intro i hi; rw [am_upN (by decide), f3 49 i (by omega) (by omega) (by omega) (by omega), r2 i (by rw [f1 50 1 (by omega)]; exact hi), f1 51 i (by omega)]) | (rw [am_upN (by decide), n3, f2 58 1 (by first | decide | omega | exact fun z => absurd z.1 (by decide)) (by first | decide | omega | exact fun z => absurd z.1 (by decide)), f1 58 1 (by omega)]) | (intro i hi; rw [am_upN (by decide), r3 i (by rw [f2 58 1 (by first | decide | omega | exact fun z => absurd z.1 (by decide)) (by first | decide | omega | exact fun z => absurd z.1 (by decide)), f1 58 1 (by omega)]; exact hi), f2 59 i (by first | decide | omega | exact fun z => absurd z.1 (by decide)) (by first | decide | omega | exact fun z => absurd z.1 (by decide)), f1 59 i (by omega)]) | (rw [am_upN (by decide), n4, f2 60 1 (by first | decide | omega | exact fun z => absurd z.1 (by decide)) (by first | decide | omega | exact fun z => absurd z.1 (by decide)), f1 60 1 (by omega)]) | (intro i hi; rw [am_upN (by decide), r4 i (by rw [f2 60 1 (by first | decide | omega | exact fun z => absurd z.1 (by decide)) (by first | decide | omega | exact fun z => absurd z.1 (by decide)), f1 60 1 (by omega)]; exact hi), f2 61 i (by first | decide | omega | exact fun z => absurd z.1 (by decide)) (by first | decide | omega | exact fun z => absurd z.1 (by decide)), f1 61 i (by omega)]) | (rw [am_upN (by decide), f3 1 1 (by omega) (by omega) (by omega) (by omega), f2 1 1 (by omega) (by omega)]; exact s1 1 (by decide)) | (trace_state; fail))
theorem s_feed {l : Launch} {ν : am_N} {Q : Option am_V → am_N → Prop} (v : Int) (cv : am_c v = v) (hS : sx ν ν) (k1 : (0 ≤ v ∧ v ≤ 255) → ν 36 1 < 96 → Q (some (.inl (ν 36 1 + 1))) (am_up (am_up ν 36 1 (ν 36 1 + 1)) 37 (ν 36 1).toNat v)) (k0 : ∀ (r : Int) (μ' : am_N), ((v < 0 ∧ r = -4) ∨ (255 < v ∧ r = -6) ∨ ((0 ≤ v ∧ v ≤ 255) ∧ ν 36 1 = 96 ∧ r = -6)) → (∀ a b, a ≠ 78 → μ' a b = ν a b) → Q (some (.inl r)) μ') : am_Does l 61 [.inr (.inr 0), .inl v] ν Q := by
  refine am_Does_of (Nat.le_of_ble_eq_true rfl) (Nat.le_of_ble_eq_true rfl) (Nat.le_of_ble_eq_true rfl) ?_
  have l0 : am_c 0 = 0 := rfl
  have l1 : am_c 1 = 1 := rfl
  have l2 : am_c 2 = 2 := rfl
  have l3 : am_c 3 = 3 := rfl
  have l4 : am_c 4 = 4 := rfl
  have l5 : am_c 5 = 5 := rfl
  have l7 : am_c 7 = 7 := rfl
  have l9 : am_c 9 = 9 := rfl
  have l10 : am_c 10 = 10 := rfl
  have l20 : am_c 20 = 20 := rfl
  have l96 : am_c 96 = 96 := rfl
  have l99 : am_c 99 = 99 := rfl
  have l200 : am_c 200 = 200 := rfl
  have l255 : am_c 255 = 255 := rfl
  have l999 : am_c 999 = 999 := rfl
  refine am_go (ct := fun _ => false) am_oX6_feed 300 ?_
  conv => whnf
  repeat' first
    | (refine (?_ : am_wp _ _ _ _ _ _ _ _ _ _ _ _); conv => whnf)
    | (refine (?_ : am_sw _ _ _ _); conv => whnf)
    | refine And.intro trivial ?_
    | exact trivial
    | ((with_reducible refine (?_ : am_Does _ 113 _ _ _)); refine x_refuse _ ?_ (fun μr fr => ?_))
    | refine k0 _ _ ?_ fr
    | ((with_reducible refine (?_ : am_Does _ 41 _ _ _)); refine v_full_X3_36 (ν := ν) hS (fun w => ?_) (fun w => ?_))
    | ((with_reducible refine (?_ : am_Does _ 42 _ _ _)); refine v_putE_X3_36 _ hS w ?_)
    | ((with_reducible refine (?_ : Q _ _)); exact k1 (by omega) w)
    | refine And.intro (fun h => absurd h (by decide)) (fun _ => ?_)
    | refine And.intro (fun _ => ?_) (fun h => absurd (by decide) h)
    | refine And.intro (fun _ => ?_) (fun _ => ?_)
    | refine And.intro ?_ ?_
  all_goals (first | decide | omega | (trace_state; fail))
/-! public changes, exactly: the model -/
theorem x_no {l : Launch} {ν : am_N} {Q : Option am_V → am_N → Prop} (w : Int) (hw : w = -1 ∨ w = -2 ∨ w = -3 ∨ w = -4 ∨ w = -6) (k : ∀ μ' : am_N, (∀ a b, a ≠ 84 → μ' a b = ν a b) → Q (some (.inl w)) μ') : am_Does l 140 [.inr (.inr 83), .inl w] ν Q := by
  refine am_Does_of (Nat.le_of_ble_eq_true rfl) (Nat.le_of_ble_eq_true rfl) (Nat.le_of_ble_eq_true rfl) ?_
  have cw : am_c (-w) = -w := am_cR (by omega) (by omega)
  refine am_go (ct := fun _ => false) am_oX7_no 300 ?_
  conv => whnf
  repeat' first
    | (refine (?_ : am_wp _ _ _ _ _ _ _ _ _ _ _ _); conv => whnf)
    | (refine (?_ : am_sw _ _ _ _); conv => whnf)
    | refine And.intro trivial ?_
    | exact trivial
    | refine k _ ?_
    | refine And.intro (fun h => absurd h (by decide)) (fun _ => ?_)
    | refine And.intro (fun _ => ?_) (fun h => absurd (by decide) h)
    | refine And.intro (fun _ => ?_) (fun _ => ?_)
    | refine And.intro ?_ ?_
  all_goals (first | decide | omega | (intro a b h; exact am_upN h) | (simp only [cw] at *; omega) | (trace_state; fail))
theorem x_bound {l : Launch} {μ : am_N} {Q : Option am_V → am_N → Prop} (v a b : Int) (cv : am_c v = v) (ca : am_c a = a) (cb : am_c b = b) (k1 : v < a → Q (some (.inl (-4))) μ) (k2 : b < v → Q (some (.inl (-6))) μ) (k3 : a ≤ v → v ≤ b → Q (some (.inl 0)) μ) : am_Does l 144 [.inl v, .inl a, .inl b] μ Q := by
  refine am_Does_of (Nat.le_of_ble_eq_true rfl) (Nat.le_of_ble_eq_true rfl) (Nat.le_of_ble_eq_true rfl) ?_
  refine am_go (ct := fun _ => false) am_oX7_bound 300 ?_
  conv => whnf
  repeat' first
    | (refine (?_ : am_wp _ _ _ _ _ _ _ _ _ _ _ _); conv => whnf)
    | (refine (?_ : am_sw _ _ _ _); conv => whnf)
    | refine And.intro trivial ?_
    | exact trivial
    | refine k1 ?_
    | refine k2 ?_
    | refine k3 ?_ ?_
    | refine And.intro (fun h => absurd h (by decide)) (fun _ => ?_)
    | refine And.intro (fun _ => ?_) (fun h => absurd (by decide) h)
    | refine And.intro (fun _ => ?_) (fun _ => ?_)
    | refine And.intro ?_ ?_
  all_goals (first | omega | (trace_state; fail))
theorem n_start {l : Launch} {ν : am_N} {Q : Option am_V → am_N → Prop} (i v : Int) (ci : am_c i = i) (cv : am_c v = v) (f0 : 0 ≤ ν 83 14) (f1 : ν 83 14 ≤ 4) (k1 : (0 ≤ i ∧ i < ν 83 14) → (0 ≤ v ∧ v ≤ 99) → Q (some (.inl (ν 89 i.toNat))) (am_up (am_up ν 89 i.toNat v) 83 33 0)) (k0 : ∀ (r : Int) (μ' : am_N), ((¬(0 ≤ i ∧ i < ν 83 14) ∧ r = -1) ∨ ((0 ≤ i ∧ i < ν 83 14) ∧ v < 0 ∧ r = -4) ∨ ((0 ≤ i ∧ i < ν 83 14) ∧ 99 < v ∧ r = -6)) → (∀ a b, a ≠ 84 → μ' a b = ν a b) → Q (some (.inl r)) μ') : am_Does l 174 [.inr (.inr 83), .inl i, .inl v] ν Q := by
  refine am_Does_of (Nat.le_of_ble_eq_true rfl) (Nat.le_of_ble_eq_true rfl) (Nat.le_of_ble_eq_true rfl) ?_
  have l0 : am_c 0 = 0 := rfl
  have l1 : am_c 1 = 1 := rfl
  have l2 : am_c 2 = 2 := rfl
  have l3 : am_c 3 = 3 := rfl
  have l4 : am_c 4 = 4 := rfl
  have l5 : am_c 5 = 5 := rfl
  have l7 : am_c 7 = 7 := rfl
  have l9 : am_c 9 = 9 := rfl
  have l10 : am_c 10 = 10 := rfl
  have l20 : am_c 20 = 20 := rfl
  have l96 : am_c 96 = 96 := rfl
  have l99 : am_c 99 = 99 := rfl
  have l200 : am_c 200 = 200 := rfl
  have l255 : am_c 255 = 255 := rfl
  have l999 : am_c 999 = 999 := rfl
  have m1 : am_c (-1) = -1 := rfl
  have m2 : am_c (-2) = -2 := rfl
  have m3 : am_c (-3) = -3 := rfl
  have m4 : am_c (-4) = -4 := rfl
  have m6 : am_c (-6) = -6 := rfl
  have c14 : am_c (ν 83 14) = ν 83 14 := am_cR (by omega) (by omega)
  have k1' := fun (x : Int) (j : Nat) (ej : j = i.toNat) (ex : x = ν 89 i.toNat) a b => (show Q (some (.inl x)) (am_up (am_up ν 89 j v) 83 33 0) by rw [ej, ex]; exact k1 a b)
  refine am_go (ct := fun _ => false) am_oX7_start 300 ?_
  conv => whnf
  repeat' first
    | (refine (?_ : am_wp _ _ _ _ _ _ _ _ _ _ _ _); conv => whnf)
    | (refine (?_ : am_sw _ _ _ _); conv => whnf)
    | refine And.intro trivial ?_
    | exact trivial
    | ((with_reducible refine (?_ : am_Does _ 146 _ _ _)); refine x_isRunnerT _ f0 f1 (fun y0 y1 => ?_) (fun y => ?_))
    | ((with_reducible refine (?_ : am_Does _ 144 _ _ _)); refine x_bound _ _ _ ?_ ?_ ?_ (fun _ => ?_) (fun _ => ?_) (fun _ _ => ?_))
    | ((with_reducible refine (?_ : am_Does _ 140 _ _ _)); refine x_no _ ?_ (fun μr fr => ?_))
    | refine k0 _ _ ?_ fr
    | ((with_reducible refine (?_ : _ ∧ _)); refine And.intro (fun h => absurd h (by omega)) (fun _ => ?_))
    | ((with_reducible refine (?_ : _ ∧ _)); refine And.intro (fun _ => ?_) (fun h => absurd h (by omega)))
    | refine k1' _ _ ?_ ?_ ?_ ?_
    | refine And.intro (fun h => absurd h (by decide)) (fun _ => ?_)
    | refine And.intro (fun _ => ?_) (fun h => absurd (by decide) h)
    | refine And.intro (fun _ => ?_) (fun _ => ?_)
    | refine And.intro ?_ ?_
  all_goals (first | decide | omega | (rw [ci]) | (constructor <;> omega) | (trace_state; fail))
theorem n_kind {l : Launch} {ν : am_N} {Q : Option am_V → am_N → Prop} (i q g : Int) (ci : am_c i = i) (cq : am_c q = q) (cg : am_c g = g) (f0 : 0 ≤ ν 83 14) (f1 : ν 83 14 ≤ 4) (k1 : (0 ≤ i ∧ i < ν 83 14) → (0 ≤ q ∧ q ≤ 5) → (0 ≤ g ∧ g ≤ 9) → Q (some (.inl (10 * ν 85 i.toNat + ν 86 i.toNat))) (am_up (am_up (am_up ν 85 i.toNat q) 86 i.toNat g) 83 33 0)) (k0 : ∀ (r : Int) (μ' : am_N), ((¬(0 ≤ i ∧ i < ν 83 14) ∧ r = -1) ∨ ((0 ≤ i ∧ i < ν 83 14) ∧ ¬(0 ≤ q ∧ q ≤ 5) ∧ r = -2) ∨ ((0 ≤ i ∧ i < ν 83 14) ∧ (0 ≤ q ∧ q ≤ 5) ∧ g < 0 ∧ r = -4) ∨ ((0 ≤ i ∧ i < ν 83 14) ∧ (0 ≤ q ∧ q ≤ 5) ∧ 9 < g ∧ r = -6)) → (∀ a b, a ≠ 84 → μ' a b = ν a b) → Q (some (.inl r)) μ') : am_Does l 175 [.inr (.inr 83), .inl i, .inl q, .inl g] ν Q := by
  refine am_Does_of (Nat.le_of_ble_eq_true rfl) (Nat.le_of_ble_eq_true rfl) (Nat.le_of_ble_eq_true rfl) ?_
  have l0 : am_c 0 = 0 := rfl
  have l1 : am_c 1 = 1 := rfl
  have l2 : am_c 2 = 2 := rfl
  have l3 : am_c 3 = 3 := rfl
  have l4 : am_c 4 = 4 := rfl
  have l5 : am_c 5 = 5 := rfl
  have l7 : am_c 7 = 7 := rfl
  have l9 : am_c 9 = 9 := rfl
  have l10 : am_c 10 = 10 := rfl
  have l20 : am_c 20 = 20 := rfl
  have l96 : am_c 96 = 96 := rfl
  have l99 : am_c 99 = 99 := rfl
  have l200 : am_c 200 = 200 := rfl
  have l255 : am_c 255 = 255 := rfl
  have l999 : am_c 999 = 999 := rfl
  have m1 : am_c (-1) = -1 := rfl
  have m2 : am_c (-2) = -2 := rfl
  have m3 : am_c (-3) = -3 := rfl
  have m4 : am_c (-4) = -4 := rfl
  have m6 : am_c (-6) = -6 := rfl
  have c14 : am_c (ν 83 14) = ν 83 14 := am_cR (by omega) (by omega)
  have k1' := fun (x : Int) (j j2 : Nat) (ej : j = i.toNat) (ej2 : j2 = i.toNat) (ex : x = 10 * ν 85 i.toNat + ν 86 i.toNat) a b c => (show Q (some (.inl x)) (am_up (am_up (am_up ν 85 j q) 86 j2 g) 83 33 0) by rw [ej, ej2, ex]; exact k1 a b c)
  refine am_go (ct := fun _ => false) am_oX7_kind 300 ?_
  conv => whnf
  repeat' first
    | (refine (?_ : am_wp _ _ _ _ _ _ _ _ _ _ _ _); conv => whnf)
    | (refine (?_ : am_sw _ _ _ _); conv => whnf)
    | refine And.intro trivial ?_
    | exact trivial
    | ((with_reducible refine (?_ : am_Does _ 146 _ _ _)); refine x_isRunnerT _ f0 f1 (fun y0 y1 => ?_) (fun y => ?_))
    | ((with_reducible refine (?_ : am_Does _ 143 _ _ _)); refine x_isIn q _ _ _ rfl cq ?_ ?_ (fun _ _ => ?_) (fun _ => ?_))
    | ((with_reducible refine (?_ : am_Does _ 144 _ _ _)); refine x_bound _ _ _ ?_ ?_ ?_ (fun _ => ?_) (fun _ => ?_) (fun _ _ => ?_))
    | ((with_reducible refine (?_ : am_Does _ 140 _ _ _)); refine x_no _ ?_ (fun μr fr => ?_))
    | refine k0 _ _ ?_ fr
    | ((with_reducible refine (?_ : _ ∧ _)); refine And.intro (fun h => absurd h (by omega)) (fun _ => ?_))
    | ((with_reducible refine (?_ : _ ∧ _)); refine And.intro (fun _ => ?_) (fun h => absurd h (by omega)))
    | refine k1' _ _ _ ?_ ?_ ?_ ?_ ?_ ?_
    | refine And.intro (fun h => absurd h (by decide)) (fun _ => ?_)
    | refine And.intro (fun _ => ?_) (fun h => absurd (by decide) h)
    | refine And.intro (fun _ => ?_) (fun _ => ?_)
    | refine And.intro ?_ ?_
  all_goals (first | decide | omega | (rw [ci]) | (constructor <;> omega) | (trace_state; fail))
theorem n_image {l : Launch} {ν : am_N} {Q : Option am_V → am_N → Prop} (k : ∀ μ' : am_N, (∀ a b, ¬(a = 98 ∧ b < 45) → ¬(a = 83 ∧ (b = 25 ∨ b = 26 ∨ b = 27)) → μ' a b = ν a b) → μ' 83 25 = 1 → (∀ a b o, kp_at a b = some o → μ' 98 o = ν a b) → Q (some (.inl (ν 83 11))) μ') : am_Does l 160 [.inr (.inr 83)] ν Q := by
  refine am_Does_of (Nat.le_of_ble_eq_true rfl) (Nat.le_of_ble_eq_true rfl) (Nat.le_of_ble_eq_true rfl) ?_
  refine am_go (ct := fun _ => false) am_oX7_image 300 ?_
  conv => whnf
  repeat' first
    | (refine (?_ : am_wp _ _ _ _ _ _ _ _ _ _ _ _); conv => whnf)
    | (refine (?_ : am_sw _ _ _ _); conv => whnf)
    | refine And.intro trivial ?_
    | exact trivial
    | ((with_reducible refine (?_ : am_Does _ 159 _ _ _)); refine m_keep0 (fun μ1 u _ _ _ => ?_))
    | (refine am_qe (k _ ?_ ?_ ?_) ?_)
    | refine And.intro (fun h => absurd h (by decide)) (fun _ => ?_)
    | refine And.intro (fun _ => ?_) (fun h => absurd (by decide) h)
    | refine And.intro (fun _ => ?_) (fun _ => ?_)
    | refine And.intro ?_ ?_
  all_goals (first | decide | (intro a b q1 q2; rw [u.2 a b (by omega) (by omega)]; exact am_uE (by omega)) | (rw [u.2 83 25 (by omega) (by omega)]; exact if_pos ⟨rfl, rfl⟩) | (intro a b o ho; have z := u.1 a b o ho; rw [Nat.zero_add] at z; rw [z]; refine am_uE (fun y => ?_); rw [y.1, y.2] at ho; cases ho) | (rw [u.2 83 11 (by omega) (by omega)]; exact am_upM (by decide)) | (trace_state; fail))
theorem n_restore {l : Launch} {ν : am_N} {Q : Option am_V → am_N → Prop} (c25 : am_c (ν 83 25) = ν 83 25) (k1 : ν 83 25 ≠ 0 → ∀ μ' : am_N, (∀ a b, kp_at a b = none → ¬(a = 83 ∧ (b = 26 ∨ b = 27 ∨ b = 33)) → μ' a b = ν a b) → (∀ a b o, kp_at a b = some o → μ' a b = ν 98 o) → μ' 83 33 = 0 → Q (some (.inl (ν 98 41))) μ') (k0 : ν 83 25 = 0 → ∀ μ' : am_N, (∀ a b, a ≠ 84 → μ' a b = ν a b) → Q (some (.inl (-3))) μ') : am_Does l 161 [.inr (.inr 83)] ν Q := by
  refine am_Does_of (Nat.le_of_ble_eq_true rfl) (Nat.le_of_ble_eq_true rfl) (Nat.le_of_ble_eq_true rfl) ?_
  refine am_go (ct := fun _ => false) am_oX7_restore 300 ?_
  conv => whnf
  repeat' first
    | (refine (?_ : am_wp _ _ _ _ _ _ _ _ _ _ _ _); conv => whnf)
    | (refine (?_ : am_sw _ _ _ _); conv => whnf)
    | refine And.intro trivial ?_
    | exact trivial
    | ((with_reducible refine (?_ : am_Does _ 140 _ _ _)); refine x_no _ ?_ (fun μr fr => ?_))
    | refine k0 ?_ _ fr
    | ((with_reducible refine (?_ : am_Does _ 159 _ _ _)); refine m_come0 (fun μ1 u _ _ _ => ?_))
    | (refine am_qe (k1 ?_ _ ?_ ?_ ?_) ?_)
    | refine And.intro (fun h => absurd h (by decide)) (fun _ => ?_)
    | refine And.intro (fun _ => ?_) (fun h => absurd (by decide) h)
    | refine And.intro (fun _ => ?_) (fun _ => ?_)
    | refine And.intro ?_ ?_
  all_goals (first | decide | (rw [c25] at *; assumption) | (intro z; rw [c25] at *; contradiction) | (simp only [c25] at *; omega) | (intro a b q1 q2; rw [am_uE (by omega)]; exact u.2 a b q1 (by omega)) | (intro a b o ho; have z := u.1 a b o ho; rw [Nat.zero_add] at z; rw [← z]; refine am_uE (fun y => ?_); rw [y.1, y.2] at ho; cases ho) | exact if_pos ⟨rfl, rfl⟩ | (rw [am_upM (by decide)]; have z := u.1 83 11 41 rfl; rw [Nat.zero_add] at z; exact z) | (trace_state; fail))
theorem n_feed {l : Launch} {ν : am_N} {Q : Option am_V → am_N → Prop} (v : Int) (cv : am_c v = v) (n0 : 0 ≤ ν 83 21) (n1 : ν 83 21 ≤ 96) (k1 : (0 ≤ v ∧ v ≤ 255) → ν 83 21 < 96 → Q (some (.inl (ν 83 21 + 1))) (am_up (am_up ν 94 (ν 83 21).toNat v) 83 21 (ν 83 21 + 1))) (k0 : ∀ (r : Int) (μ' : am_N), ((v < 0 ∧ r = -4) ∨ (255 < v ∧ r = -6) ∨ ((0 ≤ v ∧ v ≤ 255) ∧ ν 83 21 = 96 ∧ r = -6)) → (∀ a b, a ≠ 84 → μ' a b = ν a b) → Q (some (.inl r)) μ') : am_Does l 148 [.inr (.inr 83), .inl v] ν Q := by
  refine am_Does_of (Nat.le_of_ble_eq_true rfl) (Nat.le_of_ble_eq_true rfl) (Nat.le_of_ble_eq_true rfl) ?_
  have l0 : am_c 0 = 0 := rfl
  have l1 : am_c 1 = 1 := rfl
  have l2 : am_c 2 = 2 := rfl
  have l3 : am_c 3 = 3 := rfl
  have l4 : am_c 4 = 4 := rfl
  have l5 : am_c 5 = 5 := rfl
  have l7 : am_c 7 = 7 := rfl
  have l9 : am_c 9 = 9 := rfl
  have l10 : am_c 10 = 10 := rfl
  have l20 : am_c 20 = 20 := rfl
  have l96 : am_c 96 = 96 := rfl
  have l99 : am_c 99 = 99 := rfl
  have l200 : am_c 200 = 200 := rfl
  have l255 : am_c 255 = 255 := rfl
  have l999 : am_c 999 = 999 := rfl
  have m1 : am_c (-1) = -1 := rfl
  have m2 : am_c (-2) = -2 := rfl
  have m3 : am_c (-3) = -3 := rfl
  have m4 : am_c (-4) = -4 := rfl
  have m6 : am_c (-6) = -6 := rfl
  have c21 : am_c (ν 83 21) = ν 83 21 := am_cR (by omega) (by omega)
  have k1' := fun (x y : Int) (j : Nat) (ej : j = (ν 83 21).toNat) (ex : x = ν 83 21 + 1) (ey : y = ν 83 21 + 1) a b => (show Q (some (.inl x)) (am_up (am_up ν 94 j v) 83 21 y) by rw [ej, ex, ey]; exact k1 a b)
  refine am_go (ct := fun _ => false) am_oX7_feed 300 ?_
  conv => whnf
  repeat' first
    | (refine (?_ : am_wp _ _ _ _ _ _ _ _ _ _ _ _); conv => whnf)
    | (refine (?_ : am_sw _ _ _ _); conv => whnf)
    | refine And.intro trivial ?_
    | exact trivial
    | ((with_reducible refine (?_ : am_Does _ 144 _ _ _)); refine x_bound _ _ _ ?_ ?_ ?_ (fun _ => ?_) (fun _ => ?_) (fun _ _ => ?_))
    | ((with_reducible refine (?_ : am_Does _ 140 _ _ _)); refine x_no _ ?_ (fun μr fr => ?_))
    | refine k0 _ _ ?_ fr
    | ((with_reducible refine (?_ : _ ∧ _)); refine And.intro (fun h => absurd h (by omega)) (fun _ => ?_))
    | ((with_reducible refine (?_ : _ ∧ _)); refine And.intro (fun _ => ?_) (fun h => absurd h (by omega)))
    | refine k1' _ _ _ ?_ ?_ ?_ ?_ ?_
    | refine And.intro (fun h => absurd h (by decide)) (fun _ => ?_)
    | refine And.intro (fun _ => ?_) (fun h => absurd (by decide) h)
    | refine And.intro (fun _ => ?_) (fun _ => ?_)
    | refine And.intro ?_ ?_
  all_goals (first | decide | omega | (simp only [c21] at *; omega) | (rw [c21]; done) | (rw [am_upS, if_pos ⟨rfl, rfl⟩, am_upN (by decide)]; done) | (rw [am_upN (by decide)]; done) | (trace_state; fail))
theorem n_back0 {l : Launch} {ν : am_N} {Q : Option am_V → am_N → Prop} (h : ν 83 33 = 0) (k0 : ∀ μ' : am_N, (∀ a b, a ≠ 84 → μ' a b = ν a b) → Q (some (.inl (-3))) μ') : am_Does l 180 [.inr (.inr 83)] ν Q := by
  refine am_Does_of (Nat.le_of_ble_eq_true rfl) (Nat.le_of_ble_eq_true rfl) (Nat.le_of_ble_eq_true rfl) ?_
  have c33 : am_c (ν 83 33) = 0 := by rw [h]; rfl
  refine am_go (ct := fun _ => false) am_oX7_back 300 ?_
  conv => whnf
  repeat' first
    | (refine (?_ : am_wp _ _ _ _ _ _ _ _ _ _ _ _); conv => whnf)
    | (refine (?_ : am_sw _ _ _ _); conv => whnf)
    | refine And.intro trivial ?_
    | exact trivial
    | ((with_reducible refine (?_ : am_Does _ 140 _ _ _)); refine x_no _ ?_ (fun μr fr => ?_))
    | exact k0 _ fr
    | refine And.intro (fun z => absurd c33 z) (fun _ => ?_)
    | refine And.intro (fun h => absurd h (by decide)) (fun _ => ?_)
    | refine And.intro (fun _ => ?_) (fun h => absurd (by decide) h)
    | refine And.intro (fun _ => ?_) (fun _ => ?_)
    | refine And.intro ?_ ?_
  all_goals (first | decide | omega | (trace_state; fail))
theorem n_run {l : Launch} {ν : am_N} {Q : Option am_V → am_N → Prop} (hw : fp_fw 999 (mv ν)) (h100 : sx_3 ν 100) (h33 : 0 ≤ ν 83 33 ∧ ν 83 33 ≤ 6) (k1 : 1 ≤ ν 83 14 → ν 83 11 < 999 → ∀ μ' : am_N, (∀ a b, a ≠ 89 → a ≠ 90 → ¬(a = 83 ∧ b = 11) → a ≠ 99 → a ≠ 100 → a ≠ 101 → a ≠ 102 → a ≠ 103 → ¬(a = 83 ∧ b = 33) → μ' a b = ν a b) → mv μ' = fp_rn (mv ν) → sx_3 μ' 100 → μ' 83 33 = (if ν 83 33 < 6 then ν 83 33 + 1 else 6) → (∀ r : Nat, r < 4 → μ' 101 r = ν 89 r ∧ μ' 102 r = ν 90 r) → μ' 103 0 = ν 83 11 → (∀ b : Nat, 4 ≤ b → b < 24 → μ' 101 b = ν 101 (b - 4) ∧ μ' 102 b = ν 102 (b - 4)) → (∀ b : Nat, 1 ≤ b → b < 6 → μ' 103 b = ν 103 (b - 1)) → Q (some (.inl (fp_f (mv ν)))) μ') (k0 : ∀ (r : Int) (μ' : am_N), ((ν 83 14 = 0 ∧ r = -3) ∨ (1 ≤ ν 83 14 ∧ ν 83 11 = 999 ∧ r = -6)) → (∀ a b, a ≠ 84 → μ' a b = ν a b) → Q (some (.inl r)) μ') : am_Does l 177 [.inr (.inr 83)] ν Q := by
  refine am_Does_of (Nat.le_of_ble_eq_true rfl) (Nat.le_of_ble_eq_true rfl) (Nat.le_of_ble_eq_true rfl) ?_
  have l0 : am_c 0 = 0 := rfl
  have l1 : am_c 1 = 1 := rfl
  have l2 : am_c 2 = 2 := rfl
  have l3 : am_c 3 = 3 := rfl
  have l4 : am_c 4 = 4 := rfl
  have l5 : am_c 5 = 5 := rfl
  have l7 : am_c 7 = 7 := rfl
  have l9 : am_c 9 = 9 := rfl
  have l10 : am_c 10 = 10 := rfl
  have l20 : am_c 20 = 20 := rfl
  have l96 : am_c 96 = 96 := rfl
  have l99 : am_c 99 = 99 := rfl
  have l200 : am_c 200 = 200 := rfl
  have l255 : am_c 255 = 255 := rfl
  have l999 : am_c 999 = 999 := rfl
  have m1 : am_c (-1) = -1 := rfl
  have m2 : am_c (-2) = -2 := rfl
  have m3 : am_c (-3) = -3 := rfl
  have m4 : am_c (-4) = -4 := rfl
  have m6 : am_c (-6) = -6 := rfl
  obtain ⟨hf, -, -, -, -, hweek, -⟩ := fw_M hw (by decide)
  have f0 := hf.1.1
  have f1 := hf.1.2
  have c14 : am_c (ν 83 14) = ν 83 14 := am_cR (by omega) (by omega)
  have c11 : am_c (ν 83 11) = ν 83 11 := am_cR (by omega) (by omega)
  refine am_go (ct := fun _ => false) am_oX7_run 300 ?_
  conv => whnf
  repeat' first
    | (refine (?_ : am_wp _ _ _ _ _ _ _ _ _ _ _ _); conv => whnf)
    | (refine (?_ : am_sw _ _ _ _); conv => whnf)
    | refine And.intro trivial ?_
    | exact trivial
    | ((with_reducible refine (?_ : am_Does _ 140 _ _ _)); refine x_no _ ?_ (fun μr fr => ?_))
    | refine k0 _ _ ?_ fr
    | ((with_reducible refine (?_ : _ ∧ _)); refine And.intro (fun h => absurd h (by omega)) (fun _ => ?_))
    | ((with_reducible refine (?_ : _ ∧ _)); refine And.intro (fun _ => ?_) (fun h => absurd h (by omega)))
    | ((with_reducible refine (?_ : am_Does _ 179 _ _ _)); (refine x_keepsRun h33.1 h33.2 (fun μ1 g0 g1 g2 g3 g4 g5 => ?_); have e1 : mv μ1 = mv ν := mv_keep (fun a b q => g0 a b (by omega) (by omega) (by omega) (by omega))))
    | (rw [e1]; exact hw)
    | ((with_reducible refine (?_ : am_Does _ 172 _ _ _)); refine x_runs 999 ?_ (by decide) ?_ ?_ (fun μ2 u0 u1 u2 u3 u4 => ?_))
    | (rw [e1]; refine k1 ?_ ?_ _ ?_ ?_ u2 ?_ ?_ ?_ ?_ ?_)
    | refine And.intro (fun h => absurd h (by decide)) (fun _ => ?_)
    | refine And.intro (fun _ => ?_) (fun h => absurd (by decide) h)
    | refine And.intro (fun _ => ?_) (fun _ => ?_)
    | refine And.intro ?_ ?_
  all_goals (first | decide | omega | exact Or.inl ⟨by simp only [c14, c11] at *; omega, rfl⟩ | exact Or.inr ⟨by simp only [c14, c11] at *; omega, by simp only [c14, c11] at *; omega, rfl⟩ | (simp only [c14, c11] at *; omega) | (rw [g0 83 14 (by omega) (by omega) (by omega) (by omega)]; simp only [c14] at *; omega) | (intro x hx; rw [g0 100 x (by omega) (by omega) (by omega) (by omega)]; exact h100 x hx) | (intro a b q1 q2 q3 q4 q5 q6 q7 q8 q9; rw [u0 a b q1 q2 q3 q4 q5]; exact g0 a b q6 q7 q8 q9) | (rw [u1, e1]) | (rw [u0 83 33 (by first | decide | omega | exact fun z => absurd z.1 (by decide)) (by first | decide | omega | exact fun z => absurd z.1 (by decide)) (by first | decide | omega | exact fun z => absurd z.1 (by decide)) (by first | decide | omega | exact fun z => absurd z.1 (by decide)) (by first | decide | omega | exact fun z => absurd z.1 (by decide))]; exact g1) | (intro r hr; rw [u0 101 r (by first | decide | omega | exact fun z => absurd z.1 (by decide)) (by first | decide | omega | exact fun z => absurd z.1 (by decide)) (by first | decide | omega | exact fun z => absurd z.1 (by decide)) (by first | decide | omega | exact fun z => absurd z.1 (by decide)) (by first | decide | omega | exact fun z => absurd z.1 (by decide)), u0 102 r (by first | decide | omega | exact fun z => absurd z.1 (by decide)) (by first | decide | omega | exact fun z => absurd z.1 (by decide)) (by first | decide | omega | exact fun z => absurd z.1 (by decide)) (by first | decide | omega | exact fun z => absurd z.1 (by decide)) (by first | decide | omega | exact fun z => absurd z.1 (by decide))]; exact g2 r hr) | (rw [u0 103 0 (by first | decide | omega | exact fun z => absurd z.1 (by decide)) (by first | decide | omega | exact fun z => absurd z.1 (by decide)) (by first | decide | omega | exact fun z => absurd z.1 (by decide)) (by first | decide | omega | exact fun z => absurd z.1 (by decide)) (by first | decide | omega | exact fun z => absurd z.1 (by decide))]; exact g3) | (intro b q1 q2; rw [u0 101 b (by first | decide | omega | exact fun z => absurd z.1 (by decide)) (by first | decide | omega | exact fun z => absurd z.1 (by decide)) (by first | decide | omega | exact fun z => absurd z.1 (by decide)) (by first | decide | omega | exact fun z => absurd z.1 (by decide)) (by first | decide | omega | exact fun z => absurd z.1 (by decide)), u0 102 b (by first | decide | omega | exact fun z => absurd z.1 (by decide)) (by first | decide | omega | exact fun z => absurd z.1 (by decide)) (by first | decide | omega | exact fun z => absurd z.1 (by decide)) (by first | decide | omega | exact fun z => absurd z.1 (by decide)) (by first | decide | omega | exact fun z => absurd z.1 (by decide))]; exact g4 b q1 q2) | (intro b q1 q2; rw [u0 103 b (by first | decide | omega | exact fun z => absurd z.1 (by decide)) (by first | decide | omega | exact fun z => absurd z.1 (by decide)) (by first | decide | omega | exact fun z => absurd z.1 (by decide)) (by first | decide | omega | exact fun z => absurd z.1 (by decide)) (by first | decide | omega | exact fun z => absurd z.1 (by decide))]; exact g5 b q1 q2) | (trace_state; fail))
theorem n_set_0 {l : Launch} {ν : am_N} {Q : Option am_V → am_N → Prop} (w v : Int) (cw : am_c w = w) (cv : am_c v = v) (hW : w = 0) (k1 : (0 ≤ w ∧ w ≤ 3) → fp_sb w v → ∀ μ' : am_N, (∀ a b, ¬(a = 83 ∧ 10 ≤ b ∧ b ≤ 13) → ¬(a = 83 ∧ b = 33) → μ' a b = ν a b) → (∀ b : Nat, b < 4 → μ' 83 (10 + b) = if b = fp_sl w then v else ν 83 (10 + b)) → μ' 83 33 = 0 → Q (some (.inl (ν 83 (10 + fp_sl w)))) μ') (k0 : ¬((0 ≤ w ∧ w ≤ 3) ∧ fp_sb w v) → ∀ (r : Int) (μ' : am_N), (∀ a b, a ≠ 84 → μ' a b = ν a b) → Q (some (.inl r)) μ') : am_Does l 176 [.inr (.inr 83), .inl w, .inl v] ν Q := by
  refine am_Does_of (Nat.le_of_ble_eq_true rfl) (Nat.le_of_ble_eq_true rfl) (Nat.le_of_ble_eq_true rfl) ?_
  have l0 : am_c 0 = 0 := rfl
  have l1 : am_c 1 = 1 := rfl
  have l2 : am_c 2 = 2 := rfl
  have l3 : am_c 3 = 3 := rfl
  have l4 : am_c 4 = 4 := rfl
  have l5 : am_c 5 = 5 := rfl
  have l7 : am_c 7 = 7 := rfl
  have l9 : am_c 9 = 9 := rfl
  have l10 : am_c 10 = 10 := rfl
  have l20 : am_c 20 = 20 := rfl
  have l96 : am_c 96 = 96 := rfl
  have l99 : am_c 99 = 99 := rfl
  have l200 : am_c 200 = 200 := rfl
  have l255 : am_c 255 = 255 := rfl
  have l999 : am_c 999 = 999 := rfl
  have m1 : am_c (-1) = -1 := rfl
  have m2 : am_c (-2) = -2 := rfl
  have m3 : am_c (-3) = -3 := rfl
  have m4 : am_c (-4) = -4 := rfl
  have m6 : am_c (-6) = -6 := rfl
  subst hW
  have hsl : fp_sl 0 = 0 := rfl
  refine am_go (ct := fun _ => false) am_oX7_set 300 ?_
  conv => whnf
  repeat' first
    | (refine (?_ : am_wp _ _ _ _ _ _ _ _ _ _ _ _); conv => whnf)
    | (refine (?_ : am_sw _ _ _ _); conv => whnf)
    | refine And.intro trivial ?_
    | exact trivial
    | ((with_reducible refine (?_ : am_Does _ 143 _ _ _)); refine x_isIn 0 _ _ _ rfl cw ?_ ?_ (fun _ _ => ?_) (fun _ => ?_))
    | ((with_reducible refine (?_ : am_Does _ 144 _ _ _)); refine x_bound _ _ _ ?_ ?_ ?_ (fun _ => ?_) (fun _ => ?_) (fun _ _ => ?_))
    | ((with_reducible refine (?_ : am_Does _ 140 _ _ _)); refine x_no _ ?_ (fun μr fr => ?_))
    | refine k0 (fun z => ?_) _ _ fr
    | ((with_reducible refine (?_ : _ ∧ _)); refine And.intro (fun h => absurd h (by omega)) (fun _ => ?_))
    | ((with_reducible refine (?_ : _ ∧ _)); refine And.intro (fun _ => ?_) (fun h => absurd h (by omega)))
    | ((with_reducible refine (?_ : Q _ _)); (refine am_qe (k1 (by decide) (show 20 ≤ v ∧ v ≤ 200 from ⟨by omega, by omega⟩) _ ?_ ?_ ?_) ?_))
    | refine And.intro (fun h => absurd h (by decide)) (fun _ => ?_)
    | refine And.intro (fun _ => ?_) (fun h => absurd (by decide) h)
    | refine And.intro (fun _ => ?_) (fun _ => ?_)
    | refine And.intro ?_ ?_
  all_goals (first | decide | omega | (have z2 : 20 ≤ v ∧ v ≤ 200 := z.2; omega) | (intro a b q1 q2; rw [am_uE (by omega), am_uE (by omega), am_uE (by omega), am_uE (by omega), am_uE (by omega)]) | (intro b hb; rcases (show b = 0 ∨ b = 1 ∨ b = 2 ∨ b = 3 by omega) with rfl | rfl | rfl | rfl <;> rfl) | rfl | (trace_state; fail))
theorem n_set_1 {l : Launch} {ν : am_N} {Q : Option am_V → am_N → Prop} (w v : Int) (cw : am_c w = w) (cv : am_c v = v) (hW : w = 1) (k1 : (0 ≤ w ∧ w ≤ 3) → fp_sb w v → ∀ μ' : am_N, (∀ a b, ¬(a = 83 ∧ 10 ≤ b ∧ b ≤ 13) → ¬(a = 83 ∧ b = 33) → μ' a b = ν a b) → (∀ b : Nat, b < 4 → μ' 83 (10 + b) = if b = fp_sl w then v else ν 83 (10 + b)) → μ' 83 33 = 0 → Q (some (.inl (ν 83 (10 + fp_sl w)))) μ') (k0 : ¬((0 ≤ w ∧ w ≤ 3) ∧ fp_sb w v) → ∀ (r : Int) (μ' : am_N), (∀ a b, a ≠ 84 → μ' a b = ν a b) → Q (some (.inl r)) μ') : am_Does l 176 [.inr (.inr 83), .inl w, .inl v] ν Q := by
  refine am_Does_of (Nat.le_of_ble_eq_true rfl) (Nat.le_of_ble_eq_true rfl) (Nat.le_of_ble_eq_true rfl) ?_
  have l0 : am_c 0 = 0 := rfl
  have l1 : am_c 1 = 1 := rfl
  have l2 : am_c 2 = 2 := rfl
  have l3 : am_c 3 = 3 := rfl
  have l4 : am_c 4 = 4 := rfl
  have l5 : am_c 5 = 5 := rfl
  have l7 : am_c 7 = 7 := rfl
  have l9 : am_c 9 = 9 := rfl
  have l10 : am_c 10 = 10 := rfl
  have l20 : am_c 20 = 20 := rfl
  have l96 : am_c 96 = 96 := rfl
  have l99 : am_c 99 = 99 := rfl
  have l200 : am_c 200 = 200 := rfl
  have l255 : am_c 255 = 255 := rfl
  have l999 : am_c 999 = 999 := rfl
  have m1 : am_c (-1) = -1 := rfl
  have m2 : am_c (-2) = -2 := rfl
  have m3 : am_c (-3) = -3 := rfl
  have m4 : am_c (-4) = -4 := rfl
  have m6 : am_c (-6) = -6 := rfl
  subst hW
  have hsl : fp_sl 1 = 2 := rfl
  refine am_go (ct := fun _ => false) am_oX7_set 300 ?_
  conv => whnf
  repeat' first
    | (refine (?_ : am_wp _ _ _ _ _ _ _ _ _ _ _ _); conv => whnf)
    | (refine (?_ : am_sw _ _ _ _); conv => whnf)
    | refine And.intro trivial ?_
    | exact trivial
    | ((with_reducible refine (?_ : am_Does _ 143 _ _ _)); refine x_isIn 1 _ _ _ rfl cw ?_ ?_ (fun _ _ => ?_) (fun _ => ?_))
    | ((with_reducible refine (?_ : am_Does _ 144 _ _ _)); refine x_bound _ _ _ ?_ ?_ ?_ (fun _ => ?_) (fun _ => ?_) (fun _ _ => ?_))
    | ((with_reducible refine (?_ : am_Does _ 140 _ _ _)); refine x_no _ ?_ (fun μr fr => ?_))
    | refine k0 (fun z => ?_) _ _ fr
    | ((with_reducible refine (?_ : _ ∧ _)); refine And.intro (fun h => absurd h (by omega)) (fun _ => ?_))
    | ((with_reducible refine (?_ : _ ∧ _)); refine And.intro (fun _ => ?_) (fun h => absurd h (by omega)))
    | ((with_reducible refine (?_ : Q _ _)); (refine am_qe (k1 (by decide) (show 0 ≤ v ∧ v ≤ 4 from ⟨by omega, by omega⟩) _ ?_ ?_ ?_) ?_))
    | refine And.intro (fun h => absurd h (by decide)) (fun _ => ?_)
    | refine And.intro (fun _ => ?_) (fun h => absurd (by decide) h)
    | refine And.intro (fun _ => ?_) (fun _ => ?_)
    | refine And.intro ?_ ?_
  all_goals (first | decide | omega | (have z2 : 0 ≤ v ∧ v ≤ 4 := z.2; omega) | (intro a b q1 q2; rw [am_uE (by omega), am_uE (by omega), am_uE (by omega), am_uE (by omega), am_uE (by omega)]) | (intro b hb; rcases (show b = 0 ∨ b = 1 ∨ b = 2 ∨ b = 3 by omega) with rfl | rfl | rfl | rfl <;> rfl) | rfl | (trace_state; fail))
theorem n_set_2 {l : Launch} {ν : am_N} {Q : Option am_V → am_N → Prop} (w v : Int) (cw : am_c w = w) (cv : am_c v = v) (hW : w = 2) (k1 : (0 ≤ w ∧ w ≤ 3) → fp_sb w v → ∀ μ' : am_N, (∀ a b, ¬(a = 83 ∧ 10 ≤ b ∧ b ≤ 13) → ¬(a = 83 ∧ b = 33) → μ' a b = ν a b) → (∀ b : Nat, b < 4 → μ' 83 (10 + b) = if b = fp_sl w then v else ν 83 (10 + b)) → μ' 83 33 = 0 → Q (some (.inl (ν 83 (10 + fp_sl w)))) μ') (k0 : ¬((0 ≤ w ∧ w ≤ 3) ∧ fp_sb w v) → ∀ (r : Int) (μ' : am_N), (∀ a b, a ≠ 84 → μ' a b = ν a b) → Q (some (.inl r)) μ') : am_Does l 176 [.inr (.inr 83), .inl w, .inl v] ν Q := by
  refine am_Does_of (Nat.le_of_ble_eq_true rfl) (Nat.le_of_ble_eq_true rfl) (Nat.le_of_ble_eq_true rfl) ?_
  have l0 : am_c 0 = 0 := rfl
  have l1 : am_c 1 = 1 := rfl
  have l2 : am_c 2 = 2 := rfl
  have l3 : am_c 3 = 3 := rfl
  have l4 : am_c 4 = 4 := rfl
  have l5 : am_c 5 = 5 := rfl
  have l7 : am_c 7 = 7 := rfl
  have l9 : am_c 9 = 9 := rfl
  have l10 : am_c 10 = 10 := rfl
  have l20 : am_c 20 = 20 := rfl
  have l96 : am_c 96 = 96 := rfl
  have l99 : am_c 99 = 99 := rfl
  have l200 : am_c 200 = 200 := rfl
  have l255 : am_c 255 = 255 := rfl
  have l999 : am_c 999 = 999 := rfl
  have m1 : am_c (-1) = -1 := rfl
  have m2 : am_c (-2) = -2 := rfl
  have m3 : am_c (-3) = -3 := rfl
  have m4 : am_c (-4) = -4 := rfl
  have m6 : am_c (-6) = -6 := rfl
  subst hW
  have hsl : fp_sl 2 = 3 := rfl
  refine am_go (ct := fun _ => false) am_oX7_set 300 ?_
  conv => whnf
  repeat' first
    | (refine (?_ : am_wp _ _ _ _ _ _ _ _ _ _ _ _); conv => whnf)
    | (refine (?_ : am_sw _ _ _ _); conv => whnf)
    | refine And.intro trivial ?_
    | exact trivial
    | ((with_reducible refine (?_ : am_Does _ 143 _ _ _)); refine x_isIn 2 _ _ _ rfl cw ?_ ?_ (fun _ _ => ?_) (fun _ => ?_))
    | ((with_reducible refine (?_ : am_Does _ 144 _ _ _)); refine x_bound _ _ _ ?_ ?_ ?_ (fun _ => ?_) (fun _ => ?_) (fun _ _ => ?_))
    | ((with_reducible refine (?_ : am_Does _ 140 _ _ _)); refine x_no _ ?_ (fun μr fr => ?_))
    | refine k0 (fun z => ?_) _ _ fr
    | ((with_reducible refine (?_ : _ ∧ _)); refine And.intro (fun h => absurd h (by omega)) (fun _ => ?_))
    | ((with_reducible refine (?_ : _ ∧ _)); refine And.intro (fun _ => ?_) (fun h => absurd h (by omega)))
    | ((with_reducible refine (?_ : Q _ _)); (refine am_qe (k1 (by decide) (show 1 ≤ v ∧ v ≤ 9 from ⟨by omega, by omega⟩) _ ?_ ?_ ?_) ?_))
    | refine And.intro (fun h => absurd h (by decide)) (fun _ => ?_)
    | refine And.intro (fun _ => ?_) (fun h => absurd (by decide) h)
    | refine And.intro (fun _ => ?_) (fun _ => ?_)
    | refine And.intro ?_ ?_
  all_goals (first | decide | omega | (have z2 : 1 ≤ v ∧ v ≤ 9 := z.2; omega) | (intro a b q1 q2; rw [am_uE (by omega), am_uE (by omega), am_uE (by omega), am_uE (by omega), am_uE (by omega)]) | (intro b hb; rcases (show b = 0 ∨ b = 1 ∨ b = 2 ∨ b = 3 by omega) with rfl | rfl | rfl | rfl <;> rfl) | rfl | (trace_state; fail))
theorem n_set_3 {l : Launch} {ν : am_N} {Q : Option am_V → am_N → Prop} (w v : Int) (cw : am_c w = w) (cv : am_c v = v) (hW : w = 3) (k1 : (0 ≤ w ∧ w ≤ 3) → fp_sb w v → ∀ μ' : am_N, (∀ a b, ¬(a = 83 ∧ 10 ≤ b ∧ b ≤ 13) → ¬(a = 83 ∧ b = 33) → μ' a b = ν a b) → (∀ b : Nat, b < 4 → μ' 83 (10 + b) = if b = fp_sl w then v else ν 83 (10 + b)) → μ' 83 33 = 0 → Q (some (.inl (ν 83 (10 + fp_sl w)))) μ') (k0 : ¬((0 ≤ w ∧ w ≤ 3) ∧ fp_sb w v) → ∀ (r : Int) (μ' : am_N), (∀ a b, a ≠ 84 → μ' a b = ν a b) → Q (some (.inl r)) μ') : am_Does l 176 [.inr (.inr 83), .inl w, .inl v] ν Q := by
  refine am_Does_of (Nat.le_of_ble_eq_true rfl) (Nat.le_of_ble_eq_true rfl) (Nat.le_of_ble_eq_true rfl) ?_
  have l0 : am_c 0 = 0 := rfl
  have l1 : am_c 1 = 1 := rfl
  have l2 : am_c 2 = 2 := rfl
  have l3 : am_c 3 = 3 := rfl
  have l4 : am_c 4 = 4 := rfl
  have l5 : am_c 5 = 5 := rfl
  have l7 : am_c 7 = 7 := rfl
  have l9 : am_c 9 = 9 := rfl
  have l10 : am_c 10 = 10 := rfl
  have l20 : am_c 20 = 20 := rfl
  have l96 : am_c 96 = 96 := rfl
  have l99 : am_c 99 = 99 := rfl
  have l200 : am_c 200 = 200 := rfl
  have l255 : am_c 255 = 255 := rfl
  have l999 : am_c 999 = 999 := rfl
  have m1 : am_c (-1) = -1 := rfl
  have m2 : am_c (-2) = -2 := rfl
  have m3 : am_c (-3) = -3 := rfl
  have m4 : am_c (-4) = -4 := rfl
  have m6 : am_c (-6) = -6 := rfl
  subst hW
  have hsl : fp_sl 3 = 1 := rfl
  refine am_go (ct := fun _ => false) am_oX7_set 300 ?_
  conv => whnf
  repeat' first
    | (refine (?_ : am_wp _ _ _ _ _ _ _ _ _ _ _ _); conv => whnf)
    | (refine (?_ : am_sw _ _ _ _); conv => whnf)
    | refine And.intro trivial ?_
    | exact trivial
    | ((with_reducible refine (?_ : am_Does _ 143 _ _ _)); refine x_isIn 3 _ _ _ rfl cw ?_ ?_ (fun _ _ => ?_) (fun _ => ?_))
    | ((with_reducible refine (?_ : am_Does _ 144 _ _ _)); refine x_bound _ _ _ ?_ ?_ ?_ (fun _ => ?_) (fun _ => ?_) (fun _ _ => ?_))
    | ((with_reducible refine (?_ : am_Does _ 140 _ _ _)); refine x_no _ ?_ (fun μr fr => ?_))
    | refine k0 (fun z => ?_) _ _ fr
    | ((with_reducible refine (?_ : _ ∧ _)); refine And.intro (fun h => absurd h (by omega)) (fun _ => ?_))
    | ((with_reducible refine (?_ : _ ∧ _)); refine And.intro (fun _ => ?_) (fun h => absurd h (by omega)))
    | ((with_reducible refine (?_ : Q _ _)); (refine am_qe (k1 (by decide) (show 0 ≤ v ∧ v ≤ 999 from ⟨by omega, by omega⟩) _ ?_ ?_ ?_) ?_))
    | refine And.intro (fun h => absurd h (by decide)) (fun _ => ?_)
    | refine And.intro (fun _ => ?_) (fun h => absurd (by decide) h)
    | refine And.intro (fun _ => ?_) (fun _ => ?_)
    | refine And.intro ?_ ?_
  all_goals (first | decide | omega | (have z2 : 0 ≤ v ∧ v ≤ 999 := z.2; omega) | (intro a b q1 q2; rw [am_uE (by omega), am_uE (by omega), am_uE (by omega), am_uE (by omega), am_uE (by omega)]) | (intro b hb; rcases (show b = 0 ∨ b = 1 ∨ b = 2 ∨ b = 3 by omega) with rfl | rfl | rfl | rfl <;> rfl) | rfl | (trace_state; fail))
theorem n_set_9 {l : Launch} {ν : am_N} {Q : Option am_V → am_N → Prop} (w v : Int) (cw : am_c w = w) (cv : am_c v = v) (hW : ¬(0 ≤ w ∧ w ≤ 3)) (k1 : (0 ≤ w ∧ w ≤ 3) → fp_sb w v → ∀ μ' : am_N, (∀ a b, ¬(a = 83 ∧ 10 ≤ b ∧ b ≤ 13) → ¬(a = 83 ∧ b = 33) → μ' a b = ν a b) → (∀ b : Nat, b < 4 → μ' 83 (10 + b) = if b = fp_sl w then v else ν 83 (10 + b)) → μ' 83 33 = 0 → Q (some (.inl (ν 83 (10 + fp_sl w)))) μ') (k0 : ¬((0 ≤ w ∧ w ≤ 3) ∧ fp_sb w v) → ∀ (r : Int) (μ' : am_N), (∀ a b, a ≠ 84 → μ' a b = ν a b) → Q (some (.inl r)) μ') : am_Does l 176 [.inr (.inr 83), .inl w, .inl v] ν Q := by
  refine am_Does_of (Nat.le_of_ble_eq_true rfl) (Nat.le_of_ble_eq_true rfl) (Nat.le_of_ble_eq_true rfl) ?_
  have l0 : am_c 0 = 0 := rfl
  have l1 : am_c 1 = 1 := rfl
  have l2 : am_c 2 = 2 := rfl
  have l3 : am_c 3 = 3 := rfl
  have l4 : am_c 4 = 4 := rfl
  have l5 : am_c 5 = 5 := rfl
  have l7 : am_c 7 = 7 := rfl
  have l9 : am_c 9 = 9 := rfl
  have l10 : am_c 10 = 10 := rfl
  have l20 : am_c 20 = 20 := rfl
  have l96 : am_c 96 = 96 := rfl
  have l99 : am_c 99 = 99 := rfl
  have l200 : am_c 200 = 200 := rfl
  have l255 : am_c 255 = 255 := rfl
  have l999 : am_c 999 = 999 := rfl
  have m1 : am_c (-1) = -1 := rfl
  have m2 : am_c (-2) = -2 := rfl
  have m3 : am_c (-3) = -3 := rfl
  have m4 : am_c (-4) = -4 := rfl
  have m6 : am_c (-6) = -6 := rfl
  refine am_go (ct := fun _ => false) am_oX7_set 300 ?_
  conv => whnf
  repeat' first
    | (refine (?_ : am_wp _ _ _ _ _ _ _ _ _ _ _ _); conv => whnf)
    | (refine (?_ : am_sw _ _ _ _); conv => whnf)
    | refine And.intro trivial ?_
    | exact trivial
    | ((with_reducible refine (?_ : am_Does _ 143 _ _ _)); refine x_isIn w _ _ _ rfl cw ?_ ?_ (fun _ _ => ?_) (fun _ => ?_))
    | ((with_reducible refine (?_ : am_Does _ 144 _ _ _)); refine x_bound _ _ _ ?_ ?_ ?_ (fun _ => ?_) (fun _ => ?_) (fun _ _ => ?_))
    | ((with_reducible refine (?_ : am_Does _ 140 _ _ _)); refine x_no _ ?_ (fun μr fr => ?_))
    | refine k0 (fun z => ?_) _ _ fr
    | ((with_reducible refine (?_ : _ ∧ _)); refine And.intro (fun h => absurd h (by omega)) (fun _ => ?_))
    | ((with_reducible refine (?_ : _ ∧ _)); refine And.intro (fun _ => ?_) (fun h => absurd h (by omega)))
    | refine And.intro (fun h => absurd h (by decide)) (fun _ => ?_)
    | refine And.intro (fun _ => ?_) (fun h => absurd (by decide) h)
    | refine And.intro (fun _ => ?_) (fun _ => ?_)
    | refine And.intro ?_ ?_
  all_goals (first | decide | omega | (have z2 : 0 ≤ v ∧ v ≤ 0 := z.2; omega) | (intro a b q1 q2; rw [am_uE (by omega), am_uE (by omega), am_uE (by omega), am_uE (by omega), am_uE (by omega)]) | (intro b hb; rcases (show b = 0 ∨ b = 1 ∨ b = 2 ∨ b = 3 by omega) with rfl | rfl | rfl | rfl <;> rfl) | rfl | (trace_state; fail))
theorem n_set {l : Launch} {ν : am_N} {Q : Option am_V → am_N → Prop} (w v : Int) (cw : am_c w = w) (cv : am_c v = v) (k1 : (0 ≤ w ∧ w ≤ 3) → fp_sb w v → ∀ μ' : am_N, (∀ a b, ¬(a = 83 ∧ 10 ≤ b ∧ b ≤ 13) → ¬(a = 83 ∧ b = 33) → μ' a b = ν a b) → (∀ b : Nat, b < 4 → μ' 83 (10 + b) = if b = fp_sl w then v else ν 83 (10 + b)) → μ' 83 33 = 0 → Q (some (.inl (ν 83 (10 + fp_sl w)))) μ') (k0 : ¬((0 ≤ w ∧ w ≤ 3) ∧ fp_sb w v) → ∀ (r : Int) (μ' : am_N), (∀ a b, a ≠ 84 → μ' a b = ν a b) → Q (some (.inl r)) μ') : am_Does l 176 [.inr (.inr 83), .inl w, .inl v] ν Q := by
  by_cases h : 0 ≤ w ∧ w ≤ 3
  · rcases (show w = 0 ∨ w = 1 ∨ w = 2 ∨ w = 3 by omega) with e | e | e | e
    · exact n_set_0 w v cw cv e k1 k0
    · exact n_set_1 w v cw cv e k1 k0
    · exact n_set_2 w v cw cv e k1 k0
    · exact n_set_3 w v cw cv e k1 k0
  · exact n_set_9 w v cw cv h k1 k0
theorem s_lane {l : Launch} {ν : am_N} {Q : Option am_V → am_N → Prop} (hS : sx ν ν) (hw : fp_fw 999 (fv ν 1)) (hL : ∀ i : Nat, (i : Int) < ν 36 1 → 0 ≤ ν 37 i ∧ ν 37 i ≤ 255) (k : ∀ (r : Int) (μ' : am_N), fp_LN (ν 37) (ν 36 1) (fv ν 1) r (fv μ' 1) → (∀ a b, ¬(1 ≤ a ∧ a ≤ 14) → ¬(38 ≤ a ∧ a ≤ 43) → ¬(a = 36 ∧ b = 1) → ¬(a = 62 ∧ b = 3) → μ' a b = ν a b) → sx_3 μ' 43 → (0 ≤ μ' 38 0 ∧ μ' 38 0 ≤ 4) → (0 ≤ μ' 8 4 ∧ μ' 8 4 ≤ 4) → (0 ≤ μ' 1 4 ∧ μ' 1 4 ≤ 4) → μ' 36 1 = 0 → (μ' 62 3 = if 0 < r then 0 else ν 62 3) → fp_fw 999 (fv μ' 1) → Q (some (.inl r)) μ') : am_Does l 62 [.inr (.inr 0)] ν Q := by
  refine am_Does_of (Nat.le_of_ble_eq_true rfl) (Nat.le_of_ble_eq_true rfl) (Nat.le_of_ble_eq_true rfl) ?_
  have l0 : am_c 0 = 0 := rfl
  have hb := sx_all hS
  have h43 := hS.2.2.1
  have n0 : 0 ≤ ν 36 1 := by omega
  have n1 : ν 36 1 ≤ 96 := by omega
  have h38 : 0 ≤ ν 38 0 ∧ ν 38 0 ≤ 4 := by omega
  clear hb
  have w1 := (fw_C hw (by decide)).1.1
  refine am_go (ct := fun _ => false) am_oX6_lane 300 ?_
  conv => whnf
  repeat' first
    | (refine (?_ : am_wp _ _ _ _ _ _ _ _ _ _ _ _); conv => whnf)
    | (refine (?_ : am_sw _ _ _ _); conv => whnf)
    | refine And.intro trivial ?_
    | exact trivial
    | ((with_reducible refine (?_ : am_Does _ 2 _ _ _)); first | ((with_reducible refine (?_ : am_Does _ 2 (Sum.inr (Sum.inr 8) :: Sum.inr (Sum.inr 1) :: _) _ _)); (refine x_take_8_1 (fun μ1 f1 s1 r1 => ?_); have e8 : fv μ1 8 = fv ν 1 := fp_ct_e (fun b hb => s1 b hb) (fun a b q1 q2 hb => r1 a q1 q2 b hb); have e37 : μ1 37 = ν 37 := (funext fun b => f1 37 b (by omega)); have e36 : μ1 36 1 = ν 36 1 := f1 36 1 (by omega))) | ((with_reducible refine (?_ : am_Does _ 2 (Sum.inr (Sum.inr 1) :: Sum.inr (Sum.inr 8) :: _) _ _)); (refine x_take_1_8 (fun μ3 f3 s3 r3 => ?_); have e3 : fv μ3 1 = fp_fk (ν 37) (ν 36 1) (fv ν 1) K := (by rw [← e8, ← g4]; exact fp_ct_e (fun b hb => (s3 b hb).trans (am_upN (by decide))) (fun a b q1 q2 hb => (r3 a q1 q2 b hb).trans (am_uE (by omega)))))) | (refine x_take_8_1 (fun μ1 f1 s1 r1 => ?_); have e8 : fv μ1 8 = fv ν 1 := fp_ct_e (fun b hb => s1 b hb) (fun a b q1 q2 hb => r1 a q1 q2 b hb); have e37 : μ1 37 = ν 37 := (funext fun b => f1 37 b (by omega)); have e36 : μ1 36 1 = ν 36 1 := f1 36 1 (by omega)) | (refine x_take_1_8 (fun μ3 f3 s3 r3 => ?_); have e3 : fv μ3 1 = fp_fk (ν 37) (ν 36 1) (fv ν 1) K := (by rw [← e8, ← g4]; exact fp_ct_e (fun b hb => (s3 b hb).trans (am_upN (by decide))) (fun a b q1 q2 hb => (r3 a q1 q2 b hb).trans (am_uE (by omega))))))
    | (show fp_fw _ _; rw [e8]; exact hw)
    | ((with_reducible refine (?_ : am_Does _ 50 _ _ _)); (refine x_tell (ν 37) (ν 36 1) e37 e36 ?_ ?_ hL ?_ ?_ ?_ (fun K y1 y2 y3 => ?_) (fun K j y1 y2 y3 y4 y5 y6 μ2 g0 g1 g2 g3 => ?_) (fun K y1 y2 y3 y4 μ2 g0 g4 g5 g1 g2 => ?_)))
    | ((with_reducible refine (?_ : am_Does _ 44 _ _ _)); first | (refine v_drop_X3_36 ?_; have zk := fp_pk_b n0 K y1; have zb := am_bh_b (ν 37) (ν 36 1) (fp_pk (ν 37) (ν 36 1) K) (by omega) (by omega); have zr : am_c (-1000 - (-1 - am_bh (ν 37) (ν 36 1) (fp_pk (ν 37) (ν 36 1) K))) = -1000 - (-1 - am_bh (ν 37) (ν 36 1) (fp_pk (ν 37) (ν 36 1) K)) := am_cR (by omega) (by omega); have zn : am_c (-1000 - (-1 - am_bh (ν 37) (ν 36 1) (fp_pk (ν 37) (ν 36 1) K))) < 0 := (by omega); clear zb zk zr) | (refine v_drop_X3_36 ?_; have zk := fp_pk_b n0 j (fun i hi => y2 i (by omega)); have zr : am_c (-2000 - fp_pk (ν 37) (ν 36 1) j) = -2000 - fp_pk (ν 37) (ν 36 1) j := am_cR (by omega) (by omega); have zn : am_c (-2000 - fp_pk (ν 37) (ν 36 1) j) < 0 := (by omega); clear zr) | (refine v_drop_X3_36 ?_; have zk := fp_pk_b n0 K y2; have zr : am_c (K : Int) = K := am_cR (by omega) (by omega); have zn : 0 < am_c (K : Int) := (by omega); have w8 := (fw_C (show fp_fw 999 (fv μ2 8) by rw [g4]; exact g5) (by decide)).1.1))
    | refine And.intro (fun h => absurd h (Int.not_le.mpr zn)) (fun _ => ?_)
    | refine And.intro (fun _ => ?_) (fun h => absurd (Int.le_of_lt zn) h)
    | (show Q _ (am_up μ1 36 1 0); have e1 : fv (am_up μ1 36 1 0) 1 = fv ν 1 := fp_ct_e (fun b hb => Eq.trans (am_upN (by decide)) (f1 1 b (by omega))) (fun a b q1 q2 hb => Eq.trans (am_uE (by omega)) (f1 (1 + a) b (by omega))); refine k _ _ (Or.inl ⟨K, y1, y2, y3, rfl, e1⟩) ?_ ?_ ?_ ?_ ?_ ?_ ?_ (by rw [e1]; exact hw))
    | (show Q _ (am_up μ2 36 1 0); have e1 : fv (am_up μ2 36 1 0) 1 = fv ν 1 := fp_ct_e (fun b hb => Eq.trans (am_upN (by decide)) (Eq.trans (g0 1 b (by omega) (by omega)) (f1 1 b (by omega)))) (fun a b q1 q2 hb => Eq.trans (am_uE (by omega)) (Eq.trans (g0 (1 + a) b (by omega) (by omega)) (f1 (1 + a) b (by omega)))); refine k _ _ (Or.inr ⟨K, y1, y2, y3, Or.inl ⟨j, y4, (by rw [e8] at y5; exact y5), (by rw [e8] at y6; exact y6), rfl, e1⟩⟩) ?_ ?_ ?_ ?_ ?_ ?_ ?_ (by rw [e1]; exact hw))
    | ((with_reducible refine (?_ : am_Does _ 49 _ _ _)); refine v_drop_X4 ?_)
    | (show Q _ (am_up μ3 62 3 0); have e4 : fv (am_up μ3 62 3 0) 1 = fv μ3 1 := fp_ct_e (fun b hb => am_upN (by decide)) (fun a b q1 q2 hb => am_uE (by omega)); refine k _ _ (Or.inr ⟨K, y1, y2, y3, Or.inr ⟨(by rw [e8] at y4; exact y4), rfl, (by rw [e4]; exact e3)⟩⟩) ?_ ?_ ?_ ?_ ?_ ?_ ?_ (by rw [e4, e3, ← e8]; exact g5))
    | refine And.intro (fun h => absurd h (by decide)) (fun _ => ?_)
    | refine And.intro (fun _ => ?_) (fun h => absurd (by decide) h)
    | refine And.intro (fun _ => ?_) (fun _ => ?_)
    | refine And.intro ?_ ?_
  all_goals (first | decide | omega | (intro a b q1 q2 q3 q4; exact Eq.trans (am_uE q3) (f1 a b (by omega))) | (intro a b q1 q2 q3 q4; exact Eq.trans (am_uE q3) (Eq.trans (g0 a b (by omega) (by omega)) (f1 a b (by omega)))) | (intro a b q1 q2 q3 q4; exact Eq.trans (am_uE q4) (Eq.trans (f3 a b (by omega)) (Eq.trans (am_uE q3) (Eq.trans (g0 a b (by omega) (by omega)) (f1 a b (by omega)))))) | (intro x hx; rw [am_upN (by decide), f1 43 x (by omega)]; exact h43 x hx) | (intro x hx; rw [f1 43 x (by omega)]; exact h43 x hx) | exact sx_3N g1 (by decide) | (intro x hx; rw [am_upN (by decide), f3 43 x (by omega), am_upN (by decide)]; exact g1 x hx) | (rw [f1 38 0 (by omega)]; omega) | (rw [am_upN (by decide), f1 38 0 (by omega)]; omega) | (rw [am_upN (by decide)]; omega) | (rw [am_upN (by decide), f3 38 0 (by omega), am_upN (by decide)]; omega) | (rw [am_upN (by decide), s1 4 (by decide)]; omega) | (rw [am_upN (by decide), f3 8 4 (by omega), am_upN (by decide)]; omega) | (rw [am_upN (by decide), f1 1 4 (by omega)]; omega) | (rw [am_upN (by decide), g0 1 4 (by omega) (by omega), f1 1 4 (by omega)]; omega) | (rw [am_upN (by decide), s3 4 (by decide), am_upN (by decide)]; omega) | exact if_pos ⟨rfl, rfl⟩ | (rw [am_upN (by decide), f3 36 1 (by omega)]; exact if_pos ⟨rfl, rfl⟩) | (rw [if_neg (by omega), am_upN (by decide), f1 62 3 (by omega)]) | (rw [if_neg (by omega), am_upN (by decide), g0 62 3 (by omega) (by omega), f1 62 3 (by omega)]) | (rw [if_pos (by omega)]; exact if_pos ⟨rfl, rfl⟩) | (trace_state; fail))
/-! the law: words -/
theorem gv_of_sx {μ μ' : am_N} (h : sx μ μ') : gv [] μ μ' := ⟨sx_rb h, fun k j hk => h.1 k j (by
  simp only [Bool.and_eq_true] at hk
  exact hk.1)⟩
def lx_E (E : List Nat) : Prop := ∀ k, 83 ≤ k → E.contains k = false
def lx_A (A : Nat → Nat → Bool) : Prop := ∀ k j, k < 83 → A k j = false
theorem sx_p83 {k : Nat} (h : 83 ≤ k) : sx_p k = true := by
  have b : ∀ a c : Nat, c < 83 → (Nat.ble a k && Nat.ble k c) = false := fun a c hc => by
    cases q : Nat.ble k c with
    | false => exact Bool.and_false _
    | true => have := Nat.ble_eq.mp q; omega
  unfold sx_p
  rw [b 8 21 (by omega), b 29 34 (by omega), b 38 43 (by omega), b 78 82 (by omega)]
  rfl
theorem lx_mi {E : List Nat} {μ μ' : am_N} (hE : lx_E E) (h : gv E μ μ') (hm : mi μ) : mi μ' := by
  have e : ∀ k j, 83 ≤ k → μ' k j = μ k j := fun k j hk => h.2 k j (by rw [sx_p83 hk, hE k hk]; rfl)
  unfold mi at hm ⊢
  rw [e 83 14 (by omega), e 83 15 (by omega), e 83 16 (by omega), e 83 21 (by omega), e 83 33 (by omega), e 83 40 (by omega), e 83 42 (by omega), e 98 44 (by omega), e 98 38 (by omega), e 98 39 (by omega)]
  refine ⟨hm.1, hm.2.1, hm.2.2.1, hm.2.2.2.1, hm.2.2.2.2.1, hm.2.2.2.2.2.1, hm.2.2.2.2.2.2.1, hm.2.2.2.2.2.2.2.1, hm.2.2.2.2.2.2.2.2.1, hm.2.2.2.2.2.2.2.2.2.1, fun p hp => ?_⟩
  rw [e 100 p (by omega)]
  exact hm.2.2.2.2.2.2.2.2.2.2 p hp
theorem lx_sx {A : Nat → Nat → Bool} {μ μ' : am_N} (hA : lx_A A) (h : gm A μ μ') (hs : sx μ μ) : sx μ' μ' := by
  have e : ∀ k j, k < 83 → μ' k j = μ k j := fun k j hk => h.2 k j (hA k j hk)
  obtain ⟨-, h1, h2, h3, h4⟩ := hs
  refine ⟨fun _ _ _ => rfl, fun p hp => ?_, fun p hp => ?_, ?_, ?_⟩
  · rw [e 34 p (by omega)]; exact h1 p hp
  · rw [e 43 p (by omega)]; exact h2 p hp
  · unfold sx_4 at h3 ⊢
    rw [e 8 4 (by omega), e 15 4 (by omega), e 29 0 (by omega), e 38 0 (by omega)]
    exact h3
  · unfold px at h4 ⊢
    rw [e 1 4 (by omega), e 22 4 (by omega), e 36 1 (by omega), e 44 1 (by omega), e 46 1 (by omega), e 48 1 (by omega), e 50 1 (by omega), e 53 1 (by omega), e 55 1 (by omega), e 58 1 (by omega), e 60 1 (by omega), e 62 3 (by omega)]
    exact h4
theorem lx_c {E : List Nat} (h : E.all (fun k => Nat.blt k 83) = true) : lx_E E := fun k hk => by
  cases q : E.contains k with
  | false => rfl
  | true =>
    have := List.all_eq_true.mp h k (List.contains_iff_mem.mp q)
    have := Nat.ble_eq.mp this
    omega
theorem lx_A0 : lx_A ms := fun k j hk => by
  have n : ∀ c, 83 ≤ c → Nat.beq k c = false := fun c hc => by
    cases q : Nat.beq k c with
    | false => rfl
    | true => have := Nat.eq_of_beq_eq_true q; omega
  simp only [ms, mT, n 99 (by omega), n 100 (by omega), n 104 (by omega), n 84 (by omega), n 95 (by omega), n 96 (by omega), n 97 (by omega), n 83 (by omega), Bool.or_self, Bool.false_and, Bool.or_false]
theorem lx_Ao {A B : Nat → Nat → Bool} (h1 : lx_A A) (h2 : lx_A B) : lx_A (mo A B) := fun k j hk => Bool.or_eq_false_iff.mpr ⟨h1 k j hk, h2 k j hk⟩
theorem lx_n {k c : Nat} (hk : k < 83) (hc : 83 ≤ c) : Nat.beq k c = false := by
  cases q : Nat.beq k c with
  | false => rfl
  | true => have := Nat.eq_of_beq_eq_true q; omega
theorem lx_b {k c : Nat} (hk : k < 83) (hc : 83 ≤ c) : Nat.ble c k = false := by
  cases q : Nat.ble c k with
  | false => rfl
  | true => have := Nat.ble_eq.mp q; omega
theorem lx_mo {c b : Nat} (hc : 83 ≤ c) : lx_A (m1o c b) := fun k j hk => by simp only [m1o, lx_n hk hc, lx_n hk (Nat.le_refl 83), Bool.false_and, Bool.or_self]
theorem lx_Q1 : lx_A mQ1 := fun k j hk => by simp only [mQ1, lx_n hk (show 83 ≤ 98 by omega), lx_b hk (show 83 ≤ 85 by omega), Bool.false_and, Bool.or_self]
