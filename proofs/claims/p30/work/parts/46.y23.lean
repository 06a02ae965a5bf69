/-! cups -/
theorem fq_x_l (f : Nat → Int) : ∀ k : Nat, fq_x f k ≤ k := by
  intro k
  induction k with
  | zero => exact Nat.le_refl _
  | succ k ih =>
    simp only [fq_x]
    split <;> omega
theorem fq_x_s {f : Nat → Int} {s : Int} (h : 1 ≤ s) : fq_x f ((s + 1).toNat - 1) = if f (fq_x f (s.toNat - 1)) < f s.toNat then s.toNat else fq_x f (s.toNat - 1) := by
  rw [show (s + 1).toNat - 1 = (s.toNat - 1) + 1 by omega]
  simp only [fq_x]
  rw [show s.toNat - 1 + 1 = s.toNat by omega]
theorem fp_cs_s {F : am_N} {i b j : Int} (j0 : 0 ≤ j) : fp_cs F i b (j + 1).toNat = if j = i ∨ j = am_xor i (b + 1) then fp_cs F i b j.toNat else fp_cs F i b j.toNat + fp_ah F j.toNat (am_xor j (b + 1)).toNat * fp_ah F i.toNat j.toNat := by
  rw [show (j + 1).toNat = j.toNat + 1 by omega]
  simp only [fp_cs]
  rw [Int.toNat_of_nonneg j0]
theorem s_cupWays {l : Launch} {ν : am_N} {Q : Option am_V → am_N → Prop} (i b : Int) (ci : am_c i = i) (cb : am_c b = b) (hS : sx ν ν) (hw : fp_fw 999 (fv ν 1)) (hn : ν 1 4 = 4) (i0 : 0 ≤ i) (i1 : i < 4) (b0 : 0 ≤ b) (b1 : b ≤ 2) (k : ∀ μ' : am_N, (∀ a b, ¬(15 ≤ a ∧ a < 22) → ¬(30 ≤ a ∧ a ≤ 32) → ¬(a = 29 ∧ b = 0) → μ' a b = ν a b) → (0 ≤ μ' 15 4 ∧ μ' 15 4 ≤ 4) → (0 ≤ μ' 29 0 ∧ μ' 29 0 ≤ 4) → Q (some (.inl (fp_cw (fv ν 1) i b))) μ') : am_Does l 132 [.inr (.inr 0), .inl i, .inl b] ν Q := by
  refine am_Does_of (Nat.le_of_ble_eq_true rfl) (Nat.le_of_ble_eq_true rfl) (Nat.le_of_ble_eq_true rfl) ?_
  have l0 : am_c 0 = 0 := rfl
  have l1 : am_c 1 = 1 := rfl
  have l2 : am_c 2 = 2 := rfl
  have l3 : am_c 3 = 3 := rfl
  have l4 : am_c 4 = 4 := rfl
  have l8 : am_c 8 = 8 := rfl
  have l16 : am_c 16 = 16 := rfl
  have l99 : am_c 99 = 99 := rfl
  have m1' : am_c (-1) = -1 := rfl
  have m2' : am_c (-2) = -2 := rfl
  have m3' : am_c (-3) = -3 := rfl
  have m9' : am_c (-9) = -9 := rfl
  obtain ⟨hf, -, -, -, -, -, hx⟩ := fw_C hw (by decide)
  have f0 := hf.1.1
  have f1 := hf.1.2
  have e4 : fv ν 1 0 4 = ν 1 4 := fv_0 (by decide)
  have cn : am_c (ν 1 4) = ν 1 4 := am_cR (by omega) (by omega)
  have xi := fp_xr i0 i1 b0 b1
  have ca : am_c (am_xor i (b + 1)) = am_xor i (b + 1) := am_cR (by omega) (by omega)
  have lp12 : ∀ (m : Nat) (a x j : Int) (μ : am_N) , (∀ a b, ¬(15 ≤ a ∧ a < 22) → ¬(30 ≤ a ∧ a ≤ 32) → ¬(a = 29 ∧ b = 0) → μ a b = ν a b) → 0 ≤ j → j ≤ 4 → x = fp_cs (fv ν 1) i b j.toNat → a = am_xor i (b + 1) → (0 ≤ μ 15 4 ∧ μ 15 4 ≤ 4) → (0 ≤ μ 29 0 ∧ μ 29 0 ≤ 4) → 4 - j < (m : Int) → am_AW l 0 (fun _ => 0) 132 Q 12 [some (.inr (.inr 0)), some (.inl i), some (.inl b), some (.inl a), some (.inl x), some (.inl j)] [] μ := by
    intro m
    induction m with
    | zero =>
      intro a x j μ hv0 hv1 hv2 hv3 hv4 hv5 hv6 hm
      exfalso
      omega
    | succ m ih =>
      intro a x j μ hv0 hv1 hv2 hv3 hv4 hv5 hv6 hm
      have cj : am_c j = j := am_cR (by omega) (by omega)
      have caa : am_c a = a := by rw [hv4]; exact ca
      have e14 : μ 1 4 = 4 := (hv0 1 4 (by omega) (by omega) (by omega)).trans hn
      have eF : fv μ 1 = (fv ν 1) := fv_keep (fun a b q1 q2 => hv0 a b (by omega) (by omega) (by omega))
      have hwm : fp_fw 999 (fv μ 1) := by rw [eF]; exact hw
      refine am_go (ct := fun pc => Nat.beq pc 12) am_oX6_cupWays 300 ?_
      conv => whnf
      repeat' first
        | (refine (?_ : am_wp _ _ _ _ _ _ _ _ _ _ _ _); conv => whnf)
        | (refine (?_ : am_sw _ _ _ _); conv => whnf)
        | refine And.intro trivial ?_
        | exact trivial
        | (have _q := g2; have eF2 : fv μ2 1 = fv ν 1 := (fv_keep (fun a b q1 q2 => g2 a b (by omega) (by omega) (by omega))).trans eF; have e24 : μ2 1 4 = 4 := (g2 1 4 (by omega) (by omega) (by omega)).trans e14; refine s_six i j ci cj (by rw [eF2]; exact hw) (by (rw [cj, ci] at *; first | done | omega)) i0 (by rw [e24]; exact i1) hv1 (by rw [e24]; omega) (fun μ3 g3 m15 m29 => ?_); rw [eF2])
        | (have hj : j < 4 := (by (rw [cj, l4] at *; first | done | omega)); have xj := fp_xr hv1 hj b0 b1; refine s_six j _ cj (am_cR (by omega) (by omega)) hwm (fun z => xj.2 z.symm) hv1 (by rw [e14]; exact hj) xj.1.1 (by rw [e14]; exact xj.1.2) (fun μ2 g2 n15 n29 => ?_); rw [eF])
        | (rw [hv4]; refine s_six i _ ci ca hwm (fun z => xi.2 z.symm) i0 (by rw [e14]; exact i1) xi.1.1 (by rw [e14]; exact xi.1.2) (fun μ4 g4 w15 w29 => ?_); rw [eF])
        | refine am_qe (k _ ?_ ?_ ?_) ?_
        | refine ih _ _ _ _ ?_ ?_ ?_ ?_ ?_ ?_ ?_ ?_
        | refine And.intro (fun h => absurd h (by decide)) (fun _ => ?_)
        | refine And.intro (fun _ => ?_) (fun h => absurd (by decide) h)
        | refine And.intro (fun _ => ?_) (fun _ => ?_)
        | refine And.intro ?_ ?_
      all_goals (first | decide | assumption | omega | (intro a b q1 q2 q3; rw [g3 a b q1 q2 q3, g2 a b q1 q2 q3]; exact hv0 a b q1 q2 q3) | (intro a b q1 q2 q3; rw [g4 a b q1 q2 q3]; exact hv0 a b q1 q2 q3) | (rw [m15]; decide) | (rw [m29]; decide) | (rw [w15]; decide) | (rw [w29]; decide) | (rw [fp_cs_s hv1]; first | (rw [if_pos (by rw [← hv4]; (rw [cj, ci] at *; first | done | omega))]; exact hv3) | (rw [if_pos (by rw [← hv4]; (rw [cj, caa] at *; first | done | omega))]; exact hv3) | (rw [if_neg (by rw [← hv4]; (simp only [cj, ci, caa] at *; first | done | omega)), hv3])) | (unfold fp_cw; rw [hv3, show j.toNat = 4 by (rw [cj, l4] at *; first | done | omega)]) | (trace_state; fail))
  have lp12' : ∀ (a x j : Int) (μ : am_N) , (∀ a b, ¬(15 ≤ a ∧ a < 22) → ¬(30 ≤ a ∧ a ≤ 32) → ¬(a = 29 ∧ b = 0) → μ a b = ν a b) → 0 ≤ j → j ≤ 4 → x = fp_cs (fv ν 1) i b j.toNat → a = am_xor i (b + 1) → (0 ≤ μ 15 4 ∧ μ 15 4 ≤ 4) → (0 ≤ μ 29 0 ∧ μ 29 0 ≤ 4) → am_AW l 0 (fun _ => 0) 132 Q 12 [some (.inr (.inr 0)), some (.inl i), some (.inl b), some (.inl a), some (.inl x), some (.inl j)] [] μ := fun a x j μ hv0 hv1 hv2 hv3 hv4 hv5 hv6 => lp12 ((4 - j) + 1).toNat a x j μ hv0 hv1 hv2 hv3 hv4 hv5 hv6 (by omega)
  refine am_go (ct := fun pc => Nat.beq pc 12) am_oX6_cupWays 300 ?_
  conv => whnf
  repeat' first
    | (refine (?_ : am_wp _ _ _ _ _ _ _ _ _ _ _ _); conv => whnf)
    | (refine (?_ : am_sw _ _ _ _); conv => whnf)
    | refine And.intro trivial ?_
    | exact trivial
    | refine lp12' _ _ _ _ ?_ ?_ ?_ ?_ ?_ ?_ ?_
    | refine And.intro (fun h => absurd h (by decide)) (fun _ => ?_)
    | refine And.intro (fun _ => ?_) (fun h => absurd (by decide) h)
    | refine And.intro (fun _ => ?_) (fun _ => ?_)
    | refine And.intro ?_ ?_
  all_goals (first | decide | assumption | omega | rfl | (intros; rfl) | exact hS.2.2.2.1.2.1 | exact hS.2.2.2.1.2.1.1 | exact hS.2.2.2.1.2.1.2 | exact hS.2.2.2.1.2.2.1 | exact hS.2.2.2.1.2.2.1.1 | exact hS.2.2.2.1.2.2.1.2 | (trace_state; fail))
theorem n_partner {l : Launch} {μ : am_N} {Q : Option am_V → am_N → Prop} (i b : Int) (k : Q (some (.inl (am_xor i (b + 1)))) μ) : am_Does l 218 [.inl i, .inl b] μ Q := by
  refine am_Does_of (Nat.le_of_ble_eq_true rfl) (Nat.le_of_ble_eq_true rfl) (Nat.le_of_ble_eq_true rfl) ?_
  refine am_go (ct := fun _ => false) am_oX7_partner 300 ?_
  conv => whnf
  repeat' first
    | (refine (?_ : am_wp _ _ _ _ _ _ _ _ _ _ _ _); conv => whnf)
    | (refine (?_ : am_sw _ _ _ _); conv => whnf)
    | refine And.intro trivial ?_
    | exact trivial
    | exact k
    | refine And.intro (fun h => absurd h (by decide)) (fun _ => ?_)
    | refine And.intro (fun _ => ?_) (fun h => absurd (by decide) h)
    | refine And.intro (fun _ => ?_) (fun _ => ?_)
    | refine And.intro ?_ ?_
  all_goals (first | decide | (trace_state; fail))
theorem n_cupParts {l : Launch} {ν : am_N} {Q : Option am_V → am_N → Prop} (i b : Int) (ci : am_c i = i) (cb : am_c b = b) (hw : fp_fw 999 (mv ν)) (hn : ν 83 14 = 4) (i0 : 0 ≤ i) (i1 : i < 4) (b0 : 0 ≤ b) (b1 : b ≤ 2) (k : Q (some (.inr (.inl (fp_cw (mv ν) i b)))) ν) : am_Does l 219 [.inr (.inr 83), .inl i, .inl b] ν Q := by
  refine am_Does_of (Nat.le_of_ble_eq_true rfl) (Nat.le_of_ble_eq_true rfl) (Nat.le_of_ble_eq_true rfl) ?_
  have l0 : am_c 0 = 0 := rfl
  have l1 : am_c 1 = 1 := rfl
  have l2 : am_c 2 = 2 := rfl
  have l3 : am_c 3 = 3 := rfl
  have l4 : am_c 4 = 4 := rfl
  have l8 : am_c 8 = 8 := rfl
  have l16 : am_c 16 = 16 := rfl
  have l99 : am_c 99 = 99 := rfl
  have m1' : am_c (-1) = -1 := rfl
  have m2' : am_c (-2) = -2 := rfl
  have m3' : am_c (-3) = -3 := rfl
  have m9' : am_c (-9) = -9 := rfl
  obtain ⟨hf, -, -, -, -, -, hx⟩ := fw_M hw (by decide)
  have f0 := hf.1.1
  have f1 := hf.1.2
  have e4 : mv ν 0 4 = ν 83 14 := rfl
  have cn : am_c (ν 83 14) = ν 83 14 := am_cR (by omega) (by omega)
  have xi := fp_xr i0 i1 b0 b1
  have ca : am_c (am_xor i (b + 1)) = am_xor i (b + 1) := am_cR (by omega) (by omega)
  have lp12 : ∀ (m : Nat) (a x j : Int) , 0 ≤ j → j ≤ 4 → x = fp_cs (mv ν) i b j.toNat → a = am_xor i (b + 1) → 4 - j < (m : Int) → am_AW l 0 (fun _ => 0) 219 Q 12 [some (.inr (.inr 83)), some (.inl i), some (.inl b), some (.inl a), some (.inr (.inl x)), none, some (.inl j)] [] ν := by
    intro m
    induction m with
    | zero =>
      intro a x j  hv0 hv1 hv2 hv3 hm
      exfalso
      omega
    | succ m ih =>
      intro a x j  hv0 hv1 hv2 hv3 hm
      have cj : am_c j = j := am_cR (by omega) (by omega)
      have caa : am_c a = a := by rw [hv3]; exact ca
      have h1 := fp_ah_b (mv ν) j.toNat (am_xor j (b + 1)).toNat
      have h2 := fp_ah_b (mv ν) i.toNat j.toNat
      have h3 := am_mulb h1.1 h1.2 h2.1 h2.2
      have cm : am_c (fp_ah (mv ν) j.toNat (am_xor j (b + 1)).toNat * fp_ah (mv ν) i.toNat j.toNat) = fp_ah (mv ν) j.toNat (am_xor j (b + 1)).toNat * fp_ah (mv ν) i.toNat j.toNat := am_cR (by omega) (by omega)
      have h4 := fp_ah_b (mv ν) i.toNat (am_xor i (b + 1)).toNat
      have ch : am_c (fp_ah (mv ν) i.toNat (am_xor i (b + 1)).toNat) = fp_ah (mv ν) i.toNat (am_xor i (b + 1)).toNat := am_cR (by omega) (by omega)
      refine am_go (ct := fun pc => Nat.beq pc 12) am_oX7_cupParts 300 ?_
      conv => whnf
      repeat' first
        | (refine (?_ : am_wp _ _ _ _ _ _ _ _ _ _ _ _); conv => whnf)
        | (refine (?_ : am_sw _ _ _ _); conv => whnf)
        | refine And.intro trivial ?_
        | exact trivial
        | refine n_partner _ _ ?_
        | (have hj : j < 4 := (by (rw [cj, l4] at *; first | done | omega)); have xj := fp_xr hv0 hj b0 b1; refine n_aheadOf j (am_xor j (b + 1)) hw ⟨hv0, by rw [hn]; exact hj⟩ ⟨xj.1.1, by rw [hn]; exact xj.1.2⟩ ?_)
        | (have hj : j < 4 := (by (rw [cj, l4] at *; first | done | omega)); refine n_aheadOf i j hw ⟨i0, by rw [hn]; exact i1⟩ ⟨hv0, by rw [hn]; exact hj⟩ ?_)
        | (rw [hv3]; refine n_aheadOf i (am_xor i (b + 1)) hw ⟨i0, by rw [hn]; exact i1⟩ ⟨xi.1.1, by rw [hn]; exact xi.1.2⟩ ?_)
        | refine am_qd k ?_
        | refine n_partner _ _ ?_
        | refine ih _ _ _  ?_ ?_ ?_ ?_ ?_
        | refine And.intro (fun h => absurd h (by decide)) (fun _ => ?_)
        | refine And.intro (fun _ => ?_) (fun h => absurd (by decide) h)
        | refine And.intro (fun _ => ?_) (fun _ => ?_)
        | refine And.intro ?_ ?_
      all_goals (first | decide | assumption | omega | (rw [fp_cs_s hv0]; first | (rw [if_pos (by rw [← hv3]; (rw [cj, ci] at *; first | done | omega))]; exact hv2) | (rw [if_pos (by rw [← hv3]; (rw [cj, caa] at *; first | done | omega))]; exact hv2) | (rw [if_neg (by rw [← hv3]; (simp only [cj, ci, caa] at *; first | done | omega)), hv2, cm])) | (unfold fp_cw; rw [ch, hv2, show j.toNat = 4 by (rw [cj, l4] at *; first | done | omega)]; exact Int.mul_comm _ _) | (trace_state; fail))
  have lp12' : ∀ (a x j : Int) , 0 ≤ j → j ≤ 4 → x = fp_cs (mv ν) i b j.toNat → a = am_xor i (b + 1) → am_AW l 0 (fun _ => 0) 219 Q 12 [some (.inr (.inr 83)), some (.inl i), some (.inl b), some (.inl a), some (.inr (.inl x)), none, some (.inl j)] [] ν := fun a x j  hv0 hv1 hv2 hv3 => lp12 ((4 - j) + 1).toNat a x j  hv0 hv1 hv2 hv3 (by omega)
  refine am_go (ct := fun pc => Nat.beq pc 12) am_oX7_cupParts 300 ?_
  conv => whnf
  repeat' first
    | (refine (?_ : am_wp _ _ _ _ _ _ _ _ _ _ _ _); conv => whnf)
    | (refine (?_ : am_sw _ _ _ _); conv => whnf)
    | refine And.intro trivial ?_
    | exact trivial
    | refine n_partner _ _ ?_
    | refine lp12' _ _ _  ?_ ?_ ?_ ?_
    | refine And.intro (fun h => absurd h (by decide)) (fun _ => ?_)
    | refine And.intro (fun _ => ?_) (fun h => absurd (by decide) h)
    | refine And.intro (fun _ => ?_) (fun _ => ?_)
    | refine And.intro ?_ ?_
  all_goals (first | decide | assumption | omega | rfl | (trace_state; fail))
theorem s_bracket {l : Launch} {ν : am_N} {Q : Option am_V → am_N → Prop} (i : Int) (ci : am_c i = i) (hS : sx ν ν) (hw : fp_fw 999 (fv ν 1)) (k : ∀ μ' : am_N, sx ν μ' → Q (some (.inl (fp_br (fv ν 1) i))) μ') : am_Does l 96 [.inr (.inr 0), .inl i] ν Q := by
  refine am_Does_of (Nat.le_of_ble_eq_true rfl) (Nat.le_of_ble_eq_true rfl) (Nat.le_of_ble_eq_true rfl) ?_
  have l0 : am_c 0 = 0 := rfl
  have l1 : am_c 1 = 1 := rfl
  have l2 : am_c 2 = 2 := rfl
  have l3 : am_c 3 = 3 := rfl
  have l4 : am_c 4 = 4 := rfl
  have l8 : am_c 8 = 8 := rfl
  have l16 : am_c 16 = 16 := rfl
  have l99 : am_c 99 = 99 := rfl
  have m1' : am_c (-1) = -1 := rfl
  have m2' : am_c (-2) = -2 := rfl
  have m3' : am_c (-3) = -3 := rfl
  have m9' : am_c (-9) = -9 := rfl
  obtain ⟨hf, -, -, -, -, -, hx⟩ := fw_C hw (by decide)
  have f0 := hf.1.1
  have f1 := hf.1.2
  have e4 : fv ν 1 0 4 = ν 1 4 := fv_0 (by decide)
  have cn : am_c (ν 1 4) = ν 1 4 := am_cR (by omega) (by omega)
  have kk := fun (x : Int) (μ' : am_N) (h : sx ν μ') (e : x = fp_br (fv ν 1) i) => am_qe (k μ' h) e
  have lp42 : ∀ (m : Nat) (t y s : Int) (o5 : Option am_V) (μ : am_N) , (∀ a b, ¬(15 ≤ a ∧ a < 22) → ¬(30 ≤ a ∧ a ≤ 32) → ¬(a = 29 ∧ b = 0) → μ a b = ν a b) → 0 ≤ s → s ≤ 3 → ν 1 4 = 4 → (0 ≤ i ∧ i < 4) → (s = 0 ∧ t = 0 ∧ y = -1) ∨ (1 ≤ s ∧ t = ((fq_x (fun b : Nat => fp_cw (fv ν 1) i (b : Int)) (s.toNat - 1) : Nat) : Int) ∧ y = fp_cw (fv ν 1) i ((fq_x (fun b : Nat => fp_cw (fv ν 1) i (b : Int)) (s.toNat - 1) : Nat) : Int)) → (0 ≤ μ 15 4 ∧ μ 15 4 ≤ 4) → (0 ≤ μ 29 0 ∧ μ 29 0 ≤ 4) → 3 - s < (m : Int) → am_AW l 0 (fun _ => 0) 96 Q 42 [some (.inr (.inr 0)), some (.inl i), some (.inl t), some (.inl y), some (.inl s), o5] [] μ := by
    intro m
    induction m with
    | zero =>
      intro t y s o5 μ hv0 hv1 hv2 hv3 hv4 hv5 hv6 hv7 hm
      exfalso
      omega
    | succ m ih =>
      intro t y s o5 μ hv0 hv1 hv2 hv3 hv4 hv5 hv6 hv7 hm
      have cs : am_c s = s := am_cR (by omega) (by omega)
      have sE : sx ν μ := sx_ad hS (fun a b q1 q2 q3 _ => hv0 a b q1 q2 q3) hv6 hv7
      have sM : sx μ μ := sx_rf sE.2.1 sE.2.2.1 sE.2.2.2.1 (sx_px sE)
      have eF : fv μ 1 = (fv ν 1) := fv_keep (fun a b q1 q2 => hv0 a b (by omega) (by omega) (by omega))
      have e14 : μ 1 4 = 4 := (hv0 1 4 (by omega) (by omega) (by omega)).trans hv3
      have us := fp_cw_b (fv ν 1) i s
      have uy := fp_cw_b (fv ν 1) i ((fq_x (fun b : Nat => fp_cw (fv ν 1) i (b : Int)) (s.toNat - 1) : Nat) : Int)
      have cy : am_c y = y := am_cR (by omega) (by omega)
      have cu : am_c (fp_cw (fv ν 1) i s) = fp_cw (fv ν 1) i s := am_cR (by omega) (by omega)
      have es : ((s.toNat : Nat) : Int) = s := Int.toNat_of_nonneg hv1
      refine am_go (ct := fun pc => Nat.beq pc 42) am_oX6_bracket 300 ?_
      conv => whnf
      repeat' first
        | (refine (?_ : am_wp _ _ _ _ _ _ _ _ _ _ _ _); conv => whnf)
        | (refine (?_ : am_sw _ _ _ _); conv => whnf)
        | refine And.intro trivial ?_
        | exact trivial
        | (have s2 : s ≤ 2 := (by (rw [cs, l2] at *; first | done | omega)); refine s_cupWays _ _ ci cs sM (by rw [eF]; exact hw) e14 hv4.1 hv4.2 hv1 s2 (fun μ2 g2 n15 n29 => ?_); rw [eF])
        | refine kk _ _ sE ?_
        | refine x_has1 _ f0 f1 (fun y0 y1 => ?_) (fun y => ?_)
        | refine x_refuse _ ?_ (fun μr fr => ?_)
        | refine kk _ _ (sx_78 hS fr) ?_
        | refine ih _ _ _ _ _ ?_ ?_ ?_ ?_ ?_ ?_ ?_ ?_ ?_
        | refine And.intro (fun h => absurd h (by decide)) (fun _ => ?_)
        | refine And.intro (fun _ => ?_) (fun h => absurd (by decide) h)
        | refine And.intro (fun _ => ?_) (fun _ => ?_)
        | refine And.intro ?_ ?_
      all_goals (first | decide | assumption | omega | (intro a b q1 q2 q3; rw [g2 a b q1 q2 q3]; exact hv0 a b q1 q2 q3) | (refine Or.inr ⟨by omega, ?_⟩; rcases hv5 with ⟨z1, z2, z3⟩ | ⟨z1, z2, z3⟩; (subst z1; first | exact ⟨rfl, rfl⟩ | (exfalso; (simp only [cu, cy] at *; first | done | omega))); (rw [fq_x_s z1]; simp only [es]; first | (rw [if_pos (by rw [← z3]; (simp only [cu, cy] at *; first | done | omega))]; exact ⟨es.symm, by rw [es]⟩) | (rw [if_neg (by rw [← z3]; (simp only [cu, cy] at *; first | done | omega))]; exact ⟨z2, z3⟩))) | (have x := hv5.resolve_left (by (simp only [cs, l2, l3] at *; first | done | omega)); unfold fp_br; rw [e4, if_neg (by omega), if_neg (by omega), x.2.1, show s.toNat - 1 = 2 by (simp only [cs, l2, l3] at *; first | done | omega)]) | (trace_state; fail))
  have lp42' : ∀ (t y s : Int) (o5 : Option am_V) (μ : am_N) , (∀ a b, ¬(15 ≤ a ∧ a < 22) → ¬(30 ≤ a ∧ a ≤ 32) → ¬(a = 29 ∧ b = 0) → μ a b = ν a b) → 0 ≤ s → s ≤ 3 → ν 1 4 = 4 → (0 ≤ i ∧ i < 4) → (s = 0 ∧ t = 0 ∧ y = -1) ∨ (1 ≤ s ∧ t = ((fq_x (fun b : Nat => fp_cw (fv ν 1) i (b : Int)) (s.toNat - 1) : Nat) : Int) ∧ y = fp_cw (fv ν 1) i ((fq_x (fun b : Nat => fp_cw (fv ν 1) i (b : Int)) (s.toNat - 1) : Nat) : Int)) → (0 ≤ μ 15 4 ∧ μ 15 4 ≤ 4) → (0 ≤ μ 29 0 ∧ μ 29 0 ≤ 4) → am_AW l 0 (fun _ => 0) 96 Q 42 [some (.inr (.inr 0)), some (.inl i), some (.inl t), some (.inl y), some (.inl s), o5] [] μ := fun t y s o5 μ hv0 hv1 hv2 hv3 hv4 hv5 hv6 hv7 => lp42 ((3 - s) + 1).toNat t y s o5 μ hv0 hv1 hv2 hv3 hv4 hv5 hv6 hv7 (by omega)
  refine am_go (ct := fun pc => Nat.beq pc 42) am_oX6_bracket 300 ?_
  conv => whnf
  repeat' first
    | (refine (?_ : am_wp _ _ _ _ _ _ _ _ _ _ _ _); conv => whnf)
    | (refine (?_ : am_sw _ _ _ _); conv => whnf)
    | refine And.intro trivial ?_
    | exact trivial
    | refine x_has1 _ f0 f1 (fun y0 y1 => ?_) (fun y => ?_)
    | refine x_refuse _ ?_ (fun μr fr => ?_)
    | refine kk _ _ (sx_78 hS fr) ?_
    | refine lp42' _ _ _ _ _ ?_ ?_ ?_ ?_ ?_ ?_ ?_ ?_
    | refine And.intro (fun h => absurd h (by decide)) (fun _ => ?_)
    | refine And.intro (fun _ => ?_) (fun h => absurd (by decide) h)
    | refine And.intro (fun _ => ?_) (fun _ => ?_)
    | refine And.intro ?_ ?_
  all_goals (first | decide | assumption | omega | ((simp only [cn, l4] at *; first | done | omega)) | rfl | (intros; rfl) | exact hS.2.2.2.1.2.1 | exact hS.2.2.2.1.2.1.1 | exact hS.2.2.2.1.2.1.2 | exact hS.2.2.2.1.2.2.1 | exact hS.2.2.2.1.2.2.1.1 | exact hS.2.2.2.1.2.2.1.2 | exact Or.inl ⟨rfl, rfl, rfl⟩ | (unfold fp_br; rw [e4, if_pos (by omega)]) | (unfold fp_br; rw [e4, if_neg (by omega), if_pos (by (simp only [cn, l4] at *; first | done | omega))]) | (trace_state; fail))
theorem n_bracket {l : Launch} {ν : am_N} {Q : Option am_V → am_N → Prop} (i : Int) (ci : am_c i = i) (hm : mi ν) (hw : fp_fw 999 (mv ν)) (k : ∀ μ' : am_N, gm ms ν μ' → Q (some (.inl (fp_br (mv ν) i))) μ') : am_Does l 221 [.inr (.inr 83), .inl i] ν Q := by
  refine am_Does_of (Nat.le_of_ble_eq_true rfl) (Nat.le_of_ble_eq_true rfl) (Nat.le_of_ble_eq_true rfl) ?_
  have l0 : am_c 0 = 0 := rfl
  have l1 : am_c 1 = 1 := rfl
  have l2 : am_c 2 = 2 := rfl
  have l3 : am_c 3 = 3 := rfl
  have l4 : am_c 4 = 4 := rfl
  have l8 : am_c 8 = 8 := rfl
  have l16 : am_c 16 = 16 := rfl
  have l99 : am_c 99 = 99 := rfl
  have m1' : am_c (-1) = -1 := rfl
  have m2' : am_c (-2) = -2 := rfl
  have m3' : am_c (-3) = -3 := rfl
  have m9' : am_c (-9) = -9 := rfl
  obtain ⟨hf, -, -, -, -, -, hx⟩ := fw_M hw (by decide)
  have f0 := hf.1.1
  have f1 := hf.1.2
  have e4 : mv ν 0 4 = ν 83 14 := rfl
  have cn : am_c (ν 83 14) = ν 83 14 := am_cR (by omega) (by omega)
  have hm0 := hm
  have kk := fun (x : Int) (μ' : am_N) (h : gm ms ν μ') (e : x = fp_br (mv ν) i) => am_qe (k μ' h) e
  have lp42 : ∀ (m : Nat) (y t s : Int) , 1 ≤ s → s ≤ 3 → t = ((fq_x (fun b : Nat => fp_cw (mv ν) i (b : Int)) (s.toNat - 1) : Nat) : Int) → ν 83 14 = 4 → (0 ≤ i ∧ i < 4) → 3 - s < (m : Int) → am_AW l 0 (fun _ => 0) 221 Q 42 [some (.inr (.inr 83)), some (.inl i), some (.inl y), some (.inl t), some (.inl s)] [] ν := by
    intro m
    induction m with
    | zero =>
      intro y t s  hv0 hv1 hv2 hv3 hv4 hm
      exfalso
      omega
    | succ m ih =>
      intro y t s  hv0 hv1 hv2 hv3 hv4 hm
      have cs : am_c s = s := am_cR (by omega) (by omega)
      have tl := fq_x_l (fun b : Nat => fp_cw (mv ν) i (b : Int)) (s.toNat - 1)
      have ct : am_c t = t := am_cR (by omega) (by omega)
      have us := fp_cw_b (mv ν) i s
      have ut := fp_cw_b (mv ν) i t
      have du : am_d (fp_cw (mv ν) i s) = fp_cw (mv ν) i s := fp_dR (by omega) (by omega)
      have dt : am_d (fp_cw (mv ν) i t) = fp_cw (mv ν) i t := fp_dR (by omega) (by omega)
      have z1 := fp_lcv (fp_cw (mv ν) i s) (fp_cw (mv ν) i t)
      have es : ((s.toNat : Nat) : Int) = s := Int.toNat_of_nonneg (by omega)
      refine am_go (ct := fun pc => Nat.beq pc 42) am_oX7_bracket 300 ?_
      conv => whnf
      repeat' first
        | (refine (?_ : am_wp _ _ _ _ _ _ _ _ _ _ _ _); conv => whnf)
        | (refine (?_ : am_sw _ _ _ _); conv => whnf)
        | refine And.intro trivial ?_
        | exact trivial
        | (refine n_cupParts i _ ci ?_ hw hv3 hv4.1 hv4.2 ?_ ?_ ?_)
        | refine kk _ _ (gm_rf hm0) ?_
        | refine x_isRunnerT _ f0 f1 (fun y0 y1 => ?_) (fun y => ?_)
        | refine x_no _ ?_ (fun μr fr => ?_)
        | refine kk _ _ (mi_84 hm fr) ?_
        | refine And.intro (fun h => absurd h (by omega)) (fun _ => ?_)
        | refine And.intro (fun _ => ?_) (fun h => absurd h (by omega))
        | refine ih _ _ _  ?_ ?_ ?_ ?_ ?_ ?_
        | refine And.intro (fun h => absurd h (by decide)) (fun _ => ?_)
        | refine And.intro (fun _ => ?_) (fun h => absurd (by decide) h)
        | refine And.intro (fun _ => ?_) (fun _ => ?_)
        | refine And.intro ?_ ?_
      all_goals (first | decide | assumption | omega | ((simp only [cs, l3] at *; first | done | omega)) | (rw [fq_x_s hv0]; simp only [es]; rw [← hv2]; first | (rw [if_pos (by (simp only [du, dt, l0] at *; first | done | omega))]; exact es.symm) | (rw [if_neg (by (simp only [du, dt, l0] at *; first | done | omega))]; exact hv2)) | (unfold fp_br; rw [e4, if_neg (by omega), if_neg (by omega), hv2, show s.toNat - 1 = 2 by (simp only [cs, l3] at *; first | done | omega)]) | (trace_state; fail))
  have lp42' : ∀ (y t s : Int) , 1 ≤ s → s ≤ 3 → t = ((fq_x (fun b : Nat => fp_cw (mv ν) i (b : Int)) (s.toNat - 1) : Nat) : Int) → ν 83 14 = 4 → (0 ≤ i ∧ i < 4) → am_AW l 0 (fun _ => 0) 221 Q 42 [some (.inr (.inr 83)), some (.inl i), some (.inl y), some (.inl t), some (.inl s)] [] ν := fun y t s  hv0 hv1 hv2 hv3 hv4 => lp42 ((3 - s) + 1).toNat y t s  hv0 hv1 hv2 hv3 hv4 (by omega)
  refine am_go (ct := fun pc => Nat.beq pc 42) am_oX7_bracket 300 ?_
  conv => whnf
  repeat' first
    | (refine (?_ : am_wp _ _ _ _ _ _ _ _ _ _ _ _); conv => whnf)
    | (refine (?_ : am_sw _ _ _ _); conv => whnf)
    | refine And.intro trivial ?_
    | exact trivial
    | refine x_isRunnerT _ f0 f1 (fun y0 y1 => ?_) (fun y => ?_)
    | refine x_no _ ?_ (fun μr fr => ?_)
    | refine kk _ _ (mi_84 hm fr) ?_
    | refine And.intro (fun h => absurd h (by omega)) (fun _ => ?_)
    | refine And.intro (fun _ => ?_) (fun h => absurd h (by omega))
    | refine lp42' _ _ _  ?_ ?_ ?_ ?_ ?_
    | refine And.intro (fun h => absurd h (by decide)) (fun _ => ?_)
    | refine And.intro (fun _ => ?_) (fun h => absurd (by decide) h)
    | refine And.intro (fun _ => ?_) (fun _ => ?_)
    | refine And.intro ?_ ?_
  all_goals (first | decide | assumption | omega | ((simp only [cn, l4] at *; first | done | omega)) | rfl | (unfold fp_br; rw [e4, if_pos (by omega)]) | (unfold fp_br; rw [e4, if_neg (by omega), if_pos (by (simp only [cn, l4] at *; first | done | omega))]) | (trace_state; fail))
theorem s_cup {l : Launch} {ν : am_N} {Q : Option am_V → am_N → Prop} (i b w : Int) (ci : am_c i = i) (cb : am_c b = b) (cw : am_c w = w) (hS : sx ν ν) (hw : fp_fw 999 (fv ν 1)) (k : ∀ μ' : am_N, sx ν μ' → Q (some (.inr (.inl (fp_cpr (fv ν 1) i b w)))) μ') : am_Does l 95 [.inr (.inr 0), .inl i, .inl b, .inl w] ν Q := by
  refine am_Does_of (Nat.le_of_ble_eq_true rfl) (Nat.le_of_ble_eq_true rfl) (Nat.le_of_ble_eq_true rfl) ?_
  have l0 : am_c 0 = 0 := rfl
  have l1 : am_c 1 = 1 := rfl
  have l2 : am_c 2 = 2 := rfl
  have l3 : am_c 3 = 3 := rfl
  have l4 : am_c 4 = 4 := rfl
  have l8 : am_c 8 = 8 := rfl
  have l16 : am_c 16 = 16 := rfl
  have l99 : am_c 99 = 99 := rfl
  have m1' : am_c (-1) = -1 := rfl
  have m2' : am_c (-2) = -2 := rfl
  have m3' : am_c (-3) = -3 := rfl
  have m9' : am_c (-9) = -9 := rfl
  obtain ⟨hf, -, -, -, -, -, hx⟩ := fw_C hw (by decide)
  have f0 := hf.1.1
  have f1 := hf.1.2
  have e4 : fv ν 1 0 4 = ν 1 4 := fv_0 (by decide)
  have cn : am_c (ν 1 4) = ν 1 4 := am_cR (by omega) (by omega)
  have ub := fp_cw_b (fv ν 1) i b
  have cu : am_c (fp_cw (fv ν 1) i b) = fp_cw (fv ν 1) i b := am_cR (by omega) (by omega)
  have kk := fun (x : Int) (μ' : am_N) (h : sx ν μ') (e : x = fp_cpr (fv ν 1) i b w) => am_qd (k μ' h) e
  refine am_go (ct := fun _ => false) am_oX6_cup 300 ?_
  conv => whnf
  repeat' first
    | (refine (?_ : am_wp _ _ _ _ _ _ _ _ _ _ _ _); conv => whnf)
    | (refine (?_ : am_sw _ _ _ _); conv => whnf)
    | refine And.intro trivial ?_
    | exact trivial
    | refine x_has1 _ f0 f1 (fun y0 y1 => ?_) (fun y => ?_)
    | refine x_refuseLong _ ?_ (fun μr fr => ?_)
    | refine x_noPart _ cw (fun z => ?_) (fun z => ?_)
    | (refine s_cupWays _ _ ci cb hS hw (by (simp only [cn, l4] at *; first | done | omega)) (by omega) (by (simp only [cn, l4] at *; first | done | omega)) (by (simp only [cb, l0, l2] at *; first | done | omega)) (by (simp only [cb, l0, l2] at *; first | done | omega)) (fun μ1 g1 n15 n29 => ?_); have sE : sx ν μ1 := sx_ad hS (fun a b q1 q2 q3 _ => g1 a b q1 q2 q3) n15 n29)
    | (rw [cu]; refine s_fraction _ _ _ 12 cw ub.1 (by omega) rfl (by decide) (by decide) ?_)
    | refine kk _ _ sE ?_
    | refine kk _ _ (sx_78 hS fr) ?_
    | refine And.intro (fun h => absurd h (by decide)) (fun _ => ?_)
    | refine And.intro (fun _ => ?_) (fun h => absurd (by decide) h)
    | refine And.intro (fun _ => ?_) (fun _ => ?_)
    | refine And.intro ?_ ?_
  all_goals (first | decide | omega | (unfold fp_cpr; rw [e4, if_pos (by omega)]; rfl) | (unfold fp_cpr; rw [e4, if_neg (by omega), if_pos (by (simp only [cb, cw, l0, l1, l2] at *; first | done | omega))]; rfl) | (unfold fp_cpr; rw [e4, if_neg (by omega), if_neg (by (simp only [cb, cw, l0, l1, l2] at *; first | done | omega)), if_pos (by (simp only [cn, l4] at *; first | done | omega))]; rfl) | (unfold fp_cpr; rw [e4, if_neg (by omega), if_neg (by (simp only [cb, cw, l0, l1, l2] at *; first | done | omega)), if_neg (by (simp only [cn, l4] at *; first | done | omega))]) | (trace_state; fail))
theorem n_cup {l : Launch} {ν : am_N} {Q : Option am_V → am_N → Prop} (i b w : Int) (ci : am_c i = i) (cb : am_c b = b) (cw : am_c w = w) (hm : mi ν) (hw : fp_fw 999 (mv ν)) (k : ∀ μ' : am_N, gm ms ν μ' → Q (some (.inr (.inl (fp_cpr (mv ν) i b w)))) μ') : am_Does l 220 [.inr (.inr 83), .inl i, .inl b, .inl w] ν Q := by
  refine am_Does_of (Nat.le_of_ble_eq_true rfl) (Nat.le_of_ble_eq_true rfl) (Nat.le_of_ble_eq_true rfl) ?_
  have l0 : am_c 0 = 0 := rfl
  have l1 : am_c 1 = 1 := rfl
  have l2 : am_c 2 = 2 := rfl
  have l3 : am_c 3 = 3 := rfl
  have l4 : am_c 4 = 4 := rfl
  have l8 : am_c 8 = 8 := rfl
  have l16 : am_c 16 = 16 := rfl
  have l99 : am_c 99 = 99 := rfl
  have m1' : am_c (-1) = -1 := rfl
  have m2' : am_c (-2) = -2 := rfl
  have m3' : am_c (-3) = -3 := rfl
  have m9' : am_c (-9) = -9 := rfl
  obtain ⟨hf, -, -, -, -, -, hx⟩ := fw_M hw (by decide)
  have f0 := hf.1.1
  have f1 := hf.1.2
  have e4 : mv ν 0 4 = ν 83 14 := rfl
  have cn : am_c (ν 83 14) = ν 83 14 := am_cR (by omega) (by omega)
  have ub := fp_cw_b (mv ν) i b
  have kk := fun (x : Int) (μ' : am_N) (h : gm ms ν μ') (e : x = fp_cpr (mv ν) i b w) => am_qd (k μ' h) e
  refine am_go (ct := fun _ => false) am_oX7_cup 300 ?_
  conv => whnf
  repeat' first
    | (refine (?_ : am_wp _ _ _ _ _ _ _ _ _ _ _ _); conv => whnf)
    | (refine (?_ : am_sw _ _ _ _); conv => whnf)
    | refine And.intro trivial ?_
    | exact trivial
    | refine x_isRunnerT _ f0 f1 (fun y0 y1 => ?_) (fun y => ?_)
    | refine x_isIn b _ _ _ rfl cb ?_ ?_ (fun _ _ => ?_) (fun _ => ?_)
    | refine x_isIn w _ _ _ rfl cw ?_ ?_ (fun _ _ => ?_) (fun _ => ?_)
    | refine x_lowest _ ?_ (fun μr fr => ?_)
    | (refine n_cupParts _ _ ci cb hw (by (simp only [cn, l4] at *; first | done | omega)) (by omega) (by (simp only [cn, l4] at *; first | done | omega)) (by omega) (by omega) ?_)
    | (refine n_partOf _ _ _ cw ub.1 (by omega) (by decide) (by decide) ?_)
    | refine kk _ _ (gm_rf hm) ?_
    | refine kk _ _ (mi_84 hm fr) ?_
    | refine And.intro (fun h => absurd h (by omega)) (fun _ => ?_)
    | refine And.intro (fun _ => ?_) (fun h => absurd h (by omega))
    | refine And.intro (fun h => absurd h (by decide)) (fun _ => ?_)
    | refine And.intro (fun _ => ?_) (fun h => absurd (by decide) h)
    | refine And.intro (fun _ => ?_) (fun _ => ?_)
    | refine And.intro ?_ ?_
  all_goals (first | decide | omega | ((simp only [cn, l4] at *; first | done | omega)) | (unfold fp_cpr; rw [e4, if_pos (by omega)]; rfl) | (unfold fp_cpr; rw [e4, if_neg (by omega), if_pos (by (simp only [cb, cw, l0, l1, l2] at *; first | done | omega))]; rfl) | (unfold fp_cpr; rw [e4, if_neg (by omega), if_neg (by (simp only [cb, cw, l0, l1, l2] at *; first | done | omega)), if_pos (by (simp only [cn, l4] at *; first | done | omega))]; rfl) | (unfold fp_cpr; rw [e4, if_neg (by omega), if_neg (by (simp only [cb, cw, l0, l1, l2] at *; first | done | omega)), if_neg (by (simp only [cn, l4] at *; first | done | omega))]) | (trace_state; fail))
