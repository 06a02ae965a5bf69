/-! the first of the least -/
def fq_m (f : Nat → Int) : Nat → Nat
  | 0 => 0
  | k + 1 => if f (k + 1) < f (fq_m f k) then k + 1 else fq_m f k
theorem fq_m_l (f : Nat → Int) : ∀ k : Nat, fq_m f k ≤ k := by
  intro k
  induction k with
  | zero => exact Nat.le_refl _
  | succ k ih =>
    simp only [fq_m]
    split <;> omega
/-- a step: s stands for s tries made -/
theorem fq_m_s {f : Nat → Int} {s : Int} (h : 1 ≤ s) : fq_m f ((s + 1).toNat - 1) = if f s.toNat < f (fq_m f (s.toNat - 1)) then s.toNat else fq_m f (s.toNat - 1) := by
  rw [show (s + 1).toNat - 1 = (s.toNat - 1) + 1 by omega]
  simp only [fq_m]
  rw [show s.toNat - 1 + 1 = s.toNat by omega]
/-- points of a league -/
def fp_lp (F : am_N) (i : Nat) : Nat → Int
  | 0 => 0
  | j + 1 => if j = i then fp_lp F i j else fp_lp F i j + fp_ah F i j
theorem fp_lp_b (F : am_N) (i : Nat) : ∀ m : Nat, 0 ≤ fp_lp F i m ∧ fp_lp F i m ≤ 16 * (m : Int) := by
  intro m
  induction m with
  | zero => exact ⟨(by first | exact Int.le_refl 0 | (show (0 : Int) ≤ 1; decide) | (show (0 : Int) ≤ _; decide) | (show _ ≤ (0 : Int); decide) | (show (1 : Int) ≤ _; decide) | (show (0 : Int) < _; decide)), (by first | exact Int.le_refl 0 | (show (0 : Int) ≤ 1; decide) | (show (0 : Int) ≤ _; decide) | (show _ ≤ (0 : Int); decide) | (show (1 : Int) ≤ _; decide) | (show (0 : Int) < _; decide))⟩
  | succ m ih =>
    have h := fp_ah_b F i m
    simp only [fp_lp]
    split <;> omega
def fp_lgr (F : am_N) (i w : Int) : Int := if ¬(0 ≤ i ∧ i < F 0 4) then 4000000000000000001 else if ¬(w = 0 ∨ w = 1) then 4000000000000000002 else fp_fr (fp_lp F i.toNat (F 0 4).toNat) 16 w
/-- brackets -/
theorem fp_xrF : ∀ (i : Fin 4) (b : Fin 3), (0 ≤ am_xor ((i : Nat) : Int) (((b : Nat) : Int) + 1) ∧ am_xor ((i : Nat) : Int) (((b : Nat) : Int) + 1) < 4) ∧ am_xor ((i : Nat) : Int) (((b : Nat) : Int) + 1) ≠ ((i : Nat) : Int) := by decide +kernel
theorem fp_xr {i b : Int} (i0 : 0 ≤ i) (i1 : i < 4) (b0 : 0 ≤ b) (b1 : b ≤ 2) : (0 ≤ am_xor i (b + 1) ∧ am_xor i (b + 1) < 4) ∧ am_xor i (b + 1) ≠ i := by
  have h := fp_xrF ⟨i.toNat, by omega⟩ ⟨b.toNat, by omega⟩
  simp only [Int.toNat_of_nonneg i0, Int.toNat_of_nonneg b0] at h
  exact h
def fp_cs (F : am_N) (i b : Int) : Nat → Int
  | 0 => 0
  | j + 1 => if (j : Int) = i ∨ (j : Int) = am_xor i (b + 1) then fp_cs F i b j else fp_cs F i b j + fp_ah F j (am_xor j (b + 1)).toNat * fp_ah F i.toNat j
def fp_cw (F : am_N) (i b : Int) : Int := fp_ah F i.toNat (am_xor i (b + 1)).toNat * fp_cs F i b 4
theorem fp_cs_b (F : am_N) (i b : Int) : ∀ m : Nat, 0 ≤ fp_cs F i b m ∧ fp_cs F i b m ≤ 256 * (m : Int) := by
  intro m
  induction m with
  | zero => exact ⟨(by first | exact Int.le_refl 0 | (show (0 : Int) ≤ 1; decide) | (show (0 : Int) ≤ _; decide) | (show _ ≤ (0 : Int); decide) | (show (1 : Int) ≤ _; decide) | (show (0 : Int) < _; decide)), (by first | exact Int.le_refl 0 | (show (0 : Int) ≤ 1; decide) | (show (0 : Int) ≤ _; decide) | (show _ ≤ (0 : Int); decide) | (show (1 : Int) ≤ _; decide) | (show (0 : Int) < _; decide))⟩
  | succ m ih =>
    have h1 := fp_ah_b F m (am_xor m (b + 1)).toNat
    have h2 := fp_ah_b F i.toNat m
    have h := am_mulb h1.1 h1.2 h2.1 h2.2
    simp only [fp_cs]
    split <;> omega
theorem fp_cw_b (F : am_N) (i b : Int) : 0 ≤ fp_cw F i b ∧ fp_cw F i b ≤ 16384 := by
  have h1 := fp_ah_b F i.toNat (am_xor i (b + 1)).toNat
  have h2 := fp_cs_b F i b 4
  have h := am_mulb h1.1 h1.2 h2.1 (B := 1024) (by omega)
  unfold fp_cw
  omega
/-- the first of the most -/
def fq_x (f : Nat → Int) : Nat → Nat
  | 0 => 0
  | k + 1 => if f (fq_x f k) < f (k + 1) then k + 1 else fq_x f k
def fp_br (F : am_N) (i : Int) : Int := if ¬(0 ≤ i ∧ i < F 0 4) then -1 else if F 0 4 ≠ 4 then -3 else ((fq_x (fun b => fp_cw F i (b : Int)) 2 : Nat) : Int)
def fp_cpr (F : am_N) (i b w : Int) : Int := if ¬(0 ≤ i ∧ i < F 0 4) then 4000000000000000001 else if ¬((0 ≤ b ∧ b ≤ 2) ∧ (w = 0 ∨ w = 1)) then 4000000000000000002 else if F 0 4 ≠ 4 then 4000000000000000003 else fp_fr (fp_cw F i b) 4096 w
theorem s_leagueWays {l : Launch} {ν : am_N} {Q : Option am_V → am_N → Prop} (i : Int) (ci : am_c i = i) (hS : sx ν ν) (hw : fp_fw 999 (fv ν 1)) (i0 : 0 ≤ i) (i1 : i < ν 1 4) (k : ∀ μ' : am_N, (∀ a b, ¬(15 ≤ a ∧ a < 22) → ¬(30 ≤ a ∧ a ≤ 32) → ¬(a = 29 ∧ b = 0) → μ' a b = ν a b) → (0 ≤ μ' 15 4 ∧ μ' 15 4 ≤ 4) → (0 ≤ μ' 29 0 ∧ μ' 29 0 ≤ 4) → Q (some (.inl (fp_lp (fv ν 1) i.toNat (ν 1 4).toNat))) μ') : am_Does l 133 [.inr (.inr 0), .inl i] ν Q := by
  refine am_Does_of (Nat.le_of_ble_eq_true rfl) (Nat.le_of_ble_eq_true rfl) (Nat.le_of_ble_eq_true rfl) ?_
  have l0 : am_c 0 = 0 := rfl
  have l1 : am_c 1 = 1 := rfl
  have l2 : am_c 2 = 2 := rfl
  have l3 : am_c 3 = 3 := rfl
  have l4 : am_c 4 = 4 := rfl
  have l8 : am_c 8 = 8 := rfl
  have l16 : am_c 16 = 16 := rfl
  have l99 : am_c 99 = 99 := rfl
  have m1' : am_c (-1) = -1 := rfl
  have m2' : am_c (-2) = -2 := rfl
  have m3' : am_c (-3) = -3 := rfl
  have m9' : am_c (-9) = -9 := rfl
  obtain ⟨hf, -, -, -, -, -, hx⟩ := fw_C hw (by decide)
  have f0 := hf.1.1
  have f1 := hf.1.2
  have e4 : fv ν 1 0 4 = ν 1 4 := fv_0 (by decide)
  have cn : am_c (ν 1 4) = ν 1 4 := am_cR (by omega) (by omega)
  have lp4 : ∀ (m : Nat) (x j : Int) (μ : am_N) , (∀ a b, ¬(15 ≤ a ∧ a < 22) → ¬(30 ≤ a ∧ a ≤ 32) → ¬(a = 29 ∧ b = 0) → μ a b = ν a b) → 0 ≤ j → j ≤ ν 1 4 → x = fp_lp (fv ν 1) i.toNat j.toNat → (0 ≤ μ 15 4 ∧ μ 15 4 ≤ 4) → (0 ≤ μ 29 0 ∧ μ 29 0 ≤ 4) → ν 1 4 - j < (m : Int) → am_AW l 0 (fun _ => 0) 133 Q 4 [some (.inr (.inr 0)), some (.inl i), some (.inl x), some (.inl j)] [] μ := by
    intro m
    induction m with
    | zero =>
      intro x j μ hv0 hv1 hv2 hv3 hv4 hv5 hm
      exfalso
      omega
    | succ m ih =>
      intro x j μ hv0 hv1 hv2 hv3 hv4 hv5 hm
      have cj : am_c j = j := am_cR (by omega) (by omega)
      have e14 : μ 1 4 = ν 1 4 := hv0 1 4 (by omega) (by omega) (by omega)
      have eF : fv μ 1 = (fv ν 1) := fv_keep (fun a b q1 q2 => hv0 a b (by omega) (by omega) (by omega))
      have kk := fun (x : Int) (e : x = fp_lp (fv ν 1) i.toNat (ν 1 4).toNat) => am_qe (k μ hv0 hv4 hv5) e
      refine am_go (ct := fun pc => Nat.beq pc 4) am_oX6_leagueWays 300 ?_
      conv => whnf
      repeat' first
        | (refine (?_ : am_wp _ _ _ _ _ _ _ _ _ _ _ _); conv => whnf)
        | (refine (?_ : am_sw _ _ _ _); conv => whnf)
        | refine And.intro trivial ?_
        | exact trivial
        | (have hj : j < ν 1 4 := (by rw [cj, e14, cn] at *; omega); refine s_six _ _ ci cj (by rw [eF]; exact hw) (by rw [cj, ci] at *; omega) i0 (by rw [e14]; exact i1) hv1 (by rw [e14]; exact hj) (fun μ2 g2 n15 n29 => ?_); rw [eF])
        | refine kk _ ?_
        | refine ih _ _ _ ?_ ?_ ?_ ?_ ?_ ?_ ?_
        | refine And.intro (fun h => absurd h (by decide)) (fun _ => ?_)
        | refine And.intro (fun _ => ?_) (fun h => absurd (by decide) h)
        | refine And.intro (fun _ => ?_) (fun _ => ?_)
        | refine And.intro ?_ ?_
      all_goals (first | decide | assumption | omega | (intro a b q1 q2 q3; rw [g2 a b q1 q2 q3]; exact hv0 a b q1 q2 q3) | (rw [n15]; decide) | (rw [n29]; decide) | (rw [cj, e14, cn] at *; omega) | (rw [show (j + 1).toNat = j.toNat + 1 by omega]; simp only [fp_lp]; first | (rw [if_pos (by rw [cj, ci] at *; omega)]; exact hv3) | (rw [if_neg (by rw [cj, ci] at *; omega), hv3])) | (rw [hv3, show j.toNat = (ν 1 4).toNat by rw [cj, e14, cn] at *; omega]) | (trace_state; fail))
  have lp4' : ∀ (x j : Int) (μ : am_N) , (∀ a b, ¬(15 ≤ a ∧ a < 22) → ¬(30 ≤ a ∧ a ≤ 32) → ¬(a = 29 ∧ b = 0) → μ a b = ν a b) → 0 ≤ j → j ≤ ν 1 4 → x = fp_lp (fv ν 1) i.toNat j.toNat → (0 ≤ μ 15 4 ∧ μ 15 4 ≤ 4) → (0 ≤ μ 29 0 ∧ μ 29 0 ≤ 4) → am_AW l 0 (fun _ => 0) 133 Q 4 [some (.inr (.inr 0)), some (.inl i), some (.inl x), some (.inl j)] [] μ := fun x j μ hv0 hv1 hv2 hv3 hv4 hv5 => lp4 ((ν 1 4 - j) + 1).toNat x j μ hv0 hv1 hv2 hv3 hv4 hv5 (by omega)
  refine am_go (ct := fun pc => Nat.beq pc 4) am_oX6_leagueWays 300 ?_
  conv => whnf
  repeat' first
    | (refine (?_ : am_wp _ _ _ _ _ _ _ _ _ _ _ _); conv => whnf)
    | (refine (?_ : am_sw _ _ _ _); conv => whnf)
    | refine And.intro trivial ?_
    | exact trivial
    | refine lp4' _ _ _ ?_ ?_ ?_ ?_ ?_ ?_
    | refine And.intro (fun h => absurd h (by decide)) (fun _ => ?_)
    | refine And.intro (fun _ => ?_) (fun h => absurd (by decide) h)
    | refine And.intro (fun _ => ?_) (fun _ => ?_)
    | refine And.intro ?_ ?_
  all_goals (first | decide | assumption | omega | rfl | (intros; rfl) | exact hS.2.2.2.1.2.1 | exact hS.2.2.2.1.2.1.1 | exact hS.2.2.2.1.2.1.2 | exact hS.2.2.2.1.2.2.1 | exact hS.2.2.2.1.2.2.1.1 | exact hS.2.2.2.1.2.2.1.2 | (trace_state; fail))
theorem n_leaguePoints {l : Launch} {ν : am_N} {Q : Option am_V → am_N → Prop} (i : Int) (ci : am_c i = i) (hw : fp_fw 999 (mv ν)) (i0 : 0 ≤ i) (i1 : i < ν 83 14) (k : Q (some (.inl (fp_lp (mv ν) i.toNat (ν 83 14).toNat))) ν) : am_Does l 222 [.inr (.inr 83), .inl i] ν Q := by
  refine am_Does_of (Nat.le_of_ble_eq_true rfl) (Nat.le_of_ble_eq_true rfl) (Nat.le_of_ble_eq_true rfl) ?_
  have l0 : am_c 0 = 0 := rfl
  have l1 : am_c 1 = 1 := rfl
  have l2 : am_c 2 = 2 := rfl
  have l3 : am_c 3 = 3 := rfl
  have l4 : am_c 4 = 4 := rfl
  have l8 : am_c 8 = 8 := rfl
  have l16 : am_c 16 = 16 := rfl
  have l99 : am_c 99 = 99 := rfl
  have m1' : am_c (-1) = -1 := rfl
  have m2' : am_c (-2) = -2 := rfl
  have m3' : am_c (-3) = -3 := rfl
  have m9' : am_c (-9) = -9 := rfl
  obtain ⟨hf, -, -, -, -, -, hx⟩ := fw_M hw (by decide)
  have f0 := hf.1.1
  have f1 := hf.1.2
  have e4 : mv ν 0 4 = ν 83 14 := rfl
  have cn : am_c (ν 83 14) = ν 83 14 := am_cR (by omega) (by omega)
  have lp4 : ∀ (m : Nat) (x j : Int) , 0 ≤ j → j ≤ ν 83 14 → x = fp_lp (mv ν) i.toNat j.toNat → ν 83 14 - j < (m : Int) → am_AW l 0 (fun _ => 0) 222 Q 4 [some (.inr (.inr 83)), some (.inl i), some (.inl x), some (.inl j)] [] ν := by
    intro m
    induction m with
    | zero =>
      intro x j  hv0 hv1 hv2 hm
      exfalso
      omega
    | succ m ih =>
      intro x j  hv0 hv1 hv2 hm
      have cj : am_c j = j := am_cR (by omega) (by omega)
      refine am_go (ct := fun pc => Nat.beq pc 4) am_oX7_leaguePoints 300 ?_
      conv => whnf
      repeat' first
        | (refine (?_ : am_wp _ _ _ _ _ _ _ _ _ _ _ _); conv => whnf)
        | (refine (?_ : am_sw _ _ _ _); conv => whnf)
        | refine And.intro trivial ?_
        | exact trivial
        | (have hj : j < ν 83 14 := (by rw [cj, cn] at *; omega); refine n_aheadOf _ _ hw ⟨i0, i1⟩ ⟨hv0, hj⟩ ?_)
        | refine am_qe k ?_
        | refine ih _ _  ?_ ?_ ?_ ?_
        | refine And.intro (fun h => absurd h (by decide)) (fun _ => ?_)
        | refine And.intro (fun _ => ?_) (fun h => absurd (by decide) h)
        | refine And.intro (fun _ => ?_) (fun _ => ?_)
        | refine And.intro ?_ ?_
      all_goals (first | decide | assumption | omega | (rw [cj, cn] at *; omega) | (rw [show (j + 1).toNat = j.toNat + 1 by omega]; simp only [fp_lp]; first | (rw [if_pos (by rw [cj, ci] at *; omega), hv2]; exact Int.add_zero _) | (rw [if_neg (by rw [cj, ci] at *; omega), hv2])) | (rw [hv2, show j.toNat = (ν 83 14).toNat by rw [cj, cn] at *; omega]) | (trace_state; fail))
  have lp4' : ∀ (x j : Int) , 0 ≤ j → j ≤ ν 83 14 → x = fp_lp (mv ν) i.toNat j.toNat → am_AW l 0 (fun _ => 0) 222 Q 4 [some (.inr (.inr 83)), some (.inl i), some (.inl x), some (.inl j)] [] ν := fun x j  hv0 hv1 hv2 => lp4 ((ν 83 14 - j) + 1).toNat x j  hv0 hv1 hv2 (by omega)
  refine am_go (ct := fun pc => Nat.beq pc 4) am_oX7_leaguePoints 300 ?_
  conv => whnf
  repeat' first
    | (refine (?_ : am_wp _ _ _ _ _ _ _ _ _ _ _ _); conv => whnf)
    | (refine (?_ : am_sw _ _ _ _); conv => whnf)
    | refine And.intro trivial ?_
    | exact trivial
    | refine lp4' _ _  ?_ ?_ ?_
    | refine And.intro (fun h => absurd h (by decide)) (fun _ => ?_)
    | refine And.intro (fun _ => ?_) (fun h => absurd (by decide) h)
    | refine And.intro (fun _ => ?_) (fun _ => ?_)
    | refine And.intro ?_ ?_
  all_goals (first | decide | assumption | omega | rfl | (trace_state; fail))
theorem s_league {l : Launch} {ν : am_N} {Q : Option am_V → am_N → Prop} (i w : Int) (ci : am_c i = i) (cw : am_c w = w) (hS : sx ν ν) (hw : fp_fw 999 (fv ν 1)) (k : ∀ μ' : am_N, sx ν μ' → Q (some (.inr (.inl (fp_lgr (fv ν 1) i w)))) μ') : am_Does l 97 [.inr (.inr 0), .inl i, .inl w] ν Q := by
  refine am_Does_of (Nat.le_of_ble_eq_true rfl) (Nat.le_of_ble_eq_true rfl) (Nat.le_of_ble_eq_true rfl) ?_
  have l0 : am_c 0 = 0 := rfl
  have l1 : am_c 1 = 1 := rfl
  have l2 : am_c 2 = 2 := rfl
  have l3 : am_c 3 = 3 := rfl
  have l4 : am_c 4 = 4 := rfl
  have l8 : am_c 8 = 8 := rfl
  have l16 : am_c 16 = 16 := rfl
  have l99 : am_c 99 = 99 := rfl
  have m1' : am_c (-1) = -1 := rfl
  have m2' : am_c (-2) = -2 := rfl
  have m3' : am_c (-3) = -3 := rfl
  have m9' : am_c (-9) = -9 := rfl
  obtain ⟨hf, -, -, -, -, -, hx⟩ := fw_C hw (by decide)
  have f0 := hf.1.1
  have f1 := hf.1.2
  have e4 : fv ν 1 0 4 = ν 1 4 := fv_0 (by decide)
  have cn : am_c (ν 1 4) = ν 1 4 := am_cR (by omega) (by omega)
  have lb := fp_lp_b (fv ν 1) i.toNat (ν 1 4).toNat
  have cl : am_c (fp_lp (fv ν 1) i.toNat (ν 1 4).toNat) = fp_lp (fv ν 1) i.toNat (ν 1 4).toNat := am_cR (by omega) (by omega)
  have kk := fun (x : Int) (μ' : am_N) (h : sx ν μ') (e : x = fp_lgr (fv ν 1) i w) => am_qd (k μ' h) e
  refine am_go (ct := fun _ => false) am_oX6_league 300 ?_
  conv => whnf
  repeat' first
    | (refine (?_ : am_wp _ _ _ _ _ _ _ _ _ _ _ _); conv => whnf)
    | (refine (?_ : am_sw _ _ _ _); conv => whnf)
    | refine And.intro trivial ?_
    | exact trivial
    | refine x_has1 _ f0 f1 (fun y0 y1 => ?_) (fun y => ?_)
    | refine x_refuseLong _ ?_ (fun μr fr => ?_)
    | refine x_noPart _ cw (fun z => ?_) (fun z => ?_)
    | (refine s_leagueWays _ ci hS hw (by omega) (by omega) (fun μ1 g1 n15 n29 => ?_); have sE : sx ν μ1 := sx_ad hS (fun a b q1 q2 q3 _ => g1 a b q1 q2 q3) n15 n29)
    | (rw [cl]; refine s_fraction _ _ _ 4 cw lb.1 (by omega) rfl (by decide) (by decide) ?_)
    | refine kk _ _ sE ?_
    | refine kk _ _ (sx_78 hS fr) ?_
    | refine And.intro (fun h => absurd h (by decide)) (fun _ => ?_)
    | refine And.intro (fun _ => ?_) (fun h => absurd (by decide) h)
    | refine And.intro (fun _ => ?_) (fun _ => ?_)
    | refine And.intro ?_ ?_
  all_goals (first | decide | omega | (unfold fp_lgr; rw [e4, if_pos (by omega)]; rfl) | (unfold fp_lgr; rw [e4, if_neg (by omega), if_pos (by omega)]; rfl) | (unfold fp_lgr; rw [e4, if_neg (by omega), if_neg (by omega)]) | (trace_state; fail))
theorem n_league {l : Launch} {ν : am_N} {Q : Option am_V → am_N → Prop} (i w : Int) (ci : am_c i = i) (cw : am_c w = w) (hm : mi ν) (hw : fp_fw 999 (mv ν)) (k : ∀ μ' : am_N, gm ms ν μ' → Q (some (.inr (.inl (fp_lgr (mv ν) i w)))) μ') : am_Does l 223 [.inr (.inr 83), .inl i, .inl w] ν Q := by
  refine am_Does_of (Nat.le_of_ble_eq_true rfl) (Nat.le_of_ble_eq_true rfl) (Nat.le_of_ble_eq_true rfl) ?_
  have l0 : am_c 0 = 0 := rfl
  have l1 : am_c 1 = 1 := rfl
  have l2 : am_c 2 = 2 := rfl
  have l3 : am_c 3 = 3 := rfl
  have l4 : am_c 4 = 4 := rfl
  have l8 : am_c 8 = 8 := rfl
  have l16 : am_c 16 = 16 := rfl
  have l99 : am_c 99 = 99 := rfl
  have m1' : am_c (-1) = -1 := rfl
  have m2' : am_c (-2) = -2 := rfl
  have m3' : am_c (-3) = -3 := rfl
  have m9' : am_c (-9) = -9 := rfl
  obtain ⟨hf, -, -, -, -, -, hx⟩ := fw_M hw (by decide)
  have f0 := hf.1.1
  have f1 := hf.1.2
  have e4 : mv ν 0 4 = ν 83 14 := rfl
  have cn : am_c (ν 83 14) = ν 83 14 := am_cR (by omega) (by omega)
  have lb := fp_lp_b (mv ν) i.toNat (ν 83 14).toNat
  have cl : am_c (fp_lp (mv ν) i.toNat (ν 83 14).toNat) = fp_lp (mv ν) i.toNat (ν 83 14).toNat := am_cR (by omega) (by omega)
  have kk := fun (x : Int) (μ' : am_N) (h : gm ms ν μ') (e : x = fp_lgr (mv ν) i w) => am_qd (k μ' h) e
  refine am_go (ct := fun _ => false) am_oX7_league 300 ?_
  conv => whnf
  repeat' first
    | (refine (?_ : am_wp _ _ _ _ _ _ _ _ _ _ _ _); conv => whnf)
    | (refine (?_ : am_sw _ _ _ _); conv => whnf)
    | refine And.intro trivial ?_
    | exact trivial
    | refine x_isRunnerT _ f0 f1 (fun y0 y1 => ?_) (fun y => ?_)
    | refine x_isIn w _ _ _ rfl cw ?_ ?_ (fun _ _ => ?_) (fun _ => ?_)
    | refine x_lowest _ ?_ (fun μr fr => ?_)
    | refine n_leaguePoints _ ci hw (by omega) (by omega) ?_
    | (rw [cl]; refine n_partOf _ _ _ cw lb.1 (by omega) (by decide) (by decide) ?_)
    | refine kk _ _ (gm_rf hm) ?_
    | refine kk _ _ (mi_84 hm fr) ?_
    | refine And.intro (fun h => absurd h (by omega)) (fun _ => ?_)
    | refine And.intro (fun _ => ?_) (fun h => absurd h (by omega))
    | refine And.intro (fun h => absurd h (by decide)) (fun _ => ?_)
    | refine And.intro (fun _ => ?_) (fun h => absurd (by decide) h)
    | refine And.intro (fun _ => ?_) (fun _ => ?_)
    | refine And.intro ?_ ?_
  all_goals (first | decide | omega | (unfold fp_lgr; rw [e4, if_pos (by omega)]; rfl) | (unfold fp_lgr; rw [e4, if_neg (by omega), if_pos (by omega)]; rfl) | (unfold fp_lgr; rw [e4, if_neg (by omega), if_neg (by omega)]) | (trace_state; fail))
