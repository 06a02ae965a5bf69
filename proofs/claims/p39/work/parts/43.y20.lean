/-! the first of the least -/
/-- points of a league -/
def fp_lp (F : am_N) (i : Nat) : Nat → Int
  | 0 => 0
  | j + 1 => if j = i then fp_lp F i j else fp_lp F i j + fp_ah F i j
theorem fp_lp_b (F : am_N) (i : Nat) : ∀ m : Nat, 0 ≤ fp_lp F i m ∧ fp_lp F i m ≤ 16 * (m : Int) := by
  intro m
  induction m with
  | zero => exact ⟨(by first | exact Int.le_refl 0 | (show (0 : Int) ≤ 1; decide) | (show (0 : Int) ≤ _; decide) | (show _ ≤ (0 : Int); decide) | (show (1 : Int) ≤ _; decide) | (show (0 : Int) < _; decide)), (by first | exact Int.le_refl 0 | (show (0 : Int) ≤ 1; decide) | (show (0 : Int) ≤ _; decide) | (show _ ≤ (0 : Int); decide) | (show (1 : Int) ≤ _; decide) | (show (0 : Int) < _; decide))⟩
  | succ m ih =>
    have h := fp_ah_b F i m
    simp only [fp_lp]
    split <;> omega
/-- ranks() -/
def fp_rkt (F : am_N) : Nat → Int := fun i => -(fp_lp F i (F 0 4).toNat)
def fp_rkr (F : am_N) : Int := am_dg (fun p => fp_od (fp_rkt F) (F 0 4) p) (F 0 4).toNat 0
theorem sx_rk {ν μ : am_N} (hS : sx ν ν) (f : ∀ a b, ¬(15 ≤ a ∧ a < 22) → ¬(30 ≤ a ∧ a ≤ 34) → ¬(a = 29 ∧ b = 0) → a ≠ 78 → μ a b = ν a b) (h15 : 0 ≤ μ 15 4 ∧ μ 15 4 ≤ 4) (h29 : 0 ≤ μ 29 0 ∧ μ 29 0 ≤ 4) (h34 : sx_3 μ 34) : sx ν μ := by
  refine ⟨fun a b ha => f a b (sx_p15 ha) (fun z => sx_p30 ha (by omega)) (fun z => sx_p30 ha (by omega)) (fun z => by rw [z] at ha; cases ha), h34, fun p hp => ?_, ⟨?_, h15, h29, ?_⟩, hS.2.2.2.2⟩
  · rw [f 43 p (by omega) (by omega) (by omega) (by omega)]; exact hS.2.2.1 p hp
  · rw [f 8 4 (by omega) (by omega) (by omega) (by omega)]; exact hS.2.2.2.1.1
  · rw [f 38 0 (by omega) (by omega) (by omega) (by omega)]; exact hS.2.2.2.1.2.2.2
/-- brackets -/
theorem fp_xrF : ∀ (i : Fin 4) (b : Fin 3), (0 ≤ am_xor ((i : Nat) : Int) (((b : Nat) : Int) + 1) ∧ am_xor ((i : Nat) : Int) (((b : Nat) : Int) + 1) < 4) ∧ am_xor ((i : Nat) : Int) (((b : Nat) : Int) + 1) ≠ ((i : Nat) : Int) := by decide +kernel
theorem fp_xr {i b : Int} (i0 : 0 ≤ i) (i1 : i < 4) (b0 : 0 ≤ b) (b1 : b ≤ 2) : (0 ≤ am_xor i (b + 1) ∧ am_xor i (b + 1) < 4) ∧ am_xor i (b + 1) ≠ i := by
  have h := fp_xrF ⟨i.toNat, by omega⟩ ⟨b.toNat, by omega⟩
  simp only [Int.toNat_of_nonneg i0, Int.toNat_of_nonneg b0] at h
  exact h
def fp_cs (F : am_N) (i b : Int) : Nat → Int
  | 0 => 0
  | j + 1 => if (j : Int) = i ∨ (j : Int) = am_xor i (b + 1) then fp_cs F i b j else fp_cs F i b j + fp_ah F j (am_xor j (b + 1)).toNat * fp_ah F i.toNat j
def fp_cw (F : am_N) (i b : Int) : Int := fp_ah F i.toNat (am_xor i (b + 1)).toNat * fp_cs F i b 4
theorem fp_cs_b (F : am_N) (i b : Int) : ∀ m : Nat, 0 ≤ fp_cs F i b m ∧ fp_cs F i b m ≤ 256 * (m : Int) := by
  intro m
  induction m with
  | zero => exact ⟨(by first | exact Int.le_refl 0 | (show (0 : Int) ≤ 1; decide) | (show (0 : Int) ≤ _; decide) | (show _ ≤ (0 : Int); decide) | (show (1 : Int) ≤ _; decide) | (show (0 : Int) < _; decide)), (by first | exact Int.le_refl 0 | (show (0 : Int) ≤ 1; decide) | (show (0 : Int) ≤ _; decide) | (show _ ≤ (0 : Int); decide) | (show (1 : Int) ≤ _; decide) | (show (0 : Int) < _; decide))⟩
  | succ m ih =>
    have h1 := fp_ah_b F m (am_xor m (b + 1)).toNat
    have h2 := fp_ah_b F i.toNat m
    have h := am_mulb h1.1 h1.2 h2.1 h2.2
    simp only [fp_cs]
    split <;> omega
theorem fp_cw_b (F : am_N) (i b : Int) : 0 ≤ fp_cw F i b ∧ fp_cw F i b ≤ 16384 := by
  have h1 := fp_ah_b F i.toNat (am_xor i (b + 1)).toNat
  have h2 := fp_cs_b F i b 4
  have h := am_mulb h1.1 h1.2 h2.1 (B := 1024) (by omega)
  unfold fp_cw
  omega
/-- the first of the most -/
def fq_x (f : Nat → Int) : Nat → Nat
  | 0 => 0
  | k + 1 => if f (fq_x f k) < f (k + 1) then k + 1 else fq_x f k
def fp_br (F : am_N) (i : Int) : Int := if ¬(0 ≤ i ∧ i < F 0 4) then -1 else if F 0 4 ≠ 4 then -3 else ((fq_x (fun b => fp_cw F i (b : Int)) 2 : Nat) : Int)
def fp_cpr (F : am_N) (i b w : Int) : Int := if ¬(0 ≤ i ∧ i < F 0 4) then 4000000000000000001 else if ¬((0 ≤ b ∧ b ≤ 2) ∧ (w = 0 ∨ w = 1)) then 4000000000000000002 else if F 0 4 ≠ 4 then 4000000000000000003 else fp_fr (fp_cw F i b) 4096 w
theorem s_leagueWays {l : Launch} {ν : am_N} {Q : Option am_V → am_N → Prop} (i : Int) (ci : am_c i = i) (hS : sx ν ν) (hw : fp_fw 999 (fv ν 1)) (i0 : 0 ≤ i) (i1 : i < ν 1 4) (k : ∀ μ' : am_N, (∀ a b, ¬(15 ≤ a ∧ a < 22) → ¬(30 ≤ a ∧ a ≤ 32) → ¬(a = 29 ∧ b = 0) → μ' a b = ν a b) → (0 ≤ μ' 15 4 ∧ μ' 15 4 ≤ 4) → (0 ≤ μ' 29 0 ∧ μ' 29 0 ≤ 4) → Q (some (.inl (fp_lp (fv ν 1) i.toNat (ν 1 4).toNat))) μ') : am_Does l 133 [.inr (.inr 0), .inl i] ν Q := by
  refine am_Does_of (Nat.le_of_ble_eq_true rfl) (Nat.le_of_ble_eq_true rfl) (Nat.le_of_ble_eq_true rfl) ?_
  have l0 : am_c 0 = 0 := rfl
  have l1 : am_c 1 = 1 := rfl
  have l2 : am_c 2 = 2 := rfl
  have l3 : am_c 3 = 3 := rfl
  have l4 : am_c 4 = 4 := rfl
  have l8 : am_c 8 = 8 := rfl
  have l16 : am_c 16 = 16 := rfl
  have l99 : am_c 99 = 99 := rfl
  have m1' : am_c (-1) = -1 := rfl
  have m2' : am_c (-2) = -2 := rfl
  have m3' : am_c (-3) = -3 := rfl
  have m9' : am_c (-9) = -9 := rfl
  obtain ⟨hf, -, -, -, -, -, hx⟩ := fw_C hw (by decide)
  have f0 := hf.1.1
  have f1 := hf.1.2
  have e4 : fv ν 1 0 4 = ν 1 4 := fv_0 (by decide)
  have cn : am_c (ν 1 4) = ν 1 4 := am_cR (by omega) (by omega)
  have lp4 : ∀ (m : Nat) (x j : Int) (μ : am_N) , (∀ a b, ¬(15 ≤ a ∧ a < 22) → ¬(30 ≤ a ∧ a ≤ 32) → ¬(a = 29 ∧ b = 0) → μ a b = ν a b) → 0 ≤ j → j ≤ ν 1 4 → x = fp_lp (fv ν 1) i.toNat j.toNat → (0 ≤ μ 15 4 ∧ μ 15 4 ≤ 4) → (0 ≤ μ 29 0 ∧ μ 29 0 ≤ 4) → ν 1 4 - j < (m : Int) → am_AW l 0 (fun _ => 0) 133 Q 4 [some (.inr (.inr 0)), some (.inl i), some (.inl x), some (.inl j)] [] μ := by
    intro m
    induction m with
    | zero =>
      intro x j μ hv0 hv1 hv2 hv3 hv4 hv5 hm
      exfalso
      omega
    | succ m ih =>
      intro x j μ hv0 hv1 hv2 hv3 hv4 hv5 hm
      have cj : am_c j = j := am_cR (by omega) (by omega)
      have e14 : μ 1 4 = ν 1 4 := hv0 1 4 (by omega) (by omega) (by omega)
      have eF : fv μ 1 = (fv ν 1) := fv_keep (fun a b q1 q2 => hv0 a b (by omega) (by omega) (by omega))
      have kk := fun (x : Int) (e : x = fp_lp (fv ν 1) i.toNat (ν 1 4).toNat) => am_qe (k μ hv0 hv4 hv5) e
      refine am_go (ct := fun pc => Nat.beq pc 4) am_oX6_leagueWays 300 ?_
      conv => whnf
      repeat' first
        | (refine (?_ : am_wp _ _ _ _ _ _ _ _ _ _ _ _); conv => whnf)
        | (refine (?_ : am_sw _ _ _ _); conv => whnf)
        | refine And.intro trivial ?_
        | exact trivial
        | ((with_reducible refine (?_ : am_Does _ 122 _ _ _)); (have hj : j < ν 1 4 := (by rw [cj, e14, cn] at *; omega); refine s_six _ _ ci cj (by rw [eF]; exact hw) (by rw [cj, ci] at *; omega) i0 (by rw [e14]; exact i1) hv1 (by rw [e14]; exact hj) (fun μ2 g2 n15 n29 => ?_); rw [eF]))
        | refine kk _ ?_
        | ((with_reducible refine (?_ : am_AW _ _ _ _ _ 4 _ _ _)); refine ih _ _ _ ?_ ?_ ?_ ?_ ?_ ?_ ?_)
        | refine And.intro (fun h => absurd h (by decide)) (fun _ => ?_)
        | refine And.intro (fun _ => ?_) (fun h => absurd (by decide) h)
        | refine And.intro (fun _ => ?_) (fun _ => ?_)
        | refine And.intro ?_ ?_
      all_goals (first | decide | assumption | omega | (intro a b q1 q2 q3; rw [g2 a b q1 q2 q3]; exact hv0 a b q1 q2 q3) | (rw [n15]; decide) | (rw [n29]; decide) | (rw [cj, e14, cn] at *; omega) | (rw [show (j + 1).toNat = j.toNat + 1 by omega]; simp only [fp_lp]; first | (rw [if_pos (by rw [cj, ci] at *; omega)]; exact hv3) | (rw [if_neg (by rw [cj, ci] at *; omega), hv3])) | (rw [hv3, show j.toNat = (ν 1 4).toNat by rw [cj, e14, cn] at *; omega]) | (trace_state; fail))
  have lp4' : ∀ (x j : Int) (μ : am_N) , (∀ a b, ¬(15 ≤ a ∧ a < 22) → ¬(30 ≤ a ∧ a ≤ 32) → ¬(a = 29 ∧ b = 0) → μ a b = ν a b) → 0 ≤ j → j ≤ ν 1 4 → x = fp_lp (fv ν 1) i.toNat j.toNat → (0 ≤ μ 15 4 ∧ μ 15 4 ≤ 4) → (0 ≤ μ 29 0 ∧ μ 29 0 ≤ 4) → am_AW l 0 (fun _ => 0) 133 Q 4 [some (.inr (.inr 0)), some (.inl i), some (.inl x), some (.inl j)] [] μ := fun x j μ hv0 hv1 hv2 hv3 hv4 hv5 => lp4 ((ν 1 4 - j) + 1).toNat x j μ hv0 hv1 hv2 hv3 hv4 hv5 (by omega)
  refine am_go (ct := fun pc => Nat.beq pc 4) am_oX6_leagueWays 300 ?_
  conv => whnf
  repeat' first
    | (refine (?_ : am_wp _ _ _ _ _ _ _ _ _ _ _ _); conv => whnf)
    | (refine (?_ : am_sw _ _ _ _); conv => whnf)
    | refine And.intro trivial ?_
    | exact trivial
    | ((with_reducible refine (?_ : am_AW _ _ _ _ _ 4 _ _ _)); refine lp4' _ _ _ ?_ ?_ ?_ ?_ ?_ ?_)
    | refine And.intro (fun h => absurd h (by decide)) (fun _ => ?_)
    | refine And.intro (fun _ => ?_) (fun h => absurd (by decide) h)
    | refine And.intro (fun _ => ?_) (fun _ => ?_)
    | refine And.intro ?_ ?_
  all_goals (first | decide | assumption | omega | rfl | (intros; rfl) | exact hS.2.2.2.1.2.1 | exact hS.2.2.2.1.2.1.1 | exact hS.2.2.2.1.2.1.2 | exact hS.2.2.2.1.2.2.1 | exact hS.2.2.2.1.2.2.1.1 | exact hS.2.2.2.1.2.2.1.2 | (trace_state; fail))
theorem n_leaguePoints {l : Launch} {ν : am_N} {Q : Option am_V → am_N → Prop} (i : Int) (ci : am_c i = i) (hw : fp_fw 999 (mv ν)) (i0 : 0 ≤ i) (i1 : i < ν 83 14) (k : Q (some (.inl (fp_lp (mv ν) i.toNat (ν 83 14).toNat))) ν) : am_Does l 222 [.inr (.inr 83), .inl i] ν Q := by
  refine am_Does_of (Nat.le_of_ble_eq_true rfl) (Nat.le_of_ble_eq_true rfl) (Nat.le_of_ble_eq_true rfl) ?_
  have l0 : am_c 0 = 0 := rfl
  have l1 : am_c 1 = 1 := rfl
  have l2 : am_c 2 = 2 := rfl
  have l3 : am_c 3 = 3 := rfl
  have l4 : am_c 4 = 4 := rfl
  have l8 : am_c 8 = 8 := rfl
  have l16 : am_c 16 = 16 := rfl
  have l99 : am_c 99 = 99 := rfl
  have m1' : am_c (-1) = -1 := rfl
  have m2' : am_c (-2) = -2 := rfl
  have m3' : am_c (-3) = -3 := rfl
  have m9' : am_c (-9) = -9 := rfl
  obtain ⟨hf, -, -, -, -, -, hx⟩ := fw_M hw (by decide)
  have f0 := hf.1.1
  have f1 := hf.1.2
  have e4 : mv ν 0 4 = ν 83 14 := rfl
  have cn : am_c (ν 83 14) = ν 83 14 := am_cR (by omega) (by omega)
  have lp4 : ∀ (m : Nat) (x j : Int) , 0 ≤ j → j ≤ ν 83 14 → x = fp_lp (mv ν) i.toNat j.toNat → ν 83 14 - j < (m : Int) → am_AW l 0 (fun _ => 0) 222 Q 4 [some (.inr (.inr 83)), some (.inl i), some (.inl x), some (.inl j)] [] ν := by
    intro m
    induction m with
    | zero =>
      intro x j  hv0 hv1 hv2 hm
      exfalso
      omega
    | succ m ih =>
      intro x j  hv0 hv1 hv2 hm
      have cj : am_c j = j := am_cR (by omega) (by omega)
      refine am_go (ct := fun pc => Nat.beq pc 4) am_oX7_leaguePoints 300 ?_
      conv => whnf
      repeat' first
        | (refine (?_ : am_wp _ _ _ _ _ _ _ _ _ _ _ _); conv => whnf)
        | (refine (?_ : am_sw _ _ _ _); conv => whnf)
        | refine And.intro trivial ?_
        | exact trivial
        | ((with_reducible refine (?_ : am_Does _ 194 _ _ _)); (have hj : j < ν 83 14 := (by rw [cj, cn] at *; omega); refine n_aheadOf _ _ hw ⟨i0, i1⟩ ⟨hv0, hj⟩ ?_))
        | refine am_qe k ?_
        | ((with_reducible refine (?_ : am_AW _ _ _ _ _ 4 _ _ _)); refine ih _ _  ?_ ?_ ?_ ?_)
        | refine And.intro (fun h => absurd h (by decide)) (fun _ => ?_)
        | refine And.intro (fun _ => ?_) (fun h => absurd (by decide) h)
        | refine And.intro (fun _ => ?_) (fun _ => ?_)
        | refine And.intro ?_ ?_
      all_goals (first | decide | assumption | omega | (rw [cj, cn] at *; omega) | (rw [show (j + 1).toNat = j.toNat + 1 by omega]; simp only [fp_lp]; first | (rw [if_pos (by rw [cj, ci] at *; omega), hv2]; exact Int.add_zero _) | (rw [if_neg (by rw [cj, ci] at *; omega), hv2])) | (rw [hv2, show j.toNat = (ν 83 14).toNat by rw [cj, cn] at *; omega]) | (trace_state; fail))
  have lp4' : ∀ (x j : Int) , 0 ≤ j → j ≤ ν 83 14 → x = fp_lp (mv ν) i.toNat j.toNat → am_AW l 0 (fun _ => 0) 222 Q 4 [some (.inr (.inr 83)), some (.inl i), some (.inl x), some (.inl j)] [] ν := fun x j  hv0 hv1 hv2 => lp4 ((ν 83 14 - j) + 1).toNat x j  hv0 hv1 hv2 (by omega)
  refine am_go (ct := fun pc => Nat.beq pc 4) am_oX7_leaguePoints 300 ?_
  conv => whnf
  repeat' first
    | (refine (?_ : am_wp _ _ _ _ _ _ _ _ _ _ _ _); conv => whnf)
    | (refine (?_ : am_sw _ _ _ _); conv => whnf)
    | refine And.intro trivial ?_
    | exact trivial
    | ((with_reducible refine (?_ : am_AW _ _ _ _ _ 4 _ _ _)); refine lp4' _ _  ?_ ?_ ?_)
    | refine And.intro (fun h => absurd h (by decide)) (fun _ => ?_)
    | refine And.intro (fun _ => ?_) (fun h => absurd (by decide) h)
    | refine And.intro (fun _ => ?_) (fun _ => ?_)
    | refine And.intro ?_ ?_
  all_goals (first | decide | assumption | omega | rfl | (trace_state; fail))
/-- the order hangs on the takes of those who run -/
theorem fp_od_i2 {t u : Nat → Int} {n : Int} {p : Nat} (hn : n ≤ 4) (hp : (p : Int) < n) (h : ∀ q : Nat, (q : Int) < n → t q = u q) : fp_od t n (p : Int) = fp_od u n (p : Int) := by
  obtain ⟨i, hi, hc⟩ := am_cnt_s t (m := n.toNat) (by omega) p (by omega)
  have e : am_cnt t i n.toNat = am_cnt u i n.toNat := am_cnt_t (n := n.toNat) hi (fun j hj => h j (by omega)) _ (Nat.le_refl _)
  rw [fp_od_i hn (by omega) hc, fp_od_i hn (by omega) (e ▸ hc)]
theorem s_ranks {l : Launch} {ν : am_N} {Q : Option am_V → am_N → Prop} (hS : sx ν ν) (hw : fp_fw 999 (fv ν 1)) (k : ∀ μ' : am_N, sx ν μ' → Q (some (.inl (fp_rkr (fv ν 1)))) μ') : am_Does l 98 [.inr (.inr 0)] ν Q := by
  refine am_Does_of (Nat.le_of_ble_eq_true rfl) (Nat.le_of_ble_eq_true rfl) (Nat.le_of_ble_eq_true rfl) ?_
  have l0 : am_c 0 = 0 := rfl
  have l1 : am_c 1 = 1 := rfl
  have l2 : am_c 2 = 2 := rfl
  have l3 : am_c 3 = 3 := rfl
  have l4 : am_c 4 = 4 := rfl
  have l8 : am_c 8 = 8 := rfl
  have l16 : am_c 16 = 16 := rfl
  have l99 : am_c 99 = 99 := rfl
  have m1' : am_c (-1) = -1 := rfl
  have m2' : am_c (-2) = -2 := rfl
  have m3' : am_c (-3) = -3 := rfl
  have m9' : am_c (-9) = -9 := rfl
  obtain ⟨hf, -, -, -, -, -, hx⟩ := fw_C hw (by decide)
  have f0 := hf.1.1
  have f1 := hf.1.2
  have e4 : fv ν 1 0 4 = ν 1 4 := fv_0 (by decide)
  have cn : am_c (ν 1 4) = ν 1 4 := am_cR (by omega) (by omega)
  have h15 := hS.2.2.2.1
  have et : ∀ q : Nat, fp_rkt (fv ν 1) q = -(fp_lp (fv ν 1) q (ν 1 4).toNat) := fun q => by unfold fp_rkt; rw [e4]
  have kk := fun (x : Int) (μ' : am_N) (h : sx ν μ') (e : x = fp_rkr (fv ν 1)) => am_qe (k μ' h) e
  have lp2 : ∀ (m : Nat) (i : Int) (μ : am_N) , (∀ a b, ¬(15 ≤ a ∧ a < 22) → ¬(30 ≤ a ∧ a ≤ 33) → ¬(a = 29 ∧ b = 0) → μ a b = ν a b) → 0 ≤ i → i ≤ ν 1 4 → (∀ q : Nat, (q : Int) < i → μ 33 q = fp_rkt (fv ν 1) q) → (0 ≤ μ 15 4 ∧ μ 15 4 ≤ 4) → (0 ≤ μ 29 0 ∧ μ 29 0 ≤ 4) → ν 1 4 - i < (m : Int) → am_AW l 0 (fun _ => 0) 98 Q 2 [some (.inr (.inr 0)), some (.inl i)] [] μ := by
    intro m
    induction m with
    | zero =>
      intro i μ hv0 hv1 hv2 hv3 hv4 hv5 hm
      exfalso
      omega
    | succ m ih =>
      intro i μ hv0 hv1 hv2 hv3 hv4 hv5 hm
      have ci : am_c i = i := am_cR (by omega) (by omega)
      have e14 : μ 1 4 = ν 1 4 := hv0 1 4 (by omega) (by omega) (by omega)
      have eF : fv μ 1 = (fv ν 1) := fv_keep (fun a b q1 q2 => hv0 a b (by omega) (by omega) (by omega))
      have p34 : sx_3 μ 34 := fun p hp => by rw [hv0 34 p (by omega) (by omega) (by omega)]; exact hS.2.1 p hp
      have sE : sx ν μ := sx_rk hS (fun a b q1 q2 q3 _ => hv0 a b q1 (by omega) q3) hv4 hv5 p34
      have sM : sx μ μ := sx_rf sE.2.1 sE.2.2.1 sE.2.2.2.1 (sx_px sE)
      refine am_go (ct := fun pc => Nat.beq pc 2) am_oX6_ranks 300 ?_
      conv => whnf
      repeat' first
        | (refine (?_ : am_wp _ _ _ _ _ _ _ _ _ _ _ _); conv => whnf)
        | (refine (?_ : am_sw _ _ _ _); conv => whnf)
        | refine And.intro trivial ?_
        | exact trivial
        | ((with_reducible refine (?_ : am_Does _ 133 _ _ _)); (have hi : i < ν 1 4 := (by rw [ci, e14, cn] at *; omega); refine s_leagueWays _ ci sM (by rw [eF]; exact hw) hv1 (by rw [e14]; exact hi) (fun μ2 g2 n15 n29 => ?_); rw [eF, e14]))
        | ((with_reducible refine (?_ : am_Does _ 36 _ _ _)); (have ie : i = ν 1 4 := (by rw [ci, e14, cn] at *; omega); have m29 : am_up μ 29 0 (μ 1 4) 29 0 = ν 1 4 := (if_pos ⟨rfl, rfl⟩ : am_up μ 29 0 (μ 1 4) 29 0 = μ 1 4).trans e14; refine x_line (by rw [m29]; exact f0) (by rw [m29]; exact f1) (fun j hj => by rw [m29] at hj; rw [am_upN (by decide), hv3 j (by omega), et]; have z := fp_lp_b (fv ν 1) j (ν 1 4).toNat; omega) (fun μ3 y1 y2 y3 => ?_); have n3 : μ3 29 0 = ν 1 4 := (by rw [y1 29 0 (by decide)]; exact (show am_up μ 29 0 (μ 1 4) 29 0 = ν 1 4 from (if_pos ⟨rfl, rfl⟩ : am_up μ 29 0 (μ 1 4) 29 0 = μ 1 4).trans e14)); rw [m29] at y2; have sF : sx ν μ3 := sx_rk hS (fun a b q1 q2 q3 _ => by rw [y1 a b (by omega), am_uE q3]; exact hv0 a b q1 (by omega) q3) (by rw [y1 15 4 (by decide), am_upN (by decide)]; exact hv4) (by rw [n3]; exact ⟨f0, f1⟩) (y3 (sx_3N p34 (by decide)))))
        | ((with_reducible refine (?_ : am_Does _ 40 _ _ _)); (refine x_digits (by rw [n3]; exact f0) (by rw [n3]; exact f1) ?_))
        | refine kk _ _ sF ?_
        | ((with_reducible refine (?_ : am_AW _ _ _ _ _ 2 _ _ _)); refine ih _ _ ?_ ?_ ?_ ?_ ?_ ?_ ?_)
        | refine And.intro (fun h => absurd h (by decide)) (fun _ => ?_)
        | refine And.intro (fun _ => ?_) (fun h => absurd (by decide) h)
        | refine And.intro (fun _ => ?_) (fun _ => ?_)
        | refine And.intro ?_ ?_
      all_goals (first | decide | omega | (rw [ci]; omega) | (intro a b q1 q2 q3; rw [am_upN (show a ≠ 33 by omega), g2 a b q1 (by omega) q3]; exact hv0 a b q1 q2 q3) | (intro q hq; by_cases d : (q : Int) = i; (rw [am_upS, if_pos ⟨rfl, by rw [ci]; omega⟩, et, show i.toNat = q by omega]); (rw [am_upM (by rw [ci]; omega), g2 33 q (by omega) (by omega) (by omega)]; exact hv3 q (by omega))) | (rw [am_upN (by decide)]; first | exact n15 | exact n15.1 | exact n15.2) | (rw [am_upN (by decide)]; first | exact n29 | exact n29.1 | exact n29.2) | (rw [m29]; omega) | (rw [show am_up μ 29 0 (μ 1 4) 29 0 = ν 1 4 from (if_pos ⟨rfl, rfl⟩ : am_up μ 29 0 (μ 1 4) 29 0 = μ 1 4).trans e14]; omega) | (intro j hj; rw [show am_up μ 29 0 (μ 1 4) 29 0 = ν 1 4 from (if_pos ⟨rfl, rfl⟩ : am_up μ 29 0 (μ 1 4) 29 0 = μ 1 4).trans e14] at hj; rw [am_upN (by decide), hv3 j (by omega), et]; have z := fp_lp_b (fv ν 1) j (ν 1 4).toNat; omega) | (unfold fp_rkr; rw [n3, e4]; refine am_dg_eq _ _ (fun p hp => ?_); rw [fp_od_o f1 y2 p (by omega)]; refine fp_od_i2 f1 (by omega) (fun q hq => ?_); rw [am_upN (by decide)]; exact hv3 q (by omega)) | (trace_state; fail))
  have lp2' : ∀ (i : Int) (μ : am_N) , (∀ a b, ¬(15 ≤ a ∧ a < 22) → ¬(30 ≤ a ∧ a ≤ 33) → ¬(a = 29 ∧ b = 0) → μ a b = ν a b) → 0 ≤ i → i ≤ ν 1 4 → (∀ q : Nat, (q : Int) < i → μ 33 q = fp_rkt (fv ν 1) q) → (0 ≤ μ 15 4 ∧ μ 15 4 ≤ 4) → (0 ≤ μ 29 0 ∧ μ 29 0 ≤ 4) → am_AW l 0 (fun _ => 0) 98 Q 2 [some (.inr (.inr 0)), some (.inl i)] [] μ := fun i μ hv0 hv1 hv2 hv3 hv4 hv5 => lp2 ((ν 1 4 - i) + 1).toNat i μ hv0 hv1 hv2 hv3 hv4 hv5 (by omega)
  refine am_go (ct := fun pc => Nat.beq pc 2) am_oX6_ranks 300 ?_
  conv => whnf
  repeat' first
    | (refine (?_ : am_wp _ _ _ _ _ _ _ _ _ _ _ _); conv => whnf)
    | (refine (?_ : am_sw _ _ _ _); conv => whnf)
    | refine And.intro trivial ?_
    | exact trivial
    | ((with_reducible refine (?_ : am_AW _ _ _ _ _ 2 _ _ _)); refine lp2' _ _ ?_ ?_ ?_ ?_ ?_ ?_)
    | refine And.intro (fun h => absurd h (by decide)) (fun _ => ?_)
    | refine And.intro (fun _ => ?_) (fun h => absurd (by decide) h)
    | refine And.intro (fun _ => ?_) (fun _ => ?_)
    | refine And.intro ?_ ?_
  all_goals (first | decide | assumption | omega | rfl | (intros; rfl) | (intros; omega) | exact h15.2.1 | exact h15.2.1.1 | exact h15.2.1.2 | exact h15.2.2.1 | exact h15.2.2.1.1 | exact h15.2.2.1.2 | (trace_state; fail))
theorem n_ranks {l : Launch} {ν : am_N} {Q : Option am_V → am_N → Prop} (hm : mi ν) (hw : fp_fw 999 (mv ν)) (k : ∀ μ' : am_N, gm ms ν μ' → Q (some (.inl (fp_rkr (mv ν)))) μ') : am_Does l 224 [.inr (.inr 83)] ν Q := by
  refine am_Does_of (Nat.le_of_ble_eq_true rfl) (Nat.le_of_ble_eq_true rfl) (Nat.le_of_ble_eq_true rfl) ?_
  have l0 : am_c 0 = 0 := rfl
  have l1 : am_c 1 = 1 := rfl
  have l2 : am_c 2 = 2 := rfl
  have l3 : am_c 3 = 3 := rfl
  have l4 : am_c 4 = 4 := rfl
  have l8 : am_c 8 = 8 := rfl
  have l16 : am_c 16 = 16 := rfl
  have l99 : am_c 99 = 99 := rfl
  have m1' : am_c (-1) = -1 := rfl
  have m2' : am_c (-2) = -2 := rfl
  have m3' : am_c (-3) = -3 := rfl
  have m9' : am_c (-9) = -9 := rfl
  obtain ⟨hf, -, -, -, -, -, hx⟩ := fw_M hw (by decide)
  have f0 := hf.1.1
  have f1 := hf.1.2
  have e4 : mv ν 0 4 = ν 83 14 := rfl
  have cn : am_c (ν 83 14) = ν 83 14 := am_cR (by omega) (by omega)
  have hm0 := hm
  have et : ∀ q : Nat, fp_rkt (mv ν) q = -(fp_lp (mv ν) q (ν 83 14).toNat) := fun q => rfl
  have kk := fun (x : Int) (μ' : am_N) (h : gm ms ν μ') (e : x = fp_rkr (mv ν)) => am_qe (k μ' h) e
  have lp2 : ∀ (m : Nat) (i : Int) (μ : am_N) , (∀ a b, a ≠ 99 → μ a b = ν a b) → 0 ≤ i → i ≤ ν 83 14 → (∀ q : Nat, (q : Int) < i → μ 99 q = fp_rkt (mv ν) q) → ν 83 14 - i < (m : Int) → am_AW l 0 (fun _ => 0) 224 Q 2 [some (.inr (.inr 83)), some (.inl i)] [] μ := by
    intro m
    induction m with
    | zero =>
      intro i μ hv0 hv1 hv2 hv3 hm
      exfalso
      omega
    | succ m ih =>
      intro i μ hv0 hv1 hv2 hv3 hm
      have ci : am_c i = i := am_cR (by omega) (by omega)
      have e14 : μ 83 14 = ν 83 14 := hv0 83 14 (by decide)
      have eF : mv μ = (mv ν) := mv_keep (fun a b q => hv0 a b (by omega))
      refine am_go (ct := fun pc => Nat.beq pc 2) am_oX7_ranks 300 ?_
      conv => whnf
      repeat' first
        | (refine (?_ : am_wp _ _ _ _ _ _ _ _ _ _ _ _); conv => whnf)
        | (refine (?_ : am_sw _ _ _ _); conv => whnf)
        | refine And.intro trivial ?_
        | exact trivial
        | ((with_reducible refine (?_ : am_Does _ 222 _ _ _)); (have hi : i < ν 83 14 := (by rw [ci, e14, cn] at *; omega); refine n_leaguePoints _ ci (by rw [eF]; exact hw) hv1 (by rw [e14]; exact hi) ?_; rw [eF, e14]))
        | ((with_reducible refine (?_ : am_Does _ 165 _ _ _)); (have ie : i = ν 83 14 := (by rw [ci, e14, cn] at *; omega); refine x_sorts (by rw [e14]; exact f0) (by rw [e14]; exact f1) (fun j hj => by rw [e14] at hj; rw [hv3 j (by omega), et]; have z := fp_lp_b (mv ν) j (ν 83 14).toNat; omega) (fun μ3 y1 y2 y3 => ?_); have n3 : μ3 83 14 = ν 83 14 := (y1 83 14 (by decide)).trans e14; rw [e14] at y2; have sF : gm ms ν μ3 := ⟨mi_rc hm0 (fun a b q => (y1 a b (by omega)).trans (hv0 a b (by omega))) (y3 (fun p hp => by rw [hv0 100 p (by decide)]; exact mi_or hm0 p hp)), fun a b ha => (y1 a b (fun z => by rw [z] at ha; cases ha)).trans (hv0 a b (fun z => by rw [z] at ha; cases ha))⟩))
        | ((with_reducible refine (?_ : am_Does _ 178 _ _ _)); (refine x_mdigits (by rw [n3]; exact f0) (by rw [n3]; exact f1) ?_))
        | refine kk _ _ sF ?_
        | ((with_reducible refine (?_ : am_AW _ _ _ _ _ 2 _ _ _)); refine ih _ _ ?_ ?_ ?_ ?_ ?_)
        | refine And.intro (fun h => absurd h (by decide)) (fun _ => ?_)
        | refine And.intro (fun _ => ?_) (fun h => absurd (by decide) h)
        | refine And.intro (fun _ => ?_) (fun _ => ?_)
        | refine And.intro ?_ ?_
      all_goals (first | decide | omega | (rw [ci]; omega) | (intro a b q1; rw [am_upN q1]; exact hv0 a b q1) | (intro q hq; by_cases d : (q : Int) = i; (rw [am_upS, if_pos ⟨rfl, by rw [ci]; omega⟩, et, show i.toNat = q by omega]); (rw [am_upM (by rw [ci]; omega)]; exact hv3 q (by omega))) | (rw [e14]; omega) | (intro j hj; rw [e14] at hj; rw [hv3 j (by omega), et]; have z := fp_lp_b (mv ν) j (ν 83 14).toNat; omega) | (unfold fp_rkr; rw [n3, e4]; refine am_dg_eq _ _ (fun p hp => ?_); rw [fp_od_o f1 y2 p (by omega)]; exact fp_od_i2 f1 (by omega) (fun q hq => hv3 q (by omega))) | (trace_state; fail))
  have lp2' : ∀ (i : Int) (μ : am_N) , (∀ a b, a ≠ 99 → μ a b = ν a b) → 0 ≤ i → i ≤ ν 83 14 → (∀ q : Nat, (q : Int) < i → μ 99 q = fp_rkt (mv ν) q) → am_AW l 0 (fun _ => 0) 224 Q 2 [some (.inr (.inr 83)), some (.inl i)] [] μ := fun i μ hv0 hv1 hv2 hv3 => lp2 ((ν 83 14 - i) + 1).toNat i μ hv0 hv1 hv2 hv3 (by omega)
  refine am_go (ct := fun pc => Nat.beq pc 2) am_oX7_ranks 300 ?_
  conv => whnf
  repeat' first
    | (refine (?_ : am_wp _ _ _ _ _ _ _ _ _ _ _ _); conv => whnf)
    | (refine (?_ : am_sw _ _ _ _); conv => whnf)
    | refine And.intro trivial ?_
    | exact trivial
    | ((with_reducible refine (?_ : am_AW _ _ _ _ _ 2 _ _ _)); refine lp2' _ _ ?_ ?_ ?_ ?_)
    | refine And.intro (fun h => absurd h (by decide)) (fun _ => ?_)
    | refine And.intro (fun _ => ?_) (fun h => absurd (by decide) h)
    | refine And.intro (fun _ => ?_) (fun _ => ?_)
    | refine And.intro ?_ ?_
  all_goals (first | decide | assumption | omega | rfl | (intros; rfl) | (intros; omega) | (trace_state; fail))
