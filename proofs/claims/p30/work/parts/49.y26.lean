/-! bets -/
def fp_bo (R : Nat → Int) : Nat → Bool
  | 0 => true
  | b + 1 => fp_bo R b && decide (1 ≤ R b ∧ R b ≤ 9)
theorem fp_bo_i {R : Nat → Int} : ∀ n : Nat, fp_bo R n = true ↔ ∀ i : Nat, i < n → 1 ≤ R i ∧ R i ≤ 9 := by
  intro n
  induction n with
  | zero => exact ⟨fun _ i hi => absurd hi (by omega), fun _ => rfl⟩
  | succ n ih =>
    simp only [fp_bo, Bool.and_eq_true, decide_eq_true_eq, ih]
    refine ⟨fun h i hi => ?_, fun h => ⟨fun i hi => h i (by omega), h n (by omega)⟩⟩
    by_cases d : i = n
    · rw [d]; exact h.2
    · exact h.1 i (by omega)
/-- whether bets are told -/
def fp_bk (F : am_N) (R : Nat → Int) (n : Int) : Prop := (F 0 4 ≠ 0 ∧ n = F 0 4) ∧ ∀ i : Nat, (i : Int) < n → 1 ≤ R i ∧ R i ≤ 9
def fp_bw (F : am_N) (R : Nat → Int) (i : Nat) : Int := fp_lw F i * (R i + 1)
theorem fp_bw_b {F : am_N} {R : Nat → Int} {i : Nat} (h4 : F 0 4 ≤ 4) (hi : (i : Int) < F 0 4) (hR : 1 ≤ R i ∧ R i ≤ 9) : 0 ≤ fp_bw F R i ∧ fp_bw F R i ≤ 2560 := by
  have a := fp_lw_c h4 hi
  have m := am_mulb a.1 a.2 (show 0 ≤ R i + 1 by omega) (show R i + 1 ≤ 10 by omega)
  unfold fp_bw
  omega
def fp_bb (F : am_N) (R : Nat → Int) : Nat := fq_x (fp_bw F R) ((F 0 4).toNat - 1)
def fp_bkb (F : am_N) (R : Nat → Int) (n : Int) : Bool := decide (F 0 4 ≠ 0) && (decide (n = F 0 4) && fp_bo R n.toNat)
theorem fp_bkb_i {F : am_N} {R : Nat → Int} {n : Int} : fp_bkb F R n = true ↔ fp_bk F R n := by
  unfold fp_bkb fp_bk
  simp only [Bool.and_eq_true, decide_eq_true_eq, fp_bo_i]
  refine ⟨fun h => ⟨⟨h.1, h.2.1⟩, fun i hi => h.2.2 i (by omega)⟩, fun h => ⟨h.1.1, h.1.2, fun i hi => h.2 i (by omega)⟩⟩
def fp_btr (F : am_N) (R : Nat → Int) (n : Int) : Int := bif fp_bkb F R n then ((fp_bb F R : Nat) : Int) else -3
def fp_bsr (F : am_N) (R : Nat → Int) (n w : Int) : Int := bif fp_bkb F R n then (if ¬(w = 0 ∨ w = 1) then 4000000000000000002 else fp_fr (fp_bw F R (fp_bb F R)) (fp_al2 F) w) else 4000000000000000003
theorem fp_btr_1 {F : am_N} {R : Nat → Int} {n : Int} (h : fp_bk F R n) : fp_btr F R n = ((fp_bb F R : Nat) : Int) := by
  unfold fp_btr; rw [fp_bkb_i.2 h]; rfl
theorem fp_btr_0 {F : am_N} {R : Nat → Int} {n : Int} (h : ¬ fp_bk F R n) : fp_btr F R n = -3 := by
  unfold fp_btr; rw [Bool.eq_false_iff.mpr (fun z => h (fp_bkb_i.1 z))]; rfl
theorem fp_bsr_1 {F : am_N} {R : Nat → Int} {n w : Int} (h : fp_bk F R n) : fp_bsr F R n w = if ¬(w = 0 ∨ w = 1) then 4000000000000000002 else fp_fr (fp_bw F R (fp_bb F R)) (fp_al2 F) w := by
  unfold fp_bsr; rw [fp_bkb_i.2 h]; rfl
theorem fp_bsr_0 {F : am_N} {R : Nat → Int} {n w : Int} (h : ¬ fp_bk F R n) : fp_bsr F R n w = 4000000000000000003 := by
  unfold fp_bsr; rw [Bool.eq_false_iff.mpr (fun z => h (fp_bkb_i.1 z))]; rfl
theorem s_betsTold {l : Launch} {ν : am_N} {Q : Option am_V → am_N → Prop} (f0 : 0 ≤ ν 1 4) (f1 : ν 1 4 ≤ 4) (n0 : 0 ≤ ν 44 1) (n1 : ν 44 1 ≤ 12) (hr : ∀ b : Nat, (b : Int) < ν 44 1 → 0 ≤ ν 45 b ∧ ν 45 b ≤ 99) (k1 : fp_bk (fv ν 1) (fp_rt (ν 44 1) (ν 45)) (ν 44 1) → Q (some (.inl 1)) ν) (k0 : ¬ fp_bk (fv ν 1) (fp_rt (ν 44 1) (ν 45)) (ν 44 1) → Q (some (.inl 0)) ν) : am_Does l 136 [.inr (.inr 0)] ν Q := by
  refine am_Does_of (Nat.le_of_ble_eq_true rfl) (Nat.le_of_ble_eq_true rfl) (Nat.le_of_ble_eq_true rfl) ?_
  have l0 : am_c 0 = 0 := rfl
  have l1 : am_c 1 = 1 := rfl
  have l9 : am_c 9 = 9 := rfl
  have l12 : am_c 12 = 12 := rfl
  have c14 : am_c (ν 1 4) = ν 1 4 := am_cR (by omega) (by omega)
  have c44 : am_c (ν 44 1) = ν 44 1 := am_cR (by omega) (by omega)
  have e4 : fv ν 1 0 4 = ν 1 4 := fv_0 (by decide)
  have lp31 : ∀ (m : Nat) (i : Int) , 0 ≤ i → i ≤ ν 44 1 → (ν 1 4 ≠ 0 ∧ ν 44 1 = ν 1 4) → (∀ q : Nat, (q : Int) < i → 1 ≤ ν 45 q ∧ ν 45 q ≤ 9) → ν 44 1 - i < (m : Int) → am_AW l 0 (fun _ => 0) 136 Q 31 [some (.inr (.inr 0)), some (.inl i)] [] ν := by
    intro m
    induction m with
    | zero =>
      intro i  hv0 hv1 hv2 hv3 hm
      exfalso
      omega
    | succ m ih =>
      intro i  hv0 hv1 hv2 hv3 hm
      have ci : am_c i = i := am_cR (by omega) (by omega)
      have cr := fun q : i < ν 44 1 => (show am_c (ν 45 i.toNat) = ν 45 i.toNat by have z := hr i.toNat (by omega); exact am_cR (by omega) (by omega))
      refine am_go (ct := fun pc => Nat.beq pc 31) am_oX6_betsTold 300 ?_
      conv => whnf
      repeat' first
        | (refine (?_ : am_wp _ _ _ _ _ _ _ _ _ _ _ _); conv => whnf)
        | (refine (?_ : am_sw _ _ _ _); conv => whnf)
        | refine And.intro trivial ?_
        | exact trivial
        | (have hi : i < ν 44 1 := (by (simp only [ci, c44] at *; first | done | omega)); have cr2 := cr hi; refine x_at_44 i hv0 hi n1 ?_)
        | refine k1 ?_
        | refine k0 ?_
        | refine k0 ?_
        | refine ih _  ?_ ?_ ?_ ?_ ?_
        | refine And.intro (fun h => absurd h (by decide)) (fun _ => ?_)
        | refine And.intro (fun _ => ?_) (fun h => absurd (by decide) h)
        | refine And.intro (fun _ => ?_) (fun _ => ?_)
        | refine And.intro ?_ ?_
      all_goals (first | decide | assumption | omega | (intro q hq; by_cases d : (q : Int) = i; (rw [show q = i.toNat by omega]; (simp only [cr2, l1, l9] at *; first | done | omega)); (exact hv3 q (by omega))) | (refine ⟨⟨by rw [e4]; exact hv2.1, by rw [e4]; exact hv2.2⟩, fun q hq => ?_⟩; rw [fp_rt_i hq]; exact hv3 q (by (simp only [ci, c44] at *; first | done | omega))) | (intro q hq; rw [fp_rt_i hq]; exact hv3 q (by (simp only [ci, c44] at *; first | done | omega))) | (intro z; have y := z.2 i.toNat (by omega); rw [fp_rt_i (by omega)] at y; (simp only [cr2, l1, l9] at *; first | done | omega)) | (trace_state; fail))
  have lp31' : ∀ (i : Int) , 0 ≤ i → i ≤ ν 44 1 → (ν 1 4 ≠ 0 ∧ ν 44 1 = ν 1 4) → (∀ q : Nat, (q : Int) < i → 1 ≤ ν 45 q ∧ ν 45 q ≤ 9) → am_AW l 0 (fun _ => 0) 136 Q 31 [some (.inr (.inr 0)), some (.inl i)] [] ν := fun i  hv0 hv1 hv2 hv3 => lp31 ((ν 44 1 - i) + 1).toNat i  hv0 hv1 hv2 hv3 (by omega)
  refine am_go (ct := fun pc => Nat.beq pc 31) am_oX6_betsTold 300 ?_
  conv => whnf
  repeat' first
    | (refine (?_ : am_wp _ _ _ _ _ _ _ _ _ _ _ _); conv => whnf)
    | (refine (?_ : am_sw _ _ _ _); conv => whnf)
    | refine And.intro trivial ?_
    | exact trivial
    | refine k0 ?_
    | refine lp31' _  ?_ ?_ ?_ ?_
    | refine And.intro (fun h => absurd h (by decide)) (fun _ => ?_)
    | refine And.intro (fun _ => ?_) (fun h => absurd (by decide) h)
    | refine And.intro (fun _ => ?_) (fun _ => ?_)
    | refine And.intro ?_ ?_
  all_goals (first | decide | assumption | omega | ((simp only [c14, c44, l0] at *; first | done | omega)) | (intro z; have y := z.1; rw [e4] at y; (simp only [c14, c44, l0] at *; first | done | omega)) | (intros; omega) | (constructor <;> ((simp only [c14, c44, l0] at *; first | done | omega))) | (trace_state; fail))
theorem s_betWays {l : Launch} {ν : am_N} {Q : Option am_V → am_N → Prop} (μ0 : am_N) (i : Int) (e14 : μ0 1 4 = ν 1 4) (f1 : μ0 1 4 ≤ 4) (hf : am_fC μ0 1) (hs : ∀ q : Nat, (q : Int) < μ0 1 4 → 0 ≤ μ0 5 q ∧ μ0 5 q ≤ 20) (d0 : ν 29 0 = μ0 1 4) (dr : ∀ q : Nat, (q : Int) < μ0 1 4 → ν 30 q = fp_pt (am_TC μ0 1 q) (μ0 5 q) 0 ∧ ν 31 q = am_TC μ0 1 q ∧ ν 32 q = am_TC μ0 1 q + μ0 5 q) (i0 : 0 ≤ i) (i1 : i < μ0 1 4) (e44 : ν 44 1 = μ0 44 1) (n1 : μ0 44 1 ≤ 12) (i2 : i < μ0 44 1) (e45 : ∀ b, ν 45 b = μ0 45 b) (k : Q (some (.inl (fp_bw (fv μ0 1) (fp_rt (μ0 44 1) (μ0 45)) i.toNat))) ν) : am_Does l 138 [.inr (.inr 0), .inl i] ν Q := by
  refine am_Does_of (Nat.le_of_ble_eq_true rfl) (Nat.le_of_ble_eq_true rfl) (Nat.le_of_ble_eq_true rfl) ?_
  have hb := fp_rw_b (c := 1) hf hs d0 dr
  have er : fp_rt (μ0 44 1) (μ0 45) i.toNat = μ0 45 i.toNat := fp_rt_i (by omega)
  refine am_go (ct := fun _ => false) am_oX6_betWays 300 ?_
  conv => whnf
  repeat' first
    | (refine (?_ : am_wp _ _ _ _ _ _ _ _ _ _ _ _); conv => whnf)
    | (refine (?_ : am_sw _ _ _ _); conv => whnf)
    | refine And.intro trivial ?_
    | exact trivial
    | (refine x_ways i i0 (by rw [d0]; exact i1) (by rw [d0]; exact f1) hb ?_; rw [fp_lw_C1 f1 (by omega) d0 dr])
    | (refine x_at_44 i i0 (by rw [e44]; exact i2) (by rw [e44]; exact n1) ?_; rw [e45])
    | refine am_qe k ?_
    | refine And.intro (fun h => absurd h (by decide)) (fun _ => ?_)
    | refine And.intro (fun _ => ?_) (fun h => absurd (by decide) h)
    | refine And.intro (fun _ => ?_) (fun _ => ?_)
    | refine And.intro ?_ ?_
  all_goals (first | decide | omega | (unfold fp_bw; rw [er]) | (trace_state; fail))
theorem s_bestBet {l : Launch} {ν : am_N} {Q : Option am_V → am_N → Prop} (hS : sx ν ν) (hw : fp_fw 999 (fv ν 1)) (n0 : 0 ≤ ν 44 1) (n1 : ν 44 1 ≤ 12) (hr : ∀ b : Nat, (b : Int) < ν 44 1 → 0 ≤ ν 45 b ∧ ν 45 b ≤ 99) (ok : fp_bk (fv ν 1) (fp_rt (ν 44 1) (ν 45)) (ν 44 1)) (k : ∀ μ' : am_N, (∀ a b, ¬(30 ≤ a ∧ a ≤ 32) → ¬(a = 29 ∧ b = 0) → μ' a b = ν a b) → μ' 29 0 = ν 1 4 → (∀ q : Nat, (q : Int) < ν 1 4 → μ' 30 q = fp_pt (am_TC ν 1 q) (ν 5 q) 0 ∧ μ' 31 q = am_TC ν 1 q ∧ μ' 32 q = am_TC ν 1 q + ν 5 q) → Q (some (.inl ((fp_bb (fv ν 1) (fp_rt (ν 44 1) (ν 45)) : Nat) : Int))) μ') : am_Does l 137 [.inr (.inr 0)] ν Q := by
  refine am_Does_of (Nat.le_of_ble_eq_true rfl) (Nat.le_of_ble_eq_true rfl) (Nat.le_of_ble_eq_true rfl) ?_
  have l0 : am_c 0 = 0 := rfl
  have l1 : am_c 1 = 1 := rfl
  have l9 : am_c 9 = 9 := rfl
  have l12 : am_c 12 = 12 := rfl
  have m1' : am_c (-1) = -1 := rfl
  have m2' : am_c (-2) = -2 := rfl
  have m3' : am_c (-3) = -3 := rfl
  obtain ⟨hf, -, -, -, -, -, hx⟩ := fw_C hw (by decide)
  have f0 := hf.1.1
  have f1 := hf.1.2
  have e4 : fv ν 1 0 4 = ν 1 4 := fv_0 (by decide)
  have c14 : am_c (ν 1 4) = ν 1 4 := am_cR (by omega) (by omega)
  have hs : ∀ q : Nat, (q : Int) < ν 1 4 → 0 ≤ ν 5 q ∧ ν 5 q ≤ 20 := fun q hq => (hx q hq).2.2.2
  have en : ν 44 1 = ν 1 4 := ok.1.2.trans e4
  have nz : ν 1 4 ≠ 0 := fun z => ok.1.1 (e4.trans z)
  have wb := fun (q : Nat) (h : (q : Int) < ν 1 4) => fp_bw_b (F := (fv ν 1)) (R := (fp_rt (ν 44 1) (ν 45))) (i := q) (by rw [e4]; exact f1) (by rw [e4]; exact h) (ok.2 q (by omega))
  have eb : fp_bb (fv ν 1) (fp_rt (ν 44 1) (ν 45)) = fq_x (fp_bw (fv ν 1) (fp_rt (ν 44 1) (ν 45))) ((ν 1 4).toNat - 1) := by unfold fp_bb; rw [e4]
  have lp15 : ∀ (m : Nat) (t i : Int) (μ : am_N) , (∀ a b, ¬(30 ≤ a ∧ a ≤ 32) → ¬(a = 29 ∧ b = 0) → μ a b = ν a b) → μ 29 0 = ν 1 4 → (∀ q : Nat, (q : Int) < ν 1 4 → μ 30 q = fp_pt (am_TC ν 1 q) (ν 5 q) 0 ∧ μ 31 q = am_TC ν 1 q ∧ μ 32 q = am_TC ν 1 q + ν 5 q) → 1 ≤ i → i ≤ ν 1 4 → t = ((fq_x (fp_bw (fv ν 1) (fp_rt (ν 44 1) (ν 45))) (i.toNat - 1) : Nat) : Int) → ν 1 4 - i < (m : Int) → am_AW l 0 (fun _ => 0) 137 Q 15 [some (.inr (.inr 0)), some (.inl t), some (.inl i)] [] μ := by
    intro m
    induction m with
    | zero =>
      intro t i μ hv0 hv1 hv2 hv3 hv4 hv5 hm
      exfalso
      omega
    | succ m ih =>
      intro t i μ hv0 hv1 hv2 hv3 hv4 hv5 hm
      have ci : am_c i = i := am_cR (by omega) (by omega)
      have e14 : μ 1 4 = ν 1 4 := hv0 1 4 (by omega) (by omega)
      have tl := fq_x_l (fp_bw (fv ν 1) (fp_rt (ν 44 1) (ν 45))) (i.toNat - 1)
      have ee : ((i.toNat : Nat) : Int) = i := Int.toNat_of_nonneg (by omega)
      have et : t.toNat = fq_x (fp_bw (fv ν 1) (fp_rt (ν 44 1) (ν 45))) (i.toNat - 1) := by omega
      have w1 := fun q : i < ν 1 4 => wb i.toNat (by omega)
      have w2 := wb t.toNat (by omega)
      have c2 : am_c (fp_bw (fv ν 1) (fp_rt (ν 44 1) (ν 45)) t.toNat) = fp_bw (fv ν 1) (fp_rt (ν 44 1) (ν 45)) t.toNat := am_cR (by omega) (by omega)
      have c1 := fun q : i < ν 1 4 => (show am_c (fp_bw (fv ν 1) (fp_rt (ν 44 1) (ν 45)) i.toNat) = fp_bw (fv ν 1) (fp_rt (ν 44 1) (ν 45)) i.toNat from am_cR (by have z := w1 q; omega) (by have z := w1 q; omega))
      have kk := fun (x : Int) (e : x = ((fp_bb (fv ν 1) (fp_rt (ν 44 1) (ν 45)) : Nat) : Int)) => am_qe (k μ hv0 hv1 hv2) e
      refine am_go (ct := fun pc => Nat.beq pc 15) am_oX6_bestBet 300 ?_
      conv => whnf
      repeat' first
        | (refine (?_ : am_wp _ _ _ _ _ _ _ _ _ _ _ _); conv => whnf)
        | (refine (?_ : am_sw _ _ _ _); conv => whnf)
        | refine And.intro trivial ?_
        | exact trivial
        | (have hi : i < ν 1 4 := (by (simp only [ci, e14, c14] at *; first | done | omega)); have cz := c1 hi; first | (refine s_betWays ν i e14.symm f1 hf hs hv1 hv2 (by omega) hi (hv0 44 1 (by omega) (by omega)) n1 (by omega) (fun b => hv0 45 b (by omega) (by omega)) ?_) | (refine s_betWays ν t e14.symm f1 hf hs hv1 hv2 (by omega) (by omega) (hv0 44 1 (by omega) (by omega)) n1 (by omega) (fun b => hv0 45 b (by omega) (by omega)) ?_))
        | refine kk _ ?_
        | refine x_draw_1 hf hs (fun μ1 g1 d0 dr => ?_)
        | refine ih _ _ _ ?_ ?_ ?_ ?_ ?_ ?_ ?_
        | refine And.intro (fun h => absurd h (by decide)) (fun _ => ?_)
        | refine And.intro (fun _ => ?_) (fun h => absurd (by decide) h)
        | refine And.intro (fun _ => ?_) (fun _ => ?_)
        | refine And.intro ?_ ?_
      all_goals (first | decide | assumption | omega | (rw [fq_x_s hv3, ← et]; first | (rw [if_pos (by (simp only [cz, c2] at *; first | done | omega))]; exact ee.symm) | (rw [if_neg (by (simp only [cz, c2] at *; first | done | omega))]; omega)) | (rw [eb, hv5, show i.toNat = (ν 1 4).toNat by (simp only [ci, e14, c14] at *; first | done | omega)]) | (trace_state; fail))
  have lp15' : ∀ (t i : Int) (μ : am_N) , (∀ a b, ¬(30 ≤ a ∧ a ≤ 32) → ¬(a = 29 ∧ b = 0) → μ a b = ν a b) → μ 29 0 = ν 1 4 → (∀ q : Nat, (q : Int) < ν 1 4 → μ 30 q = fp_pt (am_TC ν 1 q) (ν 5 q) 0 ∧ μ 31 q = am_TC ν 1 q ∧ μ 32 q = am_TC ν 1 q + ν 5 q) → 1 ≤ i → i ≤ ν 1 4 → t = ((fq_x (fp_bw (fv ν 1) (fp_rt (ν 44 1) (ν 45))) (i.toNat - 1) : Nat) : Int) → am_AW l 0 (fun _ => 0) 137 Q 15 [some (.inr (.inr 0)), some (.inl t), some (.inl i)] [] μ := fun t i μ hv0 hv1 hv2 hv3 hv4 hv5 => lp15 ((ν 1 4 - i) + 1).toNat t i μ hv0 hv1 hv2 hv3 hv4 hv5 (by omega)
  refine am_go (ct := fun pc => Nat.beq pc 15) am_oX6_bestBet 300 ?_
  conv => whnf
  repeat' first
    | (refine (?_ : am_wp _ _ _ _ _ _ _ _ _ _ _ _); conv => whnf)
    | (refine (?_ : am_sw _ _ _ _); conv => whnf)
    | refine And.intro trivial ?_
    | exact trivial
    | refine x_draw_1 hf hs (fun μ1 g1 d0 dr => ?_)
    | refine lp15' _ _ _ ?_ ?_ ?_ ?_ ?_ ?_
    | refine And.intro (fun h => absurd h (by decide)) (fun _ => ?_)
    | refine And.intro (fun _ => ?_) (fun h => absurd (by decide) h)
    | refine And.intro (fun _ => ?_) (fun _ => ?_)
    | refine And.intro ?_ ?_
  all_goals (first | decide | assumption | omega | rfl | (trace_state; fail))
theorem s_bet {l : Launch} {ν : am_N} {Q : Option am_V → am_N → Prop} (hS : sx ν ν) (hw : fp_fw 999 (fv ν 1)) (n0 : 0 ≤ ν 44 1) (n1 : ν 44 1 ≤ 12) (hr : ∀ b : Nat, (b : Int) < ν 44 1 → 0 ≤ ν 45 b ∧ ν 45 b ≤ 99) (k : ∀ μ' : am_N, sx ν μ' → Q (some (.inl (fp_btr (fv ν 1) (fp_rt (ν 44 1) (ν 45)) (ν 44 1)))) μ') : am_Does l 101 [.inr (.inr 0)] ν Q := by
  refine am_Does_of (Nat.le_of_ble_eq_true rfl) (Nat.le_of_ble_eq_true rfl) (Nat.le_of_ble_eq_true rfl) ?_
  have l0 : am_c 0 = 0 := rfl
  have l1 : am_c 1 = 1 := rfl
  have l9 : am_c 9 = 9 := rfl
  have l12 : am_c 12 = 12 := rfl
  have m1' : am_c (-1) = -1 := rfl
  have m2' : am_c (-2) = -2 := rfl
  have m3' : am_c (-3) = -3 := rfl
  obtain ⟨hf, -, -, -, -, -, hx⟩ := fw_C hw (by decide)
  have f0 := hf.1.1
  have f1 := hf.1.2
  have e4 : fv ν 1 0 4 = ν 1 4 := fv_0 (by decide)
  have c14 : am_c (ν 1 4) = ν 1 4 := am_cR (by omega) (by omega)
  have hs : ∀ q : Nat, (q : Int) < ν 1 4 → 0 ≤ ν 5 q ∧ ν 5 q ≤ 20 := fun q hq => (hx q hq).2.2.2
  refine am_go (ct := fun _ => false) am_oX6_bet 300 ?_
  conv => whnf
  repeat' first
    | (refine (?_ : am_wp _ _ _ _ _ _ _ _ _ _ _ _); conv => whnf)
    | (refine (?_ : am_sw _ _ _ _); conv => whnf)
    | refine And.intro trivial ?_
    | exact trivial
    | refine s_betsTold f0 f1 n0 n1 hr (fun y => ?_) (fun y => ?_)
    | refine x_refuse _ ?_ (fun μr fr => ?_)
    | (refine s_bestBet hS hw n0 n1 hr y (fun μ2 g2 d0 dr => ?_); have sE : sx ν μ2 := sx_dr hS (fun a b q2 q3 _ => g2 a b q2 q3) (by rw [d0]; exact ⟨f0, f1⟩))
    | (refine am_qe (k _ sE) (fp_btr_1 y).symm)
    | (refine am_qe (k _ (sx_78 hS fr)) (fp_btr_0 y).symm)
    | refine And.intro (fun h => absurd h (by decide)) (fun _ => ?_)
    | refine And.intro (fun _ => ?_) (fun h => absurd (by decide) h)
    | refine And.intro (fun _ => ?_) (fun _ => ?_)
    | refine And.intro ?_ ?_
  all_goals (first | decide | omega | (trace_state; fail))
theorem s_bets {l : Launch} {ν : am_N} {Q : Option am_V → am_N → Prop} (w : Int) (cw : am_c w = w) (hS : sx ν ν) (hw : fp_fw 999 (fv ν 1)) (n0 : 0 ≤ ν 44 1) (n1 : ν 44 1 ≤ 12) (hr : ∀ b : Nat, (b : Int) < ν 44 1 → 0 ≤ ν 45 b ∧ ν 45 b ≤ 99) (k : ∀ μ' : am_N, sx ν μ' → Q (some (.inr (.inl (fp_bsr (fv ν 1) (fp_rt (ν 44 1) (ν 45)) (ν 44 1) w)))) μ') : am_Does l 102 [.inr (.inr 0), .inl w] ν Q := by
  refine am_Does_of (Nat.le_of_ble_eq_true rfl) (Nat.le_of_ble_eq_true rfl) (Nat.le_of_ble_eq_true rfl) ?_
  have l0 : am_c 0 = 0 := rfl
  have l1 : am_c 1 = 1 := rfl
  have l9 : am_c 9 = 9 := rfl
  have l12 : am_c 12 = 12 := rfl
  have m1' : am_c (-1) = -1 := rfl
  have m2' : am_c (-2) = -2 := rfl
  have m3' : am_c (-3) = -3 := rfl
  obtain ⟨hf, -, -, -, -, -, hx⟩ := fw_C hw (by decide)
  have f0 := hf.1.1
  have f1 := hf.1.2
  have e4 : fv ν 1 0 4 = ν 1 4 := fv_0 (by decide)
  have c14 : am_c (ν 1 4) = ν 1 4 := am_cR (by omega) (by omega)
  have hs : ∀ q : Nat, (q : Int) < ν 1 4 → 0 ≤ ν 5 q ∧ ν 5 q ≤ 20 := fun q hq => (hx q hq).2.2.2
  obtain ⟨t, et, ht⟩ := fp_al2_e f0 f1
  have al := fp_al2_b f0 f1
  have cA : am_c (am_shl 1 (2 * ν 1 4)) = am_shl 1 (2 * ν 1 4) := am_cR (by omega) (by omega)
  have ea : fp_al2 (fv ν 1) = am_shl 1 (2 * ν 1 4) := by unfold fp_al2; rw [e4]
  have tl := fq_x_l (fp_bw (fv ν 1) (fp_rt (ν 44 1) (ν 45))) ((ν 1 4).toNat - 1)
  have eb : fp_bb (fv ν 1) (fp_rt (ν 44 1) (ν 45)) = fq_x (fp_bw (fv ν 1) (fp_rt (ν 44 1) (ν 45))) ((ν 1 4).toNat - 1) := by unfold fp_bb; rw [e4]
  refine am_go (ct := fun _ => false) am_oX6_bets 300 ?_
  conv => whnf
  repeat' first
    | (refine (?_ : am_wp _ _ _ _ _ _ _ _ _ _ _ _); conv => whnf)
    | (refine (?_ : am_sw _ _ _ _); conv => whnf)
    | refine And.intro trivial ?_
    | exact trivial
    | refine s_betsTold f0 f1 n0 n1 hr (fun y => ?_) (fun y => ?_)
    | refine x_refuseLong _ ?_ (fun μr fr => ?_)
    | refine x_noPart _ cw (fun z => ?_) (fun z => ?_)
    | (have en : ν 44 1 = ν 1 4 := y.1.2.trans e4; have nz : ν 1 4 ≠ 0 := (fun z => y.1.1 (e4.trans z)); refine s_bestBet hS hw n0 n1 hr y (fun μ2 g2 d0 dr => ?_); have sE : sx ν μ2 := sx_dr hS (fun a b q2 q3 _ => g2 a b q2 q3) (by rw [d0]; exact ⟨f0, f1⟩); have e14 : μ2 1 4 = ν 1 4 := g2 1 4 (by omega) (by omega); have bb : fp_bb (fv ν 1) (fp_rt (ν 44 1) (ν 45)) < (ν 1 4).toNat := (by omega); have wb := fp_bw_b (F := fv ν 1) (R := fp_rt (ν 44 1) (ν 45)) (i := fp_bb (fv ν 1) (fp_rt (ν 44 1) (ν 45))) (by rw [e4]; exact f1) (by rw [e4]; omega) (y.2 _ (by omega)); have cb : am_c (fp_bw (fv ν 1) (fp_rt (ν 44 1) (ν 45)) (fp_bb (fv ν 1) (fp_rt (ν 44 1) (ν 45)))) = fp_bw (fv ν 1) (fp_rt (ν 44 1) (ν 45)) (fp_bb (fv ν 1) (fp_rt (ν 44 1) (ν 45))) := am_cR (by omega) (by omega))
    | (refine s_betWays ν _ e14.symm f1 hf hs d0 dr (by omega) (by omega) (g2 44 1 (by omega) (by omega)) n1 (by omega) (fun b => g2 45 b (by omega) (by omega)) ?_; rw [Int.toNat_natCast])
    | (refine s_allWays ?_; rw [d0])
    | (rw [cb, cA]; refine s_fraction _ _ _ t cw wb.1 (by omega) et ht (by omega) ?_)
    | refine am_qd (k _ sE) ?_
    | (refine am_qd (k _ (sx_78 hS fr)) ?_)
    | refine And.intro (fun h => absurd h (by decide)) (fun _ => ?_)
    | refine And.intro (fun _ => ?_) (fun h => absurd (by decide) h)
    | refine And.intro (fun _ => ?_) (fun _ => ?_)
    | refine And.intro ?_ ?_
  all_goals (first | decide | omega | (rw [fp_bsr_0 y]; rfl) | (rw [fp_bsr_1 y, if_pos (by omega)]; rfl) | (rw [fp_bsr_1 y, if_neg (by omega), ea]) | (trace_state; fail))
theorem n_areBets {l : Launch} {ν : am_N} {Q : Option am_V → am_N → Prop} (f0 : 0 ≤ ν 83 14) (f1 : ν 83 14 ≤ 4) (n0 : 0 ≤ ν 83 42) (n1 : ν 83 42 ≤ 12) (hr : ∀ b : Nat, (b : Int) < ν 83 42 → 0 ≤ ν 106 b ∧ ν 106 b ≤ 99) (k1 : fp_bk (mv ν) (fp_rt (ν 83 42) (ν 106)) (ν 83 42) → Q (some (.inl 1)) ν) (k0 : ¬ fp_bk (mv ν) (fp_rt (ν 83 42) (ν 106)) (ν 83 42) → Q (some (.inl 0)) ν) : am_Does l 229 [.inr (.inr 83)] ν Q := by
  refine am_Does_of (Nat.le_of_ble_eq_true rfl) (Nat.le_of_ble_eq_true rfl) (Nat.le_of_ble_eq_true rfl) ?_
  have l0 : am_c 0 = 0 := rfl
  have l1 : am_c 1 = 1 := rfl
  have l9 : am_c 9 = 9 := rfl
  have l12 : am_c 12 = 12 := rfl
  have c14 : am_c (ν 83 14) = ν 83 14 := am_cR (by omega) (by omega)
  have c42 : am_c (ν 83 42) = ν 83 42 := am_cR (by omega) (by omega)
  have e4 : mv ν 0 4 = ν 83 14 := rfl
  have lp2 : ∀ (m : Nat) (i : Int) , 0 ≤ i → i ≤ ν 83 42 → (∀ q : Nat, (q : Int) < i → 1 ≤ ν 106 q ∧ ν 106 q ≤ 9) → ν 83 42 - i < (m : Int) → am_AW l 0 (fun _ => 0) 229 Q 2 [some (.inr (.inr 83)), some (.inl i)] [] ν := by
    intro m
    induction m with
    | zero =>
      intro i  hv0 hv1 hv2 hm
      exfalso
      omega
    | succ m ih =>
      intro i  hv0 hv1 hv2 hm
      have ci : am_c i = i := am_cR (by omega) (by omega)
      have ei : (am_c i).toNat = i.toNat := by rw [ci]
      have cr := fun q : i < ν 83 42 => (show am_c (ν 106 (am_c i).toNat) = ν 106 (am_c i).toNat by rw [ei]; have z := hr i.toNat (by omega); exact am_cR (by omega) (by omega))
      refine am_go (ct := fun pc => Nat.beq pc 2) am_oX7_areBets 300 ?_
      conv => whnf
      repeat' first
        | (refine (?_ : am_wp _ _ _ _ _ _ _ _ _ _ _ _); conv => whnf)
        | (refine (?_ : am_sw _ _ _ _); conv => whnf)
        | refine And.intro trivial ?_
        | exact trivial
        | (have hi : i < ν 83 42 := (by (simp only [ci, c42] at *; first | done | omega)); refine x_isIn (ν 106 (am_c i).toNat) _ _ _ rfl (cr hi) rfl rfl (fun y0 y1 => ?_) (fun y => ?_))
        | refine k1 ?_
        | refine k0 ?_
        | refine ih _  ?_ ?_ ?_ ?_
        | refine And.intro (fun h => absurd h (by decide)) (fun _ => ?_)
        | refine And.intro (fun _ => ?_) (fun h => absurd (by decide) h)
        | refine And.intro (fun _ => ?_) (fun _ => ?_)
        | refine And.intro ?_ ?_
      all_goals (first | decide | assumption | omega | (rw [ci]; (simp only [ci, c42] at *; first | done | omega)) | (intro q hq; by_cases d : (q : Int) = i; (rw [show q = i.toNat by omega, ← ei]; exact ⟨y0, y1⟩); (exact hv2 q (by omega))) | (intro q hq; rw [fp_rt_i hq]; exact hv2 q (by (simp only [ci, c42] at *; first | done | omega))) | (intro z; have w := z.2 i.toNat (by omega); rw [fp_rt_i (by omega), ← ei] at w; omega) | (refine ⟨⟨by rw [e4]; (simp only [c14, c42, l0] at *; first | done | omega), by rw [e4]; (simp only [c14, c42, l0] at *; first | done | omega)⟩, fun q hq => ?_⟩; rw [fp_rt_i hq]; exact hv2 q (by (simp only [ci, c42] at *; first | done | omega))) | (intro z; have y := z.1; rw [e4] at y; (simp only [c14, c42, l0] at *; first | done | omega)) | (trace_state; fail))
  have lp2' : ∀ (i : Int) , 0 ≤ i → i ≤ ν 83 42 → (∀ q : Nat, (q : Int) < i → 1 ≤ ν 106 q ∧ ν 106 q ≤ 9) → am_AW l 0 (fun _ => 0) 229 Q 2 [some (.inr (.inr 83)), some (.inl i)] [] ν := fun i  hv0 hv1 hv2 => lp2 ((ν 83 42 - i) + 1).toNat i  hv0 hv1 hv2 (by omega)
  refine am_go (ct := fun pc => Nat.beq pc 2) am_oX7_areBets 300 ?_
  conv => whnf
  repeat' first
    | (refine (?_ : am_wp _ _ _ _ _ _ _ _ _ _ _ _); conv => whnf)
    | (refine (?_ : am_sw _ _ _ _); conv => whnf)
    | refine And.intro trivial ?_
    | exact trivial
    | refine lp2' _  ?_ ?_ ?_
    | refine And.intro (fun h => absurd h (by decide)) (fun _ => ?_)
    | refine And.intro (fun _ => ?_) (fun h => absurd (by decide) h)
    | refine And.intro (fun _ => ?_) (fun _ => ?_)
    | refine And.intro ?_ ?_
  all_goals (first | decide | assumption | omega | (intros; omega) | (trace_state; fail))
theorem n_bestBet {l : Launch} {ν : am_N} {Q : Option am_V → am_N → Prop} (hm : mi ν) (hw : fp_fw 999 (mv ν)) (n0 : 0 ≤ ν 83 42) (n1 : ν 83 42 ≤ 12) (hr : ∀ b : Nat, (b : Int) < ν 83 42 → 0 ≤ ν 106 b ∧ ν 106 b ≤ 99) (ok : fp_bk (mv ν) (fp_rt (ν 83 42) (ν 106)) (ν 83 42)) (k : ∀ μ' : am_N, gm ms ν μ' → (∀ r : Nat, (r : Int) < ν 83 14 → μ' 104 r = fp_lw (mv ν) r) → (∀ b, μ' 106 b = ν 106 b) → Q (some (.inl ((fp_bb (mv ν) (fp_rt (ν 83 42) (ν 106)) : Nat) : Int))) μ') : am_Does l 230 [.inr (.inr 83)] ν Q := by
  refine am_Does_of (Nat.le_of_ble_eq_true rfl) (Nat.le_of_ble_eq_true rfl) (Nat.le_of_ble_eq_true rfl) ?_
  have l0 : am_c 0 = 0 := rfl
  have l1 : am_c 1 = 1 := rfl
  have l9 : am_c 9 = 9 := rfl
  have l12 : am_c 12 = 12 := rfl
  have m1' : am_c (-1) = -1 := rfl
  have m2' : am_c (-2) = -2 := rfl
  have m3' : am_c (-3) = -3 := rfl
  obtain ⟨hf, -, -, -, -, -, hx⟩ := fw_M hw (by decide)
  have f0 := hf.1.1
  have f1 := hf.1.2
  have e4 : mv ν 0 4 = ν 83 14 := rfl
  have c14 : am_c (ν 83 14) = ν 83 14 := am_cR (by omega) (by omega)
  have en : ν 83 42 = ν 83 14 := ok.1.2
  have nz : ν 83 14 ≠ 0 := ok.1.1
  have wb := fun (q : Nat) (h : (q : Int) < ν 83 14) => fp_bw_b (F := (mv ν)) (R := (fp_rt (ν 83 42) (ν 106))) (i := q) f1 h (ok.2 q (by omega))
  have eb : fp_bb (mv ν) (fp_rt (ν 83 42) (ν 106)) = fq_x (fp_bw (mv ν) (fp_rt (ν 83 42) (ν 106))) ((ν 83 14).toNat - 1) := rfl
  have lp8 : ∀ (m : Nat) (t i : Int) (μ : am_N) , gm ms ν μ → (∀ r : Nat, (r : Int) < ν 83 14 → μ 104 r = fp_lw (mv ν) r) → (∀ b, μ 106 b = ν 106 b) → 1 ≤ i → i ≤ ν 83 14 → t = ((fq_x (fp_bw (mv ν) (fp_rt (ν 83 42) (ν 106))) (i.toNat - 1) : Nat) : Int) → ν 83 14 - i < (m : Int) → am_AW l 0 (fun _ => 0) 230 Q 8 [some (.inr (.inr 83)), some (.inl t), some (.inl i)] [] μ := by
    intro m
    induction m with
    | zero =>
      intro t i μ hv0 hv1 hv2 hv3 hv4 hv5 hm
      exfalso
      omega
    | succ m ih =>
      intro t i μ hv0 hv1 hv2 hv3 hv4 hv5 hm
      have ci : am_c i = i := am_cR (by omega) (by omega)
      have e14 : μ 83 14 = ν 83 14 := hv0.2 83 14 rfl
      have tl := fq_x_l (fp_bw (mv ν) (fp_rt (ν 83 42) (ν 106))) (i.toNat - 1)
      have ct : am_c t = t := am_cR (by omega) (by omega)
      have ee : ((i.toNat : Nat) : Int) = i := Int.toNat_of_nonneg (by omega)
      have et : t.toNat = fq_x (fp_bw (mv ν) (fp_rt (ν 83 42) (ν 106))) (i.toNat - 1) := by omega
      have v2 : μ 104 (am_c t).toNat * (μ 106 (am_c t).toNat + 1) = fp_bw (mv ν) (fp_rt (ν 83 42) (ν 106)) t.toNat := by rw [ct, hv1 t.toNat (by omega), hv2]; unfold fp_bw; rw [fp_rt_i (by omega)]
      have v1 := fun q : i < ν 83 14 => (show μ 104 (am_c i).toNat * (μ 106 (am_c i).toNat + 1) = fp_bw (mv ν) (fp_rt (ν 83 42) (ν 106)) i.toNat by rw [ci, hv1 i.toNat (by omega), hv2]; unfold fp_bw; rw [fp_rt_i (by omega)])
      have w1 := fun q : i < ν 83 14 => wb i.toNat (by omega)
      have w2 := wb t.toNat (by omega)
      have c2 : am_c (fp_bw (mv ν) (fp_rt (ν 83 42) (ν 106)) t.toNat) = fp_bw (mv ν) (fp_rt (ν 83 42) (ν 106)) t.toNat := am_cR (by omega) (by omega)
      have c1 := fun q : i < ν 83 14 => (show am_c (fp_bw (mv ν) (fp_rt (ν 83 42) (ν 106)) i.toNat) = fp_bw (mv ν) (fp_rt (ν 83 42) (ν 106)) i.toNat from am_cR (by have z := w1 q; omega) (by have z := w1 q; omega))
      have kk := fun (x : Int) (e : x = ((fp_bb (mv ν) (fp_rt (ν 83 42) (ν 106)) : Nat) : Int)) => am_qe (k μ hv0 hv1 hv2) e
      refine am_go (ct := fun pc => Nat.beq pc 8) am_oX7_bestBet 300 ?_
      conv => whnf
      repeat' first
        | (refine (?_ : am_wp _ _ _ _ _ _ _ _ _ _ _ _); conv => whnf)
        | (refine (?_ : am_sw _ _ _ _); conv => whnf)
        | refine And.intro trivial ?_
        | exact trivial
        | (refine (?_ : gm _ _ _); (first | decide | assumption | omega | (rw [ci]; (simp only [ci, e14, c14] at *; first | done | omega)) | (rw [ct]; (simp only [ci, e14, c14] at *; first | done | omega)) | (simp only [ci, e14, c14] at *; omega) | (have hi : i < ν 83 14 := (by (simp only [ci, e14, c14] at *; first | done | omega)); (first | have v1 := v1 hi | skip); (first | have c1 := c1 hi | skip); rw [fq_x_s hv3, ← et]; first | (rw [if_pos (by (simp only [v1, v2, c1, c2] at *; first | done | omega))]; exact ee.symm) | (rw [if_neg (by (simp only [v1, v2, c1, c2] at *; first | done | omega))]; omega)) | (rw [eb, hv5, show i.toNat = (ν 83 14).toNat by (simp only [ci, e14, c14] at *; first | done | omega)]) | (trace_state; fail)))
        | refine kk _ ?_
        | refine n_findFirsts hm hw (fun μ1 h1 g1 v1 => ?_)
        | refine ih _ _ _ ?_ ?_ ?_ ?_ ?_ ?_ ?_
        | refine And.intro (fun h => absurd h (by decide)) (fun _ => ?_)
        | refine And.intro (fun _ => ?_) (fun h => absurd (by decide) h)
        | refine And.intro (fun _ => ?_) (fun _ => ?_)
        | refine And.intro ?_ ?_
      all_goals (first | decide | assumption | omega | (rw [ci]; (simp only [ci, e14, c14] at *; first | done | omega)) | (rw [ct]; (simp only [ci, e14, c14] at *; first | done | omega)) | (simp only [ci, e14, c14] at *; omega) | (have hi : i < ν 83 14 := (by (simp only [ci, e14, c14] at *; first | done | omega)); (first | have v1 := v1 hi | skip); (first | have c1 := c1 hi | skip); rw [fq_x_s hv3, ← et]; first | (rw [if_pos (by (simp only [v1, v2, c1, c2] at *; first | done | omega))]; exact ee.symm) | (rw [if_neg (by (simp only [v1, v2, c1, c2] at *; first | done | omega))]; omega)) | (rw [eb, hv5, show i.toNat = (ν 83 14).toNat by (simp only [ci, e14, c14] at *; first | done | omega)]) | (trace_state; fail))
  have lp8' : ∀ (t i : Int) (μ : am_N) , gm ms ν μ → (∀ r : Nat, (r : Int) < ν 83 14 → μ 104 r = fp_lw (mv ν) r) → (∀ b, μ 106 b = ν 106 b) → 1 ≤ i → i ≤ ν 83 14 → t = ((fq_x (fp_bw (mv ν) (fp_rt (ν 83 42) (ν 106))) (i.toNat - 1) : Nat) : Int) → am_AW l 0 (fun _ => 0) 230 Q 8 [some (.inr (.inr 83)), some (.inl t), some (.inl i)] [] μ := fun t i μ hv0 hv1 hv2 hv3 hv4 hv5 => lp8 ((ν 83 14 - i) + 1).toNat t i μ hv0 hv1 hv2 hv3 hv4 hv5 (by omega)
  refine am_go (ct := fun pc => Nat.beq pc 8) am_oX7_bestBet 300 ?_
  conv => whnf
  repeat' first
    | (refine (?_ : am_wp _ _ _ _ _ _ _ _ _ _ _ _); conv => whnf)
    | (refine (?_ : am_sw _ _ _ _); conv => whnf)
    | refine And.intro trivial ?_
    | exact trivial
    | (refine (?_ : gm _ _ _); (first | decide | assumption | omega | rfl | (intro b; exact g1 106 b (by decide) (by decide) (by decide)) | (trace_state; fail)))
    | refine n_findFirsts hm hw (fun μ1 h1 g1 v1 => ?_)
    | refine lp8' _ _ _ ?_ ?_ ?_ ?_ ?_ ?_
    | refine And.intro (fun h => absurd h (by decide)) (fun _ => ?_)
    | refine And.intro (fun _ => ?_) (fun h => absurd (by decide) h)
    | refine And.intro (fun _ => ?_) (fun _ => ?_)
    | refine And.intro ?_ ?_
  all_goals (first | decide | assumption | omega | rfl | (intro b; exact g1 106 b (by decide) (by decide) (by decide)) | (trace_state; fail))
theorem n_bet {l : Launch} {ν : am_N} {Q : Option am_V → am_N → Prop} (hm : mi ν) (hw : fp_fw 999 (mv ν)) (n0 : 0 ≤ ν 83 42) (n1 : ν 83 42 ≤ 12) (hr : ∀ b : Nat, (b : Int) < ν 83 42 → 0 ≤ ν 106 b ∧ ν 106 b ≤ 99) (k : ∀ μ' : am_N, gm ms ν μ' → Q (some (.inl (fp_btr (mv ν) (fp_rt (ν 83 42) (ν 106)) (ν 83 42)))) μ') : am_Does l 231 [.inr (.inr 83)] ν Q := by
  refine am_Does_of (Nat.le_of_ble_eq_true rfl) (Nat.le_of_ble_eq_true rfl) (Nat.le_of_ble_eq_true rfl) ?_
  have l0 : am_c 0 = 0 := rfl
  have l1 : am_c 1 = 1 := rfl
  have l9 : am_c 9 = 9 := rfl
  have l12 : am_c 12 = 12 := rfl
  have m1' : am_c (-1) = -1 := rfl
  have m2' : am_c (-2) = -2 := rfl
  have m3' : am_c (-3) = -3 := rfl
  obtain ⟨hf, -, -, -, -, -, hx⟩ := fw_M hw (by decide)
  have f0 := hf.1.1
  have f1 := hf.1.2
  have e4 : mv ν 0 4 = ν 83 14 := rfl
  have c14 : am_c (ν 83 14) = ν 83 14 := am_cR (by omega) (by omega)
  refine am_go (ct := fun _ => false) am_oX7_bet 300 ?_
  conv => whnf
  repeat' first
    | (refine (?_ : am_wp _ _ _ _ _ _ _ _ _ _ _ _); conv => whnf)
    | (refine (?_ : am_sw _ _ _ _); conv => whnf)
    | refine And.intro trivial ?_
    | exact trivial
    | refine n_areBets f0 f1 n0 n1 hr (fun y => ?_) (fun y => ?_)
    | refine x_no _ ?_ (fun μr fr => ?_)
    | refine n_bestBet hm hw n0 n1 hr y (fun μ2 h2 _ _ => ?_)
    | (refine am_qe (k _ h2) (fp_btr_1 y).symm)
    | (refine am_qe (k _ (mi_84 hm fr)) (fp_btr_0 y).symm)
    | refine And.intro (fun h => absurd h (by decide)) (fun _ => ?_)
    | refine And.intro (fun _ => ?_) (fun h => absurd (by decide) h)
    | refine And.intro (fun _ => ?_) (fun _ => ?_)
    | refine And.intro ?_ ?_
  all_goals (first | decide | omega | (trace_state; fail))
theorem fp_n4 {m : Nat} (h : m < 4) : 0 ≤ (m : Int) ∧ (m : Int) < 4 ∧ am_c (m : Int) = (m : Int) := ⟨by omega, by omega, am_cR (by omega) (by omega)⟩
theorem n_bets0 {l : Launch} {ν : am_N} {Q : Option am_V → am_N → Prop} (w : Int) (kA : ∀ {Q' : Option am_V → am_N → Prop}, Q' (some (.inl 0)) ν → am_Does l 229 [.inr (.inr 83)] ν Q') (k3 : ∀ μ' : am_N, (∀ a b, a ≠ 84 → μ' a b = ν a b) → Q (some (.inr (.inl 4000000000000000003))) μ') : am_Does l 232 [.inr (.inr 83), .inl w] ν Q := by
  refine am_Does_of (Nat.le_of_ble_eq_true rfl) (Nat.le_of_ble_eq_true rfl) (Nat.le_of_ble_eq_true rfl) ?_
  refine am_go (ct := fun _ => false) am_oX7_bets 300 ?_
  conv => whnf
  repeat' first
    | (refine (?_ : am_wp _ _ _ _ _ _ _ _ _ _ _ _); conv => whnf)
    | (refine (?_ : am_sw _ _ _ _); conv => whnf)
    | refine And.intro trivial ?_
    | exact trivial
    | ((with_reducible refine (?_ : am_Does _ 229 _ _ _)); refine kA ?_)
    | ((with_reducible refine (?_ : am_Does _ 142 _ _ _)); refine x_lowest _ ?_ (fun μr fr => ?_))
    | ((with_reducible refine (?_ : Q _ _)); exact am_qd (k3 _ fr) (by first | decide | rfl))
    | refine And.intro (fun h => absurd h (by decide)) (fun _ => ?_)
    | refine And.intro (fun _ => ?_) (fun h => absurd (by decide) h)
    | refine And.intro (fun _ => ?_) (fun _ => ?_)
    | refine And.intro ?_ ?_
  all_goals (first | decide | omega | (trace_state; fail))
theorem n_betsG {l : Launch} {ν : am_N} {Q : Option am_V → am_N → Prop} (w W A : Int) (cw : am_c w = w) (cW : am_c W = W) (cA : am_c A = A) (W0 : 0 ≤ W) (W1 : W ≤ 2560) (A0 : 1 ≤ A) (A1 : A ≤ 256) (kA : ∀ {Q' : Option am_V → am_N → Prop}, Q' (some (.inl 1)) ν → am_Does l 229 [.inr (.inr 83)] ν Q') (kB : ∀ {Q' : Option am_V → am_N → Prop}, (∀ (b : Int) (μ' : am_N), 0 ≤ b → b < 4 → am_c b = b → gm ms ν μ' → am_shl 1 (2 * μ' 83 14) = A → μ' 104 b.toNat * (μ' 106 b.toNat + 1) = W → Q' (some (.inl b)) μ') → am_Does l 230 [.inr (.inr 83)] ν Q') (k2 : ∀ μ' : am_N, (∀ a b, a ≠ 84 → μ' a b = ν a b) → ¬(w = 0 ∨ w = 1) → Q (some (.inr (.inl 4000000000000000002))) μ') (kF : ∀ μ' : am_N, gm ms ν μ' → (w = 0 ∨ w = 1) → Q (some (.inr (.inl (fp_fr W A w)))) μ') : am_Does l 232 [.inr (.inr 83), .inl w] ν Q := by
  refine am_Does_of (Nat.le_of_ble_eq_true rfl) (Nat.le_of_ble_eq_true rfl) (Nat.le_of_ble_eq_true rfl) ?_
  refine am_go (ct := fun _ => false) am_oX7_bets 300 ?_
  conv => whnf
  repeat' first
    | (refine (?_ : am_wp _ _ _ _ _ _ _ _ _ _ _ _); conv => whnf)
    | (refine (?_ : am_sw _ _ _ _); conv => whnf)
    | refine And.intro trivial ?_
    | exact trivial
    | ((with_reducible refine (?_ : am_Does _ 229 _ _ _)); refine kA ?_)
    | ((with_reducible refine (?_ : am_Does _ 143 _ _ _)); refine x_isIn w _ _ _ rfl cw ?_ ?_ (fun y0 y1 => ?_) (fun z => ?_))
    | ((with_reducible refine (?_ : am_Does _ 142 _ _ _)); refine x_lowest _ ?_ (fun μr fr => ?_))
    | ((with_reducible refine (?_ : am_Does _ 230 _ _ _)); refine kB (fun b μ2 b0 b1 cb h2 e14 v => ?_))
    | ((with_reducible refine (?_ : am_Does _ 169 _ _ _)); refine n_races ?_; rw [e14])
    | ((with_reducible refine (?_ : am_Does _ 185 _ _ _)); rw [cb, v, cW, cA]; refine n_partOf _ _ _ cw W0 (by omega) A0 (by omega) ?_)
    | ((with_reducible refine (?_ : Q _ _)); first | exact kF _ h2 (by omega) | exact am_qd (k2 _ fr (by omega)) (by first | decide | rfl))
    | refine And.intro (fun h => absurd h (by decide)) (fun _ => ?_)
    | refine And.intro (fun _ => ?_) (fun h => absurd h (by decide))
    | refine And.intro (fun h => absurd (by decide) h) (fun _ => ?_)
    | refine And.intro (fun _ => ?_) (fun h => absurd (by decide) h)
    | refine And.intro (fun _ => ?_) (fun _ => ?_)
    | refine And.intro ?_ ?_
  all_goals (first | decide | omega | (rw [cb]; omega) | (trace_state; fail))
theorem n_bets {l : Launch} {ν : am_N} {Q : Option am_V → am_N → Prop} (w : Int) (cw : am_c w = w) (hm : mi ν) (hw : fp_fw 999 (mv ν)) (n0 : 0 ≤ ν 83 42) (n1 : ν 83 42 ≤ 12) (hr : ∀ b : Nat, (b : Int) < ν 83 42 → 0 ≤ ν 106 b ∧ ν 106 b ≤ 99) (k : ∀ μ' : am_N, gm ms ν μ' → Q (some (.inr (.inl (fp_bsr (mv ν) (fp_rt (ν 83 42) (ν 106)) (ν 83 42) w)))) μ') : am_Does l 232 [.inr (.inr 83), .inl w] ν Q := by
  have l0 : am_c 0 = 0 := rfl
  have l1 : am_c 1 = 1 := rfl
  have l9 : am_c 9 = 9 := rfl
  have l12 : am_c 12 = 12 := rfl
  have m1' : am_c (-1) = -1 := rfl
  have m2' : am_c (-2) = -2 := rfl
  have m3' : am_c (-3) = -3 := rfl
  obtain ⟨hf, -, -, -, -, -, hx⟩ := fw_M hw (by decide)
  have f0 := hf.1.1
  have f1 := hf.1.2
  have e4 : mv ν 0 4 = ν 83 14 := rfl
  have c14 : am_c (ν 83 14) = ν 83 14 := am_cR (by omega) (by omega)
  have al := fp_al2_b f0 f1
  have cA : am_c (am_shl 1 (2 * ν 83 14)) = am_shl 1 (2 * ν 83 14) := am_cR (by omega) (by omega)
  have ea : fp_al2 (mv ν) = am_shl 1 (2 * ν 83 14) := rfl
  have tl := fq_x_l (fp_bw (mv ν) (fp_rt (ν 83 42) (ν 106))) ((ν 83 14).toNat - 1)
  have eb : (fp_bb (mv ν) (fp_rt (ν 83 42) (ν 106))) = fq_x (fp_bw (mv ν) (fp_rt (ν 83 42) (ν 106))) ((ν 83 14).toNat - 1) := rfl
  have en2 : fp_bk (mv ν) (fp_rt (ν 83 42) (ν 106)) (ν 83 42) → ν 83 42 = ν 83 14 := fun y => y.1.2
  have bb2 : fp_bk (mv ν) (fp_rt (ν 83 42) (ν 106)) (ν 83 42) → (fp_bb (mv ν) (fp_rt (ν 83 42) (ν 106))) < (ν 83 14).toNat := fun y => by
    have nz : ν 83 14 ≠ 0 := y.1.1
    omega
  have wb2 : fp_bk (mv ν) (fp_rt (ν 83 42) (ν 106)) (ν 83 42) → 0 ≤ fp_bw (mv ν) (fp_rt (ν 83 42) (ν 106)) (fp_bb (mv ν) (fp_rt (ν 83 42) (ν 106))) ∧ fp_bw (mv ν) (fp_rt (ν 83 42) (ν 106)) (fp_bb (mv ν) (fp_rt (ν 83 42) (ν 106))) ≤ 2560 := fun y => by
    have z := bb2 y
    have en := en2 y
    exact fp_bw_b (F := (mv ν)) (R := (fp_rt (ν 83 42) (ν 106))) (i := (fp_bb (mv ν) (fp_rt (ν 83 42) (ν 106)))) f1 (by rw [e4]; omega) (y.2 _ (by omega))
  have cbi2 : fp_bk (mv ν) (fp_rt (ν 83 42) (ν 106)) (ν 83 42) → am_c (((fp_bb (mv ν) (fp_rt (ν 83 42) (ν 106))) : Nat) : Int) = (((fp_bb (mv ν) (fp_rt (ν 83 42) (ν 106))) : Nat) : Int) := fun y => by
    have z := bb2 y
    exact am_cR (by omega) (by omega)
  have vb2 : ∀ μ2 : am_N, (∀ r : Nat, (r : Int) < ν 83 14 → μ2 104 r = fp_lw (mv ν) r) → (∀ b, μ2 106 b = ν 106 b) → fp_bk (mv ν) (fp_rt (ν 83 42) (ν 106)) (ν 83 42) → μ2 104 (am_c (((fp_bb (mv ν) (fp_rt (ν 83 42) (ν 106))) : Nat) : Int)).toNat * (μ2 106 (am_c (((fp_bb (mv ν) (fp_rt (ν 83 42) (ν 106))) : Nat) : Int)).toNat + 1) = fp_bw (mv ν) (fp_rt (ν 83 42) (ν 106)) (fp_bb (mv ν) (fp_rt (ν 83 42) (ν 106))) := fun μ2 v2 r2 y => by
    have z := bb2 y
    have en := en2 y
    rw [cbi2 y, Int.toNat_natCast, v2 _ (by omega), r2]
    unfold fp_bw
    rw [fp_rt_i (by omega)]
  have cb2 : fp_bk (mv ν) (fp_rt (ν 83 42) (ν 106)) (ν 83 42) → am_c (fp_bw (mv ν) (fp_rt (ν 83 42) (ν 106)) (fp_bb (mv ν) (fp_rt (ν 83 42) (ν 106)))) = fp_bw (mv ν) (fp_rt (ν 83 42) (ν 106)) (fp_bb (mv ν) (fp_rt (ν 83 42) (ν 106))) := fun y => by
    have z := wb2 y
    exact am_cR (by omega) (by omega)
  by_cases y : fp_bk (mv ν) (fp_rt (ν 83 42) (ν 106)) (ν 83 42)
  · have en := en2 y
    have bb := bb2 y
    have wb := wb2 y
    have cb := cb2 y
    have b4 : (fp_bb (mv ν) (fp_rt (ν 83 42) (ν 106))) < 4 := Nat.lt_of_lt_of_le bb (by omega)
    refine n_betsG w _ _ cw cb cA wb.1 wb.2 al.1 al.2 (fun q => n_areBets f0 f1 n0 n1 hr (fun _ => q) (fun z => absurd y z)) (fun k' => ?_) (fun μ' h z => ?_) (fun μ' h z => ?_)
    · refine n_bestBet hm hw n0 n1 hr y (fun μ2 h2 v2 r2 => ?_)
      have vb := vb2 μ2 v2 r2 y
      rw [cbi2 y] at vb
      exact k' _ μ2 (fp_n4 b4).1 (fp_n4 b4).2.1 (fp_n4 b4).2.2 h2 (by rw [h2.2 83 14 rfl]) vb
    · refine am_qd (k μ' (mi_84 hm h)) ?_
      rw [fp_bsr_1 y, if_pos z]
    · refine am_qd (k μ' h) ?_
      rw [fp_bsr_1 y, if_neg (fun c => c z), ea]
  · refine n_bets0 w (fun q => n_areBets f0 f1 n0 n1 hr (fun z => absurd z y) (fun _ => q)) (fun μ' h => ?_)
    refine am_qd (k μ' (mi_84 hm h)) ?_
    rw [fp_bsr_0 y]
