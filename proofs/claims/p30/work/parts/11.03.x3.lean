/-! TIMES of a field -/
def am_TC (μ : am_N) (c i : Nat) : Int := am_T (μ (c + 3) i) (μ (c + 2) i) (μ (c + 1) i) (μ c 1) (am_y (μ c 0 - μ (c + 5) i)) (μ (c + 5) i)
def am_TM (μ : am_N) (i : Nat) : Int := am_T (μ 87 i) (μ 86 i) (μ 85 i) (μ 83 11) (am_y (μ 83 10 - μ 89 i)) (μ 89 i)
/-- a field's numbers are what they may be: class field at c -/
def am_fC (μ : am_N) (c : Nat) : Prop := (0 ≤ μ c 4 ∧ μ c 4 ≤ 4) ∧ (0 ≤ μ c 0 ∧ μ c 0 ≤ 500) ∧ ∀ i : Nat, (i : Int) < μ c 4 → am_rg (μ (c + 3) i) (μ (c + 2) i) (μ (c + 1) i) (μ c 1) ∧ (0 ≤ μ (c + 5) i ∧ μ (c + 5) i ≤ 99)
def am_fM (μ : am_N) : Prop := (0 ≤ μ 83 14 ∧ μ 83 14 ≤ 4) ∧ (0 ≤ μ 83 10 ∧ μ 83 10 ≤ 500) ∧ ∀ i : Nat, (i : Int) < μ 83 14 → am_rg (μ 87 i) (μ 86 i) (μ 85 i) (μ 83 11) ∧ (0 ≤ μ 89 i ∧ μ 89 i ≤ 99)
theorem am_T_b {p f k w y s : Int} (h : am_rg p f k w) (y0 : 1 ≤ y) (y1 : y ≤ 1000) : 1 ≤ am_T p f k w y s ∧ am_T p f k w y s ≤ 60000 := by
  obtain ⟨⟨p0, p1⟩, ⟨f0, f1⟩, ⟨k0, k1⟩, ⟨w0, w1⟩⟩ := h
  have m1 := am_mulb (a := p) (b := y) (A := 40) (B := 1000) (by omega) (by omega) (by omega) (by omega)
  have m2 := am_mulb (a := w) (b := f) (A := 2000) (B := 9) (by omega) (by omega) (by omega) (by omega)
  have m3 := fun q : 50 < y => am_mulb (a := f) (b := y - 50) (A := 9) (B := 950) (by omega) (by omega) (by omega) (by omega)
  have d1 := am_tdb (a := p * y) (n := 10) (by omega) (by omega)
  have d2 := am_tdb (a := w * f) (n := 10) (by omega) (by omega)
  have d3 := fun q : 50 < y => am_tdb (a := f * (y - 50)) (n := 20) (m3 q).1 (by omega)
  have t0 : 1 ≤ am_t0 p y ∧ am_t0 p y ≤ 40000 := by unfold am_t0; split <;> omega
  have t1 : 0 ≤ am_tt f y ∧ am_tt f y ≤ 8550 := by
    unfold am_tt
    split
    · next q => have h1 := d3 q; have h2 := m3 q; omega
    · omega
  have t2 : 0 ≤ am_ts f w ∧ am_ts f w ≤ 9 := by unfold am_ts; split <;> omega
  unfold am_T
  repeat' split
  all_goals omega
theorem am_yb {a b : Int} (h0 : 0 ≤ a) (h1 : a ≤ 500) (h2 : 0 ≤ b) (h3 : b ≤ 99) : 1 ≤ am_y (a - b) ∧ am_y (a - b) ≤ 1000 := by
  unfold am_y; split <;> omega
theorem am_TC_b {μ : am_N} {c i : Nat} (h : am_fC μ c) (hi : (i : Int) < μ c 4) : 1 ≤ am_TC μ c i ∧ am_TC μ c i ≤ 60000 := by
  obtain ⟨h1, h2, h3⟩ := h
  obtain ⟨h4, h5⟩ := h3 i hi
  obtain ⟨y0, y1⟩ := am_yb h2.1 h2.2 h5.1 h5.2
  exact am_T_b h4 y0 y1
theorem am_TM_b {μ : am_N} {i : Nat} (h : am_fM μ) (hi : (i : Int) < μ 83 14) : 1 ≤ am_TM μ i ∧ am_TM μ i ≤ 60000 := by
  obtain ⟨h1, h2, h3⟩ := h
  obtain ⟨h4, h5⟩ := h3 i hi
  obtain ⟨y0, y1⟩ := am_yb h2.1 h2.2 h5.1 h5.2
  exact am_T_b h4 y0 y1
theorem am_cnt_t {t u : Nat → Int} {i n : Nat} (hi : i < n) (h : ∀ j : Nat, j < n → t j = u j) : ∀ m : Nat, m ≤ n → am_cnt t i m = am_cnt u i m := by
  intro m
  induction m with
  | zero => intro _; rfl
  | succ m ih =>
    intro hm
    simp only [am_cnt]
    rw [ih (by omega), h i hi, h m (by omega)]
theorem am_isord_t {μ : am_N} {c : Nat} {t u : Nat → Int} {n : Int} (h : ∀ i : Nat, (i : Int) < n → t i = u i) (q : am_isord μ c t n) : am_isord μ c u n := fun i hi => by
  rw [← am_cnt_t (t := t) (n := n.toNat) (by omega) (fun j hj => h j (by omega)) n.toNat (Nat.le_refl _)]
  exact q i hi
/-- digits of an order, the last first -/
def am_dg (f : Nat → Int) : Nat → Int → Int
  | 0, v => v
  | m + 1, v => am_dg f m (10 * v + f m)
theorem am_dg_eq {f g : Nat → Int} : ∀ (m : Nat) (v : Int), (∀ p : Nat, p < m → f p = g p) → am_dg f m v = am_dg g m v
  | 0, _, _ => rfl
  | m + 1, v, h => by
    simp only [am_dg]
    rw [h m (by omega)]
    exact am_dg_eq m _ (fun p hp => h p (by omega))
theorem x_tenthsOver_1 {l : Launch} {ν : am_N} {Q : Option am_V → am_N → Prop} (i y s : Int) (hi0 : 0 ≤ i) (hi1 : i < ν 1 4) (hn : ν 1 4 ≤ 4) (hr : am_rg (ν 4 i.toNat) (ν 3 i.toNat) (ν 2 i.toNat) (ν 1 1)) (y0 : -1000 ≤ y) (y1 : y ≤ 1000) (s0 : -1000 ≤ s) (s1 : s ≤ 1000) (k : Q (some (.inl (am_T (ν 4 i.toNat) (ν 3 i.toNat) (ν 2 i.toNat) (ν 1 1) (am_y y) s))) ν) : am_Does l 10 [.inr (.inr 1), .inl i, .inl y, .inl s] ν Q := by
  obtain ⟨⟨p0, p1⟩, ⟨f0, f1⟩, ⟨k0, k1⟩, ⟨w0, w1⟩⟩ := hr
  rcases (show ν 2 i.toNat = 0 ∨ ν 2 i.toNat = 1 ∨ ν 2 i.toNat = 2 ∨ ν 2 i.toNat = 3 ∨ ν 2 i.toNat = 4 ∨ ν 2 i.toNat = 5 by omega) with e | e | e | e | e | e
  · rw [e] at k; exact x_tenthsOver_1_0 i y s _ _ _ hi0 hi1 hn rfl rfl e rfl p0 p1 f0 f1 w0 w1 y0 y1 s0 s1 k
  · rw [e] at k; exact x_tenthsOver_1_1 i y s _ _ _ hi0 hi1 hn rfl rfl e rfl p0 p1 f0 f1 w0 w1 y0 y1 s0 s1 k
  · rw [e] at k; exact x_tenthsOver_1_2 i y s _ _ _ hi0 hi1 hn rfl rfl e rfl p0 p1 f0 f1 w0 w1 y0 y1 s0 s1 k
  · rw [e] at k; exact x_tenthsOver_1_3 i y s _ _ _ hi0 hi1 hn rfl rfl e rfl p0 p1 f0 f1 w0 w1 y0 y1 s0 s1 k
  · rw [e] at k; exact x_tenthsOver_1_4 i y s _ _ _ hi0 hi1 hn rfl rfl e rfl p0 p1 f0 f1 w0 w1 y0 y1 s0 s1 k
  · rw [e] at k; exact x_tenthsOver_1_5 i y s _ _ _ hi0 hi1 hn rfl rfl e rfl p0 p1 f0 f1 w0 w1 y0 y1 s0 s1 k
theorem x_tenths_1 {l : Launch} {ν : am_N} {Q : Option am_V → am_N → Prop} (i : Int) (hi0 : 0 ≤ i) (hi1 : i < ν 1 4) (hf : am_fC ν 1) (k : Q (some (.inl (am_TC ν 1 i.toNat))) ν) : am_Does l 8 [.inr (.inr 1), .inl i] ν Q := by
  refine am_Does_of (Nat.le_of_ble_eq_true rfl) (Nat.le_of_ble_eq_true rfl) (Nat.le_of_ble_eq_true rfl) ?_
  have hn := hf.1.2
  have ci : am_c i = i := am_cR (by omega) (by omega)
  have ei : (am_c i).toNat = i.toNat := by rw [ci]
  have cn : am_c (ν 1 4) = ν 1 4 := am_cR (by omega) (by omega)
  have z := hf.2.2 i.toNat (by omega)
  have w := hf.2.1
  have z2 : 0 ≤ ν 6 i.toNat ∧ ν 6 i.toNat ≤ 99 := z.2
  refine am_go (ct := fun _ => false) am_oX0_tenths 300 ?_
  conv => whnf
  repeat' first
    | (refine (?_ : am_wp _ _ _ _ _ _ _ _ _ _ _ _); conv => whnf)
    | (refine (?_ : am_sw _ _ _ _); conv => whnf)
    | refine And.intro trivial ?_
    | exact trivial
    | exact z.1
    | refine x_tenthsOver_1 _ _ _ ?_ ?_ ?_ ?_ ?_ ?_ ?_ ?_ ?_
    | refine And.intro (fun h => absurd h (by decide)) (fun _ => ?_)
    | refine And.intro (fun _ => ?_) (fun h => absurd (by decide) h)
    | refine And.intro (fun _ => ?_) (fun _ => ?_)
    | refine And.intro ?_ ?_
  all_goals (first | assumption | decide | omega | exact z.1 | (simp only [ei, ci, cn] at *; first | assumption | omega | exact z.1 | exact k) | (unfold am_TC at k; simp only [ei, ci] at *; exact k) | (trace_state; fail))
theorem x_tenthsOver_8 {l : Launch} {ν : am_N} {Q : Option am_V → am_N → Prop} (i y s : Int) (hi0 : 0 ≤ i) (hi1 : i < ν 8 4) (hn : ν 8 4 ≤ 4) (hr : am_rg (ν 11 i.toNat) (ν 10 i.toNat) (ν 9 i.toNat) (ν 8 1)) (y0 : -1000 ≤ y) (y1 : y ≤ 1000) (s0 : -1000 ≤ s) (s1 : s ≤ 1000) (k : Q (some (.inl (am_T (ν 11 i.toNat) (ν 10 i.toNat) (ν 9 i.toNat) (ν 8 1) (am_y y) s))) ν) : am_Does l 10 [.inr (.inr 8), .inl i, .inl y, .inl s] ν Q := by
  obtain ⟨⟨p0, p1⟩, ⟨f0, f1⟩, ⟨k0, k1⟩, ⟨w0, w1⟩⟩ := hr
  rcases (show ν 9 i.toNat = 0 ∨ ν 9 i.toNat = 1 ∨ ν 9 i.toNat = 2 ∨ ν 9 i.toNat = 3 ∨ ν 9 i.toNat = 4 ∨ ν 9 i.toNat = 5 by omega) with e | e | e | e | e | e
  · rw [e] at k; exact x_tenthsOver_8_0 i y s _ _ _ hi0 hi1 hn rfl rfl e rfl p0 p1 f0 f1 w0 w1 y0 y1 s0 s1 k
  · rw [e] at k; exact x_tenthsOver_8_1 i y s _ _ _ hi0 hi1 hn rfl rfl e rfl p0 p1 f0 f1 w0 w1 y0 y1 s0 s1 k
  · rw [e] at k; exact x_tenthsOver_8_2 i y s _ _ _ hi0 hi1 hn rfl rfl e rfl p0 p1 f0 f1 w0 w1 y0 y1 s0 s1 k
  · rw [e] at k; exact x_tenthsOver_8_3 i y s _ _ _ hi0 hi1 hn rfl rfl e rfl p0 p1 f0 f1 w0 w1 y0 y1 s0 s1 k
  · rw [e] at k; exact x_tenthsOver_8_4 i y s _ _ _ hi0 hi1 hn rfl rfl e rfl p0 p1 f0 f1 w0 w1 y0 y1 s0 s1 k
  · rw [e] at k; exact x_tenthsOver_8_5 i y s _ _ _ hi0 hi1 hn rfl rfl e rfl p0 p1 f0 f1 w0 w1 y0 y1 s0 s1 k
theorem x_tenths_8 {l : Launch} {ν : am_N} {Q : Option am_V → am_N → Prop} (i : Int) (hi0 : 0 ≤ i) (hi1 : i < ν 8 4) (hf : am_fC ν 8) (k : Q (some (.inl (am_TC ν 8 i.toNat))) ν) : am_Does l 8 [.inr (.inr 8), .inl i] ν Q := by
  refine am_Does_of (Nat.le_of_ble_eq_true rfl) (Nat.le_of_ble_eq_true rfl) (Nat.le_of_ble_eq_true rfl) ?_
  have hn := hf.1.2
  have ci : am_c i = i := am_cR (by omega) (by omega)
  have ei : (am_c i).toNat = i.toNat := by rw [ci]
  have cn : am_c (ν 8 4) = ν 8 4 := am_cR (by omega) (by omega)
  have z := hf.2.2 i.toNat (by omega)
  have w := hf.2.1
  have z2 : 0 ≤ ν 13 i.toNat ∧ ν 13 i.toNat ≤ 99 := z.2
  refine am_go (ct := fun _ => false) am_oX0_tenths 300 ?_
  conv => whnf
  repeat' first
    | (refine (?_ : am_wp _ _ _ _ _ _ _ _ _ _ _ _); conv => whnf)
    | (refine (?_ : am_sw _ _ _ _); conv => whnf)
    | refine And.intro trivial ?_
    | exact trivial
    | exact z.1
    | refine x_tenthsOver_8 _ _ _ ?_ ?_ ?_ ?_ ?_ ?_ ?_ ?_ ?_
    | refine And.intro (fun h => absurd h (by decide)) (fun _ => ?_)
    | refine And.intro (fun _ => ?_) (fun h => absurd (by decide) h)
    | refine And.intro (fun _ => ?_) (fun _ => ?_)
    | refine And.intro ?_ ?_
  all_goals (first | assumption | decide | omega | exact z.1 | (simp only [ei, ci, cn] at *; first | assumption | omega | exact z.1 | exact k) | (unfold am_TC at k; simp only [ei, ci] at *; exact k) | (trace_state; fail))
theorem am_fC_29_1 {μ ν : am_N} (h : ∀ a b, a ≠ 33 → a ≠ 34 → ¬(a = 29 ∧ b = 0) → μ a b = ν a b) : (am_fC ν 1 → am_fC μ 1) ∧ ∀ i, am_TC μ 1 i = am_TC ν 1 i := by
  have e : ∀ a b, a < 29 → μ a b = ν a b := fun a b q => h a b (by omega) (by omega) (by omega)
  constructor
  · intro q
    unfold am_fC at q ⊢
    rw [e 1 4 (by omega), e 1 0 (by omega), e 1 1 (by omega)]
    refine ⟨q.1, q.2.1, fun i hi => ?_⟩
    rw [e (1 + 3) i (by omega), e (1 + 2) i (by omega), e (1 + 1) i (by omega), e (1 + 5) i (by omega)]
    exact q.2.2 i hi
  · intro i
    unfold am_TC
    rw [e 1 0 (by omega), e 1 1 (by omega), e (1 + 3) i (by omega), e (1 + 2) i (by omega), e (1 + 1) i (by omega), e (1 + 5) i (by omega)]
theorem x_asRule_29_1 {l : Launch} {ν : am_N} {Q : Option am_V → am_N → Prop} (hf : am_fC ν 1) (k : ∀ μ' : am_N, (∀ a b, a ≠ 33 → a ≠ 34 → ¬(a = 29 ∧ b = 0) → μ' a b = ν a b) → μ' 29 0 = ν 1 4 → am_isord μ' 34 (am_TC ν 1) (ν 1 4) → (∀ i : Nat, (i : Int) < ν 1 4 → μ' 33 i = am_TC ν 1 i) → (sx_3 ν 34 → sx_3 μ' 34) → Q none μ') : am_Does l 33 [.inr (.inr 29), .inr (.inr 1)] ν Q := by
  refine am_Does_of (Nat.le_of_ble_eq_true rfl) (Nat.le_of_ble_eq_true rfl) (Nat.le_of_ble_eq_true rfl) ?_
  have hn := hf.1
  have hq := @am_TC_b ν 1
  have lp10 : ∀ (m : Nat) (i : Int) (μ : am_N) , (∀ a b, a ≠ 33 → a ≠ 34 → ¬(a = 29 ∧ b = 0) → μ a b = ν a b) → μ 29 0 = ν 1 4 → 0 ≤ i → i ≤ ν 1 4 → (∀ q : Nat, (q : Int) < i → μ 33 q = am_TC ν 1 q) → (sx_3 ν 34 → sx_3 μ 34) → ν 1 4 - i < (m : Int) → am_AW l 0 (fun _ => 0) 33 Q 10 [some (.inr (.inr 29)), some (.inr (.inr 1)), some (.inl i)] [] μ := by
    intro m
    induction m with
    | zero =>
      intro i μ hv0 hv1 hv2 hv3 hv4 hv5 hm
      exfalso
      omega
    | succ m ih =>
      intro i μ hv0 hv1 hv2 hv3 hv4 hv5 hm
      have ci : am_c i = i := am_cR (by omega) (by omega)
      have cn : am_c (ν 1 4) = ν 1 4 := am_cR (by omega) (by omega)
      obtain ⟨g1, g2⟩ := am_fC_29_1 hv0
      have g3 := g1 hf
      have e4 : μ 1 4 = ν 1 4 := hv0 1 4 (by decide) (by decide) (by decide)
      refine am_go (ct := fun pc => Nat.beq pc 10) am_oX2_asRule 300 ?_
      conv => whnf
      repeat' first
        | (refine (?_ : am_wp _ _ _ _ _ _ _ _ _ _ _ _); conv => whnf)
        | (refine (?_ : am_sw _ _ _ _); conv => whnf)
        | refine And.intro trivial ?_
        | exact trivial
        | exact g3
        | refine x_tenths_1 _ ?_ ?_ ?_ ?_
        | refine x_line ?_ ?_ ?_ (fun μ2 y1 y2 y3 => ?_)
        | refine k _ ?_ ?_ ?_ ?_ ?_
        | refine ih _ _ ?_ ?_ ?_ ?_ ?_ ?_ ?_
        | refine And.intro (fun h => absurd h (by decide)) (fun _ => ?_)
        | refine And.intro (fun _ => ?_) (fun h => absurd (by decide) h)
        | refine And.intro (fun _ => ?_) (fun _ => ?_)
        | refine And.intro ?_ ?_
      all_goals (first | decide | assumption | omega | rfl | exact fun z => y3 (sx_3N (hv5 z) (by decide)) | exact fun z => y3 (hv5 z) | exact fun z => sx_3N (hv5 z) (by decide) | (simp only [hv1, ci, cn, e4] at *; omega) | (intro a b h1 h2 h3; rw [am_upN h1]; exact hv0 a b h1 h2 h3) | (rw [am_upN (by decide)]; assumption) | (intro q hq; by_cases d : (q : Int) = i; (rw [am_upS, if_pos ⟨rfl, by rw [ci]; omega⟩, g2, show i.toNat = q by omega]); (rw [am_upM (by rw [ci]; omega)]; exact hv4 q (by omega))) | (have ie : i = ν 1 4 := (by simp only [hv1, ci, cn, e4] at *; omega); first | (intro j hj; rw [hv1] at hj; rw [hv4 j (by omega)]; have zz := @hq j hf (by omega); omega) | (intro a b h1 h2 h3; rw [y1 a b h2]; exact hv0 a b h1 h2 h3) | (rw [y1 _ _ (by decide)]; exact hv1) | (rw [hv1] at y2; exact am_isord_t (fun j hj => hv4 j (by omega)) y2) | (intro j hj; rw [y1 _ _ (by decide)]; exact hv4 j (by omega))) | (trace_state; fail))
  have lp10' : ∀ (i : Int) (μ : am_N) , (∀ a b, a ≠ 33 → a ≠ 34 → ¬(a = 29 ∧ b = 0) → μ a b = ν a b) → μ 29 0 = ν 1 4 → 0 ≤ i → i ≤ ν 1 4 → (∀ q : Nat, (q : Int) < i → μ 33 q = am_TC ν 1 q) → (sx_3 ν 34 → sx_3 μ 34) → am_AW l 0 (fun _ => 0) 33 Q 10 [some (.inr (.inr 29)), some (.inr (.inr 1)), some (.inl i)] [] μ := fun i μ hv0 hv1 hv2 hv3 hv4 hv5 => lp10 ((ν 1 4 - i) + 1).toNat i μ hv0 hv1 hv2 hv3 hv4 hv5 (by omega)
  refine am_go (ct := fun pc => Nat.beq pc 10) am_oX2_asRule 300 ?_
  conv => whnf
  repeat' first
    | (refine (?_ : am_wp _ _ _ _ _ _ _ _ _ _ _ _); conv => whnf)
    | (refine (?_ : am_sw _ _ _ _); conv => whnf)
    | refine And.intro trivial ?_
    | exact trivial
    | refine lp10' _ _ ?_ ?_ ?_ ?_ ?_ ?_
    | refine And.intro (fun h => absurd h (by decide)) (fun _ => ?_)
    | refine And.intro (fun _ => ?_) (fun h => absurd (by decide) h)
    | refine And.intro (fun _ => ?_) (fun _ => ?_)
    | refine And.intro ?_ ?_
  all_goals (first | decide | assumption | omega | rfl | exact fun z => sx_3N z (by decide) | (intro a b h1 h2 h3; rw [am_upS, if_neg h3]) | (intros; omega) | (trace_state; fail))
theorem am_fC_29_8 {μ ν : am_N} (h : ∀ a b, a ≠ 33 → a ≠ 34 → ¬(a = 29 ∧ b = 0) → μ a b = ν a b) : (am_fC ν 8 → am_fC μ 8) ∧ ∀ i, am_TC μ 8 i = am_TC ν 8 i := by
  have e : ∀ a b, a < 29 → μ a b = ν a b := fun a b q => h a b (by omega) (by omega) (by omega)
  constructor
  · intro q
    unfold am_fC at q ⊢
    rw [e 8 4 (by omega), e 8 0 (by omega), e 8 1 (by omega)]
    refine ⟨q.1, q.2.1, fun i hi => ?_⟩
    rw [e (8 + 3) i (by omega), e (8 + 2) i (by omega), e (8 + 1) i (by omega), e (8 + 5) i (by omega)]
    exact q.2.2 i hi
  · intro i
    unfold am_TC
    rw [e 8 0 (by omega), e 8 1 (by omega), e (8 + 3) i (by omega), e (8 + 2) i (by omega), e (8 + 1) i (by omega), e (8 + 5) i (by omega)]
theorem x_asRule_29_8 {l : Launch} {ν : am_N} {Q : Option am_V → am_N → Prop} (hf : am_fC ν 8) (k : ∀ μ' : am_N, (∀ a b, a ≠ 33 → a ≠ 34 → ¬(a = 29 ∧ b = 0) → μ' a b = ν a b) → μ' 29 0 = ν 8 4 → am_isord μ' 34 (am_TC ν 8) (ν 8 4) → (∀ i : Nat, (i : Int) < ν 8 4 → μ' 33 i = am_TC ν 8 i) → (sx_3 ν 34 → sx_3 μ' 34) → Q none μ') : am_Does l 33 [.inr (.inr 29), .inr (.inr 8)] ν Q := by
  refine am_Does_of (Nat.le_of_ble_eq_true rfl) (Nat.le_of_ble_eq_true rfl) (Nat.le_of_ble_eq_true rfl) ?_
  have hn := hf.1
  have hq := @am_TC_b ν 8
  have lp10 : ∀ (m : Nat) (i : Int) (μ : am_N) , (∀ a b, a ≠ 33 → a ≠ 34 → ¬(a = 29 ∧ b = 0) → μ a b = ν a b) → μ 29 0 = ν 8 4 → 0 ≤ i → i ≤ ν 8 4 → (∀ q : Nat, (q : Int) < i → μ 33 q = am_TC ν 8 q) → (sx_3 ν 34 → sx_3 μ 34) → ν 8 4 - i < (m : Int) → am_AW l 0 (fun _ => 0) 33 Q 10 [some (.inr (.inr 29)), some (.inr (.inr 8)), some (.inl i)] [] μ := by
    intro m
    induction m with
    | zero =>
      intro i μ hv0 hv1 hv2 hv3 hv4 hv5 hm
      exfalso
      omega
    | succ m ih =>
      intro i μ hv0 hv1 hv2 hv3 hv4 hv5 hm
      have ci : am_c i = i := am_cR (by omega) (by omega)
      have cn : am_c (ν 8 4) = ν 8 4 := am_cR (by omega) (by omega)
      obtain ⟨g1, g2⟩ := am_fC_29_8 hv0
      have g3 := g1 hf
      have e4 : μ 8 4 = ν 8 4 := hv0 8 4 (by decide) (by decide) (by decide)
      refine am_go (ct := fun pc => Nat.beq pc 10) am_oX2_asRule 300 ?_
      conv => whnf
      repeat' first
        | (refine (?_ : am_wp _ _ _ _ _ _ _ _ _ _ _ _); conv => whnf)
        | (refine (?_ : am_sw _ _ _ _); conv => whnf)
        | refine And.intro trivial ?_
        | exact trivial
        | exact g3
        | refine x_tenths_8 _ ?_ ?_ ?_ ?_
        | refine x_line ?_ ?_ ?_ (fun μ2 y1 y2 y3 => ?_)
        | refine k _ ?_ ?_ ?_ ?_ ?_
        | refine ih _ _ ?_ ?_ ?_ ?_ ?_ ?_ ?_
        | refine And.intro (fun h => absurd h (by decide)) (fun _ => ?_)
        | refine And.intro (fun _ => ?_) (fun h => absurd (by decide) h)
        | refine And.intro (fun _ => ?_) (fun _ => ?_)
        | refine And.intro ?_ ?_
      all_goals (first | decide | assumption | omega | rfl | exact fun z => y3 (sx_3N (hv5 z) (by decide)) | exact fun z => y3 (hv5 z) | exact fun z => sx_3N (hv5 z) (by decide) | (simp only [hv1, ci, cn, e4] at *; omega) | (intro a b h1 h2 h3; rw [am_upN h1]; exact hv0 a b h1 h2 h3) | (rw [am_upN (by decide)]; assumption) | (intro q hq; by_cases d : (q : Int) = i; (rw [am_upS, if_pos ⟨rfl, by rw [ci]; omega⟩, g2, show i.toNat = q by omega]); (rw [am_upM (by rw [ci]; omega)]; exact hv4 q (by omega))) | (have ie : i = ν 8 4 := (by simp only [hv1, ci, cn, e4] at *; omega); first | (intro j hj; rw [hv1] at hj; rw [hv4 j (by omega)]; have zz := @hq j hf (by omega); omega) | (intro a b h1 h2 h3; rw [y1 a b h2]; exact hv0 a b h1 h2 h3) | (rw [y1 _ _ (by decide)]; exact hv1) | (rw [hv1] at y2; exact am_isord_t (fun j hj => hv4 j (by omega)) y2) | (intro j hj; rw [y1 _ _ (by decide)]; exact hv4 j (by omega))) | (trace_state; fail))
  have lp10' : ∀ (i : Int) (μ : am_N) , (∀ a b, a ≠ 33 → a ≠ 34 → ¬(a = 29 ∧ b = 0) → μ a b = ν a b) → μ 29 0 = ν 8 4 → 0 ≤ i → i ≤ ν 8 4 → (∀ q : Nat, (q : Int) < i → μ 33 q = am_TC ν 8 q) → (sx_3 ν 34 → sx_3 μ 34) → am_AW l 0 (fun _ => 0) 33 Q 10 [some (.inr (.inr 29)), some (.inr (.inr 8)), some (.inl i)] [] μ := fun i μ hv0 hv1 hv2 hv3 hv4 hv5 => lp10 ((ν 8 4 - i) + 1).toNat i μ hv0 hv1 hv2 hv3 hv4 hv5 (by omega)
  refine am_go (ct := fun pc => Nat.beq pc 10) am_oX2_asRule 300 ?_
  conv => whnf
  repeat' first
    | (refine (?_ : am_wp _ _ _ _ _ _ _ _ _ _ _ _); conv => whnf)
    | (refine (?_ : am_sw _ _ _ _); conv => whnf)
    | refine And.intro trivial ?_
    | exact trivial
    | refine lp10' _ _ ?_ ?_ ?_ ?_ ?_ ?_
    | refine And.intro (fun h => absurd h (by decide)) (fun _ => ?_)
    | refine And.intro (fun _ => ?_) (fun h => absurd (by decide) h)
    | refine And.intro (fun _ => ?_) (fun _ => ?_)
    | refine And.intro ?_ ?_
  all_goals (first | decide | assumption | omega | rfl | exact fun z => sx_3N z (by decide) | (intro a b h1 h2 h3; rw [am_upS, if_neg h3]) | (intros; omega) | (trace_state; fail))
theorem am_fC_38_8 {μ ν : am_N} (h : ∀ a b, a ≠ 42 → a ≠ 43 → ¬(a = 38 ∧ b = 0) → μ a b = ν a b) : (am_fC ν 8 → am_fC μ 8) ∧ ∀ i, am_TC μ 8 i = am_TC ν 8 i := by
  have e : ∀ a b, a < 29 → μ a b = ν a b := fun a b q => h a b (by omega) (by omega) (by omega)
  constructor
  · intro q
    unfold am_fC at q ⊢
    rw [e 8 4 (by omega), e 8 0 (by omega), e 8 1 (by omega)]
    refine ⟨q.1, q.2.1, fun i hi => ?_⟩
    rw [e (8 + 3) i (by omega), e (8 + 2) i (by omega), e (8 + 1) i (by omega), e (8 + 5) i (by omega)]
    exact q.2.2 i hi
  · intro i
    unfold am_TC
    rw [e 8 0 (by omega), e 8 1 (by omega), e (8 + 3) i (by omega), e (8 + 2) i (by omega), e (8 + 1) i (by omega), e (8 + 5) i (by omega)]
theorem x_asRule_38_8 {l : Launch} {ν : am_N} {Q : Option am_V → am_N → Prop} (hf : am_fC ν 8) (k : ∀ μ' : am_N, (∀ a b, a ≠ 42 → a ≠ 43 → ¬(a = 38 ∧ b = 0) → μ' a b = ν a b) → μ' 38 0 = ν 8 4 → am_isord μ' 43 (am_TC ν 8) (ν 8 4) → (∀ i : Nat, (i : Int) < ν 8 4 → μ' 42 i = am_TC ν 8 i) → (sx_3 ν 43 → sx_3 μ' 43) → Q none μ') : am_Does l 33 [.inr (.inr 38), .inr (.inr 8)] ν Q := by
  refine am_Does_of (Nat.le_of_ble_eq_true rfl) (Nat.le_of_ble_eq_true rfl) (Nat.le_of_ble_eq_true rfl) ?_
  have hn := hf.1
  have hq := @am_TC_b ν 8
  have lp10 : ∀ (m : Nat) (i : Int) (μ : am_N) , (∀ a b, a ≠ 42 → a ≠ 43 → ¬(a = 38 ∧ b = 0) → μ a b = ν a b) → μ 38 0 = ν 8 4 → 0 ≤ i → i ≤ ν 8 4 → (∀ q : Nat, (q : Int) < i → μ 42 q = am_TC ν 8 q) → (sx_3 ν 43 → sx_3 μ 43) → ν 8 4 - i < (m : Int) → am_AW l 0 (fun _ => 0) 33 Q 10 [some (.inr (.inr 38)), some (.inr (.inr 8)), some (.inl i)] [] μ := by
    intro m
    induction m with
    | zero =>
      intro i μ hv0 hv1 hv2 hv3 hv4 hv5 hm
      exfalso
      omega
    | succ m ih =>
      intro i μ hv0 hv1 hv2 hv3 hv4 hv5 hm
      have ci : am_c i = i := am_cR (by omega) (by omega)
      have cn : am_c (ν 8 4) = ν 8 4 := am_cR (by omega) (by omega)
      obtain ⟨g1, g2⟩ := am_fC_38_8 hv0
      have g3 := g1 hf
      have e4 : μ 8 4 = ν 8 4 := hv0 8 4 (by decide) (by decide) (by decide)
      refine am_go (ct := fun pc => Nat.beq pc 10) am_oX2_asRule 300 ?_
      conv => whnf
      repeat' first
        | (refine (?_ : am_wp _ _ _ _ _ _ _ _ _ _ _ _); conv => whnf)
        | (refine (?_ : am_sw _ _ _ _); conv => whnf)
        | refine And.intro trivial ?_
        | exact trivial
        | exact g3
        | refine x_tenths_8 _ ?_ ?_ ?_ ?_
        | refine x_line_38 ?_ ?_ ?_ (fun μ2 y1 y2 y3 => ?_)
        | refine k _ ?_ ?_ ?_ ?_ ?_
        | refine ih _ _ ?_ ?_ ?_ ?_ ?_ ?_ ?_
        | refine And.intro (fun h => absurd h (by decide)) (fun _ => ?_)
        | refine And.intro (fun _ => ?_) (fun h => absurd (by decide) h)
        | refine And.intro (fun _ => ?_) (fun _ => ?_)
        | refine And.intro ?_ ?_
      all_goals (first | decide | assumption | omega | rfl | exact fun z => y3 (sx_3N (hv5 z) (by decide)) | exact fun z => y3 (hv5 z) | exact fun z => sx_3N (hv5 z) (by decide) | (simp only [hv1, ci, cn, e4] at *; omega) | (intro a b h1 h2 h3; rw [am_upN h1]; exact hv0 a b h1 h2 h3) | (rw [am_upN (by decide)]; assumption) | (intro q hq; by_cases d : (q : Int) = i; (rw [am_upS, if_pos ⟨rfl, by rw [ci]; omega⟩, g2, show i.toNat = q by omega]); (rw [am_upM (by rw [ci]; omega)]; exact hv4 q (by omega))) | (have ie : i = ν 8 4 := (by simp only [hv1, ci, cn, e4] at *; omega); first | (intro j hj; rw [hv1] at hj; rw [hv4 j (by omega)]; have zz := @hq j hf (by omega); omega) | (intro a b h1 h2 h3; rw [y1 a b h2]; exact hv0 a b h1 h2 h3) | (rw [y1 _ _ (by decide)]; exact hv1) | (rw [hv1] at y2; exact am_isord_t (fun j hj => hv4 j (by omega)) y2) | (intro j hj; rw [y1 _ _ (by decide)]; exact hv4 j (by omega))) | (trace_state; fail))
  have lp10' : ∀ (i : Int) (μ : am_N) , (∀ a b, a ≠ 42 → a ≠ 43 → ¬(a = 38 ∧ b = 0) → μ a b = ν a b) → μ 38 0 = ν 8 4 → 0 ≤ i → i ≤ ν 8 4 → (∀ q : Nat, (q : Int) < i → μ 42 q = am_TC ν 8 q) → (sx_3 ν 43 → sx_3 μ 43) → am_AW l 0 (fun _ => 0) 33 Q 10 [some (.inr (.inr 38)), some (.inr (.inr 8)), some (.inl i)] [] μ := fun i μ hv0 hv1 hv2 hv3 hv4 hv5 => lp10 ((ν 8 4 - i) + 1).toNat i μ hv0 hv1 hv2 hv3 hv4 hv5 (by omega)
  refine am_go (ct := fun pc => Nat.beq pc 10) am_oX2_asRule 300 ?_
  conv => whnf
  repeat' first
    | (refine (?_ : am_wp _ _ _ _ _ _ _ _ _ _ _ _); conv => whnf)
    | (refine (?_ : am_sw _ _ _ _); conv => whnf)
    | refine And.intro trivial ?_
    | exact trivial
    | refine lp10' _ _ ?_ ?_ ?_ ?_ ?_ ?_
    | refine And.intro (fun h => absurd h (by decide)) (fun _ => ?_)
    | refine And.intro (fun _ => ?_) (fun h => absurd (by decide) h)
    | refine And.intro (fun _ => ?_) (fun _ => ?_)
    | refine And.intro ?_ ?_
  all_goals (first | decide | assumption | omega | rfl | exact fun z => sx_3N z (by decide) | (intro a b h1 h2 h3; rw [am_upS, if_neg h3]) | (intros; omega) | (trace_state; fail))
theorem x_timeOver {l : Launch} {ν : am_N} {Q : Option am_V → am_N → Prop} (i y s : Int) (hi0 : 0 ≤ i) (hi1 : i < ν 83 14) (hn : ν 83 14 ≤ 4) (hr : am_rg (ν 87 i.toNat) (ν 86 i.toNat) (ν 85 i.toNat) (ν 83 11)) (y0 : -1000 ≤ y) (y1 : y ≤ 1000) (s0 : -1000 ≤ s) (s1 : s ≤ 1000) (k : Q (some (.inl (am_T (ν 87 i.toNat) (ν 86 i.toNat) (ν 85 i.toNat) (ν 83 11) (am_y y) s))) ν) : am_Does l 162 [.inr (.inr 83), .inl i, .inl y, .inl s] ν Q := by
  obtain ⟨⟨p0, p1⟩, ⟨f0, f1⟩, ⟨k0, k1⟩, ⟨w0, w1⟩⟩ := hr
  rcases (show ν 85 i.toNat = 0 ∨ ν 85 i.toNat = 1 ∨ ν 85 i.toNat = 2 ∨ ν 85 i.toNat = 3 ∨ ν 85 i.toNat = 4 ∨ ν 85 i.toNat = 5 by omega) with e | e | e | e | e | e
  · rw [e] at k; exact x_timeOver_0 i y s _ _ _ hi0 hi1 hn rfl rfl e rfl p0 p1 f0 f1 w0 w1 y0 y1 s0 s1 k
  · rw [e] at k; exact x_timeOver_1 i y s _ _ _ hi0 hi1 hn rfl rfl e rfl p0 p1 f0 f1 w0 w1 y0 y1 s0 s1 k
  · rw [e] at k; exact x_timeOver_2 i y s _ _ _ hi0 hi1 hn rfl rfl e rfl p0 p1 f0 f1 w0 w1 y0 y1 s0 s1 k
  · rw [e] at k; exact x_timeOver_3 i y s _ _ _ hi0 hi1 hn rfl rfl e rfl p0 p1 f0 f1 w0 w1 y0 y1 s0 s1 k
  · rw [e] at k; exact x_timeOver_4 i y s _ _ _ hi0 hi1 hn rfl rfl e rfl p0 p1 f0 f1 w0 w1 y0 y1 s0 s1 k
  · rw [e] at k; exact x_timeOver_5 i y s _ _ _ hi0 hi1 hn rfl rfl e rfl p0 p1 f0 f1 w0 w1 y0 y1 s0 s1 k
theorem x_timeBy {l : Launch} {ν : am_N} {Q : Option am_V → am_N → Prop} (i s : Int) (hi0 : 0 ≤ i) (hi1 : i < ν 83 14) (hf : am_fM ν) (s0 : 0 ≤ s) (s1 : s ≤ 99) (k : Q (some (.inl (am_T (ν 87 i.toNat) (ν 86 i.toNat) (ν 85 i.toNat) (ν 83 11) (am_y (ν 83 10 - s)) s))) ν) : am_Does l 163 [.inr (.inr 83), .inl i, .inl s] ν Q := by
  refine am_Does_of (Nat.le_of_ble_eq_true rfl) (Nat.le_of_ble_eq_true rfl) (Nat.le_of_ble_eq_true rfl) ?_
  have hn := hf.1.2
  have z := hf.2.2 i.toNat (by omega)
  have w := hf.2.1
  refine am_go (ct := fun _ => false) am_oX7_timeBy 300 ?_
  conv => whnf
  repeat' first
    | (refine (?_ : am_wp _ _ _ _ _ _ _ _ _ _ _ _); conv => whnf)
    | (refine (?_ : am_sw _ _ _ _); conv => whnf)
    | refine And.intro trivial ?_
    | exact trivial
    | exact z.1
    | refine x_timeOver _ _ _ ?_ ?_ ?_ ?_ ?_ ?_ ?_ ?_ ?_
    | refine And.intro (fun h => absurd h (by decide)) (fun _ => ?_)
    | refine And.intro (fun _ => ?_) (fun h => absurd (by decide) h)
    | refine And.intro (fun _ => ?_) (fun _ => ?_)
    | refine And.intro ?_ ?_
  all_goals (first | assumption | exact z.1 | omega | (trace_state; fail))
theorem x_timeOf {l : Launch} {ν : am_N} {Q : Option am_V → am_N → Prop} (i : Int) (hi0 : 0 ≤ i) (hi1 : i < ν 83 14) (hf : am_fM ν) (k : Q (some (.inl (am_TM ν i.toNat))) ν) : am_Does l 164 [.inr (.inr 83), .inl i] ν Q := by
  refine am_Does_of (Nat.le_of_ble_eq_true rfl) (Nat.le_of_ble_eq_true rfl) (Nat.le_of_ble_eq_true rfl) ?_
  have hn := hf.1.2
  have ci : am_c i = i := am_cR (by omega) (by omega)
  have ei : (am_c i).toNat = i.toNat := by rw [ci]
  have z := hf.2.2 i.toNat (by omega)
  have z2 := z.2
  unfold am_TM at k
  refine am_go (ct := fun _ => false) am_oX7_timeOf 300 ?_
  conv => whnf
  repeat' first
    | (refine (?_ : am_wp _ _ _ _ _ _ _ _ _ _ _ _); conv => whnf)
    | (refine (?_ : am_sw _ _ _ _); conv => whnf)
    | refine And.intro trivial ?_
    | exact trivial
    | exact hf
    | refine x_timeBy _ _ ?_ ?_ ?_ ?_ ?_ ?_
    | refine And.intro (fun h => absurd h (by decide)) (fun _ => ?_)
    | refine And.intro (fun _ => ?_) (fun h => absurd (by decide) h)
    | refine And.intro (fun _ => ?_) (fun _ => ?_)
    | refine And.intro ?_ ?_
  all_goals (first | assumption | omega | (simp only [ei, ci] at *; first | assumption | omega | exact k) | (trace_state; fail))
theorem am_fM_e {μ ν : am_N} (h : ∀ a b, a ≠ 99 → a ≠ 100 → μ a b = ν a b) : (am_fM ν → am_fM μ) ∧ ∀ i, am_TM μ i = am_TM ν i := by
  have e : ∀ a b, a < 99 → μ a b = ν a b := fun a b q => h a b (by omega) (by omega)
  constructor
  · intro q
    unfold am_fM at q ⊢
    rw [e 83 14 (by omega), e 83 10 (by omega), e 83 11 (by omega)]
    refine ⟨q.1, q.2.1, fun i hi => ?_⟩
    rw [e 87 i (by omega), e 86 i (by omega), e 85 i (by omega), e 89 i (by omega)]
    exact q.2.2 i hi
  · intro i
    unfold am_TM
    rw [e 83 10 (by omega), e 83 11 (by omega), e 87 i (by omega), e 86 i (by omega), e 85 i (by omega), e 89 i (by omega)]
theorem x_takesTimes {l : Launch} {ν : am_N} {Q : Option am_V → am_N → Prop} (hf : am_fM ν) (k : ∀ μ' : am_N, (∀ a b, a ≠ 99 → a ≠ 100 → μ' a b = ν a b) → am_isord μ' 100 (am_TM ν) (ν 83 14) → (∀ i : Nat, (i : Int) < ν 83 14 → μ' 99 i = am_TM ν i) → (sx_3 ν 100 → sx_3 μ' 100) → Q none μ') : am_Does l 166 [.inr (.inr 83)] ν Q := by
  refine am_Does_of (Nat.le_of_ble_eq_true rfl) (Nat.le_of_ble_eq_true rfl) (Nat.le_of_ble_eq_true rfl) ?_
  have hn := hf.1
  have hq := @am_TM_b ν
  have lp2 : ∀ (m : Nat) (i : Int) (μ : am_N) , (∀ a b, a ≠ 99 → a ≠ 100 → μ a b = ν a b) → 0 ≤ i → i ≤ ν 83 14 → (∀ q : Nat, (q : Int) < i → μ 99 q = am_TM ν q) → (sx_3 ν 100 → sx_3 μ 100) → ν 83 14 - i < (m : Int) → am_AW l 0 (fun _ => 0) 166 Q 2 [some (.inr (.inr 83)), some (.inl i)] [] μ := by
    intro m
    induction m with
    | zero =>
      intro i μ hv0 hv1 hv2 hv3 hv4 hm
      exfalso
      omega
    | succ m ih =>
      intro i μ hv0 hv1 hv2 hv3 hv4 hm
      have ci : am_c i = i := am_cR (by omega) (by omega)
      have cn : am_c (ν 83 14) = ν 83 14 := am_cR (by omega) (by omega)
      obtain ⟨g1, g2⟩ := am_fM_e hv0
      have g3 := g1 hf
      have e4 : μ 83 14 = ν 83 14 := hv0 83 14 (by decide) (by decide)
      refine am_go (ct := fun pc => Nat.beq pc 2) am_oX7_takesTimes 300 ?_
      conv => whnf
      repeat' first
        | (refine (?_ : am_wp _ _ _ _ _ _ _ _ _ _ _ _); conv => whnf)
        | (refine (?_ : am_sw _ _ _ _); conv => whnf)
        | refine And.intro trivial ?_
        | exact trivial
        | exact g3
        | refine x_timeOf _ ?_ ?_ ?_ ?_
        | refine x_sorts ?_ ?_ ?_ (fun μ2 y1 y2 y3 => ?_)
        | refine k _ ?_ ?_ ?_ ?_
        | refine ih _ _ ?_ ?_ ?_ ?_ ?_ ?_
        | refine And.intro (fun h => absurd h (by decide)) (fun _ => ?_)
        | refine And.intro (fun _ => ?_) (fun h => absurd (by decide) h)
        | refine And.intro (fun _ => ?_) (fun _ => ?_)
        | refine And.intro ?_ ?_
      all_goals (first | decide | assumption | omega | rfl | exact fun z => y3 (hv4 z) | exact fun z => sx_3N (hv4 z) (by decide) | (simp only [ci, cn, e4] at *; omega) | (intro a b h1 h2; rw [am_upN h1]; exact hv0 a b h1 h2) | (intro q hq; by_cases d : (q : Int) = i; (rw [am_upS, if_pos ⟨rfl, by rw [ci]; omega⟩, g2, show i.toNat = q by omega]); (rw [am_upM (by rw [ci]; omega)]; exact hv3 q (by omega))) | (have ie : i = ν 83 14 := (by simp only [ci, cn, e4] at *; omega); first | (intro j hj; rw [e4] at hj; rw [hv3 j (by omega)]; have zz := @hq j hf (by omega); omega) | (intro a b h1 h2; rw [y1 a b h2]; exact hv0 a b h1 h2) | (rw [e4] at y2; exact am_isord_t (fun j hj => hv3 j (by omega)) y2) | (intro j hj; rw [y1 _ _ (by decide)]; exact hv3 j (by omega))) | (trace_state; fail))
  have lp2' : ∀ (i : Int) (μ : am_N) , (∀ a b, a ≠ 99 → a ≠ 100 → μ a b = ν a b) → 0 ≤ i → i ≤ ν 83 14 → (∀ q : Nat, (q : Int) < i → μ 99 q = am_TM ν q) → (sx_3 ν 100 → sx_3 μ 100) → am_AW l 0 (fun _ => 0) 166 Q 2 [some (.inr (.inr 83)), some (.inl i)] [] μ := fun i μ hv0 hv1 hv2 hv3 hv4 => lp2 ((ν 83 14 - i) + 1).toNat i μ hv0 hv1 hv2 hv3 hv4 (by omega)
  refine am_go (ct := fun pc => Nat.beq pc 2) am_oX7_takesTimes 300 ?_
  conv => whnf
  repeat' first
    | (refine (?_ : am_wp _ _ _ _ _ _ _ _ _ _ _ _); conv => whnf)
    | (refine (?_ : am_sw _ _ _ _); conv => whnf)
    | refine And.intro trivial ?_
    | exact trivial
    | refine lp2' _ _ ?_ ?_ ?_ ?_ ?_
    | refine And.intro (fun h => absurd h (by decide)) (fun _ => ?_)
    | refine And.intro (fun _ => ?_) (fun h => absurd (by decide) h)
    | refine And.intro (fun _ => ?_) (fun _ => ?_)
    | refine And.intro ?_ ?_
  all_goals (first | decide | assumption | omega | rfl | exact fun z => z | exact fun _ _ _ _ => rfl | (intros; omega) | (trace_state; fail))
theorem x_digits {l : Launch} {ν : am_N} {Q : Option am_V → am_N → Prop} (hn0 : 0 ≤ ν 29 0) (hn1 : ν 29 0 ≤ 4) (k : Q (some (.inl (am_dg (ν 34) (ν 29 0).toNat 0))) ν) : am_Does l 40 [.inr (.inr 29)] ν Q := by
  refine am_Does_of (Nat.le_of_ble_eq_true rfl) (Nat.le_of_ble_eq_true rfl) (Nat.le_of_ble_eq_true rfl) ?_
  have lp9 : ∀ (m : Nat) (v p : Int) , -1 ≤ p → p < ν 29 0 → am_dg (ν 34) (p + 1).toNat v = am_dg (ν 34) (ν 29 0).toNat 0 → p + 1 < (m : Int) → am_AW l 0 (fun _ => 0) 40 Q 9 [some (.inr (.inr 29)), some (.inl v), some (.inl p)] [] ν := by
    intro m
    induction m with
    | zero =>
      intro v p  hv0 hv1 hv2 hm
      exfalso
      omega
    | succ m ih =>
      intro v p  hv0 hv1 hv2 hm
      have cp : am_c p = p := am_cR (by omega) (by omega)
      refine am_go (ct := fun pc => Nat.beq pc 9) am_oX2_digits 300 ?_
      conv => whnf
      repeat' first
        | (refine (?_ : am_wp _ _ _ _ _ _ _ _ _ _ _ _); conv => whnf)
        | (refine (?_ : am_sw _ _ _ _); conv => whnf)
        | refine And.intro trivial ?_
        | exact trivial
        | refine am_qe k ?_
        | refine ih _ _  ?_ ?_ ?_ ?_
        | refine And.intro (fun h => absurd h (by decide)) (fun _ => ?_)
        | refine And.intro (fun _ => ?_) (fun h => absurd (by decide) h)
        | refine And.intro (fun _ => ?_) (fun _ => ?_)
        | refine And.intro ?_ ?_
      all_goals (first | decide | assumption | omega | (simp only [cp] at *; omega) | (rw [← hv2, show (p + 1).toNat = 0 by simp only [cp] at *; omega]; rfl) | (rw [← hv2, show (p + 1).toNat = (p + -1 + 1).toNat + 1 by simp only [cp] at *; omega]; simp only [am_dg]; rw [show (p + -1 + 1).toNat = (am_c p).toNat by rw [cp]; omega]) | (trace_state; fail))
  have lp9' : ∀ (v p : Int) , -1 ≤ p → p < ν 29 0 → am_dg (ν 34) (p + 1).toNat v = am_dg (ν 34) (ν 29 0).toNat 0 → am_AW l 0 (fun _ => 0) 40 Q 9 [some (.inr (.inr 29)), some (.inl v), some (.inl p)] [] ν := fun v p  hv0 hv1 hv2 => lp9 ((p + 1) + 1).toNat v p  hv0 hv1 hv2 (by omega)
  refine am_go (ct := fun pc => Nat.beq pc 9) am_oX2_digits 300 ?_
  conv => whnf
  repeat' first
    | (refine (?_ : am_wp _ _ _ _ _ _ _ _ _ _ _ _); conv => whnf)
    | (refine (?_ : am_sw _ _ _ _); conv => whnf)
    | refine And.intro trivial ?_
    | exact trivial
    | refine lp9' _ _  ?_ ?_ ?_
    | refine And.intro (fun h => absurd h (by decide)) (fun _ => ?_)
    | refine And.intro (fun _ => ?_) (fun h => absurd (by decide) h)
    | refine And.intro (fun _ => ?_) (fun _ => ?_)
    | refine And.intro ?_ ?_
  all_goals (first | decide | assumption | omega | (rw [show (ν 29 0 - 1 + 1).toNat = (ν 29 0).toNat by omega]) | (trace_state; fail))
theorem x_mdigits {l : Launch} {ν : am_N} {Q : Option am_V → am_N → Prop} (hn0 : 0 ≤ ν 83 14) (hn1 : ν 83 14 ≤ 4) (k : Q (some (.inl (am_dg (ν 100) (ν 83 14).toNat 0))) ν) : am_Does l 178 [.inr (.inr 83)] ν Q := by
  refine am_Does_of (Nat.le_of_ble_eq_true rfl) (Nat.le_of_ble_eq_true rfl) (Nat.le_of_ble_eq_true rfl) ?_
  have lp9 : ∀ (m : Nat) (v p : Int) , -1 ≤ p → p < ν 83 14 → am_dg (ν 100) (p + 1).toNat v = am_dg (ν 100) (ν 83 14).toNat 0 → p + 1 < (m : Int) → am_AW l 0 (fun _ => 0) 178 Q 9 [some (.inr (.inr 83)), some (.inl v), some (.inl p)] [] ν := by
    intro m
    induction m with
    | zero =>
      intro v p  hv0 hv1 hv2 hm
      exfalso
      omega
    | succ m ih =>
      intro v p  hv0 hv1 hv2 hm
      have cp : am_c p = p := am_cR (by omega) (by omega)
      refine am_go (ct := fun pc => Nat.beq pc 9) am_oX7_digits 300 ?_
      conv => whnf
      repeat' first
        | (refine (?_ : am_wp _ _ _ _ _ _ _ _ _ _ _ _); conv => whnf)
        | (refine (?_ : am_sw _ _ _ _); conv => whnf)
        | refine And.intro trivial ?_
        | exact trivial
        | refine am_qe k ?_
        | refine ih _ _  ?_ ?_ ?_ ?_
        | refine And.intro (fun h => absurd h (by decide)) (fun _ => ?_)
        | refine And.intro (fun _ => ?_) (fun h => absurd (by decide) h)
        | refine And.intro (fun _ => ?_) (fun _ => ?_)
        | refine And.intro ?_ ?_
      all_goals (first | decide | assumption | omega | (simp only [cp] at *; omega) | (rw [← hv2, show (p + 1).toNat = 0 by simp only [cp] at *; omega]; rfl) | (rw [← hv2, show (p + 1).toNat = (p + -1 + 1).toNat + 1 by simp only [cp] at *; omega]; simp only [am_dg]; rw [show (p + -1 + 1).toNat = (am_c p).toNat by rw [cp]; omega]) | (trace_state; fail))
  have lp9' : ∀ (v p : Int) , -1 ≤ p → p < ν 83 14 → am_dg (ν 100) (p + 1).toNat v = am_dg (ν 100) (ν 83 14).toNat 0 → am_AW l 0 (fun _ => 0) 178 Q 9 [some (.inr (.inr 83)), some (.inl v), some (.inl p)] [] ν := fun v p  hv0 hv1 hv2 => lp9 ((p + 1) + 1).toNat v p  hv0 hv1 hv2 (by omega)
  refine am_go (ct := fun pc => Nat.beq pc 9) am_oX7_digits 300 ?_
  conv => whnf
  repeat' first
    | (refine (?_ : am_wp _ _ _ _ _ _ _ _ _ _ _ _); conv => whnf)
    | (refine (?_ : am_sw _ _ _ _); conv => whnf)
    | refine And.intro trivial ?_
    | exact trivial
    | refine lp9' _ _  ?_ ?_ ?_
    | refine And.intro (fun h => absurd h (by decide)) (fun _ => ?_)
    | refine And.intro (fun _ => ?_) (fun h => absurd (by decide) h)
    | refine And.intro (fun _ => ?_) (fun _ => ?_)
    | refine And.intro ?_ ?_
  all_goals (first | decide | assumption | omega | (rw [show (ν 83 14 - 1 + 1).toNat = (ν 83 14).toNat by omega]) | (trace_state; fail))
