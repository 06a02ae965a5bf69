/-! TIME, exactly -/
def am_y (y : Int) : Int := if y < 1 then 1 else y
def am_t0 (p y : Int) : Int := if (p * y).tdiv 10 < 1 then 1 else (p * y).tdiv 10
def am_tt (f y : Int) : Int := if 50 < y then (f * (y - 50)).tdiv 20 else 0
def am_ts (f w : Int) : Int := if w.tmod 2 = 0 then f else 0
/-- TIME of one with pace p, figure f, kind k in week w over y yards (1 at least), with start s -/
def am_T (p f k w y s : Int) : Int :=
  if k = 1 then (if am_t0 p y - (w * f).tdiv 10 < 1 then 1 else am_t0 p y - (w * f).tdiv 10)
  else if k = 2 then am_t0 p y + am_tt f y
  else if k = 3 then am_t0 p y + am_ts f w
  else if k = 4 then am_t0 p y + am_tt f y + 2 * f
  else if k = 5 then am_t0 p y + am_ts f w + (if s = 0 then 5 else 0)
  else am_t0 p y
/-- what one may be -/
def am_rg (p f k w : Int) : Prop := (5 ≤ p ∧ p ≤ 40) ∧ (0 ≤ f ∧ f ≤ 9) ∧ (0 ≤ k ∧ k ≤ 5) ∧ (0 ≤ w ∧ w ≤ 2000)
theorem am_mulb {a b A B : Int} (h0 : 0 ≤ a) (h1 : a ≤ A) (h2 : 0 ≤ b) (h3 : b ≤ B) : 0 ≤ a * b ∧ a * b ≤ A * B := ⟨Int.mul_nonneg h0 h2, Int.le_trans (Int.mul_le_mul_of_nonneg_right h1 h2) (Int.mul_le_mul_of_nonneg_left h3 (Int.le_trans h0 h1))⟩
theorem am_tdb {a n : Int} (h0 : 0 ≤ a) (hn : 0 < n) : 0 ≤ a.tdiv n ∧ a.tdiv n ≤ a := by
  rw [Int.tdiv_eq_ediv_of_nonneg h0]
  exact ⟨Int.ediv_nonneg h0 (Int.le_of_lt hn), Int.ediv_le_self _ h0⟩
theorem am_qe {Q : Option am_V → am_N → Prop} {μ : am_N} {x z : Int} (k : Q (some (.inl z)) μ) (h : x = z) : Q (some (.inl x)) μ := by rw [h]; exact k
theorem x_tenthsOver_1_0 {l : Launch} {ν : am_N} {Q : Option am_V → am_N → Prop} (i y s P F W : Int) (hi0 : 0 ≤ i) (hi1 : i < ν 1 4) (hn : ν 1 4 ≤ 4) (eP : ν 4 i.toNat = P) (eF : ν 3 i.toNat = F) (eK : ν 2 i.toNat = 0) (eW : ν 1 1 = W) (p0 : 5 ≤ P) (p1 : P ≤ 40) (f0 : 0 ≤ F) (f1 : F ≤ 9) (w0 : 0 ≤ W) (w1 : W ≤ 2000) (y0 : -1000 ≤ y) (y1 : y ≤ 1000) (s0 : -1000 ≤ s) (s1 : s ≤ 1000) (k : Q (some (.inl (am_T P F 0 W (am_y y) s))) ν) : am_Does l 10 [.inr (.inr 1), .inl i, .inl y, .inl s] ν Q := by
  refine am_Does_of (Nat.le_of_ble_eq_true rfl) (Nat.le_of_ble_eq_true rfl) (Nat.le_of_ble_eq_true rfl) ?_
  have ci : am_c i = i := am_cR (by omega) (by omega)
  have ei : (am_c i).toNat = i.toNat := by rw [ci]
  have c1 : am_c 1 = 1 := rfl
  have c2 : am_c 2 = 2 := rfl
  have c10 : am_c 10 = 10 := rfl
  have c20 : am_c 20 = 20 := rfl
  have c50 : am_c 50 = 50 := rfl
  have cy : am_c y = y := am_cR (by omega) (by omega)
  have cs : am_c s = s := am_cR (by omega) (by omega)
  have cw : am_c W = W := am_cR (by omega) (by omega)
  have hy2 : 1 ≤ am_y y ∧ am_y y ≤ 1000 := by unfold am_y; split <;> omega
  have m1 := am_mulb (a := P) (b := am_y y) (A := 40) (B := 1000) (by omega) (by omega) (by omega) (by omega)
  have m2 := am_mulb (a := W) (b := F) (A := 2000) (B := 9) (by omega) (by omega) (by omega) (by omega)
  have m3 := fun q : 50 < am_y y => am_mulb (a := F) (b := am_y y - 50) (A := 9) (B := 950) (by omega) (by omega) (by omega) (by omega)
  have d1 := am_tdb (a := P * am_y y) (n := 10) (by omega) (by omega)
  have d2 := am_tdb (a := W * F) (n := 10) (by omega) (by omega)
  have d3 := fun q : 50 < am_y y => am_tdb (a := F * (am_y y - 50)) (n := 20) (m3 q).1 (by omega)
  have a1 : am_c (P * am_y y) = P * am_y y := am_cR (by omega) (by omega)
  have a2 : am_c (W * F) = W * F := am_cR (by omega) (by omega)
  have m4 := am_mulb (a := F) (b := am_y y) (A := 9) (B := 1000) (by omega) (by omega) (by omega) (by omega)
  have m5 : F * (am_y y - 50) = F * am_y y - F * 50 := Int.mul_sub _ _ _
  have a3 : am_c (F * (am_y y - 50)) = F * (am_y y - 50) := am_cR (by omega) (by omega)
  have a4 : am_c ((P * am_y y).tdiv 10) = (P * am_y y).tdiv 10 := am_cR (by omega) (by omega)
  have w2 : W.tmod 2 = W % 2 := Int.tmod_eq_emod_of_nonneg w0
  have a6 : am_c (W.tmod 2) = W.tmod 2 := am_cR (by omega) (by omega)
  have cY : am_c (am_y y) = am_y y := am_cR (by omega) (by omega)
  have c00 : am_c 0 = 0 := rfl
  have z20 : (0 : Int).tdiv 20 = 0 := rfl
  have m0 : F * 0 = 0 := Int.mul_zero F
  have t0 : 1 ≤ am_t0 P (am_y y) ∧ am_t0 P (am_y y) ≤ 40000 := by unfold am_t0; split <;> omega
  have cT : am_c (am_t0 P (am_y y)) = am_t0 P (am_y y) := am_cR (by omega) (by omega)
  have t1 : 0 ≤ am_tt F (am_y y) ∧ am_tt F (am_y y) ≤ 8550 := by
    unfold am_tt
    split
    · next q => have h1 := d3 q; have h2 := m3 q; omega
    · omega
  have t2 : 0 ≤ am_ts F W ∧ am_ts F W ≤ 9 := by unfold am_ts; split <;> omega
  have lp49 : ∀ (Y t : Int), Y = am_y y → t = am_t0 P (am_y y) → am_AW l 0 (fun _ => 0) 10 Q 49 [some (.inr (.inr 1)), some (.inl i), some (.inl y), some (.inl s), some (.inl Y), some (.inl t), none, none] [] ν := by
    intro Y t  hv0 hv1
    subst hv0
    subst hv1
    refine am_go (ct := fun pc => Nat.beq pc 49 || Nat.beq pc 26) am_oX0_tenthsOver 300 ?_
    conv => whnf
    repeat' first
      | (refine (?_ : am_wp _ _ _ _ _ _ _ _ _ _ _ _); conv => whnf)
      | (refine (?_ : am_sw _ _ _ _); conv => whnf)
      | refine And.intro trivial ?_
      | exact trivial
      | refine And.intro (fun h => absurd h (by rw [ei, eK]; decide)) (fun _ => ?_)
      | refine And.intro (fun _ => ?_) (fun h => absurd h (by rw [ei, eK]; decide))
      | refine am_qe k ?_
      | refine And.intro (fun h => absurd h (by decide)) (fun _ => ?_)
      | refine And.intro (fun _ => ?_) (fun h => absurd (by decide) h)
      | refine And.intro (fun _ => ?_) (fun _ => ?_)
      | refine And.intro ?_ ?_
    all_goals (first | decide | omega | (unfold am_T; rw [if_neg (by decide), if_neg (by decide), if_neg (by decide), if_neg (by decide), if_neg (by decide)]; done) | (unfold am_T; rw [if_neg (by decide), if_neg (by decide), if_neg (by decide), if_neg (by decide), if_neg (by decide)]; simp only [am_ts, am_tt, ei, ci, eP, eF, eK, eW, c1, c2, c10, c20, c50, cy, cs, cw, a1, a2, a3, a4, a6, cY, cT, c00, z20, m0] at * <;> first | omega | ((repeat' split) <;> first | omega | (simp only [am_c] at * <;> omega))) | (simp only [ei, ci, eP, eF, eK, eW, c1, c2, c10, c20, c50, cy, cs, cw, a1, a2, a3, a4, a6, cY, cT, c00, z20, m0] at * <;> first | omega | (simp only [am_c] at * <;> omega)) | (trace_state; fail))
  have lp26 : ∀ (Y : Int), Y = am_y y → am_AW l 0 (fun _ => 0) 10 Q 26 [some (.inr (.inr 1)), some (.inl i), some (.inl y), some (.inl s), some (.inl Y), none, none, none] [] ν := by
    intro Y  hv0
    subst hv0
    refine am_go (ct := fun pc => Nat.beq pc 49 || Nat.beq pc 26) am_oX0_tenthsOver 300 ?_
    conv => whnf
    repeat' first
      | (refine (?_ : am_wp _ _ _ _ _ _ _ _ _ _ _ _); conv => whnf)
      | (refine (?_ : am_sw _ _ _ _); conv => whnf)
      | refine And.intro trivial ?_
      | exact trivial
      | refine lp49 _ _  ?_ ?_
      | refine And.intro (fun h => absurd h (by decide)) (fun _ => ?_)
      | refine And.intro (fun _ => ?_) (fun h => absurd (by decide) h)
      | refine And.intro (fun _ => ?_) (fun _ => ?_)
      | refine And.intro ?_ ?_
    all_goals (first | assumption | rfl | decide | omega | (unfold am_t0; simp only [ei, ci, eP, eF, eK, eW, c1, c2, c10, c20, c50, cy, cs, cw, a1, a2, a3, a4, a6, cY, cT, c00, z20, m0] at * <;> first | omega | (rw [if_pos (by omega)]) | (rw [if_neg (by omega)]) | ((repeat' split) <;> first | omega | (simp only [am_c] at * <;> omega))) | (simp only [ei, ci, eP, eF, eK, eW, c1, c2, c10, c20, c50, cy, cs, cw, a1, a2, a3, a4, a6, cY, cT, c00, z20, m0] at * <;> first | omega | (simp only [am_c] at * <;> omega)) | (trace_state; fail))
  refine am_go (ct := fun pc => Nat.beq pc 49 || Nat.beq pc 26) am_oX0_tenthsOver 300 ?_
  conv => whnf
  repeat' first
    | (refine (?_ : am_wp _ _ _ _ _ _ _ _ _ _ _ _); conv => whnf)
    | (refine (?_ : am_sw _ _ _ _); conv => whnf)
    | refine And.intro trivial ?_
    | exact trivial
    | refine lp26 _  ?_
    | refine lp49 _ _  ?_ ?_
    | refine And.intro (fun h => absurd h (by decide)) (fun _ => ?_)
    | refine And.intro (fun _ => ?_) (fun h => absurd (by decide) h)
    | refine And.intro (fun _ => ?_) (fun _ => ?_)
    | refine And.intro ?_ ?_
  all_goals (first | assumption | rfl | decide | omega | (unfold am_y; simp only [ei, ci, eP, eF, eK, eW, c1, c2, c10, c20, c50, cy, cs, cw, a1, a2, a3, a4, a6, cY, cT, c00, z20, m0] at * <;> first | omega | (rw [if_pos (by omega)]) | (rw [if_neg (by omega)]) | ((repeat' split) <;> first | omega | (simp only [am_c] at * <;> omega))) | (simp only [ei, ci, eP, eF, eK, eW, c1, c2, c10, c20, c50, cy, cs, cw, a1, a2, a3, a4, a6, cY, cT, c00, z20, m0] at * <;> first | omega | (simp only [am_c] at * <;> omega)) | (trace_state; fail))
theorem x_tenthsOver_1_1 {l : Launch} {ν : am_N} {Q : Option am_V → am_N → Prop} (i y s P F W : Int) (hi0 : 0 ≤ i) (hi1 : i < ν 1 4) (hn : ν 1 4 ≤ 4) (eP : ν 4 i.toNat = P) (eF : ν 3 i.toNat = F) (eK : ν 2 i.toNat = 1) (eW : ν 1 1 = W) (p0 : 5 ≤ P) (p1 : P ≤ 40) (f0 : 0 ≤ F) (f1 : F ≤ 9) (w0 : 0 ≤ W) (w1 : W ≤ 2000) (y0 : -1000 ≤ y) (y1 : y ≤ 1000) (s0 : -1000 ≤ s) (s1 : s ≤ 1000) (k : Q (some (.inl (am_T P F 1 W (am_y y) s))) ν) : am_Does l 10 [.inr (.inr 1), .inl i, .inl y, .inl s] ν Q := by
  refine am_Does_of (Nat.le_of_ble_eq_true rfl) (Nat.le_of_ble_eq_true rfl) (Nat.le_of_ble_eq_true rfl) ?_
  have ci : am_c i = i := am_cR (by omega) (by omega)
  have ei : (am_c i).toNat = i.toNat := by rw [ci]
  have c1 : am_c 1 = 1 := rfl
  have c2 : am_c 2 = 2 := rfl
  have c10 : am_c 10 = 10 := rfl
  have c20 : am_c 20 = 20 := rfl
  have c50 : am_c 50 = 50 := rfl
  have cy : am_c y = y := am_cR (by omega) (by omega)
  have cs : am_c s = s := am_cR (by omega) (by omega)
  have cw : am_c W = W := am_cR (by omega) (by omega)
  have hy2 : 1 ≤ am_y y ∧ am_y y ≤ 1000 := by unfold am_y; split <;> omega
  have m1 := am_mulb (a := P) (b := am_y y) (A := 40) (B := 1000) (by omega) (by omega) (by omega) (by omega)
  have m2 := am_mulb (a := W) (b := F) (A := 2000) (B := 9) (by omega) (by omega) (by omega) (by omega)
  have m3 := fun q : 50 < am_y y => am_mulb (a := F) (b := am_y y - 50) (A := 9) (B := 950) (by omega) (by omega) (by omega) (by omega)
  have d1 := am_tdb (a := P * am_y y) (n := 10) (by omega) (by omega)
  have d2 := am_tdb (a := W * F) (n := 10) (by omega) (by omega)
  have d3 := fun q : 50 < am_y y => am_tdb (a := F * (am_y y - 50)) (n := 20) (m3 q).1 (by omega)
  have a1 : am_c (P * am_y y) = P * am_y y := am_cR (by omega) (by omega)
  have a2 : am_c (W * F) = W * F := am_cR (by omega) (by omega)
  have m4 := am_mulb (a := F) (b := am_y y) (A := 9) (B := 1000) (by omega) (by omega) (by omega) (by omega)
  have m5 : F * (am_y y - 50) = F * am_y y - F * 50 := Int.mul_sub _ _ _
  have a3 : am_c (F * (am_y y - 50)) = F * (am_y y - 50) := am_cR (by omega) (by omega)
  have a4 : am_c ((P * am_y y).tdiv 10) = (P * am_y y).tdiv 10 := am_cR (by omega) (by omega)
  have w2 : W.tmod 2 = W % 2 := Int.tmod_eq_emod_of_nonneg w0
  have a6 : am_c (W.tmod 2) = W.tmod 2 := am_cR (by omega) (by omega)
  have cY : am_c (am_y y) = am_y y := am_cR (by omega) (by omega)
  have c00 : am_c 0 = 0 := rfl
  have z20 : (0 : Int).tdiv 20 = 0 := rfl
  have m0 : F * 0 = 0 := Int.mul_zero F
  have t0 : 1 ≤ am_t0 P (am_y y) ∧ am_t0 P (am_y y) ≤ 40000 := by unfold am_t0; split <;> omega
  have cT : am_c (am_t0 P (am_y y)) = am_t0 P (am_y y) := am_cR (by omega) (by omega)
  have t1 : 0 ≤ am_tt F (am_y y) ∧ am_tt F (am_y y) ≤ 8550 := by
    unfold am_tt
    split
    · next q => have h1 := d3 q; have h2 := m3 q; omega
    · omega
  have t2 : 0 ≤ am_ts F W ∧ am_ts F W ≤ 9 := by unfold am_ts; split <;> omega
  have lp49 : ∀ (Y t : Int), Y = am_y y → t = am_t0 P (am_y y) → am_AW l 0 (fun _ => 0) 10 Q 49 [some (.inr (.inr 1)), some (.inl i), some (.inl y), some (.inl s), some (.inl Y), some (.inl t), none, none] [] ν := by
    intro Y t  hv0 hv1
    subst hv0
    subst hv1
    refine am_go (ct := fun pc => Nat.beq pc 49 || Nat.beq pc 26) am_oX0_tenthsOver 300 ?_
    conv => whnf
    repeat' first
      | (refine (?_ : am_wp _ _ _ _ _ _ _ _ _ _ _ _); conv => whnf)
      | (refine (?_ : am_sw _ _ _ _); conv => whnf)
      | refine And.intro trivial ?_
      | exact trivial
      | refine And.intro (fun h => absurd h (by rw [ei, eK]; decide)) (fun _ => ?_)
      | refine And.intro (fun _ => ?_) (fun h => absurd h (by rw [ei, eK]; decide))
      | refine am_qe k ?_
      | refine And.intro (fun h => absurd h (by decide)) (fun _ => ?_)
      | refine And.intro (fun _ => ?_) (fun h => absurd (by decide) h)
      | refine And.intro (fun _ => ?_) (fun _ => ?_)
      | refine And.intro ?_ ?_
    all_goals (first | decide | omega | (unfold am_T; rw [if_pos rfl]; done) | (unfold am_T; rw [if_pos rfl]; simp only [am_ts, am_tt, ei, ci, eP, eF, eK, eW, c1, c2, c10, c20, c50, cy, cs, cw, a1, a2, a3, a4, a6, cY, cT, c00, z20, m0] at * <;> first | omega | ((repeat' split) <;> first | omega | (simp only [am_c] at * <;> omega))) | (simp only [ei, ci, eP, eF, eK, eW, c1, c2, c10, c20, c50, cy, cs, cw, a1, a2, a3, a4, a6, cY, cT, c00, z20, m0] at * <;> first | omega | (simp only [am_c] at * <;> omega)) | (trace_state; fail))
  have lp26 : ∀ (Y : Int), Y = am_y y → am_AW l 0 (fun _ => 0) 10 Q 26 [some (.inr (.inr 1)), some (.inl i), some (.inl y), some (.inl s), some (.inl Y), none, none, none] [] ν := by
    intro Y  hv0
    subst hv0
    refine am_go (ct := fun pc => Nat.beq pc 49 || Nat.beq pc 26) am_oX0_tenthsOver 300 ?_
    conv => whnf
    repeat' first
      | (refine (?_ : am_wp _ _ _ _ _ _ _ _ _ _ _ _); conv => whnf)
      | (refine (?_ : am_sw _ _ _ _); conv => whnf)
      | refine And.intro trivial ?_
      | exact trivial
      | refine lp49 _ _  ?_ ?_
      | refine And.intro (fun h => absurd h (by decide)) (fun _ => ?_)
      | refine And.intro (fun _ => ?_) (fun h => absurd (by decide) h)
      | refine And.intro (fun _ => ?_) (fun _ => ?_)
      | refine And.intro ?_ ?_
    all_goals (first | assumption | rfl | decide | omega | (unfold am_t0; simp only [ei, ci, eP, eF, eK, eW, c1, c2, c10, c20, c50, cy, cs, cw, a1, a2, a3, a4, a6, cY, cT, c00, z20, m0] at * <;> first | omega | (rw [if_pos (by omega)]) | (rw [if_neg (by omega)]) | ((repeat' split) <;> first | omega | (simp only [am_c] at * <;> omega))) | (simp only [ei, ci, eP, eF, eK, eW, c1, c2, c10, c20, c50, cy, cs, cw, a1, a2, a3, a4, a6, cY, cT, c00, z20, m0] at * <;> first | omega | (simp only [am_c] at * <;> omega)) | (trace_state; fail))
  refine am_go (ct := fun pc => Nat.beq pc 49 || Nat.beq pc 26) am_oX0_tenthsOver 300 ?_
  conv => whnf
  repeat' first
    | (refine (?_ : am_wp _ _ _ _ _ _ _ _ _ _ _ _); conv => whnf)
    | (refine (?_ : am_sw _ _ _ _); conv => whnf)
    | refine And.intro trivial ?_
    | exact trivial
    | refine lp26 _  ?_
    | refine lp49 _ _  ?_ ?_
    | refine And.intro (fun h => absurd h (by decide)) (fun _ => ?_)
    | refine And.intro (fun _ => ?_) (fun h => absurd (by decide) h)
    | refine And.intro (fun _ => ?_) (fun _ => ?_)
    | refine And.intro ?_ ?_
  all_goals (first | assumption | rfl | decide | omega | (unfold am_y; simp only [ei, ci, eP, eF, eK, eW, c1, c2, c10, c20, c50, cy, cs, cw, a1, a2, a3, a4, a6, cY, cT, c00, z20, m0] at * <;> first | omega | (rw [if_pos (by omega)]) | (rw [if_neg (by omega)]) | ((repeat' split) <;> first | omega | (simp only [am_c] at * <;> omega))) | (simp only [ei, ci, eP, eF, eK, eW, c1, c2, c10, c20, c50, cy, cs, cw, a1, a2, a3, a4, a6, cY, cT, c00, z20, m0] at * <;> first | omega | (simp only [am_c] at * <;> omega)) | (trace_state; fail))
theorem x_tenthsOver_1_2 {l : Launch} {ν : am_N} {Q : Option am_V → am_N → Prop} (i y s P F W : Int) (hi0 : 0 ≤ i) (hi1 : i < ν 1 4) (hn : ν 1 4 ≤ 4) (eP : ν 4 i.toNat = P) (eF : ν 3 i.toNat = F) (eK : ν 2 i.toNat = 2) (eW : ν 1 1 = W) (p0 : 5 ≤ P) (p1 : P ≤ 40) (f0 : 0 ≤ F) (f1 : F ≤ 9) (w0 : 0 ≤ W) (w1 : W ≤ 2000) (y0 : -1000 ≤ y) (y1 : y ≤ 1000) (s0 : -1000 ≤ s) (s1 : s ≤ 1000) (k : Q (some (.inl (am_T P F 2 W (am_y y) s))) ν) : am_Does l 10 [.inr (.inr 1), .inl i, .inl y, .inl s] ν Q := by
  refine am_Does_of (Nat.le_of_ble_eq_true rfl) (Nat.le_of_ble_eq_true rfl) (Nat.le_of_ble_eq_true rfl) ?_
  have ci : am_c i = i := am_cR (by omega) (by omega)
  have ei : (am_c i).toNat = i.toNat := by rw [ci]
  have c1 : am_c 1 = 1 := rfl
  have c2 : am_c 2 = 2 := rfl
  have c10 : am_c 10 = 10 := rfl
  have c20 : am_c 20 = 20 := rfl
  have c50 : am_c 50 = 50 := rfl
  have cy : am_c y = y := am_cR (by omega) (by omega)
  have cs : am_c s = s := am_cR (by omega) (by omega)
  have cw : am_c W = W := am_cR (by omega) (by omega)
  have hy2 : 1 ≤ am_y y ∧ am_y y ≤ 1000 := by unfold am_y; split <;> omega
  have m1 := am_mulb (a := P) (b := am_y y) (A := 40) (B := 1000) (by omega) (by omega) (by omega) (by omega)
  have m2 := am_mulb (a := W) (b := F) (A := 2000) (B := 9) (by omega) (by omega) (by omega) (by omega)
  have m3 := fun q : 50 < am_y y => am_mulb (a := F) (b := am_y y - 50) (A := 9) (B := 950) (by omega) (by omega) (by omega) (by omega)
  have d1 := am_tdb (a := P * am_y y) (n := 10) (by omega) (by omega)
  have d2 := am_tdb (a := W * F) (n := 10) (by omega) (by omega)
  have d3 := fun q : 50 < am_y y => am_tdb (a := F * (am_y y - 50)) (n := 20) (m3 q).1 (by omega)
  have a1 : am_c (P * am_y y) = P * am_y y := am_cR (by omega) (by omega)
  have a2 : am_c (W * F) = W * F := am_cR (by omega) (by omega)
  have m4 := am_mulb (a := F) (b := am_y y) (A := 9) (B := 1000) (by omega) (by omega) (by omega) (by omega)
  have m5 : F * (am_y y - 50) = F * am_y y - F * 50 := Int.mul_sub _ _ _
  have a3 : am_c (F * (am_y y - 50)) = F * (am_y y - 50) := am_cR (by omega) (by omega)
  have a4 : am_c ((P * am_y y).tdiv 10) = (P * am_y y).tdiv 10 := am_cR (by omega) (by omega)
  have w2 : W.tmod 2 = W % 2 := Int.tmod_eq_emod_of_nonneg w0
  have a6 : am_c (W.tmod 2) = W.tmod 2 := am_cR (by omega) (by omega)
  have cY : am_c (am_y y) = am_y y := am_cR (by omega) (by omega)
  have c00 : am_c 0 = 0 := rfl
  have z20 : (0 : Int).tdiv 20 = 0 := rfl
  have m0 : F * 0 = 0 := Int.mul_zero F
  have t0 : 1 ≤ am_t0 P (am_y y) ∧ am_t0 P (am_y y) ≤ 40000 := by unfold am_t0; split <;> omega
  have cT : am_c (am_t0 P (am_y y)) = am_t0 P (am_y y) := am_cR (by omega) (by omega)
  have t1 : 0 ≤ am_tt F (am_y y) ∧ am_tt F (am_y y) ≤ 8550 := by
    unfold am_tt
    split
    · next q => have h1 := d3 q; have h2 := m3 q; omega
    · omega
  have t2 : 0 ≤ am_ts F W ∧ am_ts F W ≤ 9 := by unfold am_ts; split <;> omega
  have lp49 : ∀ (Y t : Int), Y = am_y y → t = am_t0 P (am_y y) → am_AW l 0 (fun _ => 0) 10 Q 49 [some (.inr (.inr 1)), some (.inl i), some (.inl y), some (.inl s), some (.inl Y), some (.inl t), none, none] [] ν := by
    intro Y t  hv0 hv1
    subst hv0
    subst hv1
    refine am_go (ct := fun pc => Nat.beq pc 49 || Nat.beq pc 26) am_oX0_tenthsOver 300 ?_
    conv => whnf
    repeat' first
      | (refine (?_ : am_wp _ _ _ _ _ _ _ _ _ _ _ _); conv => whnf)
      | (refine (?_ : am_sw _ _ _ _); conv => whnf)
      | refine And.intro trivial ?_
      | exact trivial
      | refine And.intro (fun h => absurd h (by rw [ei, eK]; decide)) (fun _ => ?_)
      | refine And.intro (fun _ => ?_) (fun h => absurd h (by rw [ei, eK]; decide))
      | refine am_qe k ?_
      | refine And.intro (fun h => absurd h (by decide)) (fun _ => ?_)
      | refine And.intro (fun _ => ?_) (fun h => absurd (by decide) h)
      | refine And.intro (fun _ => ?_) (fun _ => ?_)
      | refine And.intro ?_ ?_
    all_goals (first | decide | omega | (unfold am_T; rw [if_neg (by decide), if_pos rfl]; done) | (unfold am_T; rw [if_neg (by decide), if_pos rfl]; simp only [am_ts, am_tt, ei, ci, eP, eF, eK, eW, c1, c2, c10, c20, c50, cy, cs, cw, a1, a2, a3, a4, a6, cY, cT, c00, z20, m0] at * <;> first | omega | ((repeat' split) <;> first | omega | (simp only [am_c] at * <;> omega))) | (simp only [ei, ci, eP, eF, eK, eW, c1, c2, c10, c20, c50, cy, cs, cw, a1, a2, a3, a4, a6, cY, cT, c00, z20, m0] at * <;> first | omega | (simp only [am_c] at * <;> omega)) | (trace_state; fail))
  have lp26 : ∀ (Y : Int), Y = am_y y → am_AW l 0 (fun _ => 0) 10 Q 26 [some (.inr (.inr 1)), some (.inl i), some (.inl y), some (.inl s), some (.inl Y), none, none, none] [] ν := by
    intro Y  hv0
    subst hv0
    refine am_go (ct := fun pc => Nat.beq pc 49 || Nat.beq pc 26) am_oX0_tenthsOver 300 ?_
    conv => whnf
    repeat' first
      | (refine (?_ : am_wp _ _ _ _ _ _ _ _ _ _ _ _); conv => whnf)
      | (refine (?_ : am_sw _ _ _ _); conv => whnf)
      | refine And.intro trivial ?_
      | exact trivial
      | refine lp49 _ _  ?_ ?_
      | refine And.intro (fun h => absurd h (by decide)) (fun _ => ?_)
      | refine And.intro (fun _ => ?_) (fun h => absurd (by decide) h)
      | refine And.intro (fun _ => ?_) (fun _ => ?_)
      | refine And.intro ?_ ?_
    all_goals (first | assumption | rfl | decide | omega | (unfold am_t0; simp only [ei, ci, eP, eF, eK, eW, c1, c2, c10, c20, c50, cy, cs, cw, a1, a2, a3, a4, a6, cY, cT, c00, z20, m0] at * <;> first | omega | (rw [if_pos (by omega)]) | (rw [if_neg (by omega)]) | ((repeat' split) <;> first | omega | (simp only [am_c] at * <;> omega))) | (simp only [ei, ci, eP, eF, eK, eW, c1, c2, c10, c20, c50, cy, cs, cw, a1, a2, a3, a4, a6, cY, cT, c00, z20, m0] at * <;> first | omega | (simp only [am_c] at * <;> omega)) | (trace_state; fail))
  refine am_go (ct := fun pc => Nat.beq pc 49 || Nat.beq pc 26) am_oX0_tenthsOver 300 ?_
  conv => whnf
  repeat' first
    | (refine (?_ : am_wp _ _ _ _ _ _ _ _ _ _ _ _); conv => whnf)
    | (refine (?_ : am_sw _ _ _ _); conv => whnf)
    | refine And.intro trivial ?_
    | exact trivial
    | refine lp26 _  ?_
    | refine lp49 _ _  ?_ ?_
    | refine And.intro (fun h => absurd h (by decide)) (fun _ => ?_)
    | refine And.intro (fun _ => ?_) (fun h => absurd (by decide) h)
    | refine And.intro (fun _ => ?_) (fun _ => ?_)
    | refine And.intro ?_ ?_
  all_goals (first | assumption | rfl | decide | omega | (unfold am_y; simp only [ei, ci, eP, eF, eK, eW, c1, c2, c10, c20, c50, cy, cs, cw, a1, a2, a3, a4, a6, cY, cT, c00, z20, m0] at * <;> first | omega | (rw [if_pos (by omega)]) | (rw [if_neg (by omega)]) | ((repeat' split) <;> first | omega | (simp only [am_c] at * <;> omega))) | (simp only [ei, ci, eP, eF, eK, eW, c1, c2, c10, c20, c50, cy, cs, cw, a1, a2, a3, a4, a6, cY, cT, c00, z20, m0] at * <;> first | omega | (simp only [am_c] at * <;> omega)) | (trace_state; fail))
theorem x_tenthsOver_1_3 {l : Launch} {ν : am_N} {Q : Option am_V → am_N → Prop} (i y s P F W : Int) (hi0 : 0 ≤ i) (hi1 : i < ν 1 4) (hn : ν 1 4 ≤ 4) (eP : ν 4 i.toNat = P) (eF : ν 3 i.toNat = F) (eK : ν 2 i.toNat = 3) (eW : ν 1 1 = W) (p0 : 5 ≤ P) (p1 : P ≤ 40) (f0 : 0 ≤ F) (f1 : F ≤ 9) (w0 : 0 ≤ W) (w1 : W ≤ 2000) (y0 : -1000 ≤ y) (y1 : y ≤ 1000) (s0 : -1000 ≤ s) (s1 : s ≤ 1000) (k : Q (some (.inl (am_T P F 3 W (am_y y) s))) ν) : am_Does l 10 [.inr (.inr 1), .inl i, .inl y, .inl s] ν Q := by
  refine am_Does_of (Nat.le_of_ble_eq_true rfl) (Nat.le_of_ble_eq_true rfl) (Nat.le_of_ble_eq_true rfl) ?_
  have ci : am_c i = i := am_cR (by omega) (by omega)
  have ei : (am_c i).toNat = i.toNat := by rw [ci]
  have c1 : am_c 1 = 1 := rfl
  have c2 : am_c 2 = 2 := rfl
  have c10 : am_c 10 = 10 := rfl
  have c20 : am_c 20 = 20 := rfl
  have c50 : am_c 50 = 50 := rfl
  have cy : am_c y = y := am_cR (by omega) (by omega)
  have cs : am_c s = s := am_cR (by omega) (by omega)
  have cw : am_c W = W := am_cR (by omega) (by omega)
  have hy2 : 1 ≤ am_y y ∧ am_y y ≤ 1000 := by unfold am_y; split <;> omega
  have m1 := am_mulb (a := P) (b := am_y y) (A := 40) (B := 1000) (by omega) (by omega) (by omega) (by omega)
  have m2 := am_mulb (a := W) (b := F) (A := 2000) (B := 9) (by omega) (by omega) (by omega) (by omega)
  have m3 := fun q : 50 < am_y y => am_mulb (a := F) (b := am_y y - 50) (A := 9) (B := 950) (by omega) (by omega) (by omega) (by omega)
  have d1 := am_tdb (a := P * am_y y) (n := 10) (by omega) (by omega)
  have d2 := am_tdb (a := W * F) (n := 10) (by omega) (by omega)
  have d3 := fun q : 50 < am_y y => am_tdb (a := F * (am_y y - 50)) (n := 20) (m3 q).1 (by omega)
  have a1 : am_c (P * am_y y) = P * am_y y := am_cR (by omega) (by omega)
  have a2 : am_c (W * F) = W * F := am_cR (by omega) (by omega)
  have m4 := am_mulb (a := F) (b := am_y y) (A := 9) (B := 1000) (by omega) (by omega) (by omega) (by omega)
  have m5 : F * (am_y y - 50) = F * am_y y - F * 50 := Int.mul_sub _ _ _
  have a3 : am_c (F * (am_y y - 50)) = F * (am_y y - 50) := am_cR (by omega) (by omega)
  have a4 : am_c ((P * am_y y).tdiv 10) = (P * am_y y).tdiv 10 := am_cR (by omega) (by omega)
  have w2 : W.tmod 2 = W % 2 := Int.tmod_eq_emod_of_nonneg w0
  have a6 : am_c (W.tmod 2) = W.tmod 2 := am_cR (by omega) (by omega)
  have cY : am_c (am_y y) = am_y y := am_cR (by omega) (by omega)
  have c00 : am_c 0 = 0 := rfl
  have z20 : (0 : Int).tdiv 20 = 0 := rfl
  have m0 : F * 0 = 0 := Int.mul_zero F
  have t0 : 1 ≤ am_t0 P (am_y y) ∧ am_t0 P (am_y y) ≤ 40000 := by unfold am_t0; split <;> omega
  have cT : am_c (am_t0 P (am_y y)) = am_t0 P (am_y y) := am_cR (by omega) (by omega)
  have t1 : 0 ≤ am_tt F (am_y y) ∧ am_tt F (am_y y) ≤ 8550 := by
    unfold am_tt
    split
    · next q => have h1 := d3 q; have h2 := m3 q; omega
    · omega
  have t2 : 0 ≤ am_ts F W ∧ am_ts F W ≤ 9 := by unfold am_ts; split <;> omega
  have lp49 : ∀ (Y t : Int), Y = am_y y → t = am_t0 P (am_y y) → am_AW l 0 (fun _ => 0) 10 Q 49 [some (.inr (.inr 1)), some (.inl i), some (.inl y), some (.inl s), some (.inl Y), some (.inl t), none, none] [] ν := by
    intro Y t  hv0 hv1
    subst hv0
    subst hv1
    refine am_go (ct := fun pc => Nat.beq pc 49 || Nat.beq pc 26) am_oX0_tenthsOver 300 ?_
    conv => whnf
    repeat' first
      | (refine (?_ : am_wp _ _ _ _ _ _ _ _ _ _ _ _); conv => whnf)
      | (refine (?_ : am_sw _ _ _ _); conv => whnf)
      | refine And.intro trivial ?_
      | exact trivial
      | refine And.intro (fun h => absurd h (by rw [ei, eK]; decide)) (fun _ => ?_)
      | refine And.intro (fun _ => ?_) (fun h => absurd h (by rw [ei, eK]; decide))
      | refine am_qe k ?_
      | refine And.intro (fun h => absurd h (by decide)) (fun _ => ?_)
      | refine And.intro (fun _ => ?_) (fun h => absurd (by decide) h)
      | refine And.intro (fun _ => ?_) (fun _ => ?_)
      | refine And.intro ?_ ?_
    all_goals (first | decide | omega | (unfold am_T; rw [if_neg (by decide), if_neg (by decide), if_pos rfl]; done) | (unfold am_T; rw [if_neg (by decide), if_neg (by decide), if_pos rfl]; simp only [am_ts, am_tt, ei, ci, eP, eF, eK, eW, c1, c2, c10, c20, c50, cy, cs, cw, a1, a2, a3, a4, a6, cY, cT, c00, z20, m0] at * <;> first | omega | ((repeat' split) <;> first | omega | (simp only [am_c] at * <;> omega))) | (simp only [ei, ci, eP, eF, eK, eW, c1, c2, c10, c20, c50, cy, cs, cw, a1, a2, a3, a4, a6, cY, cT, c00, z20, m0] at * <;> first | omega | (simp only [am_c] at * <;> omega)) | (trace_state; fail))
  have lp26 : ∀ (Y : Int), Y = am_y y → am_AW l 0 (fun _ => 0) 10 Q 26 [some (.inr (.inr 1)), some (.inl i), some (.inl y), some (.inl s), some (.inl Y), none, none, none] [] ν := by
    intro Y  hv0
    subst hv0
    refine am_go (ct := fun pc => Nat.beq pc 49 || Nat.beq pc 26) am_oX0_tenthsOver 300 ?_
    conv => whnf
    repeat' first
      | (refine (?_ : am_wp _ _ _ _ _ _ _ _ _ _ _ _); conv => whnf)
      | (refine (?_ : am_sw _ _ _ _); conv => whnf)
      | refine And.intro trivial ?_
      | exact trivial
      | refine lp49 _ _  ?_ ?_
      | refine And.intro (fun h => absurd h (by decide)) (fun _ => ?_)
      | refine And.intro (fun _ => ?_) (fun h => absurd (by decide) h)
      | refine And.intro (fun _ => ?_) (fun _ => ?_)
      | refine And.intro ?_ ?_
    all_goals (first | assumption | rfl | decide | omega | (unfold am_t0; simp only [ei, ci, eP, eF, eK, eW, c1, c2, c10, c20, c50, cy, cs, cw, a1, a2, a3, a4, a6, cY, cT, c00, z20, m0] at * <;> first | omega | (rw [if_pos (by omega)]) | (rw [if_neg (by omega)]) | ((repeat' split) <;> first | omega | (simp only [am_c] at * <;> omega))) | (simp only [ei, ci, eP, eF, eK, eW, c1, c2, c10, c20, c50, cy, cs, cw, a1, a2, a3, a4, a6, cY, cT, c00, z20, m0] at * <;> first | omega | (simp only [am_c] at * <;> omega)) | (trace_state; fail))
  refine am_go (ct := fun pc => Nat.beq pc 49 || Nat.beq pc 26) am_oX0_tenthsOver 300 ?_
  conv => whnf
  repeat' first
    | (refine (?_ : am_wp _ _ _ _ _ _ _ _ _ _ _ _); conv => whnf)
    | (refine (?_ : am_sw _ _ _ _); conv => whnf)
    | refine And.intro trivial ?_
    | exact trivial
    | refine lp26 _  ?_
    | refine lp49 _ _  ?_ ?_
    | refine And.intro (fun h => absurd h (by decide)) (fun _ => ?_)
    | refine And.intro (fun _ => ?_) (fun h => absurd (by decide) h)
    | refine And.intro (fun _ => ?_) (fun _ => ?_)
    | refine And.intro ?_ ?_
  all_goals (first | assumption | rfl | decide | omega | (unfold am_y; simp only [ei, ci, eP, eF, eK, eW, c1, c2, c10, c20, c50, cy, cs, cw, a1, a2, a3, a4, a6, cY, cT, c00, z20, m0] at * <;> first | omega | (rw [if_pos (by omega)]) | (rw [if_neg (by omega)]) | ((repeat' split) <;> first | omega | (simp only [am_c] at * <;> omega))) | (simp only [ei, ci, eP, eF, eK, eW, c1, c2, c10, c20, c50, cy, cs, cw, a1, a2, a3, a4, a6, cY, cT, c00, z20, m0] at * <;> first | omega | (simp only [am_c] at * <;> omega)) | (trace_state; fail))
theorem x_tenthsOver_1_4 {l : Launch} {ν : am_N} {Q : Option am_V → am_N → Prop} (i y s P F W : Int) (hi0 : 0 ≤ i) (hi1 : i < ν 1 4) (hn : ν 1 4 ≤ 4) (eP : ν 4 i.toNat = P) (eF : ν 3 i.toNat = F) (eK : ν 2 i.toNat = 4) (eW : ν 1 1 = W) (p0 : 5 ≤ P) (p1 : P ≤ 40) (f0 : 0 ≤ F) (f1 : F ≤ 9) (w0 : 0 ≤ W) (w1 : W ≤ 2000) (y0 : -1000 ≤ y) (y1 : y ≤ 1000) (s0 : -1000 ≤ s) (s1 : s ≤ 1000) (k : Q (some (.inl (am_T P F 4 W (am_y y) s))) ν) : am_Does l 10 [.inr (.inr 1), .inl i, .inl y, .inl s] ν Q := by
  refine am_Does_of (Nat.le_of_ble_eq_true rfl) (Nat.le_of_ble_eq_true rfl) (Nat.le_of_ble_eq_true rfl) ?_
  have ci : am_c i = i := am_cR (by omega) (by omega)
  have ei : (am_c i).toNat = i.toNat := by rw [ci]
  have c1 : am_c 1 = 1 := rfl
  have c2 : am_c 2 = 2 := rfl
  have c10 : am_c 10 = 10 := rfl
  have c20 : am_c 20 = 20 := rfl
  have c50 : am_c 50 = 50 := rfl
  have cy : am_c y = y := am_cR (by omega) (by omega)
  have cs : am_c s = s := am_cR (by omega) (by omega)
  have cw : am_c W = W := am_cR (by omega) (by omega)
  have hy2 : 1 ≤ am_y y ∧ am_y y ≤ 1000 := by unfold am_y; split <;> omega
  have m1 := am_mulb (a := P) (b := am_y y) (A := 40) (B := 1000) (by omega) (by omega) (by omega) (by omega)
  have m2 := am_mulb (a := W) (b := F) (A := 2000) (B := 9) (by omega) (by omega) (by omega) (by omega)
  have m3 := fun q : 50 < am_y y => am_mulb (a := F) (b := am_y y - 50) (A := 9) (B := 950) (by omega) (by omega) (by omega) (by omega)
  have d1 := am_tdb (a := P * am_y y) (n := 10) (by omega) (by omega)
  have d2 := am_tdb (a := W * F) (n := 10) (by omega) (by omega)
  have d3 := fun q : 50 < am_y y => am_tdb (a := F * (am_y y - 50)) (n := 20) (m3 q).1 (by omega)
  have a1 : am_c (P * am_y y) = P * am_y y := am_cR (by omega) (by omega)
  have a2 : am_c (W * F) = W * F := am_cR (by omega) (by omega)
  have m4 := am_mulb (a := F) (b := am_y y) (A := 9) (B := 1000) (by omega) (by omega) (by omega) (by omega)
  have m5 : F * (am_y y - 50) = F * am_y y - F * 50 := Int.mul_sub _ _ _
  have a3 : am_c (F * (am_y y - 50)) = F * (am_y y - 50) := am_cR (by omega) (by omega)
  have a4 : am_c ((P * am_y y).tdiv 10) = (P * am_y y).tdiv 10 := am_cR (by omega) (by omega)
  have w2 : W.tmod 2 = W % 2 := Int.tmod_eq_emod_of_nonneg w0
  have a6 : am_c (W.tmod 2) = W.tmod 2 := am_cR (by omega) (by omega)
  have cY : am_c (am_y y) = am_y y := am_cR (by omega) (by omega)
  have c00 : am_c 0 = 0 := rfl
  have z20 : (0 : Int).tdiv 20 = 0 := rfl
  have m0 : F * 0 = 0 := Int.mul_zero F
  have t0 : 1 ≤ am_t0 P (am_y y) ∧ am_t0 P (am_y y) ≤ 40000 := by unfold am_t0; split <;> omega
  have cT : am_c (am_t0 P (am_y y)) = am_t0 P (am_y y) := am_cR (by omega) (by omega)
  have t1 : 0 ≤ am_tt F (am_y y) ∧ am_tt F (am_y y) ≤ 8550 := by
    unfold am_tt
    split
    · next q => have h1 := d3 q; have h2 := m3 q; omega
    · omega
  have t2 : 0 ≤ am_ts F W ∧ am_ts F W ≤ 9 := by unfold am_ts; split <;> omega
  have lp49 : ∀ (Y t : Int), Y = am_y y → t = am_t0 P (am_y y) → am_AW l 0 (fun _ => 0) 10 Q 49 [some (.inr (.inr 1)), some (.inl i), some (.inl y), some (.inl s), some (.inl Y), some (.inl t), none, none] [] ν := by
    intro Y t  hv0 hv1
    subst hv0
    subst hv1
    refine am_go (ct := fun pc => Nat.beq pc 49 || Nat.beq pc 26) am_oX0_tenthsOver 300 ?_
    conv => whnf
    repeat' first
      | (refine (?_ : am_wp _ _ _ _ _ _ _ _ _ _ _ _); conv => whnf)
      | (refine (?_ : am_sw _ _ _ _); conv => whnf)
      | refine And.intro trivial ?_
      | exact trivial
      | refine And.intro (fun h => absurd h (by rw [ei, eK]; decide)) (fun _ => ?_)
      | refine And.intro (fun _ => ?_) (fun h => absurd h (by rw [ei, eK]; decide))
      | refine am_qe k ?_
      | refine And.intro (fun h => absurd h (by decide)) (fun _ => ?_)
      | refine And.intro (fun _ => ?_) (fun h => absurd (by decide) h)
      | refine And.intro (fun _ => ?_) (fun _ => ?_)
      | refine And.intro ?_ ?_
    all_goals (first | decide | omega | (unfold am_T; rw [if_neg (by decide), if_neg (by decide), if_neg (by decide), if_pos rfl]; done) | (unfold am_T; rw [if_neg (by decide), if_neg (by decide), if_neg (by decide), if_pos rfl]; simp only [am_ts, am_tt, ei, ci, eP, eF, eK, eW, c1, c2, c10, c20, c50, cy, cs, cw, a1, a2, a3, a4, a6, cY, cT, c00, z20, m0] at * <;> first | omega | ((repeat' split) <;> first | omega | (simp only [am_c] at * <;> omega))) | (simp only [ei, ci, eP, eF, eK, eW, c1, c2, c10, c20, c50, cy, cs, cw, a1, a2, a3, a4, a6, cY, cT, c00, z20, m0] at * <;> first | omega | (simp only [am_c] at * <;> omega)) | (trace_state; fail))
  have lp26 : ∀ (Y : Int), Y = am_y y → am_AW l 0 (fun _ => 0) 10 Q 26 [some (.inr (.inr 1)), some (.inl i), some (.inl y), some (.inl s), some (.inl Y), none, none, none] [] ν := by
    intro Y  hv0
    subst hv0
    refine am_go (ct := fun pc => Nat.beq pc 49 || Nat.beq pc 26) am_oX0_tenthsOver 300 ?_
    conv => whnf
    repeat' first
      | (refine (?_ : am_wp _ _ _ _ _ _ _ _ _ _ _ _); conv => whnf)
      | (refine (?_ : am_sw _ _ _ _); conv => whnf)
      | refine And.intro trivial ?_
      | exact trivial
      | refine lp49 _ _  ?_ ?_
      | refine And.intro (fun h => absurd h (by decide)) (fun _ => ?_)
      | refine And.intro (fun _ => ?_) (fun h => absurd (by decide) h)
      | refine And.intro (fun _ => ?_) (fun _ => ?_)
      | refine And.intro ?_ ?_
    all_goals (first | assumption | rfl | decide | omega | (unfold am_t0; simp only [ei, ci, eP, eF, eK, eW, c1, c2, c10, c20, c50, cy, cs, cw, a1, a2, a3, a4, a6, cY, cT, c00, z20, m0] at * <;> first | omega | (rw [if_pos (by omega)]) | (rw [if_neg (by omega)]) | ((repeat' split) <;> first | omega | (simp only [am_c] at * <;> omega))) | (simp only [ei, ci, eP, eF, eK, eW, c1, c2, c10, c20, c50, cy, cs, cw, a1, a2, a3, a4, a6, cY, cT, c00, z20, m0] at * <;> first | omega | (simp only [am_c] at * <;> omega)) | (trace_state; fail))
  refine am_go (ct := fun pc => Nat.beq pc 49 || Nat.beq pc 26) am_oX0_tenthsOver 300 ?_
  conv => whnf
  repeat' first
    | (refine (?_ : am_wp _ _ _ _ _ _ _ _ _ _ _ _); conv => whnf)
    | (refine (?_ : am_sw _ _ _ _); conv => whnf)
    | refine And.intro trivial ?_
    | exact trivial
    | refine lp26 _  ?_
    | refine lp49 _ _  ?_ ?_
    | refine And.intro (fun h => absurd h (by decide)) (fun _ => ?_)
    | refine And.intro (fun _ => ?_) (fun h => absurd (by decide) h)
    | refine And.intro (fun _ => ?_) (fun _ => ?_)
    | refine And.intro ?_ ?_
  all_goals (first | assumption | rfl | decide | omega | (unfold am_y; simp only [ei, ci, eP, eF, eK, eW, c1, c2, c10, c20, c50, cy, cs, cw, a1, a2, a3, a4, a6, cY, cT, c00, z20, m0] at * <;> first | omega | (rw [if_pos (by omega)]) | (rw [if_neg (by omega)]) | ((repeat' split) <;> first | omega | (simp only [am_c] at * <;> omega))) | (simp only [ei, ci, eP, eF, eK, eW, c1, c2, c10, c20, c50, cy, cs, cw, a1, a2, a3, a4, a6, cY, cT, c00, z20, m0] at * <;> first | omega | (simp only [am_c] at * <;> omega)) | (trace_state; fail))
theorem x_tenthsOver_1_5 {l : Launch} {ν : am_N} {Q : Option am_V → am_N → Prop} (i y s P F W : Int) (hi0 : 0 ≤ i) (hi1 : i < ν 1 4) (hn : ν 1 4 ≤ 4) (eP : ν 4 i.toNat = P) (eF : ν 3 i.toNat = F) (eK : ν 2 i.toNat = 5) (eW : ν 1 1 = W) (p0 : 5 ≤ P) (p1 : P ≤ 40) (f0 : 0 ≤ F) (f1 : F ≤ 9) (w0 : 0 ≤ W) (w1 : W ≤ 2000) (y0 : -1000 ≤ y) (y1 : y ≤ 1000) (s0 : -1000 ≤ s) (s1 : s ≤ 1000) (k : Q (some (.inl (am_T P F 5 W (am_y y) s))) ν) : am_Does l 10 [.inr (.inr 1), .inl i, .inl y, .inl s] ν Q := by
  refine am_Does_of (Nat.le_of_ble_eq_true rfl) (Nat.le_of_ble_eq_true rfl) (Nat.le_of_ble_eq_true rfl) ?_
  have ci : am_c i = i := am_cR (by omega) (by omega)
  have ei : (am_c i).toNat = i.toNat := by rw [ci]
  have c1 : am_c 1 = 1 := rfl
  have c2 : am_c 2 = 2 := rfl
  have c10 : am_c 10 = 10 := rfl
  have c20 : am_c 20 = 20 := rfl
  have c50 : am_c 50 = 50 := rfl
  have cy : am_c y = y := am_cR (by omega) (by omega)
  have cs : am_c s = s := am_cR (by omega) (by omega)
  have cw : am_c W = W := am_cR (by omega) (by omega)
  have hy2 : 1 ≤ am_y y ∧ am_y y ≤ 1000 := by unfold am_y; split <;> omega
  have m1 := am_mulb (a := P) (b := am_y y) (A := 40) (B := 1000) (by omega) (by omega) (by omega) (by omega)
  have m2 := am_mulb (a := W) (b := F) (A := 2000) (B := 9) (by omega) (by omega) (by omega) (by omega)
  have m3 := fun q : 50 < am_y y => am_mulb (a := F) (b := am_y y - 50) (A := 9) (B := 950) (by omega) (by omega) (by omega) (by omega)
  have d1 := am_tdb (a := P * am_y y) (n := 10) (by omega) (by omega)
  have d2 := am_tdb (a := W * F) (n := 10) (by omega) (by omega)
  have d3 := fun q : 50 < am_y y => am_tdb (a := F * (am_y y - 50)) (n := 20) (m3 q).1 (by omega)
  have a1 : am_c (P * am_y y) = P * am_y y := am_cR (by omega) (by omega)
  have a2 : am_c (W * F) = W * F := am_cR (by omega) (by omega)
  have m4 := am_mulb (a := F) (b := am_y y) (A := 9) (B := 1000) (by omega) (by omega) (by omega) (by omega)
  have m5 : F * (am_y y - 50) = F * am_y y - F * 50 := Int.mul_sub _ _ _
  have a3 : am_c (F * (am_y y - 50)) = F * (am_y y - 50) := am_cR (by omega) (by omega)
  have a4 : am_c ((P * am_y y).tdiv 10) = (P * am_y y).tdiv 10 := am_cR (by omega) (by omega)
  have w2 : W.tmod 2 = W % 2 := Int.tmod_eq_emod_of_nonneg w0
  have a6 : am_c (W.tmod 2) = W.tmod 2 := am_cR (by omega) (by omega)
  have cY : am_c (am_y y) = am_y y := am_cR (by omega) (by omega)
  have c00 : am_c 0 = 0 := rfl
  have z20 : (0 : Int).tdiv 20 = 0 := rfl
  have m0 : F * 0 = 0 := Int.mul_zero F
  have t0 : 1 ≤ am_t0 P (am_y y) ∧ am_t0 P (am_y y) ≤ 40000 := by unfold am_t0; split <;> omega
  have cT : am_c (am_t0 P (am_y y)) = am_t0 P (am_y y) := am_cR (by omega) (by omega)
  have t1 : 0 ≤ am_tt F (am_y y) ∧ am_tt F (am_y y) ≤ 8550 := by
    unfold am_tt
    split
    · next q => have h1 := d3 q; have h2 := m3 q; omega
    · omega
  have t2 : 0 ≤ am_ts F W ∧ am_ts F W ≤ 9 := by unfold am_ts; split <;> omega
  have lp49 : ∀ (Y t : Int), Y = am_y y → t = am_t0 P (am_y y) → am_AW l 0 (fun _ => 0) 10 Q 49 [some (.inr (.inr 1)), some (.inl i), some (.inl y), some (.inl s), some (.inl Y), some (.inl t), none, none] [] ν := by
    intro Y t  hv0 hv1
    subst hv0
    subst hv1
    refine am_go (ct := fun pc => Nat.beq pc 49 || Nat.beq pc 26) am_oX0_tenthsOver 300 ?_
    conv => whnf
    repeat' first
      | (refine (?_ : am_wp _ _ _ _ _ _ _ _ _ _ _ _); conv => whnf)
      | (refine (?_ : am_sw _ _ _ _); conv => whnf)
      | refine And.intro trivial ?_
      | exact trivial
      | refine And.intro (fun h => absurd h (by rw [ei, eK]; decide)) (fun _ => ?_)
      | refine And.intro (fun _ => ?_) (fun h => absurd h (by rw [ei, eK]; decide))
      | refine am_qe k ?_
      | refine And.intro (fun h => absurd h (by decide)) (fun _ => ?_)
      | refine And.intro (fun _ => ?_) (fun h => absurd (by decide) h)
      | refine And.intro (fun _ => ?_) (fun _ => ?_)
      | refine And.intro ?_ ?_
    all_goals (first | decide | omega | (unfold am_T; rw [if_neg (by decide), if_neg (by decide), if_neg (by decide), if_neg (by decide), if_pos rfl]; done) | (unfold am_T; rw [if_neg (by decide), if_neg (by decide), if_neg (by decide), if_neg (by decide), if_pos rfl]; simp only [am_ts, am_tt, ei, ci, eP, eF, eK, eW, c1, c2, c10, c20, c50, cy, cs, cw, a1, a2, a3, a4, a6, cY, cT, c00, z20, m0] at * <;> first | omega | ((repeat' split) <;> first | omega | (simp only [am_c] at * <;> omega))) | (simp only [ei, ci, eP, eF, eK, eW, c1, c2, c10, c20, c50, cy, cs, cw, a1, a2, a3, a4, a6, cY, cT, c00, z20, m0] at * <;> first | omega | (simp only [am_c] at * <;> omega)) | (trace_state; fail))
  have lp26 : ∀ (Y : Int), Y = am_y y → am_AW l 0 (fun _ => 0) 10 Q 26 [some (.inr (.inr 1)), some (.inl i), some (.inl y), some (.inl s), some (.inl Y), none, none, none] [] ν := by
    intro Y  hv0
    subst hv0
    refine am_go (ct := fun pc => Nat.beq pc 49 || Nat.beq pc 26) am_oX0_tenthsOver 300 ?_
    conv => whnf
    repeat' first
      | (refine (?_ : am_wp _ _ _ _ _ _ _ _ _ _ _ _); conv => whnf)
      | (refine (?_ : am_sw _ _ _ _); conv => whnf)
      | refine And.intro trivial ?_
      | exact trivial
      | refine lp49 _ _  ?_ ?_
      | refine And.intro (fun h => absurd h (by decide)) (fun _ => ?_)
      | refine And.intro (fun _ => ?_) (fun h => absurd (by decide) h)
      | refine And.intro (fun _ => ?_) (fun _ => ?_)
      | refine And.intro ?_ ?_
    all_goals (first | assumption | rfl | decide | omega | (unfold am_t0; simp only [ei, ci, eP, eF, eK, eW, c1, c2, c10, c20, c50, cy, cs, cw, a1, a2, a3, a4, a6, cY, cT, c00, z20, m0] at * <;> first | omega | (rw [if_pos (by omega)]) | (rw [if_neg (by omega)]) | ((repeat' split) <;> first | omega | (simp only [am_c] at * <;> omega))) | (simp only [ei, ci, eP, eF, eK, eW, c1, c2, c10, c20, c50, cy, cs, cw, a1, a2, a3, a4, a6, cY, cT, c00, z20, m0] at * <;> first | omega | (simp only [am_c] at * <;> omega)) | (trace_state; fail))
  refine am_go (ct := fun pc => Nat.beq pc 49 || Nat.beq pc 26) am_oX0_tenthsOver 300 ?_
  conv => whnf
  repeat' first
    | (refine (?_ : am_wp _ _ _ _ _ _ _ _ _ _ _ _); conv => whnf)
    | (refine (?_ : am_sw _ _ _ _); conv => whnf)
    | refine And.intro trivial ?_
    | exact trivial
    | refine lp26 _  ?_
    | refine lp49 _ _  ?_ ?_
    | refine And.intro (fun h => absurd h (by decide)) (fun _ => ?_)
    | refine And.intro (fun _ => ?_) (fun h => absurd (by decide) h)
    | refine And.intro (fun _ => ?_) (fun _ => ?_)
    | refine And.intro ?_ ?_
  all_goals (first | assumption | rfl | decide | omega | (unfold am_y; simp only [ei, ci, eP, eF, eK, eW, c1, c2, c10, c20, c50, cy, cs, cw, a1, a2, a3, a4, a6, cY, cT, c00, z20, m0] at * <;> first | omega | (rw [if_pos (by omega)]) | (rw [if_neg (by omega)]) | ((repeat' split) <;> first | omega | (simp only [am_c] at * <;> omega))) | (simp only [ei, ci, eP, eF, eK, eW, c1, c2, c10, c20, c50, cy, cs, cw, a1, a2, a3, a4, a6, cY, cT, c00, z20, m0] at * <;> first | omega | (simp only [am_c] at * <;> omega)) | (trace_state; fail))
theorem x_tenthsOver_8_0 {l : Launch} {ν : am_N} {Q : Option am_V → am_N → Prop} (i y s P F W : Int) (hi0 : 0 ≤ i) (hi1 : i < ν 8 4) (hn : ν 8 4 ≤ 4) (eP : ν 11 i.toNat = P) (eF : ν 10 i.toNat = F) (eK : ν 9 i.toNat = 0) (eW : ν 8 1 = W) (p0 : 5 ≤ P) (p1 : P ≤ 40) (f0 : 0 ≤ F) (f1 : F ≤ 9) (w0 : 0 ≤ W) (w1 : W ≤ 2000) (y0 : -1000 ≤ y) (y1 : y ≤ 1000) (s0 : -1000 ≤ s) (s1 : s ≤ 1000) (k : Q (some (.inl (am_T P F 0 W (am_y y) s))) ν) : am_Does l 10 [.inr (.inr 8), .inl i, .inl y, .inl s] ν Q := by
  refine am_Does_of (Nat.le_of_ble_eq_true rfl) (Nat.le_of_ble_eq_true rfl) (Nat.le_of_ble_eq_true rfl) ?_
  have ci : am_c i = i := am_cR (by omega) (by omega)
  have ei : (am_c i).toNat = i.toNat := by rw [ci]
  have c1 : am_c 1 = 1 := rfl
  have c2 : am_c 2 = 2 := rfl
  have c10 : am_c 10 = 10 := rfl
  have c20 : am_c 20 = 20 := rfl
  have c50 : am_c 50 = 50 := rfl
  have cy : am_c y = y := am_cR (by omega) (by omega)
  have cs : am_c s = s := am_cR (by omega) (by omega)
  have cw : am_c W = W := am_cR (by omega) (by omega)
  have hy2 : 1 ≤ am_y y ∧ am_y y ≤ 1000 := by unfold am_y; split <;> omega
  have m1 := am_mulb (a := P) (b := am_y y) (A := 40) (B := 1000) (by omega) (by omega) (by omega) (by omega)
  have m2 := am_mulb (a := W) (b := F) (A := 2000) (B := 9) (by omega) (by omega) (by omega) (by omega)
  have m3 := fun q : 50 < am_y y => am_mulb (a := F) (b := am_y y - 50) (A := 9) (B := 950) (by omega) (by omega) (by omega) (by omega)
  have d1 := am_tdb (a := P * am_y y) (n := 10) (by omega) (by omega)
  have d2 := am_tdb (a := W * F) (n := 10) (by omega) (by omega)
  have d3 := fun q : 50 < am_y y => am_tdb (a := F * (am_y y - 50)) (n := 20) (m3 q).1 (by omega)
  have a1 : am_c (P * am_y y) = P * am_y y := am_cR (by omega) (by omega)
  have a2 : am_c (W * F) = W * F := am_cR (by omega) (by omega)
  have m4 := am_mulb (a := F) (b := am_y y) (A := 9) (B := 1000) (by omega) (by omega) (by omega) (by omega)
  have m5 : F * (am_y y - 50) = F * am_y y - F * 50 := Int.mul_sub _ _ _
  have a3 : am_c (F * (am_y y - 50)) = F * (am_y y - 50) := am_cR (by omega) (by omega)
  have a4 : am_c ((P * am_y y).tdiv 10) = (P * am_y y).tdiv 10 := am_cR (by omega) (by omega)
  have w2 : W.tmod 2 = W % 2 := Int.tmod_eq_emod_of_nonneg w0
  have a6 : am_c (W.tmod 2) = W.tmod 2 := am_cR (by omega) (by omega)
  have cY : am_c (am_y y) = am_y y := am_cR (by omega) (by omega)
  have c00 : am_c 0 = 0 := rfl
  have z20 : (0 : Int).tdiv 20 = 0 := rfl
  have m0 : F * 0 = 0 := Int.mul_zero F
  have t0 : 1 ≤ am_t0 P (am_y y) ∧ am_t0 P (am_y y) ≤ 40000 := by unfold am_t0; split <;> omega
  have cT : am_c (am_t0 P (am_y y)) = am_t0 P (am_y y) := am_cR (by omega) (by omega)
  have t1 : 0 ≤ am_tt F (am_y y) ∧ am_tt F (am_y y) ≤ 8550 := by
    unfold am_tt
    split
    · next q => have h1 := d3 q; have h2 := m3 q; omega
    · omega
  have t2 : 0 ≤ am_ts F W ∧ am_ts F W ≤ 9 := by unfold am_ts; split <;> omega
  have lp49 : ∀ (Y t : Int), Y = am_y y → t = am_t0 P (am_y y) → am_AW l 0 (fun _ => 0) 10 Q 49 [some (.inr (.inr 8)), some (.inl i), some (.inl y), some (.inl s), some (.inl Y), some (.inl t), none, none] [] ν := by
    intro Y t  hv0 hv1
    subst hv0
    subst hv1
    refine am_go (ct := fun pc => Nat.beq pc 49 || Nat.beq pc 26) am_oX0_tenthsOver 300 ?_
    conv => whnf
    repeat' first
      | (refine (?_ : am_wp _ _ _ _ _ _ _ _ _ _ _ _); conv => whnf)
      | (refine (?_ : am_sw _ _ _ _); conv => whnf)
      | refine And.intro trivial ?_
      | exact trivial
      | refine And.intro (fun h => absurd h (by rw [ei, eK]; decide)) (fun _ => ?_)
      | refine And.intro (fun _ => ?_) (fun h => absurd h (by rw [ei, eK]; decide))
      | refine am_qe k ?_
      | refine And.intro (fun h => absurd h (by decide)) (fun _ => ?_)
      | refine And.intro (fun _ => ?_) (fun h => absurd (by decide) h)
      | refine And.intro (fun _ => ?_) (fun _ => ?_)
      | refine And.intro ?_ ?_
    all_goals (first | decide | omega | (unfold am_T; rw [if_neg (by decide), if_neg (by decide), if_neg (by decide), if_neg (by decide), if_neg (by decide)]; done) | (unfold am_T; rw [if_neg (by decide), if_neg (by decide), if_neg (by decide), if_neg (by decide), if_neg (by decide)]; simp only [am_ts, am_tt, ei, ci, eP, eF, eK, eW, c1, c2, c10, c20, c50, cy, cs, cw, a1, a2, a3, a4, a6, cY, cT, c00, z20, m0] at * <;> first | omega | ((repeat' split) <;> first | omega | (simp only [am_c] at * <;> omega))) | (simp only [ei, ci, eP, eF, eK, eW, c1, c2, c10, c20, c50, cy, cs, cw, a1, a2, a3, a4, a6, cY, cT, c00, z20, m0] at * <;> first | omega | (simp only [am_c] at * <;> omega)) | (trace_state; fail))
  have lp26 : ∀ (Y : Int), Y = am_y y → am_AW l 0 (fun _ => 0) 10 Q 26 [some (.inr (.inr 8)), some (.inl i), some (.inl y), some (.inl s), some (.inl Y), none, none, none] [] ν := by
    intro Y  hv0
    subst hv0
    refine am_go (ct := fun pc => Nat.beq pc 49 || Nat.beq pc 26) am_oX0_tenthsOver 300 ?_
    conv => whnf
    repeat' first
      | (refine (?_ : am_wp _ _ _ _ _ _ _ _ _ _ _ _); conv => whnf)
      | (refine (?_ : am_sw _ _ _ _); conv => whnf)
      | refine And.intro trivial ?_
      | exact trivial
      | refine lp49 _ _  ?_ ?_
      | refine And.intro (fun h => absurd h (by decide)) (fun _ => ?_)
      | refine And.intro (fun _ => ?_) (fun h => absurd (by decide) h)
      | refine And.intro (fun _ => ?_) (fun _ => ?_)
      | refine And.intro ?_ ?_
    all_goals (first | assumption | rfl | decide | omega | (unfold am_t0; simp only [ei, ci, eP, eF, eK, eW, c1, c2, c10, c20, c50, cy, cs, cw, a1, a2, a3, a4, a6, cY, cT, c00, z20, m0] at * <;> first | omega | (rw [if_pos (by omega)]) | (rw [if_neg (by omega)]) | ((repeat' split) <;> first | omega | (simp only [am_c] at * <;> omega))) | (simp only [ei, ci, eP, eF, eK, eW, c1, c2, c10, c20, c50, cy, cs, cw, a1, a2, a3, a4, a6, cY, cT, c00, z20, m0] at * <;> first | omega | (simp only [am_c] at * <;> omega)) | (trace_state; fail))
  refine am_go (ct := fun pc => Nat.beq pc 49 || Nat.beq pc 26) am_oX0_tenthsOver 300 ?_
  conv => whnf
  repeat' first
    | (refine (?_ : am_wp _ _ _ _ _ _ _ _ _ _ _ _); conv => whnf)
    | (refine (?_ : am_sw _ _ _ _); conv => whnf)
    | refine And.intro trivial ?_
    | exact trivial
    | refine lp26 _  ?_
    | refine lp49 _ _  ?_ ?_
    | refine And.intro (fun h => absurd h (by decide)) (fun _ => ?_)
    | refine And.intro (fun _ => ?_) (fun h => absurd (by decide) h)
    | refine And.intro (fun _ => ?_) (fun _ => ?_)
    | refine And.intro ?_ ?_
  all_goals (first | assumption | rfl | decide | omega | (unfold am_y; simp only [ei, ci, eP, eF, eK, eW, c1, c2, c10, c20, c50, cy, cs, cw, a1, a2, a3, a4, a6, cY, cT, c00, z20, m0] at * <;> first | omega | (rw [if_pos (by omega)]) | (rw [if_neg (by omega)]) | ((repeat' split) <;> first | omega | (simp only [am_c] at * <;> omega))) | (simp only [ei, ci, eP, eF, eK, eW, c1, c2, c10, c20, c50, cy, cs, cw, a1, a2, a3, a4, a6, cY, cT, c00, z20, m0] at * <;> first | omega | (simp only [am_c] at * <;> omega)) | (trace_state; fail))
theorem x_tenthsOver_8_1 {l : Launch} {ν : am_N} {Q : Option am_V → am_N → Prop} (i y s P F W : Int) (hi0 : 0 ≤ i) (hi1 : i < ν 8 4) (hn : ν 8 4 ≤ 4) (eP : ν 11 i.toNat = P) (eF : ν 10 i.toNat = F) (eK : ν 9 i.toNat = 1) (eW : ν 8 1 = W) (p0 : 5 ≤ P) (p1 : P ≤ 40) (f0 : 0 ≤ F) (f1 : F ≤ 9) (w0 : 0 ≤ W) (w1 : W ≤ 2000) (y0 : -1000 ≤ y) (y1 : y ≤ 1000) (s0 : -1000 ≤ s) (s1 : s ≤ 1000) (k : Q (some (.inl (am_T P F 1 W (am_y y) s))) ν) : am_Does l 10 [.inr (.inr 8), .inl i, .inl y, .inl s] ν Q := by
  refine am_Does_of (Nat.le_of_ble_eq_true rfl) (Nat.le_of_ble_eq_true rfl) (Nat.le_of_ble_eq_true rfl) ?_
  have ci : am_c i = i := am_cR (by omega) (by omega)
  have ei : (am_c i).toNat = i.toNat := by rw [ci]
  have c1 : am_c 1 = 1 := rfl
  have c2 : am_c 2 = 2 := rfl
  have c10 : am_c 10 = 10 := rfl
  have c20 : am_c 20 = 20 := rfl
  have c50 : am_c 50 = 50 := rfl
  have cy : am_c y = y := am_cR (by omega) (by omega)
  have cs : am_c s = s := am_cR (by omega) (by omega)
  have cw : am_c W = W := am_cR (by omega) (by omega)
  have hy2 : 1 ≤ am_y y ∧ am_y y ≤ 1000 := by unfold am_y; split <;> omega
  have m1 := am_mulb (a := P) (b := am_y y) (A := 40) (B := 1000) (by omega) (by omega) (by omega) (by omega)
  have m2 := am_mulb (a := W) (b := F) (A := 2000) (B := 9) (by omega) (by omega) (by omega) (by omega)
  have m3 := fun q : 50 < am_y y => am_mulb (a := F) (b := am_y y - 50) (A := 9) (B := 950) (by omega) (by omega) (by omega) (by omega)
  have d1 := am_tdb (a := P * am_y y) (n := 10) (by omega) (by omega)
  have d2 := am_tdb (a := W * F) (n := 10) (by omega) (by omega)
  have d3 := fun q : 50 < am_y y => am_tdb (a := F * (am_y y - 50)) (n := 20) (m3 q).1 (by omega)
  have a1 : am_c (P * am_y y) = P * am_y y := am_cR (by omega) (by omega)
  have a2 : am_c (W * F) = W * F := am_cR (by omega) (by omega)
  have m4 := am_mulb (a := F) (b := am_y y) (A := 9) (B := 1000) (by omega) (by omega) (by omega) (by omega)
  have m5 : F * (am_y y - 50) = F * am_y y - F * 50 := Int.mul_sub _ _ _
  have a3 : am_c (F * (am_y y - 50)) = F * (am_y y - 50) := am_cR (by omega) (by omega)
  have a4 : am_c ((P * am_y y).tdiv 10) = (P * am_y y).tdiv 10 := am_cR (by omega) (by omega)
  have w2 : W.tmod 2 = W % 2 := Int.tmod_eq_emod_of_nonneg w0
  have a6 : am_c (W.tmod 2) = W.tmod 2 := am_cR (by omega) (by omega)
  have cY : am_c (am_y y) = am_y y := am_cR (by omega) (by omega)
  have c00 : am_c 0 = 0 := rfl
  have z20 : (0 : Int).tdiv 20 = 0 := rfl
  have m0 : F * 0 = 0 := Int.mul_zero F
  have t0 : 1 ≤ am_t0 P (am_y y) ∧ am_t0 P (am_y y) ≤ 40000 := by unfold am_t0; split <;> omega
  have cT : am_c (am_t0 P (am_y y)) = am_t0 P (am_y y) := am_cR (by omega) (by omega)
  have t1 : 0 ≤ am_tt F (am_y y) ∧ am_tt F (am_y y) ≤ 8550 := by
    unfold am_tt
    split
    · next q => have h1 := d3 q; have h2 := m3 q; omega
    · omega
  have t2 : 0 ≤ am_ts F W ∧ am_ts F W ≤ 9 := by unfold am_ts; split <;> omega
  have lp49 : ∀ (Y t : Int), Y = am_y y → t = am_t0 P (am_y y) → am_AW l 0 (fun _ => 0) 10 Q 49 [some (.inr (.inr 8)), some (.inl i), some (.inl y), some (.inl s), some (.inl Y), some (.inl t), none, none] [] ν := by
    intro Y t  hv0 hv1
    subst hv0
    subst hv1
    refine am_go (ct := fun pc => Nat.beq pc 49 || Nat.beq pc 26) am_oX0_tenthsOver 300 ?_
    conv => whnf
    repeat' first
      | (refine (?_ : am_wp _ _ _ _ _ _ _ _ _ _ _ _); conv => whnf)
      | (refine (?_ : am_sw _ _ _ _); conv => whnf)
      | refine And.intro trivial ?_
      | exact trivial
      | refine And.intro (fun h => absurd h (by rw [ei, eK]; decide)) (fun _ => ?_)
      | refine And.intro (fun _ => ?_) (fun h => absurd h (by rw [ei, eK]; decide))
      | refine am_qe k ?_
      | refine And.intro (fun h => absurd h (by decide)) (fun _ => ?_)
      | refine And.intro (fun _ => ?_) (fun h => absurd (by decide) h)
      | refine And.intro (fun _ => ?_) (fun _ => ?_)
      | refine And.intro ?_ ?_
    all_goals (first | decide | omega | (unfold am_T; rw [if_pos rfl]; done) | (unfold am_T; rw [if_pos rfl]; simp only [am_ts, am_tt, ei, ci, eP, eF, eK, eW, c1, c2, c10, c20, c50, cy, cs, cw, a1, a2, a3, a4, a6, cY, cT, c00, z20, m0] at * <;> first | omega | ((repeat' split) <;> first | omega | (simp only [am_c] at * <;> omega))) | (simp only [ei, ci, eP, eF, eK, eW, c1, c2, c10, c20, c50, cy, cs, cw, a1, a2, a3, a4, a6, cY, cT, c00, z20, m0] at * <;> first | omega | (simp only [am_c] at * <;> omega)) | (trace_state; fail))
  have lp26 : ∀ (Y : Int), Y = am_y y → am_AW l 0 (fun _ => 0) 10 Q 26 [some (.inr (.inr 8)), some (.inl i), some (.inl y), some (.inl s), some (.inl Y), none, none, none] [] ν := by
    intro Y  hv0
    subst hv0
    refine am_go (ct := fun pc => Nat.beq pc 49 || Nat.beq pc 26) am_oX0_tenthsOver 300 ?_
    conv => whnf
    repeat' first
      | (refine (?_ : am_wp _ _ _ _ _ _ _ _ _ _ _ _); conv => whnf)
      | (refine (?_ : am_sw _ _ _ _); conv => whnf)
      | refine And.intro trivial ?_
      | exact trivial
      | refine lp49 _ _  ?_ ?_
      | refine And.intro (fun h => absurd h (by decide)) (fun _ => ?_)
      | refine And.intro (fun _ => ?_) (fun h => absurd (by decide) h)
      | refine And.intro (fun _ => ?_) (fun _ => ?_)
      | refine And.intro ?_ ?_
    all_goals (first | assumption | rfl | decide | omega | (unfold am_t0; simp only [ei, ci, eP, eF, eK, eW, c1, c2, c10, c20, c50, cy, cs, cw, a1, a2, a3, a4, a6, cY, cT, c00, z20, m0] at * <;> first | omega | (rw [if_pos (by omega)]) | (rw [if_neg (by omega)]) | ((repeat' split) <;> first | omega | (simp only [am_c] at * <;> omega))) | (simp only [ei, ci, eP, eF, eK, eW, c1, c2, c10, c20, c50, cy, cs, cw, a1, a2, a3, a4, a6, cY, cT, c00, z20, m0] at * <;> first | omega | (simp only [am_c] at * <;> omega)) | (trace_state; fail))
  refine am_go (ct := fun pc => Nat.beq pc 49 || Nat.beq pc 26) am_oX0_tenthsOver 300 ?_
  conv => whnf
  repeat' first
    | (refine (?_ : am_wp _ _ _ _ _ _ _ _ _ _ _ _); conv => whnf)
    | (refine (?_ : am_sw _ _ _ _); conv => whnf)
    | refine And.intro trivial ?_
    | exact trivial
    | refine lp26 _  ?_
    | refine lp49 _ _  ?_ ?_
    | refine And.intro (fun h => absurd h (by decide)) (fun _ => ?_)
    | refine And.intro (fun _ => ?_) (fun h => absurd (by decide) h)
    | refine And.intro (fun _ => ?_) (fun _ => ?_)
    | refine And.intro ?_ ?_
  all_goals (first | assumption | rfl | decide | omega | (unfold am_y; simp only [ei, ci, eP, eF, eK, eW, c1, c2, c10, c20, c50, cy, cs, cw, a1, a2, a3, a4, a6, cY, cT, c00, z20, m0] at * <;> first | omega | (rw [if_pos (by omega)]) | (rw [if_neg (by omega)]) | ((repeat' split) <;> first | omega | (simp only [am_c] at * <;> omega))) | (simp only [ei, ci, eP, eF, eK, eW, c1, c2, c10, c20, c50, cy, cs, cw, a1, a2, a3, a4, a6, cY, cT, c00, z20, m0] at * <;> first | omega | (simp only [am_c] at * <;> omega)) | (trace_state; fail))
theorem x_tenthsOver_8_2 {l : Launch} {ν : am_N} {Q : Option am_V → am_N → Prop} (i y s P F W : Int) (hi0 : 0 ≤ i) (hi1 : i < ν 8 4) (hn : ν 8 4 ≤ 4) (eP : ν 11 i.toNat = P) (eF : ν 10 i.toNat = F) (eK : ν 9 i.toNat = 2) (eW : ν 8 1 = W) (p0 : 5 ≤ P) (p1 : P ≤ 40) (f0 : 0 ≤ F) (f1 : F ≤ 9) (w0 : 0 ≤ W) (w1 : W ≤ 2000) (y0 : -1000 ≤ y) (y1 : y ≤ 1000) (s0 : -1000 ≤ s) (s1 : s ≤ 1000) (k : Q (some (.inl (am_T P F 2 W (am_y y) s))) ν) : am_Does l 10 [.inr (.inr 8), .inl i, .inl y, .inl s] ν Q := by
  refine am_Does_of (Nat.le_of_ble_eq_true rfl) (Nat.le_of_ble_eq_true rfl) (Nat.le_of_ble_eq_true rfl) ?_
  have ci : am_c i = i := am_cR (by omega) (by omega)
  have ei : (am_c i).toNat = i.toNat := by rw [ci]
  have c1 : am_c 1 = 1 := rfl
  have c2 : am_c 2 = 2 := rfl
  have c10 : am_c 10 = 10 := rfl
  have c20 : am_c 20 = 20 := rfl
  have c50 : am_c 50 = 50 := rfl
  have cy : am_c y = y := am_cR (by omega) (by omega)
  have cs : am_c s = s := am_cR (by omega) (by omega)
  have cw : am_c W = W := am_cR (by omega) (by omega)
  have hy2 : 1 ≤ am_y y ∧ am_y y ≤ 1000 := by unfold am_y; split <;> omega
  have m1 := am_mulb (a := P) (b := am_y y) (A := 40) (B := 1000) (by omega) (by omega) (by omega) (by omega)
  have m2 := am_mulb (a := W) (b := F) (A := 2000) (B := 9) (by omega) (by omega) (by omega) (by omega)
  have m3 := fun q : 50 < am_y y => am_mulb (a := F) (b := am_y y - 50) (A := 9) (B := 950) (by omega) (by omega) (by omega) (by omega)
  have d1 := am_tdb (a := P * am_y y) (n := 10) (by omega) (by omega)
  have d2 := am_tdb (a := W * F) (n := 10) (by omega) (by omega)
  have d3 := fun q : 50 < am_y y => am_tdb (a := F * (am_y y - 50)) (n := 20) (m3 q).1 (by omega)
  have a1 : am_c (P * am_y y) = P * am_y y := am_cR (by omega) (by omega)
  have a2 : am_c (W * F) = W * F := am_cR (by omega) (by omega)
  have m4 := am_mulb (a := F) (b := am_y y) (A := 9) (B := 1000) (by omega) (by omega) (by omega) (by omega)
  have m5 : F * (am_y y - 50) = F * am_y y - F * 50 := Int.mul_sub _ _ _
  have a3 : am_c (F * (am_y y - 50)) = F * (am_y y - 50) := am_cR (by omega) (by omega)
  have a4 : am_c ((P * am_y y).tdiv 10) = (P * am_y y).tdiv 10 := am_cR (by omega) (by omega)
  have w2 : W.tmod 2 = W % 2 := Int.tmod_eq_emod_of_nonneg w0
  have a6 : am_c (W.tmod 2) = W.tmod 2 := am_cR (by omega) (by omega)
  have cY : am_c (am_y y) = am_y y := am_cR (by omega) (by omega)
  have c00 : am_c 0 = 0 := rfl
  have z20 : (0 : Int).tdiv 20 = 0 := rfl
  have m0 : F * 0 = 0 := Int.mul_zero F
  have t0 : 1 ≤ am_t0 P (am_y y) ∧ am_t0 P (am_y y) ≤ 40000 := by unfold am_t0; split <;> omega
  have cT : am_c (am_t0 P (am_y y)) = am_t0 P (am_y y) := am_cR (by omega) (by omega)
  have t1 : 0 ≤ am_tt F (am_y y) ∧ am_tt F (am_y y) ≤ 8550 := by
    unfold am_tt
    split
    · next q => have h1 := d3 q; have h2 := m3 q; omega
    · omega
  have t2 : 0 ≤ am_ts F W ∧ am_ts F W ≤ 9 := by unfold am_ts; split <;> omega
  have lp49 : ∀ (Y t : Int), Y = am_y y → t = am_t0 P (am_y y) → am_AW l 0 (fun _ => 0) 10 Q 49 [some (.inr (.inr 8)), some (.inl i), some (.inl y), some (.inl s), some (.inl Y), some (.inl t), none, none] [] ν := by
    intro Y t  hv0 hv1
    subst hv0
    subst hv1
    refine am_go (ct := fun pc => Nat.beq pc 49 || Nat.beq pc 26) am_oX0_tenthsOver 300 ?_
    conv => whnf
    repeat' first
      | (refine (?_ : am_wp _ _ _ _ _ _ _ _ _ _ _ _); conv => whnf)
      | (refine (?_ : am_sw _ _ _ _); conv => whnf)
      | refine And.intro trivial ?_
      | exact trivial
      | refine And.intro (fun h => absurd h (by rw [ei, eK]; decide)) (fun _ => ?_)
      | refine And.intro (fun _ => ?_) (fun h => absurd h (by rw [ei, eK]; decide))
      | refine am_qe k ?_
      | refine And.intro (fun h => absurd h (by decide)) (fun _ => ?_)
      | refine And.intro (fun _ => ?_) (fun h => absurd (by decide) h)
      | refine And.intro (fun _ => ?_) (fun _ => ?_)
      | refine And.intro ?_ ?_
    all_goals (first | decide | omega | (unfold am_T; rw [if_neg (by decide), if_pos rfl]; done) | (unfold am_T; rw [if_neg (by decide), if_pos rfl]; simp only [am_ts, am_tt, ei, ci, eP, eF, eK, eW, c1, c2, c10, c20, c50, cy, cs, cw, a1, a2, a3, a4, a6, cY, cT, c00, z20, m0] at * <;> first | omega | ((repeat' split) <;> first | omega | (simp only [am_c] at * <;> omega))) | (simp only [ei, ci, eP, eF, eK, eW, c1, c2, c10, c20, c50, cy, cs, cw, a1, a2, a3, a4, a6, cY, cT, c00, z20, m0] at * <;> first | omega | (simp only [am_c] at * <;> omega)) | (trace_state; fail))
  have lp26 : ∀ (Y : Int), Y = am_y y → am_AW l 0 (fun _ => 0) 10 Q 26 [some (.inr (.inr 8)), some (.inl i), some (.inl y), some (.inl s), some (.inl Y), none, none, none] [] ν := by
    intro Y  hv0
    subst hv0
    refine am_go (ct := fun pc => Nat.beq pc 49 || Nat.beq pc 26) am_oX0_tenthsOver 300 ?_
    conv => whnf
    repeat' first
      | (refine (?_ : am_wp _ _ _ _ _ _ _ _ _ _ _ _); conv => whnf)
      | (refine (?_ : am_sw _ _ _ _); conv => whnf)
      | refine And.intro trivial ?_
      | exact trivial
      | refine lp49 _ _  ?_ ?_
      | refine And.intro (fun h => absurd h (by decide)) (fun _ => ?_)
      | refine And.intro (fun _ => ?_) (fun h => absurd (by decide) h)
      | refine And.intro (fun _ => ?_) (fun _ => ?_)
      | refine And.intro ?_ ?_
    all_goals (first | assumption | rfl | decide | omega | (unfold am_t0; simp only [ei, ci, eP, eF, eK, eW, c1, c2, c10, c20, c50, cy, cs, cw, a1, a2, a3, a4, a6, cY, cT, c00, z20, m0] at * <;> first | omega | (rw [if_pos (by omega)]) | (rw [if_neg (by omega)]) | ((repeat' split) <;> first | omega | (simp only [am_c] at * <;> omega))) | (simp only [ei, ci, eP, eF, eK, eW, c1, c2, c10, c20, c50, cy, cs, cw, a1, a2, a3, a4, a6, cY, cT, c00, z20, m0] at * <;> first | omega | (simp only [am_c] at * <;> omega)) | (trace_state; fail))
  refine am_go (ct := fun pc => Nat.beq pc 49 || Nat.beq pc 26) am_oX0_tenthsOver 300 ?_
  conv => whnf
  repeat' first
    | (refine (?_ : am_wp _ _ _ _ _ _ _ _ _ _ _ _); conv => whnf)
    | (refine (?_ : am_sw _ _ _ _); conv => whnf)
    | refine And.intro trivial ?_
    | exact trivial
    | refine lp26 _  ?_
    | refine lp49 _ _  ?_ ?_
    | refine And.intro (fun h => absurd h (by decide)) (fun _ => ?_)
    | refine And.intro (fun _ => ?_) (fun h => absurd (by decide) h)
    | refine And.intro (fun _ => ?_) (fun _ => ?_)
    | refine And.intro ?_ ?_
  all_goals (first | assumption | rfl | decide | omega | (unfold am_y; simp only [ei, ci, eP, eF, eK, eW, c1, c2, c10, c20, c50, cy, cs, cw, a1, a2, a3, a4, a6, cY, cT, c00, z20, m0] at * <;> first | omega | (rw [if_pos (by omega)]) | (rw [if_neg (by omega)]) | ((repeat' split) <;> first | omega | (simp only [am_c] at * <;> omega))) | (simp only [ei, ci, eP, eF, eK, eW, c1, c2, c10, c20, c50, cy, cs, cw, a1, a2, a3, a4, a6, cY, cT, c00, z20, m0] at * <;> first | omega | (simp only [am_c] at * <;> omega)) | (trace_state; fail))
theorem x_tenthsOver_8_3 {l : Launch} {ν : am_N} {Q : Option am_V → am_N → Prop} (i y s P F W : Int) (hi0 : 0 ≤ i) (hi1 : i < ν 8 4) (hn : ν 8 4 ≤ 4) (eP : ν 11 i.toNat = P) (eF : ν 10 i.toNat = F) (eK : ν 9 i.toNat = 3) (eW : ν 8 1 = W) (p0 : 5 ≤ P) (p1 : P ≤ 40) (f0 : 0 ≤ F) (f1 : F ≤ 9) (w0 : 0 ≤ W) (w1 : W ≤ 2000) (y0 : -1000 ≤ y) (y1 : y ≤ 1000) (s0 : -1000 ≤ s) (s1 : s ≤ 1000) (k : Q (some (.inl (am_T P F 3 W (am_y y) s))) ν) : am_Does l 10 [.inr (.inr 8), .inl i, .inl y, .inl s] ν Q := by
  refine am_Does_of (Nat.le_of_ble_eq_true rfl) (Nat.le_of_ble_eq_true rfl) (Nat.le_of_ble_eq_true rfl) ?_
  have ci : am_c i = i := am_cR (by omega) (by omega)
  have ei : (am_c i).toNat = i.toNat := by rw [ci]
  have c1 : am_c 1 = 1 := rfl
  have c2 : am_c 2 = 2 := rfl
  have c10 : am_c 10 = 10 := rfl
  have c20 : am_c 20 = 20 := rfl
  have c50 : am_c 50 = 50 := rfl
  have cy : am_c y = y := am_cR (by omega) (by omega)
  have cs : am_c s = s := am_cR (by omega) (by omega)
  have cw : am_c W = W := am_cR (by omega) (by omega)
  have hy2 : 1 ≤ am_y y ∧ am_y y ≤ 1000 := by unfold am_y; split <;> omega
  have m1 := am_mulb (a := P) (b := am_y y) (A := 40) (B := 1000) (by omega) (by omega) (by omega) (by omega)
  have m2 := am_mulb (a := W) (b := F) (A := 2000) (B := 9) (by omega) (by omega) (by omega) (by omega)
  have m3 := fun q : 50 < am_y y => am_mulb (a := F) (b := am_y y - 50) (A := 9) (B := 950) (by omega) (by omega) (by omega) (by omega)
  have d1 := am_tdb (a := P * am_y y) (n := 10) (by omega) (by omega)
  have d2 := am_tdb (a := W * F) (n := 10) (by omega) (by omega)
  have d3 := fun q : 50 < am_y y => am_tdb (a := F * (am_y y - 50)) (n := 20) (m3 q).1 (by omega)
  have a1 : am_c (P * am_y y) = P * am_y y := am_cR (by omega) (by omega)
  have a2 : am_c (W * F) = W * F := am_cR (by omega) (by omega)
  have m4 := am_mulb (a := F) (b := am_y y) (A := 9) (B := 1000) (by omega) (by omega) (by omega) (by omega)
  have m5 : F * (am_y y - 50) = F * am_y y - F * 50 := Int.mul_sub _ _ _
  have a3 : am_c (F * (am_y y - 50)) = F * (am_y y - 50) := am_cR (by omega) (by omega)
  have a4 : am_c ((P * am_y y).tdiv 10) = (P * am_y y).tdiv 10 := am_cR (by omega) (by omega)
  have w2 : W.tmod 2 = W % 2 := Int.tmod_eq_emod_of_nonneg w0
  have a6 : am_c (W.tmod 2) = W.tmod 2 := am_cR (by omega) (by omega)
  have cY : am_c (am_y y) = am_y y := am_cR (by omega) (by omega)
  have c00 : am_c 0 = 0 := rfl
  have z20 : (0 : Int).tdiv 20 = 0 := rfl
  have m0 : F * 0 = 0 := Int.mul_zero F
  have t0 : 1 ≤ am_t0 P (am_y y) ∧ am_t0 P (am_y y) ≤ 40000 := by unfold am_t0; split <;> omega
  have cT : am_c (am_t0 P (am_y y)) = am_t0 P (am_y y) := am_cR (by omega) (by omega)
  have t1 : 0 ≤ am_tt F (am_y y) ∧ am_tt F (am_y y) ≤ 8550 := by
    unfold am_tt
    split
    · next q => have h1 := d3 q; have h2 := m3 q; omega
    · omega
  have t2 : 0 ≤ am_ts F W ∧ am_ts F W ≤ 9 := by unfold am_ts; split <;> omega
  have lp49 : ∀ (Y t : Int), Y = am_y y → t = am_t0 P (am_y y) → am_AW l 0 (fun _ => 0) 10 Q 49 [some (.inr (.inr 8)), some (.inl i), some (.inl y), some (.inl s), some (.inl Y), some (.inl t), none, none] [] ν := by
    intro Y t  hv0 hv1
    subst hv0
    subst hv1
    refine am_go (ct := fun pc => Nat.beq pc 49 || Nat.beq pc 26) am_oX0_tenthsOver 300 ?_
    conv => whnf
    repeat' first
      | (refine (?_ : am_wp _ _ _ _ _ _ _ _ _ _ _ _); conv => whnf)
      | (refine (?_ : am_sw _ _ _ _); conv => whnf)
      | refine And.intro trivial ?_
      | exact trivial
      | refine And.intro (fun h => absurd h (by rw [ei, eK]; decide)) (fun _ => ?_)
      | refine And.intro (fun _ => ?_) (fun h => absurd h (by rw [ei, eK]; decide))
      | refine am_qe k ?_
      | refine And.intro (fun h => absurd h (by decide)) (fun _ => ?_)
      | refine And.intro (fun _ => ?_) (fun h => absurd (by decide) h)
      | refine And.intro (fun _ => ?_) (fun _ => ?_)
      | refine And.intro ?_ ?_
    all_goals (first | decide | omega | (unfold am_T; rw [if_neg (by decide), if_neg (by decide), if_pos rfl]; done) | (unfold am_T; rw [if_neg (by decide), if_neg (by decide), if_pos rfl]; simp only [am_ts, am_tt, ei, ci, eP, eF, eK, eW, c1, c2, c10, c20, c50, cy, cs, cw, a1, a2, a3, a4, a6, cY, cT, c00, z20, m0] at * <;> first | omega | ((repeat' split) <;> first | omega | (simp only [am_c] at * <;> omega))) | (simp only [ei, ci, eP, eF, eK, eW, c1, c2, c10, c20, c50, cy, cs, cw, a1, a2, a3, a4, a6, cY, cT, c00, z20, m0] at * <;> first | omega | (simp only [am_c] at * <;> omega)) | (trace_state; fail))
  have lp26 : ∀ (Y : Int), Y = am_y y → am_AW l 0 (fun _ => 0) 10 Q 26 [some (.inr (.inr 8)), some (.inl i), some (.inl y), some (.inl s), some (.inl Y), none, none, none] [] ν := by
    intro Y  hv0
    subst hv0
    refine am_go (ct := fun pc => Nat.beq pc 49 || Nat.beq pc 26) am_oX0_tenthsOver 300 ?_
    conv => whnf
    repeat' first
      | (refine (?_ : am_wp _ _ _ _ _ _ _ _ _ _ _ _); conv => whnf)
      | (refine (?_ : am_sw _ _ _ _); conv => whnf)
      | refine And.intro trivial ?_
      | exact trivial
      | refine lp49 _ _  ?_ ?_
      | refine And.intro (fun h => absurd h (by decide)) (fun _ => ?_)
      | refine And.intro (fun _ => ?_) (fun h => absurd (by decide) h)
      | refine And.intro (fun _ => ?_) (fun _ => ?_)
      | refine And.intro ?_ ?_
    all_goals (first | assumption | rfl | decide | omega | (unfold am_t0; simp only [ei, ci, eP, eF, eK, eW, c1, c2, c10, c20, c50, cy, cs, cw, a1, a2, a3, a4, a6, cY, cT, c00, z20, m0] at * <;> first | omega | (rw [if_pos (by omega)]) | (rw [if_neg (by omega)]) | ((repeat' split) <;> first | omega | (simp only [am_c] at * <;> omega))) | (simp only [ei, ci, eP, eF, eK, eW, c1, c2, c10, c20, c50, cy, cs, cw, a1, a2, a3, a4, a6, cY, cT, c00, z20, m0] at * <;> first | omega | (simp only [am_c] at * <;> omega)) | (trace_state; fail))
  refine am_go (ct := fun pc => Nat.beq pc 49 || Nat.beq pc 26) am_oX0_tenthsOver 300 ?_
  conv => whnf
  repeat' first
    | (refine (?_ : am_wp _ _ _ _ _ _ _ _ _ _ _ _); conv => whnf)
    | (refine (?_ : am_sw _ _ _ _); conv => whnf)
    | refine And.intro trivial ?_
    | exact trivial
    | refine lp26 _  ?_
    | refine lp49 _ _  ?_ ?_
    | refine And.intro (fun h => absurd h (by decide)) (fun _ => ?_)
    | refine And.intro (fun _ => ?_) (fun h => absurd (by decide) h)
    | refine And.intro (fun _ => ?_) (fun _ => ?_)
    | refine And.intro ?_ ?_
  all_goals (first | assumption | rfl | decide | omega | (unfold am_y; simp only [ei, ci, eP, eF, eK, eW, c1, c2, c10, c20, c50, cy, cs, cw, a1, a2, a3, a4, a6, cY, cT, c00, z20, m0] at * <;> first | omega | (rw [if_pos (by omega)]) | (rw [if_neg (by omega)]) | ((repeat' split) <;> first | omega | (simp only [am_c] at * <;> omega))) | (simp only [ei, ci, eP, eF, eK, eW, c1, c2, c10, c20, c50, cy, cs, cw, a1, a2, a3, a4, a6, cY, cT, c00, z20, m0] at * <;> first | omega | (simp only [am_c] at * <;> omega)) | (trace_state; fail))
theorem x_tenthsOver_8_4 {l : Launch} {ν : am_N} {Q : Option am_V → am_N → Prop} (i y s P F W : Int) (hi0 : 0 ≤ i) (hi1 : i < ν 8 4) (hn : ν 8 4 ≤ 4) (eP : ν 11 i.toNat = P) (eF : ν 10 i.toNat = F) (eK : ν 9 i.toNat = 4) (eW : ν 8 1 = W) (p0 : 5 ≤ P) (p1 : P ≤ 40) (f0 : 0 ≤ F) (f1 : F ≤ 9) (w0 : 0 ≤ W) (w1 : W ≤ 2000) (y0 : -1000 ≤ y) (y1 : y ≤ 1000) (s0 : -1000 ≤ s) (s1 : s ≤ 1000) (k : Q (some (.inl (am_T P F 4 W (am_y y) s))) ν) : am_Does l 10 [.inr (.inr 8), .inl i, .inl y, .inl s] ν Q := by
  refine am_Does_of (Nat.le_of_ble_eq_true rfl) (Nat.le_of_ble_eq_true rfl) (Nat.le_of_ble_eq_true rfl) ?_
  have ci : am_c i = i := am_cR (by omega) (by omega)
  have ei : (am_c i).toNat = i.toNat := by rw [ci]
  have c1 : am_c 1 = 1 := rfl
  have c2 : am_c 2 = 2 := rfl
  have c10 : am_c 10 = 10 := rfl
  have c20 : am_c 20 = 20 := rfl
  have c50 : am_c 50 = 50 := rfl
  have cy : am_c y = y := am_cR (by omega) (by omega)
  have cs : am_c s = s := am_cR (by omega) (by omega)
  have cw : am_c W = W := am_cR (by omega) (by omega)
  have hy2 : 1 ≤ am_y y ∧ am_y y ≤ 1000 := by unfold am_y; split <;> omega
  have m1 := am_mulb (a := P) (b := am_y y) (A := 40) (B := 1000) (by omega) (by omega) (by omega) (by omega)
  have m2 := am_mulb (a := W) (b := F) (A := 2000) (B := 9) (by omega) (by omega) (by omega) (by omega)
  have m3 := fun q : 50 < am_y y => am_mulb (a := F) (b := am_y y - 50) (A := 9) (B := 950) (by omega) (by omega) (by omega) (by omega)
  have d1 := am_tdb (a := P * am_y y) (n := 10) (by omega) (by omega)
  have d2 := am_tdb (a := W * F) (n := 10) (by omega) (by omega)
  have d3 := fun q : 50 < am_y y => am_tdb (a := F * (am_y y - 50)) (n := 20) (m3 q).1 (by omega)
  have a1 : am_c (P * am_y y) = P * am_y y := am_cR (by omega) (by omega)
  have a2 : am_c (W * F) = W * F := am_cR (by omega) (by omega)
  have m4 := am_mulb (a := F) (b := am_y y) (A := 9) (B := 1000) (by omega) (by omega) (by omega) (by omega)
  have m5 : F * (am_y y - 50) = F * am_y y - F * 50 := Int.mul_sub _ _ _
  have a3 : am_c (F * (am_y y - 50)) = F * (am_y y - 50) := am_cR (by omega) (by omega)
  have a4 : am_c ((P * am_y y).tdiv 10) = (P * am_y y).tdiv 10 := am_cR (by omega) (by omega)
  have w2 : W.tmod 2 = W % 2 := Int.tmod_eq_emod_of_nonneg w0
  have a6 : am_c (W.tmod 2) = W.tmod 2 := am_cR (by omega) (by omega)
  have cY : am_c (am_y y) = am_y y := am_cR (by omega) (by omega)
  have c00 : am_c 0 = 0 := rfl
  have z20 : (0 : Int).tdiv 20 = 0 := rfl
  have m0 : F * 0 = 0 := Int.mul_zero F
  have t0 : 1 ≤ am_t0 P (am_y y) ∧ am_t0 P (am_y y) ≤ 40000 := by unfold am_t0; split <;> omega
  have cT : am_c (am_t0 P (am_y y)) = am_t0 P (am_y y) := am_cR (by omega) (by omega)
  have t1 : 0 ≤ am_tt F (am_y y) ∧ am_tt F (am_y y) ≤ 8550 := by
    unfold am_tt
    split
    · next q => have h1 := d3 q; have h2 := m3 q; omega
    · omega
  have t2 : 0 ≤ am_ts F W ∧ am_ts F W ≤ 9 := by unfold am_ts; split <;> omega
  have lp49 : ∀ (Y t : Int), Y = am_y y → t = am_t0 P (am_y y) → am_AW l 0 (fun _ => 0) 10 Q 49 [some (.inr (.inr 8)), some (.inl i), some (.inl y), some (.inl s), some (.inl Y), some (.inl t), none, none] [] ν := by
    intro Y t  hv0 hv1
    subst hv0
    subst hv1
    refine am_go (ct := fun pc => Nat.beq pc 49 || Nat.beq pc 26) am_oX0_tenthsOver 300 ?_
    conv => whnf
    repeat' first
      | (refine (?_ : am_wp _ _ _ _ _ _ _ _ _ _ _ _); conv => whnf)
      | (refine (?_ : am_sw _ _ _ _); conv => whnf)
      | refine And.intro trivial ?_
      | exact trivial
      | refine And.intro (fun h => absurd h (by rw [ei, eK]; decide)) (fun _ => ?_)
      | refine And.intro (fun _ => ?_) (fun h => absurd h (by rw [ei, eK]; decide))
      | refine am_qe k ?_
      | refine And.intro (fun h => absurd h (by decide)) (fun _ => ?_)
      | refine And.intro (fun _ => ?_) (fun h => absurd (by decide) h)
      | refine And.intro (fun _ => ?_) (fun _ => ?_)
      | refine And.intro ?_ ?_
    all_goals (first | decide | omega | (unfold am_T; rw [if_neg (by decide), if_neg (by decide), if_neg (by decide), if_pos rfl]; done) | (unfold am_T; rw [if_neg (by decide), if_neg (by decide), if_neg (by decide), if_pos rfl]; simp only [am_ts, am_tt, ei, ci, eP, eF, eK, eW, c1, c2, c10, c20, c50, cy, cs, cw, a1, a2, a3, a4, a6, cY, cT, c00, z20, m0] at * <;> first | omega | ((repeat' split) <;> first | omega | (simp only [am_c] at * <;> omega))) | (simp only [ei, ci, eP, eF, eK, eW, c1, c2, c10, c20, c50, cy, cs, cw, a1, a2, a3, a4, a6, cY, cT, c00, z20, m0] at * <;> first | omega | (simp only [am_c] at * <;> omega)) | (trace_state; fail))
  have lp26 : ∀ (Y : Int), Y = am_y y → am_AW l 0 (fun _ => 0) 10 Q 26 [some (.inr (.inr 8)), some (.inl i), some (.inl y), some (.inl s), some (.inl Y), none, none, none] [] ν := by
    intro Y  hv0
    subst hv0
    refine am_go (ct := fun pc => Nat.beq pc 49 || Nat.beq pc 26) am_oX0_tenthsOver 300 ?_
    conv => whnf
    repeat' first
      | (refine (?_ : am_wp _ _ _ _ _ _ _ _ _ _ _ _); conv => whnf)
      | (refine (?_ : am_sw _ _ _ _); conv => whnf)
      | refine And.intro trivial ?_
      | exact trivial
      | refine lp49 _ _  ?_ ?_
      | refine And.intro (fun h => absurd h (by decide)) (fun _ => ?_)
      | refine And.intro (fun _ => ?_) (fun h => absurd (by decide) h)
      | refine And.intro (fun _ => ?_) (fun _ => ?_)
      | refine And.intro ?_ ?_
    all_goals (first | assumption | rfl | decide | omega | (unfold am_t0; simp only [ei, ci, eP, eF, eK, eW, c1, c2, c10, c20, c50, cy, cs, cw, a1, a2, a3, a4, a6, cY, cT, c00, z20, m0] at * <;> first | omega | (rw [if_pos (by omega)]) | (rw [if_neg (by omega)]) | ((repeat' split) <;> first | omega | (simp only [am_c] at * <;> omega))) | (simp only [ei, ci, eP, eF, eK, eW, c1, c2, c10, c20, c50, cy, cs, cw, a1, a2, a3, a4, a6, cY, cT, c00, z20, m0] at * <;> first | omega | (simp only [am_c] at * <;> omega)) | (trace_state; fail))
  refine am_go (ct := fun pc => Nat.beq pc 49 || Nat.beq pc 26) am_oX0_tenthsOver 300 ?_
  conv => whnf
  repeat' first
    | (refine (?_ : am_wp _ _ _ _ _ _ _ _ _ _ _ _); conv => whnf)
    | (refine (?_ : am_sw _ _ _ _); conv => whnf)
    | refine And.intro trivial ?_
    | exact trivial
    | refine lp26 _  ?_
    | refine lp49 _ _  ?_ ?_
    | refine And.intro (fun h => absurd h (by decide)) (fun _ => ?_)
    | refine And.intro (fun _ => ?_) (fun h => absurd (by decide) h)
    | refine And.intro (fun _ => ?_) (fun _ => ?_)
    | refine And.intro ?_ ?_
  all_goals (first | assumption | rfl | decide | omega | (unfold am_y; simp only [ei, ci, eP, eF, eK, eW, c1, c2, c10, c20, c50, cy, cs, cw, a1, a2, a3, a4, a6, cY, cT, c00, z20, m0] at * <;> first | omega | (rw [if_pos (by omega)]) | (rw [if_neg (by omega)]) | ((repeat' split) <;> first | omega | (simp only [am_c] at * <;> omega))) | (simp only [ei, ci, eP, eF, eK, eW, c1, c2, c10, c20, c50, cy, cs, cw, a1, a2, a3, a4, a6, cY, cT, c00, z20, m0] at * <;> first | omega | (simp only [am_c] at * <;> omega)) | (trace_state; fail))
theorem x_tenthsOver_8_5 {l : Launch} {ν : am_N} {Q : Option am_V → am_N → Prop} (i y s P F W : Int) (hi0 : 0 ≤ i) (hi1 : i < ν 8 4) (hn : ν 8 4 ≤ 4) (eP : ν 11 i.toNat = P) (eF : ν 10 i.toNat = F) (eK : ν 9 i.toNat = 5) (eW : ν 8 1 = W) (p0 : 5 ≤ P) (p1 : P ≤ 40) (f0 : 0 ≤ F) (f1 : F ≤ 9) (w0 : 0 ≤ W) (w1 : W ≤ 2000) (y0 : -1000 ≤ y) (y1 : y ≤ 1000) (s0 : -1000 ≤ s) (s1 : s ≤ 1000) (k : Q (some (.inl (am_T P F 5 W (am_y y) s))) ν) : am_Does l 10 [.inr (.inr 8), .inl i, .inl y, .inl s] ν Q := by
  refine am_Does_of (Nat.le_of_ble_eq_true rfl) (Nat.le_of_ble_eq_true rfl) (Nat.le_of_ble_eq_true rfl) ?_
  have ci : am_c i = i := am_cR (by omega) (by omega)
  have ei : (am_c i).toNat = i.toNat := by rw [ci]
  have c1 : am_c 1 = 1 := rfl
  have c2 : am_c 2 = 2 := rfl
  have c10 : am_c 10 = 10 := rfl
  have c20 : am_c 20 = 20 := rfl
  have c50 : am_c 50 = 50 := rfl
  have cy : am_c y = y := am_cR (by omega) (by omega)
  have cs : am_c s = s := am_cR (by omega) (by omega)
  have cw : am_c W = W := am_cR (by omega) (by omega)
  have hy2 : 1 ≤ am_y y ∧ am_y y ≤ 1000 := by unfold am_y; split <;> omega
  have m1 := am_mulb (a := P) (b := am_y y) (A := 40) (B := 1000) (by omega) (by omega) (by omega) (by omega)
  have m2 := am_mulb (a := W) (b := F) (A := 2000) (B := 9) (by omega) (by omega) (by omega) (by omega)
  have m3 := fun q : 50 < am_y y => am_mulb (a := F) (b := am_y y - 50) (A := 9) (B := 950) (by omega) (by omega) (by omega) (by omega)
  have d1 := am_tdb (a := P * am_y y) (n := 10) (by omega) (by omega)
  have d2 := am_tdb (a := W * F) (n := 10) (by omega) (by omega)
  have d3 := fun q : 50 < am_y y => am_tdb (a := F * (am_y y - 50)) (n := 20) (m3 q).1 (by omega)
  have a1 : am_c (P * am_y y) = P * am_y y := am_cR (by omega) (by omega)
  have a2 : am_c (W * F) = W * F := am_cR (by omega) (by omega)
  have m4 := am_mulb (a := F) (b := am_y y) (A := 9) (B := 1000) (by omega) (by omega) (by omega) (by omega)
  have m5 : F * (am_y y - 50) = F * am_y y - F * 50 := Int.mul_sub _ _ _
  have a3 : am_c (F * (am_y y - 50)) = F * (am_y y - 50) := am_cR (by omega) (by omega)
  have a4 : am_c ((P * am_y y).tdiv 10) = (P * am_y y).tdiv 10 := am_cR (by omega) (by omega)
  have w2 : W.tmod 2 = W % 2 := Int.tmod_eq_emod_of_nonneg w0
  have a6 : am_c (W.tmod 2) = W.tmod 2 := am_cR (by omega) (by omega)
  have cY : am_c (am_y y) = am_y y := am_cR (by omega) (by omega)
  have c00 : am_c 0 = 0 := rfl
  have z20 : (0 : Int).tdiv 20 = 0 := rfl
  have m0 : F * 0 = 0 := Int.mul_zero F
  have t0 : 1 ≤ am_t0 P (am_y y) ∧ am_t0 P (am_y y) ≤ 40000 := by unfold am_t0; split <;> omega
  have cT : am_c (am_t0 P (am_y y)) = am_t0 P (am_y y) := am_cR (by omega) (by omega)
  have t1 : 0 ≤ am_tt F (am_y y) ∧ am_tt F (am_y y) ≤ 8550 := by
    unfold am_tt
    split
    · next q => have h1 := d3 q; have h2 := m3 q; omega
    · omega
  have t2 : 0 ≤ am_ts F W ∧ am_ts F W ≤ 9 := by unfold am_ts; split <;> omega
  have lp49 : ∀ (Y t : Int), Y = am_y y → t = am_t0 P (am_y y) → am_AW l 0 (fun _ => 0) 10 Q 49 [some (.inr (.inr 8)), some (.inl i), some (.inl y), some (.inl s), some (.inl Y), some (.inl t), none, none] [] ν := by
    intro Y t  hv0 hv1
    subst hv0
    subst hv1
    refine am_go (ct := fun pc => Nat.beq pc 49 || Nat.beq pc 26) am_oX0_tenthsOver 300 ?_
    conv => whnf
    repeat' first
      | (refine (?_ : am_wp _ _ _ _ _ _ _ _ _ _ _ _); conv => whnf)
      | (refine (?_ : am_sw _ _ _ _); conv => whnf)
      | refine And.intro trivial ?_
      | exact trivial
      | refine And.intro (fun h => absurd h (by rw [ei, eK]; decide)) (fun _ => ?_)
      | refine And.intro (fun _ => ?_) (fun h => absurd h (by rw [ei, eK]; decide))
      | refine am_qe k ?_
      | refine And.intro (fun h => absurd h (by decide)) (fun _ => ?_)
      | refine And.intro (fun _ => ?_) (fun h => absurd (by decide) h)
      | refine And.intro (fun _ => ?_) (fun _ => ?_)
      | refine And.intro ?_ ?_
    all_goals (first | decide | omega | (unfold am_T; rw [if_neg (by decide), if_neg (by decide), if_neg (by decide), if_neg (by decide), if_pos rfl]; done) | (unfold am_T; rw [if_neg (by decide), if_neg (by decide), if_neg (by decide), if_neg (by decide), if_pos rfl]; simp only [am_ts, am_tt, ei, ci, eP, eF, eK, eW, c1, c2, c10, c20, c50, cy, cs, cw, a1, a2, a3, a4, a6, cY, cT, c00, z20, m0] at * <;> first | omega | ((repeat' split) <;> first | omega | (simp only [am_c] at * <;> omega))) | (simp only [ei, ci, eP, eF, eK, eW, c1, c2, c10, c20, c50, cy, cs, cw, a1, a2, a3, a4, a6, cY, cT, c00, z20, m0] at * <;> first | omega | (simp only [am_c] at * <;> omega)) | (trace_state; fail))
  have lp26 : ∀ (Y : Int), Y = am_y y → am_AW l 0 (fun _ => 0) 10 Q 26 [some (.inr (.inr 8)), some (.inl i), some (.inl y), some (.inl s), some (.inl Y), none, none, none] [] ν := by
    intro Y  hv0
    subst hv0
    refine am_go (ct := fun pc => Nat.beq pc 49 || Nat.beq pc 26) am_oX0_tenthsOver 300 ?_
    conv => whnf
    repeat' first
      | (refine (?_ : am_wp _ _ _ _ _ _ _ _ _ _ _ _); conv => whnf)
      | (refine (?_ : am_sw _ _ _ _); conv => whnf)
      | refine And.intro trivial ?_
      | exact trivial
      | refine lp49 _ _  ?_ ?_
      | refine And.intro (fun h => absurd h (by decide)) (fun _ => ?_)
      | refine And.intro (fun _ => ?_) (fun h => absurd (by decide) h)
      | refine And.intro (fun _ => ?_) (fun _ => ?_)
      | refine And.intro ?_ ?_
    all_goals (first | assumption | rfl | decide | omega | (unfold am_t0; simp only [ei, ci, eP, eF, eK, eW, c1, c2, c10, c20, c50, cy, cs, cw, a1, a2, a3, a4, a6, cY, cT, c00, z20, m0] at * <;> first | omega | (rw [if_pos (by omega)]) | (rw [if_neg (by omega)]) | ((repeat' split) <;> first | omega | (simp only [am_c] at * <;> omega))) | (simp only [ei, ci, eP, eF, eK, eW, c1, c2, c10, c20, c50, cy, cs, cw, a1, a2, a3, a4, a6, cY, cT, c00, z20, m0] at * <;> first | omega | (simp only [am_c] at * <;> omega)) | (trace_state; fail))
  refine am_go (ct := fun pc => Nat.beq pc 49 || Nat.beq pc 26) am_oX0_tenthsOver 300 ?_
  conv => whnf
  repeat' first
    | (refine (?_ : am_wp _ _ _ _ _ _ _ _ _ _ _ _); conv => whnf)
    | (refine (?_ : am_sw _ _ _ _); conv => whnf)
    | refine And.intro trivial ?_
    | exact trivial
    | refine lp26 _  ?_
    | refine lp49 _ _  ?_ ?_
    | refine And.intro (fun h => absurd h (by decide)) (fun _ => ?_)
    | refine And.intro (fun _ => ?_) (fun h => absurd (by decide) h)
    | refine And.intro (fun _ => ?_) (fun _ => ?_)
    | refine And.intro ?_ ?_
  all_goals (first | assumption | rfl | decide | omega | (unfold am_y; simp only [ei, ci, eP, eF, eK, eW, c1, c2, c10, c20, c50, cy, cs, cw, a1, a2, a3, a4, a6, cY, cT, c00, z20, m0] at * <;> first | omega | (rw [if_pos (by omega)]) | (rw [if_neg (by omega)]) | ((repeat' split) <;> first | omega | (simp only [am_c] at * <;> omega))) | (simp only [ei, ci, eP, eF, eK, eW, c1, c2, c10, c20, c50, cy, cs, cw, a1, a2, a3, a4, a6, cY, cT, c00, z20, m0] at * <;> first | omega | (simp only [am_c] at * <;> omega)) | (trace_state; fail))
theorem x_atLeastOne {l : Launch} {μ : am_N} {Q : Option am_V → am_N → Prop} (v : Int) (h0 : -2147483648 ≤ v) (h1 : v ≤ 2147483647) (k : Q (some (.inl (if v < 1 then 1 else v))) μ) : am_Does l 145 [.inl v] μ Q := by
  refine am_Does_of (Nat.le_of_ble_eq_true rfl) (Nat.le_of_ble_eq_true rfl) (Nat.le_of_ble_eq_true rfl) ?_
  have cv : am_c v = v := am_cR (by omega) (by omega)
  have c1 : am_c 1 = 1 := rfl
  refine am_go (ct := fun _ => false) am_oX7_atLeastOne 300 ?_
  conv => whnf
  repeat' first
    | (refine (?_ : am_wp _ _ _ _ _ _ _ _ _ _ _ _); conv => whnf)
    | (refine (?_ : am_sw _ _ _ _); conv => whnf)
    | refine And.intro trivial ?_
    | exact trivial
    | refine am_qe k ?_
    | refine And.intro (fun h => absurd h (by decide)) (fun _ => ?_)
    | refine And.intro (fun _ => ?_) (fun h => absurd (by decide) h)
    | refine And.intro (fun _ => ?_) (fun _ => ?_)
    | refine And.intro ?_ ?_
  all_goals (first | omega | (simp only [cv, c1] at *; first | (rw [if_pos (by omega)]) | (rw [if_neg (by omega)])) | (trace_state; fail))
theorem x_timeOver_0 {l : Launch} {ν : am_N} {Q : Option am_V → am_N → Prop} (i y s P F W : Int) (hi0 : 0 ≤ i) (hi1 : i < ν 83 14) (hn : ν 83 14 ≤ 4) (eP : ν 87 i.toNat = P) (eF : ν 86 i.toNat = F) (eK : ν 85 i.toNat = 0) (eW : ν 83 11 = W) (p0 : 5 ≤ P) (p1 : P ≤ 40) (f0 : 0 ≤ F) (f1 : F ≤ 9) (w0 : 0 ≤ W) (w1 : W ≤ 2000) (y0 : -1000 ≤ y) (y1 : y ≤ 1000) (s0 : -1000 ≤ s) (s1 : s ≤ 1000) (k : Q (some (.inl (am_T P F 0 W (am_y y) s))) ν) : am_Does l 162 [.inr (.inr 83), .inl i, .inl y, .inl s] ν Q := by
  refine am_Does_of (Nat.le_of_ble_eq_true rfl) (Nat.le_of_ble_eq_true rfl) (Nat.le_of_ble_eq_true rfl) ?_
  have ci : am_c i = i := am_cR (by omega) (by omega)
  have ei : (am_c i).toNat = i.toNat := by rw [ci]
  have c1 : am_c 1 = 1 := rfl
  have c2 : am_c 2 = 2 := rfl
  have c10 : am_c 10 = 10 := rfl
  have c20 : am_c 20 = 20 := rfl
  have c50 : am_c 50 = 50 := rfl
  have cy : am_c y = y := am_cR (by omega) (by omega)
  have cs : am_c s = s := am_cR (by omega) (by omega)
  have cw : am_c W = W := am_cR (by omega) (by omega)
  have hy2 : 1 ≤ am_y y ∧ am_y y ≤ 1000 := by unfold am_y; split <;> omega
  have m1 := am_mulb (a := P) (b := am_y y) (A := 40) (B := 1000) (by omega) (by omega) (by omega) (by omega)
  have m2 := am_mulb (a := W) (b := F) (A := 2000) (B := 9) (by omega) (by omega) (by omega) (by omega)
  have m3 := fun q : 50 < am_y y => am_mulb (a := F) (b := am_y y - 50) (A := 9) (B := 950) (by omega) (by omega) (by omega) (by omega)
  have d1 := am_tdb (a := P * am_y y) (n := 10) (by omega) (by omega)
  have d2 := am_tdb (a := W * F) (n := 10) (by omega) (by omega)
  have d3 := fun q : 50 < am_y y => am_tdb (a := F * (am_y y - 50)) (n := 20) (m3 q).1 (by omega)
  have a1 : am_c (P * am_y y) = P * am_y y := am_cR (by omega) (by omega)
  have a2 : am_c (W * F) = W * F := am_cR (by omega) (by omega)
  have m4 := am_mulb (a := F) (b := am_y y) (A := 9) (B := 1000) (by omega) (by omega) (by omega) (by omega)
  have m5 : F * (am_y y - 50) = F * am_y y - F * 50 := Int.mul_sub _ _ _
  have a3 : am_c (F * (am_y y - 50)) = F * (am_y y - 50) := am_cR (by omega) (by omega)
  have a4 : am_c ((P * am_y y).tdiv 10) = (P * am_y y).tdiv 10 := am_cR (by omega) (by omega)
  have w2 : W.tmod 2 = W % 2 := Int.tmod_eq_emod_of_nonneg w0
  have a6 : am_c (W.tmod 2) = W.tmod 2 := am_cR (by omega) (by omega)
  have cY : am_c (am_y y) = am_y y := am_cR (by omega) (by omega)
  have c00 : am_c 0 = 0 := rfl
  have z20 : (0 : Int).tdiv 20 = 0 := rfl
  have m0 : F * 0 = 0 := Int.mul_zero F
  have t0 : 1 ≤ am_t0 P (am_y y) ∧ am_t0 P (am_y y) ≤ 40000 := by unfold am_t0; split <;> omega
  have cT : am_c (am_t0 P (am_y y)) = am_t0 P (am_y y) := am_cR (by omega) (by omega)
  have t1 : 0 ≤ am_tt F (am_y y) ∧ am_tt F (am_y y) ≤ 8550 := by
    unfold am_tt
    split
    · next q => have h1 := d3 q; have h2 := m3 q; omega
    · omega
  have t2 : 0 ≤ am_ts F W ∧ am_ts F W ≤ 9 := by unfold am_ts; split <;> omega
  have lp81 : ∀ (Y t u v : Int), Y = am_y y → t = am_t0 P (am_y y) → u = am_t0 P (am_y y) + am_tt F (am_y y) → v = am_t0 P (am_y y) + am_ts F W → am_AW l 0 (fun _ => 0) 162 Q 81 [some (.inr (.inr 83)), some (.inl i), some (.inl y), some (.inl s), some (.inl Y), some (.inl t), some (.inl u), some (.inl v)] [] ν := by
    intro Y t u v  hv0 hv1 hv2 hv3
    subst hv0
    subst hv1
    subst hv2
    subst hv3
    refine am_go (ct := fun pc => Nat.beq pc 81 || Nat.beq pc 57 || Nat.beq pc 23 || Nat.beq pc 6) am_oX7_timeOver 300 ?_
    conv => whnf
    repeat' first
      | (refine (?_ : am_wp _ _ _ _ _ _ _ _ _ _ _ _); conv => whnf)
      | (refine (?_ : am_sw _ _ _ _); conv => whnf)
      | refine And.intro trivial ?_
      | exact trivial
      | (first | (refine And.intro (fun h => absurd h (by rw [ei, eK]; decide)) (fun _ => ?_)) | (refine And.intro (fun _ => ?_) (fun h => absurd h (by rw [ei, eK]; decide))))
      | refine x_atLeastOne _ ?_ ?_ ?_
      | refine am_qe k ?_
      | refine x_atLeastOne _ ?_ ?_ ?_
      | refine And.intro (fun h => absurd h (by decide)) (fun _ => ?_)
      | refine And.intro (fun _ => ?_) (fun h => absurd (by decide) h)
      | refine And.intro (fun _ => ?_) (fun _ => ?_)
      | refine And.intro ?_ ?_
    all_goals (first | decide | omega | (unfold am_T; rw [if_neg (by decide), if_neg (by decide), if_neg (by decide), if_neg (by decide), if_neg (by decide)]; done) | (unfold am_T; rw [if_neg (by decide), if_neg (by decide), if_neg (by decide), if_neg (by decide), if_neg (by decide)]; simp only [am_ts, am_tt, ei, ci, eP, eF, eK, eW, c1, c2, c10, c20, c50, cy, cs, cw, a1, a2, a3, a4, a6, cY, cT, c00, z20, m0] at * <;> first | omega | ((repeat' split) <;> first | omega | (simp only [am_c] at * <;> omega))) | (simp only [ei, ci, eP, eF, eK, eW, c1, c2, c10, c20, c50, cy, cs, cw, a1, a2, a3, a4, a6, cY, cT, c00, z20, m0] at * <;> first | omega | (simp only [am_c] at * <;> omega)) | (trace_state; fail))
  have lp57 : ∀ (Y t u : Int), Y = am_y y → t = am_t0 P (am_y y) → u = am_t0 P (am_y y) + am_tt F (am_y y) → am_AW l 0 (fun _ => 0) 162 Q 57 [some (.inr (.inr 83)), some (.inl i), some (.inl y), some (.inl s), some (.inl Y), some (.inl t), some (.inl u), none] [] ν := by
    intro Y t u  hv0 hv1 hv2
    subst hv0
    subst hv1
    subst hv2
    refine am_go (ct := fun pc => Nat.beq pc 81 || Nat.beq pc 57 || Nat.beq pc 23 || Nat.beq pc 6) am_oX7_timeOver 300 ?_
    conv => whnf
    repeat' first
      | (refine (?_ : am_wp _ _ _ _ _ _ _ _ _ _ _ _); conv => whnf)
      | (refine (?_ : am_sw _ _ _ _); conv => whnf)
      | refine And.intro trivial ?_
      | exact trivial
      | refine x_atLeastOne _ ?_ ?_ ?_
      | refine lp81 _ _ _ _  ?_ ?_ ?_ ?_
      | refine And.intro (fun h => absurd h (by decide)) (fun _ => ?_)
      | refine And.intro (fun _ => ?_) (fun h => absurd (by decide) h)
      | refine And.intro (fun _ => ?_) (fun _ => ?_)
      | refine And.intro ?_ ?_
    all_goals (first | assumption | rfl | decide | omega | (unfold am_ts; simp only [ei, ci, eP, eF, eK, eW, c1, c2, c10, c20, c50, cy, cs, cw, a1, a2, a3, a4, a6, cY, cT, c00, z20, m0] at * <;> first | omega | (rw [if_pos (by omega)]) | (rw [if_neg (by omega)]) | ((repeat' split) <;> first | omega | (simp only [am_c] at * <;> omega))) | (simp only [ei, ci, eP, eF, eK, eW, c1, c2, c10, c20, c50, cy, cs, cw, a1, a2, a3, a4, a6, cY, cT, c00, z20, m0] at * <;> first | omega | (simp only [am_c] at * <;> omega)) | (trace_state; fail))
  have lp23 : ∀ (Y t : Int), Y = am_y y → t = am_t0 P (am_y y) → am_AW l 0 (fun _ => 0) 162 Q 23 [some (.inr (.inr 83)), some (.inl i), some (.inl y), some (.inl s), some (.inl Y), some (.inl t), none, none] [] ν := by
    intro Y t  hv0 hv1
    subst hv0
    subst hv1
    refine am_go (ct := fun pc => Nat.beq pc 81 || Nat.beq pc 57 || Nat.beq pc 23 || Nat.beq pc 6) am_oX7_timeOver 300 ?_
    conv => whnf
    repeat' first
      | (refine (?_ : am_wp _ _ _ _ _ _ _ _ _ _ _ _); conv => whnf)
      | (refine (?_ : am_sw _ _ _ _); conv => whnf)
      | refine And.intro trivial ?_
      | exact trivial
      | refine x_atLeastOne _ ?_ ?_ ?_
      | refine x_atLeastOne _ ?_ ?_ ?_
      | refine lp57 _ _ _  ?_ ?_ ?_
      | refine lp81 _ _ _ _  ?_ ?_ ?_ ?_
      | refine And.intro (fun h => absurd h (by decide)) (fun _ => ?_)
      | refine And.intro (fun _ => ?_) (fun h => absurd (by decide) h)
      | refine And.intro (fun _ => ?_) (fun _ => ?_)
      | refine And.intro ?_ ?_
    all_goals (first | assumption | rfl | decide | omega | (unfold am_tt; simp only [ei, ci, eP, eF, eK, eW, c1, c2, c10, c20, c50, cy, cs, cw, a1, a2, a3, a4, a6, cY, cT, c00, z20, m0] at * <;> first | omega | (rw [if_pos (by omega)]) | (rw [if_neg (by omega)]) | ((repeat' split) <;> first | omega | (simp only [am_c] at * <;> omega))) | (simp only [ei, ci, eP, eF, eK, eW, c1, c2, c10, c20, c50, cy, cs, cw, a1, a2, a3, a4, a6, cY, cT, c00, z20, m0] at * <;> first | omega | (simp only [am_c] at * <;> omega)) | (trace_state; fail))
  have lp6 : ∀ (Y : Int), Y = am_y y → am_AW l 0 (fun _ => 0) 162 Q 6 [some (.inr (.inr 83)), some (.inl i), some (.inl y), some (.inl s), some (.inl Y), none, none, none] [] ν := by
    intro Y  hv0
    subst hv0
    refine am_go (ct := fun pc => Nat.beq pc 81 || Nat.beq pc 57 || Nat.beq pc 23 || Nat.beq pc 6) am_oX7_timeOver 300 ?_
    conv => whnf
    repeat' first
      | (refine (?_ : am_wp _ _ _ _ _ _ _ _ _ _ _ _); conv => whnf)
      | (refine (?_ : am_sw _ _ _ _); conv => whnf)
      | refine And.intro trivial ?_
      | exact trivial
      | refine x_atLeastOne _ ?_ ?_ ?_
      | refine x_atLeastOne _ ?_ ?_ ?_
      | refine lp23 _ _  ?_ ?_
      | refine lp57 _ _ _  ?_ ?_ ?_
      | refine lp81 _ _ _ _  ?_ ?_ ?_ ?_
      | refine And.intro (fun h => absurd h (by decide)) (fun _ => ?_)
      | refine And.intro (fun _ => ?_) (fun h => absurd (by decide) h)
      | refine And.intro (fun _ => ?_) (fun _ => ?_)
      | refine And.intro ?_ ?_
    all_goals (first | assumption | rfl | decide | omega | (unfold am_t0; simp only [ei, ci, eP, eF, eK, eW, c1, c2, c10, c20, c50, cy, cs, cw, a1, a2, a3, a4, a6, cY, cT, c00, z20, m0] at * <;> first | omega | (rw [if_pos (by omega)]) | (rw [if_neg (by omega)]) | ((repeat' split) <;> first | omega | (simp only [am_c] at * <;> omega))) | (simp only [ei, ci, eP, eF, eK, eW, c1, c2, c10, c20, c50, cy, cs, cw, a1, a2, a3, a4, a6, cY, cT, c00, z20, m0] at * <;> first | omega | (simp only [am_c] at * <;> omega)) | (trace_state; fail))
  refine am_go (ct := fun pc => Nat.beq pc 81 || Nat.beq pc 57 || Nat.beq pc 23 || Nat.beq pc 6) am_oX7_timeOver 300 ?_
  conv => whnf
  repeat' first
    | (refine (?_ : am_wp _ _ _ _ _ _ _ _ _ _ _ _); conv => whnf)
    | (refine (?_ : am_sw _ _ _ _); conv => whnf)
    | refine And.intro trivial ?_
    | exact trivial
    | refine x_atLeastOne _ ?_ ?_ ?_
    | refine lp6 _  ?_
    | refine lp23 _ _  ?_ ?_
    | refine lp57 _ _ _  ?_ ?_ ?_
    | refine lp81 _ _ _ _  ?_ ?_ ?_ ?_
    | refine And.intro (fun h => absurd h (by decide)) (fun _ => ?_)
    | refine And.intro (fun _ => ?_) (fun h => absurd (by decide) h)
    | refine And.intro (fun _ => ?_) (fun _ => ?_)
    | refine And.intro ?_ ?_
  all_goals (first | assumption | rfl | decide | omega | (unfold am_y; simp only [ei, ci, eP, eF, eK, eW, c1, c2, c10, c20, c50, cy, cs, cw, a1, a2, a3, a4, a6, cY, cT, c00, z20, m0] at * <;> first | omega | (rw [if_pos (by omega)]) | (rw [if_neg (by omega)]) | ((repeat' split) <;> first | omega | (simp only [am_c] at * <;> omega))) | (simp only [ei, ci, eP, eF, eK, eW, c1, c2, c10, c20, c50, cy, cs, cw, a1, a2, a3, a4, a6, cY, cT, c00, z20, m0] at * <;> first | omega | (simp only [am_c] at * <;> omega)) | (trace_state; fail))
theorem x_timeOver_1 {l : Launch} {ν : am_N} {Q : Option am_V → am_N → Prop} (i y s P F W : Int) (hi0 : 0 ≤ i) (hi1 : i < ν 83 14) (hn : ν 83 14 ≤ 4) (eP : ν 87 i.toNat = P) (eF : ν 86 i.toNat = F) (eK : ν 85 i.toNat = 1) (eW : ν 83 11 = W) (p0 : 5 ≤ P) (p1 : P ≤ 40) (f0 : 0 ≤ F) (f1 : F ≤ 9) (w0 : 0 ≤ W) (w1 : W ≤ 2000) (y0 : -1000 ≤ y) (y1 : y ≤ 1000) (s0 : -1000 ≤ s) (s1 : s ≤ 1000) (k : Q (some (.inl (am_T P F 1 W (am_y y) s))) ν) : am_Does l 162 [.inr (.inr 83), .inl i, .inl y, .inl s] ν Q := by
  refine am_Does_of (Nat.le_of_ble_eq_true rfl) (Nat.le_of_ble_eq_true rfl) (Nat.le_of_ble_eq_true rfl) ?_
  have ci : am_c i = i := am_cR (by omega) (by omega)
  have ei : (am_c i).toNat = i.toNat := by rw [ci]
  have c1 : am_c 1 = 1 := rfl
  have c2 : am_c 2 = 2 := rfl
  have c10 : am_c 10 = 10 := rfl
  have c20 : am_c 20 = 20 := rfl
  have c50 : am_c 50 = 50 := rfl
  have cy : am_c y = y := am_cR (by omega) (by omega)
  have cs : am_c s = s := am_cR (by omega) (by omega)
  have cw : am_c W = W := am_cR (by omega) (by omega)
  have hy2 : 1 ≤ am_y y ∧ am_y y ≤ 1000 := by unfold am_y; split <;> omega
  have m1 := am_mulb (a := P) (b := am_y y) (A := 40) (B := 1000) (by omega) (by omega) (by omega) (by omega)
  have m2 := am_mulb (a := W) (b := F) (A := 2000) (B := 9) (by omega) (by omega) (by omega) (by omega)
  have m3 := fun q : 50 < am_y y => am_mulb (a := F) (b := am_y y - 50) (A := 9) (B := 950) (by omega) (by omega) (by omega) (by omega)
  have d1 := am_tdb (a := P * am_y y) (n := 10) (by omega) (by omega)
  have d2 := am_tdb (a := W * F) (n := 10) (by omega) (by omega)
  have d3 := fun q : 50 < am_y y => am_tdb (a := F * (am_y y - 50)) (n := 20) (m3 q).1 (by omega)
  have a1 : am_c (P * am_y y) = P * am_y y := am_cR (by omega) (by omega)
  have a2 : am_c (W * F) = W * F := am_cR (by omega) (by omega)
  have m4 := am_mulb (a := F) (b := am_y y) (A := 9) (B := 1000) (by omega) (by omega) (by omega) (by omega)
  have m5 : F * (am_y y - 50) = F * am_y y - F * 50 := Int.mul_sub _ _ _
  have a3 : am_c (F * (am_y y - 50)) = F * (am_y y - 50) := am_cR (by omega) (by omega)
  have a4 : am_c ((P * am_y y).tdiv 10) = (P * am_y y).tdiv 10 := am_cR (by omega) (by omega)
  have w2 : W.tmod 2 = W % 2 := Int.tmod_eq_emod_of_nonneg w0
  have a6 : am_c (W.tmod 2) = W.tmod 2 := am_cR (by omega) (by omega)
  have cY : am_c (am_y y) = am_y y := am_cR (by omega) (by omega)
  have c00 : am_c 0 = 0 := rfl
  have z20 : (0 : Int).tdiv 20 = 0 := rfl
  have m0 : F * 0 = 0 := Int.mul_zero F
  have t0 : 1 ≤ am_t0 P (am_y y) ∧ am_t0 P (am_y y) ≤ 40000 := by unfold am_t0; split <;> omega
  have cT : am_c (am_t0 P (am_y y)) = am_t0 P (am_y y) := am_cR (by omega) (by omega)
  have t1 : 0 ≤ am_tt F (am_y y) ∧ am_tt F (am_y y) ≤ 8550 := by
    unfold am_tt
    split
    · next q => have h1 := d3 q; have h2 := m3 q; omega
    · omega
  have t2 : 0 ≤ am_ts F W ∧ am_ts F W ≤ 9 := by unfold am_ts; split <;> omega
  have lp81 : ∀ (Y t u v : Int), Y = am_y y → t = am_t0 P (am_y y) → u = am_t0 P (am_y y) + am_tt F (am_y y) → v = am_t0 P (am_y y) + am_ts F W → am_AW l 0 (fun _ => 0) 162 Q 81 [some (.inr (.inr 83)), some (.inl i), some (.inl y), some (.inl s), some (.inl Y), some (.inl t), some (.inl u), some (.inl v)] [] ν := by
    intro Y t u v  hv0 hv1 hv2 hv3
    subst hv0
    subst hv1
    subst hv2
    subst hv3
    refine am_go (ct := fun pc => Nat.beq pc 81 || Nat.beq pc 57 || Nat.beq pc 23 || Nat.beq pc 6) am_oX7_timeOver 300 ?_
    conv => whnf
    repeat' first
      | (refine (?_ : am_wp _ _ _ _ _ _ _ _ _ _ _ _); conv => whnf)
      | (refine (?_ : am_sw _ _ _ _); conv => whnf)
      | refine And.intro trivial ?_
      | exact trivial
      | (first | (refine And.intro (fun h => absurd h (by rw [ei, eK]; decide)) (fun _ => ?_)) | (refine And.intro (fun _ => ?_) (fun h => absurd h (by rw [ei, eK]; decide))))
      | refine x_atLeastOne _ ?_ ?_ ?_
      | refine am_qe k ?_
      | refine x_atLeastOne _ ?_ ?_ ?_
      | refine And.intro (fun h => absurd h (by decide)) (fun _ => ?_)
      | refine And.intro (fun _ => ?_) (fun h => absurd (by decide) h)
      | refine And.intro (fun _ => ?_) (fun _ => ?_)
      | refine And.intro ?_ ?_
    all_goals (first | decide | omega | (unfold am_T; rw [if_pos rfl]; done) | (unfold am_T; rw [if_pos rfl]; simp only [am_ts, am_tt, ei, ci, eP, eF, eK, eW, c1, c2, c10, c20, c50, cy, cs, cw, a1, a2, a3, a4, a6, cY, cT, c00, z20, m0] at * <;> first | omega | ((repeat' split) <;> first | omega | (simp only [am_c] at * <;> omega))) | (simp only [ei, ci, eP, eF, eK, eW, c1, c2, c10, c20, c50, cy, cs, cw, a1, a2, a3, a4, a6, cY, cT, c00, z20, m0] at * <;> first | omega | (simp only [am_c] at * <;> omega)) | (trace_state; fail))
  have lp57 : ∀ (Y t u : Int), Y = am_y y → t = am_t0 P (am_y y) → u = am_t0 P (am_y y) + am_tt F (am_y y) → am_AW l 0 (fun _ => 0) 162 Q 57 [some (.inr (.inr 83)), some (.inl i), some (.inl y), some (.inl s), some (.inl Y), some (.inl t), some (.inl u), none] [] ν := by
    intro Y t u  hv0 hv1 hv2
    subst hv0
    subst hv1
    subst hv2
    refine am_go (ct := fun pc => Nat.beq pc 81 || Nat.beq pc 57 || Nat.beq pc 23 || Nat.beq pc 6) am_oX7_timeOver 300 ?_
    conv => whnf
    repeat' first
      | (refine (?_ : am_wp _ _ _ _ _ _ _ _ _ _ _ _); conv => whnf)
      | (refine (?_ : am_sw _ _ _ _); conv => whnf)
      | refine And.intro trivial ?_
      | exact trivial
      | refine x_atLeastOne _ ?_ ?_ ?_
      | refine lp81 _ _ _ _  ?_ ?_ ?_ ?_
      | refine And.intro (fun h => absurd h (by decide)) (fun _ => ?_)
      | refine And.intro (fun _ => ?_) (fun h => absurd (by decide) h)
      | refine And.intro (fun _ => ?_) (fun _ => ?_)
      | refine And.intro ?_ ?_
    all_goals (first | assumption | rfl | decide | omega | (unfold am_ts; simp only [ei, ci, eP, eF, eK, eW, c1, c2, c10, c20, c50, cy, cs, cw, a1, a2, a3, a4, a6, cY, cT, c00, z20, m0] at * <;> first | omega | (rw [if_pos (by omega)]) | (rw [if_neg (by omega)]) | ((repeat' split) <;> first | omega | (simp only [am_c] at * <;> omega))) | (simp only [ei, ci, eP, eF, eK, eW, c1, c2, c10, c20, c50, cy, cs, cw, a1, a2, a3, a4, a6, cY, cT, c00, z20, m0] at * <;> first | omega | (simp only [am_c] at * <;> omega)) | (trace_state; fail))
  have lp23 : ∀ (Y t : Int), Y = am_y y → t = am_t0 P (am_y y) → am_AW l 0 (fun _ => 0) 162 Q 23 [some (.inr (.inr 83)), some (.inl i), some (.inl y), some (.inl s), some (.inl Y), some (.inl t), none, none] [] ν := by
    intro Y t  hv0 hv1
    subst hv0
    subst hv1
    refine am_go (ct := fun pc => Nat.beq pc 81 || Nat.beq pc 57 || Nat.beq pc 23 || Nat.beq pc 6) am_oX7_timeOver 300 ?_
    conv => whnf
    repeat' first
      | (refine (?_ : am_wp _ _ _ _ _ _ _ _ _ _ _ _); conv => whnf)
      | (refine (?_ : am_sw _ _ _ _); conv => whnf)
      | refine And.intro trivial ?_
      | exact trivial
      | refine x_atLeastOne _ ?_ ?_ ?_
      | refine x_atLeastOne _ ?_ ?_ ?_
      | refine lp57 _ _ _  ?_ ?_ ?_
      | refine lp81 _ _ _ _  ?_ ?_ ?_ ?_
      | refine And.intro (fun h => absurd h (by decide)) (fun _ => ?_)
      | refine And.intro (fun _ => ?_) (fun h => absurd (by decide) h)
      | refine And.intro (fun _ => ?_) (fun _ => ?_)
      | refine And.intro ?_ ?_
    all_goals (first | assumption | rfl | decide | omega | (unfold am_tt; simp only [ei, ci, eP, eF, eK, eW, c1, c2, c10, c20, c50, cy, cs, cw, a1, a2, a3, a4, a6, cY, cT, c00, z20, m0] at * <;> first | omega | (rw [if_pos (by omega)]) | (rw [if_neg (by omega)]) | ((repeat' split) <;> first | omega | (simp only [am_c] at * <;> omega))) | (simp only [ei, ci, eP, eF, eK, eW, c1, c2, c10, c20, c50, cy, cs, cw, a1, a2, a3, a4, a6, cY, cT, c00, z20, m0] at * <;> first | omega | (simp only [am_c] at * <;> omega)) | (trace_state; fail))
  have lp6 : ∀ (Y : Int), Y = am_y y → am_AW l 0 (fun _ => 0) 162 Q 6 [some (.inr (.inr 83)), some (.inl i), some (.inl y), some (.inl s), some (.inl Y), none, none, none] [] ν := by
    intro Y  hv0
    subst hv0
    refine am_go (ct := fun pc => Nat.beq pc 81 || Nat.beq pc 57 || Nat.beq pc 23 || Nat.beq pc 6) am_oX7_timeOver 300 ?_
    conv => whnf
    repeat' first
      | (refine (?_ : am_wp _ _ _ _ _ _ _ _ _ _ _ _); conv => whnf)
      | (refine (?_ : am_sw _ _ _ _); conv => whnf)
      | refine And.intro trivial ?_
      | exact trivial
      | refine x_atLeastOne _ ?_ ?_ ?_
      | refine x_atLeastOne _ ?_ ?_ ?_
      | refine lp23 _ _  ?_ ?_
      | refine lp57 _ _ _  ?_ ?_ ?_
      | refine lp81 _ _ _ _  ?_ ?_ ?_ ?_
      | refine And.intro (fun h => absurd h (by decide)) (fun _ => ?_)
      | refine And.intro (fun _ => ?_) (fun h => absurd (by decide) h)
      | refine And.intro (fun _ => ?_) (fun _ => ?_)
      | refine And.intro ?_ ?_
    all_goals (first | assumption | rfl | decide | omega | (unfold am_t0; simp only [ei, ci, eP, eF, eK, eW, c1, c2, c10, c20, c50, cy, cs, cw, a1, a2, a3, a4, a6, cY, cT, c00, z20, m0] at * <;> first | omega | (rw [if_pos (by omega)]) | (rw [if_neg (by omega)]) | ((repeat' split) <;> first | omega | (simp only [am_c] at * <;> omega))) | (simp only [ei, ci, eP, eF, eK, eW, c1, c2, c10, c20, c50, cy, cs, cw, a1, a2, a3, a4, a6, cY, cT, c00, z20, m0] at * <;> first | omega | (simp only [am_c] at * <;> omega)) | (trace_state; fail))
  refine am_go (ct := fun pc => Nat.beq pc 81 || Nat.beq pc 57 || Nat.beq pc 23 || Nat.beq pc 6) am_oX7_timeOver 300 ?_
  conv => whnf
  repeat' first
    | (refine (?_ : am_wp _ _ _ _ _ _ _ _ _ _ _ _); conv => whnf)
    | (refine (?_ : am_sw _ _ _ _); conv => whnf)
    | refine And.intro trivial ?_
    | exact trivial
    | refine x_atLeastOne _ ?_ ?_ ?_
    | refine lp6 _  ?_
    | refine lp23 _ _  ?_ ?_
    | refine lp57 _ _ _  ?_ ?_ ?_
    | refine lp81 _ _ _ _  ?_ ?_ ?_ ?_
    | refine And.intro (fun h => absurd h (by decide)) (fun _ => ?_)
    | refine And.intro (fun _ => ?_) (fun h => absurd (by decide) h)
    | refine And.intro (fun _ => ?_) (fun _ => ?_)
    | refine And.intro ?_ ?_
  all_goals (first | assumption | rfl | decide | omega | (unfold am_y; simp only [ei, ci, eP, eF, eK, eW, c1, c2, c10, c20, c50, cy, cs, cw, a1, a2, a3, a4, a6, cY, cT, c00, z20, m0] at * <;> first | omega | (rw [if_pos (by omega)]) | (rw [if_neg (by omega)]) | ((repeat' split) <;> first | omega | (simp only [am_c] at * <;> omega))) | (simp only [ei, ci, eP, eF, eK, eW, c1, c2, c10, c20, c50, cy, cs, cw, a1, a2, a3, a4, a6, cY, cT, c00, z20, m0] at * <;> first | omega | (simp only [am_c] at * <;> omega)) | (trace_state; fail))
theorem x_timeOver_2 {l : Launch} {ν : am_N} {Q : Option am_V → am_N → Prop} (i y s P F W : Int) (hi0 : 0 ≤ i) (hi1 : i < ν 83 14) (hn : ν 83 14 ≤ 4) (eP : ν 87 i.toNat = P) (eF : ν 86 i.toNat = F) (eK : ν 85 i.toNat = 2) (eW : ν 83 11 = W) (p0 : 5 ≤ P) (p1 : P ≤ 40) (f0 : 0 ≤ F) (f1 : F ≤ 9) (w0 : 0 ≤ W) (w1 : W ≤ 2000) (y0 : -1000 ≤ y) (y1 : y ≤ 1000) (s0 : -1000 ≤ s) (s1 : s ≤ 1000) (k : Q (some (.inl (am_T P F 2 W (am_y y) s))) ν) : am_Does l 162 [.inr (.inr 83), .inl i, .inl y, .inl s] ν Q := by
  refine am_Does_of (Nat.le_of_ble_eq_true rfl) (Nat.le_of_ble_eq_true rfl) (Nat.le_of_ble_eq_true rfl) ?_
  have ci : am_c i = i := am_cR (by omega) (by omega)
  have ei : (am_c i).toNat = i.toNat := by rw [ci]
  have c1 : am_c 1 = 1 := rfl
  have c2 : am_c 2 = 2 := rfl
  have c10 : am_c 10 = 10 := rfl
  have c20 : am_c 20 = 20 := rfl
  have c50 : am_c 50 = 50 := rfl
  have cy : am_c y = y := am_cR (by omega) (by omega)
  have cs : am_c s = s := am_cR (by omega) (by omega)
  have cw : am_c W = W := am_cR (by omega) (by omega)
  have hy2 : 1 ≤ am_y y ∧ am_y y ≤ 1000 := by unfold am_y; split <;> omega
  have m1 := am_mulb (a := P) (b := am_y y) (A := 40) (B := 1000) (by omega) (by omega) (by omega) (by omega)
  have m2 := am_mulb (a := W) (b := F) (A := 2000) (B := 9) (by omega) (by omega) (by omega) (by omega)
  have m3 := fun q : 50 < am_y y => am_mulb (a := F) (b := am_y y - 50) (A := 9) (B := 950) (by omega) (by omega) (by omega) (by omega)
  have d1 := am_tdb (a := P * am_y y) (n := 10) (by omega) (by omega)
  have d2 := am_tdb (a := W * F) (n := 10) (by omega) (by omega)
  have d3 := fun q : 50 < am_y y => am_tdb (a := F * (am_y y - 50)) (n := 20) (m3 q).1 (by omega)
  have a1 : am_c (P * am_y y) = P * am_y y := am_cR (by omega) (by omega)
  have a2 : am_c (W * F) = W * F := am_cR (by omega) (by omega)
  have m4 := am_mulb (a := F) (b := am_y y) (A := 9) (B := 1000) (by omega) (by omega) (by omega) (by omega)
  have m5 : F * (am_y y - 50) = F * am_y y - F * 50 := Int.mul_sub _ _ _
  have a3 : am_c (F * (am_y y - 50)) = F * (am_y y - 50) := am_cR (by omega) (by omega)
  have a4 : am_c ((P * am_y y).tdiv 10) = (P * am_y y).tdiv 10 := am_cR (by omega) (by omega)
  have w2 : W.tmod 2 = W % 2 := Int.tmod_eq_emod_of_nonneg w0
  have a6 : am_c (W.tmod 2) = W.tmod 2 := am_cR (by omega) (by omega)
  have cY : am_c (am_y y) = am_y y := am_cR (by omega) (by omega)
  have c00 : am_c 0 = 0 := rfl
  have z20 : (0 : Int).tdiv 20 = 0 := rfl
  have m0 : F * 0 = 0 := Int.mul_zero F
  have t0 : 1 ≤ am_t0 P (am_y y) ∧ am_t0 P (am_y y) ≤ 40000 := by unfold am_t0; split <;> omega
  have cT : am_c (am_t0 P (am_y y)) = am_t0 P (am_y y) := am_cR (by omega) (by omega)
  have t1 : 0 ≤ am_tt F (am_y y) ∧ am_tt F (am_y y) ≤ 8550 := by
    unfold am_tt
    split
    · next q => have h1 := d3 q; have h2 := m3 q; omega
    · omega
  have t2 : 0 ≤ am_ts F W ∧ am_ts F W ≤ 9 := by unfold am_ts; split <;> omega
  have lp81 : ∀ (Y t u v : Int), Y = am_y y → t = am_t0 P (am_y y) → u = am_t0 P (am_y y) + am_tt F (am_y y) → v = am_t0 P (am_y y) + am_ts F W → am_AW l 0 (fun _ => 0) 162 Q 81 [some (.inr (.inr 83)), some (.inl i), some (.inl y), some (.inl s), some (.inl Y), some (.inl t), some (.inl u), some (.inl v)] [] ν := by
    intro Y t u v  hv0 hv1 hv2 hv3
    subst hv0
    subst hv1
    subst hv2
    subst hv3
    refine am_go (ct := fun pc => Nat.beq pc 81 || Nat.beq pc 57 || Nat.beq pc 23 || Nat.beq pc 6) am_oX7_timeOver 300 ?_
    conv => whnf
    repeat' first
      | (refine (?_ : am_wp _ _ _ _ _ _ _ _ _ _ _ _); conv => whnf)
      | (refine (?_ : am_sw _ _ _ _); conv => whnf)
      | refine And.intro trivial ?_
      | exact trivial
      | (first | (refine And.intro (fun h => absurd h (by rw [ei, eK]; decide)) (fun _ => ?_)) | (refine And.intro (fun _ => ?_) (fun h => absurd h (by rw [ei, eK]; decide))))
      | refine x_atLeastOne _ ?_ ?_ ?_
      | refine am_qe k ?_
      | refine x_atLeastOne _ ?_ ?_ ?_
      | refine And.intro (fun h => absurd h (by decide)) (fun _ => ?_)
      | refine And.intro (fun _ => ?_) (fun h => absurd (by decide) h)
      | refine And.intro (fun _ => ?_) (fun _ => ?_)
      | refine And.intro ?_ ?_
    all_goals (first | decide | omega | (unfold am_T; rw [if_neg (by decide), if_pos rfl]; done) | (unfold am_T; rw [if_neg (by decide), if_pos rfl]; simp only [am_ts, am_tt, ei, ci, eP, eF, eK, eW, c1, c2, c10, c20, c50, cy, cs, cw, a1, a2, a3, a4, a6, cY, cT, c00, z20, m0] at * <;> first | omega | ((repeat' split) <;> first | omega | (simp only [am_c] at * <;> omega))) | (simp only [ei, ci, eP, eF, eK, eW, c1, c2, c10, c20, c50, cy, cs, cw, a1, a2, a3, a4, a6, cY, cT, c00, z20, m0] at * <;> first | omega | (simp only [am_c] at * <;> omega)) | (trace_state; fail))
  have lp57 : ∀ (Y t u : Int), Y = am_y y → t = am_t0 P (am_y y) → u = am_t0 P (am_y y) + am_tt F (am_y y) → am_AW l 0 (fun _ => 0) 162 Q 57 [some (.inr (.inr 83)), some (.inl i), some (.inl y), some (.inl s), some (.inl Y), some (.inl t), some (.inl u), none] [] ν := by
    intro Y t u  hv0 hv1 hv2
    subst hv0
    subst hv1
    subst hv2
    refine am_go (ct := fun pc => Nat.beq pc 81 || Nat.beq pc 57 || Nat.beq pc 23 || Nat.beq pc 6) am_oX7_timeOver 300 ?_
    conv => whnf
    repeat' first
      | (refine (?_ : am_wp _ _ _ _ _ _ _ _ _ _ _ _); conv => whnf)
      | (refine (?_ : am_sw _ _ _ _); conv => whnf)
      | refine And.intro trivial ?_
      | exact trivial
      | refine x_atLeastOne _ ?_ ?_ ?_
      | refine lp81 _ _ _ _  ?_ ?_ ?_ ?_
      | refine And.intro (fun h => absurd h (by decide)) (fun _ => ?_)
      | refine And.intro (fun _ => ?_) (fun h => absurd (by decide) h)
      | refine And.intro (fun _ => ?_) (fun _ => ?_)
      | refine And.intro ?_ ?_
    all_goals (first | assumption | rfl | decide | omega | (unfold am_ts; simp only [ei, ci, eP, eF, eK, eW, c1, c2, c10, c20, c50, cy, cs, cw, a1, a2, a3, a4, a6, cY, cT, c00, z20, m0] at * <;> first | omega | (rw [if_pos (by omega)]) | (rw [if_neg (by omega)]) | ((repeat' split) <;> first | omega | (simp only [am_c] at * <;> omega))) | (simp only [ei, ci, eP, eF, eK, eW, c1, c2, c10, c20, c50, cy, cs, cw, a1, a2, a3, a4, a6, cY, cT, c00, z20, m0] at * <;> first | omega | (simp only [am_c] at * <;> omega)) | (trace_state; fail))
  have lp23 : ∀ (Y t : Int), Y = am_y y → t = am_t0 P (am_y y) → am_AW l 0 (fun _ => 0) 162 Q 23 [some (.inr (.inr 83)), some (.inl i), some (.inl y), some (.inl s), some (.inl Y), some (.inl t), none, none] [] ν := by
    intro Y t  hv0 hv1
    subst hv0
    subst hv1
    refine am_go (ct := fun pc => Nat.beq pc 81 || Nat.beq pc 57 || Nat.beq pc 23 || Nat.beq pc 6) am_oX7_timeOver 300 ?_
    conv => whnf
    repeat' first
      | (refine (?_ : am_wp _ _ _ _ _ _ _ _ _ _ _ _); conv => whnf)
      | (refine (?_ : am_sw _ _ _ _); conv => whnf)
      | refine And.intro trivial ?_
      | exact trivial
      | refine x_atLeastOne _ ?_ ?_ ?_
      | refine x_atLeastOne _ ?_ ?_ ?_
      | refine lp57 _ _ _  ?_ ?_ ?_
      | refine lp81 _ _ _ _  ?_ ?_ ?_ ?_
      | refine And.intro (fun h => absurd h (by decide)) (fun _ => ?_)
      | refine And.intro (fun _ => ?_) (fun h => absurd (by decide) h)
      | refine And.intro (fun _ => ?_) (fun _ => ?_)
      | refine And.intro ?_ ?_
    all_goals (first | assumption | rfl | decide | omega | (unfold am_tt; simp only [ei, ci, eP, eF, eK, eW, c1, c2, c10, c20, c50, cy, cs, cw, a1, a2, a3, a4, a6, cY, cT, c00, z20, m0] at * <;> first | omega | (rw [if_pos (by omega)]) | (rw [if_neg (by omega)]) | ((repeat' split) <;> first | omega | (simp only [am_c] at * <;> omega))) | (simp only [ei, ci, eP, eF, eK, eW, c1, c2, c10, c20, c50, cy, cs, cw, a1, a2, a3, a4, a6, cY, cT, c00, z20, m0] at * <;> first | omega | (simp only [am_c] at * <;> omega)) | (trace_state; fail))
  have lp6 : ∀ (Y : Int), Y = am_y y → am_AW l 0 (fun _ => 0) 162 Q 6 [some (.inr (.inr 83)), some (.inl i), some (.inl y), some (.inl s), some (.inl Y), none, none, none] [] ν := by
    intro Y  hv0
    subst hv0
    refine am_go (ct := fun pc => Nat.beq pc 81 || Nat.beq pc 57 || Nat.beq pc 23 || Nat.beq pc 6) am_oX7_timeOver 300 ?_
    conv => whnf
    repeat' first
      | (refine (?_ : am_wp _ _ _ _ _ _ _ _ _ _ _ _); conv => whnf)
      | (refine (?_ : am_sw _ _ _ _); conv => whnf)
      | refine And.intro trivial ?_
      | exact trivial
      | refine x_atLeastOne _ ?_ ?_ ?_
      | refine x_atLeastOne _ ?_ ?_ ?_
      | refine lp23 _ _  ?_ ?_
      | refine lp57 _ _ _  ?_ ?_ ?_
      | refine lp81 _ _ _ _  ?_ ?_ ?_ ?_
      | refine And.intro (fun h => absurd h (by decide)) (fun _ => ?_)
      | refine And.intro (fun _ => ?_) (fun h => absurd (by decide) h)
      | refine And.intro (fun _ => ?_) (fun _ => ?_)
      | refine And.intro ?_ ?_
    all_goals (first | assumption | rfl | decide | omega | (unfold am_t0; simp only [ei, ci, eP, eF, eK, eW, c1, c2, c10, c20, c50, cy, cs, cw, a1, a2, a3, a4, a6, cY, cT, c00, z20, m0] at * <;> first | omega | (rw [if_pos (by omega)]) | (rw [if_neg (by omega)]) | ((repeat' split) <;> first | omega | (simp only [am_c] at * <;> omega))) | (simp only [ei, ci, eP, eF, eK, eW, c1, c2, c10, c20, c50, cy, cs, cw, a1, a2, a3, a4, a6, cY, cT, c00, z20, m0] at * <;> first | omega | (simp only [am_c] at * <;> omega)) | (trace_state; fail))
  refine am_go (ct := fun pc => Nat.beq pc 81 || Nat.beq pc 57 || Nat.beq pc 23 || Nat.beq pc 6) am_oX7_timeOver 300 ?_
  conv => whnf
  repeat' first
    | (refine (?_ : am_wp _ _ _ _ _ _ _ _ _ _ _ _); conv => whnf)
    | (refine (?_ : am_sw _ _ _ _); conv => whnf)
    | refine And.intro trivial ?_
    | exact trivial
    | refine x_atLeastOne _ ?_ ?_ ?_
    | refine lp6 _  ?_
    | refine lp23 _ _  ?_ ?_
    | refine lp57 _ _ _  ?_ ?_ ?_
    | refine lp81 _ _ _ _  ?_ ?_ ?_ ?_
    | refine And.intro (fun h => absurd h (by decide)) (fun _ => ?_)
    | refine And.intro (fun _ => ?_) (fun h => absurd (by decide) h)
    | refine And.intro (fun _ => ?_) (fun _ => ?_)
    | refine And.intro ?_ ?_
  all_goals (first | assumption | rfl | decide | omega | (unfold am_y; simp only [ei, ci, eP, eF, eK, eW, c1, c2, c10, c20, c50, cy, cs, cw, a1, a2, a3, a4, a6, cY, cT, c00, z20, m0] at * <;> first | omega | (rw [if_pos (by omega)]) | (rw [if_neg (by omega)]) | ((repeat' split) <;> first | omega | (simp only [am_c] at * <;> omega))) | (simp only [ei, ci, eP, eF, eK, eW, c1, c2, c10, c20, c50, cy, cs, cw, a1, a2, a3, a4, a6, cY, cT, c00, z20, m0] at * <;> first | omega | (simp only [am_c] at * <;> omega)) | (trace_state; fail))
theorem x_timeOver_3 {l : Launch} {ν : am_N} {Q : Option am_V → am_N → Prop} (i y s P F W : Int) (hi0 : 0 ≤ i) (hi1 : i < ν 83 14) (hn : ν 83 14 ≤ 4) (eP : ν 87 i.toNat = P) (eF : ν 86 i.toNat = F) (eK : ν 85 i.toNat = 3) (eW : ν 83 11 = W) (p0 : 5 ≤ P) (p1 : P ≤ 40) (f0 : 0 ≤ F) (f1 : F ≤ 9) (w0 : 0 ≤ W) (w1 : W ≤ 2000) (y0 : -1000 ≤ y) (y1 : y ≤ 1000) (s0 : -1000 ≤ s) (s1 : s ≤ 1000) (k : Q (some (.inl (am_T P F 3 W (am_y y) s))) ν) : am_Does l 162 [.inr (.inr 83), .inl i, .inl y, .inl s] ν Q := by
  refine am_Does_of (Nat.le_of_ble_eq_true rfl) (Nat.le_of_ble_eq_true rfl) (Nat.le_of_ble_eq_true rfl) ?_
  have ci : am_c i = i := am_cR (by omega) (by omega)
  have ei : (am_c i).toNat = i.toNat := by rw [ci]
  have c1 : am_c 1 = 1 := rfl
  have c2 : am_c 2 = 2 := rfl
  have c10 : am_c 10 = 10 := rfl
  have c20 : am_c 20 = 20 := rfl
  have c50 : am_c 50 = 50 := rfl
  have cy : am_c y = y := am_cR (by omega) (by omega)
  have cs : am_c s = s := am_cR (by omega) (by omega)
  have cw : am_c W = W := am_cR (by omega) (by omega)
  have hy2 : 1 ≤ am_y y ∧ am_y y ≤ 1000 := by unfold am_y; split <;> omega
  have m1 := am_mulb (a := P) (b := am_y y) (A := 40) (B := 1000) (by omega) (by omega) (by omega) (by omega)
  have m2 := am_mulb (a := W) (b := F) (A := 2000) (B := 9) (by omega) (by omega) (by omega) (by omega)
  have m3 := fun q : 50 < am_y y => am_mulb (a := F) (b := am_y y - 50) (A := 9) (B := 950) (by omega) (by omega) (by omega) (by omega)
  have d1 := am_tdb (a := P * am_y y) (n := 10) (by omega) (by omega)
  have d2 := am_tdb (a := W * F) (n := 10) (by omega) (by omega)
  have d3 := fun q : 50 < am_y y => am_tdb (a := F * (am_y y - 50)) (n := 20) (m3 q).1 (by omega)
  have a1 : am_c (P * am_y y) = P * am_y y := am_cR (by omega) (by omega)
  have a2 : am_c (W * F) = W * F := am_cR (by omega) (by omega)
  have m4 := am_mulb (a := F) (b := am_y y) (A := 9) (B := 1000) (by omega) (by omega) (by omega) (by omega)
  have m5 : F * (am_y y - 50) = F * am_y y - F * 50 := Int.mul_sub _ _ _
  have a3 : am_c (F * (am_y y - 50)) = F * (am_y y - 50) := am_cR (by omega) (by omega)
  have a4 : am_c ((P * am_y y).tdiv 10) = (P * am_y y).tdiv 10 := am_cR (by omega) (by omega)
  have w2 : W.tmod 2 = W % 2 := Int.tmod_eq_emod_of_nonneg w0
  have a6 : am_c (W.tmod 2) = W.tmod 2 := am_cR (by omega) (by omega)
  have cY : am_c (am_y y) = am_y y := am_cR (by omega) (by omega)
  have c00 : am_c 0 = 0 := rfl
  have z20 : (0 : Int).tdiv 20 = 0 := rfl
  have m0 : F * 0 = 0 := Int.mul_zero F
  have t0 : 1 ≤ am_t0 P (am_y y) ∧ am_t0 P (am_y y) ≤ 40000 := by unfold am_t0; split <;> omega
  have cT : am_c (am_t0 P (am_y y)) = am_t0 P (am_y y) := am_cR (by omega) (by omega)
  have t1 : 0 ≤ am_tt F (am_y y) ∧ am_tt F (am_y y) ≤ 8550 := by
    unfold am_tt
    split
    · next q => have h1 := d3 q; have h2 := m3 q; omega
    · omega
  have t2 : 0 ≤ am_ts F W ∧ am_ts F W ≤ 9 := by unfold am_ts; split <;> omega
  have lp81 : ∀ (Y t u v : Int), Y = am_y y → t = am_t0 P (am_y y) → u = am_t0 P (am_y y) + am_tt F (am_y y) → v = am_t0 P (am_y y) + am_ts F W → am_AW l 0 (fun _ => 0) 162 Q 81 [some (.inr (.inr 83)), some (.inl i), some (.inl y), some (.inl s), some (.inl Y), some (.inl t), some (.inl u), some (.inl v)] [] ν := by
    intro Y t u v  hv0 hv1 hv2 hv3
    subst hv0
    subst hv1
    subst hv2
    subst hv3
    refine am_go (ct := fun pc => Nat.beq pc 81 || Nat.beq pc 57 || Nat.beq pc 23 || Nat.beq pc 6) am_oX7_timeOver 300 ?_
    conv => whnf
    repeat' first
      | (refine (?_ : am_wp _ _ _ _ _ _ _ _ _ _ _ _); conv => whnf)
      | (refine (?_ : am_sw _ _ _ _); conv => whnf)
      | refine And.intro trivial ?_
      | exact trivial
      | (first | (refine And.intro (fun h => absurd h (by rw [ei, eK]; decide)) (fun _ => ?_)) | (refine And.intro (fun _ => ?_) (fun h => absurd h (by rw [ei, eK]; decide))))
      | refine x_atLeastOne _ ?_ ?_ ?_
      | refine am_qe k ?_
      | refine x_atLeastOne _ ?_ ?_ ?_
      | refine And.intro (fun h => absurd h (by decide)) (fun _ => ?_)
      | refine And.intro (fun _ => ?_) (fun h => absurd (by decide) h)
      | refine And.intro (fun _ => ?_) (fun _ => ?_)
      | refine And.intro ?_ ?_
    all_goals (first | decide | omega | (unfold am_T; rw [if_neg (by decide), if_neg (by decide), if_pos rfl]; done) | (unfold am_T; rw [if_neg (by decide), if_neg (by decide), if_pos rfl]; simp only [am_ts, am_tt, ei, ci, eP, eF, eK, eW, c1, c2, c10, c20, c50, cy, cs, cw, a1, a2, a3, a4, a6, cY, cT, c00, z20, m0] at * <;> first | omega | ((repeat' split) <;> first | omega | (simp only [am_c] at * <;> omega))) | (simp only [ei, ci, eP, eF, eK, eW, c1, c2, c10, c20, c50, cy, cs, cw, a1, a2, a3, a4, a6, cY, cT, c00, z20, m0] at * <;> first | omega | (simp only [am_c] at * <;> omega)) | (trace_state; fail))
  have lp57 : ∀ (Y t u : Int), Y = am_y y → t = am_t0 P (am_y y) → u = am_t0 P (am_y y) + am_tt F (am_y y) → am_AW l 0 (fun _ => 0) 162 Q 57 [some (.inr (.inr 83)), some (.inl i), some (.inl y), some (.inl s), some (.inl Y), some (.inl t), some (.inl u), none] [] ν := by
    intro Y t u  hv0 hv1 hv2
    subst hv0
    subst hv1
    subst hv2
    refine am_go (ct := fun pc => Nat.beq pc 81 || Nat.beq pc 57 || Nat.beq pc 23 || Nat.beq pc 6) am_oX7_timeOver 300 ?_
    conv => whnf
    repeat' first
      | (refine (?_ : am_wp _ _ _ _ _ _ _ _ _ _ _ _); conv => whnf)
      | (refine (?_ : am_sw _ _ _ _); conv => whnf)
      | refine And.intro trivial ?_
      | exact trivial
      | refine x_atLeastOne _ ?_ ?_ ?_
      | refine lp81 _ _ _ _  ?_ ?_ ?_ ?_
      | refine And.intro (fun h => absurd h (by decide)) (fun _ => ?_)
      | refine And.intro (fun _ => ?_) (fun h => absurd (by decide) h)
      | refine And.intro (fun _ => ?_) (fun _ => ?_)
      | refine And.intro ?_ ?_
    all_goals (first | assumption | rfl | decide | omega | (unfold am_ts; simp only [ei, ci, eP, eF, eK, eW, c1, c2, c10, c20, c50, cy, cs, cw, a1, a2, a3, a4, a6, cY, cT, c00, z20, m0] at * <;> first | omega | (rw [if_pos (by omega)]) | (rw [if_neg (by omega)]) | ((repeat' split) <;> first | omega | (simp only [am_c] at * <;> omega))) | (simp only [ei, ci, eP, eF, eK, eW, c1, c2, c10, c20, c50, cy, cs, cw, a1, a2, a3, a4, a6, cY, cT, c00, z20, m0] at * <;> first | omega | (simp only [am_c] at * <;> omega)) | (trace_state; fail))
  have lp23 : ∀ (Y t : Int), Y = am_y y → t = am_t0 P (am_y y) → am_AW l 0 (fun _ => 0) 162 Q 23 [some (.inr (.inr 83)), some (.inl i), some (.inl y), some (.inl s), some (.inl Y), some (.inl t), none, none] [] ν := by
    intro Y t  hv0 hv1
    subst hv0
    subst hv1
    refine am_go (ct := fun pc => Nat.beq pc 81 || Nat.beq pc 57 || Nat.beq pc 23 || Nat.beq pc 6) am_oX7_timeOver 300 ?_
    conv => whnf
    repeat' first
      | (refine (?_ : am_wp _ _ _ _ _ _ _ _ _ _ _ _); conv => whnf)
      | (refine (?_ : am_sw _ _ _ _); conv => whnf)
      | refine And.intro trivial ?_
      | exact trivial
      | refine x_atLeastOne _ ?_ ?_ ?_
      | refine x_atLeastOne _ ?_ ?_ ?_
      | refine lp57 _ _ _  ?_ ?_ ?_
      | refine lp81 _ _ _ _  ?_ ?_ ?_ ?_
      | refine And.intro (fun h => absurd h (by decide)) (fun _ => ?_)
      | refine And.intro (fun _ => ?_) (fun h => absurd (by decide) h)
      | refine And.intro (fun _ => ?_) (fun _ => ?_)
      | refine And.intro ?_ ?_
    all_goals (first | assumption | rfl | decide | omega | (unfold am_tt; simp only [ei, ci, eP, eF, eK, eW, c1, c2, c10, c20, c50, cy, cs, cw, a1, a2, a3, a4, a6, cY, cT, c00, z20, m0] at * <;> first | omega | (rw [if_pos (by omega)]) | (rw [if_neg (by omega)]) | ((repeat' split) <;> first | omega | (simp only [am_c] at * <;> omega))) | (simp only [ei, ci, eP, eF, eK, eW, c1, c2, c10, c20, c50, cy, cs, cw, a1, a2, a3, a4, a6, cY, cT, c00, z20, m0] at * <;> first | omega | (simp only [am_c] at * <;> omega)) | (trace_state; fail))
  have lp6 : ∀ (Y : Int), Y = am_y y → am_AW l 0 (fun _ => 0) 162 Q 6 [some (.inr (.inr 83)), some (.inl i), some (.inl y), some (.inl s), some (.inl Y), none, none, none] [] ν := by
    intro Y  hv0
    subst hv0
    refine am_go (ct := fun pc => Nat.beq pc 81 || Nat.beq pc 57 || Nat.beq pc 23 || Nat.beq pc 6) am_oX7_timeOver 300 ?_
    conv => whnf
    repeat' first
      | (refine (?_ : am_wp _ _ _ _ _ _ _ _ _ _ _ _); conv => whnf)
      | (refine (?_ : am_sw _ _ _ _); conv => whnf)
      | refine And.intro trivial ?_
      | exact trivial
      | refine x_atLeastOne _ ?_ ?_ ?_
      | refine x_atLeastOne _ ?_ ?_ ?_
      | refine lp23 _ _  ?_ ?_
      | refine lp57 _ _ _  ?_ ?_ ?_
      | refine lp81 _ _ _ _  ?_ ?_ ?_ ?_
      | refine And.intro (fun h => absurd h (by decide)) (fun _ => ?_)
      | refine And.intro (fun _ => ?_) (fun h => absurd (by decide) h)
      | refine And.intro (fun _ => ?_) (fun _ => ?_)
      | refine And.intro ?_ ?_
    all_goals (first | assumption | rfl | decide | omega | (unfold am_t0; simp only [ei, ci, eP, eF, eK, eW, c1, c2, c10, c20, c50, cy, cs, cw, a1, a2, a3, a4, a6, cY, cT, c00, z20, m0] at * <;> first | omega | (rw [if_pos (by omega)]) | (rw [if_neg (by omega)]) | ((repeat' split) <;> first | omega | (simp only [am_c] at * <;> omega))) | (simp only [ei, ci, eP, eF, eK, eW, c1, c2, c10, c20, c50, cy, cs, cw, a1, a2, a3, a4, a6, cY, cT, c00, z20, m0] at * <;> first | omega | (simp only [am_c] at * <;> omega)) | (trace_state; fail))
  refine am_go (ct := fun pc => Nat.beq pc 81 || Nat.beq pc 57 || Nat.beq pc 23 || Nat.beq pc 6) am_oX7_timeOver 300 ?_
  conv => whnf
  repeat' first
    | (refine (?_ : am_wp _ _ _ _ _ _ _ _ _ _ _ _); conv => whnf)
    | (refine (?_ : am_sw _ _ _ _); conv => whnf)
    | refine And.intro trivial ?_
    | exact trivial
    | refine x_atLeastOne _ ?_ ?_ ?_
    | refine lp6 _  ?_
    | refine lp23 _ _  ?_ ?_
    | refine lp57 _ _ _  ?_ ?_ ?_
    | refine lp81 _ _ _ _  ?_ ?_ ?_ ?_
    | refine And.intro (fun h => absurd h (by decide)) (fun _ => ?_)
    | refine And.intro (fun _ => ?_) (fun h => absurd (by decide) h)
    | refine And.intro (fun _ => ?_) (fun _ => ?_)
    | refine And.intro ?_ ?_
  all_goals (first | assumption | rfl | decide | omega | (unfold am_y; simp only [ei, ci, eP, eF, eK, eW, c1, c2, c10, c20, c50, cy, cs, cw, a1, a2, a3, a4, a6, cY, cT, c00, z20, m0] at * <;> first | omega | (rw [if_pos (by omega)]) | (rw [if_neg (by omega)]) | ((repeat' split) <;> first | omega | (simp only [am_c] at * <;> omega))) | (simp only [ei, ci, eP, eF, eK, eW, c1, c2, c10, c20, c50, cy, cs, cw, a1, a2, a3, a4, a6, cY, cT, c00, z20, m0] at * <;> first | omega | (simp only [am_c] at * <;> omega)) | (trace_state; fail))
theorem x_timeOver_4 {l : Launch} {ν : am_N} {Q : Option am_V → am_N → Prop} (i y s P F W : Int) (hi0 : 0 ≤ i) (hi1 : i < ν 83 14) (hn : ν 83 14 ≤ 4) (eP : ν 87 i.toNat = P) (eF : ν 86 i.toNat = F) (eK : ν 85 i.toNat = 4) (eW : ν 83 11 = W) (p0 : 5 ≤ P) (p1 : P ≤ 40) (f0 : 0 ≤ F) (f1 : F ≤ 9) (w0 : 0 ≤ W) (w1 : W ≤ 2000) (y0 : -1000 ≤ y) (y1 : y ≤ 1000) (s0 : -1000 ≤ s) (s1 : s ≤ 1000) (k : Q (some (.inl (am_T P F 4 W (am_y y) s))) ν) : am_Does l 162 [.inr (.inr 83), .inl i, .inl y, .inl s] ν Q := by
  refine am_Does_of (Nat.le_of_ble_eq_true rfl) (Nat.le_of_ble_eq_true rfl) (Nat.le_of_ble_eq_true rfl) ?_
  have ci : am_c i = i := am_cR (by omega) (by omega)
  have ei : (am_c i).toNat = i.toNat := by rw [ci]
  have c1 : am_c 1 = 1 := rfl
  have c2 : am_c 2 = 2 := rfl
  have c10 : am_c 10 = 10 := rfl
  have c20 : am_c 20 = 20 := rfl
  have c50 : am_c 50 = 50 := rfl
  have cy : am_c y = y := am_cR (by omega) (by omega)
  have cs : am_c s = s := am_cR (by omega) (by omega)
  have cw : am_c W = W := am_cR (by omega) (by omega)
  have hy2 : 1 ≤ am_y y ∧ am_y y ≤ 1000 := by unfold am_y; split <;> omega
  have m1 := am_mulb (a := P) (b := am_y y) (A := 40) (B := 1000) (by omega) (by omega) (by omega) (by omega)
  have m2 := am_mulb (a := W) (b := F) (A := 2000) (B := 9) (by omega) (by omega) (by omega) (by omega)
  have m3 := fun q : 50 < am_y y => am_mulb (a := F) (b := am_y y - 50) (A := 9) (B := 950) (by omega) (by omega) (by omega) (by omega)
  have d1 := am_tdb (a := P * am_y y) (n := 10) (by omega) (by omega)
  have d2 := am_tdb (a := W * F) (n := 10) (by omega) (by omega)
  have d3 := fun q : 50 < am_y y => am_tdb (a := F * (am_y y - 50)) (n := 20) (m3 q).1 (by omega)
  have a1 : am_c (P * am_y y) = P * am_y y := am_cR (by omega) (by omega)
  have a2 : am_c (W * F) = W * F := am_cR (by omega) (by omega)
  have m4 := am_mulb (a := F) (b := am_y y) (A := 9) (B := 1000) (by omega) (by omega) (by omega) (by omega)
  have m5 : F * (am_y y - 50) = F * am_y y - F * 50 := Int.mul_sub _ _ _
  have a3 : am_c (F * (am_y y - 50)) = F * (am_y y - 50) := am_cR (by omega) (by omega)
  have a4 : am_c ((P * am_y y).tdiv 10) = (P * am_y y).tdiv 10 := am_cR (by omega) (by omega)
  have w2 : W.tmod 2 = W % 2 := Int.tmod_eq_emod_of_nonneg w0
  have a6 : am_c (W.tmod 2) = W.tmod 2 := am_cR (by omega) (by omega)
  have cY : am_c (am_y y) = am_y y := am_cR (by omega) (by omega)
  have c00 : am_c 0 = 0 := rfl
  have z20 : (0 : Int).tdiv 20 = 0 := rfl
  have m0 : F * 0 = 0 := Int.mul_zero F
  have t0 : 1 ≤ am_t0 P (am_y y) ∧ am_t0 P (am_y y) ≤ 40000 := by unfold am_t0; split <;> omega
  have cT : am_c (am_t0 P (am_y y)) = am_t0 P (am_y y) := am_cR (by omega) (by omega)
  have t1 : 0 ≤ am_tt F (am_y y) ∧ am_tt F (am_y y) ≤ 8550 := by
    unfold am_tt
    split
    · next q => have h1 := d3 q; have h2 := m3 q; omega
    · omega
  have t2 : 0 ≤ am_ts F W ∧ am_ts F W ≤ 9 := by unfold am_ts; split <;> omega
  have lp81 : ∀ (Y t u v : Int), Y = am_y y → t = am_t0 P (am_y y) → u = am_t0 P (am_y y) + am_tt F (am_y y) → v = am_t0 P (am_y y) + am_ts F W → am_AW l 0 (fun _ => 0) 162 Q 81 [some (.inr (.inr 83)), some (.inl i), some (.inl y), some (.inl s), some (.inl Y), some (.inl t), some (.inl u), some (.inl v)] [] ν := by
    intro Y t u v  hv0 hv1 hv2 hv3
    subst hv0
    subst hv1
    subst hv2
    subst hv3
    refine am_go (ct := fun pc => Nat.beq pc 81 || Nat.beq pc 57 || Nat.beq pc 23 || Nat.beq pc 6) am_oX7_timeOver 300 ?_
    conv => whnf
    repeat' first
      | (refine (?_ : am_wp _ _ _ _ _ _ _ _ _ _ _ _); conv => whnf)
      | (refine (?_ : am_sw _ _ _ _); conv => whnf)
      | refine And.intro trivial ?_
      | exact trivial
      | (first | (refine And.intro (fun h => absurd h (by rw [ei, eK]; decide)) (fun _ => ?_)) | (refine And.intro (fun _ => ?_) (fun h => absurd h (by rw [ei, eK]; decide))))
      | refine x_atLeastOne _ ?_ ?_ ?_
      | refine am_qe k ?_
      | refine x_atLeastOne _ ?_ ?_ ?_
      | refine And.intro (fun h => absurd h (by decide)) (fun _ => ?_)
      | refine And.intro (fun _ => ?_) (fun h => absurd (by decide) h)
      | refine And.intro (fun _ => ?_) (fun _ => ?_)
      | refine And.intro ?_ ?_
    all_goals (first | decide | omega | (unfold am_T; rw [if_neg (by decide), if_neg (by decide), if_neg (by decide), if_pos rfl]; done) | (unfold am_T; rw [if_neg (by decide), if_neg (by decide), if_neg (by decide), if_pos rfl]; simp only [am_ts, am_tt, ei, ci, eP, eF, eK, eW, c1, c2, c10, c20, c50, cy, cs, cw, a1, a2, a3, a4, a6, cY, cT, c00, z20, m0] at * <;> first | omega | ((repeat' split) <;> first | omega | (simp only [am_c] at * <;> omega))) | (simp only [ei, ci, eP, eF, eK, eW, c1, c2, c10, c20, c50, cy, cs, cw, a1, a2, a3, a4, a6, cY, cT, c00, z20, m0] at * <;> first | omega | (simp only [am_c] at * <;> omega)) | (trace_state; fail))
  have lp57 : ∀ (Y t u : Int), Y = am_y y → t = am_t0 P (am_y y) → u = am_t0 P (am_y y) + am_tt F (am_y y) → am_AW l 0 (fun _ => 0) 162 Q 57 [some (.inr (.inr 83)), some (.inl i), some (.inl y), some (.inl s), some (.inl Y), some (.inl t), some (.inl u), none] [] ν := by
    intro Y t u  hv0 hv1 hv2
    subst hv0
    subst hv1
    subst hv2
    refine am_go (ct := fun pc => Nat.beq pc 81 || Nat.beq pc 57 || Nat.beq pc 23 || Nat.beq pc 6) am_oX7_timeOver 300 ?_
    conv => whnf
    repeat' first
      | (refine (?_ : am_wp _ _ _ _ _ _ _ _ _ _ _ _); conv => whnf)
      | (refine (?_ : am_sw _ _ _ _); conv => whnf)
      | refine And.intro trivial ?_
      | exact trivial
      | refine x_atLeastOne _ ?_ ?_ ?_
      | refine lp81 _ _ _ _  ?_ ?_ ?_ ?_
      | refine And.intro (fun h => absurd h (by decide)) (fun _ => ?_)
      | refine And.intro (fun _ => ?_) (fun h => absurd (by decide) h)
      | refine And.intro (fun _ => ?_) (fun _ => ?_)
      | refine And.intro ?_ ?_
    all_goals (first | assumption | rfl | decide | omega | (unfold am_ts; simp only [ei, ci, eP, eF, eK, eW, c1, c2, c10, c20, c50, cy, cs, cw, a1, a2, a3, a4, a6, cY, cT, c00, z20, m0] at * <;> first | omega | (rw [if_pos (by omega)]) | (rw [if_neg (by omega)]) | ((repeat' split) <;> first | omega | (simp only [am_c] at * <;> omega))) | (simp only [ei, ci, eP, eF, eK, eW, c1, c2, c10, c20, c50, cy, cs, cw, a1, a2, a3, a4, a6, cY, cT, c00, z20, m0] at * <;> first | omega | (simp only [am_c] at * <;> omega)) | (trace_state; fail))
  have lp23 : ∀ (Y t : Int), Y = am_y y → t = am_t0 P (am_y y) → am_AW l 0 (fun _ => 0) 162 Q 23 [some (.inr (.inr 83)), some (.inl i), some (.inl y), some (.inl s), some (.inl Y), some (.inl t), none, none] [] ν := by
    intro Y t  hv0 hv1
    subst hv0
    subst hv1
    refine am_go (ct := fun pc => Nat.beq pc 81 || Nat.beq pc 57 || Nat.beq pc 23 || Nat.beq pc 6) am_oX7_timeOver 300 ?_
    conv => whnf
    repeat' first
      | (refine (?_ : am_wp _ _ _ _ _ _ _ _ _ _ _ _); conv => whnf)
      | (refine (?_ : am_sw _ _ _ _); conv => whnf)
      | refine And.intro trivial ?_
      | exact trivial
      | refine x_atLeastOne _ ?_ ?_ ?_
      | refine x_atLeastOne _ ?_ ?_ ?_
      | refine lp57 _ _ _  ?_ ?_ ?_
      | refine lp81 _ _ _ _  ?_ ?_ ?_ ?_
      | refine And.intro (fun h => absurd h (by decide)) (fun _ => ?_)
      | refine And.intro (fun _ => ?_) (fun h => absurd (by decide) h)
      | refine And.intro (fun _ => ?_) (fun _ => ?_)
      | refine And.intro ?_ ?_
    all_goals (first | assumption | rfl | decide | omega | (unfold am_tt; simp only [ei, ci, eP, eF, eK, eW, c1, c2, c10, c20, c50, cy, cs, cw, a1, a2, a3, a4, a6, cY, cT, c00, z20, m0] at * <;> first | omega | (rw [if_pos (by omega)]) | (rw [if_neg (by omega)]) | ((repeat' split) <;> first | omega | (simp only [am_c] at * <;> omega))) | (simp only [ei, ci, eP, eF, eK, eW, c1, c2, c10, c20, c50, cy, cs, cw, a1, a2, a3, a4, a6, cY, cT, c00, z20, m0] at * <;> first | omega | (simp only [am_c] at * <;> omega)) | (trace_state; fail))
  have lp6 : ∀ (Y : Int), Y = am_y y → am_AW l 0 (fun _ => 0) 162 Q 6 [some (.inr (.inr 83)), some (.inl i), some (.inl y), some (.inl s), some (.inl Y), none, none, none] [] ν := by
    intro Y  hv0
    subst hv0
    refine am_go (ct := fun pc => Nat.beq pc 81 || Nat.beq pc 57 || Nat.beq pc 23 || Nat.beq pc 6) am_oX7_timeOver 300 ?_
    conv => whnf
    repeat' first
      | (refine (?_ : am_wp _ _ _ _ _ _ _ _ _ _ _ _); conv => whnf)
      | (refine (?_ : am_sw _ _ _ _); conv => whnf)
      | refine And.intro trivial ?_
      | exact trivial
      | refine x_atLeastOne _ ?_ ?_ ?_
      | refine x_atLeastOne _ ?_ ?_ ?_
      | refine lp23 _ _  ?_ ?_
      | refine lp57 _ _ _  ?_ ?_ ?_
      | refine lp81 _ _ _ _  ?_ ?_ ?_ ?_
      | refine And.intro (fun h => absurd h (by decide)) (fun _ => ?_)
      | refine And.intro (fun _ => ?_) (fun h => absurd (by decide) h)
      | refine And.intro (fun _ => ?_) (fun _ => ?_)
      | refine And.intro ?_ ?_
    all_goals (first | assumption | rfl | decide | omega | (unfold am_t0; simp only [ei, ci, eP, eF, eK, eW, c1, c2, c10, c20, c50, cy, cs, cw, a1, a2, a3, a4, a6, cY, cT, c00, z20, m0] at * <;> first | omega | (rw [if_pos (by omega)]) | (rw [if_neg (by omega)]) | ((repeat' split) <;> first | omega | (simp only [am_c] at * <;> omega))) | (simp only [ei, ci, eP, eF, eK, eW, c1, c2, c10, c20, c50, cy, cs, cw, a1, a2, a3, a4, a6, cY, cT, c00, z20, m0] at * <;> first | omega | (simp only [am_c] at * <;> omega)) | (trace_state; fail))
  refine am_go (ct := fun pc => Nat.beq pc 81 || Nat.beq pc 57 || Nat.beq pc 23 || Nat.beq pc 6) am_oX7_timeOver 300 ?_
  conv => whnf
  repeat' first
    | (refine (?_ : am_wp _ _ _ _ _ _ _ _ _ _ _ _); conv => whnf)
    | (refine (?_ : am_sw _ _ _ _); conv => whnf)
    | refine And.intro trivial ?_
    | exact trivial
    | refine x_atLeastOne _ ?_ ?_ ?_
    | refine lp6 _  ?_
    | refine lp23 _ _  ?_ ?_
    | refine lp57 _ _ _  ?_ ?_ ?_
    | refine lp81 _ _ _ _  ?_ ?_ ?_ ?_
    | refine And.intro (fun h => absurd h (by decide)) (fun _ => ?_)
    | refine And.intro (fun _ => ?_) (fun h => absurd (by decide) h)
    | refine And.intro (fun _ => ?_) (fun _ => ?_)
    | refine And.intro ?_ ?_
  all_goals (first | assumption | rfl | decide | omega | (unfold am_y; simp only [ei, ci, eP, eF, eK, eW, c1, c2, c10, c20, c50, cy, cs, cw, a1, a2, a3, a4, a6, cY, cT, c00, z20, m0] at * <;> first | omega | (rw [if_pos (by omega)]) | (rw [if_neg (by omega)]) | ((repeat' split) <;> first | omega | (simp only [am_c] at * <;> omega))) | (simp only [ei, ci, eP, eF, eK, eW, c1, c2, c10, c20, c50, cy, cs, cw, a1, a2, a3, a4, a6, cY, cT, c00, z20, m0] at * <;> first | omega | (simp only [am_c] at * <;> omega)) | (trace_state; fail))
theorem x_timeOver_5 {l : Launch} {ν : am_N} {Q : Option am_V → am_N → Prop} (i y s P F W : Int) (hi0 : 0 ≤ i) (hi1 : i < ν 83 14) (hn : ν 83 14 ≤ 4) (eP : ν 87 i.toNat = P) (eF : ν 86 i.toNat = F) (eK : ν 85 i.toNat = 5) (eW : ν 83 11 = W) (p0 : 5 ≤ P) (p1 : P ≤ 40) (f0 : 0 ≤ F) (f1 : F ≤ 9) (w0 : 0 ≤ W) (w1 : W ≤ 2000) (y0 : -1000 ≤ y) (y1 : y ≤ 1000) (s0 : -1000 ≤ s) (s1 : s ≤ 1000) (k : Q (some (.inl (am_T P F 5 W (am_y y) s))) ν) : am_Does l 162 [.inr (.inr 83), .inl i, .inl y, .inl s] ν Q := by
  refine am_Does_of (Nat.le_of_ble_eq_true rfl) (Nat.le_of_ble_eq_true rfl) (Nat.le_of_ble_eq_true rfl) ?_
  have ci : am_c i = i := am_cR (by omega) (by omega)
  have ei : (am_c i).toNat = i.toNat := by rw [ci]
  have c1 : am_c 1 = 1 := rfl
  have c2 : am_c 2 = 2 := rfl
  have c10 : am_c 10 = 10 := rfl
  have c20 : am_c 20 = 20 := rfl
  have c50 : am_c 50 = 50 := rfl
  have cy : am_c y = y := am_cR (by omega) (by omega)
  have cs : am_c s = s := am_cR (by omega) (by omega)
  have cw : am_c W = W := am_cR (by omega) (by omega)
  have hy2 : 1 ≤ am_y y ∧ am_y y ≤ 1000 := by unfold am_y; split <;> omega
  have m1 := am_mulb (a := P) (b := am_y y) (A := 40) (B := 1000) (by omega) (by omega) (by omega) (by omega)
  have m2 := am_mulb (a := W) (b := F) (A := 2000) (B := 9) (by omega) (by omega) (by omega) (by omega)
  have m3 := fun q : 50 < am_y y => am_mulb (a := F) (b := am_y y - 50) (A := 9) (B := 950) (by omega) (by omega) (by omega) (by omega)
  have d1 := am_tdb (a := P * am_y y) (n := 10) (by omega) (by omega)
  have d2 := am_tdb (a := W * F) (n := 10) (by omega) (by omega)
  have d3 := fun q : 50 < am_y y => am_tdb (a := F * (am_y y - 50)) (n := 20) (m3 q).1 (by omega)
  have a1 : am_c (P * am_y y) = P * am_y y := am_cR (by omega) (by omega)
  have a2 : am_c (W * F) = W * F := am_cR (by omega) (by omega)
  have m4 := am_mulb (a := F) (b := am_y y) (A := 9) (B := 1000) (by omega) (by omega) (by omega) (by omega)
  have m5 : F * (am_y y - 50) = F * am_y y - F * 50 := Int.mul_sub _ _ _
  have a3 : am_c (F * (am_y y - 50)) = F * (am_y y - 50) := am_cR (by omega) (by omega)
  have a4 : am_c ((P * am_y y).tdiv 10) = (P * am_y y).tdiv 10 := am_cR (by omega) (by omega)
  have w2 : W.tmod 2 = W % 2 := Int.tmod_eq_emod_of_nonneg w0
  have a6 : am_c (W.tmod 2) = W.tmod 2 := am_cR (by omega) (by omega)
  have cY : am_c (am_y y) = am_y y := am_cR (by omega) (by omega)
  have c00 : am_c 0 = 0 := rfl
  have z20 : (0 : Int).tdiv 20 = 0 := rfl
  have m0 : F * 0 = 0 := Int.mul_zero F
  have t0 : 1 ≤ am_t0 P (am_y y) ∧ am_t0 P (am_y y) ≤ 40000 := by unfold am_t0; split <;> omega
  have cT : am_c (am_t0 P (am_y y)) = am_t0 P (am_y y) := am_cR (by omega) (by omega)
  have t1 : 0 ≤ am_tt F (am_y y) ∧ am_tt F (am_y y) ≤ 8550 := by
    unfold am_tt
    split
    · next q => have h1 := d3 q; have h2 := m3 q; omega
    · omega
  have t2 : 0 ≤ am_ts F W ∧ am_ts F W ≤ 9 := by unfold am_ts; split <;> omega
  have lp81 : ∀ (Y t u v : Int), Y = am_y y → t = am_t0 P (am_y y) → u = am_t0 P (am_y y) + am_tt F (am_y y) → v = am_t0 P (am_y y) + am_ts F W → am_AW l 0 (fun _ => 0) 162 Q 81 [some (.inr (.inr 83)), some (.inl i), some (.inl y), some (.inl s), some (.inl Y), some (.inl t), some (.inl u), some (.inl v)] [] ν := by
    intro Y t u v  hv0 hv1 hv2 hv3
    subst hv0
    subst hv1
    subst hv2
    subst hv3
    refine am_go (ct := fun pc => Nat.beq pc 81 || Nat.beq pc 57 || Nat.beq pc 23 || Nat.beq pc 6) am_oX7_timeOver 300 ?_
    conv => whnf
    repeat' first
      | (refine (?_ : am_wp _ _ _ _ _ _ _ _ _ _ _ _); conv => whnf)
      | (refine (?_ : am_sw _ _ _ _); conv => whnf)
      | refine And.intro trivial ?_
      | exact trivial
      | (first | (refine And.intro (fun h => absurd h (by rw [ei, eK]; decide)) (fun _ => ?_)) | (refine And.intro (fun _ => ?_) (fun h => absurd h (by rw [ei, eK]; decide))))
      | refine x_atLeastOne _ ?_ ?_ ?_
      | refine am_qe k ?_
      | refine x_atLeastOne _ ?_ ?_ ?_
      | refine And.intro (fun h => absurd h (by decide)) (fun _ => ?_)
      | refine And.intro (fun _ => ?_) (fun h => absurd (by decide) h)
      | refine And.intro (fun _ => ?_) (fun _ => ?_)
      | refine And.intro ?_ ?_
    all_goals (first | decide | omega | (unfold am_T; rw [if_neg (by decide), if_neg (by decide), if_neg (by decide), if_neg (by decide), if_pos rfl]; done) | (unfold am_T; rw [if_neg (by decide), if_neg (by decide), if_neg (by decide), if_neg (by decide), if_pos rfl]; simp only [am_ts, am_tt, ei, ci, eP, eF, eK, eW, c1, c2, c10, c20, c50, cy, cs, cw, a1, a2, a3, a4, a6, cY, cT, c00, z20, m0] at * <;> first | omega | ((repeat' split) <;> first | omega | (simp only [am_c] at * <;> omega))) | (simp only [ei, ci, eP, eF, eK, eW, c1, c2, c10, c20, c50, cy, cs, cw, a1, a2, a3, a4, a6, cY, cT, c00, z20, m0] at * <;> first | omega | (simp only [am_c] at * <;> omega)) | (trace_state; fail))
  have lp57 : ∀ (Y t u : Int), Y = am_y y → t = am_t0 P (am_y y) → u = am_t0 P (am_y y) + am_tt F (am_y y) → am_AW l 0 (fun _ => 0) 162 Q 57 [some (.inr (.inr 83)), some (.inl i), some (.inl y), some (.inl s), some (.inl Y), some (.inl t), some (.inl u), none] [] ν := by
    intro Y t u  hv0 hv1 hv2
    subst hv0
    subst hv1
    subst hv2
    refine am_go (ct := fun pc => Nat.beq pc 81 || Nat.beq pc 57 || Nat.beq pc 23 || Nat.beq pc 6) am_oX7_timeOver 300 ?_
    conv => whnf
    repeat' first
      | (refine (?_ : am_wp _ _ _ _ _ _ _ _ _ _ _ _); conv => whnf)
      | (refine (?_ : am_sw _ _ _ _); conv => whnf)
      | refine And.intro trivial ?_
      | exact trivial
      | refine x_atLeastOne _ ?_ ?_ ?_
      | refine lp81 _ _ _ _  ?_ ?_ ?_ ?_
      | refine And.intro (fun h => absurd h (by decide)) (fun _ => ?_)
      | refine And.intro (fun _ => ?_) (fun h => absurd (by decide) h)
      | refine And.intro (fun _ => ?_) (fun _ => ?_)
      | refine And.intro ?_ ?_
    all_goals (first | assumption | rfl | decide | omega | (unfold am_ts; simp only [ei, ci, eP, eF, eK, eW, c1, c2, c10, c20, c50, cy, cs, cw, a1, a2, a3, a4, a6, cY, cT, c00, z20, m0] at * <;> first | omega | (rw [if_pos (by omega)]) | (rw [if_neg (by omega)]) | ((repeat' split) <;> first | omega | (simp only [am_c] at * <;> omega))) | (simp only [ei, ci, eP, eF, eK, eW, c1, c2, c10, c20, c50, cy, cs, cw, a1, a2, a3, a4, a6, cY, cT, c00, z20, m0] at * <;> first | omega | (simp only [am_c] at * <;> omega)) | (trace_state; fail))
  have lp23 : ∀ (Y t : Int), Y = am_y y → t = am_t0 P (am_y y) → am_AW l 0 (fun _ => 0) 162 Q 23 [some (.inr (.inr 83)), some (.inl i), some (.inl y), some (.inl s), some (.inl Y), some (.inl t), none, none] [] ν := by
    intro Y t  hv0 hv1
    subst hv0
    subst hv1
    refine am_go (ct := fun pc => Nat.beq pc 81 || Nat.beq pc 57 || Nat.beq pc 23 || Nat.beq pc 6) am_oX7_timeOver 300 ?_
    conv => whnf
    repeat' first
      | (refine (?_ : am_wp _ _ _ _ _ _ _ _ _ _ _ _); conv => whnf)
      | (refine (?_ : am_sw _ _ _ _); conv => whnf)
      | refine And.intro trivial ?_
      | exact trivial
      | refine x_atLeastOne _ ?_ ?_ ?_
      | refine x_atLeastOne _ ?_ ?_ ?_
      | refine lp57 _ _ _  ?_ ?_ ?_
      | refine lp81 _ _ _ _  ?_ ?_ ?_ ?_
      | refine And.intro (fun h => absurd h (by decide)) (fun _ => ?_)
      | refine And.intro (fun _ => ?_) (fun h => absurd (by decide) h)
      | refine And.intro (fun _ => ?_) (fun _ => ?_)
      | refine And.intro ?_ ?_
    all_goals (first | assumption | rfl | decide | omega | (unfold am_tt; simp only [ei, ci, eP, eF, eK, eW, c1, c2, c10, c20, c50, cy, cs, cw, a1, a2, a3, a4, a6, cY, cT, c00, z20, m0] at * <;> first | omega | (rw [if_pos (by omega)]) | (rw [if_neg (by omega)]) | ((repeat' split) <;> first | omega | (simp only [am_c] at * <;> omega))) | (simp only [ei, ci, eP, eF, eK, eW, c1, c2, c10, c20, c50, cy, cs, cw, a1, a2, a3, a4, a6, cY, cT, c00, z20, m0] at * <;> first | omega | (simp only [am_c] at * <;> omega)) | (trace_state; fail))
  have lp6 : ∀ (Y : Int), Y = am_y y → am_AW l 0 (fun _ => 0) 162 Q 6 [some (.inr (.inr 83)), some (.inl i), some (.inl y), some (.inl s), some (.inl Y), none, none, none] [] ν := by
    intro Y  hv0
    subst hv0
    refine am_go (ct := fun pc => Nat.beq pc 81 || Nat.beq pc 57 || Nat.beq pc 23 || Nat.beq pc 6) am_oX7_timeOver 300 ?_
    conv => whnf
    repeat' first
      | (refine (?_ : am_wp _ _ _ _ _ _ _ _ _ _ _ _); conv => whnf)
      | (refine (?_ : am_sw _ _ _ _); conv => whnf)
      | refine And.intro trivial ?_
      | exact trivial
      | refine x_atLeastOne _ ?_ ?_ ?_
      | refine x_atLeastOne _ ?_ ?_ ?_
      | refine lp23 _ _  ?_ ?_
      | refine lp57 _ _ _  ?_ ?_ ?_
      | refine lp81 _ _ _ _  ?_ ?_ ?_ ?_
      | refine And.intro (fun h => absurd h (by decide)) (fun _ => ?_)
      | refine And.intro (fun _ => ?_) (fun h => absurd (by decide) h)
      | refine And.intro (fun _ => ?_) (fun _ => ?_)
      | refine And.intro ?_ ?_
    all_goals (first | assumption | rfl | decide | omega | (unfold am_t0; simp only [ei, ci, eP, eF, eK, eW, c1, c2, c10, c20, c50, cy, cs, cw, a1, a2, a3, a4, a6, cY, cT, c00, z20, m0] at * <;> first | omega | (rw [if_pos (by omega)]) | (rw [if_neg (by omega)]) | ((repeat' split) <;> first | omega | (simp only [am_c] at * <;> omega))) | (simp only [ei, ci, eP, eF, eK, eW, c1, c2, c10, c20, c50, cy, cs, cw, a1, a2, a3, a4, a6, cY, cT, c00, z20, m0] at * <;> first | omega | (simp only [am_c] at * <;> omega)) | (trace_state; fail))
  refine am_go (ct := fun pc => Nat.beq pc 81 || Nat.beq pc 57 || Nat.beq pc 23 || Nat.beq pc 6) am_oX7_timeOver 300 ?_
  conv => whnf
  repeat' first
    | (refine (?_ : am_wp _ _ _ _ _ _ _ _ _ _ _ _); conv => whnf)
    | (refine (?_ : am_sw _ _ _ _); conv => whnf)
    | refine And.intro trivial ?_
    | exact trivial
    | refine x_atLeastOne _ ?_ ?_ ?_
    | refine lp6 _  ?_
    | refine lp23 _ _  ?_ ?_
    | refine lp57 _ _ _  ?_ ?_ ?_
    | refine lp81 _ _ _ _  ?_ ?_ ?_ ?_
    | refine And.intro (fun h => absurd h (by decide)) (fun _ => ?_)
    | refine And.intro (fun _ => ?_) (fun h => absurd (by decide) h)
    | refine And.intro (fun _ => ?_) (fun _ => ?_)
    | refine And.intro ?_ ?_
  all_goals (first | assumption | rfl | decide | omega | (unfold am_y; simp only [ei, ci, eP, eF, eK, eW, c1, c2, c10, c20, c50, cy, cs, cw, a1, a2, a3, a4, a6, cY, cT, c00, z20, m0] at * <;> first | omega | (rw [if_pos (by omega)]) | (rw [if_neg (by omega)]) | ((repeat' split) <;> first | omega | (simp only [am_c] at * <;> omega))) | (simp only [ei, ci, eP, eF, eK, eW, c1, c2, c10, c20, c50, cy, cs, cw, a1, a2, a3, a4, a6, cY, cT, c00, z20, m0] at * <;> first | omega | (simp only [am_c] at * <;> omega)) | (trace_state; fail))
