theorem x_tenthsOver_1_4 {l : Launch} {ν : am_N} {Q : Option am_V → am_N → Prop} (i y s P F W : Int) (hi0 : 0 ≤ i) (hi1 : i < ν 1 4) (hn : ν 1 4 ≤ 4) (eP : ν 4 i.toNat = P) (eF : ν 3 i.toNat = F) (eK : ν 2 i.toNat = 4) (eW : ν 1 1 = W) (p0 : 5 ≤ P) (p1 : P ≤ 40) (f0 : 0 ≤ F) (f1 : F ≤ 9) (w0 : 0 ≤ W) (w1 : W ≤ 2000) (y0 : -1000 ≤ y) (y1 : y ≤ 1000) (s0 : -1000 ≤ s) (s1 : s ≤ 1000) (k : Q (some (.inl (am_T P F 4 W (am_y y) s))) ν) : am_Does l 10 [.inr (.inr 1), .inl i, .inl y, .inl s] ν Q := by
  refine am_Does_of (Nat.le_of_ble_eq_true rfl) (Nat.le_of_ble_eq_true rfl) (Nat.le_of_ble_eq_true rfl) ?_
  have ci : am_c i = i := am_cR (by omega) (by omega)
  have ei : (am_c i).toNat = i.toNat := by rw [ci]
  have c1 : am_c 1 = 1 := rfl
  have c2 : am_c 2 = 2 := rfl
  have c10 : am_c 10 = 10 := rfl
  have c20 : am_c 20 = 20 := rfl
  have c50 : am_c 50 = 50 := rfl
  have cy : am_c y = y := am_cR (by omega) (by omega)
  have cs : am_c s = s := am_cR (by omega) (by omega)
  have cw : am_c W = W := am_cR (by omega) (by omega)
  have hy2 : 1 ≤ am_y y ∧ am_y y ≤ 1000 := by unfold am_y; split <;> omega
  have m1 := am_mulb (a := P) (b := am_y y) (A := 40) (B := 1000) (by omega) (by omega) (by omega) (by omega)
  have m2 := am_mulb (a := W) (b := F) (A := 2000) (B := 9) (by omega) (by omega) (by omega) (by omega)
  have m3 := fun q : 50 < am_y y => am_mulb (a := F) (b := am_y y - 50) (A := 9) (B := 950) (by omega) (by omega) (by omega) (by omega)
  have d1 := am_tdb (a := P * am_y y) (n := 10) (by omega) (by omega)
  have d2 := am_tdb (a := W * F) (n := 10) (by omega) (by omega)
  have d3 := fun q : 50 < am_y y => am_tdb (a := F * (am_y y - 50)) (n := 20) (m3 q).1 (by omega)
  have a1 : am_c (P * am_y y) = P * am_y y := am_cR (by omega) (by omega)
  have a2 : am_c (W * F) = W * F := am_cR (by omega) (by omega)
  have m4 := am_mulb (a := F) (b := am_y y) (A := 9) (B := 1000) (by omega) (by omega) (by omega) (by omega)
  have m5 : F * (am_y y - 50) = F * am_y y - F * 50 := Int.mul_sub _ _ _
  have a3 : am_c (F * (am_y y - 50)) = F * (am_y y - 50) := am_cR (by omega) (by omega)
  have a4 : am_c ((P * am_y y).tdiv 10) = (P * am_y y).tdiv 10 := am_cR (by omega) (by omega)
  have w2 : W.tmod 2 = W % 2 := Int.tmod_eq_emod_of_nonneg w0
  have a6 : am_c (W.tmod 2) = W.tmod 2 := am_cR (by omega) (by omega)
  have cY : am_c (am_y y) = am_y y := am_cR (by omega) (by omega)
  have c00 : am_c 0 = 0 := rfl
  have z20 : (0 : Int).tdiv 20 = 0 := rfl
  have m0 : F * 0 = 0 := Int.mul_zero F
  have t0 : 1 ≤ am_t0 P (am_y y) ∧ am_t0 P (am_y y) ≤ 40000 := by unfold am_t0; split <;> omega
  have cT : am_c (am_t0 P (am_y y)) = am_t0 P (am_y y) := am_cR (by omega) (by omega)
  have t1 : 0 ≤ am_tt F (am_y y) ∧ am_tt F (am_y y) ≤ 8550 := by
    unfold am_tt
    split
    · next q => have h1 := d3 q; have h2 := m3 q; omega
    · omega
  have t2 : 0 ≤ am_ts F W ∧ am_ts F W ≤ 9 := by unfold am_ts; split <;> omega
  have lp49 : ∀ (Y t : Int), Y = am_y y → t = am_t0 P (am_y y) → am_AW l 0 (fun _ => 0) 10 Q 49 [some (.inr (.inr 1)), some (.inl i), some (.inl y), some (.inl s), some (.inl Y), some (.inl t), none, none] [] ν := by
    intro Y t  hv0 hv1
    subst hv0
    subst hv1
    refine am_go (ct := fun pc => Nat.beq pc 49 || Nat.beq pc 26) am_oX0_tenthsOver 300 ?_
    conv => whnf
    repeat' first
      | (refine (?_ : am_wp _ _ _ _ _ _ _ _ _ _ _ _); conv => whnf)
      | (refine (?_ : am_sw _ _ _ _); conv => whnf)
      | refine And.intro trivial ?_
      | exact trivial
      | refine And.intro (fun h => absurd h (by rw [ei, eK]; decide)) (fun _ => ?_)
      | refine And.intro (fun _ => ?_) (fun h => absurd h (by rw [ei, eK]; decide))
      | refine am_qe k ?_
      | refine And.intro (fun h => absurd h (by decide)) (fun _ => ?_)
      | refine And.intro (fun _ => ?_) (fun h => absurd (by decide) h)
      | refine And.intro (fun _ => ?_) (fun _ => ?_)
      | refine And.intro ?_ ?_
    all_goals (first | decide | omega | (unfold am_T; rw [if_neg (by decide), if_neg (by decide), if_neg (by decide), if_pos rfl]; done) | (unfold am_T; rw [if_neg (by decide), if_neg (by decide), if_neg (by decide), if_pos rfl]; simp only [am_ts, am_tt, ei, ci, eP, eF, eK, eW, c1, c2, c10, c20, c50, cy, cs, cw, a1, a2, a3, a4, a6, cY, cT, c00, z20, m0] at * <;> first | omega | ((repeat' split) <;> first | omega | (simp only [am_c] at * <;> omega))) | (simp only [ei, ci, eP, eF, eK, eW, c1, c2, c10, c20, c50, cy, cs, cw, a1, a2, a3, a4, a6, cY, cT, c00, z20, m0] at * <;> first | omega | (simp only [am_c] at * <;> omega)) | (trace_state; fail))
  have lp26 : ∀ (Y : Int), Y = am_y y → am_AW l 0 (fun _ => 0) 10 Q 26 [some (.inr (.inr 1)), some (.inl i), some (.inl y), some (.inl s), some (.inl Y), none, none, none] [] ν := by
    intro Y  hv0
    subst hv0
    refine am_go (ct := fun pc => Nat.beq pc 49 || Nat.beq pc 26) am_oX0_tenthsOver 300 ?_
    conv => whnf
    repeat' first
      | (refine (?_ : am_wp _ _ _ _ _ _ _ _ _ _ _ _); conv => whnf)
      | (refine (?_ : am_sw _ _ _ _); conv => whnf)
      | refine And.intro trivial ?_
      | exact trivial
      | refine lp49 _ _  ?_ ?_
      | refine And.intro (fun h => absurd h (by decide)) (fun _ => ?_)
      | refine And.intro (fun _ => ?_) (fun h => absurd (by decide) h)
      | refine And.intro (fun _ => ?_) (fun _ => ?_)
      | refine And.intro ?_ ?_
    all_goals (first | assumption | rfl | decide | omega | (unfold am_t0; simp only [ei, ci, eP, eF, eK, eW, c1, c2, c10, c20, c50, cy, cs, cw, a1, a2, a3, a4, a6, cY, cT, c00, z20, m0] at * <;> first | omega | (rw [if_pos (by omega)]) | (rw [if_neg (by omega)]) | ((repeat' split) <;> first | omega | (simp only [am_c] at * <;> omega))) | (simp only [ei, ci, eP, eF, eK, eW, c1, c2, c10, c20, c50, cy, cs, cw, a1, a2, a3, a4, a6, cY, cT, c00, z20, m0] at * <;> first | omega | (simp only [am_c] at * <;> omega)) | (trace_state; fail))
  refine am_go (ct := fun pc => Nat.beq pc 49 || Nat.beq pc 26) am_oX0_tenthsOver 300 ?_
  conv => whnf
  repeat' first
    | (refine (?_ : am_wp _ _ _ _ _ _ _ _ _ _ _ _); conv => whnf)
    | (refine (?_ : am_sw _ _ _ _); conv => whnf)
    | refine And.intro trivial ?_
    | exact trivial
    | refine lp26 _  ?_
    | refine lp49 _ _  ?_ ?_
    | refine And.intro (fun h => absurd h (by decide)) (fun _ => ?_)
    | refine And.intro (fun _ => ?_) (fun h => absurd (by decide) h)
    | refine And.intro (fun _ => ?_) (fun _ => ?_)
    | refine And.intro ?_ ?_
  all_goals (first | assumption | rfl | decide | omega | (unfold am_y; simp only [ei, ci, eP, eF, eK, eW, c1, c2, c10, c20, c50, cy, cs, cw, a1, a2, a3, a4, a6, cY, cT, c00, z20, m0] at * <;> first | omega | (rw [if_pos (by omega)]) | (rw [if_neg (by omega)]) | ((repeat' split) <;> first | omega | (simp only [am_c] at * <;> omega))) | (simp only [ei, ci, eP, eF, eK, eW, c1, c2, c10, c20, c50, cy, cs, cw, a1, a2, a3, a4, a6, cY, cT, c00, z20, m0] at * <;> first | omega | (simp only [am_c] at * <;> omega)) | (trace_state; fail))
