/-! TIME over some yards, of a picture -/
def fp_to (F : am_N) (i : Nat) (y s : Int) : Int := am_T (F 3 i) (F 2 i) (F 1 i) (F 0 1) (am_y y) s
theorem fv_to {μ : am_N} {i : Nat} {y s : Int} (h : i < 4) : am_T (μ 4 i) (μ 3 i) (μ 2 i) (μ 1 1) (am_y y) s = fp_to (fv μ 1) i y s := by
  have e3 : fv μ 1 3 i = μ 4 i := fv_a (by decide) (by decide) h
  have e2 : fv μ 1 2 i = μ 3 i := fv_a (by decide) (by decide) h
  have e1 : fv μ 1 1 i = μ 2 i := fv_a (by decide) (by decide) h
  have e0 : fv μ 1 0 1 = μ 1 1 := fv_0 (by decide)
  unfold fp_to
  rw [e3, e2, e1, e0]
theorem mv_to {μ : am_N} {i : Nat} {y s : Int} (h : i < 4) : am_T (μ 87 i) (μ 86 i) (μ 85 i) (μ 83 11) (am_y y) s = fp_to (mv μ) i y s := by
  have e3 : mv μ 3 i = μ 87 i := mv_a (a := 2) (by decide) h
  have e2 : mv μ 2 i = μ 86 i := mv_a (a := 1) (by decide) h
  have e1 : mv μ 1 i = μ 85 i := mv_a (a := 0) (by decide) h
  have e0 : mv μ 0 1 = μ 83 11 := rfl
  unfold fp_to
  rw [e3, e2, e1, e0]
theorem fp_to_b {W : Int} {F : am_N} {i : Nat} {y s : Int} (h : fp_fw W F) (hW : W ≤ 2000) (hi : (i : Int) < F 0 4) (y1 : y ≤ 1000) : 1 ≤ fp_to F i y s ∧ fp_to F i y s ≤ 60000 := by
  obtain ⟨a1, a2, a3, a4⟩ := h.2.2.2.2.2.2 i hi
  have w := h.2.1
  have b : 1 ≤ am_y y ∧ am_y y ≤ 1000 := by unfold am_y; split <;> omega
  exact am_T_b ⟨a3, a2, a1, ⟨w.1, by omega⟩⟩ b.1 b.2
/-- what a START of s yards is worth -/
def fp_wo (F : am_N) (i : Nat) (s : Int) : Int := fp_to F i (F 0 0 - 0) 0 - fp_to F i (F 0 0 - s) s
/-- the least START that is worth w or more, from t on, m tries -/
def fp_sm (F : am_N) (j : Nat) (w : Int) : Nat → Int → Int
  | 0, _ => -9
  | m + 1, t => if w ≤ fp_wo F j t then t else fp_sm F j w m (t + 1)
def fp_sr (F : am_N) (i s j : Int) : Int := if ¬((0 ≤ i ∧ i < F 0 4) ∧ (0 ≤ j ∧ j < F 0 4) ∧ i ≠ j) then -1 else if s < 0 then -4 else if 99 < s then -6 else fp_sm F j.toNat (fp_wo F i.toNat s) 100 0
theorem fp_sm_s {F : am_N} {j : Nat} {w t : Int} (h0 : t < 100) (h1 : ¬ w ≤ fp_wo F j t) : fp_sm F j w (100 - t).toNat t = fp_sm F j w (100 - (t + 1)).toNat (t + 1) := by
  rw [show (100 - t).toNat = (100 - (t + 1)).toNat + 1 by omega]
  exact if_neg h1
theorem fp_sm_y {F : am_N} {j : Nat} {w t : Int} (h0 : t < 100) (h1 : w ≤ fp_wo F j t) : fp_sm F j w (100 - t).toNat t = t := by
  rw [show (100 - t).toNat = (100 - (t + 1)).toNat + 1 by omega]
  exact if_pos h1
theorem fp_sm_z {F : am_N} {j : Nat} {w t : Int} (h : 100 ≤ t) : fp_sm F j w (100 - t).toNat t = -9 := by
  rw [show (100 - t).toNat = 0 by omega]; rfl
theorem s_tenthsOver {l : Launch} {ν : am_N} {Q : Option am_V → am_N → Prop} (i y s : Int) (hw : fp_fw 999 (fv ν 1)) (h0 : 0 ≤ i) (h1 : i < ν 1 4) (y0 : -1000 ≤ y) (y1 : y ≤ 1000) (s0 : 0 ≤ s) (s1 : s ≤ 99) (k : ∀ v : Int, v = fp_to (fv ν 1) i.toNat y s → 1 ≤ v → v ≤ 60000 → am_c v = v → Q (some (.inl v)) ν) : am_Does l 10 [.inr (.inr 1), .inl i, .inl y, .inl s] ν Q := by
  obtain ⟨hf, -, -, -, -, -, -⟩ := fw_C hw (by decide)
  have f1 := hf.1.2
  have e4 : fv ν 1 0 4 = ν 1 4 := fv_0 (by decide)
  have b := fp_to_b (i := i.toNat) (y := y) (s := s) hw (by decide) (by rw [e4]; omega) y1
  refine x_tenthsOver_1 i y s h0 h1 f1 (hf.2.2 i.toNat (by omega)).1 y0 y1 (by omega) (by omega) ?_
  rw [fv_to (by omega)]
  exact k _ rfl b.1 b.2 (am_cR (by omega) (by omega))
theorem n_timeOver {l : Launch} {ν : am_N} {Q : Option am_V → am_N → Prop} (i y s : Int) (hw : fp_fw 999 (mv ν)) (h0 : 0 ≤ i) (h1 : i < ν 83 14) (y0 : -1000 ≤ y) (y1 : y ≤ 1000) (s0 : 0 ≤ s) (s1 : s ≤ 99) (k : ∀ v : Int, v = fp_to (mv ν) i.toNat y s → 1 ≤ v → v ≤ 60000 → am_c v = v → Q (some (.inl v)) ν) : am_Does l 162 [.inr (.inr 83), .inl i, .inl y, .inl s] ν Q := by
  obtain ⟨hf, -, -, -, -, -, -⟩ := fw_M hw (by decide)
  have f1 := hf.1.2
  have e4 : mv ν 0 4 = ν 83 14 := rfl
  have b := fp_to_b (i := i.toNat) (y := y) (s := s) hw (by decide) (by rw [e4]; omega) y1
  refine x_timeOver i y s h0 h1 f1 (hf.2.2 i.toNat (by omega)).1 y0 y1 (by omega) (by omega) ?_
  rw [mv_to (by omega)]
  exact k _ rfl b.1 b.2 (am_cR (by omega) (by omega))
theorem s_tenthsFrom {l : Launch} {ν : am_N} {Q : Option am_V → am_N → Prop} (i s : Int) (hw : fp_fw 999 (fv ν 1)) (h0 : 0 ≤ i) (h1 : i < ν 1 4) (s0 : 0 ≤ s) (s1 : s ≤ 99) (k : ∀ v : Int, v = fp_to (fv ν 1) i.toNat (fv ν 1 0 0 - s) s → 1 ≤ v → v ≤ 60000 → Q (some (.inl v)) ν) : am_Does l 9 [.inr (.inr 1), .inl i, .inl s] ν Q := by
  refine am_Does_of (Nat.le_of_ble_eq_true rfl) (Nat.le_of_ble_eq_true rfl) (Nat.le_of_ble_eq_true rfl) ?_
  have l0 : am_c 0 = 0 := rfl
  have l1 : am_c 1 = 1 := rfl
  have l2 : am_c 2 = 2 := rfl
  have l20 : am_c 20 = 20 := rfl
  have l99 : am_c 99 = 99 := rfl
  have l1000000000 : am_c 1000000000 = 1000000000 := rfl
  obtain ⟨hf, -, -, -, hway, -, -⟩ := fw_C hw (by decide)
  have f0 := hf.1.1
  have f1 := hf.1.2
  have e4 : fv ν 1 0 4 = ν 1 4 := fv_0 (by decide)
  have eW : fv ν 1 0 0 = ν 1 0 := fv_0 (by decide)
  refine am_go (ct := fun _ => false) am_oX0_tenthsFrom 300 ?_
  conv => whnf
  repeat' first
    | (refine (?_ : am_wp _ _ _ _ _ _ _ _ _ _ _ _); conv => whnf)
    | (refine (?_ : am_sw _ _ _ _); conv => whnf)
    | refine And.intro trivial ?_
    | exact trivial
    | ((with_reducible refine (?_ : am_Does _ 10 _ _ _)); refine s_tenthsOver _ _ _ hw ?_ ?_ ?_ ?_ ?_ ?_ (fun v ev v0 v1 cv => ?_))
    | refine k _ ?_ v0 v1
    | refine And.intro (fun h => absurd h (by decide)) (fun _ => ?_)
    | refine And.intro (fun _ => ?_) (fun h => absurd (by decide) h)
    | refine And.intro (fun _ => ?_) (fun _ => ?_)
    | refine And.intro ?_ ?_
  all_goals (first | decide | assumption | omega | (rw [eW]; exact ev) | (trace_state; fail))
