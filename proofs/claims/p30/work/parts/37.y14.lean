/-! TIME over some yards, of a picture -/
def fp_to (F : am_N) (i : Nat) (y s : Int) : Int := am_T (F 3 i) (F 2 i) (F 1 i) (F 0 1) (am_y y) s
theorem fv_to {μ : am_N} {i : Nat} {y s : Int} (h : i < 4) : am_T (μ 4 i) (μ 3 i) (μ 2 i) (μ 1 1) (am_y y) s = fp_to (fv μ 1) i y s := by
  have e3 : fv μ 1 3 i = μ 4 i := fv_a (by decide) (by decide) h
  have e2 : fv μ 1 2 i = μ 3 i := fv_a (by decide) (by decide) h
  have e1 : fv μ 1 1 i = μ 2 i := fv_a (by decide) (by decide) h
  have e0 : fv μ 1 0 1 = μ 1 1 := fv_0 (by decide)
  unfold fp_to
  rw [e3, e2, e1, e0]
theorem mv_to {μ : am_N} {i : Nat} {y s : Int} (h : i < 4) : am_T (μ 87 i) (μ 86 i) (μ 85 i) (μ 83 11) (am_y y) s = fp_to (mv μ) i y s := by
  have e3 : mv μ 3 i = μ 87 i := mv_a (a := 2) (by decide) h
  have e2 : mv μ 2 i = μ 86 i := mv_a (a := 1) (by decide) h
  have e1 : mv μ 1 i = μ 85 i := mv_a (a := 0) (by decide) h
  have e0 : mv μ 0 1 = μ 83 11 := rfl
  unfold fp_to
  rw [e3, e2, e1, e0]
theorem fp_to_b {W : Int} {F : am_N} {i : Nat} {y s : Int} (h : fp_fw W F) (hW : W ≤ 2000) (hi : (i : Int) < F 0 4) (y1 : y ≤ 1000) : 1 ≤ fp_to F i y s ∧ fp_to F i y s ≤ 60000 := by
  obtain ⟨a1, a2, a3, a4⟩ := h.2.2.2.2.2.2 i hi
  have w := h.2.1
  have b : 1 ≤ am_y y ∧ am_y y ≤ 1000 := by unfold am_y; split <;> omega
  exact am_T_b ⟨a3, a2, a1, ⟨w.1, by omega⟩⟩ b.1 b.2
/-- what a START of s yards is worth -/
def fp_wo (F : am_N) (i : Nat) (s : Int) : Int := fp_to F i (F 0 0 - 0) 0 - fp_to F i (F 0 0 - s) s
def fp_wr (F : am_N) (i s : Int) : Int := if ¬(0 ≤ i ∧ i < F 0 4) then 1000000001 else if s < 0 then 1000000004 else if 99 < s then 1000000006 else fp_wo F i.toNat s
/-- the least START that is worth w or more, from t on, m tries -/
def fp_sm (F : am_N) (j : Nat) (w : Int) : Nat → Int → Int
  | 0, _ => -9
  | m + 1, t => if w ≤ fp_wo F j t then t else fp_sm F j w m (t + 1)
def fp_sr (F : am_N) (i s j : Int) : Int := if ¬((0 ≤ i ∧ i < F 0 4) ∧ (0 ≤ j ∧ j < F 0 4) ∧ i ≠ j) then -1 else if s < 0 then -4 else if 99 < s then -6 else fp_sm F j.toNat (fp_wo F i.toNat s) 100 0
/-- one runs the first half and l yards, the other the rest -/
def fp_rl (F : am_N) (i j : Nat) (l : Int) : Int := fp_to F i ((F 0 0).tdiv 2 + l) 0 + fp_to F j (F 0 0 - ((F 0 0).tdiv 2 + l)) 0
def fp_lg (F : am_N) (i j l w : Int) : Int := if ¬((0 ≤ i ∧ i < F 0 4) ∧ (0 ≤ j ∧ j < F 0 4) ∧ i ≠ j) then -1 else if l < 0 then -4 else if 20 < l then -6 else if ¬(w = 0 ∨ w = 1) then -2 else if w = 0 then (if fp_rl F i.toNat j.toNat l ≤ fp_rl F j.toNat i.toNat l then i else j) else (if fp_rl F i.toNat j.toNat l ≤ fp_rl F j.toNat i.toNat l then fp_rl F i.toNat j.toNat l else fp_rl F j.toNat i.toNat l)
theorem fp_wo_b {W : Int} {F : am_N} {i : Nat} {s : Int} (h : fp_fw W F) (hW : W ≤ 2000) (hi : (i : Int) < F 0 4) (s0 : 0 ≤ s) : -60000 ≤ fp_wo F i s ∧ fp_wo F i s ≤ 60000 := by
  have w := h.1
  have a := fp_to_b (y := F 0 0 - 0) (s := 0) h hW hi (by omega)
  have b := fp_to_b (y := F 0 0 - s) (s := s) h hW hi (by omega)
  unfold fp_wo
  omega
theorem fp_sm_s {F : am_N} {j : Nat} {w t : Int} (h0 : t < 100) (h1 : ¬ w ≤ fp_wo F j t) : fp_sm F j w (100 - t).toNat t = fp_sm F j w (100 - (t + 1)).toNat (t + 1) := by
  rw [show (100 - t).toNat = (100 - (t + 1)).toNat + 1 by omega]
  exact if_neg h1
theorem fp_sm_y {F : am_N} {j : Nat} {w t : Int} (h0 : t < 100) (h1 : w ≤ fp_wo F j t) : fp_sm F j w (100 - t).toNat t = t := by
  rw [show (100 - t).toNat = (100 - (t + 1)).toNat + 1 by omega]
  exact if_pos h1
theorem fp_sm_z {F : am_N} {j : Nat} {w t : Int} (h : 100 ≤ t) : fp_sm F j w (100 - t).toNat t = -9 := by
  rw [show (100 - t).toNat = 0 by omega]; rfl
theorem s_tenthsOver {l : Launch} {ν : am_N} {Q : Option am_V → am_N → Prop} (i y s : Int) (hw : fp_fw 999 (fv ν 1)) (h0 : 0 ≤ i) (h1 : i < ν 1 4) (y0 : -1000 ≤ y) (y1 : y ≤ 1000) (s0 : 0 ≤ s) (s1 : s ≤ 99) (k : ∀ v : Int, v = fp_to (fv ν 1) i.toNat y s → 1 ≤ v → v ≤ 60000 → am_c v = v → Q (some (.inl v)) ν) : am_Does l 10 [.inr (.inr 1), .inl i, .inl y, .inl s] ν Q := by
  obtain ⟨hf, -, -, -, -, -, -⟩ := fw_C hw (by decide)
  have f1 := hf.1.2
  have e4 : fv ν 1 0 4 = ν 1 4 := fv_0 (by decide)
  have b := fp_to_b (i := i.toNat) (y := y) (s := s) hw (by decide) (by rw [e4]; omega) y1
  refine x_tenthsOver_1 i y s h0 h1 f1 (hf.2.2 i.toNat (by omega)).1 y0 y1 (by omega) (by omega) ?_
  rw [fv_to (by omega)]
  exact k _ rfl b.1 b.2 (am_cR (by omega) (by omega))
theorem n_timeOver {l : Launch} {ν : am_N} {Q : Option am_V → am_N → Prop} (i y s : Int) (hw : fp_fw 999 (mv ν)) (h0 : 0 ≤ i) (h1 : i < ν 83 14) (y0 : -1000 ≤ y) (y1 : y ≤ 1000) (s0 : 0 ≤ s) (s1 : s ≤ 99) (k : ∀ v : Int, v = fp_to (mv ν) i.toNat y s → 1 ≤ v → v ≤ 60000 → am_c v = v → Q (some (.inl v)) ν) : am_Does l 162 [.inr (.inr 83), .inl i, .inl y, .inl s] ν Q := by
  obtain ⟨hf, -, -, -, -, -, -⟩ := fw_M hw (by decide)
  have f1 := hf.1.2
  have e4 : mv ν 0 4 = ν 83 14 := rfl
  have b := fp_to_b (i := i.toNat) (y := y) (s := s) hw (by decide) (by rw [e4]; omega) y1
  refine x_timeOver i y s h0 h1 f1 (hf.2.2 i.toNat (by omega)).1 y0 y1 (by omega) (by omega) ?_
  rw [mv_to (by omega)]
  exact k _ rfl b.1 b.2 (am_cR (by omega) (by omega))
theorem s_tenthsFrom {l : Launch} {ν : am_N} {Q : Option am_V → am_N → Prop} (i s : Int) (hw : fp_fw 999 (fv ν 1)) (h0 : 0 ≤ i) (h1 : i < ν 1 4) (s0 : 0 ≤ s) (s1 : s ≤ 99) (k : ∀ v : Int, v = fp_to (fv ν 1) i.toNat (fv ν 1 0 0 - s) s → 1 ≤ v → v ≤ 60000 → Q (some (.inl v)) ν) : am_Does l 9 [.inr (.inr 1), .inl i, .inl s] ν Q := by
  refine am_Does_of (Nat.le_of_ble_eq_true rfl) (Nat.le_of_ble_eq_true rfl) (Nat.le_of_ble_eq_true rfl) ?_
  have l0 : am_c 0 = 0 := rfl
  have l1 : am_c 1 = 1 := rfl
  have l2 : am_c 2 = 2 := rfl
  have l20 : am_c 20 = 20 := rfl
  have l99 : am_c 99 = 99 := rfl
  have l1000000000 : am_c 1000000000 = 1000000000 := rfl
  obtain ⟨hf, -, -, -, hway, -, -⟩ := fw_C hw (by decide)
  have f0 := hf.1.1
  have f1 := hf.1.2
  have e4 : fv ν 1 0 4 = ν 1 4 := fv_0 (by decide)
  have eW : fv ν 1 0 0 = ν 1 0 := fv_0 (by decide)
  refine am_go (ct := fun _ => false) am_oX0_tenthsFrom 300 ?_
  conv => whnf
  repeat' first
    | (refine (?_ : am_wp _ _ _ _ _ _ _ _ _ _ _ _); conv => whnf)
    | (refine (?_ : am_sw _ _ _ _); conv => whnf)
    | refine And.intro trivial ?_
    | exact trivial
    | refine s_tenthsOver _ _ _ hw ?_ ?_ ?_ ?_ ?_ ?_ (fun v ev v0 v1 cv => ?_)
    | refine k _ ?_ v0 v1
    | refine And.intro (fun h => absurd h (by decide)) (fun _ => ?_)
    | refine And.intro (fun _ => ?_) (fun h => absurd (by decide) h)
    | refine And.intro (fun _ => ?_) (fun _ => ?_)
    | refine And.intro ?_ ?_
  all_goals (first | decide | assumption | omega | (rw [eW]; exact ev) | (trace_state; fail))
theorem s_gained {l : Launch} {ν : am_N} {Q : Option am_V → am_N → Prop} (i s : Int) (hw : fp_fw 999 (fv ν 1)) (h0 : 0 ≤ i) (h1 : i < ν 1 4) (s0 : 0 ≤ s) (s1 : s ≤ 99) (k : ∀ v : Int, v = fp_wo (fv ν 1) i.toNat s → am_c v = v → Q (some (.inl v)) ν) : am_Does l 128 [.inr (.inr 0), .inl i, .inl s] ν Q := by
  refine am_Does_of (Nat.le_of_ble_eq_true rfl) (Nat.le_of_ble_eq_true rfl) (Nat.le_of_ble_eq_true rfl) ?_
  refine am_go (ct := fun _ => false) am_oX6_gained 300 ?_
  conv => whnf
  repeat' first
    | (refine (?_ : am_wp _ _ _ _ _ _ _ _ _ _ _ _); conv => whnf)
    | (refine (?_ : am_sw _ _ _ _); conv => whnf)
    | refine And.intro trivial ?_
    | exact trivial
    | refine s_tenthsFrom _ _ hw ?_ ?_ ?_ ?_ (fun v ev v0 v1 => ?_)
    | refine k _ ?_ (am_cR (by omega) (by omega))
    | refine And.intro (fun h => absurd h (by decide)) (fun _ => ?_)
    | refine And.intro (fun _ => ?_) (fun h => absurd (by decide) h)
    | refine And.intro (fun _ => ?_) (fun _ => ?_)
    | refine And.intro ?_ ?_
  all_goals (first | decide | assumption | omega | (unfold fp_wo; rw [← ev]; first | (rw [← by assumption]) | (congr 1; done) | (subst_vars; rfl)) | (unfold fp_wo; subst_vars; rfl) | (trace_state; fail))
theorem x_refuseHigh {l : Launch} {ν : am_N} {Q : Option am_V → am_N → Prop} (w : Int) (hw : w = -1 ∨ w = -2 ∨ w = -3 ∨ w = -4 ∨ w = -6) (k : ∀ μ' : am_N, (∀ a b, a ≠ 78 → μ' a b = ν a b) → Q (some (.inl (1000000000 - w))) μ') : am_Does l 114 [.inr (.inr 0), .inl w] ν Q := by
  refine am_Does_of (Nat.le_of_ble_eq_true rfl) (Nat.le_of_ble_eq_true rfl) (Nat.le_of_ble_eq_true rfl) ?_
  refine am_go (ct := fun _ => false) am_oX6_refuseHigh 300 ?_
  conv => whnf
  repeat' first
    | (refine (?_ : am_wp _ _ _ _ _ _ _ _ _ _ _ _); conv => whnf)
    | (refine (?_ : am_sw _ _ _ _); conv => whnf)
    | refine And.intro trivial ?_
    | exact trivial
    | refine x_refuse _ ?_ (fun μr fr => ?_)
    | exact k _ fr
    | refine And.intro (fun h => absurd h (by decide)) (fun _ => ?_)
    | refine And.intro (fun _ => ?_) (fun h => absurd (by decide) h)
    | refine And.intro (fun _ => ?_) (fun _ => ?_)
    | refine And.intro ?_ ?_
  all_goals (first | decide | assumption | (trace_state; fail))
theorem s_worth {l : Launch} {ν : am_N} {Q : Option am_V → am_N → Prop} (i s : Int) (ci : am_c i = i) (cs : am_c s = s) (hw : fp_fw 999 (fv ν 1)) (k : ∀ μ' : am_N, (∀ a b, a ≠ 78 → μ' a b = ν a b) → Q (some (.inl (fp_wr (fv ν 1) i s))) μ') : am_Does l 80 [.inr (.inr 0), .inl i, .inl s] ν Q := by
  refine am_Does_of (Nat.le_of_ble_eq_true rfl) (Nat.le_of_ble_eq_true rfl) (Nat.le_of_ble_eq_true rfl) ?_
  have l0 : am_c 0 = 0 := rfl
  have l1 : am_c 1 = 1 := rfl
  have l2 : am_c 2 = 2 := rfl
  have l20 : am_c 20 = 20 := rfl
  have l99 : am_c 99 = 99 := rfl
  have l1000000000 : am_c 1000000000 = 1000000000 := rfl
  obtain ⟨hf, -, -, -, hway, -, -⟩ := fw_C hw (by decide)
  have f0 := hf.1.1
  have f1 := hf.1.2
  have e4 : fv ν 1 0 4 = ν 1 4 := fv_0 (by decide)
  have eW : fv ν 1 0 0 = ν 1 0 := fv_0 (by decide)
  have kk := fun (x : Int) (μ' : am_N) (h : ∀ a b, a ≠ 78 → μ' a b = ν a b) (e : x = fp_wr (fv ν 1) i s) => am_qe (k μ' h) e
  refine am_go (ct := fun _ => false) am_oX6_worth 300 ?_
  conv => whnf
  repeat' first
    | (refine (?_ : am_wp _ _ _ _ _ _ _ _ _ _ _ _); conv => whnf)
    | (refine (?_ : am_sw _ _ _ _); conv => whnf)
    | refine And.intro trivial ?_
    | exact trivial
    | refine x_has1 _ f0 f1 (fun y0 y1 => ?_) (fun y => ?_)
    | refine x_refuseHigh _ ?_ (fun μr fr => ?_)
    | refine s_gained _ _ hw ?_ ?_ ?_ ?_ (fun v ev cv => ?_)
    | refine kk _ _ fr ?_
    | refine kk _ _ (fun _ _ _ => rfl) ?_
    | refine And.intro (fun h => absurd h (by decide)) (fun _ => ?_)
    | refine And.intro (fun _ => ?_) (fun h => absurd (by decide) h)
    | refine And.intro (fun _ => ?_) (fun _ => ?_)
    | refine And.intro ?_ ?_
  all_goals (first | decide | omega | (unfold fp_wr; rw [e4, if_neg (by omega), if_neg (by omega), if_neg (by omega)]; exact ev) | (unfold fp_wr; rw [e4, if_pos (by omega)]; rfl) | (unfold fp_wr; rw [e4, if_neg (by omega), if_pos (by omega)]; rfl) | (unfold fp_wr; rw [e4, if_neg (by omega), if_neg (by omega), if_pos (by omega)]; rfl) | (trace_state; fail))
theorem x_lower {l : Launch} {ν : am_N} {Q : Option am_V → am_N → Prop} (w : Int) (hw : w = -1 ∨ w = -2 ∨ w = -3 ∨ w = -4 ∨ w = -6) (k : ∀ μ' : am_N, (∀ a b, a ≠ 84 → μ' a b = ν a b) → Q (some (.inl (1000000000 - w))) μ') : am_Does l 141 [.inr (.inr 83), .inl w] ν Q := by
  refine am_Does_of (Nat.le_of_ble_eq_true rfl) (Nat.le_of_ble_eq_true rfl) (Nat.le_of_ble_eq_true rfl) ?_
  have cw : am_c (-w) = -w := am_cR (by omega) (by omega)
  refine am_go (ct := fun _ => false) am_oX7_lower 300 ?_
  conv => whnf
  repeat' first
    | (refine (?_ : am_wp _ _ _ _ _ _ _ _ _ _ _ _); conv => whnf)
    | (refine (?_ : am_sw _ _ _ _); conv => whnf)
    | refine And.intro trivial ?_
    | exact trivial
    | refine k _ ?_
    | refine And.intro (fun h => absurd h (by decide)) (fun _ => ?_)
    | refine And.intro (fun _ => ?_) (fun h => absurd (by decide) h)
    | refine And.intro (fun _ => ?_) (fun _ => ?_)
    | refine And.intro ?_ ?_
  all_goals (first | decide | omega | (intro a b h; exact am_upN h) | (simp only [cw] at *; omega) | (trace_state; fail))
theorem n_timeBy {l : Launch} {ν : am_N} {Q : Option am_V → am_N → Prop} (i s : Int) (hw : fp_fw 999 (mv ν)) (h0 : 0 ≤ i) (h1 : i < ν 83 14) (s0 : 0 ≤ s) (s1 : s ≤ 99) (k : ∀ v : Int, v = fp_to (mv ν) i.toNat (mv ν 0 0 - s) s → 1 ≤ v → v ≤ 60000 → Q (some (.inl v)) ν) : am_Does l 163 [.inr (.inr 83), .inl i, .inl s] ν Q := by
  refine am_Does_of (Nat.le_of_ble_eq_true rfl) (Nat.le_of_ble_eq_true rfl) (Nat.le_of_ble_eq_true rfl) ?_
  have l0 : am_c 0 = 0 := rfl
  have l1 : am_c 1 = 1 := rfl
  have l2 : am_c 2 = 2 := rfl
  have l20 : am_c 20 = 20 := rfl
  have l99 : am_c 99 = 99 := rfl
  have l1000000000 : am_c 1000000000 = 1000000000 := rfl
  have m1' : am_c (-1) = -1 := rfl
  have m4' : am_c (-4) = -4 := rfl
  have m6' : am_c (-6) = -6 := rfl
  have m2' : am_c (-2) = -2 := rfl
  obtain ⟨hf, -, -, -, hway, -, -⟩ := fw_M hw (by decide)
  have f0 := hf.1.1
  have f1 := hf.1.2
  have e4 : mv ν 0 4 = ν 83 14 := rfl
  have eW : mv ν 0 0 = ν 83 10 := rfl
  refine am_go (ct := fun _ => false) am_oX7_timeBy 300 ?_
  conv => whnf
  repeat' first
    | (refine (?_ : am_wp _ _ _ _ _ _ _ _ _ _ _ _); conv => whnf)
    | (refine (?_ : am_sw _ _ _ _); conv => whnf)
    | refine And.intro trivial ?_
    | exact trivial
    | refine n_timeOver _ _ _ hw ?_ ?_ ?_ ?_ ?_ ?_ (fun v ev v0 v1 cv => ?_)
    | refine k _ ?_ v0 v1
    | refine And.intro (fun h => absurd h (by decide)) (fun _ => ?_)
    | refine And.intro (fun _ => ?_) (fun h => absurd (by decide) h)
    | refine And.intro (fun _ => ?_) (fun _ => ?_)
    | refine And.intro ?_ ?_
  all_goals (first | decide | assumption | omega | exact ev | (trace_state; fail))
theorem n_worthOf {l : Launch} {ν : am_N} {Q : Option am_V → am_N → Prop} (i s : Int) (hw : fp_fw 999 (mv ν)) (h0 : 0 ≤ i) (h1 : i < ν 83 14) (s0 : 0 ≤ s) (s1 : s ≤ 99) (k : ∀ v : Int, v = fp_wo (mv ν) i.toNat s → am_c v = v → Q (some (.inl v)) ν) : am_Does l 206 [.inr (.inr 83), .inl i, .inl s] ν Q := by
  refine am_Does_of (Nat.le_of_ble_eq_true rfl) (Nat.le_of_ble_eq_true rfl) (Nat.le_of_ble_eq_true rfl) ?_
  refine am_go (ct := fun _ => false) am_oX7_worthOf 300 ?_
  conv => whnf
  repeat' first
    | (refine (?_ : am_wp _ _ _ _ _ _ _ _ _ _ _ _); conv => whnf)
    | (refine (?_ : am_sw _ _ _ _); conv => whnf)
    | refine And.intro trivial ?_
    | exact trivial
    | refine n_timeBy _ _ hw ?_ ?_ ?_ ?_ (fun v ev v0 v1 => ?_)
    | refine k _ ?_ (am_cR (by omega) (by omega))
    | refine And.intro (fun h => absurd h (by decide)) (fun _ => ?_)
    | refine And.intro (fun _ => ?_) (fun h => absurd (by decide) h)
    | refine And.intro (fun _ => ?_) (fun _ => ?_)
    | refine And.intro ?_ ?_
  all_goals (first | decide | assumption | omega | (unfold fp_wo; subst_vars; rfl) | (trace_state; fail))
theorem n_worth {l : Launch} {ν : am_N} {Q : Option am_V → am_N → Prop} (i s : Int) (ci : am_c i = i) (cs : am_c s = s) (hw : fp_fw 999 (mv ν)) (k : ∀ μ' : am_N, (∀ a b, a ≠ 84 → μ' a b = ν a b) → Q (some (.inl (fp_wr (mv ν) i s))) μ') : am_Does l 207 [.inr (.inr 83), .inl i, .inl s] ν Q := by
  refine am_Does_of (Nat.le_of_ble_eq_true rfl) (Nat.le_of_ble_eq_true rfl) (Nat.le_of_ble_eq_true rfl) ?_
  have l0 : am_c 0 = 0 := rfl
  have l1 : am_c 1 = 1 := rfl
  have l2 : am_c 2 = 2 := rfl
  have l20 : am_c 20 = 20 := rfl
  have l99 : am_c 99 = 99 := rfl
  have l1000000000 : am_c 1000000000 = 1000000000 := rfl
  have m1' : am_c (-1) = -1 := rfl
  have m4' : am_c (-4) = -4 := rfl
  have m6' : am_c (-6) = -6 := rfl
  have m2' : am_c (-2) = -2 := rfl
  obtain ⟨hf, -, -, -, hway, -, -⟩ := fw_M hw (by decide)
  have f0 := hf.1.1
  have f1 := hf.1.2
  have e4 : mv ν 0 4 = ν 83 14 := rfl
  have eW : mv ν 0 0 = ν 83 10 := rfl
  have kk := fun (x : Int) (μ' : am_N) (h : ∀ a b, a ≠ 84 → μ' a b = ν a b) (e : x = fp_wr (mv ν) i s) => am_qe (k μ' h) e
  refine am_go (ct := fun _ => false) am_oX7_worth 300 ?_
  conv => whnf
  repeat' first
    | (refine (?_ : am_wp _ _ _ _ _ _ _ _ _ _ _ _); conv => whnf)
    | (refine (?_ : am_sw _ _ _ _); conv => whnf)
    | refine And.intro trivial ?_
    | exact trivial
    | refine x_isRunnerT _ f0 f1 (fun y0 y1 => ?_) (fun y => ?_)
    | refine x_bound _ _ _ ?_ ?_ ?_ (fun _ => ?_) (fun _ => ?_) (fun _ _ => ?_)
    | refine x_lower _ ?_ (fun μr fr => ?_)
    | refine n_worthOf _ _ hw ?_ ?_ ?_ ?_ (fun v ev cv => ?_)
    | refine And.intro (fun h => absurd h (by omega)) (fun _ => ?_)
    | refine And.intro (fun _ => ?_) (fun h => absurd h (by omega))
    | refine kk _ _ fr ?_
    | refine kk _ _ (fun _ _ _ => rfl) ?_
    | refine And.intro (fun h => absurd h (by decide)) (fun _ => ?_)
    | refine And.intro (fun _ => ?_) (fun h => absurd (by decide) h)
    | refine And.intro (fun _ => ?_) (fun _ => ?_)
    | refine And.intro ?_ ?_
  all_goals (first | decide | omega | (unfold fp_wr; rw [e4, if_neg (by omega), if_neg (by omega), if_neg (by omega)]; exact ev) | (unfold fp_wr; rw [e4, if_pos (by omega)]; rfl) | (unfold fp_wr; rw [e4, if_neg (by omega), if_pos (by omega)]; rfl) | (unfold fp_wr; rw [e4, if_neg (by omega), if_neg (by omega), if_pos (by omega)]; rfl) | (trace_state; fail))
theorem x_notTwo {l : Launch} {ν : am_N} {Q : Option am_V → am_N → Prop} (i j : Int) (ci : am_c i = i) (cj : am_c j = j) (f0 : 0 ≤ ν 1 4) (f1 : ν 1 4 ≤ 4) (k1 : ¬((0 ≤ i ∧ i < ν 1 4) ∧ (0 ≤ j ∧ j < ν 1 4) ∧ i ≠ j) → Q (some (.inl 1)) ν) (k0 : (0 ≤ i ∧ i < ν 1 4) → (0 ≤ j ∧ j < ν 1 4) → i ≠ j → Q (some (.inl 0)) ν) : am_Does l 117 [.inr (.inr 0), .inl i, .inl j] ν Q := by
  refine am_Does_of (Nat.le_of_ble_eq_true rfl) (Nat.le_of_ble_eq_true rfl) (Nat.le_of_ble_eq_true rfl) ?_
  have l0 : am_c 0 = 0 := rfl
  have l1 : am_c 1 = 1 := rfl
  have l2 : am_c 2 = 2 := rfl
  have l20 : am_c 20 = 20 := rfl
  have l99 : am_c 99 = 99 := rfl
  have l1000000000 : am_c 1000000000 = 1000000000 := rfl
  refine am_go (ct := fun _ => false) am_oX6_notTwo 300 ?_
  conv => whnf
  repeat' first
    | (refine (?_ : am_wp _ _ _ _ _ _ _ _ _ _ _ _); conv => whnf)
    | (refine (?_ : am_sw _ _ _ _); conv => whnf)
    | refine And.intro trivial ?_
    | exact trivial
    | refine x_has1 _ f0 f1 (fun y0 y1 => ?_) (fun y => ?_)
    | refine x_has1 _ f0 f1 (fun z0 z1 => ?_) (fun z => ?_)
    | refine k1 ?_
    | refine k0 ?_ ?_ ?_
    | refine And.intro (fun h => absurd h (by decide)) (fun _ => ?_)
    | refine And.intro (fun _ => ?_) (fun h => absurd (by decide) h)
    | refine And.intro (fun _ => ?_) (fun _ => ?_)
    | refine And.intro ?_ ?_
  all_goals (first | decide | omega | (trace_state; fail))
theorem x_areTwoT {l : Launch} {ν : am_N} {Q : Option am_V → am_N → Prop} (i j : Int) (ci : am_c i = i) (cj : am_c j = j) (f0 : 0 ≤ ν 83 14) (f1 : ν 83 14 ≤ 4) (k1 : (0 ≤ i ∧ i < ν 83 14) → (0 ≤ j ∧ j < ν 83 14) → i ≠ j → Q (some (.inl 1)) ν) (k0 : ¬((0 ≤ i ∧ i < ν 83 14) ∧ (0 ≤ j ∧ j < ν 83 14) ∧ i ≠ j) → Q (some (.inl 0)) ν) : am_Does l 147 [.inr (.inr 83), .inl i, .inl j] ν Q := by
  refine am_Does_of (Nat.le_of_ble_eq_true rfl) (Nat.le_of_ble_eq_true rfl) (Nat.le_of_ble_eq_true rfl) ?_
  have l0 : am_c 0 = 0 := rfl
  have l1 : am_c 1 = 1 := rfl
  have l2 : am_c 2 = 2 := rfl
  have l20 : am_c 20 = 20 := rfl
  have l99 : am_c 99 = 99 := rfl
  have l1000000000 : am_c 1000000000 = 1000000000 := rfl
  refine am_go (ct := fun _ => false) am_oX7_areTwo 300 ?_
  conv => whnf
  repeat' first
    | (refine (?_ : am_wp _ _ _ _ _ _ _ _ _ _ _ _); conv => whnf)
    | (refine (?_ : am_sw _ _ _ _); conv => whnf)
    | refine And.intro trivial ?_
    | exact trivial
    | refine x_isRunnerT _ f0 f1 (fun y0 y1 => ?_) (fun y => ?_)
    | refine k1 ?_ ?_ ?_
    | refine k0 ?_
    | refine And.intro (fun h => absurd h (by decide)) (fun _ => ?_)
    | refine And.intro (fun _ => ?_) (fun h => absurd (by decide) h)
    | refine And.intro (fun _ => ?_) (fun _ => ?_)
    | refine And.intro ?_ ?_
  all_goals (first | decide | omega | (trace_state; fail))
theorem s_same {l : Launch} {ν : am_N} {Q : Option am_V → am_N → Prop} (i s j : Int) (ci : am_c i = i) (cs : am_c s = s) (cj : am_c j = j) (hw : fp_fw 999 (fv ν 1)) (k : ∀ μ' : am_N, (∀ a b, a ≠ 78 → μ' a b = ν a b) → Q (some (.inl (fp_sr (fv ν 1) i s j))) μ') : am_Does l 81 [.inr (.inr 0), .inl i, .inl s, .inl j] ν Q := by
  refine am_Does_of (Nat.le_of_ble_eq_true rfl) (Nat.le_of_ble_eq_true rfl) (Nat.le_of_ble_eq_true rfl) ?_
  have l0 : am_c 0 = 0 := rfl
  have l1 : am_c 1 = 1 := rfl
  have l2 : am_c 2 = 2 := rfl
  have l20 : am_c 20 = 20 := rfl
  have l99 : am_c 99 = 99 := rfl
  have l1000000000 : am_c 1000000000 = 1000000000 := rfl
  obtain ⟨hf, -, -, -, hway, -, -⟩ := fw_C hw (by decide)
  have f0 := hf.1.1
  have f1 := hf.1.2
  have e4 : fv ν 1 0 4 = ν 1 4 := fv_0 (by decide)
  have kk := fun (x : Int) (μ' : am_N) (h : ∀ a b, a ≠ 78 → μ' a b = ν a b) (e : x = fp_sr (fv ν 1) i s j) => am_qe (k μ' h) e
  have lp50 : ∀ (m : Nat) (w t : Int) , w = fp_wo (fv ν 1) i.toNat s → am_c w = w → 0 ≤ t → t ≤ 100 → fp_sm (fv ν 1) j.toNat w (100 - t).toNat t = fp_sm (fv ν 1) j.toNat w 100 0 → (0 ≤ i ∧ i < ν 1 4) → (0 ≤ j ∧ j < ν 1 4) → i ≠ j → (0 ≤ s ∧ s ≤ 99) → 100 - t < (m : Int) → am_AW l 0 (fun _ => 0) 81 Q 50 [some (.inr (.inr 0)), some (.inl i), some (.inl s), some (.inl j), some (.inl w), some (.inl t)] [] ν := by
    intro m
    induction m with
    | zero =>
      intro w t  hv0 hv1 hv2 hv3 hv4 hv5 hv6 hv7 hv8 hm
      exfalso
      omega
    | succ m ih =>
      intro w t  hv0 hv1 hv2 hv3 hv4 hv5 hv6 hv7 hv8 hm
      have ct : am_c t = t := am_cR (by omega) (by omega)
      refine am_go (ct := fun pc => Nat.beq pc 50) am_oX6_same 300 ?_
      conv => whnf
      repeat' first
        | (refine (?_ : am_wp _ _ _ _ _ _ _ _ _ _ _ _); conv => whnf)
        | (refine (?_ : am_sw _ _ _ _); conv => whnf)
        | refine And.intro trivial ?_
        | exact trivial
        | refine s_gained _ _ hw ?_ ?_ ?_ ?_ (fun v ev cv => ?_)
        | refine kk _ _ (fun _ _ _ => rfl) ?_
        | refine x_notTwo _ _ ci cj f0 f1 (fun y => ?_) (fun y0 y1 y2 => ?_)
        | refine x_refuse _ ?_ (fun μr fr => ?_)
        | refine s_gained _ _ hw ?_ ?_ ?_ ?_ (fun v ev cv => ?_)
        | refine kk _ _ fr ?_
        | refine ih _ _  ?_ ?_ ?_ ?_ ?_ ?_ ?_ ?_ ?_ ?_
        | refine And.intro (fun h => absurd h (by decide)) (fun _ => ?_)
        | refine And.intro (fun _ => ?_) (fun h => absurd (by decide) h)
        | refine And.intro (fun _ => ?_) (fun _ => ?_)
        | refine And.intro ?_ ?_
      all_goals (first | decide | assumption | omega | (unfold fp_sr; rw [e4, if_neg (by omega), if_neg (by omega), if_neg (by omega), ← hv0, ← hv4]; first | exact (fp_sm_y (by omega) (by omega)).symm | exact (fp_sm_z (by omega)).symm) | (rw [← hv4]; exact (fp_sm_s (by omega) (by omega)).symm) | (trace_state; fail))
  have lp50' : ∀ (w t : Int) , w = fp_wo (fv ν 1) i.toNat s → am_c w = w → 0 ≤ t → t ≤ 100 → fp_sm (fv ν 1) j.toNat w (100 - t).toNat t = fp_sm (fv ν 1) j.toNat w 100 0 → (0 ≤ i ∧ i < ν 1 4) → (0 ≤ j ∧ j < ν 1 4) → i ≠ j → (0 ≤ s ∧ s ≤ 99) → am_AW l 0 (fun _ => 0) 81 Q 50 [some (.inr (.inr 0)), some (.inl i), some (.inl s), some (.inl j), some (.inl w), some (.inl t)] [] ν := fun w t  hv0 hv1 hv2 hv3 hv4 hv5 hv6 hv7 hv8 => lp50 ((100 - t) + 1).toNat w t  hv0 hv1 hv2 hv3 hv4 hv5 hv6 hv7 hv8 (by omega)
  refine am_go (ct := fun pc => Nat.beq pc 50) am_oX6_same 300 ?_
  conv => whnf
  repeat' first
    | (refine (?_ : am_wp _ _ _ _ _ _ _ _ _ _ _ _); conv => whnf)
    | (refine (?_ : am_sw _ _ _ _); conv => whnf)
    | refine And.intro trivial ?_
    | exact trivial
    | refine x_notTwo _ _ ci cj f0 f1 (fun y => ?_) (fun y0 y1 y2 => ?_)
    | refine x_refuse _ ?_ (fun μr fr => ?_)
    | refine s_gained _ _ hw ?_ ?_ ?_ ?_ (fun v ev cv => ?_)
    | refine kk _ _ fr ?_
    | refine lp50' _ _  ?_ ?_ ?_ ?_ ?_ ?_ ?_ ?_ ?_
    | refine And.intro (fun h => absurd h (by decide)) (fun _ => ?_)
    | refine And.intro (fun _ => ?_) (fun h => absurd (by decide) h)
    | refine And.intro (fun _ => ?_) (fun _ => ?_)
    | refine And.intro ?_ ?_
  all_goals (first | decide | assumption | omega | rfl | (unfold fp_sr; rw [e4, if_pos (by omega)]; done) | (unfold fp_sr; rw [e4, if_neg (by omega), if_pos (by omega)]; done) | (unfold fp_sr; rw [e4, if_neg (by omega), if_neg (by omega), if_pos (by omega)]; done) | (trace_state; fail))
theorem n_same {l : Launch} {ν : am_N} {Q : Option am_V → am_N → Prop} (i s j : Int) (ci : am_c i = i) (cs : am_c s = s) (cj : am_c j = j) (hw : fp_fw 999 (mv ν)) (k : ∀ μ' : am_N, (∀ a b, a ≠ 84 → μ' a b = ν a b) → Q (some (.inl (fp_sr (mv ν) i s j))) μ') : am_Does l 208 [.inr (.inr 83), .inl i, .inl s, .inl j] ν Q := by
  refine am_Does_of (Nat.le_of_ble_eq_true rfl) (Nat.le_of_ble_eq_true rfl) (Nat.le_of_ble_eq_true rfl) ?_
  have l0 : am_c 0 = 0 := rfl
  have l1 : am_c 1 = 1 := rfl
  have l2 : am_c 2 = 2 := rfl
  have l20 : am_c 20 = 20 := rfl
  have l99 : am_c 99 = 99 := rfl
  have l1000000000 : am_c 1000000000 = 1000000000 := rfl
  have m1' : am_c (-1) = -1 := rfl
  have m4' : am_c (-4) = -4 := rfl
  have m6' : am_c (-6) = -6 := rfl
  obtain ⟨hf, -, -, -, hway, -, -⟩ := fw_M hw (by decide)
  have f0 := hf.1.1
  have f1 := hf.1.2
  have e4 : mv ν 0 4 = ν 83 14 := rfl
  have kk := fun (x : Int) (μ' : am_N) (h : ∀ a b, a ≠ 84 → μ' a b = ν a b) (e : x = fp_sr (mv ν) i s j) => am_qe (k μ' h) e
  have lp37 : ∀ (m : Nat) (y t : Int) , 0 ≤ t → t ≤ 100 → fp_sm (mv ν) j.toNat (fp_wo (mv ν) i.toNat s) (100 - t).toNat t = fp_sm (mv ν) j.toNat (fp_wo (mv ν) i.toNat s) 100 0 → (0 ≤ i ∧ i < ν 83 14) → (0 ≤ j ∧ j < ν 83 14) → i ≠ j → (0 ≤ s ∧ s ≤ 99) → 100 - t < (m : Int) → am_AW l 0 (fun _ => 0) 208 Q 37 [some (.inr (.inr 83)), some (.inl i), some (.inl s), some (.inl j), some (.inl y), some (.inl t)] [] ν := by
    intro m
    induction m with
    | zero =>
      intro y t  hv0 hv1 hv2 hv3 hv4 hv5 hv6 hm
      exfalso
      omega
    | succ m ih =>
      intro y t  hv0 hv1 hv2 hv3 hv4 hv5 hv6 hm
      have ct : am_c t = t := am_cR (by omega) (by omega)
      refine am_go (ct := fun pc => Nat.beq pc 37) am_oX7_same 300 ?_
      conv => whnf
      repeat' first
        | (refine (?_ : am_wp _ _ _ _ _ _ _ _ _ _ _ _); conv => whnf)
        | (refine (?_ : am_sw _ _ _ _); conv => whnf)
        | refine And.intro trivial ?_
        | exact trivial
        | refine n_worthOf _ _ hw ?_ ?_ ?_ ?_ (fun v ev cv => ?_)
        | refine kk _ _ (fun _ _ _ => rfl) ?_
        | refine x_areTwoT _ _ ci cj f0 f1 (fun y0 y1 y2 => ?_) (fun y => ?_)
        | refine x_bound _ _ _ ?_ ?_ ?_ (fun _ => ?_) (fun _ => ?_) (fun _ _ => ?_)
        | refine x_no _ ?_ (fun μr fr => ?_)
        | refine And.intro (fun h => absurd h (by omega)) (fun _ => ?_)
        | refine And.intro (fun _ => ?_) (fun h => absurd h (by omega))
        | refine kk _ _ fr ?_
        | refine ih _ _  ?_ ?_ ?_ ?_ ?_ ?_ ?_ ?_
        | refine And.intro (fun h => absurd h (by decide)) (fun _ => ?_)
        | refine And.intro (fun _ => ?_) (fun h => absurd (by decide) h)
        | refine And.intro (fun _ => ?_) (fun _ => ?_)
        | refine And.intro ?_ ?_
      all_goals (first | decide | assumption | omega | (unfold fp_sr; rw [e4, if_neg (by omega), if_neg (by omega), if_neg (by omega), ← hv2]; first | exact (fp_sm_y (by omega) (by omega)).symm | exact (fp_sm_z (by omega)).symm) | (rw [← hv2]; exact (fp_sm_s (by omega) (by omega)).symm) | (trace_state; fail))
  have lp37' : ∀ (y t : Int) , 0 ≤ t → t ≤ 100 → fp_sm (mv ν) j.toNat (fp_wo (mv ν) i.toNat s) (100 - t).toNat t = fp_sm (mv ν) j.toNat (fp_wo (mv ν) i.toNat s) 100 0 → (0 ≤ i ∧ i < ν 83 14) → (0 ≤ j ∧ j < ν 83 14) → i ≠ j → (0 ≤ s ∧ s ≤ 99) → am_AW l 0 (fun _ => 0) 208 Q 37 [some (.inr (.inr 83)), some (.inl i), some (.inl s), some (.inl j), some (.inl y), some (.inl t)] [] ν := fun y t  hv0 hv1 hv2 hv3 hv4 hv5 hv6 => lp37 ((100 - t) + 1).toNat y t  hv0 hv1 hv2 hv3 hv4 hv5 hv6 (by omega)
  refine am_go (ct := fun pc => Nat.beq pc 37) am_oX7_same 300 ?_
  conv => whnf
  repeat' first
    | (refine (?_ : am_wp _ _ _ _ _ _ _ _ _ _ _ _); conv => whnf)
    | (refine (?_ : am_sw _ _ _ _); conv => whnf)
    | refine And.intro trivial ?_
    | exact trivial
    | refine x_areTwoT _ _ ci cj f0 f1 (fun y0 y1 y2 => ?_) (fun y => ?_)
    | refine x_bound _ _ _ ?_ ?_ ?_ (fun _ => ?_) (fun _ => ?_) (fun _ _ => ?_)
    | refine x_no _ ?_ (fun μr fr => ?_)
    | refine And.intro (fun h => absurd h (by omega)) (fun _ => ?_)
    | refine And.intro (fun _ => ?_) (fun h => absurd h (by omega))
    | refine kk _ _ fr ?_
    | refine lp37' _ _  ?_ ?_ ?_ ?_ ?_ ?_ ?_
    | refine And.intro (fun h => absurd h (by decide)) (fun _ => ?_)
    | refine And.intro (fun _ => ?_) (fun h => absurd (by decide) h)
    | refine And.intro (fun _ => ?_) (fun _ => ?_)
    | refine And.intro ?_ ?_
  all_goals (first | decide | assumption | omega | rfl | (unfold fp_sr; rw [e4, if_pos (by omega)]; done) | (unfold fp_sr; rw [e4, if_neg (by omega), if_pos (by omega)]; done) | (unfold fp_sr; rw [e4, if_neg (by omega), if_neg (by omega), if_pos (by omega)]; done) | (trace_state; fail))
theorem x_noPart {l : Launch} {μ : am_N} {Q : Option am_V → am_N → Prop} (w : Int) (cw : am_c w = w) (k1 : ¬(w = 0 ∨ w = 1) → Q (some (.inl 1)) μ) (k0 : (w = 0 ∨ w = 1) → Q (some (.inl 0)) μ) : am_Does l 116 [.inl w] μ Q := by
  refine am_Does_of (Nat.le_of_ble_eq_true rfl) (Nat.le_of_ble_eq_true rfl) (Nat.le_of_ble_eq_true rfl) ?_
  have l1 : am_c 1 = 1 := rfl
  refine am_go (ct := fun _ => false) am_oX6_noPart 300 ?_
  conv => whnf
  repeat' first
    | (refine (?_ : am_wp _ _ _ _ _ _ _ _ _ _ _ _); conv => whnf)
    | (refine (?_ : am_sw _ _ _ _); conv => whnf)
    | refine And.intro trivial ?_
    | exact trivial
    | refine k1 ?_
    | refine k0 ?_
    | refine And.intro (fun h => absurd h (by decide)) (fun _ => ?_)
    | refine And.intro (fun _ => ?_) (fun h => absurd (by decide) h)
    | refine And.intro (fun _ => ?_) (fun _ => ?_)
    | refine And.intro ?_ ?_
  all_goals (first | decide | omega | (trace_state; fail))
theorem s_relay {l : Launch} {ν : am_N} {Q : Option am_V → am_N → Prop} (i j d : Int) (hw : fp_fw 999 (fv ν 1)) (hi : 0 ≤ i ∧ i < ν 1 4) (hj : 0 ≤ j ∧ j < ν 1 4) (hl : 0 ≤ d ∧ d ≤ 20) (k : ∀ v : Int, v = fp_rl (fv ν 1) i.toNat j.toNat d → 1 ≤ v → v ≤ 200000 → am_c v = v → Q (some (.inl v)) ν) : am_Does l 135 [.inr (.inr 0), .inl i, .inl j, .inl d] ν Q := by
  refine am_Does_of (Nat.le_of_ble_eq_true rfl) (Nat.le_of_ble_eq_true rfl) (Nat.le_of_ble_eq_true rfl) ?_
  have l0 : am_c 0 = 0 := rfl
  have l1 : am_c 1 = 1 := rfl
  have l2 : am_c 2 = 2 := rfl
  have l20 : am_c 20 = 20 := rfl
  have l99 : am_c 99 = 99 := rfl
  have l1000000000 : am_c 1000000000 = 1000000000 := rfl
  obtain ⟨hf, -, -, -, hway, -, -⟩ := fw_C hw (by decide)
  have f0 := hf.1.1
  have f1 := hf.1.2
  have e4 : fv ν 1 0 4 = ν 1 4 := fv_0 (by decide)
  have eW : fv ν 1 0 0 = ν 1 0 := fv_0 (by decide)
  have hd : 10 ≤ (ν 1 0).tdiv 2 ∧ (ν 1 0).tdiv 2 ≤ 100 := by rw [Int.tdiv_eq_ediv_of_nonneg (by omega)]; omega
  have cW : am_c (ν 1 0) = ν 1 0 := am_cR (by omega) (by omega)
  have cd : (am_c (ν 1 0)).tdiv 2 = (ν 1 0).tdiv 2 := by rw [cW]
  have cd2 : (am_c (ν 1 0)).tdiv (am_c 2) = (ν 1 0).tdiv 2 := by rw [cW]; rfl
  refine am_go (ct := fun _ => false) am_oX6_relay 300 ?_
  conv => whnf
  repeat' first
    | (refine (?_ : am_wp _ _ _ _ _ _ _ _ _ _ _ _); conv => whnf)
    | (refine (?_ : am_sw _ _ _ _); conv => whnf)
    | refine And.intro trivial ?_
    | exact trivial
    | refine s_tenthsOver _ _ _ hw ?_ ?_ ?_ ?_ ?_ ?_ (fun v ev v0 v1 cv => ?_)
    | (refine k _ ?_ ?_ ?_ (am_cR ?_ ?_))
    | refine And.intro (fun h => absurd h (by decide)) (fun _ => ?_)
    | refine And.intro (fun _ => ?_) (fun h => absurd (by decide) h)
    | refine And.intro (fun _ => ?_) (fun _ => ?_)
    | refine And.intro ?_ ?_
  all_goals (first | decide | assumption | omega | (simp only [cd2] at *; omega) | (unfold fp_rl; rw [eW]; simp only [cd2] at *; subst_vars; rfl) | (trace_state; fail))
theorem s_legs {l : Launch} {ν : am_N} {Q : Option am_V → am_N → Prop} (i j d w : Int) (ci : am_c i = i) (cj : am_c j = j) (cd : am_c d = d) (cw : am_c w = w) (hw : fp_fw 999 (fv ν 1)) (k : ∀ μ' : am_N, (∀ a b, a ≠ 78 → μ' a b = ν a b) → Q (some (.inl (fp_lg (fv ν 1) i j d w))) μ') : am_Does l 100 [.inr (.inr 0), .inl i, .inl j, .inl d, .inl w] ν Q := by
  refine am_Does_of (Nat.le_of_ble_eq_true rfl) (Nat.le_of_ble_eq_true rfl) (Nat.le_of_ble_eq_true rfl) ?_
  have l0 : am_c 0 = 0 := rfl
  have l1 : am_c 1 = 1 := rfl
  have l2 : am_c 2 = 2 := rfl
  have l20 : am_c 20 = 20 := rfl
  have l99 : am_c 99 = 99 := rfl
  have l1000000000 : am_c 1000000000 = 1000000000 := rfl
  obtain ⟨hf, -, -, -, hway, -, -⟩ := fw_C hw (by decide)
  have f0 := hf.1.1
  have f1 := hf.1.2
  have e4 : fv ν 1 0 4 = ν 1 4 := fv_0 (by decide)
  have eW : fv ν 1 0 0 = ν 1 0 := fv_0 (by decide)
  have kk := fun (x : Int) (μ' : am_N) (h : ∀ a b, a ≠ 78 → μ' a b = ν a b) (e : x = fp_lg (fv ν 1) i j d w) => am_qe (k μ' h) e
  refine am_go (ct := fun _ => false) am_oX6_legs 300 ?_
  conv => whnf
  repeat' first
    | (refine (?_ : am_wp _ _ _ _ _ _ _ _ _ _ _ _); conv => whnf)
    | (refine (?_ : am_sw _ _ _ _); conv => whnf)
    | refine And.intro trivial ?_
    | exact trivial
    | refine x_notTwo _ _ ci cj f0 f1 (fun y => ?_) (fun y0 y1 y2 => ?_)
    | refine x_refuse _ ?_ (fun μr fr => ?_)
    | refine x_noPart _ cw (fun z => ?_) (fun z => ?_)
    | (have _e := ev; refine s_relay _ _ _ hw ?_ ?_ ?_ (fun u eu u0 u1 cu => ?_))
    | refine s_relay _ _ _ hw ?_ ?_ ?_ (fun v ev v0 v1 cv => ?_)
    | refine kk _ _ fr ?_
    | refine kk _ _ (fun _ _ _ => rfl) ?_
    | refine And.intro (fun h => absurd h (by decide)) (fun _ => ?_)
    | refine And.intro (fun _ => ?_) (fun h => absurd (by decide) h)
    | refine And.intro (fun _ => ?_) (fun _ => ?_)
    | refine And.intro ?_ ?_
  all_goals (first | decide | assumption | omega | (unfold fp_lg; rw [e4, if_pos (by omega)]; done) | (unfold fp_lg; rw [e4, if_neg (by omega), if_pos (by omega)]; done) | (unfold fp_lg; rw [e4, if_neg (by omega), if_neg (by omega), if_pos (by omega)]; done) | (unfold fp_lg; rw [e4, if_neg (by omega), if_neg (by omega), if_neg (by omega), if_pos (by omega)]; done) | (rw [show fp_lg (fv ν 1) i j d w = (if v ≤ u then v else u) from (by unfold fp_lg; rw [e4, if_neg (by omega), if_neg (by omega), if_neg (by omega), if_neg (by omega), if_neg (by omega), ← ev, ← eu]), cv, cu]; (repeat' split) <;> omega) | (unfold fp_lg; rw [e4, if_neg (by omega), if_neg (by omega), if_neg (by omega), if_neg (by omega)]; subst_vars; (repeat' split) <;> first | rfl | omega) | (trace_state; fail))
theorem n_legsBy {l : Launch} {ν : am_N} {Q : Option am_V → am_N → Prop} (i j d : Int) (hw : fp_fw 999 (mv ν)) (hi : 0 ≤ i ∧ i < ν 83 14) (hj : 0 ≤ j ∧ j < ν 83 14) (hl : 0 ≤ d ∧ d ≤ 20) (k : ∀ v : Int, v = fp_rl (mv ν) i.toNat j.toNat d → 1 ≤ v → v ≤ 200000 → am_c v = v → Q (some (.inl v)) ν) : am_Does l 227 [.inr (.inr 83), .inl i, .inl j, .inl d] ν Q := by
  refine am_Does_of (Nat.le_of_ble_eq_true rfl) (Nat.le_of_ble_eq_true rfl) (Nat.le_of_ble_eq_true rfl) ?_
  have l0 : am_c 0 = 0 := rfl
  have l1 : am_c 1 = 1 := rfl
  have l2 : am_c 2 = 2 := rfl
  have l20 : am_c 20 = 20 := rfl
  have l99 : am_c 99 = 99 := rfl
  have l1000000000 : am_c 1000000000 = 1000000000 := rfl
  have m1' : am_c (-1) = -1 := rfl
  have m2' : am_c (-2) = -2 := rfl
  have m4' : am_c (-4) = -4 := rfl
  have m6' : am_c (-6) = -6 := rfl
  obtain ⟨hf, -, -, -, hway, -, -⟩ := fw_M hw (by decide)
  have f0 := hf.1.1
  have f1 := hf.1.2
  have e4 : mv ν 0 4 = ν 83 14 := rfl
  have eW : mv ν 0 0 = ν 83 10 := rfl
  have hd : 10 ≤ (ν 83 10).tdiv 2 ∧ (ν 83 10).tdiv 2 ≤ 100 := by rw [Int.tdiv_eq_ediv_of_nonneg (by omega)]; omega
  have cW : am_c (ν 83 10) = ν 83 10 := am_cR (by omega) (by omega)
  have cd : (am_c (ν 83 10)).tdiv 2 = (ν 83 10).tdiv 2 := by rw [cW]
  have cd2 : (am_c (ν 83 10)).tdiv (am_c 2) = (ν 83 10).tdiv 2 := by rw [cW]; rfl
  have er : ν 83 10 - ((ν 83 10).tdiv 2 + d) = ν 83 10 - (ν 83 10).tdiv 2 - d := by omega
  refine am_go (ct := fun _ => false) am_oX7_legsBy 300 ?_
  conv => whnf
  repeat' first
    | (refine (?_ : am_wp _ _ _ _ _ _ _ _ _ _ _ _); conv => whnf)
    | (refine (?_ : am_sw _ _ _ _); conv => whnf)
    | refine And.intro trivial ?_
    | exact trivial
    | refine n_timeOver _ _ _ hw ?_ ?_ ?_ ?_ ?_ ?_ (fun v ev v0 v1 cv => ?_)
    | (refine k _ ?_ ?_ ?_ (am_cR ?_ ?_))
    | refine And.intro (fun h => absurd h (by decide)) (fun _ => ?_)
    | refine And.intro (fun _ => ?_) (fun h => absurd (by decide) h)
    | refine And.intro (fun _ => ?_) (fun _ => ?_)
    | refine And.intro ?_ ?_
  all_goals (first | decide | assumption | omega | (simp only [cd2] at *; omega) | (unfold fp_rl; rw [eW, er]; simp only [cd2] at *; subst_vars; rfl) | (trace_state; fail))
theorem n_legs {l : Launch} {ν : am_N} {Q : Option am_V → am_N → Prop} (i j d w : Int) (ci : am_c i = i) (cj : am_c j = j) (cd : am_c d = d) (cw : am_c w = w) (hw : fp_fw 999 (mv ν)) (k : ∀ μ' : am_N, (∀ a b, a ≠ 84 → μ' a b = ν a b) → Q (some (.inl (fp_lg (mv ν) i j d w))) μ') : am_Does l 228 [.inr (.inr 83), .inl i, .inl j, .inl d, .inl w] ν Q := by
  refine am_Does_of (Nat.le_of_ble_eq_true rfl) (Nat.le_of_ble_eq_true rfl) (Nat.le_of_ble_eq_true rfl) ?_
  have l0 : am_c 0 = 0 := rfl
  have l1 : am_c 1 = 1 := rfl
  have l2 : am_c 2 = 2 := rfl
  have l20 : am_c 20 = 20 := rfl
  have l99 : am_c 99 = 99 := rfl
  have l1000000000 : am_c 1000000000 = 1000000000 := rfl
  have m1' : am_c (-1) = -1 := rfl
  have m2' : am_c (-2) = -2 := rfl
  have m4' : am_c (-4) = -4 := rfl
  have m6' : am_c (-6) = -6 := rfl
  obtain ⟨hf, -, -, -, hway, -, -⟩ := fw_M hw (by decide)
  have f0 := hf.1.1
  have f1 := hf.1.2
  have e4 : mv ν 0 4 = ν 83 14 := rfl
  have eW : mv ν 0 0 = ν 83 10 := rfl
  have kk := fun (x : Int) (μ' : am_N) (h : ∀ a b, a ≠ 84 → μ' a b = ν a b) (e : x = fp_lg (mv ν) i j d w) => am_qe (k μ' h) e
  refine am_go (ct := fun _ => false) am_oX7_legs 300 ?_
  conv => whnf
  repeat' first
    | (refine (?_ : am_wp _ _ _ _ _ _ _ _ _ _ _ _); conv => whnf)
    | (refine (?_ : am_sw _ _ _ _); conv => whnf)
    | refine And.intro trivial ?_
    | exact trivial
    | refine x_areTwoT _ _ ci cj f0 f1 (fun y0 y1 y2 => ?_) (fun y => ?_)
    | refine x_bound _ _ _ ?_ ?_ ?_ (fun _ => ?_) (fun _ => ?_) (fun _ _ => ?_)
    | refine x_isIn w _ _ _ rfl cw ?_ ?_ (fun _ _ => ?_) (fun _ => ?_)
    | refine x_no _ ?_ (fun μr fr => ?_)
    | refine n_legsBy _ _ _ hw ?_ ?_ ?_ (fun v ev v0 v1 cv => ?_)
    | refine And.intro (fun h => absurd h (by omega)) (fun _ => ?_)
    | refine And.intro (fun _ => ?_) (fun h => absurd h (by omega))
    | refine kk _ _ fr ?_
    | refine kk _ _ (fun _ _ _ => rfl) ?_
    | refine And.intro (fun h => absurd h (by decide)) (fun _ => ?_)
    | refine And.intro (fun _ => ?_) (fun h => absurd (by decide) h)
    | refine And.intro (fun _ => ?_) (fun _ => ?_)
    | refine And.intro ?_ ?_
  all_goals (first | decide | assumption | omega | (unfold fp_lg; rw [e4, if_pos (by omega)]; done) | (unfold fp_lg; rw [e4, if_neg (by omega), if_pos (by omega)]; done) | (unfold fp_lg; rw [e4, if_neg (by omega), if_neg (by omega), if_pos (by omega)]; done) | (unfold fp_lg; rw [e4, if_neg (by omega), if_neg (by omega), if_neg (by omega), if_pos (by omega)]; done) | (unfold fp_lg; rw [e4, if_neg (by omega), if_neg (by omega), if_neg (by omega), if_neg (by omega)]; subst_vars; (repeat' split) <;> first | rfl | omega) | (trace_state; fail))
