/-! TIME over some yards, of a picture -/
def fp_to (F : am_N) (i : Nat) (y s : Int) : Int := am_T (F 3 i) (F 2 i) (F 1 i) (F 0 1) (am_y y) s
theorem fv_to {μ : am_N} {i : Nat} {y s : Int} (h : i < 4) : am_T (μ 4 i) (μ 3 i) (μ 2 i) (μ 1 1) (am_y y) s = fp_to (fv μ 1) i y s := by
  have e3 : fv μ 1 3 i = μ 4 i := fv_a (by decide) (by decide) h
  have e2 : fv μ 1 2 i = μ 3 i := fv_a (by decide) (by decide) h
  have e1 : fv μ 1 1 i = μ 2 i := fv_a (by decide) (by decide) h
  have e0 : fv μ 1 0 1 = μ 1 1 := fv_0 (by decide)
  unfold fp_to
  rw [e3, e2, e1, e0]
theorem mv_to {μ : am_N} {i : Nat} {y s : Int} (h : i < 4) : am_T (μ 87 i) (μ 86 i) (μ 85 i) (μ 83 11) (am_y y) s = fp_to (mv μ) i y s := by
  have e3 : mv μ 3 i = μ 87 i := mv_a (a := 2) (by decide) h
  have e2 : mv μ 2 i = μ 86 i := mv_a (a := 1) (by decide) h
  have e1 : mv μ 1 i = μ 85 i := mv_a (a := 0) (by decide) h
  have e0 : mv μ 0 1 = μ 83 11 := rfl
  unfold fp_to
  rw [e3, e2, e1, e0]
theorem fp_to_b {W : Int} {F : am_N} {i : Nat} {y s : Int} (h : fp_fw W F) (hW : W ≤ 2000) (hi : (i : Int) < F 0 4) (y1 : y ≤ 1000) : 1 ≤ fp_to F i y s ∧ fp_to F i y s ≤ 60000 := by
  obtain ⟨a1, a2, a3, a4⟩ := h.2.2.2.2.2.2 i hi
  have w := h.2.1
  have b : 1 ≤ am_y y ∧ am_y y ≤ 1000 := by unfold am_y; split <;> omega
  exact am_T_b ⟨a3, a2, a1, ⟨w.1, by omega⟩⟩ b.1 b.2
theorem s_tenthsOver {l : Launch} {ν : am_N} {Q : Option am_V → am_N → Prop} (i y s : Int) (hw : fp_fw 999 (fv ν 1)) (h0 : 0 ≤ i) (h1 : i < ν 1 4) (y0 : -1000 ≤ y) (y1 : y ≤ 1000) (s0 : 0 ≤ s) (s1 : s ≤ 99) (k : ∀ v : Int, v = fp_to (fv ν 1) i.toNat y s → 1 ≤ v → v ≤ 60000 → am_c v = v → Q (some (.inl v)) ν) : am_Does l 10 [.inr (.inr 1), .inl i, .inl y, .inl s] ν Q := by
  obtain ⟨hf, -, -, -, -, -, -⟩ := fw_C hw (by decide)
  have f1 := hf.1.2
  have e4 : fv ν 1 0 4 = ν 1 4 := fv_0 (by decide)
  have b := fp_to_b (i := i.toNat) (y := y) (s := s) hw (by decide) (by rw [e4]; omega) y1
  refine x_tenthsOver_1 i y s h0 h1 f1 (hf.2.2 i.toNat (by omega)).1 y0 y1 (by omega) (by omega) ?_
  rw [fv_to (by omega)]
  exact k _ rfl b.1 b.2 (am_cR (by omega) (by omega))
theorem n_timeOver {l : Launch} {ν : am_N} {Q : Option am_V → am_N → Prop} (i y s : Int) (hw : fp_fw 999 (mv ν)) (h0 : 0 ≤ i) (h1 : i < ν 83 14) (y0 : -1000 ≤ y) (y1 : y ≤ 1000) (s0 : 0 ≤ s) (s1 : s ≤ 99) (k : ∀ v : Int, v = fp_to (mv ν) i.toNat y s → 1 ≤ v → v ≤ 60000 → am_c v = v → Q (some (.inl v)) ν) : am_Does l 162 [.inr (.inr 83), .inl i, .inl y, .inl s] ν Q := by
  obtain ⟨hf, -, -, -, -, -, -⟩ := fw_M hw (by decide)
  have f1 := hf.1.2
  have e4 : mv ν 0 4 = ν 83 14 := rfl
  have b := fp_to_b (i := i.toNat) (y := y) (s := s) hw (by decide) (by rw [e4]; omega) y1
  refine x_timeOver i y s h0 h1 f1 (hf.2.2 i.toNat (by omega)).1 y0 y1 (by omega) (by omega) ?_
  rw [mv_to (by omega)]
  exact k _ rfl b.1 b.2 (am_cR (by omega) (by omega))
theorem x_refuseHigh {l : Launch} {ν : am_N} {Q : Option am_V → am_N → Prop} (w : Int) (hw : w = -1 ∨ w = -2 ∨ w = -3 ∨ w = -4 ∨ w = -6) (k : ∀ μ' : am_N, (∀ a b, a ≠ 78 → μ' a b = ν a b) → Q (some (.inl (1000000000 - w))) μ') : am_Does l 114 [.inr (.inr 0), .inl w] ν Q := by
  refine am_Does_of (Nat.le_of_ble_eq_true rfl) (Nat.le_of_ble_eq_true rfl) (Nat.le_of_ble_eq_true rfl) ?_
  refine am_go (ct := fun _ => false) am_oX6_refuseHigh 300 ?_
  conv => whnf
  repeat' first
    | (refine (?_ : am_wp _ _ _ _ _ _ _ _ _ _ _ _); conv => whnf)
    | (refine (?_ : am_sw _ _ _ _); conv => whnf)
    | refine And.intro trivial ?_
    | exact trivial
    | refine x_refuse _ ?_ (fun μr fr => ?_)
    | exact k _ fr
    | refine And.intro (fun h => absurd h (by decide)) (fun _ => ?_)
    | refine And.intro (fun _ => ?_) (fun h => absurd (by decide) h)
    | refine And.intro (fun _ => ?_) (fun _ => ?_)
    | refine And.intro ?_ ?_
  all_goals (first | decide | assumption | (trace_state; fail))
theorem x_lower {l : Launch} {ν : am_N} {Q : Option am_V → am_N → Prop} (w : Int) (hw : w = -1 ∨ w = -2 ∨ w = -3 ∨ w = -4 ∨ w = -6) (k : ∀ μ' : am_N, (∀ a b, a ≠ 84 → μ' a b = ν a b) → Q (some (.inl (1000000000 - w))) μ') : am_Does l 141 [.inr (.inr 83), .inl w] ν Q := by
  refine am_Does_of (Nat.le_of_ble_eq_true rfl) (Nat.le_of_ble_eq_true rfl) (Nat.le_of_ble_eq_true rfl) ?_
  have cw : am_c (-w) = -w := am_cR (by omega) (by omega)
  refine am_go (ct := fun _ => false) am_oX7_lower 300 ?_
  conv => whnf
  repeat' first
    | (refine (?_ : am_wp _ _ _ _ _ _ _ _ _ _ _ _); conv => whnf)
    | (refine (?_ : am_sw _ _ _ _); conv => whnf)
    | refine And.intro trivial ?_
    | exact trivial
    | refine k _ ?_
    | refine And.intro (fun h => absurd h (by decide)) (fun _ => ?_)
    | refine And.intro (fun _ => ?_) (fun h => absurd (by decide) h)
    | refine And.intro (fun _ => ?_) (fun _ => ?_)
    | refine And.intro ?_ ?_
  all_goals (first | decide | omega | (intro a b h; exact am_upN h) | (simp only [cw] at *; omega) | (trace_state; fail))
theorem x_notTwo {l : Launch} {ν : am_N} {Q : Option am_V → am_N → Prop} (i j : Int) (ci : am_c i = i) (cj : am_c j = j) (f0 : 0 ≤ ν 1 4) (f1 : ν 1 4 ≤ 4) (k1 : ¬((0 ≤ i ∧ i < ν 1 4) ∧ (0 ≤ j ∧ j < ν 1 4) ∧ i ≠ j) → Q (some (.inl 1)) ν) (k0 : (0 ≤ i ∧ i < ν 1 4) → (0 ≤ j ∧ j < ν 1 4) → i ≠ j → Q (some (.inl 0)) ν) : am_Does l 117 [.inr (.inr 0), .inl i, .inl j] ν Q := by
  refine am_Does_of (Nat.le_of_ble_eq_true rfl) (Nat.le_of_ble_eq_true rfl) (Nat.le_of_ble_eq_true rfl) ?_
  have l0 : am_c 0 = 0 := rfl
  have l1 : am_c 1 = 1 := rfl
  have l2 : am_c 2 = 2 := rfl
  have l20 : am_c 20 = 20 := rfl
  have l99 : am_c 99 = 99 := rfl
  have l1000000000 : am_c 1000000000 = 1000000000 := rfl
  refine am_go (ct := fun _ => false) am_oX6_notTwo 300 ?_
  conv => whnf
  repeat' first
    | (refine (?_ : am_wp _ _ _ _ _ _ _ _ _ _ _ _); conv => whnf)
    | (refine (?_ : am_sw _ _ _ _); conv => whnf)
    | refine And.intro trivial ?_
    | exact trivial
    | refine x_has1 _ f0 f1 (fun y0 y1 => ?_) (fun y => ?_)
    | refine x_has1 _ f0 f1 (fun z0 z1 => ?_) (fun z => ?_)
    | refine k1 ?_
    | refine k0 ?_ ?_ ?_
    | refine And.intro (fun h => absurd h (by decide)) (fun _ => ?_)
    | refine And.intro (fun _ => ?_) (fun h => absurd (by decide) h)
    | refine And.intro (fun _ => ?_) (fun _ => ?_)
    | refine And.intro ?_ ?_
  all_goals (first | decide | omega | (trace_state; fail))
theorem x_areTwoT {l : Launch} {ν : am_N} {Q : Option am_V → am_N → Prop} (i j : Int) (ci : am_c i = i) (cj : am_c j = j) (f0 : 0 ≤ ν 83 14) (f1 : ν 83 14 ≤ 4) (k1 : (0 ≤ i ∧ i < ν 83 14) → (0 ≤ j ∧ j < ν 83 14) → i ≠ j → Q (some (.inl 1)) ν) (k0 : ¬((0 ≤ i ∧ i < ν 83 14) ∧ (0 ≤ j ∧ j < ν 83 14) ∧ i ≠ j) → Q (some (.inl 0)) ν) : am_Does l 147 [.inr (.inr 83), .inl i, .inl j] ν Q := by
  refine am_Does_of (Nat.le_of_ble_eq_true rfl) (Nat.le_of_ble_eq_true rfl) (Nat.le_of_ble_eq_true rfl) ?_
  have l0 : am_c 0 = 0 := rfl
  have l1 : am_c 1 = 1 := rfl
  have l2 : am_c 2 = 2 := rfl
  have l20 : am_c 20 = 20 := rfl
  have l99 : am_c 99 = 99 := rfl
  have l1000000000 : am_c 1000000000 = 1000000000 := rfl
  refine am_go (ct := fun _ => false) am_oX7_areTwo 300 ?_
  conv => whnf
  repeat' first
    | (refine (?_ : am_wp _ _ _ _ _ _ _ _ _ _ _ _); conv => whnf)
    | (refine (?_ : am_sw _ _ _ _); conv => whnf)
    | refine And.intro trivial ?_
    | exact trivial
    | refine x_isRunnerT _ f0 f1 (fun y0 y1 => ?_) (fun y => ?_)
    | refine k1 ?_ ?_ ?_
    | refine k0 ?_
    | refine And.intro (fun h => absurd h (by decide)) (fun _ => ?_)
    | refine And.intro (fun _ => ?_) (fun h => absurd (by decide) h)
    | refine And.intro (fun _ => ?_) (fun _ => ?_)
    | refine And.intro ?_ ?_
  all_goals (first | decide | omega | (trace_state; fail))
theorem x_noPart {l : Launch} {μ : am_N} {Q : Option am_V → am_N → Prop} (w : Int) (cw : am_c w = w) (k1 : ¬(w = 0 ∨ w = 1) → Q (some (.inl 1)) μ) (k0 : (w = 0 ∨ w = 1) → Q (some (.inl 0)) μ) : am_Does l 116 [.inl w] μ Q := by
  refine am_Does_of (Nat.le_of_ble_eq_true rfl) (Nat.le_of_ble_eq_true rfl) (Nat.le_of_ble_eq_true rfl) ?_
  have l1 : am_c 1 = 1 := rfl
  refine am_go (ct := fun _ => false) am_oX6_noPart 300 ?_
  conv => whnf
  repeat' first
    | (refine (?_ : am_wp _ _ _ _ _ _ _ _ _ _ _ _); conv => whnf)
    | (refine (?_ : am_sw _ _ _ _); conv => whnf)
    | refine And.intro trivial ?_
    | exact trivial
    | refine k1 ?_
    | refine k0 ?_
    | refine And.intro (fun h => absurd h (by decide)) (fun _ => ?_)
    | refine And.intro (fun _ => ?_) (fun h => absurd (by decide) h)
    | refine And.intro (fun _ => ?_) (fun _ => ?_)
    | refine And.intro ?_ ?_
  all_goals (first | decide | omega | (trace_state; fail))
