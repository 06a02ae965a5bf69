theorem s_feedF {l : Launch} {ν : am_N} {Q : Option am_V → am_N → Prop} (v : Int) (cv : am_c v = v) (hS : sx ν ν) (k1 : (0 ≤ v ∧ v ≤ 255) → ν 36 1 < 96 → ∀ μ' : am_N, (∀ a b, ¬(a = 36 ∧ b = 1) → a ≠ 37 → μ' a b = ν a b) → μ' 36 1 = ν 36 1 + 1 → (∀ b, μ' 37 b = if b = (ν 36 1).toNat then v else ν 37 b) → Q (some (.inl (ν 36 1 + 1))) μ') (k0 : ∀ (r : Int) (μ' : am_N), ((v < 0 ∧ r = -4) ∨ (255 < v ∧ r = -6) ∨ ((0 ≤ v ∧ v ≤ 255) ∧ ν 36 1 = 96 ∧ r = -6)) → (∀ a b, a ≠ 78 → μ' a b = ν a b) → Q (some (.inl r)) μ') : am_Does l 61 [.inr (.inr 0), .inl v] ν Q :=
  s_feed v cv hS (fun a1 a2 => k1 a1 a2 _ (fun a b q1 q2 => (am_upN q2).trans (am_uE q1)) ((am_upN (by decide)).trans (if_pos ⟨rfl, rfl⟩)) (fun b => by by_cases d : b = (ν 36 1).toNat; (rw [am_upS, if_pos ⟨rfl, d⟩, if_pos d]); (rw [am_upM d, if_neg d]; exact am_upN (by decide)))) k0
theorem n_feedF {l : Launch} {ν : am_N} {Q : Option am_V → am_N → Prop} (v : Int) (cv : am_c v = v) (n0 : 0 ≤ ν 83 21) (n1 : ν 83 21 ≤ 96) (k1 : (0 ≤ v ∧ v ≤ 255) → ν 83 21 < 96 → ∀ μ' : am_N, (∀ a b, a ≠ 94 → ¬(a = 83 ∧ b = 21) → μ' a b = ν a b) → μ' 83 21 = ν 83 21 + 1 → (∀ b, μ' 94 b = if b = (ν 83 21).toNat then v else ν 94 b) → Q (some (.inl (ν 83 21 + 1))) μ') (k0 : ∀ (r : Int) (μ' : am_N), ((v < 0 ∧ r = -4) ∨ (255 < v ∧ r = -6) ∨ ((0 ≤ v ∧ v ≤ 255) ∧ ν 83 21 = 96 ∧ r = -6)) → (∀ a b, a ≠ 84 → μ' a b = ν a b) → Q (some (.inl r)) μ') : am_Does l 148 [.inr (.inr 83), .inl v] ν Q :=
  n_feed v cv n0 n1 (fun a1 a2 => k1 a1 a2 _ (fun a b q1 q2 => (am_uE q2).trans (am_upN q1)) (if_pos ⟨rfl, rfl⟩) (fun b => by rw [am_upN (by decide)]; by_cases d : b = (ν 83 21).toNat; (rw [am_upS, if_pos ⟨rfl, d⟩, if_pos d]); (rw [am_upM d, if_neg d]))) k0
theorem fp_ru_0 {F : am_N} {i w : Int} (h : 0 ≤ i ∧ i < F 0 4) (hw : w = 0) : fp_ru F i w = F 1 i.toNat := by
  unfold fp_ru
  rw [if_neg (fun z => z h), if_pos hw]
theorem fp_ru_1 {F : am_N} {i w : Int} (h : 0 ≤ i ∧ i < F 0 4) (hw : w = 1) : fp_ru F i w = F 2 i.toNat := by
  unfold fp_ru
  rw [if_neg (fun z => z h), if_neg (by omega), if_pos hw]
theorem fp_ru_2 {F : am_N} {i w : Int} (h : 0 ≤ i ∧ i < F 0 4) (hw : w = 2) : fp_ru F i w = F 3 i.toNat := by
  unfold fp_ru
  rw [if_neg (fun z => z h), if_neg (by omega), if_neg (by omega), if_pos hw]
theorem fp_ru_3 {F : am_N} {i w : Int} (h : 0 ≤ i ∧ i < F 0 4) (hw : w = 3) : fp_ru F i w = F 4 i.toNat := by
  unfold fp_ru
  rw [if_neg (fun z => z h), if_neg (by omega), if_neg (by omega), if_neg (by omega), if_pos hw]
theorem fp_ru_4 {F : am_N} {i w : Int} (h : 0 ≤ i ∧ i < F 0 4) (hw : w = 4) : fp_ru F i w = F 5 i.toNat := by
  unfold fp_ru
  rw [if_neg (fun z => z h), if_neg (by omega), if_neg (by omega), if_neg (by omega), if_neg (by omega), if_pos hw]
theorem fp_ru_5 {F : am_N} {i w : Int} (h : 0 ≤ i ∧ i < F 0 4) (hw : w = 5) : fp_ru F i w = fp_tf F i.toNat := by
  unfold fp_ru
  rw [if_neg (fun z => z h), if_neg (by omega), if_neg (by omega), if_neg (by omega), if_neg (by omega), if_neg (by omega), if_pos hw]
theorem fp_ru_6 {F : am_N} {i w : Int} (h : 0 ≤ i ∧ i < F 0 4) (hw : w = 6) : fp_ru F i w = F 6 i.toNat := by
  unfold fp_ru
  rw [if_neg (fun z => z h), if_neg (by omega), if_neg (by omega), if_neg (by omega), if_neg (by omega), if_neg (by omega), if_neg (by omega), if_pos hw]
theorem fp_ru_7 {F : am_N} {i w : Int} (h : 0 ≤ i ∧ i < F 0 4) (hw : ¬(0 ≤ w ∧ w ≤ 6)) : fp_ru F i w = -2 := by
  unfold fp_ru
  rw [if_neg (fun z => z h), if_neg (by omega), if_neg (by omega), if_neg (by omega), if_neg (by omega), if_neg (by omega), if_neg (by omega), if_neg (by omega)]
theorem s_runner {l : Launch} {ν : am_N} {Q : Option am_V → am_N → Prop} (i w : Int) (ci : am_c i = i) (cw : am_c w = w) (hw : fp_fw 999 (fv ν 1)) (k : ∀ μ' : am_N, (∀ a b, a ≠ 78 → μ' a b = ν a b) → Q (some (.inl (fp_ru (fv ν 1) i w))) μ') : am_Does l 63 [.inr (.inr 0), .inl i, .inl w] ν Q := by
  refine am_Does_of (Nat.le_of_ble_eq_true rfl) (Nat.le_of_ble_eq_true rfl) (Nat.le_of_ble_eq_true rfl) ?_
  have l0 : am_c 0 = 0 := rfl
  have l1 : am_c 1 = 1 := rfl
  have l2 : am_c 2 = 2 := rfl
  have l3 : am_c 3 = 3 := rfl
  have l4 : am_c 4 = 4 := rfl
  have l5 : am_c 5 = 5 := rfl
  have l6 : am_c 6 = 6 := rfl
  obtain ⟨hf, -, -, -, -, -, -⟩ := fw_C hw (by decide)
  have f0 := hf.1.1
  have f1 := hf.1.2
  have kk := fun (x : Int) (e : x = fp_ru (fv ν 1) i w) (μ' : am_N) (h : ∀ a b, a ≠ 78 → μ' a b = ν a b) => am_qe (k μ' h) e
  refine am_go (ct := fun _ => false) am_oX6_runner 300 ?_
  conv => whnf
  repeat' first
    | (refine (?_ : am_wp _ _ _ _ _ _ _ _ _ _ _ _); conv => whnf)
    | (refine (?_ : am_sw _ _ _ _); conv => whnf)
    | refine And.intro trivial ?_
    | exact trivial
    | ((with_reducible refine (?_ : am_Does _ 1 _ _ _)); refine x_has1 _ f0 f1 (fun y0 y1 => ?_) (fun y => ?_))
    | ((with_reducible refine (?_ : am_Does _ 113 _ _ _)); refine x_refuse _ ?_ (fun μr fr => ?_))
    | ((with_reducible refine (?_ : am_Does _ 8 _ _ _)); (refine x_tenths_1 i ?_ ?_ hf ?_))
    | exact kk _ (by first | (rw [fp_ru_7 (show 0 ≤ i ∧ i < fv ν 1 0 4 by rw [fv_0 (by decide)]; omega) (by omega)]; done) | (rw [fp_ru_n (show ¬(0 ≤ i ∧ i < fv ν 1 0 4) by rw [fv_0 (by decide)]; omega)]; done)) _ fr
    | refine kk _ ?_ _ (fun _ _ _ => rfl)
    | refine And.intro (fun h => absurd h (by decide)) (fun _ => ?_)
    | refine And.intro (fun _ => ?_) (fun h => absurd (by decide) h)
    | refine And.intro (fun _ => ?_) (fun _ => ?_)
    | refine And.intro ?_ ?_
  all_goals (first | decide | omega | (rw [fp_ru_0 (show 0 ≤ i ∧ i < fv ν 1 0 4 by rw [fv_0 (by decide)]; omega) (by omega), fv_a (by decide) (by decide) (by omega), ci]) | (rw [fp_ru_1 (show 0 ≤ i ∧ i < fv ν 1 0 4 by rw [fv_0 (by decide)]; omega) (by omega), fv_a (by decide) (by decide) (by omega), ci]) | (rw [fp_ru_2 (show 0 ≤ i ∧ i < fv ν 1 0 4 by rw [fv_0 (by decide)]; omega) (by omega), fv_a (by decide) (by decide) (by omega), ci]) | (rw [fp_ru_3 (show 0 ≤ i ∧ i < fv ν 1 0 4 by rw [fv_0 (by decide)]; omega) (by omega), fv_a (by decide) (by decide) (by omega), ci]) | (rw [fp_ru_4 (show 0 ≤ i ∧ i < fv ν 1 0 4 by rw [fv_0 (by decide)]; omega) (by omega), fv_a (by decide) (by decide) (by omega), ci]) | (rw [fp_ru_6 (show 0 ≤ i ∧ i < fv ν 1 0 4 by rw [fv_0 (by decide)]; omega) (by omega), fv_a (by decide) (by decide) (by omega), ci]) | (rw [fp_ru_5 (show 0 ≤ i ∧ i < fv ν 1 0 4 by rw [fv_0 (by decide)]; omega) (by omega), ← fv_T (by omega)]) | (rw [fp_ru_7 (show 0 ≤ i ∧ i < fv ν 1 0 4 by rw [fv_0 (by decide)]; omega) (by omega)]) | (rw [fp_ru_n (show ¬(0 ≤ i ∧ i < fv ν 1 0 4) by rw [fv_0 (by decide)]; omega)]) | (trace_state; fail))
