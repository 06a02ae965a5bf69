/-! the changes as the law takes them -/
theorem fv_up0 {μ : am_N} {c j : Nat} {v : Int} : fv (am_up μ c j v) c = fp_ct (am_up (fv μ c) 0 j v) := by
  refine fp_ct_e (fun b hb => ?_) (fun x b q1 q2 hb => ?_)
  · by_cases d : b = j
    · rw [am_upS, if_pos ⟨rfl, d⟩, am_upS, if_pos ⟨rfl, d⟩]
    · rw [am_upM d, am_upM d]; exact (fv_0 hb).symm
  · rw [am_upN (by omega), am_upN (by omega)]; exact (fv_a q1 q2 hb).symm
theorem fv_d {μ : am_N} {v : Int} : fv (am_up μ 62 3 v) 1 = fv μ 1 := fv_keep (fun a b h1 h2 => am_upN (by omega))
theorem mv_d {μ : am_N} {v : Int} : mv (am_up μ 83 33 v) = mv μ := mv_keep (fun a b q => am_uE (by omega))
theorem fw_set {F : am_N} {w v : Int} (h : fp_fw 999 F) (hw : 0 ≤ w ∧ w ≤ 3) (hv : fp_sb w v) : fp_fw 999 (am_up F 0 (fp_sl w) v) := by
  obtain ⟨h0, h1, h2, h3, h4, h5, h6⟩ := h
  have ea : ∀ a b : Nat, 0 < a → am_up F 0 (fp_sl w) v a b = F a b := fun a b ha => am_upN (by omega)
  rcases (show w = 0 ∨ w = 1 ∨ w = 2 ∨ w = 3 by omega) with rfl | rfl | rfl | rfl
  · exact fw_way ⟨h0, h1, h2, h3, h4, h5, h6⟩ hv
  · have hv : 0 ≤ v ∧ v ≤ 4 := hv
    have e : ∀ b : Nat, b ≠ 2 → am_up F 0 (fp_sl 1) v 0 b = F 0 b := fun b hb => am_upM hb
    have e4 : am_up F 0 (fp_sl 1) v 0 2 = v := if_pos ⟨rfl, rfl⟩
    unfold fp_fw
    rw [e 0 (by decide), e 1 (by decide), e4, e 3 (by decide), e 4 (by decide)]
    refine ⟨h0, h1, hv, h3, h4, fun i hi => ?_, fun i hi => ?_⟩
    · rw [ea 5 i (by decide)]; exact h5 i hi
    · rw [ea 1 i (by decide), ea 2 i (by decide), ea 3 i (by decide), ea 4 i (by decide)]; exact h6 i hi
  · have hv : 1 ≤ v ∧ v ≤ 9 := hv
    have e : ∀ b : Nat, b ≠ 3 → am_up F 0 (fp_sl 2) v 0 b = F 0 b := fun b hb => am_upM hb
    have e4 : am_up F 0 (fp_sl 2) v 0 3 = v := if_pos ⟨rfl, rfl⟩
    unfold fp_fw
    rw [e 0 (by decide), e 1 (by decide), e 2 (by decide), e4, e 4 (by decide)]
    refine ⟨h0, h1, h2, hv, h4, fun i hi => ?_, fun i hi => ?_⟩
    · rw [ea 5 i (by decide)]; exact h5 i hi
    · rw [ea 1 i (by decide), ea 2 i (by decide), ea 3 i (by decide), ea 4 i (by decide)]; exact h6 i hi
  · have hv : 0 ≤ v ∧ v ≤ 999 := hv
    have e : ∀ b : Nat, b ≠ 1 → am_up F 0 (fp_sl 3) v 0 b = F 0 b := fun b hb => am_upM hb
    have e4 : am_up F 0 (fp_sl 3) v 0 1 = v := if_pos ⟨rfl, rfl⟩
    unfold fp_fw
    rw [e 0 (by decide), e4, e 2 (by decide), e 3 (by decide), e 4 (by decide)]
    refine ⟨h0, hv, h2, h3, h4, fun i hi => ?_, fun i hi => ?_⟩
    · rw [ea 5 i (by decide)]; exact h5 i hi
    · rw [ea 1 i (by decide), ea 2 i (by decide), ea 3 i (by decide), ea 4 i (by decide)]; exact h6 i hi
/-- the answer of runner() -/
def fp_ru (F : am_N) (i w : Int) : Int := if ¬(0 ≤ i ∧ i < F 0 4) then -1 else if w = 0 then F 1 i.toNat else if w = 1 then F 2 i.toNat else if w = 2 then F 3 i.toNat else if w = 3 then F 4 i.toNat else if w = 4 then F 5 i.toNat else if w = 5 then fp_tf F i.toNat else if w = 6 then F 6 i.toNat else -2
theorem fp_ru_n {F : am_N} {i w : Int} (h : ¬(0 ≤ i ∧ i < F 0 4)) : fp_ru F i w = -1 := if_pos h
theorem s_startF {l : Launch} {ν : am_N} {Q : Option am_V → am_N → Prop} (i v : Int) (ci : am_c i = i) (cv : am_c v = v) (f0 : 0 ≤ ν 1 4) (f1 : ν 1 4 ≤ 4) (k1 : (0 ≤ i ∧ i < ν 1 4) → (0 ≤ v ∧ v ≤ 99) → ∀ μ' : am_N, (∀ a b, ¬(1 ≤ a ∧ a ≤ 7) → ¬(a = 62 ∧ b = 3) → μ' a b = ν a b) → fv μ' 1 = fp_ct (am_up (fv ν 1) 5 i.toNat v) → μ' 62 3 = 0 → Q (some (.inl (ν 6 i.toNat))) μ') (k0 : ∀ (r : Int) (μ' : am_N), ((¬(0 ≤ i ∧ i < ν 1 4) ∧ r = -1) ∨ ((0 ≤ i ∧ i < ν 1 4) ∧ v < 0 ∧ r = -4) ∨ ((0 ≤ i ∧ i < ν 1 4) ∧ 99 < v ∧ r = -6)) → (∀ a b, a ≠ 78 → μ' a b = ν a b) → Q (some (.inl r)) μ') : am_Does l 64 [.inr (.inr 0), .inl i, .inl v] ν Q :=
  s_start i v ci cv f0 f1 (fun a1 a2 => k1 a1 a2 _ (fun a b q1 q2 => (am_uE q2).trans (am_upN (by omega))) (fv_d.trans (fv_up (c := 1) (a := 5) (by decide))) (if_pos ⟨rfl, rfl⟩)) k0
theorem n_startF {l : Launch} {ν : am_N} {Q : Option am_V → am_N → Prop} (i v : Int) (ci : am_c i = i) (cv : am_c v = v) (f0 : 0 ≤ ν 83 14) (f1 : ν 83 14 ≤ 4) (k1 : (0 ≤ i ∧ i < ν 83 14) → (0 ≤ v ∧ v ≤ 99) → ∀ μ' : am_N, (∀ a b, ¬(85 ≤ a ∧ a ≤ 90) → ¬(a = 83 ∧ (10 ≤ b ∧ b ≤ 14 ∨ b = 33)) → μ' a b = ν a b) → mv μ' = fp_ct (am_up (mv ν) 5 i.toNat v) → μ' 83 33 = 0 → Q (some (.inl (ν 89 i.toNat))) μ') (k0 : ∀ (r : Int) (μ' : am_N), ((¬(0 ≤ i ∧ i < ν 83 14) ∧ r = -1) ∨ ((0 ≤ i ∧ i < ν 83 14) ∧ v < 0 ∧ r = -4) ∨ ((0 ≤ i ∧ i < ν 83 14) ∧ 99 < v ∧ r = -6)) → (∀ a b, a ≠ 84 → μ' a b = ν a b) → Q (some (.inl r)) μ') : am_Does l 174 [.inr (.inr 83), .inl i, .inl v] ν Q :=
  n_start i v ci cv f0 f1 (fun a1 a2 => k1 a1 a2 _ (fun a b q1 q2 => (am_uE (by omega)).trans (am_upN (by omega))) (mv_d.trans (mv_up (a := 4))) (if_pos ⟨rfl, rfl⟩)) k0
theorem s_kindF {l : Launch} {ν : am_N} {Q : Option am_V → am_N → Prop} (i q g : Int) (ci : am_c i = i) (cq : am_c q = q) (cg : am_c g = g) (f0 : 0 ≤ ν 1 4) (f1 : ν 1 4 ≤ 4) (k1 : (0 ≤ i ∧ i < ν 1 4) → (0 ≤ q ∧ q ≤ 5) → (0 ≤ g ∧ g ≤ 9) → ∀ μ' : am_N, (∀ a b, ¬(1 ≤ a ∧ a ≤ 7) → ¬(a = 62 ∧ b = 3) → μ' a b = ν a b) → fv μ' 1 = fp_ct (am_up (am_up (fv ν 1) 1 i.toNat q) 2 i.toNat g) → μ' 62 3 = 0 → Q (some (.inl (10 * ν 2 i.toNat + ν 3 i.toNat))) μ') (k0 : ∀ (r : Int) (μ' : am_N), ((¬(0 ≤ i ∧ i < ν 1 4) ∧ r = -1) ∨ ((0 ≤ i ∧ i < ν 1 4) ∧ ¬(0 ≤ q ∧ q ≤ 5) ∧ r = -2) ∨ ((0 ≤ i ∧ i < ν 1 4) ∧ (0 ≤ q ∧ q ≤ 5) ∧ g < 0 ∧ r = -4) ∨ ((0 ≤ i ∧ i < ν 1 4) ∧ (0 ≤ q ∧ q ≤ 5) ∧ 9 < g ∧ r = -6)) → (∀ a b, a ≠ 78 → μ' a b = ν a b) → Q (some (.inl r)) μ') : am_Does l 65 [.inr (.inr 0), .inl i, .inl q, .inl g] ν Q :=
  s_kind i q g ci cq cg f0 f1 (fun a1 a2 a3 => k1 a1 a2 a3 _ (fun a b q1 q2 => (am_uE q2).trans ((am_upN (by omega)).trans (am_upN (by omega)))) (fv_d.trans ((fv_up (c := 1) (a := 2) (by decide)).trans (by rw [show fv (am_up ν 2 i.toNat q) 1 = fp_ct (am_up (fv ν 1) 1 i.toNat q) from fv_up (c := 1) (a := 1) (by decide)]; exact fp_ct2))) (if_pos ⟨rfl, rfl⟩)) k0
theorem n_kindF {l : Launch} {ν : am_N} {Q : Option am_V → am_N → Prop} (i q g : Int) (ci : am_c i = i) (cq : am_c q = q) (cg : am_c g = g) (f0 : 0 ≤ ν 83 14) (f1 : ν 83 14 ≤ 4) (k1 : (0 ≤ i ∧ i < ν 83 14) → (0 ≤ q ∧ q ≤ 5) → (0 ≤ g ∧ g ≤ 9) → ∀ μ' : am_N, (∀ a b, ¬(85 ≤ a ∧ a ≤ 90) → ¬(a = 83 ∧ (10 ≤ b ∧ b ≤ 14 ∨ b = 33)) → μ' a b = ν a b) → mv μ' = fp_ct (am_up (am_up (mv ν) 1 i.toNat q) 2 i.toNat g) → μ' 83 33 = 0 → Q (some (.inl (10 * ν 85 i.toNat + ν 86 i.toNat))) μ') (k0 : ∀ (r : Int) (μ' : am_N), ((¬(0 ≤ i ∧ i < ν 83 14) ∧ r = -1) ∨ ((0 ≤ i ∧ i < ν 83 14) ∧ ¬(0 ≤ q ∧ q ≤ 5) ∧ r = -2) ∨ ((0 ≤ i ∧ i < ν 83 14) ∧ (0 ≤ q ∧ q ≤ 5) ∧ g < 0 ∧ r = -4) ∨ ((0 ≤ i ∧ i < ν 83 14) ∧ (0 ≤ q ∧ q ≤ 5) ∧ 9 < g ∧ r = -6)) → (∀ a b, a ≠ 84 → μ' a b = ν a b) → Q (some (.inl r)) μ') : am_Does l 175 [.inr (.inr 83), .inl i, .inl q, .inl g] ν Q :=
  n_kind i q g ci cq cg f0 f1 (fun a1 a2 a3 => k1 a1 a2 a3 _ (fun a b q1 q2 => (am_uE (by omega)).trans ((am_upN (by omega)).trans (am_upN (by omega)))) (mv_d.trans ((mv_up (a := 1)).trans (by rw [show mv (am_up ν 85 i.toNat q) = fp_ct (am_up (mv ν) 1 i.toNat q) from mv_up (a := 0)]; exact fp_ct2))) (if_pos ⟨rfl, rfl⟩)) k0
theorem s_setF {l : Launch} {ν : am_N} {Q : Option am_V → am_N → Prop} (w v : Int) (cw : am_c w = w) (cv : am_c v = v) (k1 : (0 ≤ w ∧ w ≤ 3) → fp_sb w v → ∀ μ' : am_N, (∀ a b, ¬(1 ≤ a ∧ a ≤ 7) → ¬(a = 62 ∧ b = 3) → μ' a b = ν a b) → fv μ' 1 = fp_ct (am_up (fv ν 1) 0 (fp_sl w) v) → μ' 62 3 = 0 → Q (some (.inl (ν 1 (fp_sl w)))) μ') (k0 : ¬((0 ≤ w ∧ w ≤ 3) ∧ fp_sb w v) → ∀ (r : Int) (μ' : am_N), (∀ a b, a ≠ 78 → μ' a b = ν a b) → Q (some (.inl r)) μ') : am_Does l 66 [.inr (.inr 0), .inl w, .inl v] ν Q :=
  s_set w v cw cv (fun a1 a2 => k1 a1 a2 _ (fun a b q1 q2 => (am_uE q2).trans (am_upN (by omega))) (fv_d.trans fv_up0) (if_pos ⟨rfl, rfl⟩)) k0
theorem n_setF {l : Launch} {ν : am_N} {Q : Option am_V → am_N → Prop} (w v : Int) (cw : am_c w = w) (cv : am_c v = v) (k1 : (0 ≤ w ∧ w ≤ 3) → fp_sb w v → ∀ μ' : am_N, (∀ a b, ¬(85 ≤ a ∧ a ≤ 90) → ¬(a = 83 ∧ (10 ≤ b ∧ b ≤ 14 ∨ b = 33)) → μ' a b = ν a b) → mv μ' = fp_ct (am_up (mv ν) 0 (fp_sl w) v) → μ' 83 33 = 0 → Q (some (.inl (ν 83 (10 + fp_sl w)))) μ') (k0 : ¬((0 ≤ w ∧ w ≤ 3) ∧ fp_sb w v) → ∀ (r : Int) (μ' : am_N), (∀ a b, a ≠ 84 → μ' a b = ν a b) → Q (some (.inl r)) μ') : am_Does l 176 [.inr (.inr 83), .inl w, .inl v] ν Q :=
  n_set w v cw cv (fun a1 a2 μ' f e z => k1 a1 a2 μ' (fun a b q1 q2 => f a b (by omega) (by omega)) (by
    have s4 : fp_sl w < 4 := by unfold fp_sl; (repeat' split) <;> decide
    refine fp_ct_e (fun b hb => ?_) (fun a b q1 q2 hb => ?_)
    · show μ' 83 (10 + b) = _
      by_cases d : b < 4
      · rw [e b d]
        by_cases y : b = fp_sl w
        · rw [if_pos y, am_upS, if_pos ⟨rfl, y⟩]
        · rw [if_neg y, am_upM y]; exact (mv_0 hb).symm
      · rw [f 83 (10 + b) (by omega) (by omega), am_upM (by omega)]; exact (mv_0 hb).symm
    · rw [am_upN (by omega)]
      obtain ⟨a, rfl⟩ : ∃ x, a = x + 1 := ⟨a - 1, by omega⟩
      exact (f (85 + a) b (by omega) (by omega)).trans (mv_a (by omega) hb).symm) z) k0
theorem s_feedF {l : Launch} {ν : am_N} {Q : Option am_V → am_N → Prop} (v : Int) (cv : am_c v = v) (hS : sx ν ν) (k1 : (0 ≤ v ∧ v ≤ 255) → ν 36 1 < 96 → ∀ μ' : am_N, (∀ a b, ¬(a = 36 ∧ b = 1) → a ≠ 37 → μ' a b = ν a b) → μ' 36 1 = ν 36 1 + 1 → (∀ b, μ' 37 b = if b = (ν 36 1).toNat then v else ν 37 b) → Q (some (.inl (ν 36 1 + 1))) μ') (k0 : ∀ (r : Int) (μ' : am_N), ((v < 0 ∧ r = -4) ∨ (255 < v ∧ r = -6) ∨ ((0 ≤ v ∧ v ≤ 255) ∧ ν 36 1 = 96 ∧ r = -6)) → (∀ a b, a ≠ 78 → μ' a b = ν a b) → Q (some (.inl r)) μ') : am_Does l 61 [.inr (.inr 0), .inl v] ν Q :=
  s_feed v cv hS (fun a1 a2 => k1 a1 a2 _ (fun a b q1 q2 => (am_upN q2).trans (am_uE q1)) ((am_upN (by decide)).trans (if_pos ⟨rfl, rfl⟩)) (fun b => by by_cases d : b = (ν 36 1).toNat; (rw [am_upS, if_pos ⟨rfl, d⟩, if_pos d]); (rw [am_upM d, if_neg d]; exact am_upN (by decide)))) k0
theorem n_feedF {l : Launch} {ν : am_N} {Q : Option am_V → am_N → Prop} (v : Int) (cv : am_c v = v) (n0 : 0 ≤ ν 83 21) (n1 : ν 83 21 ≤ 96) (k1 : (0 ≤ v ∧ v ≤ 255) → ν 83 21 < 96 → ∀ μ' : am_N, (∀ a b, a ≠ 94 → ¬(a = 83 ∧ b = 21) → μ' a b = ν a b) → μ' 83 21 = ν 83 21 + 1 → (∀ b, μ' 94 b = if b = (ν 83 21).toNat then v else ν 94 b) → Q (some (.inl (ν 83 21 + 1))) μ') (k0 : ∀ (r : Int) (μ' : am_N), ((v < 0 ∧ r = -4) ∨ (255 < v ∧ r = -6) ∨ ((0 ≤ v ∧ v ≤ 255) ∧ ν 83 21 = 96 ∧ r = -6)) → (∀ a b, a ≠ 84 → μ' a b = ν a b) → Q (some (.inl r)) μ') : am_Does l 148 [.inr (.inr 83), .inl v] ν Q :=
  n_feed v cv n0 n1 (fun a1 a2 => k1 a1 a2 _ (fun a b q1 q2 => (am_uE q2).trans (am_upN q1)) (if_pos ⟨rfl, rfl⟩) (fun b => by rw [am_upN (by decide)]; by_cases d : b = (ν 83 21).toNat; (rw [am_upS, if_pos ⟨rfl, d⟩, if_pos d]); (rw [am_upM d, if_neg d]))) k0
theorem fp_ru_0 {F : am_N} {i w : Int} (h : 0 ≤ i ∧ i < F 0 4) (hw : w = 0) : fp_ru F i w = F 1 i.toNat := by
  unfold fp_ru
  rw [if_neg (fun z => z h), if_pos hw]
theorem fp_ru_1 {F : am_N} {i w : Int} (h : 0 ≤ i ∧ i < F 0 4) (hw : w = 1) : fp_ru F i w = F 2 i.toNat := by
  unfold fp_ru
  rw [if_neg (fun z => z h), if_neg (by omega), if_pos hw]
theorem fp_ru_2 {F : am_N} {i w : Int} (h : 0 ≤ i ∧ i < F 0 4) (hw : w = 2) : fp_ru F i w = F 3 i.toNat := by
  unfold fp_ru
  rw [if_neg (fun z => z h), if_neg (by omega), if_neg (by omega), if_pos hw]
theorem fp_ru_3 {F : am_N} {i w : Int} (h : 0 ≤ i ∧ i < F 0 4) (hw : w = 3) : fp_ru F i w = F 4 i.toNat := by
  unfold fp_ru
  rw [if_neg (fun z => z h), if_neg (by omega), if_neg (by omega), if_neg (by omega), if_pos hw]
theorem fp_ru_4 {F : am_N} {i w : Int} (h : 0 ≤ i ∧ i < F 0 4) (hw : w = 4) : fp_ru F i w = F 5 i.toNat := by
  unfold fp_ru
  rw [if_neg (fun z => z h), if_neg (by omega), if_neg (by omega), if_neg (by omega), if_neg (by omega), if_pos hw]
theorem fp_ru_5 {F : am_N} {i w : Int} (h : 0 ≤ i ∧ i < F 0 4) (hw : w = 5) : fp_ru F i w = fp_tf F i.toNat := by
  unfold fp_ru
  rw [if_neg (fun z => z h), if_neg (by omega), if_neg (by omega), if_neg (by omega), if_neg (by omega), if_neg (by omega), if_pos hw]
theorem fp_ru_6 {F : am_N} {i w : Int} (h : 0 ≤ i ∧ i < F 0 4) (hw : w = 6) : fp_ru F i w = F 6 i.toNat := by
  unfold fp_ru
  rw [if_neg (fun z => z h), if_neg (by omega), if_neg (by omega), if_neg (by omega), if_neg (by omega), if_neg (by omega), if_neg (by omega), if_pos hw]
theorem fp_ru_7 {F : am_N} {i w : Int} (h : 0 ≤ i ∧ i < F 0 4) (hw : ¬(0 ≤ w ∧ w ≤ 6)) : fp_ru F i w = -2 := by
  unfold fp_ru
  rw [if_neg (fun z => z h), if_neg (by omega), if_neg (by omega), if_neg (by omega), if_neg (by omega), if_neg (by omega), if_neg (by omega), if_neg (by omega)]
theorem s_runner {l : Launch} {ν : am_N} {Q : Option am_V → am_N → Prop} (i w : Int) (ci : am_c i = i) (cw : am_c w = w) (hw : fp_fw 999 (fv ν 1)) (k : ∀ μ' : am_N, (∀ a b, a ≠ 78 → μ' a b = ν a b) → Q (some (.inl (fp_ru (fv ν 1) i w))) μ') : am_Does l 63 [.inr (.inr 0), .inl i, .inl w] ν Q := by
  refine am_Does_of (Nat.le_of_ble_eq_true rfl) (Nat.le_of_ble_eq_true rfl) (Nat.le_of_ble_eq_true rfl) ?_
  have l0 : am_c 0 = 0 := rfl
  have l1 : am_c 1 = 1 := rfl
  have l2 : am_c 2 = 2 := rfl
  have l3 : am_c 3 = 3 := rfl
  have l4 : am_c 4 = 4 := rfl
  have l5 : am_c 5 = 5 := rfl
  have l6 : am_c 6 = 6 := rfl
  obtain ⟨hf, -, -, -, -, -, -⟩ := fw_C hw (by decide)
  have f0 := hf.1.1
  have f1 := hf.1.2
  have kk := fun (x : Int) (e : x = fp_ru (fv ν 1) i w) (μ' : am_N) (h : ∀ a b, a ≠ 78 → μ' a b = ν a b) => am_qe (k μ' h) e
  refine am_go (ct := fun _ => false) am_oX6_runner 300 ?_
  conv => whnf
  repeat' first
    | (refine (?_ : am_wp _ _ _ _ _ _ _ _ _ _ _ _); conv => whnf)
    | (refine (?_ : am_sw _ _ _ _); conv => whnf)
    | refine And.intro trivial ?_
    | exact trivial
    | ((with_reducible refine (?_ : am_Does _ 1 _ _ _)); refine x_has1 _ f0 f1 (fun y0 y1 => ?_) (fun y => ?_))
    | ((with_reducible refine (?_ : am_Does _ 113 _ _ _)); refine x_refuse _ ?_ (fun μr fr => ?_))
    | ((with_reducible refine (?_ : am_Does _ 8 _ _ _)); (refine x_tenths_1 i ?_ ?_ hf ?_))
    | ((with_reducible refine (?_ : Q _ _)); exact kk _ (by first | (rw [fp_ru_7 (show 0 ≤ i ∧ i < fv ν 1 0 4 by rw [fv_0 (by decide)]; omega) (by omega)]; done) | (rw [fp_ru_n (show ¬(0 ≤ i ∧ i < fv ν 1 0 4) by rw [fv_0 (by decide)]; omega)]; done)) _ fr)
    | refine kk _ ?_ _ (fun _ _ _ => rfl)
    | refine And.intro (fun h => absurd h (by decide)) (fun _ => ?_)
    | refine And.intro (fun _ => ?_) (fun h => absurd (by decide) h)
    | refine And.intro (fun _ => ?_) (fun _ => ?_)
    | refine And.intro ?_ ?_
  all_goals (first | decide | omega | (rw [fp_ru_0 (show 0 ≤ i ∧ i < fv ν 1 0 4 by rw [fv_0 (by decide)]; omega) (by omega), fv_a (by decide) (by decide) (by omega), ci]) | (rw [fp_ru_1 (show 0 ≤ i ∧ i < fv ν 1 0 4 by rw [fv_0 (by decide)]; omega) (by omega), fv_a (by decide) (by decide) (by omega), ci]) | (rw [fp_ru_2 (show 0 ≤ i ∧ i < fv ν 1 0 4 by rw [fv_0 (by decide)]; omega) (by omega), fv_a (by decide) (by decide) (by omega), ci]) | (rw [fp_ru_3 (show 0 ≤ i ∧ i < fv ν 1 0 4 by rw [fv_0 (by decide)]; omega) (by omega), fv_a (by decide) (by decide) (by omega), ci]) | (rw [fp_ru_4 (show 0 ≤ i ∧ i < fv ν 1 0 4 by rw [fv_0 (by decide)]; omega) (by omega), fv_a (by decide) (by decide) (by omega), ci]) | (rw [fp_ru_6 (show 0 ≤ i ∧ i < fv ν 1 0 4 by rw [fv_0 (by decide)]; omega) (by omega), fv_a (by decide) (by decide) (by omega), ci]) | (rw [fp_ru_5 (show 0 ≤ i ∧ i < fv ν 1 0 4 by rw [fv_0 (by decide)]; omega) (by omega), ← fv_T (by omega)]) | (rw [fp_ru_7 (show 0 ≤ i ∧ i < fv ν 1 0 4 by rw [fv_0 (by decide)]; omega) (by omega)]) | (rw [fp_ru_n (show ¬(0 ≤ i ∧ i < fv ν 1 0 4) by rw [fv_0 (by decide)]; omega)]) | (trace_state; fail))
theorem n_runner {l : Launch} {ν : am_N} {Q : Option am_V → am_N → Prop} (i w : Int) (ci : am_c i = i) (cw : am_c w = w) (hw : fp_fw 999 (mv ν)) (k : ∀ μ' : am_N, (∀ a b, a ≠ 84 → μ' a b = ν a b) → Q (some (.inl (fp_ru (mv ν) i w))) μ') : am_Does l 173 [.inr (.inr 83), .inl i, .inl w] ν Q := by
  refine am_Does_of (Nat.le_of_ble_eq_true rfl) (Nat.le_of_ble_eq_true rfl) (Nat.le_of_ble_eq_true rfl) ?_
  have l0 : am_c 0 = 0 := rfl
  have l1 : am_c 1 = 1 := rfl
  have l2 : am_c 2 = 2 := rfl
  have l3 : am_c 3 = 3 := rfl
  have l4 : am_c 4 = 4 := rfl
  have l5 : am_c 5 = 5 := rfl
  have l6 : am_c 6 = 6 := rfl
  obtain ⟨hf, -, -, -, -, -, -⟩ := fw_M hw (by decide)
  have f0 := hf.1.1
  have f1 := hf.1.2
  have kk := fun (x : Int) (e : x = fp_ru (mv ν) i w) (μ' : am_N) (h : ∀ a b, a ≠ 84 → μ' a b = ν a b) => am_qe (k μ' h) e
  refine am_go (ct := fun _ => false) am_oX7_runner 300 ?_
  conv => whnf
  repeat' first
    | (refine (?_ : am_wp _ _ _ _ _ _ _ _ _ _ _ _); conv => whnf)
    | (refine (?_ : am_sw _ _ _ _); conv => whnf)
    | refine And.intro trivial ?_
    | exact trivial
    | ((with_reducible refine (?_ : am_Does _ 146 _ _ _)); refine x_isRunnerT _ f0 f1 (fun y0 y1 => ?_) (fun y => ?_))
    | ((with_reducible refine (?_ : am_Does _ 140 _ _ _)); refine x_no _ ?_ (fun μr fr => ?_))
    | ((with_reducible refine (?_ : am_Does _ 164 _ _ _)); (refine x_timeOf i ?_ ?_ hf ?_))
    | ((with_reducible refine (?_ : Q _ _)); exact kk _ (by first | (rw [fp_ru_7 (show 0 ≤ i ∧ i < mv ν 0 4 by rw [mv_n]; omega) (by omega)]; done) | (rw [fp_ru_n (show ¬(0 ≤ i ∧ i < mv ν 0 4) by rw [mv_n]; omega)]; done)) _ fr)
    | refine kk _ ?_ _ (fun _ _ _ => rfl)
    | refine And.intro (fun h => absurd h (by decide)) (fun _ => ?_)
    | refine And.intro (fun _ => ?_) (fun h => absurd (by decide) h)
    | refine And.intro (fun _ => ?_) (fun _ => ?_)
    | refine And.intro ?_ ?_
  all_goals (first | decide | omega | (rw [fp_ru_0 (show 0 ≤ i ∧ i < mv ν 0 4 by rw [mv_n]; omega) (by omega), mv_a (a := 0) (by decide) (by omega), ci]) | (rw [fp_ru_1 (show 0 ≤ i ∧ i < mv ν 0 4 by rw [mv_n]; omega) (by omega), mv_a (a := 1) (by decide) (by omega), ci]) | (rw [fp_ru_2 (show 0 ≤ i ∧ i < mv ν 0 4 by rw [mv_n]; omega) (by omega), mv_a (a := 2) (by decide) (by omega), ci]) | (rw [fp_ru_3 (show 0 ≤ i ∧ i < mv ν 0 4 by rw [mv_n]; omega) (by omega), mv_a (a := 3) (by decide) (by omega), ci]) | (rw [fp_ru_4 (show 0 ≤ i ∧ i < mv ν 0 4 by rw [mv_n]; omega) (by omega), mv_a (a := 4) (by decide) (by omega), ci]) | (rw [fp_ru_6 (show 0 ≤ i ∧ i < mv ν 0 4 by rw [mv_n]; omega) (by omega), mv_a (a := 5) (by decide) (by omega), ci]) | (rw [fp_ru_5 (show 0 ≤ i ∧ i < mv ν 0 4 by rw [mv_n]; omega) (by omega), ← mv_T (by omega)]) | (rw [fp_ru_7 (show 0 ≤ i ∧ i < mv ν 0 4 by rw [mv_n]; omega) (by omega)]) | (rw [fp_ru_n (show ¬(0 ≤ i ∧ i < mv ν 0 4) by rw [mv_n]; omega)]) | (trace_state; fail))
/-! TIME over some yards, of a picture -/
theorem x_noPart {l : Launch} {μ : am_N} {Q : Option am_V → am_N → Prop} (w : Int) (cw : am_c w = w) (k1 : ¬(w = 0 ∨ w = 1) → Q (some (.inl 1)) μ) (k0 : (w = 0 ∨ w = 1) → Q (some (.inl 0)) μ) : am_Does l 116 [.inl w] μ Q := by
  refine am_Does_of (Nat.le_of_ble_eq_true rfl) (Nat.le_of_ble_eq_true rfl) (Nat.le_of_ble_eq_true rfl) ?_
  have l1 : am_c 1 = 1 := rfl
  refine am_go (ct := fun _ => false) am_oX6_noPart 300 ?_
  conv => whnf
  repeat' first
    | (refine (?_ : am_wp _ _ _ _ _ _ _ _ _ _ _ _); conv => whnf)
    | (refine (?_ : am_sw _ _ _ _); conv => whnf)
    | refine And.intro trivial ?_
    | exact trivial
    | refine k1 ?_
    | refine k0 ?_
    | refine And.intro (fun h => absurd h (by decide)) (fun _ => ?_)
    | refine And.intro (fun _ => ?_) (fun h => absurd (by decide) h)
    | refine And.intro (fun _ => ?_) (fun _ => ?_)
    | refine And.intro ?_ ?_
  all_goals (first | decide | omega | (trace_state; fail))
