/-! what holds between calls: equality of the field, of the letters, of the runs kept, of the image -/
def rq_L (μ : am_N) : Prop := μ 36 1 = μ 83 21 ∧ (∀ b, μ 37 b = μ 94 b) ∧ ∀ i : Nat, (i : Int) < μ 36 1 → 0 ≤ μ 37 i ∧ μ 37 i ≤ 255
def rq_B (μ : am_N) : Prop := μ 62 3 = μ 83 33 ∧ ∀ k : Nat, (k : Int) < μ 62 3 → (∀ r : Nat, r < 4 → μ (64 + (μ 62 3 - 1 - k).toNat) r = μ 101 (4 * k + r) ∧ μ (71 + (μ 62 3 - 1 - k).toNat) r = μ 102 (4 * k + r) ∧ 0 ≤ μ 101 (4 * k + r) ∧ μ 101 (4 * k + r) ≤ 99) ∧ μ 77 (μ 62 3 - 1 - k).toNat = μ 103 k ∧ 0 ≤ μ 103 k ∧ μ 103 k ≤ 999
def rq_I (μ : am_N) : Prop := (μ 0 15 = 0 ∧ μ 83 25 = 0) ∨ (μ 0 15 = 1 ∧ μ 83 25 = 1 ∧ fv μ 22 = kv μ 0 ∧ fp_fw 999 (kv μ 0))
def rq_R (μ : am_N) : Prop := (fv μ 1 = mv μ ∧ fp_fw 999 (mv μ)) ∧ rq_L μ ∧ rq_B μ ∧ rq_I μ
def lx_I (μ : am_N) : Prop := sx μ μ ∧ mi μ ∧ rq_R μ
theorem rq_L_keep {μ ν : am_N} (h : rq_L μ) (e1 : ν 36 1 = μ 36 1) (e2 : ∀ b, ν 37 b = μ 37 b) (e3 : ν 83 21 = μ 83 21) (e4 : ∀ b, ν 94 b = μ 94 b) : rq_L ν := by
  obtain ⟨h1, h2, h3⟩ := h
  refine ⟨by rw [e1, e3]; exact h1, fun b => by rw [e2, e4]; exact h2 b, fun i hi => ?_⟩
  rw [e1] at hi
  rw [e2]
  exact h3 i hi
theorem rq_L_zero {μ ν : am_N} (h : rq_L μ) (e1 : ν 36 1 = 0) (e2 : ∀ b, ν 37 b = μ 37 b) (e3 : ν 83 21 = 0) (e4 : ∀ b, ν 94 b = μ 94 b) : rq_L ν := by
  obtain ⟨h1, h2, h3⟩ := h
  refine ⟨by rw [e1, e3], fun b => by rw [e2, e4]; exact h2 b, fun i hi => ?_⟩
  rw [e1] at hi
  omega
theorem rq_L_feed {μ ν : am_N} {v : Int} (h : rq_L μ) (h0 : 0 ≤ μ 36 1) (hv : 0 ≤ v ∧ v ≤ 255) (e1 : ν 36 1 = μ 36 1 + 1) (e2 : ∀ b, ν 37 b = if b = (μ 36 1).toNat then v else μ 37 b) (e3 : ν 83 21 = μ 83 21 + 1) (e4 : ∀ b, ν 94 b = if b = (μ 83 21).toNat then v else μ 94 b) : rq_L ν := by
  obtain ⟨h1, h2, h3⟩ := h
  refine ⟨by rw [e1, e3, h1], fun b => ?_, fun i hi => ?_⟩
  · rw [e2, e4, h1, h2]
  · rw [e1] at hi
    rw [e2]
    by_cases d : i = (μ 36 1).toNat
    · rw [if_pos d]; exact hv
    · rw [if_neg d]; exact h3 i (by first | decide | omega)
theorem rq_B_keep {μ ν : am_N} (h : rq_B μ) (e1 : ν 62 3 = μ 62 3) (e2 : ν 83 33 = μ 83 33) (e3 : ∀ a b, 64 ≤ a → a ≤ 77 → ν a b = μ a b) (e4 : ∀ a b, 101 ≤ a → a ≤ 103 → ν a b = μ a b) (hb : 0 ≤ μ 62 3 ∧ μ 62 3 ≤ 6) : rq_B ν := by
  obtain ⟨h1, h2⟩ := h
  refine ⟨by rw [e1, e2]; exact h1, fun k hk => ?_⟩
  rw [e1] at hk ⊢
  obtain ⟨q1, q2⟩ := h2 k hk
  refine ⟨fun r hr => ?_, ?_⟩
  · rw [e3 (64 + _) r (by first | decide | omega) (by first | decide | omega), e3 (71 + _) r (by first | decide | omega) (by first | decide | omega), e4 101 _ (by first | decide | omega) (by first | decide | omega), e4 102 _ (by first | decide | omega) (by first | decide | omega)]
    exact q1 r hr
  · rw [e3 77 _ (by first | decide | omega) (by first | decide | omega), e4 103 _ (by first | decide | omega) (by first | decide | omega)]
    exact q2
theorem rq_B_zero {ν : am_N} (e1 : ν 62 3 = 0) (e2 : ν 83 33 = 0) : rq_B ν := ⟨by rw [e1, e2], fun k hk => by rw [e1] at hk; omega⟩
theorem kv_keep {μ ν : am_N} (h : ∀ b : Nat, b < 45 → ν 98 b = μ 98 b) : kv ν 0 = kv μ 0 := by
  refine fp_ct_e (fun b hb => h (0 + 40 + b) (by first | decide | omega)) (fun a b q1 q2 hb => ?_)
  obtain ⟨a, rfl⟩ : ∃ e, a = e + 1 := ⟨a - 1, by omega⟩
  exact h (0 + 4 * a + b) (by first | decide | omega)
theorem fv_keep {μ ν : am_N} {c : Nat} (h : ∀ a b : Nat, c ≤ a → a ≤ c + 6 → ν a b = μ a b) : fv ν c = fv μ c := fp_ct_e (fun b _ => h c b (by first | decide | omega) (by first | decide | omega)) (fun a b _ _ _ => h (c + a) b (by first | decide | omega) (by first | decide | omega))
theorem rq_I_keep {μ ν : am_N} (h : rq_I μ) (e1 : ν 0 15 = μ 0 15) (e2 : ν 83 25 = μ 83 25) (e3 : ∀ a b, 22 ≤ a → a ≤ 28 → ν a b = μ a b) (e4 : ∀ b : Nat, b < 45 → ν 98 b = μ 98 b) : rq_I ν := by
  have k := kv_keep e4
  have f : fv ν 22 = fv μ 22 := fv_keep (fun a b h1 h2 => e3 a b h1 (by first | decide | omega))
  unfold rq_I
  rw [e1, e2, k, f]
  exact h
/-- the field, either side -/
theorem rq_F_keep {μ ν : am_N} (h : fv μ 1 = mv μ ∧ fp_fw 999 (mv μ)) (e1 : ∀ a b, 1 ≤ a → a ≤ 7 → ν a b = μ a b) (e2 : ∀ a b : Nat, ((85 ≤ a ∧ a ≤ 90) ∧ b < 4) ∨ (a = 83 ∧ 10 ≤ b ∧ b ≤ 14) → ν a b = μ a b) : fv ν 1 = mv ν ∧ fp_fw 999 (mv ν) := by
  rw [mv_keep4 e2, fv_keep (μ := μ) (ν := ν) (c := 1) (fun a b h1 h2 => e1 a b h1 (by first | decide | omega))]
  exact h
theorem fv_up {μ : am_N} {c a j : Nat} {v : Int} (h : 0 < a) : fv (am_up μ (c + a) j v) c = fp_ct (am_up (fv μ c) a j v) := by
  refine fp_ct_e (fun b hb => ?_) (fun x b q1 q2 hb => ?_)
  · rw [am_upN (by omega : 0 ≠ a)]
    exact Eq.trans (am_upN (by first | decide | omega)) (fv_0 hb).symm
  · by_cases d : x = a ∧ b = j
    · rw [am_upS, if_pos (by first | decide | omega), am_upS, if_pos d]
    · rw [am_uE d]
      exact Eq.trans (am_uE (by first | decide | omega)) (fv_a q1 q2 hb).symm
theorem mv_up {μ : am_N} {a j : Nat} {v : Int} : mv (am_up μ (85 + a) j v) = fp_ct (am_up (mv μ) (a + 1) j v) := by
  refine fp_ct_e (fun b hb => ?_) (fun x b q1 q2 hb => ?_)
  · rw [am_upN (by omega : 0 ≠ a + 1)]
    exact Eq.trans (am_upN (by first | decide | omega)) (mv_0 hb).symm
  · obtain ⟨x, rfl⟩ : ∃ e, x = e + 1 := ⟨x - 1, by omega⟩
    by_cases d : x = a ∧ b = j
    · obtain ⟨rfl, rfl⟩ := d
      rw [show am_up (mv μ) (x + 1) b v (x + 1) b = v from if_pos ⟨rfl, rfl⟩]
      exact if_pos ⟨rfl, rfl⟩
    · rw [am_uE (show ¬(x + 1 = a + 1 ∧ b = j) by omega)]
      exact Eq.trans (am_uE (show ¬(85 + x = 85 + a ∧ b = j) by omega)) (mv_a (by first | decide | omega) hb).symm
theorem fw_kind {W : Int} {F : am_N} {j : Nat} {v w : Int} (h : fp_fw W F) (hv : 0 ≤ v ∧ v ≤ 5) (hw : 0 ≤ w ∧ w ≤ 9) : fp_fw W (am_up (am_up F 1 j v) 2 j w) := by
  obtain ⟨h0, h1, h2, h3, h4, h5, h6⟩ := h
  have e : ∀ b : Nat, am_up (am_up F 1 j v) 2 j w 0 b = F 0 b := fun b => (am_upN (by decide)).trans (am_upN (by decide))
  have e3 : ∀ a b : Nat, 2 < a → am_up (am_up F 1 j v) 2 j w a b = F a b := fun a b ha => (am_upN (by first | decide | omega)).trans (am_upN (by first | decide | omega))
  unfold fp_fw
  rw [e 0, e 1, e 2, e 3, e 4]
  refine ⟨h0, h1, h2, h3, h4, fun i hi => ?_, fun i hi => ?_⟩
  · rw [e3 5 i (by decide)]; exact h5 i hi
  · obtain ⟨a1, a2, a3, a4⟩ := h6 i hi
    rw [e3 3 i (by decide), e3 4 i (by decide)]
    refine ⟨?_, ?_, a3, a4⟩
    · rw [am_upN (by decide), am_upS]; split; exact hv; exact a1
    · rw [am_upS]; split; exact hw; rw [am_upN (by decide)]; exact a2
theorem fp_ct2 {F : am_N} {k j : Nat} {v : Int} : fp_ct (am_up (fp_ct F) k j v) = fp_ct (am_up F k j v) := by
  refine fp_ct_e (fun b hb => ?_) (fun a b q1 q2 hb => ?_)
  · rw [am_upS, am_upS, fp_ct_i (fp_in_0 hb)]
  · rw [am_upS, am_upS, fp_ct_i (fp_in_a q1 q2 hb)]
theorem mi_mk {ν μ : am_N} (h : mi ν) (e : ∀ a b, (a = 83 ∧ (b = 15 ∨ b = 16 ∨ b = 21 ∨ b = 40 ∨ b = 42)) ∨ (a = 98 ∧ (b = 44 ∨ b = 38 ∨ b = 39)) ∨ a = 100 → μ a b = ν a b) (h14 : 0 ≤ μ 83 14 ∧ μ 83 14 ≤ 4) (h33 : 0 ≤ μ 83 33 ∧ μ 83 33 ≤ 6) : mi μ := by
  unfold mi at h ⊢
  rw [e 83 15 (by first | decide | omega), e 83 16 (by first | decide | omega), e 83 21 (by first | decide | omega), e 83 40 (by first | decide | omega), e 83 42 (by first | decide | omega), e 98 44 (by first | decide | omega), e 98 38 (by first | decide | omega), e 98 39 (by first | decide | omega)]
  refine ⟨h14, h.2.1, h.2.2.1, h.2.2.2.1, h33, h.2.2.2.2.2.1, h.2.2.2.2.2.2.1, h.2.2.2.2.2.2.2.1, h.2.2.2.2.2.2.2.2.1, h.2.2.2.2.2.2.2.2.2.1, fun p hp => ?_⟩
  rw [e 100 p (by first | decide | omega)]
  exact h.2.2.2.2.2.2.2.2.2.2 p hp
/-- sx, when of what it tells only 1 4 and 62 3 change -/
theorem sx_set {ν μ : am_N} (hS : sx ν ν) (h : ∀ a b, a < 83 → ¬(1 ≤ a ∧ a ≤ 7) → ¬(a = 62 ∧ b = 3) → a ≠ 78 → μ a b = ν a b) (h1 : 0 ≤ μ 1 4 ∧ μ 1 4 ≤ 4) (h2 : 0 ≤ μ 62 3 ∧ μ 62 3 ≤ 6) : sx μ μ := by
  have hb := sx_all hS
  refine ⟨fun _ _ _ => rfl, fun p hp => ?_, fun p hp => ?_, ?_, ?_⟩
  · rw [h 34 p (by first | decide | omega) (by first | decide | omega) (by first | decide | omega) (by first | decide | omega)]; exact hS.2.1 p hp
  · rw [h 43 p (by first | decide | omega) (by first | decide | omega) (by first | decide | omega) (by first | decide | omega)]; exact hS.2.2.1 p hp
  · unfold sx_4
    rw [h 8 4 (by first | decide | omega) (by first | decide | omega) (by first | decide | omega) (by first | decide | omega), h 15 4 (by first | decide | omega) (by first | decide | omega) (by first | decide | omega) (by first | decide | omega), h 29 0 (by first | decide | omega) (by first | decide | omega) (by first | decide | omega) (by first | decide | omega), h 38 0 (by first | decide | omega) (by first | decide | omega) (by first | decide | omega) (by first | decide | omega)]
    exact hS.2.2.2.1
  · have q := hS.2.2.2.2
    unfold px at q ⊢
    rw [h 22 4 (by first | decide | omega) (by first | decide | omega) (by first | decide | omega) (by first | decide | omega), h 36 1 (by first | decide | omega) (by first | decide | omega) (by first | decide | omega) (by first | decide | omega), h 44 1 (by first | decide | omega) (by first | decide | omega) (by first | decide | omega) (by first | decide | omega), h 46 1 (by first | decide | omega) (by first | decide | omega) (by first | decide | omega) (by first | decide | omega), h 48 1 (by first | decide | omega) (by first | decide | omega) (by first | decide | omega) (by first | decide | omega), h 50 1 (by first | decide | omega) (by first | decide | omega) (by first | decide | omega) (by first | decide | omega), h 53 1 (by first | decide | omega) (by first | decide | omega) (by first | decide | omega) (by first | decide | omega), h 55 1 (by first | decide | omega) (by first | decide | omega) (by first | decide | omega) (by first | decide | omega), h 58 1 (by first | decide | omega) (by first | decide | omega) (by first | decide | omega) (by first | decide | omega), h 60 1 (by first | decide | omega) (by first | decide | omega) (by first | decide | omega) (by first | decide | omega)]
    omega
