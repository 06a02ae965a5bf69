/-! what holds between calls: equality of the field, of the letters, of the runs kept, of the image -/
def rq_L (μ : am_N) : Prop := μ 36 1 = μ 83 21 ∧ (∀ b, μ 37 b = μ 94 b) ∧ ∀ i : Nat, (i : Int) < μ 36 1 → 0 ≤ μ 37 i ∧ μ 37 i ≤ 255
def rq_B (μ : am_N) : Prop := μ 62 3 = μ 83 33 ∧ ∀ k : Nat, (k : Int) < μ 62 3 → (∀ r : Nat, r < 4 → μ (64 + (μ 62 3 - 1 - k).toNat) r = μ 101 (4 * k + r) ∧ μ (71 + (μ 62 3 - 1 - k).toNat) r = μ 102 (4 * k + r) ∧ 0 ≤ μ 101 (4 * k + r) ∧ μ 101 (4 * k + r) ≤ 99) ∧ μ 77 (μ 62 3 - 1 - k).toNat = μ 103 k ∧ 0 ≤ μ 103 k ∧ μ 103 k ≤ 999
def rq_I (μ : am_N) : Prop := (μ 0 15 = 0 ∧ μ 83 25 = 0) ∨ (μ 0 15 = 1 ∧ μ 83 25 = 1 ∧ fv μ 22 = kv μ 0 ∧ fp_fw 999 (kv μ 0))
def rq_R (μ : am_N) : Prop := (fv μ 1 = mv μ ∧ fp_fw 999 (mv μ)) ∧ rq_L μ ∧ rq_B μ ∧ rq_I μ
def lx_I (μ : am_N) : Prop := sx μ μ ∧ mi μ ∧ rq_R μ
theorem rq_L_keep {μ ν : am_N} (h : rq_L μ) (e1 : ν 36 1 = μ 36 1) (e2 : ∀ b, ν 37 b = μ 37 b) (e3 : ν 83 21 = μ 83 21) (e4 : ∀ b, ν 94 b = μ 94 b) : rq_L ν := by
  obtain ⟨h1, h2, h3⟩ := h
  refine ⟨by rw [e1, e3]; exact h1, fun b => by rw [e2, e4]; exact h2 b, fun i hi => ?_⟩
  rw [e1] at hi
  rw [e2]
  exact h3 i hi
theorem rq_L_zero {μ ν : am_N} (h : rq_L μ) (e1 : ν 36 1 = 0) (e2 : ∀ b, ν 37 b = μ 37 b) (e3 : ν 83 21 = 0) (e4 : ∀ b, ν 94 b = μ 94 b) : rq_L ν := by
  obtain ⟨h1, h2, h3⟩ := h
  refine ⟨by rw [e1, e3], fun b => by rw [e2, e4]; exact h2 b, fun i hi => ?_⟩
  rw [e1] at hi
  omega
theorem rq_L_feed {μ ν : am_N} {v : Int} (h : rq_L μ) (h0 : 0 ≤ μ 36 1) (hv : 0 ≤ v ∧ v ≤ 255) (e1 : ν 36 1 = μ 36 1 + 1) (e2 : ∀ b, ν 37 b = if b = (μ 36 1).toNat then v else μ 37 b) (e3 : ν 83 21 = μ 83 21 + 1) (e4 : ∀ b, ν 94 b = if b = (μ 83 21).toNat then v else μ 94 b) : rq_L ν := by
  obtain ⟨h1, h2, h3⟩ := h
  refine ⟨by rw [e1, e3, h1], fun b => ?_, fun i hi => ?_⟩
  · rw [e2, e4, h1, h2]
  · rw [e1] at hi
    rw [e2]
    by_cases d : i = (μ 36 1).toNat
    · rw [if_pos d]; exact hv
    · rw [if_neg d]; exact h3 i (by first | decide | omega)
theorem rq_B_keep {μ ν : am_N} (h : rq_B μ) (e1 : ν 62 3 = μ 62 3) (e2 : ν 83 33 = μ 83 33) (e3 : ∀ a b, 64 ≤ a → a ≤ 77 → ν a b = μ a b) (e4 : ∀ a b, 101 ≤ a → a ≤ 103 → ν a b = μ a b) (hb : 0 ≤ μ 62 3 ∧ μ 62 3 ≤ 6) : rq_B ν := by
  obtain ⟨h1, h2⟩ := h
  refine ⟨by rw [e1, e2]; exact h1, fun k hk => ?_⟩
  rw [e1] at hk ⊢
  obtain ⟨q1, q2⟩ := h2 k hk
  refine ⟨fun r hr => ?_, ?_⟩
  · rw [e3 (64 + _) r (by first | decide | omega) (by first | decide | omega), e3 (71 + _) r (by first | decide | omega) (by first | decide | omega), e4 101 _ (by first | decide | omega) (by first | decide | omega), e4 102 _ (by first | decide | omega) (by first | decide | omega)]
    exact q1 r hr
  · rw [e3 77 _ (by first | decide | omega) (by first | decide | omega), e4 103 _ (by first | decide | omega) (by first | decide | omega)]
    exact q2
theorem rq_B_zero {ν : am_N} (e1 : ν 62 3 = 0) (e2 : ν 83 33 = 0) : rq_B ν := ⟨by rw [e1, e2], fun k hk => by rw [e1] at hk; omega⟩
theorem kv_keep {μ ν : am_N} (h : ∀ b : Nat, b < 45 → ν 98 b = μ 98 b) : kv ν 0 = kv μ 0 := by
  refine fp_ct_e (fun b hb => h (0 + 40 + b) (by first | decide | omega)) (fun a b q1 q2 hb => ?_)
  obtain ⟨a, rfl⟩ : ∃ e, a = e + 1 := ⟨a - 1, by omega⟩
  exact h (0 + 4 * a + b) (by first | decide | omega)
theorem fv_keep {μ ν : am_N} {c : Nat} (h : ∀ a b : Nat, c ≤ a → a ≤ c + 6 → ν a b = μ a b) : fv ν c = fv μ c := fp_ct_e (fun b _ => h c b (by first | decide | omega) (by first | decide | omega)) (fun a b _ _ _ => h (c + a) b (by first | decide | omega) (by first | decide | omega))
theorem rq_I_keep {μ ν : am_N} (h : rq_I μ) (e1 : ν 0 15 = μ 0 15) (e2 : ν 83 25 = μ 83 25) (e3 : ∀ a b, 22 ≤ a → a ≤ 28 → ν a b = μ a b) (e4 : ∀ b : Nat, b < 45 → ν 98 b = μ 98 b) : rq_I ν := by
  have k := kv_keep e4
  have f : fv ν 22 = fv μ 22 := fv_keep (fun a b h1 h2 => e3 a b h1 (by first | decide | omega))
  unfold rq_I
  rw [e1, e2, k, f]
  exact h
/-- the field, either side -/
theorem rq_F_keep {μ ν : am_N} (h : fv μ 1 = mv μ ∧ fp_fw 999 (mv μ)) (e1 : ∀ a b, 1 ≤ a → a ≤ 7 → ν a b = μ a b) (e2 : ∀ a b : Nat, ((85 ≤ a ∧ a ≤ 90) ∧ b < 4) ∨ (a = 83 ∧ 10 ≤ b ∧ b ≤ 14) → ν a b = μ a b) : fv ν 1 = mv ν ∧ fp_fw 999 (mv ν) := by
  rw [mv_keep4 e2, fv_keep (μ := μ) (ν := ν) (c := 1) (fun a b h1 h2 => e1 a b h1 (by first | decide | omega))]
  exact h
theorem fv_up {μ : am_N} {c a j : Nat} {v : Int} (h : 0 < a) : fv (am_up μ (c + a) j v) c = fp_ct (am_up (fv μ c) a j v) := by
  refine fp_ct_e (fun b hb => ?_) (fun x b q1 q2 hb => ?_)
  · rw [am_upN (by omega : 0 ≠ a)]
    exact Eq.trans (am_upN (by first | decide | omega)) (fv_0 hb).symm
  · by_cases d : x = a ∧ b = j
    · rw [am_upS, if_pos (by first | decide | omega), am_upS, if_pos d]
    · rw [am_uE d]
      exact Eq.trans (am_uE (by first | decide | omega)) (fv_a q1 q2 hb).symm
theorem mv_up {μ : am_N} {a j : Nat} {v : Int} : mv (am_up μ (85 + a) j v) = fp_ct (am_up (mv μ) (a + 1) j v) := by
  refine fp_ct_e (fun b hb => ?_) (fun x b q1 q2 hb => ?_)
  · rw [am_upN (by omega : 0 ≠ a + 1)]
    exact Eq.trans (am_upN (by first | decide | omega)) (mv_0 hb).symm
  · obtain ⟨x, rfl⟩ : ∃ e, x = e + 1 := ⟨x - 1, by omega⟩
    by_cases d : x = a ∧ b = j
    · obtain ⟨rfl, rfl⟩ := d
      rw [show am_up (mv μ) (x + 1) b v (x + 1) b = v from if_pos ⟨rfl, rfl⟩]
      exact if_pos ⟨rfl, rfl⟩
    · rw [am_uE (show ¬(x + 1 = a + 1 ∧ b = j) by omega)]
      exact Eq.trans (am_uE (show ¬(85 + x = 85 + a ∧ b = j) by omega)) (mv_a (by first | decide | omega) hb).symm
theorem fw_kind {W : Int} {F : am_N} {j : Nat} {v w : Int} (h : fp_fw W F) (hv : 0 ≤ v ∧ v ≤ 5) (hw : 0 ≤ w ∧ w ≤ 9) : fp_fw W (am_up (am_up F 1 j v) 2 j w) := by
  obtain ⟨h0, h1, h2, h3, h4, h5, h6⟩ := h
  have e : ∀ b : Nat, am_up (am_up F 1 j v) 2 j w 0 b = F 0 b := fun b => (am_upN (by decide)).trans (am_upN (by decide))
  have e3 : ∀ a b : Nat, 2 < a → am_up (am_up F 1 j v) 2 j w a b = F a b := fun a b ha => (am_upN (by first | decide | omega)).trans (am_upN (by first | decide | omega))
  unfold fp_fw
  rw [e 0, e 1, e 2, e 3, e 4]
  refine ⟨h0, h1, h2, h3, h4, fun i hi => ?_, fun i hi => ?_⟩
  · rw [e3 5 i (by decide)]; exact h5 i hi
  · obtain ⟨a1, a2, a3, a4⟩ := h6 i hi
    rw [e3 3 i (by decide), e3 4 i (by decide)]
    refine ⟨?_, ?_, a3, a4⟩
    · rw [am_upN (by decide), am_upS]; split; exact hv; exact a1
    · rw [am_upS]; split; exact hw; rw [am_upN (by decide)]; exact a2
theorem fp_ct2 {F : am_N} {k j : Nat} {v : Int} : fp_ct (am_up (fp_ct F) k j v) = fp_ct (am_up F k j v) := by
  refine fp_ct_e (fun b hb => ?_) (fun a b q1 q2 hb => ?_)
  · rw [am_upS, am_upS, fp_ct_i (fp_in_0 hb)]
  · rw [am_upS, am_upS, fp_ct_i (fp_in_a q1 q2 hb)]
theorem mi_mk {ν μ : am_N} (h : mi ν) (e : ∀ a b, (a = 83 ∧ (b = 15 ∨ b = 16 ∨ b = 21 ∨ b = 40 ∨ b = 42)) ∨ (a = 98 ∧ (b = 44 ∨ b = 38 ∨ b = 39)) ∨ a = 100 → μ a b = ν a b) (h14 : 0 ≤ μ 83 14 ∧ μ 83 14 ≤ 4) (h33 : 0 ≤ μ 83 33 ∧ μ 83 33 ≤ 6) : mi μ := by
  unfold mi at h ⊢
  rw [e 83 15 (by first | decide | omega), e 83 16 (by first | decide | omega), e 83 21 (by first | decide | omega), e 83 40 (by first | decide | omega), e 83 42 (by first | decide | omega), e 98 44 (by first | decide | omega), e 98 38 (by first | decide | omega), e 98 39 (by first | decide | omega)]
  refine ⟨h14, h.2.1, h.2.2.1, h.2.2.2.1, h33, h.2.2.2.2.2.1, h.2.2.2.2.2.2.1, h.2.2.2.2.2.2.2.1, h.2.2.2.2.2.2.2.2.1, h.2.2.2.2.2.2.2.2.2.1, fun p hp => ?_⟩
  rw [e 100 p (by first | decide | omega)]
  exact h.2.2.2.2.2.2.2.2.2.2 p hp
/-- sx, when of what it tells only 1 4 and 62 3 change -/
theorem sx_set {ν μ : am_N} (hS : sx ν ν) (h : ∀ a b, a < 83 → ¬(1 ≤ a ∧ a ≤ 7) → ¬(a = 62 ∧ b = 3) → a ≠ 78 → μ a b = ν a b) (h1 : 0 ≤ μ 1 4 ∧ μ 1 4 ≤ 4) (h2 : 0 ≤ μ 62 3 ∧ μ 62 3 ≤ 6) : sx μ μ := by
  have hb := sx_all hS
  refine ⟨fun _ _ _ => rfl, fun p hp => ?_, fun p hp => ?_, ?_, ?_⟩
  · rw [h 34 p (by first | decide | omega) (by first | decide | omega) (by first | decide | omega) (by first | decide | omega)]; exact hS.2.1 p hp
  · rw [h 43 p (by first | decide | omega) (by first | decide | omega) (by first | decide | omega) (by first | decide | omega)]; exact hS.2.2.1 p hp
  · unfold sx_4
    rw [h 8 4 (by first | decide | omega) (by first | decide | omega) (by first | decide | omega) (by first | decide | omega), h 15 4 (by first | decide | omega) (by first | decide | omega) (by first | decide | omega) (by first | decide | omega), h 29 0 (by first | decide | omega) (by first | decide | omega) (by first | decide | omega) (by first | decide | omega), h 38 0 (by first | decide | omega) (by first | decide | omega) (by first | decide | omega) (by first | decide | omega)]
    exact hS.2.2.2.1
  · have q := hS.2.2.2.2
    unfold px at q ⊢
    rw [h 22 4 (by first | decide | omega) (by first | decide | omega) (by first | decide | omega) (by first | decide | omega), h 36 1 (by first | decide | omega) (by first | decide | omega) (by first | decide | omega) (by first | decide | omega), h 44 1 (by first | decide | omega) (by first | decide | omega) (by first | decide | omega) (by first | decide | omega), h 46 1 (by first | decide | omega) (by first | decide | omega) (by first | decide | omega) (by first | decide | omega), h 48 1 (by first | decide | omega) (by first | decide | omega) (by first | decide | omega) (by first | decide | omega), h 50 1 (by first | decide | omega) (by first | decide | omega) (by first | decide | omega) (by first | decide | omega), h 53 1 (by first | decide | omega) (by first | decide | omega) (by first | decide | omega) (by first | decide | omega), h 55 1 (by first | decide | omega) (by first | decide | omega) (by first | decide | omega) (by first | decide | omega), h 58 1 (by first | decide | omega) (by first | decide | omega) (by first | decide | omega) (by first | decide | omega), h 60 1 (by first | decide | omega) (by first | decide | omega) (by first | decide | omega) (by first | decide | omega)]
    omega
/-- start, kind, set -/
theorem LI_fld {μ μ1 μ2 : am_N} (hI : lx_I μ) (f1 : ∀ a b, ¬(1 ≤ a ∧ a ≤ 7) → ¬(a = 62 ∧ b = 3) → μ1 a b = μ a b) (f2 : ∀ a b, ¬(85 ≤ a ∧ a ≤ 90) → ¬(a = 83 ∧ (10 ≤ b ∧ b ≤ 14 ∨ b = 33)) → μ2 a b = μ1 a b) (z1 : μ1 62 3 = 0) (z2 : μ2 83 33 = 0) (hF : fv μ1 1 = mv μ2) (hw : fp_fw 999 (mv μ2)) : lx_I μ2 := by
  obtain ⟨hS, hm, hR0, hL, hB, hJ⟩ := hI
  have hF2 : fv μ2 1 = mv μ2 := by rw [← hF]; exact fv_keep (fun a b h1 h2 => f2 a b (by first | decide | omega) (by first | decide | omega))
  have n2 : 0 ≤ μ2 83 14 ∧ μ2 83 14 ≤ 4 := hw.2.2.2.2.1
  have n1 : 0 ≤ μ2 1 4 ∧ μ2 1 4 ≤ 4 := by
    have q := hw.2.2.2.2.1
    rw [← hF2, fv_0 (by decide)] at q
    exact q
  have g : ∀ a b, ¬(1 ≤ a ∧ a ≤ 7) → ¬(a = 62 ∧ b = 3) → ¬(85 ≤ a ∧ a ≤ 90) → ¬(a = 83 ∧ (10 ≤ b ∧ b ≤ 14 ∨ b = 33)) → μ2 a b = μ a b := fun a b h1 h2 h3 h4 => (f2 a b h3 h4).trans (f1 a b h1 h2)
  have z3 : μ2 62 3 = 0 := (f2 _ _ (by first | decide | omega) (by first | decide | omega)).trans z1
  exact ⟨sx_set hS (fun a b h0 h1 h2 h3 => g a b h1 h2 (by first | decide | omega) (by first | decide | omega)) n1 (by first | decide | omega), mi_mk hm (fun a b q => g a b (by first | decide | omega) (by first | decide | omega) (by first | decide | omega) (by first | decide | omega)) n2 (by first | decide | omega), ⟨hF2, hw⟩, rq_L_keep hL (g _ _ (by first | decide | omega) (by first | decide | omega) (by first | decide | omega) (by first | decide | omega)) (fun b => g _ _ (by first | decide | omega) (by first | decide | omega) (by first | decide | omega) (by first | decide | omega)) (g _ _ (by first | decide | omega) (by first | decide | omega) (by first | decide | omega) (by first | decide | omega)) (fun b => g _ _ (by first | decide | omega) (by first | decide | omega) (by first | decide | omega) (by first | decide | omega)), rq_B_zero z3 z2, rq_I_keep hJ (g _ _ (by first | decide | omega) (by first | decide | omega) (by first | decide | omega) (by first | decide | omega)) (g _ _ (by first | decide | omega) (by first | decide | omega) (by first | decide | omega) (by first | decide | omega)) (fun a b h1 h2 => g _ _ (by first | decide | omega) (by first | decide | omega) (by first | decide | omega) (by first | decide | omega)) (fun b hb => g _ _ (by first | decide | omega) (by first | decide | omega) (by first | decide | omega) (by first | decide | omega))⟩
/-- a refusal on both sides -/
theorem LI_ref {μ μ1 μ2 : am_N} (hI : lx_I μ) (f1 : ∀ a b, a ≠ 78 → μ1 a b = μ a b) (f2 : ∀ a b, a ≠ 84 → μ2 a b = μ1 a b) : lx_I μ2 := by
  obtain ⟨hS, hm, hR0, hL, hB, hJ⟩ := hI
  have g : ∀ a b, a ≠ 78 → a ≠ 84 → μ2 a b = μ a b := fun a b h1 h2 => (f2 a b h2).trans (f1 a b h1)
  have hb := sx_all hS
  have hc := mi_all hm
  exact ⟨sx_set hS (fun a b h0 h1 h2 h3 => g a b h3 (by first | decide | omega)) (by rw [g 1 4 (by first | decide | omega) (by first | decide | omega)]; omega) (by rw [g 62 3 (by first | decide | omega) (by first | decide | omega)]; omega), mi_mk hm (fun a b q => g a b (by first | decide | omega) (by first | decide | omega)) (by rw [g 83 14 (by first | decide | omega) (by first | decide | omega)]; omega) (by rw [g 83 33 (by first | decide | omega) (by first | decide | omega)]; omega), rq_F_keep hR0 (fun a b h1 h2 => g a b (by first | decide | omega) (by first | decide | omega)) (fun a b h => g a b (by first | decide | omega) (by first | decide | omega)), rq_L_keep hL (g _ _ (by first | decide | omega) (by first | decide | omega)) (fun b => g _ _ (by first | decide | omega) (by first | decide | omega)) (g _ _ (by first | decide | omega) (by first | decide | omega)) (fun b => g _ _ (by first | decide | omega) (by first | decide | omega)), rq_B_keep hB (g _ _ (by first | decide | omega) (by first | decide | omega)) (g _ _ (by first | decide | omega) (by first | decide | omega)) (fun a b h1 h2 => g _ _ (by first | decide | omega) (by first | decide | omega)) (fun a b h1 h2 => g _ _ (by first | decide | omega) (by first | decide | omega)) (by first | decide | omega), rq_I_keep hJ (g _ _ (by first | decide | omega) (by first | decide | omega)) (g _ _ (by first | decide | omega) (by first | decide | omega)) (fun a b h1 h2 => g _ _ (by first | decide | omega) (by first | decide | omega)) (fun b hb => g _ _ (by first | decide | omega) (by first | decide | omega))⟩
/-! calls that leave all of this: by the weak contracts -/
def rq_M (k j : Nat) : Prop := (k = 83 ∧ ((10 ≤ j ∧ j ≤ 14) ∨ j = 21 ∨ j = 25 ∨ j = 33)) ∨ ((85 ≤ k ∧ k ≤ 90) ∧ j < 4) ∨ k = 94 ∨ (101 ≤ k ∧ k ≤ 103) ∨ (k = 98 ∧ j < 45)
def fp_Ac (A : Nat → Nat → Bool) : Prop := ∀ k j, rq_M k j → A k j = false
def fp_Ec (E : List Nat) : Bool := ([0, 1, 2, 3, 4, 5, 6, 7, 22, 23, 24, 25, 26, 27, 28, 36, 37, 62, 64, 65, 66, 67, 68, 69, 70, 71, 72, 73, 74, 75, 76, 77] : List Nat).all (fun k => sx_p k && !(E.contains k))
theorem fp_Ec_at {E : List Nat} (h : fp_Ec E = true) (k : Nat) (hk : k ≤ 7 ∨ (22 ≤ k ∧ k ≤ 28) ∨ k = 36 ∨ k = 37 ∨ k = 62 ∨ (64 ≤ k ∧ k ≤ 77)) : (sx_p k && !(E.contains k)) = true := by
  refine List.all_eq_true.mp h k ?_
  simp only [List.mem_cons, List.not_mem_nil, or_false]
  omega
theorem LI_weak {E : List Nat} {A : Nat → Nat → Bool} {μ μ1 μ2 : am_N} (hI : lx_I μ) (h1 : gv E μ μ1) (h2 : gm A μ1 μ2) (hE : lx_E E) (hEc : fp_Ec E = true) (hA : lx_A A) (hAc : fp_Ac A) : lx_I μ2 := by
  obtain ⟨hS, hm, hR0, hL, hB, hJ⟩ := hI
  have c : ∀ k j, (k ≤ 7 ∨ (22 ≤ k ∧ k ≤ 28) ∨ k = 36 ∨ k = 37 ∨ k = 62 ∨ (64 ≤ k ∧ k ≤ 77)) → μ2 k j = μ k j := fun k j hk => (h2.2 k j (hA k j (by first | decide | omega))).trans (h1.2 k j (fp_Ec_at hEc k hk))
  have d : ∀ k j, rq_M k j → μ2 k j = μ k j := fun k j hk => (h2.2 k j (hAc k j hk)).trans (h1.2 k j (by rw [sx_p83 (by unfold rq_M at hk; omega), hE k (by unfold rq_M at hk; omega)]; rfl))
  have hb := sx_all hS
  exact ⟨lx_sx hA h2 h1.1, h2.1, rq_F_keep hR0 (fun a b h1 h2 => c a b (by first | decide | omega)) (fun a b h => d a b (by unfold rq_M; omega)), rq_L_keep hL (c _ _ (by first | decide | omega)) (fun b => c _ _ (by first | decide | omega)) (d _ _ (by unfold rq_M; omega)) (fun b => d _ _ (by unfold rq_M; omega)), rq_B_keep hB (c _ _ (by first | decide | omega)) (d _ _ (by unfold rq_M; omega)) (fun a b h1 h2 => c _ _ (by first | decide | omega)) (fun a b h1 h2 => d _ _ (by unfold rq_M; omega)) (by first | decide | omega), rq_I_keep hJ (c _ _ (by first | decide | omega)) (d _ _ (by unfold rq_M; omega)) (fun a b h1 h2 => c _ _ (by first | decide | omega)) (fun b hb => d _ _ (by unfold rq_M; omega))⟩
theorem fp_AcQ : fp_Ac mQ := fun k j h => by
  rcases h with ⟨rfl, h⟩ | ⟨h, h2⟩ | rfl | h | ⟨rfl, h⟩
  · rcases (show j = 10 ∨ j = 11 ∨ j = 12 ∨ j = 13 ∨ j = 14 ∨ j = 21 ∨ j = 25 ∨ j = 33 by omega) with rfl | rfl | rfl | rfl | rfl | rfl | rfl | rfl <;> rfl
  · rcases (show k = 85 ∨ k = 86 ∨ k = 87 ∨ k = 88 ∨ k = 89 ∨ k = 90 by omega) with rfl | rfl | rfl | rfl | rfl | rfl <;> rcases (show j = 0 ∨ j = 1 ∨ j = 2 ∨ j = 3 by omega) with rfl | rfl | rfl | rfl <;> rfl
  · rfl
  · rcases (show k = 101 ∨ k = 102 ∨ k = 103 by omega) with rfl | rfl | rfl <;> rfl
  · have z : Nat.ble 60 j = false := by
      cases y : Nat.ble 60 j with
      | false => rfl
      | true => have := Nat.ble_eq.mp y; omega
    show mo ms mQ1 98 j = false
    unfold mo mQ1
    rw [z]
    rfl
theorem fp_Acs : fp_Ac ms := fun k j h => mo_l k j (fp_AcQ k j h)
theorem fp_Aco {A B : Nat → Nat → Bool} (h1 : fp_Ac A) (h2 : fp_Ac B) : fp_Ac (mo A B) := fun k j h => Bool.or_eq_false_iff.mpr ⟨h1 k j h, h2 k j h⟩
theorem fp_Ac1 {c r : Nat} (hc : ¬(c = 83 ∨ (85 ≤ c ∧ c ≤ 90) ∨ c = 94 ∨ (101 ≤ c ∧ c ≤ 103) ∨ c = 98)) (hr : ¬((10 ≤ r ∧ r ≤ 14) ∨ r = 21 ∨ r = 25 ∨ r = 33)) : fp_Ac (m1o c r) := fun k j h => by
  unfold rq_M at h
  have n : ∀ a b : Nat, a ≠ b → Nat.beq a b = false := fun a b hab => by
    cases q : Nat.beq a b with
    | false => rfl
    | true => exact absurd (Nat.eq_of_beq_eq_true q) hab
  unfold m1o
  rw [n k c (by first | decide | omega)]
  by_cases e : k = 83
  · rw [n j r (by first | decide | omega)]; exact Bool.and_false _
  · rw [n k 83 e]; rfl
theorem LI_feed {μ μ1 μ2 : am_N} {v : Int} (hI : lx_I μ) (hv : 0 ≤ v ∧ v ≤ 255) (h96 : μ 36 1 < 96) (f1 : ∀ a b, ¬(a = 36 ∧ b = 1) → a ≠ 37 → μ1 a b = μ a b) (f2 : ∀ a b, a ≠ 94 → ¬(a = 83 ∧ b = 21) → μ2 a b = μ1 a b) (e1 : μ1 36 1 = μ 36 1 + 1) (e2 : ∀ b, μ1 37 b = if b = (μ 36 1).toNat then v else μ 37 b) (e3 : μ2 83 21 = μ1 83 21 + 1) (e4 : ∀ b, μ2 94 b = if b = (μ1 83 21).toNat then v else μ1 94 b) : lx_I μ2 := by
  obtain ⟨hS, hm, hR0, hL, hB, hJ⟩ := hI
  have hb := sx_all hS
  have hc := mi_all hm
  have g : ∀ a b, ¬(a = 36 ∧ b = 1) → a ≠ 37 → a ≠ 94 → ¬(a = 83 ∧ b = 21) → μ2 a b = μ a b := fun a b h1 h2 h3 h4 => (f2 a b h3 h4).trans (f1 a b h1 h2)
  have d1 : μ2 36 1 = μ 36 1 + 1 := (f2 36 1 (by first | decide | omega) (by first | decide | omega)).trans e1
  have d2 : μ2 83 21 = μ 83 21 + 1 := by rw [e3, f1 83 21 (by first | decide | omega) (by first | decide | omega)]
  have l1 := hL.1
  refine ⟨⟨fun _ _ _ => rfl, fun p hp => by rw [g 34 p (by first | decide | omega) (by first | decide | omega) (by first | decide | omega) (by first | decide | omega)]; exact hS.2.1 p hp, fun p hp => by rw [g 43 p (by first | decide | omega) (by first | decide | omega) (by first | decide | omega) (by first | decide | omega)]; exact hS.2.2.1 p hp, by have q := hS.2.2.2.1; unfold sx_4 at q ⊢; rw [g 8 4 (by first | decide | omega) (by first | decide | omega) (by first | decide | omega) (by first | decide | omega), g 15 4 (by first | decide | omega) (by first | decide | omega) (by first | decide | omega) (by first | decide | omega), g 29 0 (by first | decide | omega) (by first | decide | omega) (by first | decide | omega) (by first | decide | omega), g 38 0 (by first | decide | omega) (by first | decide | omega) (by first | decide | omega) (by first | decide | omega)]; omega, by have q := hS.2.2.2.2; unfold px at q ⊢; rw [g 1 4 (by first | decide | omega) (by first | decide | omega) (by first | decide | omega) (by first | decide | omega), g 22 4 (by first | decide | omega) (by first | decide | omega) (by first | decide | omega) (by first | decide | omega), g 44 1 (by first | decide | omega) (by first | decide | omega) (by first | decide | omega) (by first | decide | omega), g 46 1 (by first | decide | omega) (by first | decide | omega) (by first | decide | omega) (by first | decide | omega), g 48 1 (by first | decide | omega) (by first | decide | omega) (by first | decide | omega) (by first | decide | omega), g 50 1 (by first | decide | omega) (by first | decide | omega) (by first | decide | omega) (by first | decide | omega), g 53 1 (by first | decide | omega) (by first | decide | omega) (by first | decide | omega) (by first | decide | omega), g 55 1 (by first | decide | omega) (by first | decide | omega) (by first | decide | omega) (by first | decide | omega), g 58 1 (by first | decide | omega) (by first | decide | omega) (by first | decide | omega) (by first | decide | omega), g 60 1 (by first | decide | omega) (by first | decide | omega) (by first | decide | omega) (by first | decide | omega), g 62 3 (by first | decide | omega) (by first | decide | omega) (by first | decide | omega) (by first | decide | omega)]; omega⟩, ?_, rq_F_keep hR0 (fun a b h1 h2 => (g a b (by first | decide | omega) (by first | decide | omega) (by first | decide | omega) (by first | decide | omega))) (fun a b h => (g a b (by first | decide | omega) (by first | decide | omega) (by first | decide | omega) (by first | decide | omega))), rq_L_feed hL (by first | decide | omega) hv d1 (fun b => by rw [f2 37 b (by first | decide | omega) (by first | decide | omega)]; exact e2 b) d2 (fun b => by rw [e4, f1 83 21 (by first | decide | omega) (by first | decide | omega), f1 94 b (by first | decide | omega) (by first | decide | omega)]), rq_B_keep hB (g _ _ (by first | decide | omega) (by first | decide | omega) (by first | decide | omega) (by first | decide | omega)) (g _ _ (by first | decide | omega) (by first | decide | omega) (by first | decide | omega) (by first | decide | omega)) (fun a b h1 h2 => (g _ _ (by first | decide | omega) (by first | decide | omega) (by first | decide | omega) (by first | decide | omega))) (fun a b h1 h2 => (g _ _ (by first | decide | omega) (by first | decide | omega) (by first | decide | omega) (by first | decide | omega))) (by first | decide | omega), rq_I_keep hJ (g _ _ (by first | decide | omega) (by first | decide | omega) (by first | decide | omega) (by first | decide | omega)) (g _ _ (by first | decide | omega) (by first | decide | omega) (by first | decide | omega) (by first | decide | omega)) (fun a b h1 h2 => (g _ _ (by first | decide | omega) (by first | decide | omega) (by first | decide | omega) (by first | decide | omega))) (fun b hb => (g _ _ (by first | decide | omega) (by first | decide | omega) (by first | decide | omega) (by first | decide | omega)))⟩
  unfold mi at hm ⊢
  rw [g 83 14 (by first | decide | omega) (by first | decide | omega) (by first | decide | omega) (by first | decide | omega), g 83 15 (by first | decide | omega) (by first | decide | omega) (by first | decide | omega) (by first | decide | omega), g 83 16 (by first | decide | omega) (by first | decide | omega) (by first | decide | omega) (by first | decide | omega), d2, g 83 33 (by first | decide | omega) (by first | decide | omega) (by first | decide | omega) (by first | decide | omega), g 83 40 (by first | decide | omega) (by first | decide | omega) (by first | decide | omega) (by first | decide | omega), g 83 42 (by first | decide | omega) (by first | decide | omega) (by first | decide | omega) (by first | decide | omega), g 98 44 (by first | decide | omega) (by first | decide | omega) (by first | decide | omega) (by first | decide | omega), g 98 38 (by first | decide | omega) (by first | decide | omega) (by first | decide | omega) (by first | decide | omega), g 98 39 (by first | decide | omega) (by first | decide | omega) (by first | decide | omega) (by first | decide | omega)]
  refine ⟨hm.1, hm.2.1, hm.2.2.1, by omega, hm.2.2.2.2.1, hm.2.2.2.2.2.1, hm.2.2.2.2.2.2.1, hm.2.2.2.2.2.2.2.1, hm.2.2.2.2.2.2.2.2.1, hm.2.2.2.2.2.2.2.2.2.1, fun p hp => ?_⟩
  rw [g 100 p (by first | decide | omega) (by first | decide | omega) (by first | decide | omega) (by first | decide | omega)]
  exact hm.2.2.2.2.2.2.2.2.2.2 p hp
