/-! what holds between calls: equality of the field, of the letters, of the runs kept, of the image -/
def rq_L (μ : am_N) : Prop := μ 36 1 = μ 83 21 ∧ (∀ b, μ 37 b = μ 94 b) ∧ ∀ i : Nat, (i : Int) < μ 36 1 → 0 ≤ μ 37 i ∧ μ 37 i ≤ 255
def rq_B (μ : am_N) : Prop := μ 62 3 = μ 83 33 ∧ ∀ k : Nat, (k : Int) < μ 62 3 → (∀ r : Nat, r < 4 → μ (64 + (μ 62 3 - 1 - k).toNat) r = μ 101 (4 * k + r) ∧ μ (71 + (μ 62 3 - 1 - k).toNat) r = μ 102 (4 * k + r) ∧ 0 ≤ μ 101 (4 * k + r) ∧ μ 101 (4 * k + r) ≤ 99) ∧ μ 77 (μ 62 3 - 1 - k).toNat = μ 103 k ∧ 0 ≤ μ 103 k ∧ μ 103 k ≤ 999
def rq_I (μ : am_N) : Prop := (μ 0 15 = 0 ∧ μ 83 25 = 0) ∨ (μ 0 15 = 1 ∧ μ 83 25 = 1 ∧ fv μ 22 = kv μ 0 ∧ fp_fw 999 (kv μ 0))
def rq_R (μ : am_N) : Prop := (fv μ 1 = mv μ ∧ fp_fw 999 (mv μ)) ∧ rq_L μ ∧ rq_B μ ∧ rq_I μ
def lx_I (μ : am_N) : Prop := sx μ μ ∧ mi μ ∧ rq_R μ
theorem rq_L_keep {μ ν : am_N} (h : rq_L μ) (e1 : ν 36 1 = μ 36 1) (e2 : ∀ b, ν 37 b = μ 37 b) (e3 : ν 83 21 = μ 83 21) (e4 : ∀ b, ν 94 b = μ 94 b) : rq_L ν := by
  obtain ⟨h1, h2, h3⟩ := h
  refine ⟨by rw [e1, e3]; exact h1, fun b => by rw [e2, e4]; exact h2 b, fun i hi => ?_⟩
  rw [e1] at hi
  rw [e2]
  exact h3 i hi
theorem rq_L_zero {μ ν : am_N} (h : rq_L μ) (e1 : ν 36 1 = 0) (e2 : ∀ b, ν 37 b = μ 37 b) (e3 : ν 83 21 = 0) (e4 : ∀ b, ν 94 b = μ 94 b) : rq_L ν := by
  obtain ⟨h1, h2, h3⟩ := h
  refine ⟨by rw [e1, e3], fun b => by rw [e2, e4]; exact h2 b, fun i hi => ?_⟩
  rw [e1] at hi
  omega
theorem rq_L_feed {μ ν : am_N} {v : Int} (h : rq_L μ) (h0 : 0 ≤ μ 36 1) (hv : 0 ≤ v ∧ v ≤ 255) (e1 : ν 36 1 = μ 36 1 + 1) (e2 : ∀ b, ν 37 b = if b = (μ 36 1).toNat then v else μ 37 b) (e3 : ν 83 21 = μ 83 21 + 1) (e4 : ∀ b, ν 94 b = if b = (μ 83 21).toNat then v else μ 94 b) : rq_L ν := by
  obtain ⟨h1, h2, h3⟩ := h
  refine ⟨by rw [e1, e3, h1], fun b => ?_, fun i hi => ?_⟩
  · rw [e2, e4, h1, h2]
  · rw [e1] at hi
    rw [e2]
    by_cases d : i = (μ 36 1).toNat
    · rw [if_pos d]; exact hv
    · rw [if_neg d]; exact h3 i (by omega)
theorem rq_B_keep {μ ν : am_N} (h : rq_B μ) (e1 : ν 62 3 = μ 62 3) (e2 : ν 83 33 = μ 83 33) (e3 : ∀ a b, 64 ≤ a → a ≤ 77 → ν a b = μ a b) (e4 : ∀ a b, 101 ≤ a → a ≤ 103 → ν a b = μ a b) (hb : 0 ≤ μ 62 3 ∧ μ 62 3 ≤ 6) : rq_B ν := by
  obtain ⟨h1, h2⟩ := h
  refine ⟨by rw [e1, e2]; exact h1, fun k hk => ?_⟩
  rw [e1] at hk ⊢
  obtain ⟨q1, q2⟩ := h2 k hk
  refine ⟨fun r hr => ?_, ?_⟩
  · rw [e3 (64 + _) r (by omega) (by omega), e3 (71 + _) r (by omega) (by omega), e4 101 _ (by omega) (by omega), e4 102 _ (by omega) (by omega)]
    exact q1 r hr
  · rw [e3 77 _ (by omega) (by omega), e4 103 _ (by omega) (by omega)]
    exact q2
theorem rq_B_zero {ν : am_N} (e1 : ν 62 3 = 0) (e2 : ν 83 33 = 0) : rq_B ν := ⟨by rw [e1, e2], fun k hk => by rw [e1] at hk; omega⟩
theorem kv_keep {μ ν : am_N} (h : ∀ b : Nat, b < 45 → ν 98 b = μ 98 b) : kv ν 0 = kv μ 0 := by
  refine fp_ct_e (fun b hb => h (0 + 40 + b) (by omega)) (fun a b q1 q2 hb => ?_)
  obtain ⟨a, rfl⟩ : ∃ e, a = e + 1 := ⟨a - 1, by omega⟩
  exact h (0 + 4 * a + b) (by omega)
theorem fv_keep {μ ν : am_N} {c : Nat} (h : ∀ a b : Nat, c ≤ a → a ≤ c + 6 → ν a b = μ a b) : fv ν c = fv μ c := fp_ct_e (fun b _ => h c b (by omega) (by omega)) (fun a b _ _ _ => h (c + a) b (by omega) (by omega))
theorem rq_I_keep {μ ν : am_N} (h : rq_I μ) (e1 : ν 0 15 = μ 0 15) (e2 : ν 83 25 = μ 83 25) (e3 : ∀ a b, 22 ≤ a → a ≤ 28 → ν a b = μ a b) (e4 : ∀ b : Nat, b < 45 → ν 98 b = μ 98 b) : rq_I ν := by
  have k := kv_keep e4
  have f : fv ν 22 = fv μ 22 := fv_keep (fun a b h1 h2 => e3 a b h1 (by omega))
  unfold rq_I
  rw [e1, e2, k, f]
  exact h
/-- the field, either side -/
theorem rq_F_keep {μ ν : am_N} (h : fv μ 1 = mv μ ∧ fp_fw 999 (mv μ)) (e1 : ∀ a b, 1 ≤ a → a ≤ 7 → ν a b = μ a b) (e2 : ∀ a b : Nat, ((85 ≤ a ∧ a ≤ 90) ∧ b < 4) ∨ (a = 83 ∧ 10 ≤ b ∧ b ≤ 14) → ν a b = μ a b) : fv ν 1 = mv ν ∧ fp_fw 999 (mv ν) := by
  rw [mv_keep4 e2, fv_keep (μ := μ) (ν := ν) (c := 1) (fun a b h1 h2 => e1 a b h1 (by omega))]
  exact h
theorem fv_up {μ : am_N} {c a j : Nat} {v : Int} (h : 0 < a) : fv (am_up μ (c + a) j v) c = fp_ct (am_up (fv μ c) a j v) := by
  refine fp_ct_e (fun b hb => ?_) (fun x b q1 q2 hb => ?_)
  · rw [am_upN (by omega : 0 ≠ a)]
    exact Eq.trans (am_upN (by omega)) (fv_0 hb).symm
  · by_cases d : x = a ∧ b = j
    · rw [am_upS, if_pos (by omega), am_upS, if_pos d]
    · rw [am_uE d]
      exact Eq.trans (am_uE (by omega)) (fv_a q1 q2 hb).symm
theorem mv_up {μ : am_N} {a j : Nat} {v : Int} : mv (am_up μ (85 + a) j v) = fp_ct (am_up (mv μ) (a + 1) j v) := by
  refine fp_ct_e (fun b hb => ?_) (fun x b q1 q2 hb => ?_)
  · rw [am_upN (by omega : 0 ≠ a + 1)]
    exact Eq.trans (am_upN (by omega)) (mv_0 hb).symm
  · obtain ⟨x, rfl⟩ : ∃ e, x = e + 1 := ⟨x - 1, by omega⟩
    by_cases d : x = a ∧ b = j
    · obtain ⟨rfl, rfl⟩ := d
      rw [show am_up (mv μ) (x + 1) b v (x + 1) b = v from if_pos ⟨rfl, rfl⟩]
      exact if_pos ⟨rfl, rfl⟩
    · rw [am_uE (show ¬(x + 1 = a + 1 ∧ b = j) by omega)]
      exact Eq.trans (am_uE (show ¬(85 + x = 85 + a ∧ b = j) by omega)) (mv_a (by omega) hb).symm
theorem fw_kind {W : Int} {F : am_N} {j : Nat} {v w : Int} (h : fp_fw W F) (hv : 0 ≤ v ∧ v ≤ 5) (hw : 0 ≤ w ∧ w ≤ 9) : fp_fw W (am_up (am_up F 1 j v) 2 j w) := by
  obtain ⟨h0, h1, h2, h3, h4, h5, h6⟩ := h
  have e : ∀ b : Nat, am_up (am_up F 1 j v) 2 j w 0 b = F 0 b := fun b => (am_upN (by decide)).trans (am_upN (by decide))
  have e3 : ∀ a b : Nat, 2 < a → am_up (am_up F 1 j v) 2 j w a b = F a b := fun a b ha => (am_upN (by omega)).trans (am_upN (by omega))
  unfold fp_fw
  rw [e 0, e 1, e 2, e 3, e 4]
  refine ⟨h0, h1, h2, h3, h4, fun i hi => ?_, fun i hi => ?_⟩
  · rw [e3 5 i (by decide)]; exact h5 i hi
  · obtain ⟨a1, a2, a3, a4⟩ := h6 i hi
    rw [e3 3 i (by decide), e3 4 i (by decide)]
    refine ⟨?_, ?_, a3, a4⟩
    · rw [am_upN (by decide), am_upS]; split; exact hv; exact a1
    · rw [am_upS]; split; exact hw; rw [am_upN (by decide)]; exact a2
theorem fp_ct2 {F : am_N} {k j : Nat} {v : Int} : fp_ct (am_up (fp_ct F) k j v) = fp_ct (am_up F k j v) := by
  refine fp_ct_e (fun b hb => ?_) (fun a b q1 q2 hb => ?_)
  · rw [am_upS, am_upS, fp_ct_i (fp_in_0 hb)]
  · rw [am_upS, am_upS, fp_ct_i (fp_in_a q1 q2 hb)]
/-- bounds of the system, of the model: only some cells count -/
theorem sx_mk {ν μ : am_N} (hS : sx ν ν) (C : Nat → Nat → Prop) (h : ∀ a b, a < 83 → ¬ C a b → μ a b = ν a b) (c34 : ∀ p, ¬ C 34 p) (c43 : sx_3 μ 43) (c4 : sx_4 μ) (cp : px μ) : sx μ μ :=
  ⟨fun _ _ _ => rfl, fun p hp => by rw [h 34 p (by decide) (c34 p)]; exact hS.2.1 p hp, c43, c4, cp⟩
theorem mi_mk {ν μ : am_N} (h : mi ν) (e : ∀ a b, (a = 83 ∧ (b = 15 ∨ b = 16 ∨ b = 21 ∨ b = 40 ∨ b = 42)) ∨ (a = 98 ∧ (b = 44 ∨ b = 38 ∨ b = 39)) ∨ a = 100 → μ a b = ν a b) (h14 : 0 ≤ μ 83 14 ∧ μ 83 14 ≤ 4) (h33 : 0 ≤ μ 83 33 ∧ μ 83 33 ≤ 6) : mi μ := by
  unfold mi at h ⊢
  rw [e 83 15 (by omega), e 83 16 (by omega), e 83 21 (by omega), e 83 40 (by omega), e 83 42 (by omega), e 98 44 (by omega), e 98 38 (by omega), e 98 39 (by omega)]
  refine ⟨h14, h.2.1, h.2.2.1, h.2.2.2.1, h33, h.2.2.2.2.2.1, h.2.2.2.2.2.2.1, h.2.2.2.2.2.2.2.1, h.2.2.2.2.2.2.2.2.1, h.2.2.2.2.2.2.2.2.2.1, fun p hp => ?_⟩
  rw [e 100 p (by omega)]
  exact h.2.2.2.2.2.2.2.2.2.2 p hp
/-- sx, when of what it tells only 1 4 and 62 3 change -/
theorem sx_set {ν μ : am_N} (hS : sx ν ν) (h : ∀ a b, a < 83 → ¬(1 ≤ a ∧ a ≤ 7) → ¬(a = 62 ∧ b = 3) → a ≠ 78 → μ a b = ν a b) (h1 : 0 ≤ μ 1 4 ∧ μ 1 4 ≤ 4) (h2 : 0 ≤ μ 62 3 ∧ μ 62 3 ≤ 6) : sx μ μ := by
  have hb := sx_all hS
  refine ⟨fun _ _ _ => rfl, fun p hp => ?_, fun p hp => ?_, ?_, ?_⟩
  · rw [h 34 p (by omega) (by omega) (by omega) (by omega)]; exact hS.2.1 p hp
  · rw [h 43 p (by omega) (by omega) (by omega) (by omega)]; exact hS.2.2.1 p hp
  · unfold sx_4
    rw [h 8 4 (by omega) (by omega) (by omega) (by omega), h 15 4 (by omega) (by omega) (by omega) (by omega), h 29 0 (by omega) (by omega) (by omega) (by omega), h 38 0 (by omega) (by omega) (by omega) (by omega)]
    exact hS.2.2.2.1
  · have q := hS.2.2.2.2
    unfold px at q ⊢
    rw [h 22 4 (by omega) (by omega) (by omega) (by omega), h 36 1 (by omega) (by omega) (by omega) (by omega), h 44 1 (by omega) (by omega) (by omega) (by omega), h 46 1 (by omega) (by omega) (by omega) (by omega), h 48 1 (by omega) (by omega) (by omega) (by omega), h 50 1 (by omega) (by omega) (by omega) (by omega), h 53 1 (by omega) (by omega) (by omega) (by omega), h 55 1 (by omega) (by omega) (by omega) (by omega), h 58 1 (by omega) (by omega) (by omega) (by omega), h 60 1 (by omega) (by omega) (by omega) (by omega)]
    omega
/-- start, kind, set -/
theorem LI_fld {μ μ1 μ2 : am_N} (hI : lx_I μ) (f1 : ∀ a b, ¬(1 ≤ a ∧ a ≤ 7) → ¬(a = 62 ∧ b = 3) → μ1 a b = μ a b) (f2 : ∀ a b, ¬(85 ≤ a ∧ a ≤ 90) → ¬(a = 83 ∧ (10 ≤ b ∧ b ≤ 14 ∨ b = 33)) → μ2 a b = μ1 a b) (z1 : μ1 62 3 = 0) (z2 : μ2 83 33 = 0) (hF : fv μ1 1 = mv μ2) (hw : fp_fw 999 (mv μ2)) : lx_I μ2 := by
  obtain ⟨hS, hm, hR0, hL, hB, hJ⟩ := hI
  have hF2 : fv μ2 1 = mv μ2 := by rw [← hF]; exact fv_keep (fun a b h1 h2 => f2 a b (by omega) (by omega))
  have n2 : 0 ≤ μ2 83 14 ∧ μ2 83 14 ≤ 4 := hw.2.2.2.2.1
  have n1 : 0 ≤ μ2 1 4 ∧ μ2 1 4 ≤ 4 := by
    have q := hw.2.2.2.2.1
    rw [← hF2, fv_0 (by decide)] at q
    exact q
  have g : ∀ a b, ¬(1 ≤ a ∧ a ≤ 7) → ¬(a = 62 ∧ b = 3) → ¬(85 ≤ a ∧ a ≤ 90) → ¬(a = 83 ∧ (10 ≤ b ∧ b ≤ 14 ∨ b = 33)) → μ2 a b = μ a b := fun a b h1 h2 h3 h4 => (f2 a b h3 h4).trans (f1 a b h1 h2)
  have z3 : μ2 62 3 = 0 := (f2 _ _ (by omega) (by omega)).trans z1
  exact ⟨sx_set hS (fun a b h0 h1 h2 h3 => g a b h1 h2 (by omega) (by omega)) n1 (by omega), mi_mk hm (fun a b q => g a b (by omega) (by omega) (by omega) (by omega)) n2 (by omega), ⟨hF2, hw⟩, rq_L_keep hL (g _ _ (by omega) (by omega) (by omega) (by omega)) (fun b => g _ _ (by omega) (by omega) (by omega) (by omega)) (g _ _ (by omega) (by omega) (by omega) (by omega)) (fun b => g _ _ (by omega) (by omega) (by omega) (by omega)), rq_B_zero z3 z2, rq_I_keep hJ (g _ _ (by omega) (by omega) (by omega) (by omega)) (g _ _ (by omega) (by omega) (by omega) (by omega)) (fun a b h1 h2 => g _ _ (by omega) (by omega) (by omega) (by omega)) (fun b hb => g _ _ (by omega) (by omega) (by omega) (by omega))⟩
/-- a refusal on both sides -/
theorem LI_ref {μ μ1 μ2 : am_N} (hI : lx_I μ) (f1 : ∀ a b, a ≠ 78 → μ1 a b = μ a b) (f2 : ∀ a b, a ≠ 84 → μ2 a b = μ1 a b) : lx_I μ2 := by
  obtain ⟨hS, hm, hR0, hL, hB, hJ⟩ := hI
  have g : ∀ a b, a ≠ 78 → a ≠ 84 → μ2 a b = μ a b := fun a b h1 h2 => (f2 a b h2).trans (f1 a b h1)
  have hb := sx_all hS
  have hc := mi_all hm
  exact ⟨sx_set hS (fun a b h0 h1 h2 h3 => g a b h3 (by omega)) (by rw [g 1 4 (by omega) (by omega)]; omega) (by rw [g 62 3 (by omega) (by omega)]; omega), mi_mk hm (fun a b q => g a b (by omega) (by omega)) (by rw [g 83 14 (by omega) (by omega)]; omega) (by rw [g 83 33 (by omega) (by omega)]; omega), rq_F_keep hR0 (fun a b h1 h2 => g a b (by omega) (by omega)) (fun a b h => g a b (by omega) (by omega)), rq_L_keep hL (g _ _ (by omega) (by omega)) (fun b => g _ _ (by omega) (by omega)) (g _ _ (by omega) (by omega)) (fun b => g _ _ (by omega) (by omega)), rq_B_keep hB (g _ _ (by omega) (by omega)) (g _ _ (by omega) (by omega)) (fun a b h1 h2 => g _ _ (by omega) (by omega)) (fun a b h1 h2 => g _ _ (by omega) (by omega)) (by omega), rq_I_keep hJ (g _ _ (by omega) (by omega)) (g _ _ (by omega) (by omega)) (fun a b h1 h2 => g _ _ (by omega) (by omega)) (fun b hb => g _ _ (by omega) (by omega))⟩
/-! calls that leave all of this: by the weak contracts -/
def rq_M (k j : Nat) : Prop := (k = 83 ∧ ((10 ≤ j ∧ j ≤ 14) ∨ j = 21 ∨ j = 25 ∨ j = 33)) ∨ ((85 ≤ k ∧ k ≤ 90) ∧ j < 4) ∨ k = 94 ∨ (101 ≤ k ∧ k ≤ 103) ∨ (k = 98 ∧ j < 45)
def fp_Ac (A : Nat → Nat → Bool) : Prop := ∀ k j, rq_M k j → A k j = false
def fp_Ec (E : List Nat) : Bool := ([0, 1, 2, 3, 4, 5, 6, 7, 22, 23, 24, 25, 26, 27, 28, 36, 37, 62, 64, 65, 66, 67, 68, 69, 70, 71, 72, 73, 74, 75, 76, 77] : List Nat).all (fun k => sx_p k && !(E.contains k))
theorem fp_Ec_at {E : List Nat} (h : fp_Ec E = true) (k : Nat) (hk : k ≤ 7 ∨ (22 ≤ k ∧ k ≤ 28) ∨ k = 36 ∨ k = 37 ∨ k = 62 ∨ (64 ≤ k ∧ k ≤ 77)) : (sx_p k && !(E.contains k)) = true := by
  refine List.all_eq_true.mp h k ?_
  simp only [List.mem_cons, List.not_mem_nil, or_false]
  omega
theorem LI_weak {E : List Nat} {A : Nat → Nat → Bool} {μ μ1 μ2 : am_N} (hI : lx_I μ) (h1 : gv E μ μ1) (h2 : gm A μ1 μ2) (hE : lx_E E) (hEc : fp_Ec E = true) (hA : lx_A A) (hAc : fp_Ac A) : lx_I μ2 := by
  obtain ⟨hS, hm, hR0, hL, hB, hJ⟩ := hI
  have c : ∀ k j, (k ≤ 7 ∨ (22 ≤ k ∧ k ≤ 28) ∨ k = 36 ∨ k = 37 ∨ k = 62 ∨ (64 ≤ k ∧ k ≤ 77)) → μ2 k j = μ k j := fun k j hk => (h2.2 k j (hA k j (by omega))).trans (h1.2 k j (fp_Ec_at hEc k hk))
  have d : ∀ k j, rq_M k j → μ2 k j = μ k j := fun k j hk => (h2.2 k j (hAc k j hk)).trans (h1.2 k j (by rw [sx_p83 (by unfold rq_M at hk; omega), hE k (by unfold rq_M at hk; omega)]; rfl))
  have hb := sx_all hS
  exact ⟨lx_sx hA h2 h1.1, h2.1, rq_F_keep hR0 (fun a b h1 h2 => c a b (by omega)) (fun a b h => d a b (by unfold rq_M; omega)), rq_L_keep hL (c _ _ (by omega)) (fun b => c _ _ (by omega)) (d _ _ (by unfold rq_M; omega)) (fun b => d _ _ (by unfold rq_M; omega)), rq_B_keep hB (c _ _ (by omega)) (d _ _ (by unfold rq_M; omega)) (fun a b h1 h2 => c _ _ (by omega)) (fun a b h1 h2 => d _ _ (by unfold rq_M; omega)) (by omega), rq_I_keep hJ (c _ _ (by omega)) (d _ _ (by unfold rq_M; omega)) (fun a b h1 h2 => c _ _ (by omega)) (fun b hb => d _ _ (by unfold rq_M; omega))⟩
theorem fp_AcQ : fp_Ac mQ := fun k j h => by
  rcases h with ⟨rfl, h⟩ | ⟨h, h2⟩ | rfl | h | ⟨rfl, h⟩
  · rcases (show j = 10 ∨ j = 11 ∨ j = 12 ∨ j = 13 ∨ j = 14 ∨ j = 21 ∨ j = 25 ∨ j = 33 by omega) with rfl | rfl | rfl | rfl | rfl | rfl | rfl | rfl <;> rfl
  · rcases (show k = 85 ∨ k = 86 ∨ k = 87 ∨ k = 88 ∨ k = 89 ∨ k = 90 by omega) with rfl | rfl | rfl | rfl | rfl | rfl <;> rcases (show j = 0 ∨ j = 1 ∨ j = 2 ∨ j = 3 by omega) with rfl | rfl | rfl | rfl <;> rfl
  · rfl
  · rcases (show k = 101 ∨ k = 102 ∨ k = 103 by omega) with rfl | rfl | rfl <;> rfl
  · have z : Nat.ble 60 j = false := by
      cases y : Nat.ble 60 j with
      | false => rfl
      | true => have := Nat.ble_eq.mp y; omega
    show mo ms mQ1 98 j = false
    unfold mo mQ1
    rw [z]
    rfl
theorem fp_Acs : fp_Ac ms := fun k j h => mo_l k j (fp_AcQ k j h)
theorem fp_Aco {A B : Nat → Nat → Bool} (h1 : fp_Ac A) (h2 : fp_Ac B) : fp_Ac (mo A B) := fun k j h => Bool.or_eq_false_iff.mpr ⟨h1 k j h, h2 k j h⟩
theorem fp_Ac1 {c r : Nat} (hc : ¬(c = 83 ∨ (85 ≤ c ∧ c ≤ 90) ∨ c = 94 ∨ (101 ≤ c ∧ c ≤ 103) ∨ c = 98)) (hr : ¬((10 ≤ r ∧ r ≤ 14) ∨ r = 21 ∨ r = 25 ∨ r = 33)) : fp_Ac (m1o c r) := fun k j h => by
  unfold rq_M at h
  have n : ∀ a b : Nat, a ≠ b → Nat.beq a b = false := fun a b hab => by
    cases q : Nat.beq a b with
    | false => rfl
    | true => exact absurd (Nat.eq_of_beq_eq_true q) hab
  unfold m1o
  rw [n k c (by omega)]
  by_cases e : k = 83
  · rw [n j r (by omega)]; exact Bool.and_false _
  · rw [n k 83 e]; rfl
theorem LI_feed {μ μ1 μ2 : am_N} {v : Int} (hI : lx_I μ) (hv : 0 ≤ v ∧ v ≤ 255) (h96 : μ 36 1 < 96) (f1 : ∀ a b, ¬(a = 36 ∧ b = 1) → a ≠ 37 → μ1 a b = μ a b) (f2 : ∀ a b, a ≠ 94 → ¬(a = 83 ∧ b = 21) → μ2 a b = μ1 a b) (e1 : μ1 36 1 = μ 36 1 + 1) (e2 : ∀ b, μ1 37 b = if b = (μ 36 1).toNat then v else μ 37 b) (e3 : μ2 83 21 = μ1 83 21 + 1) (e4 : ∀ b, μ2 94 b = if b = (μ1 83 21).toNat then v else μ1 94 b) : lx_I μ2 := by
  obtain ⟨hS, hm, hR0, hL, hB, hJ⟩ := hI
  have hb := sx_all hS
  have hc := mi_all hm
  have g : ∀ a b, ¬(a = 36 ∧ b = 1) → a ≠ 37 → a ≠ 94 → ¬(a = 83 ∧ b = 21) → μ2 a b = μ a b := fun a b h1 h2 h3 h4 => (f2 a b h3 h4).trans (f1 a b h1 h2)
  have d1 : μ2 36 1 = μ 36 1 + 1 := (f2 36 1 (by omega) (by omega)).trans e1
  have d2 : μ2 83 21 = μ 83 21 + 1 := by rw [e3, f1 83 21 (by omega) (by omega)]
  have l1 := hL.1
  refine ⟨⟨fun _ _ _ => rfl, fun p hp => by rw [g 34 p (by omega) (by omega) (by omega) (by omega)]; exact hS.2.1 p hp, fun p hp => by rw [g 43 p (by omega) (by omega) (by omega) (by omega)]; exact hS.2.2.1 p hp, by have q := hS.2.2.2.1; unfold sx_4 at q ⊢; rw [g 8 4 (by omega) (by omega) (by omega) (by omega), g 15 4 (by omega) (by omega) (by omega) (by omega), g 29 0 (by omega) (by omega) (by omega) (by omega), g 38 0 (by omega) (by omega) (by omega) (by omega)]; omega, by have q := hS.2.2.2.2; unfold px at q ⊢; rw [g 1 4 (by omega) (by omega) (by omega) (by omega), g 22 4 (by omega) (by omega) (by omega) (by omega), g 44 1 (by omega) (by omega) (by omega) (by omega), g 46 1 (by omega) (by omega) (by omega) (by omega), g 48 1 (by omega) (by omega) (by omega) (by omega), g 50 1 (by omega) (by omega) (by omega) (by omega), g 53 1 (by omega) (by omega) (by omega) (by omega), g 55 1 (by omega) (by omega) (by omega) (by omega), g 58 1 (by omega) (by omega) (by omega) (by omega), g 60 1 (by omega) (by omega) (by omega) (by omega), g 62 3 (by omega) (by omega) (by omega) (by omega)]; omega⟩, ?_, rq_F_keep hR0 (fun a b h1 h2 => (g a b (by omega) (by omega) (by omega) (by omega))) (fun a b h => (g a b (by omega) (by omega) (by omega) (by omega))), rq_L_feed hL (by omega) hv d1 (fun b => by rw [f2 37 b (by omega) (by omega)]; exact e2 b) d2 (fun b => by rw [e4, f1 83 21 (by omega) (by omega), f1 94 b (by omega) (by omega)]), rq_B_keep hB (g _ _ (by omega) (by omega) (by omega) (by omega)) (g _ _ (by omega) (by omega) (by omega) (by omega)) (fun a b h1 h2 => (g _ _ (by omega) (by omega) (by omega) (by omega))) (fun a b h1 h2 => (g _ _ (by omega) (by omega) (by omega) (by omega))) (by omega), rq_I_keep hJ (g _ _ (by omega) (by omega) (by omega) (by omega)) (g _ _ (by omega) (by omega) (by omega) (by omega)) (fun a b h1 h2 => (g _ _ (by omega) (by omega) (by omega) (by omega))) (fun b hb => (g _ _ (by omega) (by omega) (by omega) (by omega)))⟩
  unfold mi at hm ⊢
  rw [g 83 14 (by omega) (by omega) (by omega) (by omega), g 83 15 (by omega) (by omega) (by omega) (by omega), g 83 16 (by omega) (by omega) (by omega) (by omega), d2, g 83 33 (by omega) (by omega) (by omega) (by omega), g 83 40 (by omega) (by omega) (by omega) (by omega), g 83 42 (by omega) (by omega) (by omega) (by omega), g 98 44 (by omega) (by omega) (by omega) (by omega), g 98 38 (by omega) (by omega) (by omega) (by omega), g 98 39 (by omega) (by omega) (by omega) (by omega)]
  refine ⟨hm.1, hm.2.1, hm.2.2.1, by omega, hm.2.2.2.2.1, hm.2.2.2.2.2.1, hm.2.2.2.2.2.2.1, hm.2.2.2.2.2.2.2.1, hm.2.2.2.2.2.2.2.2.1, hm.2.2.2.2.2.2.2.2.2.1, fun p hp => ?_⟩
  rw [g 100 p (by omega) (by omega) (by omega) (by omega)]
  exact hm.2.2.2.2.2.2.2.2.2.2 p hp
theorem LI_run {μ μ1 μ2 : am_N} (hI : lx_I μ) (hk : μ 1 1 < 999) (f1 : (∀ a b, a ≠ 6 → a ≠ 7 → ¬(a = 1 ∧ b = 1) → ¬(62 ≤ a ∧ a ≤ 77) → a ≠ 33 → a ≠ 34 → ¬(a = 29 ∧ b = 0) → μ1 a b = μ a b)) (h1 : fv μ1 1 = fp_rn (fv μ 1)) (p34 : sx_3 μ1 34) (e29 : μ1 29 0 = μ 1 4) (e62 : μ1 62 3 = if μ 62 3 < 6 then μ 62 3 + 1 else 6) (r1 : ∀ r : Nat, r < 4 → μ1 (64 + (μ1 62 3 - 1).toNat) r = μ 6 r ∧ μ1 (71 + (μ1 62 3 - 1).toNat) r = μ 7 r) (w1 : μ1 77 (μ1 62 3 - 1).toNat = μ 1 1) (o1 : ∀ j : Nat, (j : Int) + 1 < μ1 62 3 → (∀ r : Nat, r < 4 → μ1 (64 + (μ1 62 3 - 2 - j).toNat) r = μ (64 + (μ 62 3 - 1 - j).toNat) r ∧ μ1 (71 + (μ1 62 3 - 2 - j).toNat) r = μ (71 + (μ 62 3 - 1 - j).toNat) r) ∧ μ1 77 (μ1 62 3 - 2 - j).toNat = μ 77 (μ 62 3 - 1 - j).toNat) (f2 : (∀ a b, a ≠ 89 → a ≠ 90 → ¬(a = 83 ∧ b = 11) → a ≠ 99 → a ≠ 100 → a ≠ 101 → a ≠ 102 → a ≠ 103 → ¬(a = 83 ∧ b = 33) → μ2 a b = μ1 a b)) (h2 : mv μ2 = fp_rn (mv μ1)) (p100 : sx_3 μ2 100) (e33 : μ2 83 33 = if μ1 83 33 < 6 then μ1 83 33 + 1 else 6) (r2 : ∀ r : Nat, r < 4 → μ2 101 r = μ1 89 r ∧ μ2 102 r = μ1 90 r) (w2 : μ2 103 0 = μ1 83 11) (o2 : ∀ b : Nat, 4 ≤ b → b < 24 → μ2 101 b = μ1 101 (b - 4) ∧ μ2 102 b = μ1 102 (b - 4)) (q2 : ∀ b : Nat, 1 ≤ b → b < 6 → μ2 103 b = μ1 103 (b - 1)) : lx_I μ2 := by
  obtain ⟨hS, hm, hR0, hL, hB, hJ⟩ := hI
  have hb := sx_all hS
  have hc := mi_all hm
  have g : ∀ a b, a ≠ 6 → a ≠ 7 → ¬(a = 1 ∧ b = 1) → ¬(62 ≤ a ∧ a ≤ 77) → a ≠ 33 → a ≠ 34 → ¬(a = 29 ∧ b = 0) → a ≠ 89 → a ≠ 90 → ¬(a = 83 ∧ b = 11) → a ≠ 99 → a ≠ 100 → a ≠ 101 → a ≠ 102 → a ≠ 103 → ¬(a = 83 ∧ b = 33) → μ2 a b = μ a b := fun a b h1 h2 h3 h4 h5 h6 h7 h8 h9 h10 h11 h12 h13 h14 h15 h16 => (f2 a b h8 h9 h10 h11 h12 h13 h14 h15 h16).trans (f1 a b h1 h2 h3 h4 h5 h6 h7)
  have m1 : mv μ1 = mv μ := mv_keep (fun a b q => f1 a b (by omega) (by omega) (by omega) (by omega) (by omega) (by omega) (by omega))
  obtain ⟨n5, n6⟩ := fp_ct_n hR0.1
  have c5 : ∀ r : Nat, r < 4 → μ 6 r = μ 89 r := fun r hr => n6 5 r (by decide) (by decide) hr
  have c6 : ∀ r : Nat, r < 4 → μ 7 r = μ 90 r := fun r hr => n6 6 r (by decide) (by decide) hr
  have cw : μ 1 1 = μ 83 11 := n5 1 (by decide)
  obtain ⟨-, -, -, hs, -, hwk, -⟩ := fw_M hR0.2 (by decide)
  have b33 := hB.1
  have e33' : μ2 83 33 = if μ 83 33 < 6 then μ 83 33 + 1 else 6 := by rw [e33, f1 83 33 (by omega) (by omega) (by omega) (by omega) (by omega) (by omega) (by omega)]
  have z62 : μ2 62 3 = μ1 62 3 := f2 62 3 (by omega) (by omega) (by omega) (by omega) (by omega) (by omega) (by omega) (by omega) (by omega)
  have z33 : μ2 83 33 = μ1 62 3 := by rw [e33', e62, b33]
  have k62 : 0 ≤ μ1 62 3 ∧ μ1 62 3 ≤ 6 := by rw [e62]; split <;> omega
  have k62' : 0 ≤ μ2 62 3 ∧ μ2 62 3 ≤ 6 := by omega
  have z29 : μ2 29 0 = μ 1 4 := (f2 29 0 (by omega) (by omega) (by omega) (by omega) (by omega) (by omega) (by omega) (by omega) (by omega)).trans e29
  have F2 : fv μ2 1 = mv μ2 := by rw [fv_keep (μ := μ1) (c := 1) (fun a b q1 q2 => f2 a b (by omega) (by omega) (by omega) (by omega) (by omega) (by omega) (by omega) (by omega) (by omega)), h1, h2, m1, hR0.1]
  have W2 : fp_fw 999 (mv μ2) := by
    rw [h2, m1]
    have hw := hR0.2
    have y : mv μ 0 1 = μ 83 11 := rfl
    exact fw_rn (W := mv μ 0 1) ⟨hw.1, ⟨hw.2.1.1, Int.le_refl _⟩, hw.2.2⟩ (by omega)
  refine ⟨⟨fun _ _ _ => rfl, fun p hp => by rw [f2 34 p (by omega) (by omega) (by omega) (by omega) (by omega) (by omega) (by omega) (by omega) (by omega)]; exact p34 p hp, fun p hp => by rw [g 43 p (by omega) (by omega) (by omega) (by omega) (by omega) (by omega) (by omega) (by omega) (by omega) (by omega) (by omega) (by omega) (by omega) (by omega) (by omega) (by omega)]; exact hS.2.2.1 p hp, by have q := hS.2.2.2.1; unfold sx_4 at q ⊢; rw [g 8 4 (by omega) (by omega) (by omega) (by omega) (by omega) (by omega) (by omega) (by omega) (by omega) (by omega) (by omega) (by omega) (by omega) (by omega) (by omega) (by omega), g 15 4 (by omega) (by omega) (by omega) (by omega) (by omega) (by omega) (by omega) (by omega) (by omega) (by omega) (by omega) (by omega) (by omega) (by omega) (by omega) (by omega), g 38 0 (by omega) (by omega) (by omega) (by omega) (by omega) (by omega) (by omega) (by omega) (by omega) (by omega) (by omega) (by omega) (by omega) (by omega) (by omega) (by omega)]; omega, by have q := hS.2.2.2.2; unfold px at q ⊢; rw [g 1 4 (by omega) (by omega) (by omega) (by omega) (by omega) (by omega) (by omega) (by omega) (by omega) (by omega) (by omega) (by omega) (by omega) (by omega) (by omega) (by omega), g 22 4 (by omega) (by omega) (by omega) (by omega) (by omega) (by omega) (by omega) (by omega) (by omega) (by omega) (by omega) (by omega) (by omega) (by omega) (by omega) (by omega), g 36 1 (by omega) (by omega) (by omega) (by omega) (by omega) (by omega) (by omega) (by omega) (by omega) (by omega) (by omega) (by omega) (by omega) (by omega) (by omega) (by omega), g 44 1 (by omega) (by omega) (by omega) (by omega) (by omega) (by omega) (by omega) (by omega) (by omega) (by omega) (by omega) (by omega) (by omega) (by omega) (by omega) (by omega), g 46 1 (by omega) (by omega) (by omega) (by omega) (by omega) (by omega) (by omega) (by omega) (by omega) (by omega) (by omega) (by omega) (by omega) (by omega) (by omega) (by omega), g 48 1 (by omega) (by omega) (by omega) (by omega) (by omega) (by omega) (by omega) (by omega) (by omega) (by omega) (by omega) (by omega) (by omega) (by omega) (by omega) (by omega), g 50 1 (by omega) (by omega) (by omega) (by omega) (by omega) (by omega) (by omega) (by omega) (by omega) (by omega) (by omega) (by omega) (by omega) (by omega) (by omega) (by omega), g 53 1 (by omega) (by omega) (by omega) (by omega) (by omega) (by omega) (by omega) (by omega) (by omega) (by omega) (by omega) (by omega) (by omega) (by omega) (by omega) (by omega), g 55 1 (by omega) (by omega) (by omega) (by omega) (by omega) (by omega) (by omega) (by omega) (by omega) (by omega) (by omega) (by omega) (by omega) (by omega) (by omega) (by omega), g 58 1 (by omega) (by omega) (by omega) (by omega) (by omega) (by omega) (by omega) (by omega) (by omega) (by omega) (by omega) (by omega) (by omega) (by omega) (by omega) (by omega), g 60 1 (by omega) (by omega) (by omega) (by omega) (by omega) (by omega) (by omega) (by omega) (by omega) (by omega) (by omega) (by omega) (by omega) (by omega) (by omega) (by omega)]; omega⟩, ?_, ⟨F2, W2⟩, rq_L_keep hL (g _ _ (by omega) (by omega) (by omega) (by omega) (by omega) (by omega) (by omega) (by omega) (by omega) (by omega) (by omega) (by omega) (by omega) (by omega) (by omega) (by omega)) (fun b => (g _ _ (by omega) (by omega) (by omega) (by omega) (by omega) (by omega) (by omega) (by omega) (by omega) (by omega) (by omega) (by omega) (by omega) (by omega) (by omega) (by omega))) (g _ _ (by omega) (by omega) (by omega) (by omega) (by omega) (by omega) (by omega) (by omega) (by omega) (by omega) (by omega) (by omega) (by omega) (by omega) (by omega) (by omega)) (fun b => (g _ _ (by omega) (by omega) (by omega) (by omega) (by omega) (by omega) (by omega) (by omega) (by omega) (by omega) (by omega) (by omega) (by omega) (by omega) (by omega) (by omega))), ?_, rq_I_keep hJ (g _ _ (by omega) (by omega) (by omega) (by omega) (by omega) (by omega) (by omega) (by omega) (by omega) (by omega) (by omega) (by omega) (by omega) (by omega) (by omega) (by omega)) (g _ _ (by omega) (by omega) (by omega) (by omega) (by omega) (by omega) (by omega) (by omega) (by omega) (by omega) (by omega) (by omega) (by omega) (by omega) (by omega) (by omega)) (fun a b h1 h2 => (g _ _ (by omega) (by omega) (by omega) (by omega) (by omega) (by omega) (by omega) (by omega) (by omega) (by omega) (by omega) (by omega) (by omega) (by omega) (by omega) (by omega))) (fun b hb => (g _ _ (by omega) (by omega) (by omega) (by omega) (by omega) (by omega) (by omega) (by omega) (by omega) (by omega) (by omega) (by omega) (by omega) (by omega) (by omega) (by omega)))⟩
  · unfold mi at hm ⊢
    rw [g 83 14 (by omega) (by omega) (by omega) (by omega) (by omega) (by omega) (by omega) (by omega) (by omega) (by omega) (by omega) (by omega) (by omega) (by omega) (by omega) (by omega), g 83 15 (by omega) (by omega) (by omega) (by omega) (by omega) (by omega) (by omega) (by omega) (by omega) (by omega) (by omega) (by omega) (by omega) (by omega) (by omega) (by omega), g 83 16 (by omega) (by omega) (by omega) (by omega) (by omega) (by omega) (by omega) (by omega) (by omega) (by omega) (by omega) (by omega) (by omega) (by omega) (by omega) (by omega), g 83 21 (by omega) (by omega) (by omega) (by omega) (by omega) (by omega) (by omega) (by omega) (by omega) (by omega) (by omega) (by omega) (by omega) (by omega) (by omega) (by omega), g 83 40 (by omega) (by omega) (by omega) (by omega) (by omega) (by omega) (by omega) (by omega) (by omega) (by omega) (by omega) (by omega) (by omega) (by omega) (by omega) (by omega), g 83 42 (by omega) (by omega) (by omega) (by omega) (by omega) (by omega) (by omega) (by omega) (by omega) (by omega) (by omega) (by omega) (by omega) (by omega) (by omega) (by omega), g 98 44 (by omega) (by omega) (by omega) (by omega) (by omega) (by omega) (by omega) (by omega) (by omega) (by omega) (by omega) (by omega) (by omega) (by omega) (by omega) (by omega), g 98 38 (by omega) (by omega) (by omega) (by omega) (by omega) (by omega) (by omega) (by omega) (by omega) (by omega) (by omega) (by omega) (by omega) (by omega) (by omega) (by omega), g 98 39 (by omega) (by omega) (by omega) (by omega) (by omega) (by omega) (by omega) (by omega) (by omega) (by omega) (by omega) (by omega) (by omega) (by omega) (by omega) (by omega)]
    exact ⟨hm.1, hm.2.1, hm.2.2.1, hm.2.2.2.1, by omega, hm.2.2.2.2.2.1, hm.2.2.2.2.2.2.1, hm.2.2.2.2.2.2.2.1, hm.2.2.2.2.2.2.2.2.1, hm.2.2.2.2.2.2.2.2.2.1, p100⟩
  · refine ⟨by omega, fun k hk2 => ?_⟩
    rw [z62] at hk2 ⊢
    cases k with
    | zero =>
      have i0 : (μ1 62 3 - 1 - ((0 : Nat) : Int)).toNat = (μ1 62 3 - 1).toNat := by omega
      rw [i0]
      refine ⟨fun r hr => ?_, ?_⟩
      · have i1 : 4 * 0 + r = r := by omega
        have hs2 := hs r hr
        rw [i1, f2 _ r (by omega) (by omega) (by omega) (by omega) (by omega) (by omega) (by omega) (by omega) (by omega), f2 (71 + _) r (by omega) (by omega) (by omega) (by omega) (by omega) (by omega) (by omega) (by omega) (by omega), (r1 r hr).1, (r1 r hr).2, (r2 r hr).1, (r2 r hr).2, f1 89 r (by omega) (by omega) (by omega) (by omega) (by omega) (by omega) (by omega), f1 90 r (by omega) (by omega) (by omega) (by omega) (by omega) (by omega) (by omega), ← c5 r hr, ← c6 r hr]
        rw [c5 r hr]
        exact ⟨rfl, rfl, hs2.1, hs2.2⟩
      · rw [f2 77 _ (by omega) (by omega) (by omega) (by omega) (by omega) (by omega) (by omega) (by omega) (by omega), w1, w2, f1 83 11 (by omega) (by omega) (by omega) (by omega) (by omega) (by omega) (by omega), cw]
        exact ⟨rfl, hwk.1, hwk.2⟩
    | succ j =>
      have jl : (j : Int) < μ 62 3 := by rw [e62] at hk2; split at hk2 <;> omega
      have i0 : (μ1 62 3 - 1 - ((j + 1 : Nat) : Int)).toNat = (μ1 62 3 - 2 - j).toNat := by omega
      obtain ⟨a1, a2⟩ := o1 j (by omega)
      obtain ⟨y1, y2⟩ := hB.2 j jl
      rw [i0]
      refine ⟨fun r hr => ?_, ?_⟩
      · have i1 : 4 * (j + 1) + r - 4 = 4 * j + r := by omega
        obtain ⟨b1, b2⟩ := o2 (4 * (j + 1) + r) (by omega) (by omega)
        rw [f2 _ r (by omega) (by omega) (by omega) (by omega) (by omega) (by omega) (by omega) (by omega) (by omega), f2 (71 + _) r (by omega) (by omega) (by omega) (by omega) (by omega) (by omega) (by omega) (by omega) (by omega), (a1 r hr).1, (a1 r hr).2, b1, b2, i1, f1 101 _ (by omega) (by omega) (by omega) (by omega) (by omega) (by omega) (by omega), f1 102 _ (by omega) (by omega) (by omega) (by omega) (by omega) (by omega) (by omega)]
        exact y1 r hr
      · rw [f2 77 _ (by omega) (by omega) (by omega) (by omega) (by omega) (by omega) (by omega) (by omega) (by omega), a2, q2 (j + 1) (by omega) (by omega), show j + 1 - 1 = j by omega, f1 103 _ (by omega) (by omega) (by omega) (by omega) (by omega) (by omega) (by omega)]
        exact y2
theorem LI_back {μ μ1 μ2 : am_N} (hI : lx_I μ) (h0 : 0 < μ 62 3) (f1 : (∀ a b, a ≠ 6 → a ≠ 7 → ¬(a = 1 ∧ b = 1) → ¬(a = 62 ∧ b = 3) → μ1 a b = μ a b)) (e62 : μ1 62 3 = μ 62 3 - 1) (ew : μ1 1 1 = μ 77 (μ 62 3 - 1).toNat) (r1 : ∀ r : Nat, r < 4 → μ1 6 r = μ (64 + (μ 62 3 - 1).toNat) r ∧ μ1 7 r = μ (71 + (μ 62 3 - 1).toNat) r) (f2 : (∀ a b, a ≠ 101 → a ≠ 102 → a ≠ 103 → a ≠ 89 → a ≠ 90 → ¬(a = 83 ∧ b = 11) → ¬(a = 83 ∧ b = 33) → μ2 a b = μ1 a b)) (e33 : μ2 83 33 = μ1 83 33 - 1) (ew2 : μ2 83 11 = μ1 103 0) (r2 : ∀ r : Nat, r < 4 → μ2 89 r = μ1 101 r ∧ μ2 90 r = μ1 102 r) (o2 : ∀ b : Nat, b < 20 → μ2 101 b = μ1 101 (b + 4) ∧ μ2 102 b = μ1 102 (b + 4)) (q2 : ∀ b : Nat, b < 5 → μ2 103 b = μ1 103 (b + 1)) : lx_I μ2 := by
  obtain ⟨hS, hm, hR0, hL, hB, hJ⟩ := hI
  have hb := sx_all hS
  have hc := mi_all hm
  have g : ∀ a b, a ≠ 6 → a ≠ 7 → ¬(a = 1 ∧ b = 1) → ¬(a = 62 ∧ b = 3) → a ≠ 101 → a ≠ 102 → a ≠ 103 → a ≠ 89 → a ≠ 90 → ¬(a = 83 ∧ b = 11) → ¬(a = 83 ∧ b = 33) → μ2 a b = μ a b := fun a b h1 h2 h3 h4 h5 h6 h7 h8 h9 h10 h11 => (f2 a b h5 h6 h7 h8 h9 h10 h11).trans (f1 a b h1 h2 h3 h4)
  have b33 := hB.1
  obtain ⟨t1, t2, t3, t4⟩ := hB.2 0 h0
  have i0 : (μ 62 3 - 1 - ((0 : Nat) : Int)).toNat = (μ 62 3 - 1).toNat := by omega
  rw [i0] at t1 t2
  have z62 : μ2 62 3 = μ 62 3 - 1 := (f2 62 3 (by omega) (by omega) (by omega) (by omega) (by omega) (by omega) (by omega)).trans e62
  have z33 : μ2 83 33 = μ 83 33 - 1 := by rw [e33, f1 83 33 (by omega) (by omega) (by omega) (by omega)]
  have zw1 : μ2 1 1 = μ 103 0 := by rw [f2 1 1 (by omega) (by omega) (by omega) (by omega) (by omega) (by omega) (by omega), ew, t2]
  have zw2 : μ2 83 11 = μ 103 0 := by rw [ew2, f1 103 0 (by omega) (by omega) (by omega) (by omega)]
  have z5 : ∀ r : Nat, r < 4 → μ2 6 r = μ2 89 r ∧ μ2 7 r = μ2 90 r ∧ 0 ≤ μ2 89 r ∧ μ2 89 r ≤ 99 := fun r hr => by
    obtain ⟨x1, x2, x3, x4⟩ := t1 r hr
    rw [show 4 * 0 + r = r by omega] at x1 x2 x3 x4
    rw [f2 6 r (by omega) (by omega) (by omega) (by omega) (by omega) (by omega) (by omega), f2 7 r (by omega) (by omega) (by omega) (by omega) (by omega) (by omega) (by omega), (r1 r hr).1, (r1 r hr).2, (r2 r hr).1, (r2 r hr).2, f1 101 r (by omega) (by omega) (by omega) (by omega), f1 102 r (by omega) (by omega) (by omega) (by omega)]
    exact ⟨x1, x2, x3, x4⟩
  obtain ⟨n5, n6⟩ := fp_ct_n hR0.1
  have F2 : fv μ2 1 = mv μ2 := by
    refine fp_ct_e (fun b hb => ?_) (fun a b q1 q2 hb => ?_)
    · by_cases d : b = 1
      · subst d; exact zw1.trans zw2.symm
      · show μ2 1 b = μ2 83 (10 + b)
        rw [g 1 b (by omega) (by omega) (by omega) (by omega) (by omega) (by omega) (by omega) (by omega) (by omega) (by omega) (by omega), g 83 (10 + b) (by omega) (by omega) (by omega) (by omega) (by omega) (by omega) (by omega) (by omega) (by omega) (by omega) (by omega)]
        exact n5 b hb
    · by_cases d5 : a = 5
      · subst d5; exact (z5 b hb).1
      · by_cases d6 : a = 6
        · subst d6; exact (z5 b hb).2.1
        · obtain ⟨a, rfl⟩ : ∃ e, a = e + 1 := ⟨a - 1, by omega⟩
          show μ2 (1 + (a + 1)) b = μ2 (85 + a) b
          rw [g (1 + (a + 1)) b (by omega) (by omega) (by omega) (by omega) (by omega) (by omega) (by omega) (by omega) (by omega) (by omega) (by omega), g (85 + a) b (by omega) (by omega) (by omega) (by omega) (by omega) (by omega) (by omega) (by omega) (by omega) (by omega) (by omega)]
          exact n6 (a + 1) b q1 q2 hb
  have W2 : fp_fw 999 (mv μ2) := by
    obtain ⟨x0, x1, x2, x3, x4, x5, x6⟩ := hR0.2
    have y0 : mv μ2 0 0 = mv μ 0 0 := g 83 10 (by omega) (by omega) (by omega) (by omega) (by omega) (by omega) (by omega) (by omega) (by omega) (by omega) (by omega)
    have y1 : mv μ2 0 1 = μ 103 0 := zw2
    have y2 : mv μ2 0 2 = mv μ 0 2 := g 83 12 (by omega) (by omega) (by omega) (by omega) (by omega) (by omega) (by omega) (by omega) (by omega) (by omega) (by omega)
    have y3 : mv μ2 0 3 = mv μ 0 3 := g 83 13 (by omega) (by omega) (by omega) (by omega) (by omega) (by omega) (by omega) (by omega) (by omega) (by omega) (by omega)
    have y4 : mv μ2 0 4 = mv μ 0 4 := g 83 14 (by omega) (by omega) (by omega) (by omega) (by omega) (by omega) (by omega) (by omega) (by omega) (by omega) (by omega)
    have ya : ∀ a i : Nat, a < 4 → i < 4 → mv μ2 (a + 1) i = mv μ (a + 1) i := fun a i ha hi => by rw [mv_a (by omega) hi, mv_a (by omega) hi]; exact g (85 + a) i (by omega) (by omega) (by omega) (by omega) (by omega) (by omega) (by omega) (by omega) (by omega) (by omega) (by omega)
    unfold fp_fw
    rw [y0, y1, y2, y3, y4]
    refine ⟨x0, ⟨t3, t4⟩, x2, x3, x4, fun i hi => ?_, fun i hi => ?_⟩
    · rw [mv_5 hi]; exact (z5 i hi).2.2
    · rw [ya 0 i (by decide) (by omega), ya 1 i (by decide) (by omega), ya 2 i (by decide) (by omega), ya 3 i (by decide) (by omega)]
      exact x6 i hi
  refine ⟨⟨fun _ _ _ => rfl, fun p hp => by rw [g 34 p (by omega) (by omega) (by omega) (by omega) (by omega) (by omega) (by omega) (by omega) (by omega) (by omega) (by omega)]; exact hS.2.1 p hp, fun p hp => by rw [g 43 p (by omega) (by omega) (by omega) (by omega) (by omega) (by omega) (by omega) (by omega) (by omega) (by omega) (by omega)]; exact hS.2.2.1 p hp, by have q := hS.2.2.2.1; unfold sx_4 at q ⊢; rw [g 8 4 (by omega) (by omega) (by omega) (by omega) (by omega) (by omega) (by omega) (by omega) (by omega) (by omega) (by omega), g 15 4 (by omega) (by omega) (by omega) (by omega) (by omega) (by omega) (by omega) (by omega) (by omega) (by omega) (by omega), g 29 0 (by omega) (by omega) (by omega) (by omega) (by omega) (by omega) (by omega) (by omega) (by omega) (by omega) (by omega), g 38 0 (by omega) (by omega) (by omega) (by omega) (by omega) (by omega) (by omega) (by omega) (by omega) (by omega) (by omega)]; omega, by have q := hS.2.2.2.2; unfold px at q ⊢; rw [g 1 4 (by omega) (by omega) (by omega) (by omega) (by omega) (by omega) (by omega) (by omega) (by omega) (by omega) (by omega), g 22 4 (by omega) (by omega) (by omega) (by omega) (by omega) (by omega) (by omega) (by omega) (by omega) (by omega) (by omega), g 36 1 (by omega) (by omega) (by omega) (by omega) (by omega) (by omega) (by omega) (by omega) (by omega) (by omega) (by omega), g 44 1 (by omega) (by omega) (by omega) (by omega) (by omega) (by omega) (by omega) (by omega) (by omega) (by omega) (by omega), g 46 1 (by omega) (by omega) (by omega) (by omega) (by omega) (by omega) (by omega) (by omega) (by omega) (by omega) (by omega), g 48 1 (by omega) (by omega) (by omega) (by omega) (by omega) (by omega) (by omega) (by omega) (by omega) (by omega) (by omega), g 50 1 (by omega) (by omega) (by omega) (by omega) (by omega) (by omega) (by omega) (by omega) (by omega) (by omega) (by omega), g 53 1 (by omega) (by omega) (by omega) (by omega) (by omega) (by omega) (by omega) (by omega) (by omega) (by omega) (by omega), g 55 1 (by omega) (by omega) (by omega) (by omega) (by omega) (by omega) (by omega) (by omega) (by omega) (by omega) (by omega), g 58 1 (by omega) (by omega) (by omega) (by omega) (by omega) (by omega) (by omega) (by omega) (by omega) (by omega) (by omega), g 60 1 (by omega) (by omega) (by omega) (by omega) (by omega) (by omega) (by omega) (by omega) (by omega) (by omega) (by omega)]; omega⟩, mi_mk hm (fun a b q => (g a b (by omega) (by omega) (by omega) (by omega) (by omega) (by omega) (by omega) (by omega) (by omega) (by omega) (by omega))) (by rw [g 83 14 (by omega) (by omega) (by omega) (by omega) (by omega) (by omega) (by omega) (by omega) (by omega) (by omega) (by omega)]; omega) (by omega), ⟨F2, W2⟩, rq_L_keep hL (g _ _ (by omega) (by omega) (by omega) (by omega) (by omega) (by omega) (by omega) (by omega) (by omega) (by omega) (by omega)) (fun b => (g _ _ (by omega) (by omega) (by omega) (by omega) (by omega) (by omega) (by omega) (by omega) (by omega) (by omega) (by omega))) (g _ _ (by omega) (by omega) (by omega) (by omega) (by omega) (by omega) (by omega) (by omega) (by omega) (by omega) (by omega)) (fun b => (g _ _ (by omega) (by omega) (by omega) (by omega) (by omega) (by omega) (by omega) (by omega) (by omega) (by omega) (by omega))), ⟨by omega, fun k hk => ?_⟩, rq_I_keep hJ (g _ _ (by omega) (by omega) (by omega) (by omega) (by omega) (by omega) (by omega) (by omega) (by omega) (by omega) (by omega)) (g _ _ (by omega) (by omega) (by omega) (by omega) (by omega) (by omega) (by omega) (by omega) (by omega) (by omega) (by omega)) (fun a b h1 h2 => (g _ _ (by omega) (by omega) (by omega) (by omega) (by omega) (by omega) (by omega) (by omega) (by omega) (by omega) (by omega))) (fun b hb => (g _ _ (by omega) (by omega) (by omega) (by omega) (by omega) (by omega) (by omega) (by omega) (by omega) (by omega) (by omega)))⟩
  rw [z62] at hk ⊢
  obtain ⟨y1, y2⟩ := hB.2 (k + 1) (by omega)
  have i1 : (μ 62 3 - 1 - 1 - (k : Int)).toNat = (μ 62 3 - 1 - ((k + 1 : Nat) : Int)).toNat := by omega
  rw [i1]
  refine ⟨fun r hr => ?_, ?_⟩
  · obtain ⟨b1, b2⟩ := o2 (4 * k + r) (by omega)
    rw [g (64 + _) r (by omega) (by omega) (by omega) (by omega) (by omega) (by omega) (by omega) (by omega) (by omega) (by omega) (by omega), g (71 + _) r (by omega) (by omega) (by omega) (by omega) (by omega) (by omega) (by omega) (by omega) (by omega) (by omega) (by omega), b1, b2, f1 101 _ (by omega) (by omega) (by omega) (by omega), f1 102 _ (by omega) (by omega) (by omega) (by omega), show 4 * k + r + 4 = 4 * (k + 1) + r by omega]
    exact y1 r hr
  · rw [g 77 _ (by omega) (by omega) (by omega) (by omega) (by omega) (by omega) (by omega) (by omega) (by omega) (by omega) (by omega), q2 k (by omega), f1 103 _ (by omega) (by omega) (by omega) (by omega)]
    exact y2
theorem kv_of {μ ν : am_N} (h : ∀ a b o, kp_at a b = some o → μ 98 o = ν a b) : kv μ 0 = mv ν := by
  refine fp_ct_e (fun b hb => ?_) (fun a b q1 q2 hb => ?_)
  · have q := h 83 (10 + b) _ (kp_g (by omega))
    rw [show 30 + (10 + b) = 0 + 40 + b by omega] at q
    exact q
  · obtain ⟨a, rfl⟩ : ∃ e, a = e + 1 := ⟨a - 1, by omega⟩
    have q := h (85 + a) b _ (kp_f (by omega))
    rw [show 4 * (85 + a - 85) + b = 0 + 4 * a + b by omega] at q
    exact q
theorem mv_of {μ ν : am_N} (h : ∀ a b o, kp_at a b = some o → μ a b = ν 98 o) : mv μ = kv ν 0 := by
  refine fp_ct_e (fun b hb => ?_) (fun a b q1 q2 hb => ?_)
  · have q := h 83 (10 + b) _ (kp_g (by omega))
    rw [show 30 + (10 + b) = 0 + 40 + b by omega] at q
    exact q
  · obtain ⟨a, rfl⟩ : ∃ e, a = e + 1 := ⟨a - 1, by omega⟩
    have q := h (85 + a) b _ (kp_f (by omega))
    rw [show 4 * (85 + a - 85) + b = 0 + 4 * a + b by omega] at q
    exact q
theorem LI_image {μ μ1 μ2 : am_N} (hI : lx_I μ) (f1 : (∀ a b, ¬(22 ≤ a ∧ a ≤ 28) → ¬(50 ≤ a ∧ a ≤ 51) → ¬(57 ≤ a ∧ a ≤ 61) → ¬(a = 0 ∧ b = 15) → μ1 a b = μ a b)) (h1 : fv μ1 22 = fv μ 1) (e15 : μ1 0 15 = 1) (e50 : μ1 50 1 = μ 48 1) (e58 : μ1 58 1 = μ 53 1) (e60 : μ1 60 1 = μ 55 1) (f2 : (∀ a b, ¬(a = 98 ∧ b < 45) → ¬(a = 83 ∧ (b = 25 ∨ b = 26 ∨ b = 27)) → μ2 a b = μ1 a b)) (e25 : μ2 83 25 = 1) (u : ∀ a b o, kp_at a b = some o → μ2 98 o = μ1 a b) : lx_I μ2 := by
  obtain ⟨hS, hm, hR0, hL, hB, hJ⟩ := hI
  have hb := sx_all hS
  have hc := mi_all hm
  have g : ∀ a b, ¬(22 ≤ a ∧ a ≤ 28) → ¬(50 ≤ a ∧ a ≤ 51) → ¬(57 ≤ a ∧ a ≤ 61) → ¬(a = 0 ∧ b = 15) → ¬(a = 98 ∧ b < 45) → ¬(a = 83 ∧ (b = 25 ∨ b = 26 ∨ b = 27)) → μ2 a b = μ a b := fun a b h1 h2 h3 h4 h5 h6 => (f2 a b h5 h6).trans (f1 a b h1 h2 h3 h4)
  have d50 : μ2 50 1 = μ 48 1 := (f2 50 1 (by omega) (by omega)).trans e50
  have d58 : μ2 58 1 = μ 53 1 := (f2 58 1 (by omega) (by omega)).trans e58
  have d60 : μ2 60 1 = μ 55 1 := (f2 60 1 (by omega) (by omega)).trans e60
  have m1 : mv μ1 = mv μ := mv_keep (fun a b q => f1 a b (by omega) (by omega) (by omega) (by omega))
  have k2 : kv μ2 0 = mv μ := (kv_of u).trans m1
  have v2 : fv μ2 22 = fv μ 1 := (fv_keep (fun a b q1 q2 => f2 a b (by omega) (by omega))).trans h1
  have d22 : 0 ≤ μ2 22 4 ∧ μ2 22 4 ≤ 4 := by
    have q : fv μ2 22 0 4 = fv μ 1 0 4 := by rw [v2]
    rw [fv_0 (by decide), fv_0 (by decide)] at q
    omega
  have u1 := u 83 14 44 rfl
  have u2 := u 83 15 38 rfl
  have u3 := u 83 16 39 rfl
  rw [f1 83 14 (by omega) (by omega) (by omega) (by omega)] at u1
  rw [f1 83 15 (by omega) (by omega) (by omega) (by omega)] at u2
  rw [f1 83 16 (by omega) (by omega) (by omega) (by omega)] at u3
  refine ⟨⟨fun _ _ _ => rfl, fun p hp => by rw [g 34 p (by omega) (by omega) (by omega) (by omega) (by omega) (by omega)]; exact hS.2.1 p hp, fun p hp => by rw [g 43 p (by omega) (by omega) (by omega) (by omega) (by omega) (by omega)]; exact hS.2.2.1 p hp, by have q := hS.2.2.2.1; unfold sx_4 at q ⊢; rw [g 8 4 (by omega) (by omega) (by omega) (by omega) (by omega) (by omega), g 15 4 (by omega) (by omega) (by omega) (by omega) (by omega) (by omega), g 29 0 (by omega) (by omega) (by omega) (by omega) (by omega) (by omega), g 38 0 (by omega) (by omega) (by omega) (by omega) (by omega) (by omega)]; omega, by have q := hS.2.2.2.2; unfold px at q ⊢; rw [g 1 4 (by omega) (by omega) (by omega) (by omega) (by omega) (by omega), g 36 1 (by omega) (by omega) (by omega) (by omega) (by omega) (by omega), g 44 1 (by omega) (by omega) (by omega) (by omega) (by omega) (by omega), g 46 1 (by omega) (by omega) (by omega) (by omega) (by omega) (by omega), g 48 1 (by omega) (by omega) (by omega) (by omega) (by omega) (by omega), g 53 1 (by omega) (by omega) (by omega) (by omega) (by omega) (by omega), g 55 1 (by omega) (by omega) (by omega) (by omega) (by omega) (by omega), g 62 3 (by omega) (by omega) (by omega) (by omega) (by omega) (by omega)]; omega⟩, ?_, rq_F_keep hR0 (fun a b h1 h2 => (g a b (by omega) (by omega) (by omega) (by omega) (by omega) (by omega))) (fun a b h => (g a b (by omega) (by omega) (by omega) (by omega) (by omega) (by omega))), rq_L_keep hL (g _ _ (by omega) (by omega) (by omega) (by omega) (by omega) (by omega)) (fun b => (g _ _ (by omega) (by omega) (by omega) (by omega) (by omega) (by omega))) (g _ _ (by omega) (by omega) (by omega) (by omega) (by omega) (by omega)) (fun b => (g _ _ (by omega) (by omega) (by omega) (by omega) (by omega) (by omega))), rq_B_keep hB (g _ _ (by omega) (by omega) (by omega) (by omega) (by omega) (by omega)) (g _ _ (by omega) (by omega) (by omega) (by omega) (by omega) (by omega)) (fun a b h1 h2 => (g _ _ (by omega) (by omega) (by omega) (by omega) (by omega) (by omega))) (fun a b h1 h2 => (g _ _ (by omega) (by omega) (by omega) (by omega) (by omega) (by omega))) (by omega), Or.inr ⟨(f2 0 15 (by omega) (by omega)).trans e15, e25, by rw [v2, k2]; exact hR0.1, by rw [k2]; exact hR0.2⟩⟩
  unfold mi at hm ⊢
  rw [g 83 14 (by omega) (by omega) (by omega) (by omega) (by omega) (by omega), g 83 15 (by omega) (by omega) (by omega) (by omega) (by omega) (by omega), g 83 16 (by omega) (by omega) (by omega) (by omega) (by omega) (by omega), g 83 21 (by omega) (by omega) (by omega) (by omega) (by omega) (by omega), g 83 33 (by omega) (by omega) (by omega) (by omega) (by omega) (by omega), g 83 40 (by omega) (by omega) (by omega) (by omega) (by omega) (by omega), g 83 42 (by omega) (by omega) (by omega) (by omega) (by omega) (by omega), u1, u2, u3]
  refine ⟨hm.1, hm.2.1, hm.2.2.1, hm.2.2.2.1, hm.2.2.2.2.1, hm.2.2.2.2.2.1, hm.2.2.2.2.2.2.1, hm.1, hm.2.1, hm.2.2.1, fun p hp => ?_⟩
  rw [g 100 p (by omega) (by omega) (by omega) (by omega) (by omega) (by omega)]
  exact hm.2.2.2.2.2.2.2.2.2.2 p hp
theorem kp_none {a b : Nat} (h : ¬(85 ≤ a ∧ a ≤ 93) ∧ ¬(a = 83 ∧ (10 ≤ b ∧ b ≤ 16))) : kp_at a b = none := by
  unfold kp_at
  rw [if_neg (by omega), if_neg (by omega), if_neg (by omega), if_neg (by omega), if_neg (by omega), if_neg (by omega)]
theorem LI_restore {μ μ1 μ2 : am_N} (hI : lx_I μ) (h15 : μ 0 15 ≠ 0) (f1 : (∀ a b, ¬(1 ≤ a ∧ a ≤ 7) → ¬(48 ≤ a ∧ a ≤ 49) → ¬(52 ≤ a ∧ a ≤ 56) → ¬(a = 62 ∧ b = 3) → μ1 a b = μ a b)) (h1 : fv μ1 1 = fv μ 22) (z62 : μ1 62 3 = 0) (e48 : μ1 48 1 = μ 50 1) (e53 : μ1 53 1 = μ 58 1) (e55 : μ1 55 1 = μ 60 1) (f2 : (∀ a b, kp_at a b = none → ¬(a = 83 ∧ (b = 26 ∨ b = 27 ∨ b = 33)) → μ2 a b = μ1 a b)) (u : ∀ a b o, kp_at a b = some o → μ2 a b = μ1 98 o) (z33 : μ2 83 33 = 0) : lx_I μ2 := by
  obtain ⟨hS, hm, hR0, hL, hB, hJ⟩ := hI
  have hb := sx_all hS
  have hc := mi_all hm
  have f2' : ∀ a b, ¬(85 ≤ a ∧ a ≤ 93) → ¬(a = 83 ∧ (10 ≤ b ∧ b ≤ 16)) → ¬(a = 83 ∧ (b = 26 ∨ b = 27 ∨ b = 33)) → μ2 a b = μ1 a b := fun a b q1 q2 q3 => f2 a b (kp_none ⟨q1, q2⟩) q3
  have g : ∀ a b, ¬(1 ≤ a ∧ a ≤ 7) → ¬(48 ≤ a ∧ a ≤ 49) → ¬(52 ≤ a ∧ a ≤ 56) → ¬(a = 62 ∧ b = 3) → ¬(85 ≤ a ∧ a ≤ 93) → ¬(a = 83 ∧ (10 ≤ b ∧ b ≤ 16)) → ¬(a = 83 ∧ (b = 26 ∨ b = 27 ∨ b = 33)) → μ2 a b = μ a b := fun a b h1 h2 h3 h4 h5 h6 h7 => (f2' a b h5 h6 h7).trans (f1 a b h1 h2 h3 h4)
  have J : fv μ 22 = kv μ 0 ∧ fp_fw 999 (kv μ 0) := by
    rcases hJ with ⟨a, -⟩ | ⟨-, -, a, b⟩
    · exact absurd a h15
    · exact ⟨a, b⟩
  have k1 : kv μ1 0 = kv μ 0 := kv_keep (fun b hb => f1 98 b (by omega) (by omega) (by omega) (by omega))
  have m2 : mv μ2 = kv μ 0 := (mv_of u).trans k1
  have v2 : fv μ2 1 = kv μ 0 := by rw [fv_keep (μ := μ1) (c := 1) (fun a b q1 q2 => f2' a b (by omega) (by omega) (by omega)), h1]; exact J.1
  have d48 : μ2 48 1 = μ 50 1 := (f2' 48 1 (by omega) (by omega) (by omega)).trans e48
  have d53 : μ2 53 1 = μ 58 1 := (f2' 53 1 (by omega) (by omega) (by omega)).trans e53
  have d55 : μ2 55 1 = μ 60 1 := (f2' 55 1 (by omega) (by omega) (by omega)).trans e55
  have d62 : μ2 62 3 = 0 := (f2' 62 3 (by omega) (by omega) (by omega)).trans z62
  have d14 : 0 ≤ μ2 1 4 ∧ μ2 1 4 ≤ 4 := by
    have q := J.2.2.2.2.2.1
    rw [← v2, fv_0 (by decide)] at q
    exact q
  have u1 := u 83 14 44 rfl
  have u2 := u 83 15 38 rfl
  have u3 := u 83 16 39 rfl
  rw [f1 98 44 (by omega) (by omega) (by omega) (by omega)] at u1
  rw [f1 98 38 (by omega) (by omega) (by omega) (by omega)] at u2
  rw [f1 98 39 (by omega) (by omega) (by omega) (by omega)] at u3
  refine ⟨⟨fun _ _ _ => rfl, fun p hp => by rw [g 34 p (by omega) (by omega) (by omega) (by omega) (by omega) (by omega) (by omega)]; exact hS.2.1 p hp, fun p hp => by rw [g 43 p (by omega) (by omega) (by omega) (by omega) (by omega) (by omega) (by omega)]; exact hS.2.2.1 p hp, by have q := hS.2.2.2.1; unfold sx_4 at q ⊢; rw [g 8 4 (by omega) (by omega) (by omega) (by omega) (by omega) (by omega) (by omega), g 15 4 (by omega) (by omega) (by omega) (by omega) (by omega) (by omega) (by omega), g 29 0 (by omega) (by omega) (by omega) (by omega) (by omega) (by omega) (by omega), g 38 0 (by omega) (by omega) (by omega) (by omega) (by omega) (by omega) (by omega)]; omega, by have q := hS.2.2.2.2; unfold px at q ⊢; rw [g 22 4 (by omega) (by omega) (by omega) (by omega) (by omega) (by omega) (by omega), g 36 1 (by omega) (by omega) (by omega) (by omega) (by omega) (by omega) (by omega), g 44 1 (by omega) (by omega) (by omega) (by omega) (by omega) (by omega) (by omega), g 46 1 (by omega) (by omega) (by omega) (by omega) (by omega) (by omega) (by omega), g 50 1 (by omega) (by omega) (by omega) (by omega) (by omega) (by omega) (by omega), g 58 1 (by omega) (by omega) (by omega) (by omega) (by omega) (by omega) (by omega), g 60 1 (by omega) (by omega) (by omega) (by omega) (by omega) (by omega) (by omega)]; omega⟩, ?_, ⟨v2.trans m2.symm, by rw [m2]; exact J.2⟩, rq_L_keep hL (g _ _ (by omega) (by omega) (by omega) (by omega) (by omega) (by omega) (by omega)) (fun b => (g _ _ (by omega) (by omega) (by omega) (by omega) (by omega) (by omega) (by omega))) (g _ _ (by omega) (by omega) (by omega) (by omega) (by omega) (by omega) (by omega)) (fun b => (g _ _ (by omega) (by omega) (by omega) (by omega) (by omega) (by omega) (by omega))), rq_B_zero d62 z33, rq_I_keep hJ (g _ _ (by omega) (by omega) (by omega) (by omega) (by omega) (by omega) (by omega)) (g _ _ (by omega) (by omega) (by omega) (by omega) (by omega) (by omega) (by omega)) (fun a b h1 h2 => (g _ _ (by omega) (by omega) (by omega) (by omega) (by omega) (by omega) (by omega))) (fun b hb => (g _ _ (by omega) (by omega) (by omega) (by omega) (by omega) (by omega) (by omega)))⟩
  have B7 : ∀ a b, ¬(85 ≤ a ∧ a ≤ 93) → ¬(a = 83 ∧ (10 ≤ b ∧ b ≤ 16)) → ¬(a = 83 ∧ (b = 26 ∨ b = 27 ∨ b = 33)) → 83 ≤ a → μ2 a b = μ a b := fun a b q1 q2 q3 q4 => g a b (by omega) (by omega) (by omega) (by omega) q1 q2 q3
  unfold mi at hm ⊢
  rw [u1, u2, u3, B7 83 21 (by omega) (by omega) (by omega) (by omega), z33, B7 83 40 (by omega) (by omega) (by omega) (by omega), B7 83 42 (by omega) (by omega) (by omega) (by omega), B7 98 44 (by omega) (by omega) (by omega) (by omega), B7 98 38 (by omega) (by omega) (by omega) (by omega), B7 98 39 (by omega) (by omega) (by omega) (by omega)]
  refine ⟨hm.2.2.2.2.2.2.2.1, hm.2.2.2.2.2.2.2.2.1, hm.2.2.2.2.2.2.2.2.2.1, hm.2.2.2.1, by omega, hm.2.2.2.2.2.1, hm.2.2.2.2.2.2.1, hm.2.2.2.2.2.2.2.1, hm.2.2.2.2.2.2.2.2.1, hm.2.2.2.2.2.2.2.2.2.1, fun p hp => ?_⟩
  rw [B7 100 p (by omega) (by omega) (by omega) (by omega)]
  exact hm.2.2.2.2.2.2.2.2.2.2 p hp
theorem LI_lane {μ μ1 μ2 : am_N} {r1 r2 : Int} (hI : lx_I μ) (l1 : fp_LN (μ 37) (μ 36 1) (fv μ 1) r1 (fv μ1 1)) (f1 : (∀ a b, ¬(1 ≤ a ∧ a ≤ 14) → ¬(38 ≤ a ∧ a ≤ 43) → ¬(a = 36 ∧ b = 1) → ¬(a = 62 ∧ b = 3) → μ1 a b = μ a b)) (p43 : sx_3 μ1 43) (b38 : 0 ≤ μ1 38 0 ∧ μ1 38 0 ≤ 4) (b8 : 0 ≤ μ1 8 4 ∧ μ1 8 4 ≤ 4) (b1 : 0 ≤ μ1 1 4 ∧ μ1 1 4 ≤ 4) (z36 : μ1 36 1 = 0) (e62 : μ1 62 3 = if 0 < r1 then 0 else μ 62 3) (hw : fp_fw 999 (fv μ1 1)) (l2 : fp_LN (μ1 94) (μ1 83 21) (mv μ1) r2 (mv μ2)) (f2 : (∀ a b, ¬(85 ≤ a ∧ a ≤ 90) → ¬(a = 83 ∧ 10 ≤ b ∧ b ≤ 14) → a ≠ 95 → a ≠ 96 → a ≠ 97 → a ≠ 99 → a ≠ 100 → ¬(a = 98 ∧ 60 ≤ b) → ¬(a = 83 ∧ (b = 21 ∨ b = 22 ∨ b = 23 ∨ b = 26 ∨ b = 27 ∨ b = 33)) → μ2 a b = μ1 a b)) (p100 : sx_3 μ2 100) (z21 : μ2 83 21 = 0) (e33 : μ2 83 33 = if 0 < r2 then 0 else μ1 83 33) : lx_I μ2 ∧ r1 = r2 := by
  obtain ⟨hS, hm, hR0, hL, hB, hJ⟩ := hI
  have hb := sx_all hS
  have hc := mi_all hm
  have g : ∀ a b, ¬(1 ≤ a ∧ a ≤ 14) → ¬(38 ≤ a ∧ a ≤ 43) → ¬(a = 36 ∧ b = 1) → ¬(a = 62 ∧ b = 3) → ¬(85 ≤ a ∧ a ≤ 90) → ¬(a = 83 ∧ 10 ≤ b ∧ b ≤ 14) → a ≠ 95 → a ≠ 96 → a ≠ 97 → a ≠ 99 → a ≠ 100 → ¬(a = 98 ∧ 60 ≤ b) → ¬(a = 83 ∧ (b = 21 ∨ b = 22 ∨ b = 23 ∨ b = 26 ∨ b = 27 ∨ b = 33)) → μ2 a b = μ a b := fun a b h1 h2 h3 h4 h5 h6 h7 h8 h9 h10 h11 h12 h13 => (f2 a b h5 h6 h7 h8 h9 h10 h11 h12 h13).trans (f1 a b h1 h2 h3 h4)
  have q1 : μ1 94 = μ 37 := funext (fun b => (f1 94 b (by omega) (by omega) (by omega) (by omega)).trans (hL.2.1 b).symm)
  have q2 : μ1 83 21 = μ 36 1 := (f1 83 21 (by omega) (by omega) (by omega) (by omega)).trans hL.1.symm
  have q3 : mv μ1 = fv μ 1 := (mv_keep (fun a b q => f1 a b (by omega) (by omega) (by omega) (by omega))).trans hR0.1.symm
  rw [q1, q2, q3] at l2
  obtain ⟨er, eG⟩ := fp_LN_u l1 l2
  refine ⟨?_, er⟩
  have b33 := hB.1
  have d33 : μ2 83 33 = if 0 < r2 then 0 else μ 83 33 := by rw [e33, f1 83 33 (by omega) (by omega) (by omega) (by omega)]
  have d62 : μ2 62 3 = if 0 < r1 then 0 else μ 62 3 := (f2 62 3 (by omega) (by omega) (by omega) (by omega) (by omega) (by omega) (by omega) (by omega) (by omega)).trans e62
  have k62 : 0 ≤ μ2 62 3 ∧ μ2 62 3 ≤ 6 := by rw [d62]; split <;> omega
  have k33 : 0 ≤ μ2 83 33 ∧ μ2 83 33 ≤ 6 := by rw [d33]; split <;> omega
  have F2 : fv μ2 1 = mv μ2 := by rw [fv_keep (μ := μ1) (c := 1) (fun a b y1 y2 => f2 a b (by omega) (by omega) (by omega) (by omega) (by omega) (by omega) (by omega) (by omega) (by omega))]; exact eG
  have W2 : fp_fw 999 (mv μ2) := by rw [← eG]; exact hw
  have n14 : 0 ≤ μ2 83 14 ∧ μ2 83 14 ≤ 4 := W2.2.2.2.2.1
  have c38 : μ2 38 0 = μ1 38 0 := f2 38 0 (by omega) (by omega) (by omega) (by omega) (by omega) (by omega) (by omega) (by omega) (by omega)
  have c8 : μ2 8 4 = μ1 8 4 := f2 8 4 (by omega) (by omega) (by omega) (by omega) (by omega) (by omega) (by omega) (by omega) (by omega)
  have c1 : μ2 1 4 = μ1 1 4 := f2 1 4 (by omega) (by omega) (by omega) (by omega) (by omega) (by omega) (by omega) (by omega) (by omega)
  have c36 : μ2 36 1 = 0 := (f2 36 1 (by omega) (by omega) (by omega) (by omega) (by omega) (by omega) (by omega) (by omega) (by omega)).trans z36
  refine ⟨⟨fun _ _ _ => rfl, fun p hp => by rw [g 34 p (by omega) (by omega) (by omega) (by omega) (by omega) (by omega) (by omega) (by omega) (by omega) (by omega) (by omega) (by omega) (by omega)]; exact hS.2.1 p hp, fun p hp => by rw [f2 43 p (by omega) (by omega) (by omega) (by omega) (by omega) (by omega) (by omega) (by omega) (by omega)]; exact p43 p hp, by have q := hS.2.2.2.1; unfold sx_4 at q ⊢; rw [g 15 4 (by omega) (by omega) (by omega) (by omega) (by omega) (by omega) (by omega) (by omega) (by omega) (by omega) (by omega) (by omega) (by omega), g 29 0 (by omega) (by omega) (by omega) (by omega) (by omega) (by omega) (by omega) (by omega) (by omega) (by omega) (by omega) (by omega) (by omega)]; omega, by have q := hS.2.2.2.2; unfold px at q ⊢; rw [g 22 4 (by omega) (by omega) (by omega) (by omega) (by omega) (by omega) (by omega) (by omega) (by omega) (by omega) (by omega) (by omega) (by omega), g 44 1 (by omega) (by omega) (by omega) (by omega) (by omega) (by omega) (by omega) (by omega) (by omega) (by omega) (by omega) (by omega) (by omega), g 46 1 (by omega) (by omega) (by omega) (by omega) (by omega) (by omega) (by omega) (by omega) (by omega) (by omega) (by omega) (by omega) (by omega), g 48 1 (by omega) (by omega) (by omega) (by omega) (by omega) (by omega) (by omega) (by omega) (by omega) (by omega) (by omega) (by omega) (by omega), g 50 1 (by omega) (by omega) (by omega) (by omega) (by omega) (by omega) (by omega) (by omega) (by omega) (by omega) (by omega) (by omega) (by omega), g 53 1 (by omega) (by omega) (by omega) (by omega) (by omega) (by omega) (by omega) (by omega) (by omega) (by omega) (by omega) (by omega) (by omega), g 55 1 (by omega) (by omega) (by omega) (by omega) (by omega) (by omega) (by omega) (by omega) (by omega) (by omega) (by omega) (by omega) (by omega), g 58 1 (by omega) (by omega) (by omega) (by omega) (by omega) (by omega) (by omega) (by omega) (by omega) (by omega) (by omega) (by omega) (by omega), g 60 1 (by omega) (by omega) (by omega) (by omega) (by omega) (by omega) (by omega) (by omega) (by omega) (by omega) (by omega) (by omega) (by omega)]; omega⟩, ?_, ⟨F2, W2⟩, rq_L_zero hL c36 (fun b => g 37 b (by omega) (by omega) (by omega) (by omega) (by omega) (by omega) (by omega) (by omega) (by omega) (by omega) (by omega) (by omega) (by omega)) z21 (fun b => g 94 b (by omega) (by omega) (by omega) (by omega) (by omega) (by omega) (by omega) (by omega) (by omega) (by omega) (by omega) (by omega) (by omega)), ?_, rq_I_keep hJ (g _ _ (by omega) (by omega) (by omega) (by omega) (by omega) (by omega) (by omega) (by omega) (by omega) (by omega) (by omega) (by omega) (by omega)) (g _ _ (by omega) (by omega) (by omega) (by omega) (by omega) (by omega) (by omega) (by omega) (by omega) (by omega) (by omega) (by omega) (by omega)) (fun a b h1 h2 => (g _ _ (by omega) (by omega) (by omega) (by omega) (by omega) (by omega) (by omega) (by omega) (by omega) (by omega) (by omega) (by omega) (by omega))) (fun b hb => (g _ _ (by omega) (by omega) (by omega) (by omega) (by omega) (by omega) (by omega) (by omega) (by omega) (by omega) (by omega) (by omega) (by omega)))⟩
  · unfold mi at hm ⊢
    rw [g 83 15 (by omega) (by omega) (by omega) (by omega) (by omega) (by omega) (by omega) (by omega) (by omega) (by omega) (by omega) (by omega) (by omega), g 83 16 (by omega) (by omega) (by omega) (by omega) (by omega) (by omega) (by omega) (by omega) (by omega) (by omega) (by omega) (by omega) (by omega), z21, g 83 40 (by omega) (by omega) (by omega) (by omega) (by omega) (by omega) (by omega) (by omega) (by omega) (by omega) (by omega) (by omega) (by omega), g 83 42 (by omega) (by omega) (by omega) (by omega) (by omega) (by omega) (by omega) (by omega) (by omega) (by omega) (by omega) (by omega) (by omega), g 98 44 (by omega) (by omega) (by omega) (by omega) (by omega) (by omega) (by omega) (by omega) (by omega) (by omega) (by omega) (by omega) (by omega), g 98 38 (by omega) (by omega) (by omega) (by omega) (by omega) (by omega) (by omega) (by omega) (by omega) (by omega) (by omega) (by omega) (by omega), g 98 39 (by omega) (by omega) (by omega) (by omega) (by omega) (by omega) (by omega) (by omega) (by omega) (by omega) (by omega) (by omega) (by omega)]
    exact ⟨n14, hm.2.1, hm.2.2.1, by omega, k33, hm.2.2.2.2.2.1, hm.2.2.2.2.2.2.1, hm.2.2.2.2.2.2.2.1, hm.2.2.2.2.2.2.2.2.1, hm.2.2.2.2.2.2.2.2.2.1, p100⟩
  · by_cases p : 0 < r1
    · rw [if_pos p] at d62
      rw [if_pos (by omega)] at d33
      exact rq_B_zero d62 d33
    · rw [if_neg p] at d62
      rw [if_neg (by omega)] at d33
      exact rq_B_keep hB d62 d33 (fun a b y1 y2 => g a b (by omega) (by omega) (by omega) (by omega) (by omega) (by omega) (by omega) (by omega) (by omega) (by omega) (by omega) (by omega) (by omega)) (fun a b y1 y2 => g a b (by omega) (by omega) (by omega) (by omega) (by omega) (by omega) (by omega) (by omega) (by omega) (by omega) (by omega) (by omega) (by omega)) (by omega)
