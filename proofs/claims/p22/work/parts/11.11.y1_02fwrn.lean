/-- TIME of a picture's -/
abbrev fp_tf (F : am_N) : Nat → Int := am_TC F 0
theorem fv_T {μ : am_N} {c i : Nat} (h : i < 4) : am_TC μ c i = fp_tf (fv μ c) i := by
  unfold fp_tf am_TC
  rw [fv_0 (by decide), fv_0 (by decide), fv_a (by decide) (by decide) h, fv_a (by decide) (by decide) h, fv_a (by decide) (by decide) h, fv_a (by decide) (by decide) h]
theorem mv_T {μ : am_N} {i : Nat} (h : i < 4) : am_TM μ i = fp_tf (mv μ) i := by
  unfold fp_tf am_TC am_TM
  rw [mv_0 (by decide), mv_0 (by decide), mv_a (by decide) h, mv_a (by decide) h, mv_a (by decide) h, mv_a (by decide) h]
/-- who stands at place p by the times t of n -/
def fp_od (t : Nat → Int) (n p : Int) : Int := if am_cnt t 0 n.toNat = p then 0 else if am_cnt t 1 n.toNat = p then 1 else if am_cnt t 2 n.toNat = p then 2 else 3
theorem fp_od_b (t : Nat → Int) (n p : Int) : 0 ≤ fp_od t n p ∧ fp_od t n p ≤ 3 := by
  unfold fp_od
  repeat' split
  all_goals omega
theorem fp_od_i {t : Nat → Int} {n p : Int} {i : Nat} (hn : n ≤ 4) (hi : (i : Int) < n) (h : am_cnt t i n.toNat = p) : fp_od t n p = i := by
  have ne : ∀ j : Nat, (j : Int) < n → j ≠ i → am_cnt t j n.toNat ≠ p := fun j hj d z => am_cnt_ne t (i := j) (j := i) (m := n.toNat) (by omega) (by omega) d (by rw [z, h])
  unfold fp_od
  rcases (show i = 0 ∨ i = 1 ∨ i = 2 ∨ i = 3 by omega) with rfl | rfl | rfl | rfl
  · rw [if_pos h]; rfl
  · rw [if_neg (ne 0 (by omega) (by decide)), if_pos h]; rfl
  · rw [if_neg (ne 0 (by omega) (by decide)), if_neg (ne 1 (by omega) (by decide)), if_pos h]; rfl
  · rw [if_neg (ne 0 (by omega) (by decide)), if_neg (ne 1 (by omega) (by decide)), if_neg (ne 2 (by omega) (by decide))]; rfl
theorem fp_od_n {t : Nat → Int} {n p : Int} (hn : n ≤ 4) (h0 : 0 ≤ p) (h1 : p < n) : fp_od t n p < n := by
  obtain ⟨i, hi, hc⟩ := am_cnt_s t (m := n.toNat) (by omega) p.toNat (by omega)
  rw [fp_od_i (t := t) (p := p) (i := i) hn (by omega) (by omega)]
  omega
theorem fp_od_o {μ : am_N} {c : Nat} {t : Nat → Int} {n : Int} (hn : n ≤ 4) (h : am_isord μ c t n) (p : Nat) (hp : (p : Int) < n) : μ c p = fp_od t n p := by
  obtain ⟨i, hi, hc⟩ := am_cnt_s t (m := n.toNat) (by omega) p (by omega)
  have q := h i (by omega)
  rw [hc, show ((p : Int)).toNat = p by omega] at q
  rw [q, fp_od_i (i := i) hn (by omega) hc]
theorem fp_od_t {t u : Nat → Int} {n p : Int} (hn : n ≤ 4) (h : ∀ i : Nat, i < 4 → t i = u i) : fp_od t n p = fp_od u n p := by
  have e : ∀ i : Nat, i < 4 → am_cnt t i n.toNat = am_cnt u i n.toNat := fun i hi => by
    have g : ∀ m : Nat, m ≤ 4 → am_cnt t i m = am_cnt u i m := by
      intro m
      induction m with
      | zero => intro _; rfl
      | succ m ih =>
        intro hm
        simp only [am_cnt]
        rw [ih (by omega), h i hi, h m (by omega)]
    exact g _ (by omega)
  unfold fp_od
  rw [e 0 (by decide), e 1 (by decide), e 2 (by decide)]
/-- the first, the last of a picture's race as a rule -/
def fp_f (F : am_N) : Int := fp_od (fp_tf F) (F 0 4) 0
def fp_g (F : am_N) : Int := fp_od (fp_tf F) (F 0 4) (F 0 4 - 1)
def fp_rr (F : am_N) : am_N := fun a b => if a = 6 then (if (b : Int) = fp_f F then F 6 b + 1 else F 6 b) else if a = 5 then am_mn (F 0 2) (F 0 3) (F 0 4) (fp_f F) (fp_g F) (F 5) b else if a = 0 ∧ b = 1 then F 0 1 + 1 else F a b
/-- they RUN -/
def fp_rn (F : am_N) : am_N := fp_ct (fp_rr F)
theorem am_mn_b {r y n f g : Int} {s : Nat → Int} (h : ∀ b : Nat, b < 4 → 0 ≤ s b ∧ s b ≤ 99) : ∀ b : Nat, b < 4 → 0 ≤ am_mn r y n f g s b ∧ am_mn r y n f g s b ≤ 99 := am_m3_b (am_m2_b (am_m1_b h))
theorem am_mn_c {r y n f g : Int} {s u : Nat → Int} (f0 : 0 ≤ f) (f1 : f ≤ 3) (g0 : 0 ≤ g) (g1 : g ≤ 3) (h : ∀ b : Nat, b < 4 → s b = u b) : ∀ b : Nat, b < 4 → am_mn r y n f g s b = am_mn r y n f g u b := by
  have h1 : ∀ b : Nat, b < 4 → am_m1 r y f s b = am_m1 r y f u b := fun b hb => by
    unfold am_m1
    split
    · unfold am_pt; rw [h f.toNat (by omega), h b hb]
    · exact h b hb
  have h2 : ∀ b : Nat, b < 4 → am_m2 r y g (am_m1 r y f s) b = am_m2 r y g (am_m1 r y f u) b := fun b hb => by
    unfold am_m2
    split
    · unfold am_pt; rw [h1 g.toNat (by omega), h1 b hb]
    · exact h1 b hb
  intro b hb
  unfold am_mn am_m3
  rw [h2 b hb]
theorem fw_rn {W V : Int} {F : am_N} (h : fp_fw W F) (hV : W + 1 ≤ V) : fp_fw V (fp_rn F) := by
  obtain ⟨h0, h1, h2, h3, h4, h5, h6⟩ := h
  have e0 : ∀ b : Nat, b < 5 → b ≠ 1 → fp_rn F 0 b = F 0 b := fun b hb d => by
    unfold fp_rn
    rw [fp_ct_i (fp_in_0 hb)]
    unfold fp_rr
    rw [if_neg (by decide), if_neg (by decide), if_neg (fun z => d z.2)]
  have e1 : fp_rn F 0 1 = F 0 1 + 1 := rfl
  have e : ∀ a b : Nat, 0 < a → a < 5 → b < 4 → fp_rn F a b = F a b := fun a b q1 q2 q3 => by
    unfold fp_rn
    rw [fp_ct_i (fp_in_a q1 (by omega) q3)]
    unfold fp_rr
    rw [if_neg (by omega), if_neg (by omega), if_neg (by omega)]
  have e5 : ∀ b : Nat, b < 4 → fp_rn F 5 b = am_mn (F 0 2) (F 0 3) (F 0 4) (fp_f F) (fp_g F) (F 5) b := fun b hb => by
    unfold fp_rn
    rw [fp_ct_i (fp_in_a (by decide) (by decide) hb)]
    unfold fp_rr
    rw [if_neg (by decide), if_pos rfl]
  unfold fp_fw
  rw [e0 0 (by decide) (by decide), e1, e0 2 (by decide) (by decide), e0 3 (by decide) (by decide), e0 4 (by decide) (by decide)]
  refine ⟨h0, by omega, h2, h3, h4, fun i hi => ?_, fun i hi => ?_⟩
  · rw [e5 i hi]; exact am_mn_b h5 i hi
  · rw [e 1 i (by decide) (by decide) (by omega), e 2 i (by decide) (by decide) (by omega), e 3 i (by decide) (by decide) (by omega), e 4 i (by decide) (by decide) (by omega)]
    exact h6 i hi
