theorem fp_f_b (F : am_N) : 0 ≤ fp_f F ∧ fp_f F ≤ 3 := fp_od_b _ _ _
theorem fp_g_b (F : am_N) : 0 ≤ fp_g F ∧ fp_g F ≤ 3 := fp_od_b _ _ _
theorem fv_f {μ : am_N} {c : Nat} (hn : μ c 4 ≤ 4) : fp_od (am_TC μ c) (μ c 4) 0 = fp_f (fv μ c) := fp_od_t hn (fun i hi => fv_T hi)
theorem fv_g {μ : am_N} {c : Nat} (hn : μ c 4 ≤ 4) : fp_od (am_TC μ c) (μ c 4) (μ c 4 - 1) = fp_g (fv μ c) := fp_od_t hn (fun i hi => fv_T hi)
theorem mv_f {μ : am_N} (hn : μ 83 14 ≤ 4) : fp_od (am_TM μ) (μ 83 14) 0 = fp_f (mv μ) := fp_od_t hn (fun i hi => mv_T hi)
theorem mv_g {μ : am_N} (hn : μ 83 14 ≤ 4) : fp_od (am_TM μ) (μ 83 14) (μ 83 14 - 1) = fp_g (mv μ) := fp_od_t hn (fun i hi => mv_T hi)
/-- a class's memory behind a run -/
theorem fv_rn {μ ν : am_N} {c : Nat} (h6 : ∀ b : Nat, b < 4 → μ (c + 6) b = if (b : Int) = fp_f (fv ν c) then ν (c + 6) b + 1 else ν (c + 6) b) (h5 : ∀ b : Nat, b < 4 → μ (c + 5) b = am_mn (ν c 2) (ν c 3) (ν c 4) (fp_f (fv ν c)) (fp_g (fv ν c)) (ν (c + 5)) b) (h1 : μ c 1 = ν c 1 + 1) (h0 : ∀ b : Nat, b ≠ 1 → μ c b = ν c b) (h : ∀ a b : Nat, 0 < a → a < 5 → μ (c + a) b = ν (c + a) b) : fv μ c = fp_rn (fv ν c) := by
  refine fp_ct_e (fun b hb => ?_) (fun a b q1 q2 hb => ?_)
  · unfold fp_rr
    rw [if_neg (by decide), if_neg (by decide)]
    by_cases d : b = 1
    · subst d; exact h1
    · rw [if_neg (fun z => d z.2), fv_0 hb]; exact h0 b d
  · unfold fp_rr
    by_cases d6 : a = 6
    · subst d6
      rw [if_pos rfl, fv_a (by decide) (by decide) hb]
      exact h6 b hb
    · rw [if_neg d6]
      by_cases d5 : a = 5
      · subst d5
        rw [if_pos rfl, h5 b hb]
        exact am_mn_c (fp_f_b _).1 (fp_f_b _).2 (fp_g_b _).1 (fp_g_b _).2 (fun b hb => (fv_a (by decide) (by decide) hb).symm) b hb
      · rw [if_neg d5, if_neg (by omega), fv_a q1 q2 hb]
        exact h a b q1 (by omega)
