theorem mv_rn {μ ν : am_N} (h6 : ∀ b : Nat, b < 4 → μ 90 b = if (b : Int) = fp_f (mv ν) then ν 90 b + 1 else ν 90 b) (h5 : ∀ b : Nat, b < 4 → μ 89 b = am_mn (ν 83 12) (ν 83 13) (ν 83 14) (fp_f (mv ν)) (fp_g (mv ν)) (ν 89) b) (h1 : μ 83 11 = ν 83 11 + 1) (h0 : ∀ b : Nat, b ≠ 11 → μ 83 b = ν 83 b) (h : ∀ a b : Nat, 85 ≤ a → a < 89 → μ a b = ν a b) : mv μ = fp_rn (mv ν) := by
  refine fp_ct_e (fun b hb => ?_) (fun a b q1 q2 hb => ?_)
  · unfold fp_rr
    rw [if_neg (by decide), if_neg (by decide)]
    by_cases d : b = 1
    · subst d
      rw [if_pos ⟨rfl, rfl⟩, mv_k]
      exact h1
    · rw [if_neg (fun z => d z.2), mv_0 hb]; exact h0 (10 + b) (by omega)
  · unfold fp_rr
    by_cases d6 : a = 6
    · subst d6
      rw [if_pos rfl, mv_6 hb]
      exact h6 b hb
    · by_cases d5 : a = 5
      · subst d5
        rw [if_neg (by decide), if_pos rfl, mv_r, mv_y, mv_n, am_mn_c (s := mv ν 5) (u := ν 89) (fp_f_b _).1 (fp_f_b _).2 (fp_g_b _).1 (fp_g_b _).2 (fun b hb => mv_5 hb) b hb]
        exact h5 b hb
      · obtain ⟨a, rfl⟩ : ∃ e, a = e + 1 := ⟨a - 1, by omega⟩
        rw [if_neg d6, if_neg d5, if_neg (by omega), mv_a (by omega) hb]
        exact h (85 + a) b (by omega) (by omega)
