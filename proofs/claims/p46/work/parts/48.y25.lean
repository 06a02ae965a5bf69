/-! told rows, told times as functions -/
def fp_rt (n : Int) (f : Nat → Int) : Nat → Int := fun b => if (b : Int) < n then f b else 0
theorem fp_rt_i {n : Int} {f : Nat → Int} {b : Nat} (h : (b : Int) < n) : fp_rt n f b = f b := if_pos h
theorem fp_rt_e {n m : Int} {f g : Nat → Int} (hn : n = m) (h : ∀ b : Nat, (b : Int) < m → f b = g b) : fp_rt n f = fp_rt m g := funext fun b => by
  unfold fp_rt
  rw [hn]
  by_cases d : (b : Int) < m
  · rw [if_pos d, if_pos d]; exact h b d
  · rw [if_neg d, if_neg d]
theorem rq_w_tr {j c r : Nat} {lo hi : Int} {μ : am_N} (h : rq_w j c r lo hi μ) : fp_rt (μ r 1) (μ (r + 1)) = fp_rt (μ 83 j) (μ c) := fp_rt_e h.1 (fun b hb => (h.2 b hb).1)
theorem rq_w_hC {j c r : Nat} {lo hi : Int} {μ : am_N} (h : rq_w j c r lo hi μ) : ∀ b : Nat, (b : Int) < μ r 1 → lo ≤ μ (r + 1) b ∧ μ (r + 1) b ≤ hi := fun b hb => by
  have z := h.2 b (by rw [← h.1]; exact hb)
  rw [z.1]
  exact z.2
theorem rq_w_hM {j c r : Nat} {lo hi : Int} {μ : am_N} (h : rq_w j c r lo hi μ) : ∀ b : Nat, (b : Int) < μ 83 j → lo ≤ μ c b ∧ μ c b ≤ hi := fun b hb => (h.2 b hb).2
theorem gv_83 {E : List Nat} {μ μ' : am_N} (hE : lx_E E) (h : gv E μ μ') : ∀ k j, 83 ≤ k → μ' k j = μ k j := fun k j hk => h.2 k j (by rw [sx_p83 hk, hE k hk]; rfl)
