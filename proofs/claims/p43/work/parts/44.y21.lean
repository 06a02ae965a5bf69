/-! how uneven a field is -/
theorem fp_wa_c (L M H : Nat → Int) (i : Nat) (t : Int) : ∀ n : Nat, i < n → fp_wa L M H i t n * 4 ≤ (4 ^ n : Nat) := by
  intro n
  induction n with
  | zero => intro h; exact absurd h (by omega)
  | succ n ih =>
    intro h
    have e : (((4 ^ (n + 1) : Nat)) : Int) = (4 ^ n : Nat) * 4 := by rw [Nat.pow_succ]; omega
    simp only [fp_wa]
    by_cases d : n = i
    · rw [if_pos d, e]
      have q := fp_wa_b L M H i t n
      omega
    · rw [if_neg d, e]
      have q := fp_qu_b (L n) (M n) (H n) (if n < i then t + 1 else t)
      have p := fp_wa_b L M H i t n
      have z := am_mulb (a := fp_wa L M H i t n * 4) (by omega) (ih (by omega)) q.1 q.2
      rw [Int.mul_right_comm]
      exact z.2
theorem fp_lw_c {F : am_N} {r : Nat} (h4 : F 0 4 ≤ 4) (hr : (r : Int) < F 0 4) : 0 ≤ fp_lw F r ∧ fp_lw F r ≤ 256 := by
  have b := fp_lw_b h4 r
  have q := fun t => fp_wa_c (fun q => fp_pt (fp_tf F q) (F 4 q) 0) (fp_tf F) (fun q => fp_tf F q + F 4 q) r t (F 0 4).toNat (by omega)
  have a1 := q (fp_pt (fp_tf F r) (F 4 r) 0)
  have a2 := q (fp_tf F r)
  have a3 := q (fp_tf F r + F 4 r)
  have p : ((4 ^ (F 0 4).toNat : Nat) : Int) ≤ 256 := by
    rcases (show (F 0 4).toNat = 0 ∨ (F 0 4).toNat = 1 ∨ (F 0 4).toNat = 2 ∨ (F 0 4).toNat = 3 ∨ (F 0 4).toNat = 4 by omega) with z | z | z | z | z <;> rw [z] <;> decide
  refine ⟨b.1, ?_⟩
  unfold fp_lw fp_wy
  simp only
  omega
