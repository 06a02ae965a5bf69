/-! the first of the least -/
/-- brackets -/
theorem fp_xrF : ∀ (i : Fin 4) (b : Fin 3), (0 ≤ am_xor ((i : Nat) : Int) (((b : Nat) : Int) + 1) ∧ am_xor ((i : Nat) : Int) (((b : Nat) : Int) + 1) < 4) ∧ am_xor ((i : Nat) : Int) (((b : Nat) : Int) + 1) ≠ ((i : Nat) : Int) := by decide +kernel
theorem fp_xr {i b : Int} (i0 : 0 ≤ i) (i1 : i < 4) (b0 : 0 ≤ b) (b1 : b ≤ 2) : (0 ≤ am_xor i (b + 1) ∧ am_xor i (b + 1) < 4) ∧ am_xor i (b + 1) ≠ i := by
  have h := fp_xrF ⟨i.toNat, by omega⟩ ⟨b.toNat, by omega⟩
  simp only [Int.toNat_of_nonneg i0, Int.toNat_of_nonneg b0] at h
  exact h
def fp_cs (F : am_N) (i b : Int) : Nat → Int
  | 0 => 0
  | j + 1 => if (j : Int) = i ∨ (j : Int) = am_xor i (b + 1) then fp_cs F i b j else fp_cs F i b j + fp_ah F j (am_xor j (b + 1)).toNat * fp_ah F i.toNat j
def fp_cw (F : am_N) (i b : Int) : Int := fp_ah F i.toNat (am_xor i (b + 1)).toNat * fp_cs F i b 4
theorem fp_cs_b (F : am_N) (i b : Int) : ∀ m : Nat, 0 ≤ fp_cs F i b m ∧ fp_cs F i b m ≤ 256 * (m : Int) := by
  intro m
  induction m with
  | zero => exact ⟨(by first | exact Int.le_refl 0 | (show (0 : Int) ≤ 1; decide) | (show (0 : Int) ≤ _; decide) | (show _ ≤ (0 : Int); decide) | (show (1 : Int) ≤ _; decide) | (show (0 : Int) < _; decide)), (by first | exact Int.le_refl 0 | (show (0 : Int) ≤ 1; decide) | (show (0 : Int) ≤ _; decide) | (show _ ≤ (0 : Int); decide) | (show (1 : Int) ≤ _; decide) | (show (0 : Int) < _; decide))⟩
  | succ m ih =>
    have h1 := fp_ah_b F m (am_xor m (b + 1)).toNat
    have h2 := fp_ah_b F i.toNat m
    have h := am_mulb h1.1 h1.2 h2.1 h2.2
    simp only [fp_cs]
    split <;> omega
theorem fp_cw_b (F : am_N) (i b : Int) : 0 ≤ fp_cw F i b ∧ fp_cw F i b ≤ 16384 := by
  have h1 := fp_ah_b F i.toNat (am_xor i (b + 1)).toNat
  have h2 := fp_cs_b F i b 4
  have h := am_mulb h1.1 h1.2 h2.1 (B := 1024) (by omega)
  unfold fp_cw
  omega
/-- the first of the most -/
def fq_x (f : Nat → Int) : Nat → Nat
  | 0 => 0
  | k + 1 => if f (fq_x f k) < f (k + 1) then k + 1 else fq_x f k
def fp_br (F : am_N) (i : Int) : Int := if ¬(0 ≤ i ∧ i < F 0 4) then -1 else if F 0 4 ≠ 4 then -3 else ((fq_x (fun b => fp_cw F i (b : Int)) 2 : Nat) : Int)
