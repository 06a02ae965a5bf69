/-! TIMES of a field -/
def am_TC (μ : am_N) (c i : Nat) : Int := am_T (μ (c + 3) i) (μ (c + 2) i) (μ (c + 1) i) (μ c 1) (am_y (μ c 0 - μ (c + 5) i)) (μ (c + 5) i)
def am_TM (μ : am_N) (i : Nat) : Int := am_T (μ 87 i) (μ 86 i) (μ 85 i) (μ 83 11) (am_y (μ 83 10 - μ 89 i)) (μ 89 i)
/-- a field's numbers are what they may be: class field at c -/
def am_fC (μ : am_N) (c : Nat) : Prop := (0 ≤ μ c 4 ∧ μ c 4 ≤ 4) ∧ (0 ≤ μ c 0 ∧ μ c 0 ≤ 500) ∧ ∀ i : Nat, (i : Int) < μ c 4 → am_rg (μ (c + 3) i) (μ (c + 2) i) (μ (c + 1) i) (μ c 1) ∧ (0 ≤ μ (c + 5) i ∧ μ (c + 5) i ≤ 99)
def am_fM (μ : am_N) : Prop := (0 ≤ μ 83 14 ∧ μ 83 14 ≤ 4) ∧ (0 ≤ μ 83 10 ∧ μ 83 10 ≤ 500) ∧ ∀ i : Nat, (i : Int) < μ 83 14 → am_rg (μ 87 i) (μ 86 i) (μ 85 i) (μ 83 11) ∧ (0 ≤ μ 89 i ∧ μ 89 i ≤ 99)
theorem am_T_b {p f k w y s : Int} (h : am_rg p f k w) (y0 : 1 ≤ y) (y1 : y ≤ 1000) : 1 ≤ am_T p f k w y s ∧ am_T p f k w y s ≤ 60000 := by
  obtain ⟨⟨p0, p1⟩, ⟨f0, f1⟩, ⟨k0, k1⟩, ⟨w0, w1⟩⟩ := h
  have m1 := am_mulb (a := p) (b := y) (A := 40) (B := 1000) (by omega) (by omega) (by omega) (by omega)
  have m2 := am_mulb (a := w) (b := f) (A := 2000) (B := 9) (by omega) (by omega) (by omega) (by omega)
  have m3 := fun q : 50 < y => am_mulb (a := f) (b := y - 50) (A := 9) (B := 950) (by omega) (by omega) (by omega) (by omega)
  have d1 := am_tdb (a := p * y) (n := 10) (by omega) (by omega)
  have d2 := am_tdb (a := w * f) (n := 10) (by omega) (by omega)
  have d3 := fun q : 50 < y => am_tdb (a := f * (y - 50)) (n := 20) (m3 q).1 (by omega)
  have t0 : 1 ≤ am_t0 p y ∧ am_t0 p y ≤ 40000 := by unfold am_t0; split <;> omega
  have t1 : 0 ≤ am_tt f y ∧ am_tt f y ≤ 8550 := by
    unfold am_tt
    split
    · next q => have h1 := d3 q; have h2 := m3 q; omega
    · omega
  have t2 : 0 ≤ am_ts f w ∧ am_ts f w ≤ 9 := by unfold am_ts; split <;> omega
  unfold am_T
  repeat' split
  all_goals omega
