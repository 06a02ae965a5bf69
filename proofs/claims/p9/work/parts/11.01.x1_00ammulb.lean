/-! TIME, exactly -/
def am_y (y : Int) : Int := if y < 1 then 1 else y
def am_t0 (p y : Int) : Int := if (p * y).tdiv 10 < 1 then 1 else (p * y).tdiv 10
def am_tt (f y : Int) : Int := if 50 < y then (f * (y - 50)).tdiv 20 else 0
def am_ts (f w : Int) : Int := if w.tmod 2 = 0 then f else 0
/-- TIME of one with pace p, figure f, kind k in week w over y yards (1 at least), with start s -/
def am_T (p f k w y s : Int) : Int :=
  if k = 1 then (if am_t0 p y - (w * f).tdiv 10 < 1 then 1 else am_t0 p y - (w * f).tdiv 10)
  else if k = 2 then am_t0 p y + am_tt f y
  else if k = 3 then am_t0 p y + am_ts f w
  else if k = 4 then am_t0 p y + am_tt f y + 2 * f
  else if k = 5 then am_t0 p y + am_ts f w + (if s = 0 then 5 else 0)
  else am_t0 p y
/-- what one may be -/
def am_rg (p f k w : Int) : Prop := (5 ≤ p ∧ p ≤ 40) ∧ (0 ≤ f ∧ f ≤ 9) ∧ (0 ≤ k ∧ k ≤ 5) ∧ (0 ≤ w ∧ w ≤ 2000)
theorem am_mulb {a b A B : Int} (h0 : 0 ≤ a) (h1 : a ≤ A) (h2 : 0 ≤ b) (h3 : b ≤ B) : 0 ≤ a * b ∧ a * b ≤ A * B := ⟨Int.mul_nonneg h0 h2, Int.le_trans (Int.mul_le_mul_of_nonneg_right h1 h2) (Int.mul_le_mul_of_nonneg_left h3 (Int.le_trans h0 h1))⟩
