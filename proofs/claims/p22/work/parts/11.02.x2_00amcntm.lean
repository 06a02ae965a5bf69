/-! the order of a race, exactly -/
/-- how many of the first m are ahead of i -/
def am_cnt (t : Nat → Int) (i : Nat) : Nat → Int
  | 0 => 0
  | m + 1 => am_cnt t i m + (if t m < t i ∨ (t m = t i ∧ m < i) then 1 else 0)
theorem am_cnt_b (t : Nat → Int) (i : Nat) : ∀ m, 0 ≤ am_cnt t i m ∧ am_cnt t i m ≤ m
  | 0 => ⟨Int.le_refl 0, Int.le_refl 0⟩
  | m + 1 => by
    have h := am_cnt_b t i m
    simp only [am_cnt]
    split <;> omega
/-- oneself isn't counted -/
theorem am_cnt_l (t : Nat → Int) (i : Nat) : ∀ m, i < m → am_cnt t i m ≤ (m : Int) - 1
  | 0, h => absurd h (Nat.not_lt_zero _)
  | m + 1, h => by
    have hb := am_cnt_b t i m
    by_cases e : i = m
    · subst e
      simp only [am_cnt]
      rw [if_neg (by omega)]
      omega
    · have hl := am_cnt_l t i m (by omega)
      simp only [am_cnt]
      split <;> omega
/-- who is ahead of j where i is ahead of j, and j -/
theorem am_cnt_m (t : Nat → Int) (i j : Nat) (h : t i < t j ∨ (t i = t j ∧ i < j)) : ∀ m, am_cnt t i m + (if i < m then 1 else 0) ≤ am_cnt t j m
  | 0 => by simp [am_cnt]
  | m + 1 => by
    have q := am_cnt_m t i j h m
    simp only [am_cnt]
    by_cases e : i = m
    · subst e
      rw [if_neg (by omega)] at q
      rw [if_neg (by omega), if_pos (by omega), if_pos (by omega)]
      omega
    · by_cases e2 : t m < t i ∨ (t m = t i ∧ m < i)
      · rw [if_pos e2, if_pos (by omega : t m < t j ∨ (t m = t j ∧ m < j))]
        by_cases e3 : i < m
        · rw [if_pos e3] at q; rw [if_pos (by omega)]; omega
        · rw [if_neg e3] at q; rw [if_neg (by omega)]; omega
      · rw [if_neg e2]
        by_cases e3 : i < m
        · rw [if_pos e3] at q; rw [if_pos (by omega)]; split <;> omega
        · rw [if_neg e3] at q; rw [if_neg (by omega)]; split <;> omega
