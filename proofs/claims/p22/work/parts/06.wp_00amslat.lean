/-! from the machine's entry of a method to the abstract one; many steps in one condition -/
def am_sl (args : List am_V) : List (Option am_V) := args.flatMap (fun v => if am_cat v = 2 then [some v, none] else [some v])
def am_lv (n : Nat) (args : List am_V) : List (Option am_V) := am_sl args ++ List.replicate (n - (am_sl args).length) none
theorem am_sl_len (ad : Nat → Nat) (args : List am_V) : (lg_sl (args.map (am_rv ad))).length = (am_sl args).length := by
  induction args with
  | nil => rfl
  | cons v r ih =>
    unfold lg_sl am_sl at ih ⊢
    simp only [List.map_cons, List.flatMap_cons, List.length_append, ih, am_cat_rv]
    split <;> rfl
theorem am_sl_at (ad : Nat → Nat) : ∀ (args : List am_V) (k i : Nat) (v : am_V), (am_sl args)[i]? = some (some v) → (k + i, am_rv ad v) ∈ lv_args k (args.map (am_rv ad))
  | [], k, i, v, h => by simp [am_sl] at h
  | a :: r, k, i, v, h => by
    unfold am_sl at h
    simp only [List.map_cons, lv_args, am_cat_rv]
    rw [List.flatMap_cons] at h
    by_cases hc : am_cat a = 2
    · simp only [if_pos hc] at h ⊢
      match i, h with
      | 0, h =>
        have e : a = v := by simpa using h
        rw [e]; exact List.mem_cons_self
      | 1, h => simp at h
      | i + 2, h =>
        have q := am_sl_at ad r (k + 2) i v (by simpa [am_sl] using h)
        rw [show k + (i + 2) = k + 2 + i by omega]
        exact List.mem_cons_of_mem _ q
    · simp only [if_neg hc] at h ⊢
      match i, h with
      | 0, h =>
        have e : a = v := by simpa using h
        rw [e]; exact List.mem_cons_self
      | i + 1, h =>
        have q := am_sl_at ad r (k + 1) i v (by simpa [am_sl] using h)
        rw [show k + (i + 1) = k + 1 + i by omega]
        exact List.mem_cons_of_mem _ q
