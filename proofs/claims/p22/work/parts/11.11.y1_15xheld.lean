theorem x_held {l : Launch} {μ : am_N} {Q : Option am_V → am_N → Prop} (v : Int) (h0 : -100000 ≤ v) (h1 : v ≤ 100000) (k : Q (some (.inl (am_hd v))) μ) : am_Does l 170 [.inl v] μ Q := by
  refine am_Does_of (Nat.le_of_ble_eq_true rfl) (Nat.le_of_ble_eq_true rfl) (Nat.le_of_ble_eq_true rfl) ?_
  have cv : am_c v = v := am_cR (by omega) (by omega)
  have c99 : am_c 99 = 99 := rfl
  have c0 : am_c 0 = 0 := rfl
  refine am_go (ct := fun _ => false) am_oX7_held 300 ?_
  conv => whnf
  repeat' first
    | (refine (?_ : am_wp _ _ _ _ _ _ _ _ _ _ _ _); conv => whnf)
    | (refine (?_ : am_sw _ _ _ _); conv => whnf)
    | refine And.intro trivial ?_
    | exact trivial
    | refine am_qe k ?_
    | refine And.intro (fun h => absurd h (by decide)) (fun _ => ?_)
    | refine And.intro (fun _ => ?_) (fun h => absurd (by decide) h)
    | refine And.intro (fun _ => ?_) (fun _ => ?_)
    | refine And.intro ?_ ?_
  all_goals (first | omega | (unfold am_hd; first | (rw [if_pos (by simp only [cv, c99, c0] at *; omega)]) | (rw [if_neg (by simp only [cv, c99, c0] at *; omega), if_pos (by simp only [cv, c99, c0] at *; omega)]) | (rw [if_neg (by simp only [cv, c99, c0] at *; omega), if_neg (by simp only [cv, c99, c0] at *; omega)])) | (trace_state; fail))
