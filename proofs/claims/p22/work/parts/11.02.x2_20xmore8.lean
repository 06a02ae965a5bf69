theorem x_more_8 {l : Launch} {ν : am_N} {Q : Option am_V → am_N → Prop} (i d : Int) (hi0 : 0 ≤ i) (hi1 : i < ν 8 4) (hn : ν 8 4 ≤ 4) (hs0 : 0 ≤ ν 13 i.toNat) (hs1 : ν 13 i.toNat ≤ 99) (d0 : -1000 ≤ d) (d1 : d ≤ 1000) (k : Q none (am_up ν 13 i.toNat (am_hd (ν 13 i.toNat + d)))) : am_Does l 11 [.inr (.inr 8), .inl i, .inl d] ν Q := by
  refine am_Does_of (Nat.le_of_ble_eq_true rfl) (Nat.le_of_ble_eq_true rfl) (Nat.le_of_ble_eq_true rfl) ?_
  have ci : am_c i = i := am_cR (by omega) (by omega)
  have cn : am_c (ν 8 4) = ν 8 4 := am_cR (by omega) (by omega)
  have c99 : am_c 99 = 99 := rfl
  have ei : (am_c i).toNat = i.toNat := by rw [ci]
  have cv : am_c (ν 13 i.toNat + d) = ν 13 i.toNat + d := am_cR (by omega) (by omega)
  refine am_go (ct := fun _ => false) am_oX0_more 300 ?_
  conv => whnf
  repeat' first
    | (refine (?_ : am_wp _ _ _ _ _ _ _ _ _ _ _ _); conv => whnf)
    | (refine (?_ : am_sw _ _ _ _); conv => whnf)
    | refine And.intro trivial ?_
    | exact trivial
    | refine am_qu k ?_ ?_
    | refine And.intro (fun h => absurd h (by decide)) (fun _ => ?_)
    | refine And.intro (fun _ => ?_) (fun h => absurd (by decide) h)
    | refine And.intro (fun _ => ?_) (fun _ => ?_)
    | refine And.intro ?_ ?_
  all_goals (first | decide | assumption | omega | (simp only [ei, ci, cn] at *; omega) | (unfold am_hd; first | (rw [if_pos (by simp only [ci, cv, c99] at *; omega)]) | (rw [if_neg (by simp only [ci, cv, c99] at *; omega), if_pos (by simp only [ci, cv, c99] at *; omega)]) | (rw [if_neg (by simp only [ci, cv, c99] at *; omega), if_neg (by simp only [ci, cv, c99] at *; omega), ei])) | (simp only [ei] at *; (unfold am_hd; first | (rw [if_pos (by simp only [ci, cv, c99] at *; omega)]) | (rw [if_neg (by simp only [ci, cv, c99] at *; omega), if_pos (by simp only [ci, cv, c99] at *; omega)]) | (rw [if_neg (by simp only [ci, cv, c99] at *; omega), if_neg (by simp only [ci, cv, c99] at *; omega), ei]))) | (trace_state; fail))
