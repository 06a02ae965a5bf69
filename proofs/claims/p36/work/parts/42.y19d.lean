theorem n_partOf {l : Launch} {μ : am_N} {Q : Option am_V → am_N → Prop} (A B w : Int) (cw : am_c w = w) (A0 : 0 ≤ A) (A1 : A ≤ 1000000000) (B0 : 1 ≤ B) (B1 : B ≤ 1000000000) (k : Q (some (.inr (.inl (fp_fr A B w)))) μ) : am_Does l 185 [.inr (.inl A), .inr (.inl B), .inl w] μ Q := by
  refine am_Does_of (Nat.le_of_ble_eq_true rfl) (Nat.le_of_ble_eq_true rfl) (Nat.le_of_ble_eq_true rfl) ?_
  have l0 : am_c 0 = 0 := rfl
  have l1 : am_c 1 = 1 := rfl
  have l2 : am_c 2 = 2 := rfl
  have l16 : am_c 16 = 16 := rfl
  have l62 : am_c 62 = 62 := rfl
  have l4096 : am_c 4096 = 4096 := rfl
  have dA : am_d A = A := fp_dR (by omega) (by omega)
  have dB : am_d B = B := fp_dR (by omega) (by omega)
  have gp := fp_gd_p (a := A) (b := B) (by omega)
  have gl := fp_gd_l (a := A) (b := B) (by omega)
  have dG : am_d (fp_gd A B) = fp_gd A B := fp_dR (by omega) (by omega)
  refine am_go (ct := fun _ => false) am_oX7_partOf 300 ?_
  conv => whnf
  repeat' first
    | (refine (?_ : am_wp _ _ _ _ _ _ _ _ _ _ _ _); conv => whnf)
    | (refine (?_ : am_sw _ _ _ _); conv => whnf)
    | refine And.intro trivial ?_
    | exact trivial
    | refine n_divisor _ _ A0 A1 B0 B1 ?_
    | refine am_qd k ?_
    | refine And.intro (fun h => absurd h (by decide)) (fun _ => ?_)
    | refine And.intro (fun _ => ?_) (fun h => absurd (by decide) h)
    | refine And.intro (fun _ => ?_) (fun _ => ?_)
    | refine And.intro ?_ ?_
  all_goals (first | decide | (intro z; rw [dG] at z; omega) | (rw [dG]; exact Int.ne_of_gt gp) | (rw [dG]; omega) | (unfold fp_fr; rw [dG]; first | (rw [if_pos (by simp only [cw, l0] at *; omega), dA]) | (rw [if_neg (by simp only [cw, l0] at *; omega), dB])) | (trace_state; fail))
