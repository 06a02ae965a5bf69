theorem s_fraction {l : Launch} {μ : am_N} {Q : Option am_V → am_N → Prop} (A B w : Int) (e0 : Nat) (cw : am_c w = w) (A0 : 0 ≤ A) (A1 : A ≤ 1000000000) (eB : B = ((2 ^ e0 : Nat) : Int)) (h0 : e0 ≤ 12) (B1 : B ≤ 1000000000) (k : Q (some (.inr (.inl (fp_fr A B w)))) μ) : am_Does l 118 [.inr (.inl A), .inr (.inl B), .inl w] μ Q := by
  refine am_Does_of (Nat.le_of_ble_eq_true rfl) (Nat.le_of_ble_eq_true rfl) (Nat.le_of_ble_eq_true rfl) ?_
  have l0 : am_c 0 = 0 := rfl
  have l1 : am_c 1 = 1 := rfl
  have l2 : am_c 2 = 2 := rfl
  have l16 : am_c 16 = 16 := rfl
  have l62 : am_c 62 = 62 := rfl
  have l4096 : am_c 4096 = 4096 := rfl
  have p0 : 0 < 2 ^ e0 := Nat.pow_pos (by decide)
  have gp := fp_gd_p (a := A) (b := B) (by omega)
  have d2 : am_d 2 = 2 := rfl
  have d1 : am_d 1 = 1 := rfl
  have d0 : am_d 0 = 0 := rfl
  have lp9 : ∀ (m : Nat) (x y j : Int) , 0 ≤ x → x ≤ 1000000000 → 1 ≤ y → y ≤ 1000000000 → 0 ≤ j → (∃ t : Nat, y = ((2 ^ t : Nat) : Int) ∧ (t : Int) + j ≤ 12) → x * fp_gd A B = A * fp_gd x y → y * fp_gd A B = B * fp_gd x y → 20 - j < (m : Int) → am_AW l 0 (fun _ => 0) 118 Q 9 [some (.inr (.inl A)), none, some (.inr (.inl B)), none, some (.inl w), some (.inr (.inl x)), none, some (.inr (.inl y)), none, some (.inl j)] [] μ := by
    intro m
    induction m with
    | zero =>
      intro x y j  hv0 hv1 hv2 hv3 hv4 hv5 hv6 hv7 hm
      exfalso
      omega
    | succ m ih =>
      intro x y j  hv0 hv1 hv2 hv3 hv4 hv5 hv6 hv7 hm
      obtain ⟨t, hy, ht⟩ := hv5
      have cj : am_c j = j := am_cR (by omega) (by omega)
      have dx : am_d x = x := fp_dR (by omega) (by omega)
      have dy : am_d y = y := fp_dR (by omega) (by omega)
      have xm : x.tmod 2 = x % 2 := Int.tmod_eq_emod_of_nonneg hv0
      have xd : x.tdiv 2 = x / 2 := Int.tdiv_eq_ediv_of_nonneg hv0
      have yd : y.tdiv 2 = y / 2 := Int.tdiv_eq_ediv_of_nonneg (by omega)
      have dm : am_d (x.tmod 2) = x.tmod 2 := by rw [xm]; exact fp_dR (by omega) (by omega)
      have z1 := fp_lcv (x.tmod 2) 0
      have z2 := fp_lcv y 1
      refine am_go (ct := fun pc => Nat.beq pc 9) am_oX6_fraction 300 ?_
      conv => whnf
      repeat' first
        | (refine (?_ : am_wp _ _ _ _ _ _ _ _ _ _ _ _); conv => whnf)
        | (refine (?_ : am_sw _ _ _ _); conv => whnf)
        | refine And.intro trivial ?_
        | exact trivial
        | (have q1 : x.tmod 2 ≠ 0 ∨ y ≤ 1 := (by simp only [dx, dy, d2, d1, d0, dm, l0] at *; omega); have g1 := fp_g1 hv0 hy q1; rw [g1, Int.mul_one] at hv6 hv7; refine am_qd k ?_)
        | refine ih _ _ _ ?_ ?_ ?_ ?_ ?_ ?_ ?_ ?_ ?_
        | refine ih _ _ _  ?_ ?_ ?_ ?_ ?_ ?_ ?_ ?_ ?_
        | refine And.intro (fun h => absurd h (by decide)) (fun _ => ?_)
        | refine And.intro (fun _ => ?_) (fun h => absurd (by decide) h)
        | refine And.intro (fun _ => ?_) (fun _ => ?_)
        | refine And.intro ?_ ?_
      all_goals (first | decide | assumption | omega | (rw [d2]; decide) | (simp only [dx, dy, d2, d1, d0, dm, l0, cj] at *; omega) | (have q1 : x.tmod 2 = 0 ∧ 1 < y := (by simp only [dx, dy, d2, d1, d0, dm, l0] at *; omega); obtain ⟨u, tu, yu, y2⟩ := fp_p2 hy q1.2; rw [dx, dy, d2] at *; first | exact ⟨u, yu, by omega⟩ | (have x2 : x = 2 * x.tdiv 2 := (by omega); first | exact fp_hv (by omega) (by omega) (by rw [← x2, ← y2]; exact hv6) | exact fp_hw (by omega) (by omega) (by rw [← x2, ← y2]; exact hv7))) | (have q1 : x.tmod 2 = 0 ∧ 1 < y := (by simp only [dx, dy, d2, d1, d0, dm, l0] at *; omega); obtain ⟨u, tu, yu, y2⟩ := fp_p2 hy q1.2; simp only [dx, dy, d2]; first | omega | exact ⟨u, yu, by omega⟩ | (have x2 : x = 2 * x.tdiv 2 := (by omega); first | exact fp_hv (by omega) (by omega) (by rw [← x2, ← y2]; exact hv6) | exact fp_hw (by omega) (by omega) (by rw [← x2, ← y2]; exact hv7))) | (unfold fp_fr; first | (rw [if_pos (by simp only [cw, l0] at *; omega)]; exact fp_fr_e gp hv6) | (rw [if_neg (by simp only [cw, l0] at *; omega)]; exact fp_fr_e gp hv7)) | (trace_state; fail))
  have lp9' : ∀ (x y j : Int) , 0 ≤ x → x ≤ 1000000000 → 1 ≤ y → y ≤ 1000000000 → 0 ≤ j → (∃ t : Nat, y = ((2 ^ t : Nat) : Int) ∧ (t : Int) + j ≤ 12) → x * fp_gd A B = A * fp_gd x y → y * fp_gd A B = B * fp_gd x y → am_AW l 0 (fun _ => 0) 118 Q 9 [some (.inr (.inl A)), none, some (.inr (.inl B)), none, some (.inl w), some (.inr (.inl x)), none, some (.inr (.inl y)), none, some (.inl j)] [] μ := fun x y j  hv0 hv1 hv2 hv3 hv4 hv5 hv6 hv7 => lp9 ((20 - j) + 1).toNat x y j  hv0 hv1 hv2 hv3 hv4 hv5 hv6 hv7 (by omega)
  refine am_go (ct := fun pc => Nat.beq pc 9) am_oX6_fraction 300 ?_
  conv => whnf
  repeat' first
    | (refine (?_ : am_wp _ _ _ _ _ _ _ _ _ _ _ _); conv => whnf)
    | (refine (?_ : am_sw _ _ _ _); conv => whnf)
    | refine And.intro trivial ?_
    | exact trivial
    | refine lp9' _ _ _  ?_ ?_ ?_ ?_ ?_ ?_ ?_ ?_
    | refine And.intro (fun h => absurd h (by decide)) (fun _ => ?_)
    | refine And.intro (fun _ => ?_) (fun h => absurd (by decide) h)
    | refine And.intro (fun _ => ?_) (fun _ => ?_)
    | refine And.intro ?_ ?_
  all_goals (first | decide | assumption | omega | rfl | exact ⟨e0, eB, by omega⟩ | (exact Int.mul_comm _ _) | (trace_state; fail))
