theorem n_dvD {l : Launch} {μ : am_N} {Q : Option am_V → am_N → Prop} (G : Int → Int → Int) (hG : ∀ x y : Int, 0 ≤ x → 0 < y → G y (x.tmod y) = G x y ∧ 0 ≤ x.tmod y ∧ x.tmod y < y) (hz : ∀ x : Int, 0 ≤ x → G x 0 = x) (A B : Int) (A0 : 0 ≤ A) (A1 : A ≤ 1000000000) (B0 : 1 ≤ B) (B1 : B ≤ 1000000000) (k : Q (some (.inr (.inl (G A B)))) μ) : am_Does l 184 [.inr (.inl A), .inr (.inl B)] μ Q := by
  refine am_Does_of (Nat.le_of_ble_eq_true rfl) (Nat.le_of_ble_eq_true rfl) (Nat.le_of_ble_eq_true rfl) ?_
  have l0 : am_c 0 = 0 := rfl
  have l1 : am_c 1 = 1 := rfl
  have l2 : am_c 2 = 2 := rfl
  have l16 : am_c 16 = 16 := rfl
  have l62 : am_c 62 = 62 := rfl
  have l4096 : am_c 4096 = 4096 := rfl
  have d0 : am_d 0 = 0 := rfl
  have lp6 : ∀ (m : Nat) (x y : Int) (o8 o9 : Option am_V) , 0 ≤ x → x ≤ 1000000000 → 0 ≤ y → y ≤ 1000000000 → G x y = G A B → y < (m : Int) → am_AW l 0 (fun _ => 0) 184 Q 6 [some (.inr (.inl A)), none, some (.inr (.inl B)), none, some (.inr (.inl x)), none, some (.inr (.inl y)), none, o8, o9] [] μ := by
    intro m
    induction m with
    | zero =>
      intro x y o8 o9  hv0 hv1 hv2 hv3 hv4 hm
      exfalso
      omega
    | succ m ih =>
      intro x y o8 o9  hv0 hv1 hv2 hv3 hv4 hm
      have dx : am_d x = x := fp_dR (by omega) (by omega)
      have dy : am_d y = y := fp_dR (by omega) (by omega)
      have z1 := fp_lcv y 0
      have gs := fun q : 0 < y => hG x y hv0 q
      refine am_go (ct := fun pc => Nat.beq pc 6) am_oX7_divisor 300 ?_
      conv => whnf
      repeat' first
        | (refine (?_ : am_wp _ _ _ _ _ _ _ _ _ _ _ _); conv => whnf)
        | (refine (?_ : am_sw _ _ _ _); conv => whnf)
        | refine And.intro trivial ?_
        | exact trivial
        | refine am_qd k ?_
        | refine ih _ _ _ _  ?_ ?_ ?_ ?_ ?_ ?_
        | refine And.intro (fun h => absurd h (by decide)) (fun _ => ?_)
        | refine And.intro (fun _ => ?_) (fun h => absurd (by decide) h)
        | refine And.intro (fun _ => ?_) (fun _ => ?_)
        | refine And.intro ?_ ?_
      all_goals (first | (simp only [dx, dy, d0, l0] at *; omega) | sorry)
  have lp6' : ∀ (x y : Int) (o8 o9 : Option am_V) , 0 ≤ x → x ≤ 1000000000 → 0 ≤ y → y ≤ 1000000000 → G x y = G A B → am_AW l 0 (fun _ => 0) 184 Q 6 [some (.inr (.inl A)), none, some (.inr (.inl B)), none, some (.inr (.inl x)), none, some (.inr (.inl y)), none, o8, o9] [] μ := fun x y o8 o9  hv0 hv1 hv2 hv3 hv4 => lp6 ((y) + 1).toNat x y o8 o9  hv0 hv1 hv2 hv3 hv4 (by omega)
  refine am_go (ct := fun pc => Nat.beq pc 6) am_oX7_divisor 300 ?_
  conv => whnf
  repeat' first
    | (refine (?_ : am_wp _ _ _ _ _ _ _ _ _ _ _ _); conv => whnf)
    | (refine (?_ : am_sw _ _ _ _); conv => whnf)
    | refine And.intro trivial ?_
    | exact trivial
    | refine lp6' _ _ _ _  ?_ ?_ ?_ ?_ ?_
    | refine And.intro (fun h => absurd h (by decide)) (fun _ => ?_)
    | refine And.intro (fun _ => ?_) (fun h => absurd (by decide) h)
    | refine And.intro (fun _ => ?_) (fun _ => ?_)
    | refine And.intro ?_ ?_
  all_goals (first | decide | assumption | omega | rfl | (trace_state; fail))
