theorem w_carrying_X6 {l : Launch} {μ : am_N} {Q : Option am_V → am_N → Prop} {ν : am_N} (a b t : Int) (hS : sx ν μ) (ha0 : 0 ≤ am_c a) (ha1 : am_c a < 4) (hb0 : 0 ≤ am_c b) (hb1 : am_c b < 4) (k : ∀ r μ', sx ν μ' → Q (some (.inl r)) μ') : am_Does l 131 [.inr (.inr 0), .inl a, .inl b, .inl t] μ Q := by
  refine am_Does_of (Nat.le_of_ble_eq_true rfl) (Nat.le_of_ble_eq_true rfl) (Nat.le_of_ble_eq_true rfl) ?_
  have hb := sx_all hS
  have lp28 : ∀ (m : Nat) (p x y i : Int) (μ : am_N) , sx ν μ → 0 ≤ i → i ≤ 6 → 6 - i < (m : Int) → am_AW l 0 (fun _ => 0) 131 Q 28 [some (.inr (.inr 0)), some (.inl a), some (.inl b), some (.inl t), some (.inl p), some (.inl x), some (.inl y), some (.inl i)] [] μ := by
    intro m
    induction m with
    | zero =>
      intro p x y i μ hv0 hv1 hv2 hm
      have hb := sx_all hv0
      exfalso
      omega
    | succ m ih =>
      intro p x y i μ hv0 hv1 hv2 hm
      have hb := sx_all hv0
      refine am_go (ct := fun pc => Nat.beq pc 28) am_oX6_carrying 300 ?_
      conv => whnf
      repeat' first
        | (refine (?_ : am_wp _ _ _ _ _ _ _ _ _ _ _ _); conv => whnf)
        | (refine (?_ : am_sw _ _ _ _); conv => whnf)
        | refine And.intro trivial ?_
        | exact trivial
        | assumption
        | ((with_reducible refine (?_ : _ ∧ _)); first | (with_reducible first | refine am_jn am_q1 ?_ | refine am_jn am_q2 ?_ | refine am_jn am_q3 ?_ | refine am_jn am_q4 ?_ | refine am_jn am_q6 ?_ | refine am_jn am_q9 ?_ | refine am_jn am_p1 ?_ | refine am_jy am_p0 ?_ | refine am_kn am_q1 ?_ | refine am_kn am_q2 ?_ | refine am_kn am_q3 ?_ | refine am_kn am_q4 ?_ | refine am_kn am_q6 ?_ | refine am_kn am_q9 ?_ | refine am_kn am_p1 ?_ | refine am_ky am_p0 ?_) | refine And.intro (fun h => absurd h (by decide)) (fun _ => ?_) | refine And.intro (fun _ => ?_) (fun h => absurd (by decide) h) | refine And.intro (fun _ => ?_) (fun _ => ?_) | refine And.intro ?_ ?_)
        | refine k _ _ ?_
        | refine sx_up ?_ rfl
        | ((with_reducible refine (?_ : am_Does _ 121 _ _ _)); refine w_alone_X6 (ν := ν) _ _ ?_  (fun _ _ _ _ => ?_))
        | ((with_reducible refine (?_ : am_Does _ 21 _ _ _)); first | ((with_reducible refine (?_ : am_Does _ 21 (Sum.inr (Sum.inr 29) :: Sum.inr (Sum.inr 1) :: _) _ _)); refine w_draw_X2_29_1 (ν := ν)  ?_  (fun _ _ => ?_)) | ((with_reducible refine (?_ : am_Does _ 21 (Sum.inr (Sum.inr 29) :: Sum.inr (Sum.inr 8) :: _) _ _)); refine w_draw_X2_29_8 (ν := ν)  ?_  (fun _ _ => ?_)) | ((with_reducible refine (?_ : am_Does _ 21 (Sum.inr (Sum.inr 29) :: Sum.inr (Sum.inr 15) :: _) _ _)); refine w_draw_X2_29_15 (ν := ν)  ?_  (fun _ _ => ?_)) | refine w_draw_X2_29_1 (ν := ν)  ?_  (fun _ _ => ?_) | refine w_draw_X2_29_8 (ν := ν)  ?_  (fun _ _ => ?_) | refine w_draw_X2_29_15 (ν := ν)  ?_  (fun _ _ => ?_))
        | ((with_reducible refine (?_ : am_Does _ 43 _ _ _)); first | ((with_reducible refine (?_ : am_Does _ 43 (Sum.inr (Sum.inr 44) :: _) _ _)); refine w_at_X3_44 (ν := ν) _ ?_  (fun _ => ?_)) | ((with_reducible refine (?_ : am_Does _ 43 (Sum.inr (Sum.inr 46) :: _) _ _)); refine w_at_X3_46 (ν := ν) _ ?_  (fun _ => ?_)) | ((with_reducible refine (?_ : am_Does _ 43 (Sum.inr (Sum.inr 48) :: _) _ _)); refine w_at_X3_48 (ν := ν) _ ?_  (fun _ => ?_)) | ((with_reducible refine (?_ : am_Does _ 43 (Sum.inr (Sum.inr 50) :: _) _ _)); refine w_at_X3_50 (ν := ν) _ ?_  (fun _ => ?_)) | ((with_reducible refine (?_ : am_Does _ 43 (Sum.inr (Sum.inr 53) :: _) _ _)); refine w_at_X3_53 (ν := ν) _ ?_  (fun _ => ?_)) | ((with_reducible refine (?_ : am_Does _ 43 (Sum.inr (Sum.inr 55) :: _) _ _)); refine w_at_X3_55 (ν := ν) _ ?_  (fun _ => ?_)) | ((with_reducible refine (?_ : am_Does _ 43 (Sum.inr (Sum.inr 58) :: _) _ _)); refine w_at_X3_58 (ν := ν) _ ?_  (fun _ => ?_)) | ((with_reducible refine (?_ : am_Does _ 43 (Sum.inr (Sum.inr 60) :: _) _ _)); refine w_at_X3_60 (ν := ν) _ ?_  (fun _ => ?_)) | ((with_reducible refine (?_ : am_Does _ 43 (Sum.inr (Sum.inr 36) :: _) _ _)); refine w_at36 (ν := ν) _ ?_ (fun _ _ _ => ?_) ?_) | refine w_at_X3_44 (ν := ν) _ ?_  (fun _ => ?_) | refine w_at_X3_46 (ν := ν) _ ?_  (fun _ => ?_) | refine w_at_X3_48 (ν := ν) _ ?_  (fun _ => ?_) | refine w_at_X3_50 (ν := ν) _ ?_  (fun _ => ?_) | refine w_at_X3_53 (ν := ν) _ ?_  (fun _ => ?_) | refine w_at_X3_55 (ν := ν) _ ?_  (fun _ => ?_) | refine w_at_X3_58 (ν := ν) _ ?_  (fun _ => ?_) | refine w_at_X3_60 (ν := ν) _ ?_  (fun _ => ?_) | refine w_at36 (ν := ν) _ ?_ (fun _ _ _ => ?_) ?_)
        | ((with_reducible refine (?_ : am_Does _ 8 _ _ _)); first | ((with_reducible refine (?_ : am_Does _ 8 (Sum.inr (Sum.inr 1) :: _) _ _)); refine w_tenths_X0_1 (ν := ν) _ ?_  (fun _ => ?_)) | ((with_reducible refine (?_ : am_Does _ 8 (Sum.inr (Sum.inr 8) :: _) _ _)); refine w_tenths_X0_8 (ν := ν) _ ?_  (fun _ => ?_)) | ((with_reducible refine (?_ : am_Does _ 8 (Sum.inr (Sum.inr 15) :: _) _ _)); refine w_tenths_X0_15 (ν := ν) _ ?_  (fun _ => ?_)) | refine w_tenths_X0_1 (ν := ν) _ ?_  (fun _ => ?_) | refine w_tenths_X0_8 (ν := ν) _ ?_  (fun _ => ?_) | refine w_tenths_X0_15 (ν := ν) _ ?_  (fun _ => ?_))
        | ((with_reducible refine (?_ : am_Does _ 22 _ _ _)); refine w_put_X2_29 (ν := ν) _ _ _ ?_  (fun _ _ => ?_))
        | ((with_reducible refine (?_ : am_Does _ 24 _ _ _)); refine w_ways_X2_29 (ν := ν) _ ?_  (fun _ => ?_))
        | ((with_reducible refine (?_ : am_AW _ _ _ _ _ 28 _ _ _)); refine ih _ _ _ _ _ ?_ ?_ ?_ ?_)
        | refine And.intro (fun h => absurd h (by decide)) (fun _ => ?_)
        | refine And.intro (fun _ => ?_) (fun h => absurd (by decide) h)
        | refine And.intro (fun _ => ?_) (fun _ => ?_)
        | refine And.intro ?_ ?_
      all_goals (first | assumption | decide | omega | (intros; omega) | (intros; simp only [am_c] at * <;> omega) | (simp only [am_c, am_up] at * <;> omega) | (simp [am_c, am_up] at * <;> omega))
  have lp28' : ∀ (p x y i : Int) (μ : am_N) , sx ν μ → 0 ≤ i → i ≤ 6 → am_AW l 0 (fun _ => 0) 131 Q 28 [some (.inr (.inr 0)), some (.inl a), some (.inl b), some (.inl t), some (.inl p), some (.inl x), some (.inl y), some (.inl i)] [] μ := fun p x y i μ hv0 hv1 hv2 => lp28 ((6 - i) + 1).toNat p x y i μ hv0 hv1 hv2 (by omega)
  refine am_go (ct := fun pc => Nat.beq pc 28) am_oX6_carrying 300 ?_
  conv => whnf
  repeat' first
    | (refine (?_ : am_wp _ _ _ _ _ _ _ _ _ _ _ _); conv => whnf)
    | (refine (?_ : am_sw _ _ _ _); conv => whnf)
    | refine And.intro trivial ?_
    | exact trivial
    | assumption
    | ((with_reducible refine (?_ : _ ∧ _)); first | (with_reducible first | refine am_jn am_q1 ?_ | refine am_jn am_q2 ?_ | refine am_jn am_q3 ?_ | refine am_jn am_q4 ?_ | refine am_jn am_q6 ?_ | refine am_jn am_q9 ?_ | refine am_jn am_p1 ?_ | refine am_jy am_p0 ?_ | refine am_kn am_q1 ?_ | refine am_kn am_q2 ?_ | refine am_kn am_q3 ?_ | refine am_kn am_q4 ?_ | refine am_kn am_q6 ?_ | refine am_kn am_q9 ?_ | refine am_kn am_p1 ?_ | refine am_ky am_p0 ?_) | refine And.intro (fun h => absurd h (by decide)) (fun _ => ?_) | refine And.intro (fun _ => ?_) (fun h => absurd (by decide) h) | refine And.intro (fun _ => ?_) (fun _ => ?_) | refine And.intro ?_ ?_)
    | refine k _ _ ?_
    | refine sx_up ?_ rfl
    | ((with_reducible refine (?_ : am_Does _ 121 _ _ _)); refine w_alone_X6 (ν := ν) _ _ ?_  (fun _ _ _ _ => ?_))
    | ((with_reducible refine (?_ : am_Does _ 21 _ _ _)); first | ((with_reducible refine (?_ : am_Does _ 21 (Sum.inr (Sum.inr 29) :: Sum.inr (Sum.inr 1) :: _) _ _)); refine w_draw_X2_29_1 (ν := ν)  ?_  (fun _ _ => ?_)) | ((with_reducible refine (?_ : am_Does _ 21 (Sum.inr (Sum.inr 29) :: Sum.inr (Sum.inr 8) :: _) _ _)); refine w_draw_X2_29_8 (ν := ν)  ?_  (fun _ _ => ?_)) | ((with_reducible refine (?_ : am_Does _ 21 (Sum.inr (Sum.inr 29) :: Sum.inr (Sum.inr 15) :: _) _ _)); refine w_draw_X2_29_15 (ν := ν)  ?_  (fun _ _ => ?_)) | refine w_draw_X2_29_1 (ν := ν)  ?_  (fun _ _ => ?_) | refine w_draw_X2_29_8 (ν := ν)  ?_  (fun _ _ => ?_) | refine w_draw_X2_29_15 (ν := ν)  ?_  (fun _ _ => ?_))
    | ((with_reducible refine (?_ : am_Does _ 43 _ _ _)); first | ((with_reducible refine (?_ : am_Does _ 43 (Sum.inr (Sum.inr 44) :: _) _ _)); refine w_at_X3_44 (ν := ν) _ ?_  (fun _ => ?_)) | ((with_reducible refine (?_ : am_Does _ 43 (Sum.inr (Sum.inr 46) :: _) _ _)); refine w_at_X3_46 (ν := ν) _ ?_  (fun _ => ?_)) | ((with_reducible refine (?_ : am_Does _ 43 (Sum.inr (Sum.inr 48) :: _) _ _)); refine w_at_X3_48 (ν := ν) _ ?_  (fun _ => ?_)) | ((with_reducible refine (?_ : am_Does _ 43 (Sum.inr (Sum.inr 50) :: _) _ _)); refine w_at_X3_50 (ν := ν) _ ?_  (fun _ => ?_)) | ((with_reducible refine (?_ : am_Does _ 43 (Sum.inr (Sum.inr 53) :: _) _ _)); refine w_at_X3_53 (ν := ν) _ ?_  (fun _ => ?_)) | ((with_reducible refine (?_ : am_Does _ 43 (Sum.inr (Sum.inr 55) :: _) _ _)); refine w_at_X3_55 (ν := ν) _ ?_  (fun _ => ?_)) | ((with_reducible refine (?_ : am_Does _ 43 (Sum.inr (Sum.inr 58) :: _) _ _)); refine w_at_X3_58 (ν := ν) _ ?_  (fun _ => ?_)) | ((with_reducible refine (?_ : am_Does _ 43 (Sum.inr (Sum.inr 60) :: _) _ _)); refine w_at_X3_60 (ν := ν) _ ?_  (fun _ => ?_)) | ((with_reducible refine (?_ : am_Does _ 43 (Sum.inr (Sum.inr 36) :: _) _ _)); refine w_at36 (ν := ν) _ ?_ (fun _ _ _ => ?_) ?_) | refine w_at_X3_44 (ν := ν) _ ?_  (fun _ => ?_) | refine w_at_X3_46 (ν := ν) _ ?_  (fun _ => ?_) | refine w_at_X3_48 (ν := ν) _ ?_  (fun _ => ?_) | refine w_at_X3_50 (ν := ν) _ ?_  (fun _ => ?_) | refine w_at_X3_53 (ν := ν) _ ?_  (fun _ => ?_) | refine w_at_X3_55 (ν := ν) _ ?_  (fun _ => ?_) | refine w_at_X3_58 (ν := ν) _ ?_  (fun _ => ?_) | refine w_at_X3_60 (ν := ν) _ ?_  (fun _ => ?_) | refine w_at36 (ν := ν) _ ?_ (fun _ _ _ => ?_) ?_)
    | ((with_reducible refine (?_ : am_Does _ 8 _ _ _)); first | ((with_reducible refine (?_ : am_Does _ 8 (Sum.inr (Sum.inr 1) :: _) _ _)); refine w_tenths_X0_1 (ν := ν) _ ?_  (fun _ => ?_)) | ((with_reducible refine (?_ : am_Does _ 8 (Sum.inr (Sum.inr 8) :: _) _ _)); refine w_tenths_X0_8 (ν := ν) _ ?_  (fun _ => ?_)) | ((with_reducible refine (?_ : am_Does _ 8 (Sum.inr (Sum.inr 15) :: _) _ _)); refine w_tenths_X0_15 (ν := ν) _ ?_  (fun _ => ?_)) | refine w_tenths_X0_1 (ν := ν) _ ?_  (fun _ => ?_) | refine w_tenths_X0_8 (ν := ν) _ ?_  (fun _ => ?_) | refine w_tenths_X0_15 (ν := ν) _ ?_  (fun _ => ?_))
    | ((with_reducible refine (?_ : am_Does _ 22 _ _ _)); refine w_put_X2_29 (ν := ν) _ _ _ ?_  (fun _ _ => ?_))
    | ((with_reducible refine (?_ : am_Does _ 24 _ _ _)); refine w_ways_X2_29 (ν := ν) _ ?_  (fun _ => ?_))
    | ((with_reducible refine (?_ : am_AW _ _ _ _ _ 28 _ _ _)); refine lp28' _ _ _ _ _ ?_ ?_ ?_)
    | refine And.intro (fun h => absurd h (by decide)) (fun _ => ?_)
    | refine And.intro (fun _ => ?_) (fun h => absurd (by decide) h)
    | refine And.intro (fun _ => ?_) (fun _ => ?_)
    | refine And.intro ?_ ?_
  all_goals (first | assumption | decide | omega | (intros; omega) | (intros; simp only [am_c] at * <;> omega) | (simp only [am_c, am_up] at * <;> omega) | (simp [am_c, am_up] at * <;> omega))
