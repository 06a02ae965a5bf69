theorem w_holdWorth_X6 {l : Launch} {μ : am_N} {Q : Option am_V → am_N → Prop} {ν : am_N} (a b p : Int) (hS : sx ν μ) (ha0 : 0 ≤ am_c a) (ha1 : am_c a < 4) (hb0 : 0 ≤ am_c b) (hb1 : am_c b < 4) (k : ∀ r μ', sx ν μ' → Q (some (.inl r)) μ') : am_Does l 134 [.inr (.inr 0), .inl a, .inl b, .inl p] μ Q := by
  refine am_Does_of (Nat.le_of_ble_eq_true rfl) (Nat.le_of_ble_eq_true rfl) (Nat.le_of_ble_eq_true rfl) ?_
  have hb := sx_all hS
  have lp67 : ∀ (q x y : Int) (μ : am_N), sx ν μ → (q = 0 ∨ q = 1) → am_AW l 0 (fun _ => 0) 134 Q 67 [some (.inr (.inr 0)), some (.inl a), some (.inl b), some (.inl p), some (.inl q), some (.inl x), some (.inl y), none] [] μ := by
    intro q x y μ hv0 hv1
    have hb := sx_all hv0
    refine am_go (ct := fun pc => Nat.beq pc 67 || Nat.beq pc 37) am_oX6_holdWorth 300 ?_
    conv => whnf
    repeat' first
      | (refine (?_ : am_wp _ _ _ _ _ _ _ _ _ _ _ _); conv => whnf)
      | (refine (?_ : am_sw _ _ _ _); conv => whnf)
      | refine And.intro trivial ?_
      | exact trivial
      | assumption
      | ((with_reducible refine (?_ : _ ∧ _)); first | (with_reducible first | refine am_jn am_q1 ?_ | refine am_jn am_q2 ?_ | refine am_jn am_q3 ?_ | refine am_jn am_q4 ?_ | refine am_jn am_q6 ?_ | refine am_jn am_q9 ?_ | refine am_jn am_p1 ?_ | refine am_jy am_p0 ?_ | refine am_kn am_q1 ?_ | refine am_kn am_q2 ?_ | refine am_kn am_q3 ?_ | refine am_kn am_q4 ?_ | refine am_kn am_q6 ?_ | refine am_kn am_q9 ?_ | refine am_kn am_p1 ?_ | refine am_ky am_p0 ?_) | refine And.intro (fun h => absurd h (by decide)) (fun _ => ?_) | refine And.intro (fun _ => ?_) (fun h => absurd (by decide) h) | refine And.intro (fun _ => ?_) (fun _ => ?_) | refine And.intro ?_ ?_)
      | refine k _ _ ?_
      | refine sx_up ?_ rfl
      | ((with_reducible refine (?_ : am_Does _ 121 _ _ _)); refine w_alone_X6 (ν := ν) _ _ ?_  (fun _ _ _ _ => ?_))
      | ((with_reducible refine (?_ : am_Does _ 8 _ _ _)); first | ((with_reducible refine (?_ : am_Does _ 8 (Sum.inr (Sum.inr 1) :: _) _ _)); refine w_tenths_X0_1 (ν := ν) _ ?_  (fun _ => ?_)) | ((with_reducible refine (?_ : am_Does _ 8 (Sum.inr (Sum.inr 8) :: _) _ _)); refine w_tenths_X0_8 (ν := ν) _ ?_  (fun _ => ?_)) | ((with_reducible refine (?_ : am_Does _ 8 (Sum.inr (Sum.inr 15) :: _) _ _)); refine w_tenths_X0_15 (ν := ν) _ ?_  (fun _ => ?_)) | refine w_tenths_X0_1 (ν := ν) _ ?_  (fun _ => ?_) | refine w_tenths_X0_8 (ν := ν) _ ?_  (fun _ => ?_) | refine w_tenths_X0_15 (ν := ν) _ ?_  (fun _ => ?_))
      | ((with_reducible refine (?_ : am_Does _ 21 _ _ _)); first | ((with_reducible refine (?_ : am_Does _ 21 (Sum.inr (Sum.inr 29) :: Sum.inr (Sum.inr 1) :: _) _ _)); refine w_draw_X2_29_1 (ν := ν)  ?_  (fun _ _ => ?_)) | ((with_reducible refine (?_ : am_Does _ 21 (Sum.inr (Sum.inr 29) :: Sum.inr (Sum.inr 8) :: _) _ _)); refine w_draw_X2_29_8 (ν := ν)  ?_  (fun _ _ => ?_)) | ((with_reducible refine (?_ : am_Does _ 21 (Sum.inr (Sum.inr 29) :: Sum.inr (Sum.inr 15) :: _) _ _)); refine w_draw_X2_29_15 (ν := ν)  ?_  (fun _ _ => ?_)) | refine w_draw_X2_29_1 (ν := ν)  ?_  (fun _ _ => ?_) | refine w_draw_X2_29_8 (ν := ν)  ?_  (fun _ _ => ?_) | refine w_draw_X2_29_15 (ν := ν)  ?_  (fun _ _ => ?_))
      | ((with_reducible refine (?_ : am_Does _ 22 _ _ _)); refine w_put_X2_29 (ν := ν) _ _ _ ?_  (fun _ _ => ?_))
      | ((with_reducible refine (?_ : am_Does _ 24 _ _ _)); refine w_ways_X2_29 (ν := ν) _ ?_  (fun _ => ?_))
      | ((with_reducible refine (?_ : am_Does _ 36 _ _ _)); first | ((with_reducible refine (?_ : am_Does _ 36 (Sum.inr (Sum.inr 29) :: _) _ _)); refine w_line_X2_29 (ν := ν)  ?_  (fun _ _ => ?_)) | ((with_reducible refine (?_ : am_Does _ 36 (Sum.inr (Sum.inr 38) :: _) _ _)); refine w_line_X2_38 (ν := ν)  ?_  (fun _ _ => ?_)) | refine w_line_X2_29 (ν := ν)  ?_  (fun _ _ => ?_) | refine w_line_X2_38 (ν := ν)  ?_  (fun _ _ => ?_))
      | ((with_reducible refine (?_ : am_Does _ 35 _ _ _)); first | ((with_reducible refine (?_ : am_Does _ 35 (Sum.inr (Sum.inr 38) :: Sum.inr (Sum.inr 8) :: _) _ _)); refine w_behind_X2_38_8 (ν := ν)  ?_  (fun _ _ => ?_)) | ((with_reducible refine (?_ : am_Does _ 35 (Sum.inr (Sum.inr 29) :: Sum.inr (Sum.inr 8) :: _) _ _)); refine w_behind_X2_29_8 (ν := ν)  ?_  (fun _ _ => ?_)) | ((with_reducible refine (?_ : am_Does _ 35 (Sum.inr (Sum.inr 29) :: Sum.inr (Sum.inr 15) :: _) _ _)); refine w_behind_X2_29_15 (ν := ν)  ?_  (fun _ _ => ?_)) | refine w_behind_X2_38_8 (ν := ν)  ?_  (fun _ _ => ?_) | refine w_behind_X2_29_8 (ν := ν)  ?_  (fun _ _ => ?_) | refine w_behind_X2_29_15 (ν := ν)  ?_  (fun _ _ => ?_))
      | refine And.intro (fun h => absurd h (by decide)) (fun _ => ?_)
      | refine And.intro (fun _ => ?_) (fun h => absurd (by decide) h)
      | refine And.intro (fun _ => ?_) (fun _ => ?_)
      | refine And.intro ?_ ?_
    all_goals (first | assumption | decide | omega | (intros; omega) | (intros; simp only [am_c] at * <;> omega) | (simp only [am_c, am_up] at * <;> omega) | (simp [am_c, am_up] at * <;> omega))
  have lp37 : ∀ (q x : Int) (μ : am_N), sx ν μ → (q = 0 ∨ q = 1) → am_AW l 0 (fun _ => 0) 134 Q 37 [some (.inr (.inr 0)), some (.inl a), some (.inl b), some (.inl p), some (.inl q), some (.inl x), none, none] [] μ := by
    intro q x μ hv0 hv1
    have hb := sx_all hv0
    refine am_go (ct := fun pc => Nat.beq pc 67 || Nat.beq pc 37) am_oX6_holdWorth 300 ?_
    conv => whnf
    repeat' first
      | (refine (?_ : am_wp _ _ _ _ _ _ _ _ _ _ _ _); conv => whnf)
      | (refine (?_ : am_sw _ _ _ _); conv => whnf)
      | refine And.intro trivial ?_
      | exact trivial
      | assumption
      | ((with_reducible refine (?_ : _ ∧ _)); first | (with_reducible first | refine am_jn am_q1 ?_ | refine am_jn am_q2 ?_ | refine am_jn am_q3 ?_ | refine am_jn am_q4 ?_ | refine am_jn am_q6 ?_ | refine am_jn am_q9 ?_ | refine am_jn am_p1 ?_ | refine am_jy am_p0 ?_ | refine am_kn am_q1 ?_ | refine am_kn am_q2 ?_ | refine am_kn am_q3 ?_ | refine am_kn am_q4 ?_ | refine am_kn am_q6 ?_ | refine am_kn am_q9 ?_ | refine am_kn am_p1 ?_ | refine am_ky am_p0 ?_) | refine And.intro (fun h => absurd h (by decide)) (fun _ => ?_) | refine And.intro (fun _ => ?_) (fun h => absurd (by decide) h) | refine And.intro (fun _ => ?_) (fun _ => ?_) | refine And.intro ?_ ?_)
      | refine k _ _ ?_
      | refine sx_up ?_ rfl
      | ((with_reducible refine (?_ : am_Does _ 121 _ _ _)); refine w_alone_X6 (ν := ν) _ _ ?_  (fun _ _ _ _ => ?_))
      | ((with_reducible refine (?_ : am_Does _ 8 _ _ _)); first | ((with_reducible refine (?_ : am_Does _ 8 (Sum.inr (Sum.inr 1) :: _) _ _)); refine w_tenths_X0_1 (ν := ν) _ ?_  (fun _ => ?_)) | ((with_reducible refine (?_ : am_Does _ 8 (Sum.inr (Sum.inr 8) :: _) _ _)); refine w_tenths_X0_8 (ν := ν) _ ?_  (fun _ => ?_)) | ((with_reducible refine (?_ : am_Does _ 8 (Sum.inr (Sum.inr 15) :: _) _ _)); refine w_tenths_X0_15 (ν := ν) _ ?_  (fun _ => ?_)) | refine w_tenths_X0_1 (ν := ν) _ ?_  (fun _ => ?_) | refine w_tenths_X0_8 (ν := ν) _ ?_  (fun _ => ?_) | refine w_tenths_X0_15 (ν := ν) _ ?_  (fun _ => ?_))
      | ((with_reducible refine (?_ : am_Does _ 21 _ _ _)); first | ((with_reducible refine (?_ : am_Does _ 21 (Sum.inr (Sum.inr 29) :: Sum.inr (Sum.inr 1) :: _) _ _)); refine w_draw_X2_29_1 (ν := ν)  ?_  (fun _ _ => ?_)) | ((with_reducible refine (?_ : am_Does _ 21 (Sum.inr (Sum.inr 29) :: Sum.inr (Sum.inr 8) :: _) _ _)); refine w_draw_X2_29_8 (ν := ν)  ?_  (fun _ _ => ?_)) | ((with_reducible refine (?_ : am_Does _ 21 (Sum.inr (Sum.inr 29) :: Sum.inr (Sum.inr 15) :: _) _ _)); refine w_draw_X2_29_15 (ν := ν)  ?_  (fun _ _ => ?_)) | refine w_draw_X2_29_1 (ν := ν)  ?_  (fun _ _ => ?_) | refine w_draw_X2_29_8 (ν := ν)  ?_  (fun _ _ => ?_) | refine w_draw_X2_29_15 (ν := ν)  ?_  (fun _ _ => ?_))
      | ((with_reducible refine (?_ : am_Does _ 22 _ _ _)); refine w_put_X2_29 (ν := ν) _ _ _ ?_  (fun _ _ => ?_))
      | ((with_reducible refine (?_ : am_Does _ 24 _ _ _)); refine w_ways_X2_29 (ν := ν) _ ?_  (fun _ => ?_))
      | ((with_reducible refine (?_ : am_Does _ 36 _ _ _)); first | ((with_reducible refine (?_ : am_Does _ 36 (Sum.inr (Sum.inr 29) :: _) _ _)); refine w_line_X2_29 (ν := ν)  ?_  (fun _ _ => ?_)) | ((with_reducible refine (?_ : am_Does _ 36 (Sum.inr (Sum.inr 38) :: _) _ _)); refine w_line_X2_38 (ν := ν)  ?_  (fun _ _ => ?_)) | refine w_line_X2_29 (ν := ν)  ?_  (fun _ _ => ?_) | refine w_line_X2_38 (ν := ν)  ?_  (fun _ _ => ?_))
      | ((with_reducible refine (?_ : am_Does _ 35 _ _ _)); first | ((with_reducible refine (?_ : am_Does _ 35 (Sum.inr (Sum.inr 38) :: Sum.inr (Sum.inr 8) :: _) _ _)); refine w_behind_X2_38_8 (ν := ν)  ?_  (fun _ _ => ?_)) | ((with_reducible refine (?_ : am_Does _ 35 (Sum.inr (Sum.inr 29) :: Sum.inr (Sum.inr 8) :: _) _ _)); refine w_behind_X2_29_8 (ν := ν)  ?_  (fun _ _ => ?_)) | ((with_reducible refine (?_ : am_Does _ 35 (Sum.inr (Sum.inr 29) :: Sum.inr (Sum.inr 15) :: _) _ _)); refine w_behind_X2_29_15 (ν := ν)  ?_  (fun _ _ => ?_)) | refine w_behind_X2_38_8 (ν := ν)  ?_  (fun _ _ => ?_) | refine w_behind_X2_29_8 (ν := ν)  ?_  (fun _ _ => ?_) | refine w_behind_X2_29_15 (ν := ν)  ?_  (fun _ _ => ?_))
      | ((with_reducible refine (?_ : am_AW _ _ _ _ _ 67 _ _ _)); refine lp67 _ _ _ _ ?_ ?_)
      | refine And.intro (fun h => absurd h (by decide)) (fun _ => ?_)
      | refine And.intro (fun _ => ?_) (fun h => absurd (by decide) h)
      | refine And.intro (fun _ => ?_) (fun _ => ?_)
      | refine And.intro ?_ ?_
    all_goals (first | assumption | decide | omega | (intros; omega) | (intros; simp only [am_c] at * <;> omega) | (simp only [am_c, am_up] at * <;> omega) | (simp [am_c, am_up] at * <;> omega))
  refine am_go (ct := fun pc => Nat.beq pc 67 || Nat.beq pc 37) am_oX6_holdWorth 300 ?_
  conv => whnf
  repeat' first
    | (refine (?_ : am_wp _ _ _ _ _ _ _ _ _ _ _ _); conv => whnf)
    | (refine (?_ : am_sw _ _ _ _); conv => whnf)
    | refine And.intro trivial ?_
    | exact trivial
    | assumption
    | ((with_reducible refine (?_ : _ ∧ _)); first | (with_reducible first | refine am_jn am_q1 ?_ | refine am_jn am_q2 ?_ | refine am_jn am_q3 ?_ | refine am_jn am_q4 ?_ | refine am_jn am_q6 ?_ | refine am_jn am_q9 ?_ | refine am_jn am_p1 ?_ | refine am_jy am_p0 ?_ | refine am_kn am_q1 ?_ | refine am_kn am_q2 ?_ | refine am_kn am_q3 ?_ | refine am_kn am_q4 ?_ | refine am_kn am_q6 ?_ | refine am_kn am_q9 ?_ | refine am_kn am_p1 ?_ | refine am_ky am_p0 ?_) | refine And.intro (fun h => absurd h (by decide)) (fun _ => ?_) | refine And.intro (fun _ => ?_) (fun h => absurd (by decide) h) | refine And.intro (fun _ => ?_) (fun _ => ?_) | refine And.intro ?_ ?_)
    | refine k _ _ ?_
    | refine sx_up ?_ rfl
    | ((with_reducible refine (?_ : am_Does _ 121 _ _ _)); refine w_alone_X6 (ν := ν) _ _ ?_  (fun _ _ _ _ => ?_))
    | ((with_reducible refine (?_ : am_Does _ 8 _ _ _)); first | ((with_reducible refine (?_ : am_Does _ 8 (Sum.inr (Sum.inr 1) :: _) _ _)); refine w_tenths_X0_1 (ν := ν) _ ?_  (fun _ => ?_)) | ((with_reducible refine (?_ : am_Does _ 8 (Sum.inr (Sum.inr 8) :: _) _ _)); refine w_tenths_X0_8 (ν := ν) _ ?_  (fun _ => ?_)) | ((with_reducible refine (?_ : am_Does _ 8 (Sum.inr (Sum.inr 15) :: _) _ _)); refine w_tenths_X0_15 (ν := ν) _ ?_  (fun _ => ?_)) | refine w_tenths_X0_1 (ν := ν) _ ?_  (fun _ => ?_) | refine w_tenths_X0_8 (ν := ν) _ ?_  (fun _ => ?_) | refine w_tenths_X0_15 (ν := ν) _ ?_  (fun _ => ?_))
    | ((with_reducible refine (?_ : am_Does _ 21 _ _ _)); first | ((with_reducible refine (?_ : am_Does _ 21 (Sum.inr (Sum.inr 29) :: Sum.inr (Sum.inr 1) :: _) _ _)); refine w_draw_X2_29_1 (ν := ν)  ?_  (fun _ _ => ?_)) | ((with_reducible refine (?_ : am_Does _ 21 (Sum.inr (Sum.inr 29) :: Sum.inr (Sum.inr 8) :: _) _ _)); refine w_draw_X2_29_8 (ν := ν)  ?_  (fun _ _ => ?_)) | ((with_reducible refine (?_ : am_Does _ 21 (Sum.inr (Sum.inr 29) :: Sum.inr (Sum.inr 15) :: _) _ _)); refine w_draw_X2_29_15 (ν := ν)  ?_  (fun _ _ => ?_)) | refine w_draw_X2_29_1 (ν := ν)  ?_  (fun _ _ => ?_) | refine w_draw_X2_29_8 (ν := ν)  ?_  (fun _ _ => ?_) | refine w_draw_X2_29_15 (ν := ν)  ?_  (fun _ _ => ?_))
    | ((with_reducible refine (?_ : am_Does _ 22 _ _ _)); refine w_put_X2_29 (ν := ν) _ _ _ ?_  (fun _ _ => ?_))
    | ((with_reducible refine (?_ : am_Does _ 24 _ _ _)); refine w_ways_X2_29 (ν := ν) _ ?_  (fun _ => ?_))
    | ((with_reducible refine (?_ : am_Does _ 36 _ _ _)); first | ((with_reducible refine (?_ : am_Does _ 36 (Sum.inr (Sum.inr 29) :: _) _ _)); refine w_line_X2_29 (ν := ν)  ?_  (fun _ _ => ?_)) | ((with_reducible refine (?_ : am_Does _ 36 (Sum.inr (Sum.inr 38) :: _) _ _)); refine w_line_X2_38 (ν := ν)  ?_  (fun _ _ => ?_)) | refine w_line_X2_29 (ν := ν)  ?_  (fun _ _ => ?_) | refine w_line_X2_38 (ν := ν)  ?_  (fun _ _ => ?_))
    | ((with_reducible refine (?_ : am_Does _ 35 _ _ _)); first | ((with_reducible refine (?_ : am_Does _ 35 (Sum.inr (Sum.inr 38) :: Sum.inr (Sum.inr 8) :: _) _ _)); refine w_behind_X2_38_8 (ν := ν)  ?_  (fun _ _ => ?_)) | ((with_reducible refine (?_ : am_Does _ 35 (Sum.inr (Sum.inr 29) :: Sum.inr (Sum.inr 8) :: _) _ _)); refine w_behind_X2_29_8 (ν := ν)  ?_  (fun _ _ => ?_)) | ((with_reducible refine (?_ : am_Does _ 35 (Sum.inr (Sum.inr 29) :: Sum.inr (Sum.inr 15) :: _) _ _)); refine w_behind_X2_29_15 (ν := ν)  ?_  (fun _ _ => ?_)) | refine w_behind_X2_38_8 (ν := ν)  ?_  (fun _ _ => ?_) | refine w_behind_X2_29_8 (ν := ν)  ?_  (fun _ _ => ?_) | refine w_behind_X2_29_15 (ν := ν)  ?_  (fun _ _ => ?_))
    | ((with_reducible refine (?_ : am_AW _ _ _ _ _ 37 _ _ _)); refine lp37 _ _ _ ?_ ?_)
    | ((with_reducible refine (?_ : am_AW _ _ _ _ _ 67 _ _ _)); refine lp67 _ _ _ _ ?_ ?_)
    | refine And.intro (fun h => absurd h (by decide)) (fun _ => ?_)
    | refine And.intro (fun _ => ?_) (fun h => absurd (by decide) h)
    | refine And.intro (fun _ => ?_) (fun _ => ?_)
    | refine And.intro ?_ ?_
  all_goals (first | assumption | decide | omega | (intros; omega) | (intros; simp only [am_c] at * <;> omega) | (simp only [am_c, am_up] at * <;> omega) | (simp [am_c, am_up] at * <;> omega))
