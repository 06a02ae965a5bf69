/-! s -/
theorem m_keep1Zs {l : Launch} {ν : am_N} {Q : Option am_V → am_N → Prop} (k : ∀ μ', KPs 60 ν μ' → μ' 83 14 = ν 83 14 → μ' 83 21 = ν 83 21 → μ' 83 23 = ν 83 23 → Q none μ') : am_Does l 159 [.inr (.inr 83), .inl 1, .inl 1] ν Q := by
  refine am_Does_of (Nat.le_of_ble_eq_true rfl) (Nat.le_of_ble_eq_true rfl) (Nat.le_of_ble_eq_true rfl) ?_
  refine am_go (ct := fun _ => false) am_oX7_passesAll 300 ?_
  conv => whnf
  repeat' first
    | (refine (?_ : am_wp _ _ _ _ _ _ _ _ _ _ _ _); conv => whnf)
    | (refine (?_ : am_sw _ _ _ _); conv => whnf)
    | refine And.intro trivial ?_
    | exact trivial
    | (refine k _ (And.intro (kp_all rfl rfl rfl rfl rfl rfl rfl rfl rfl rfl rfl rfl rfl rfl rfl rfl rfl rfl rfl rfl rfl rfl rfl rfl rfl rfl rfl rfl rfl rfl rfl rfl rfl rfl rfl rfl rfl rfl rfl rfl rfl rfl rfl rfl rfl) (fun p q h1 h2 => ?_)) rfl rfl rfl; rcases kp_7 p q with z | z | z | z | z | z | z | z <;> first | (obtain ⟨rfl, rfl⟩ := z; rfl) | (repeat' first | refine (am_upE (by omega)).trans ?_ | refine (kq_s_ne (by omega) (by omega)).trans ?_ | refine (kq_l_ne (by omega) (by omega)).trans ?_ | exact rfl))
    | ((with_reducible refine (?_ : am_Does _ 157 _ _ _)); first | ((with_reducible refine (?_ : am_Does _ 157 (Sum.inr (Sum.inr 83) :: Sum.inr (Sum.inr 85) :: _) _ _)); refine m_ps_85 60 (by decide) rfl rfl ?_) | ((with_reducible refine (?_ : am_Does _ 157 (Sum.inr (Sum.inr 83) :: Sum.inr (Sum.inr 86) :: _) _ _)); refine m_ps_86 64 (by decide) rfl rfl ?_) | ((with_reducible refine (?_ : am_Does _ 157 (Sum.inr (Sum.inr 83) :: Sum.inr (Sum.inr 87) :: _) _ _)); refine m_ps_87 68 (by decide) rfl rfl ?_) | ((with_reducible refine (?_ : am_Does _ 157 (Sum.inr (Sum.inr 83) :: Sum.inr (Sum.inr 88) :: _) _ _)); refine m_ps_88 72 (by decide) rfl rfl ?_) | ((with_reducible refine (?_ : am_Does _ 157 (Sum.inr (Sum.inr 83) :: Sum.inr (Sum.inr 89) :: _) _ _)); refine m_ps_89 76 (by decide) rfl rfl ?_) | ((with_reducible refine (?_ : am_Does _ 157 (Sum.inr (Sum.inr 83) :: Sum.inr (Sum.inr 90) :: _) _ _)); refine m_ps_90 80 (by decide) rfl rfl ?_) | ((with_reducible refine (?_ : am_Does _ 157 (Sum.inr (Sum.inr 83) :: Sum.inr (Sum.inr 91) :: _) _ _)); refine m_ps_91 84 (by decide) rfl rfl ?_) | ((with_reducible refine (?_ : am_Does _ 157 (Sum.inr (Sum.inr 83) :: Sum.inr (Sum.inr 92) :: _) _ _)); refine m_ps_92 90 (by decide) rfl rfl ?_) | ((with_reducible refine (?_ : am_Does _ 157 (Sum.inr (Sum.inr 83) :: Sum.inr (Sum.inr 93) :: _) _ _)); refine m_ps_93 94 (by decide) rfl rfl ?_) | refine m_ps_85 60 (by decide) rfl rfl ?_ | refine m_ps_86 64 (by decide) rfl rfl ?_ | refine m_ps_87 68 (by decide) rfl rfl ?_ | refine m_ps_88 72 (by decide) rfl rfl ?_ | refine m_ps_89 76 (by decide) rfl rfl ?_ | refine m_ps_90 80 (by decide) rfl rfl ?_ | refine m_ps_91 84 (by decide) rfl rfl ?_ | refine m_ps_92 90 (by decide) rfl rfl ?_ | refine m_ps_93 94 (by decide) rfl rfl ?_)
    | ((with_reducible refine (?_ : am_Does _ 158 _ _ _)); first | refine m_pos 98 _ (by decide) rfl rfl ?_ | refine m_pos 99 _ (by decide) rfl rfl ?_ | refine m_pos 100 _ (by decide) rfl rfl ?_ | refine m_pos 101 _ (by decide) rfl rfl ?_ | refine m_pos 102 _ (by decide) rfl rfl ?_ | refine m_pos 103 _ (by decide) rfl rfl ?_ | refine m_pos 104 _ (by decide) rfl rfl ?_)
    | refine And.intro (fun h => absurd h (by decide)) (fun _ => ?_)
    | refine And.intro (fun _ => ?_) (fun h => absurd (by decide) h)
    | refine And.intro (fun _ => ?_) (fun _ => ?_)
    | refine And.intro ?_ ?_
  all_goals (decide)
