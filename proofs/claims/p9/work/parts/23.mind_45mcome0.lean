theorem m_come0 {l : Launch} {ν : am_N} {Q : Option am_V → am_N → Prop} (k : ∀ μ', KPl 0 ν μ' → μ' 83 14 = ν 98 44 → μ' 83 21 = ν 83 21 → μ' 83 23 = ν 83 23 → Q none μ') : am_Does l 159 [.inr (.inr 83), .inl 0, .inl 0] ν Q := by
  refine am_Does_of (Nat.le_of_ble_eq_true rfl) (Nat.le_of_ble_eq_true rfl) (Nat.le_of_ble_eq_true rfl) ?_
  refine am_go (ct := fun _ => false) am_oX7_passesAll 300 ?_
  conv => whnf
  repeat' first
    | (refine (?_ : am_wp _ _ _ _ _ _ _ _ _ _ _ _); conv => whnf)
    | (refine (?_ : am_sw _ _ _ _); conv => whnf)
    | refine And.intro trivial ?_
    | exact trivial
    | (refine k _ (And.intro (kp_all rfl rfl rfl rfl rfl rfl rfl rfl rfl rfl rfl rfl rfl rfl rfl rfl rfl rfl rfl rfl rfl rfl rfl rfl rfl rfl rfl rfl rfl rfl rfl rfl rfl rfl rfl rfl rfl rfl rfl rfl rfl rfl rfl rfl rfl) (fun p q h1 h2 => ?_)) rfl rfl rfl; have z := kp_no h1; repeat' first | refine (am_upE (by omega)).trans ?_ | refine (kq_s_ne (by omega) (by omega)).trans ?_ | refine (kq_l_ne (by omega) (by omega)).trans ?_ | exact rfl)
    | refine m_pl_85 0 (by decide) rfl rfl ?_
    | refine m_pl_86 4 (by decide) rfl rfl ?_
    | refine m_pl_87 8 (by decide) rfl rfl ?_
    | refine m_pl_88 12 (by decide) rfl rfl ?_
    | refine m_pl_89 16 (by decide) rfl rfl ?_
    | refine m_pl_90 20 (by decide) rfl rfl ?_
    | refine m_pl_91 24 (by decide) rfl rfl ?_
    | refine m_pl_92 30 (by decide) rfl rfl ?_
    | refine m_pl_93 34 (by decide) rfl rfl ?_
    | refine m_pol 38 _ (by decide) rfl rfl ?_
    | refine m_pol 39 _ (by decide) rfl rfl ?_
    | refine m_pol 40 _ (by decide) rfl rfl ?_
    | refine m_pol 41 _ (by decide) rfl rfl ?_
    | refine m_pol 42 _ (by decide) rfl rfl ?_
    | refine m_pol 43 _ (by decide) rfl rfl ?_
    | refine m_pol 44 _ (by decide) rfl rfl ?_
    | refine And.intro (fun h => absurd h (by decide)) (fun _ => ?_)
    | refine And.intro (fun _ => ?_) (fun h => absurd (by decide) h)
    | refine And.intro (fun _ => ?_) (fun _ => ?_)
    | refine And.intro ?_ ?_
  all_goals (decide)
