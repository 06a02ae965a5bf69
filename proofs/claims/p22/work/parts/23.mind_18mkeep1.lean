theorem kq_e {Q : Option am_V → am_N → Prop} {μ : am_N} {x c : Nat} {z w v : Int} (k : Q (some (.inl v)) (am_up (am_up μ 98 c v) 83 27 w)) (hx : x = c) (hz : z = w) : Q (some (.inl v)) (am_up (am_up μ 98 x v) 83 27 z) := by subst hx; subst hz; exact k
theorem kq_f {Q : Option am_V → am_N → Prop} {μ : am_N} {x c : Nat} {z w : Int} (k : Q (some (.inl (μ 98 c))) (am_up μ 83 27 w)) (hx : x = c) (hz : z = w) : Q (some (.inl (μ 98 x))) (am_up μ 83 27 z) := by subst hx; subst hz; exact k
theorem m_pos {l : Launch} {μ : am_N} {Q : Option am_V → am_N → Prop} (c : Nat) (v : Int) (hc : c < 120) (h6 : μ 83 26 = 1) (h7 : μ 83 27 = (c : Int)) (k : Q (some (.inl v)) (am_up (am_up μ 98 c v) 83 27 ((c : Int) + 1))) : am_Does l 158 [.inr (.inr 83), .inl v] μ Q := by
  refine am_Does_of (Nat.le_of_ble_eq_true rfl) (Nat.le_of_ble_eq_true rfl) (Nat.le_of_ble_eq_true rfl) ?_
  have e6 : μ 83 26 = 1 := h6
  have ec : (am_c (c : Int)).toNat = c := by rw [am_cR (by omega) (by omega)]; omega
  have ez : ∀ (x : Nat) (v : Int), am_up μ 98 x v 83 27 = (c : Int) := fun x v => (am_upN (by decide)).trans h7
  refine am_go (ct := fun _ => false) am_oX7_passOne 300 ?_
  conv => whnf
  repeat' first
    | (refine (?_ : am_wp _ _ _ _ _ _ _ _ _ _ _ _); conv => whnf)
    | (refine (?_ : am_sw _ _ _ _); conv => whnf)
    | refine And.intro trivial ?_
    | exact trivial
    | refine And.intro (fun h => absurd h (by rw [e6]; decide)) (fun _ => ?_)
    | exact kq_e (Q := Q) (μ := μ) (c := c) (w := (c : Int) + 1) (v := v) k (by rw [h7, ec]) (by rw [ez])
    | refine And.intro (fun h => absurd h (by decide)) (fun _ => ?_)
    | refine And.intro (fun _ => ?_) (fun h => absurd (by decide) h)
    | refine And.intro (fun _ => ?_) (fun _ => ?_)
    | refine And.intro ?_ ?_
  all_goals (first | decide | omega | (rw [h7, am_cR (by omega) (by omega)]; omega) | (trace_state; fail))
theorem m_pol {l : Launch} {μ : am_N} {Q : Option am_V → am_N → Prop} (c : Nat) (v : Int) (hc : c < 120) (h6 : μ 83 26 = 0) (h7 : μ 83 27 = (c : Int)) (k : Q (some (.inl (μ 98 c))) (am_up μ 83 27 ((c : Int) + 1))) : am_Does l 158 [.inr (.inr 83), .inl v] μ Q := by
  refine am_Does_of (Nat.le_of_ble_eq_true rfl) (Nat.le_of_ble_eq_true rfl) (Nat.le_of_ble_eq_true rfl) ?_
  have e6 : μ 83 26 = 0 := h6
  have ec : (am_c (c : Int)).toNat = c := by rw [am_cR (by omega) (by omega)]; omega
  have ez : ∀ (x : Nat) (v : Int), am_up μ 98 x v 83 27 = (c : Int) := fun x v => (am_upN (by decide)).trans h7
  refine am_go (ct := fun _ => false) am_oX7_passOne 300 ?_
  conv => whnf
  repeat' first
    | (refine (?_ : am_wp _ _ _ _ _ _ _ _ _ _ _ _); conv => whnf)
    | (refine (?_ : am_sw _ _ _ _); conv => whnf)
    | refine And.intro trivial ?_
    | exact trivial
    | refine And.intro (fun _ => ?_) (fun h => absurd (by rw [e6]; decide) h)
    | exact kq_f k (by rw [h7, ec]) (by rw [h7])
    | refine And.intro (fun h => absurd h (by decide)) (fun _ => ?_)
    | refine And.intro (fun _ => ?_) (fun h => absurd (by decide) h)
    | refine And.intro (fun _ => ?_) (fun _ => ?_)
    | refine And.intro ?_ ?_
  all_goals (first | decide | omega | (rw [h7, am_cR (by omega) (by omega)]; omega) | (trace_state; fail))
theorem kp_7 (p q : Nat) : (p = 83 ∧ q = 10) ∨ (p = 83 ∧ q = 11) ∨ (p = 83 ∧ q = 12) ∨ (p = 83 ∧ q = 13) ∨ (p = 83 ∧ q = 14) ∨ (p = 83 ∧ q = 15) ∨ (p = 83 ∧ q = 16) ∨ ¬ (p = 83 ∧ (10 ≤ q ∧ q ≤ 16)) := by omega
theorem m_keep0 {l : Launch} {ν : am_N} {Q : Option am_V → am_N → Prop} (k : ∀ μ', KPs 0 ν μ' → μ' 83 14 = ν 83 14 → μ' 83 21 = ν 83 21 → μ' 83 23 = ν 83 23 → Q none μ') : am_Does l 159 [.inr (.inr 83), .inl 0, .inl 1] ν Q := by
  refine am_Does_of (Nat.le_of_ble_eq_true rfl) (Nat.le_of_ble_eq_true rfl) (Nat.le_of_ble_eq_true rfl) ?_
  refine am_go (ct := fun _ => false) am_oX7_passesAll 300 ?_
  conv => whnf
  repeat' first
    | (refine (?_ : am_wp _ _ _ _ _ _ _ _ _ _ _ _); conv => whnf)
    | (refine (?_ : am_sw _ _ _ _); conv => whnf)
    | refine And.intro trivial ?_
    | exact trivial
    | (refine k _ (And.intro (kp_all rfl rfl rfl rfl rfl rfl rfl rfl rfl rfl rfl rfl rfl rfl rfl rfl rfl rfl rfl rfl rfl rfl rfl rfl rfl rfl rfl rfl rfl rfl rfl rfl rfl rfl rfl rfl rfl rfl rfl rfl rfl rfl rfl rfl rfl) (fun p q h1 h2 => ?_)) rfl rfl rfl; rcases kp_7 p q with z | z | z | z | z | z | z | z <;> first | (obtain ⟨rfl, rfl⟩ := z; rfl) | (repeat' first | refine (am_upE (by omega)).trans ?_ | refine (kq_s_ne (by omega) (by omega)).trans ?_ | refine (kq_l_ne (by omega) (by omega)).trans ?_ | exact rfl))
    | ((with_reducible refine (?_ : am_Does _ 157 _ _ _)); first | ((with_reducible refine (?_ : am_Does _ 157 (Sum.inr (Sum.inr 83) :: Sum.inr (Sum.inr 85) :: _) _ _)); refine m_ps_85 0 (by decide) rfl rfl ?_) | ((with_reducible refine (?_ : am_Does _ 157 (Sum.inr (Sum.inr 83) :: Sum.inr (Sum.inr 86) :: _) _ _)); refine m_ps_86 4 (by decide) rfl rfl ?_) | ((with_reducible refine (?_ : am_Does _ 157 (Sum.inr (Sum.inr 83) :: Sum.inr (Sum.inr 87) :: _) _ _)); refine m_ps_87 8 (by decide) rfl rfl ?_) | ((with_reducible refine (?_ : am_Does _ 157 (Sum.inr (Sum.inr 83) :: Sum.inr (Sum.inr 88) :: _) _ _)); refine m_ps_88 12 (by decide) rfl rfl ?_) | ((with_reducible refine (?_ : am_Does _ 157 (Sum.inr (Sum.inr 83) :: Sum.inr (Sum.inr 89) :: _) _ _)); refine m_ps_89 16 (by decide) rfl rfl ?_) | ((with_reducible refine (?_ : am_Does _ 157 (Sum.inr (Sum.inr 83) :: Sum.inr (Sum.inr 90) :: _) _ _)); refine m_ps_90 20 (by decide) rfl rfl ?_) | ((with_reducible refine (?_ : am_Does _ 157 (Sum.inr (Sum.inr 83) :: Sum.inr (Sum.inr 91) :: _) _ _)); refine m_ps_91 24 (by decide) rfl rfl ?_) | ((with_reducible refine (?_ : am_Does _ 157 (Sum.inr (Sum.inr 83) :: Sum.inr (Sum.inr 92) :: _) _ _)); refine m_ps_92 30 (by decide) rfl rfl ?_) | ((with_reducible refine (?_ : am_Does _ 157 (Sum.inr (Sum.inr 83) :: Sum.inr (Sum.inr 93) :: _) _ _)); refine m_ps_93 34 (by decide) rfl rfl ?_) | refine m_ps_85 0 (by decide) rfl rfl ?_ | refine m_ps_86 4 (by decide) rfl rfl ?_ | refine m_ps_87 8 (by decide) rfl rfl ?_ | refine m_ps_88 12 (by decide) rfl rfl ?_ | refine m_ps_89 16 (by decide) rfl rfl ?_ | refine m_ps_90 20 (by decide) rfl rfl ?_ | refine m_ps_91 24 (by decide) rfl rfl ?_ | refine m_ps_92 30 (by decide) rfl rfl ?_ | refine m_ps_93 34 (by decide) rfl rfl ?_)
    | ((with_reducible refine (?_ : am_Does _ 158 _ _ _)); first | refine m_pos 38 _ (by decide) rfl rfl ?_ | refine m_pos 39 _ (by decide) rfl rfl ?_ | refine m_pos 40 _ (by decide) rfl rfl ?_ | refine m_pos 41 _ (by decide) rfl rfl ?_ | refine m_pos 42 _ (by decide) rfl rfl ?_ | refine m_pos 43 _ (by decide) rfl rfl ?_ | refine m_pos 44 _ (by decide) rfl rfl ?_)
    | refine And.intro (fun h => absurd h (by decide)) (fun _ => ?_)
    | refine And.intro (fun _ => ?_) (fun h => absurd (by decide) h)
    | refine And.intro (fun _ => ?_) (fun _ => ?_)
    | refine And.intro ?_ ?_
  all_goals (decide)
theorem m_come0 {l : Launch} {ν : am_N} {Q : Option am_V → am_N → Prop} (k : ∀ μ', KPl 0 ν μ' → μ' 83 14 = ν 98 44 → μ' 83 21 = ν 83 21 → μ' 83 23 = ν 83 23 → Q none μ') : am_Does l 159 [.inr (.inr 83), .inl 0, .inl 0] ν Q := by
  refine am_Does_of (Nat.le_of_ble_eq_true rfl) (Nat.le_of_ble_eq_true rfl) (Nat.le_of_ble_eq_true rfl) ?_
  refine am_go (ct := fun _ => false) am_oX7_passesAll 300 ?_
  conv => whnf
  repeat' first
    | (refine (?_ : am_wp _ _ _ _ _ _ _ _ _ _ _ _); conv => whnf)
    | (refine (?_ : am_sw _ _ _ _); conv => whnf)
    | refine And.intro trivial ?_
    | exact trivial
    | (refine k _ (And.intro (kp_all rfl rfl rfl rfl rfl rfl rfl rfl rfl rfl rfl rfl rfl rfl rfl rfl rfl rfl rfl rfl rfl rfl rfl rfl rfl rfl rfl rfl rfl rfl rfl rfl rfl rfl rfl rfl rfl rfl rfl rfl rfl rfl rfl rfl rfl) (fun p q h1 h2 => ?_)) rfl rfl rfl; have z := kp_no h1; repeat' first | refine (am_upE (by omega)).trans ?_ | refine (kq_s_ne (by omega) (by omega)).trans ?_ | refine (kq_l_ne (by omega) (by omega)).trans ?_ | exact rfl)
    | ((with_reducible refine (?_ : am_Does _ 157 _ _ _)); first | ((with_reducible refine (?_ : am_Does _ 157 (Sum.inr (Sum.inr 83) :: Sum.inr (Sum.inr 85) :: _) _ _)); refine m_pl_85 0 (by decide) rfl rfl ?_) | ((with_reducible refine (?_ : am_Does _ 157 (Sum.inr (Sum.inr 83) :: Sum.inr (Sum.inr 86) :: _) _ _)); refine m_pl_86 4 (by decide) rfl rfl ?_) | ((with_reducible refine (?_ : am_Does _ 157 (Sum.inr (Sum.inr 83) :: Sum.inr (Sum.inr 87) :: _) _ _)); refine m_pl_87 8 (by decide) rfl rfl ?_) | ((with_reducible refine (?_ : am_Does _ 157 (Sum.inr (Sum.inr 83) :: Sum.inr (Sum.inr 88) :: _) _ _)); refine m_pl_88 12 (by decide) rfl rfl ?_) | ((with_reducible refine (?_ : am_Does _ 157 (Sum.inr (Sum.inr 83) :: Sum.inr (Sum.inr 89) :: _) _ _)); refine m_pl_89 16 (by decide) rfl rfl ?_) | ((with_reducible refine (?_ : am_Does _ 157 (Sum.inr (Sum.inr 83) :: Sum.inr (Sum.inr 90) :: _) _ _)); refine m_pl_90 20 (by decide) rfl rfl ?_) | ((with_reducible refine (?_ : am_Does _ 157 (Sum.inr (Sum.inr 83) :: Sum.inr (Sum.inr 91) :: _) _ _)); refine m_pl_91 24 (by decide) rfl rfl ?_) | ((with_reducible refine (?_ : am_Does _ 157 (Sum.inr (Sum.inr 83) :: Sum.inr (Sum.inr 92) :: _) _ _)); refine m_pl_92 30 (by decide) rfl rfl ?_) | ((with_reducible refine (?_ : am_Does _ 157 (Sum.inr (Sum.inr 83) :: Sum.inr (Sum.inr 93) :: _) _ _)); refine m_pl_93 34 (by decide) rfl rfl ?_) | refine m_pl_85 0 (by decide) rfl rfl ?_ | refine m_pl_86 4 (by decide) rfl rfl ?_ | refine m_pl_87 8 (by decide) rfl rfl ?_ | refine m_pl_88 12 (by decide) rfl rfl ?_ | refine m_pl_89 16 (by decide) rfl rfl ?_ | refine m_pl_90 20 (by decide) rfl rfl ?_ | refine m_pl_91 24 (by decide) rfl rfl ?_ | refine m_pl_92 30 (by decide) rfl rfl ?_ | refine m_pl_93 34 (by decide) rfl rfl ?_)
    | ((with_reducible refine (?_ : am_Does _ 158 _ _ _)); first | refine m_pol 38 _ (by decide) rfl rfl ?_ | refine m_pol 39 _ (by decide) rfl rfl ?_ | refine m_pol 40 _ (by decide) rfl rfl ?_ | refine m_pol 41 _ (by decide) rfl rfl ?_ | refine m_pol 42 _ (by decide) rfl rfl ?_ | refine m_pol 43 _ (by decide) rfl rfl ?_ | refine m_pol 44 _ (by decide) rfl rfl ?_)
    | refine And.intro (fun h => absurd h (by decide)) (fun _ => ?_)
    | refine And.intro (fun _ => ?_) (fun h => absurd (by decide) h)
    | refine And.intro (fun _ => ?_) (fun _ => ?_)
    | refine And.intro ?_ ?_
  all_goals (decide)
theorem m_keep1 {l : Launch} {ν : am_N} {Q : Option am_V → am_N → Prop} (k : ∀ μ', KPs 60 ν μ' → μ' 83 14 = ν 83 14 → μ' 83 21 = ν 83 21 → μ' 83 23 = ν 83 23 → Q none μ') : am_Does l 159 [.inr (.inr 83), .inl 1, .inl 1] ν Q := by
  refine am_Does_of (Nat.le_of_ble_eq_true rfl) (Nat.le_of_ble_eq_true rfl) (Nat.le_of_ble_eq_true rfl) ?_
  refine am_go (ct := fun _ => false) am_oX7_passesAll 300 ?_
  conv => whnf
  repeat' first
    | (refine (?_ : am_wp _ _ _ _ _ _ _ _ _ _ _ _); conv => whnf)
    | (refine (?_ : am_sw _ _ _ _); conv => whnf)
    | refine And.intro trivial ?_
    | exact trivial
    | (refine k _ (And.intro (kp_all rfl rfl rfl rfl rfl rfl rfl rfl rfl rfl rfl rfl rfl rfl rfl rfl rfl rfl rfl rfl rfl rfl rfl rfl rfl rfl rfl rfl rfl rfl rfl rfl rfl rfl rfl rfl rfl rfl rfl rfl rfl rfl rfl rfl rfl) (fun p q h1 h2 => ?_)) rfl rfl rfl; rcases kp_7 p q with z | z | z | z | z | z | z | z <;> first | (obtain ⟨rfl, rfl⟩ := z; rfl) | (repeat' first | refine (am_upE (by omega)).trans ?_ | refine (kq_s_ne (by omega) (by omega)).trans ?_ | refine (kq_l_ne (by omega) (by omega)).trans ?_ | exact rfl))
    | ((with_reducible refine (?_ : am_Does _ 157 _ _ _)); first | ((with_reducible refine (?_ : am_Does _ 157 (Sum.inr (Sum.inr 83) :: Sum.inr (Sum.inr 85) :: _) _ _)); refine m_ps_85 60 (by decide) rfl rfl ?_) | ((with_reducible refine (?_ : am_Does _ 157 (Sum.inr (Sum.inr 83) :: Sum.inr (Sum.inr 86) :: _) _ _)); refine m_ps_86 64 (by decide) rfl rfl ?_) | ((with_reducible refine (?_ : am_Does _ 157 (Sum.inr (Sum.inr 83) :: Sum.inr (Sum.inr 87) :: _) _ _)); refine m_ps_87 68 (by decide) rfl rfl ?_) | ((with_reducible refine (?_ : am_Does _ 157 (Sum.inr (Sum.inr 83) :: Sum.inr (Sum.inr 88) :: _) _ _)); refine m_ps_88 72 (by decide) rfl rfl ?_) | ((with_reducible refine (?_ : am_Does _ 157 (Sum.inr (Sum.inr 83) :: Sum.inr (Sum.inr 89) :: _) _ _)); refine m_ps_89 76 (by decide) rfl rfl ?_) | ((with_reducible refine (?_ : am_Does _ 157 (Sum.inr (Sum.inr 83) :: Sum.inr (Sum.inr 90) :: _) _ _)); refine m_ps_90 80 (by decide) rfl rfl ?_) | ((with_reducible refine (?_ : am_Does _ 157 (Sum.inr (Sum.inr 83) :: Sum.inr (Sum.inr 91) :: _) _ _)); refine m_ps_91 84 (by decide) rfl rfl ?_) | ((with_reducible refine (?_ : am_Does _ 157 (Sum.inr (Sum.inr 83) :: Sum.inr (Sum.inr 92) :: _) _ _)); refine m_ps_92 90 (by decide) rfl rfl ?_) | ((with_reducible refine (?_ : am_Does _ 157 (Sum.inr (Sum.inr 83) :: Sum.inr (Sum.inr 93) :: _) _ _)); refine m_ps_93 94 (by decide) rfl rfl ?_) | refine m_ps_85 60 (by decide) rfl rfl ?_ | refine m_ps_86 64 (by decide) rfl rfl ?_ | refine m_ps_87 68 (by decide) rfl rfl ?_ | refine m_ps_88 72 (by decide) rfl rfl ?_ | refine m_ps_89 76 (by decide) rfl rfl ?_ | refine m_ps_90 80 (by decide) rfl rfl ?_ | refine m_ps_91 84 (by decide) rfl rfl ?_ | refine m_ps_92 90 (by decide) rfl rfl ?_ | refine m_ps_93 94 (by decide) rfl rfl ?_)
    | ((with_reducible refine (?_ : am_Does _ 158 _ _ _)); first | refine m_pos 98 _ (by decide) rfl rfl ?_ | refine m_pos 99 _ (by decide) rfl rfl ?_ | refine m_pos 100 _ (by decide) rfl rfl ?_ | refine m_pos 101 _ (by decide) rfl rfl ?_ | refine m_pos 102 _ (by decide) rfl rfl ?_ | refine m_pos 103 _ (by decide) rfl rfl ?_ | refine m_pos 104 _ (by decide) rfl rfl ?_)
    | refine And.intro (fun h => absurd h (by decide)) (fun _ => ?_)
    | refine And.intro (fun _ => ?_) (fun h => absurd (by decide) h)
    | refine And.intro (fun _ => ?_) (fun _ => ?_)
    | refine And.intro ?_ ?_
  all_goals (decide)
