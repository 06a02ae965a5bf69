/-! contracts: the model's changes (weak; its rows exactly) -/
/-- runs that can be taken back -/
def mK1 (k j : Nat) : Bool := Nat.beq k 101 || (Nat.beq k 102 || (Nat.beq k 103 || (Nat.beq k 83 && Nat.beq j 33)))
abbrev mK : Nat → Nat → Bool := mo ms mK1
abbrev mKR : Nat → Nat → Bool := mo mK mR
def m1o (k' j' k j : Nat) : Bool := Nat.beq k k' || (Nat.beq k 83 && Nat.beq j j')
theorem sb_T_K : ∀ k j, mK k j = false → mT k j = false := fun k j h => sb_T_s k j (mo_l k j h)
theorem sb_T_KR : ∀ k j, mKR k j = false → mT k j = false := fun k j h => sb_T_K k j (mo_l k j h)
theorem sb_R_KR : ∀ k j, mKR k j = false → mAR k j = false := fun k j h => Bool.or_eq_false_iff.mpr ⟨sb_T_KR k j h, mo_r k j h⟩
theorem m_row {l : Launch} {ν : am_N} {Q : Option am_V → am_N → Prop} (a : Int) (hS : mi ν) (ha0 : -2147483648 ≤ a) (ha1 : a ≤ 2147483647)  (k : ∀ (r : Int) (μ' : am_N), gm (mo ms (m1o 106 42)) ν μ' → ((am_c a < 0 ∧ r = -4 ∧ μ' 83 42 = ν 83 42) ∨ (0 ≤ am_c a ∧ (99 < am_c a ∨ ν 83 42 = 12) ∧ r = -6 ∧ μ' 83 42 = ν 83 42) ∨ (0 ≤ am_c a ∧ am_c a ≤ 99 ∧ ν 83 42 < 12 ∧ r = ν 83 42 + 1 ∧ μ' 83 42 = ν 83 42 + 1)) → Q (some (.inl r)) μ') : am_Does l 244 [.inr (.inr 83), .inl a] ν Q := by
  refine am_Does_of (Nat.le_of_ble_eq_true rfl) (Nat.le_of_ble_eq_true rfl) (Nat.le_of_ble_eq_true rfl) ?_
  have hb := mi_all hS
  refine am_go (ct := fun _ => false) am_oX7_row 300 ?_
  conv => whnf
  repeat' first
    | (refine (?_ : am_wp _ _ _ _ _ _ _ _ _ _ _ _); conv => whnf)
    | (refine (?_ : am_sw _ _ _ _); conv => whnf)
    | refine And.intro trivial ?_
    | exact trivial
    | assumption
    | ((with_reducible refine (?_ : _ ∧ _)); first | (with_reducible first | refine am_jn am_q1 ?_ | refine am_jn am_q2 ?_ | refine am_jn am_q3 ?_ | refine am_jn am_q4 ?_ | refine am_jn am_q6 ?_ | refine am_jn am_q9 ?_ | refine am_jn am_p1 ?_ | refine am_jy am_p0 ?_ | refine am_kn am_q1 ?_ | refine am_kn am_q2 ?_ | refine am_kn am_q3 ?_ | refine am_kn am_q4 ?_ | refine am_kn am_q6 ?_ | refine am_kn am_q9 ?_ | refine am_kn am_p1 ?_ | refine am_ky am_p0 ?_) | refine And.intro (fun h => absurd h (by decide)) (fun _ => ?_) | refine And.intro (fun _ => ?_) (fun h => absurd (by decide) h) | refine And.intro (fun _ => ?_) (fun _ => ?_) | refine And.intro ?_ ?_)
    | refine k _ _ ?_ ?_
    | exact sb_R_KR
    | exact sb_T_KR
    | exact sb_T_K
    | exact fun k j h => mo_l k j (mo_l k j h)
    | exact mo_l
    | ((with_reducible refine (?_ : am_Does _ 144 _ _ _)); refine m_bound _ _ _ (fun _ => ?_) (fun _ _ => ?_) (fun _ _ => ?_))
    | ((with_reducible refine (?_ : am_Does _ 140 _ _ _)); refine m_no _ (gm_rf (by repeat' first | assumption | exact gm_i (by assumption) | exact md_i (by assumption) | refine mi_up ?_ rfl | refine mi_100 ?_ ?_ ?_ | (simp only [am_c] at * <;> omega))) ?_ ?_ (fun _ _ _ _ => ?_))
    | exact gm_rf hS
    | refine gm_up ?_ rfl rfl
    | refine gm_up ?_ mo1_self rfl
    | refine gm_up ?_ mo1_in rfl
    | refine gm_100 ?_ rfl ?_ ?_
    | refine gm_14 ?_ rfl ?_ ?_
    | refine gm_15 ?_ rfl ?_ ?_
    | refine gm_16 ?_ rfl ?_ ?_
    | refine gm_21 ?_ rfl ?_ ?_
    | refine gm_33 ?_ rfl ?_ ?_
    | refine gm_40 ?_ rfl ?_ ?_
    | refine gm_42 ?_ rfl ?_ ?_
    | refine md_up ?_ rfl rfl
    | refine md_tr ?_ (by assumption) ?_
    | refine gm_tr ?_ (by assumption) ?_
    | refine gm_put ?_ ?_ rfl
    | refine mi_up ?_ rfl
    | exact gm_i (by assumption)
    | exact md_i (by assumption)
    | exact sb_id
    | exact sb_T_s
    | exact sb_T_Q
    | exact sb_T_M
    | exact sb_R_M
    | exact sb_L_M
    | exact mo_l
    | exact mo1_sub
    | exact mo1_one sb_T_s
    | exact mo1_one mo_l
    | exact mo1_one sb_T_Q
    | exact mo1_one (mo1_one sb_T_s)
    | exact mo1_one (mo1_one sb_id)
    | exact fun k j h => sb_T_Q k j (mo_l k j h)
    | exact fun k j h => mo_l k j (mo_l k j h)
    | exact fun k j h => sb_T_s k j (mo_l k j h)
    | refine And.intro (fun h => absurd h (by decide)) (fun _ => ?_)
    | refine And.intro (fun _ => ?_) (fun h => absurd (by decide) h)
    | refine And.intro (fun _ => ?_) (fun _ => ?_)
    | refine And.intro ?_ ?_
  all_goals (first | assumption | decide | omega | rfl | (have eq9 := (by assumption : gm ms _ _).2 83 42 rfl; simp [am_c, am_up] at * <;> omega) | (simp only [am_c] at * <;> omega) | (simp [am_c, am_up] at * <;> omega))
theorem m_time {l : Launch} {ν : am_N} {Q : Option am_V → am_N → Prop} (a : Int) (hS : mi ν) (ha0 : -2147483648 ≤ a) (ha1 : a ≤ 2147483647)  (k : ∀ (r : Int) (μ' : am_N), gm (mo ms (m1o 105 40)) ν μ' → ((am_c a < 0 ∧ r = -4 ∧ μ' 83 40 = ν 83 40) ∨ (0 ≤ am_c a ∧ (999 < am_c a ∨ ν 83 40 = 6) ∧ r = -6 ∧ μ' 83 40 = ν 83 40) ∨ (0 ≤ am_c a ∧ am_c a ≤ 999 ∧ ν 83 40 < 6 ∧ r = ν 83 40 + 1 ∧ μ' 83 40 = ν 83 40 + 1)) → Q (some (.inl r)) μ') : am_Does l 240 [.inr (.inr 83), .inl a] ν Q := by
  refine am_Does_of (Nat.le_of_ble_eq_true rfl) (Nat.le_of_ble_eq_true rfl) (Nat.le_of_ble_eq_true rfl) ?_
  have hb := mi_all hS
  refine am_go (ct := fun _ => false) am_oX7_time 300 ?_
  conv => whnf
  repeat' first
    | (refine (?_ : am_wp _ _ _ _ _ _ _ _ _ _ _ _); conv => whnf)
    | (refine (?_ : am_sw _ _ _ _); conv => whnf)
    | refine And.intro trivial ?_
    | exact trivial
    | assumption
    | ((with_reducible refine (?_ : _ ∧ _)); first | (with_reducible first | refine am_jn am_q1 ?_ | refine am_jn am_q2 ?_ | refine am_jn am_q3 ?_ | refine am_jn am_q4 ?_ | refine am_jn am_q6 ?_ | refine am_jn am_q9 ?_ | refine am_jn am_p1 ?_ | refine am_jy am_p0 ?_ | refine am_kn am_q1 ?_ | refine am_kn am_q2 ?_ | refine am_kn am_q3 ?_ | refine am_kn am_q4 ?_ | refine am_kn am_q6 ?_ | refine am_kn am_q9 ?_ | refine am_kn am_p1 ?_ | refine am_ky am_p0 ?_) | refine And.intro (fun h => absurd h (by decide)) (fun _ => ?_) | refine And.intro (fun _ => ?_) (fun h => absurd (by decide) h) | refine And.intro (fun _ => ?_) (fun _ => ?_) | refine And.intro ?_ ?_)
    | refine k _ _ ?_ ?_
    | exact sb_R_KR
    | exact sb_T_KR
    | exact sb_T_K
    | exact fun k j h => mo_l k j (mo_l k j h)
    | exact mo_l
    | ((with_reducible refine (?_ : am_Does _ 144 _ _ _)); refine m_bound _ _ _ (fun _ => ?_) (fun _ _ => ?_) (fun _ _ => ?_))
    | ((with_reducible refine (?_ : am_Does _ 140 _ _ _)); refine m_no _ (gm_rf (by repeat' first | assumption | exact gm_i (by assumption) | exact md_i (by assumption) | refine mi_up ?_ rfl | refine mi_100 ?_ ?_ ?_ | (simp only [am_c] at * <;> omega))) ?_ ?_ (fun _ _ _ _ => ?_))
    | exact gm_rf hS
    | refine gm_up ?_ rfl rfl
    | refine gm_up ?_ mo1_self rfl
    | refine gm_up ?_ mo1_in rfl
    | refine gm_100 ?_ rfl ?_ ?_
    | refine gm_14 ?_ rfl ?_ ?_
    | refine gm_15 ?_ rfl ?_ ?_
    | refine gm_16 ?_ rfl ?_ ?_
    | refine gm_21 ?_ rfl ?_ ?_
    | refine gm_33 ?_ rfl ?_ ?_
    | refine gm_40 ?_ rfl ?_ ?_
    | refine gm_42 ?_ rfl ?_ ?_
    | refine md_up ?_ rfl rfl
    | refine md_tr ?_ (by assumption) ?_
    | refine gm_tr ?_ (by assumption) ?_
    | refine gm_put ?_ ?_ rfl
    | refine mi_up ?_ rfl
    | exact gm_i (by assumption)
    | exact md_i (by assumption)
    | exact sb_id
    | exact sb_T_s
    | exact sb_T_Q
    | exact sb_T_M
    | exact sb_R_M
    | exact sb_L_M
    | exact mo_l
    | exact mo1_sub
    | exact mo1_one sb_T_s
    | exact mo1_one mo_l
    | exact mo1_one sb_T_Q
    | exact mo1_one (mo1_one sb_T_s)
    | exact mo1_one (mo1_one sb_id)
    | exact fun k j h => sb_T_Q k j (mo_l k j h)
    | exact fun k j h => mo_l k j (mo_l k j h)
    | exact fun k j h => sb_T_s k j (mo_l k j h)
    | refine And.intro (fun h => absurd h (by decide)) (fun _ => ?_)
    | refine And.intro (fun _ => ?_) (fun h => absurd (by decide) h)
    | refine And.intro (fun _ => ?_) (fun _ => ?_)
    | refine And.intro ?_ ?_
  all_goals (first | assumption | decide | omega | rfl | (have eq9 := (by assumption : gm ms _ _).2 83 40 rfl; simp [am_c, am_up] at * <;> omega) | (simp only [am_c] at * <;> omega) | (simp [am_c, am_up] at * <;> omega))
theorem m_bag {l : Launch} {ν : am_N} {Q : Option am_V → am_N → Prop} (a : Int) (hS : mi ν) (ha0 : -2147483648 ≤ a) (ha1 : a ≤ 2147483647)  (k : ∀ (r : Int) (μ' : am_N), gm (mo ms (m1o 91 15)) ν μ' → ((am_c a < 1 ∧ r = -4 ∧ μ' 83 15 = ν 83 15) ∨ (1 ≤ am_c a ∧ (9 < am_c a ∨ ν 83 15 = 6) ∧ r = -6 ∧ μ' 83 15 = ν 83 15) ∨ (1 ≤ am_c a ∧ am_c a ≤ 9 ∧ ν 83 15 < 6 ∧ r = ν 83 15 + 1 ∧ μ' 83 15 = ν 83 15 + 1)) → Q (some (.inl r)) μ') : am_Does l 213 [.inr (.inr 83), .inl a] ν Q := by
  refine am_Does_of (Nat.le_of_ble_eq_true rfl) (Nat.le_of_ble_eq_true rfl) (Nat.le_of_ble_eq_true rfl) ?_
  have hb := mi_all hS
  refine am_go (ct := fun _ => false) am_oX7_bag 300 ?_
  conv => whnf
  repeat' first
    | (refine (?_ : am_wp _ _ _ _ _ _ _ _ _ _ _ _); conv => whnf)
    | (refine (?_ : am_sw _ _ _ _); conv => whnf)
    | refine And.intro trivial ?_
    | exact trivial
    | assumption
    | ((with_reducible refine (?_ : _ ∧ _)); first | (with_reducible first | refine am_jn am_q1 ?_ | refine am_jn am_q2 ?_ | refine am_jn am_q3 ?_ | refine am_jn am_q4 ?_ | refine am_jn am_q6 ?_ | refine am_jn am_q9 ?_ | refine am_jn am_p1 ?_ | refine am_jy am_p0 ?_ | refine am_kn am_q1 ?_ | refine am_kn am_q2 ?_ | refine am_kn am_q3 ?_ | refine am_kn am_q4 ?_ | refine am_kn am_q6 ?_ | refine am_kn am_q9 ?_ | refine am_kn am_p1 ?_ | refine am_ky am_p0 ?_) | refine And.intro (fun h => absurd h (by decide)) (fun _ => ?_) | refine And.intro (fun _ => ?_) (fun h => absurd (by decide) h) | refine And.intro (fun _ => ?_) (fun _ => ?_) | refine And.intro ?_ ?_)
    | refine k _ _ ?_ ?_
    | exact sb_R_KR
    | exact sb_T_KR
    | exact sb_T_K
    | exact fun k j h => mo_l k j (mo_l k j h)
    | exact mo_l
    | ((with_reducible refine (?_ : am_Does _ 144 _ _ _)); refine m_bound _ _ _ (fun _ => ?_) (fun _ _ => ?_) (fun _ _ => ?_))
    | ((with_reducible refine (?_ : am_Does _ 140 _ _ _)); refine m_no _ (gm_rf (by repeat' first | assumption | exact gm_i (by assumption) | exact md_i (by assumption) | refine mi_up ?_ rfl | refine mi_100 ?_ ?_ ?_ | (simp only [am_c] at * <;> omega))) ?_ ?_ (fun _ _ _ _ => ?_))
    | exact gm_rf hS
    | refine gm_up ?_ rfl rfl
    | refine gm_up ?_ mo1_self rfl
    | refine gm_up ?_ mo1_in rfl
    | refine gm_100 ?_ rfl ?_ ?_
    | refine gm_14 ?_ rfl ?_ ?_
    | refine gm_15 ?_ rfl ?_ ?_
    | refine gm_16 ?_ rfl ?_ ?_
    | refine gm_21 ?_ rfl ?_ ?_
    | refine gm_33 ?_ rfl ?_ ?_
    | refine gm_40 ?_ rfl ?_ ?_
    | refine gm_42 ?_ rfl ?_ ?_
    | refine md_up ?_ rfl rfl
    | refine md_tr ?_ (by assumption) ?_
    | refine gm_tr ?_ (by assumption) ?_
    | refine gm_put ?_ ?_ rfl
    | refine mi_up ?_ rfl
    | exact gm_i (by assumption)
    | exact md_i (by assumption)
    | exact sb_id
    | exact sb_T_s
    | exact sb_T_Q
    | exact sb_T_M
    | exact sb_R_M
    | exact sb_L_M
    | exact mo_l
    | exact mo1_sub
    | exact mo1_one sb_T_s
    | exact mo1_one mo_l
    | exact mo1_one sb_T_Q
    | exact mo1_one (mo1_one sb_T_s)
    | exact mo1_one (mo1_one sb_id)
    | exact fun k j h => sb_T_Q k j (mo_l k j h)
    | exact fun k j h => mo_l k j (mo_l k j h)
    | exact fun k j h => sb_T_s k j (mo_l k j h)
    | refine And.intro (fun h => absurd h (by decide)) (fun _ => ?_)
    | refine And.intro (fun _ => ?_) (fun h => absurd (by decide) h)
    | refine And.intro (fun _ => ?_) (fun _ => ?_)
    | refine And.intro ?_ ?_
  all_goals (first | assumption | decide | omega | rfl | (have eq9 := (by assumption : gm ms _ _).2 83 15 rfl; simp [am_c, am_up] at * <;> omega) | (simp only [am_c] at * <;> omega) | (simp [am_c, am_up] at * <;> omega))
theorem m_habit {l : Launch} {ν : am_N} {Q : Option am_V → am_N → Prop} (a b : Int) (hS : mi ν) (ha0 : -2147483648 ≤ a) (ha1 : a ≤ 2147483647) (hb0 : -2147483648 ≤ b) (hb1 : b ≤ 2147483647)  (k : ∀ (r : Int) (μ' : am_N), gm (mo ms (mo (m1o 92 16) (m1o 93 16))) ν μ' → Q (some (.inl r)) μ') : am_Does l 233 [.inr (.inr 83), .inl a, .inl b] ν Q := by
  refine am_Does_of (Nat.le_of_ble_eq_true rfl) (Nat.le_of_ble_eq_true rfl) (Nat.le_of_ble_eq_true rfl) ?_
  have hb := mi_all hS
  refine am_go (ct := fun _ => false) am_oX7_habit 300 ?_
  conv => whnf
  repeat' first
    | (refine (?_ : am_wp _ _ _ _ _ _ _ _ _ _ _ _); conv => whnf)
    | (refine (?_ : am_sw _ _ _ _); conv => whnf)
    | refine And.intro trivial ?_
    | exact trivial
    | assumption
    | ((with_reducible refine (?_ : _ ∧ _)); first | (with_reducible first | refine am_jn am_q1 ?_ | refine am_jn am_q2 ?_ | refine am_jn am_q3 ?_ | refine am_jn am_q4 ?_ | refine am_jn am_q6 ?_ | refine am_jn am_q9 ?_ | refine am_jn am_p1 ?_ | refine am_jy am_p0 ?_ | refine am_kn am_q1 ?_ | refine am_kn am_q2 ?_ | refine am_kn am_q3 ?_ | refine am_kn am_q4 ?_ | refine am_kn am_q6 ?_ | refine am_kn am_q9 ?_ | refine am_kn am_p1 ?_ | refine am_ky am_p0 ?_) | refine And.intro (fun h => absurd h (by decide)) (fun _ => ?_) | refine And.intro (fun _ => ?_) (fun h => absurd (by decide) h) | refine And.intro (fun _ => ?_) (fun _ => ?_) | refine And.intro ?_ ?_)
    | refine k _ _ ?_
    | exact sb_R_KR
    | exact sb_T_KR
    | exact sb_T_K
    | exact fun k j h => mo_l k j (mo_l k j h)
    | exact mo_l
    | ((with_reducible refine (?_ : am_Does _ 143 _ _ _)); refine m_isIn _ _ _ (fun _ _ => ?_) (fun _ => ?_))
    | ((with_reducible refine (?_ : am_Does _ 144 _ _ _)); refine m_bound _ _ _ (fun _ => ?_) (fun _ _ => ?_) (fun _ _ => ?_))
    | ((with_reducible refine (?_ : am_Does _ 140 _ _ _)); refine m_no _ (gm_rf (by repeat' first | assumption | exact gm_i (by assumption) | exact md_i (by assumption) | refine mi_up ?_ rfl | refine mi_100 ?_ ?_ ?_ | (simp only [am_c] at * <;> omega))) ?_ ?_ (fun _ _ _ _ => ?_))
    | exact gm_rf hS
    | refine gm_up ?_ rfl rfl
    | refine gm_up ?_ mo1_self rfl
    | refine gm_up ?_ mo1_in rfl
    | refine gm_100 ?_ rfl ?_ ?_
    | refine gm_14 ?_ rfl ?_ ?_
    | refine gm_15 ?_ rfl ?_ ?_
    | refine gm_16 ?_ rfl ?_ ?_
    | refine gm_21 ?_ rfl ?_ ?_
    | refine gm_33 ?_ rfl ?_ ?_
    | refine gm_40 ?_ rfl ?_ ?_
    | refine gm_42 ?_ rfl ?_ ?_
    | refine md_up ?_ rfl rfl
    | refine md_tr ?_ (by assumption) ?_
    | refine gm_tr ?_ (by assumption) ?_
    | refine gm_put ?_ ?_ rfl
    | refine mi_up ?_ rfl
    | exact gm_i (by assumption)
    | exact md_i (by assumption)
    | exact sb_id
    | exact sb_T_s
    | exact sb_T_Q
    | exact sb_T_M
    | exact sb_R_M
    | exact sb_L_M
    | exact mo_l
    | exact mo1_sub
    | exact mo1_one sb_T_s
    | exact mo1_one mo_l
    | exact mo1_one sb_T_Q
    | exact mo1_one (mo1_one sb_T_s)
    | exact mo1_one (mo1_one sb_id)
    | exact fun k j h => sb_T_Q k j (mo_l k j h)
    | exact fun k j h => mo_l k j (mo_l k j h)
    | exact fun k j h => sb_T_s k j (mo_l k j h)
    | refine And.intro (fun h => absurd h (by decide)) (fun _ => ?_)
    | refine And.intro (fun _ => ?_) (fun h => absurd (by decide) h)
    | refine And.intro (fun _ => ?_) (fun _ => ?_)
    | refine And.intro ?_ ?_
  all_goals (first | assumption | decide | omega | rfl | (simp only [am_c] at * <;> omega) | (simp only [am_c, am_up] at * <;> omega) | (simp [am_c, am_up] at * <;> omega))
theorem m_clear {l : Launch} {ν : am_N} {Q : Option am_V → am_N → Prop}  (hS : mi ν)   (k : ∀ (r : Int) (μ' : am_N), gm (mo ms (m1o 83000 42)) ν μ' → r = ν 83 42 → μ' 83 42 = 0 → Q (some (.inl r)) μ') : am_Does l 248 [.inr (.inr 83)] ν Q := by
  refine am_Does_of (Nat.le_of_ble_eq_true rfl) (Nat.le_of_ble_eq_true rfl) (Nat.le_of_ble_eq_true rfl) ?_
  have hb := mi_all hS
  refine am_go (ct := fun _ => false) am_oX7_clear 300 ?_
  conv => whnf
  repeat' first
    | (refine (?_ : am_wp _ _ _ _ _ _ _ _ _ _ _ _); conv => whnf)
    | (refine (?_ : am_sw _ _ _ _); conv => whnf)
    | refine And.intro trivial ?_
    | exact trivial
    | assumption
    | ((with_reducible refine (?_ : _ ∧ _)); first | (with_reducible first | refine am_jn am_q1 ?_ | refine am_jn am_q2 ?_ | refine am_jn am_q3 ?_ | refine am_jn am_q4 ?_ | refine am_jn am_q6 ?_ | refine am_jn am_q9 ?_ | refine am_jn am_p1 ?_ | refine am_jy am_p0 ?_ | refine am_kn am_q1 ?_ | refine am_kn am_q2 ?_ | refine am_kn am_q3 ?_ | refine am_kn am_q4 ?_ | refine am_kn am_q6 ?_ | refine am_kn am_q9 ?_ | refine am_kn am_p1 ?_ | refine am_ky am_p0 ?_) | refine And.intro (fun h => absurd h (by decide)) (fun _ => ?_) | refine And.intro (fun _ => ?_) (fun h => absurd (by decide) h) | refine And.intro (fun _ => ?_) (fun _ => ?_) | refine And.intro ?_ ?_)
    | refine k _ _ ?_ ?_ ?_
    | exact sb_R_KR
    | exact sb_T_KR
    | exact sb_T_K
    | exact fun k j h => mo_l k j (mo_l k j h)
    | exact mo_l
    | exact gm_rf hS
    | refine gm_up ?_ rfl rfl
    | refine gm_up ?_ mo1_self rfl
    | refine gm_up ?_ mo1_in rfl
    | refine gm_100 ?_ rfl ?_ ?_
    | refine gm_14 ?_ rfl ?_ ?_
    | refine gm_15 ?_ rfl ?_ ?_
    | refine gm_16 ?_ rfl ?_ ?_
    | refine gm_21 ?_ rfl ?_ ?_
    | refine gm_33 ?_ rfl ?_ ?_
    | refine gm_40 ?_ rfl ?_ ?_
    | refine gm_42 ?_ rfl ?_ ?_
    | refine md_up ?_ rfl rfl
    | refine md_tr ?_ (by assumption) ?_
    | refine gm_tr ?_ (by assumption) ?_
    | refine gm_put ?_ ?_ rfl
    | refine mi_up ?_ rfl
    | exact gm_i (by assumption)
    | exact md_i (by assumption)
    | exact sb_id
    | exact sb_T_s
    | exact sb_T_Q
    | exact sb_T_M
    | exact sb_R_M
    | exact sb_L_M
    | exact mo_l
    | exact mo1_sub
    | exact mo1_one sb_T_s
    | exact mo1_one mo_l
    | exact mo1_one sb_T_Q
    | exact mo1_one (mo1_one sb_T_s)
    | exact mo1_one (mo1_one sb_id)
    | exact fun k j h => sb_T_Q k j (mo_l k j h)
    | exact fun k j h => mo_l k j (mo_l k j h)
    | exact fun k j h => sb_T_s k j (mo_l k j h)
    | refine And.intro (fun h => absurd h (by decide)) (fun _ => ?_)
    | refine And.intro (fun _ => ?_) (fun h => absurd (by decide) h)
    | refine And.intro (fun _ => ?_) (fun _ => ?_)
    | refine And.intro ?_ ?_
  all_goals (first | assumption | decide | omega | rfl | (simp only [am_c] at * <;> omega) | (simp only [am_c, am_up] at * <;> omega) | (simp [am_c, am_up] at * <;> omega))
theorem m_wipe {l : Launch} {ν : am_N} {Q : Option am_V → am_N → Prop}  (hS : mi ν)   (k : ∀ (r : Int) (μ' : am_N), gm (mo ms (m1o 83000 40)) ν μ' → r = ν 83 40 → μ' 83 40 = 0 → Q (some (.inl r)) μ') : am_Does l 241 [.inr (.inr 83)] ν Q := by
  refine am_Does_of (Nat.le_of_ble_eq_true rfl) (Nat.le_of_ble_eq_true rfl) (Nat.le_of_ble_eq_true rfl) ?_
  have hb := mi_all hS
  refine am_go (ct := fun _ => false) am_oX7_wipe 300 ?_
  conv => whnf
  repeat' first
    | (refine (?_ : am_wp _ _ _ _ _ _ _ _ _ _ _ _); conv => whnf)
    | (refine (?_ : am_sw _ _ _ _); conv => whnf)
    | refine And.intro trivial ?_
    | exact trivial
    | assumption
    | ((with_reducible refine (?_ : _ ∧ _)); first | (with_reducible first | refine am_jn am_q1 ?_ | refine am_jn am_q2 ?_ | refine am_jn am_q3 ?_ | refine am_jn am_q4 ?_ | refine am_jn am_q6 ?_ | refine am_jn am_q9 ?_ | refine am_jn am_p1 ?_ | refine am_jy am_p0 ?_ | refine am_kn am_q1 ?_ | refine am_kn am_q2 ?_ | refine am_kn am_q3 ?_ | refine am_kn am_q4 ?_ | refine am_kn am_q6 ?_ | refine am_kn am_q9 ?_ | refine am_kn am_p1 ?_ | refine am_ky am_p0 ?_) | refine And.intro (fun h => absurd h (by decide)) (fun _ => ?_) | refine And.intro (fun _ => ?_) (fun h => absurd (by decide) h) | refine And.intro (fun _ => ?_) (fun _ => ?_) | refine And.intro ?_ ?_)
    | refine k _ _ ?_ ?_ ?_
    | exact sb_R_KR
    | exact sb_T_KR
    | exact sb_T_K
    | exact fun k j h => mo_l k j (mo_l k j h)
    | exact mo_l
    | exact gm_rf hS
    | refine gm_up ?_ rfl rfl
    | refine gm_up ?_ mo1_self rfl
    | refine gm_up ?_ mo1_in rfl
    | refine gm_100 ?_ rfl ?_ ?_
    | refine gm_14 ?_ rfl ?_ ?_
    | refine gm_15 ?_ rfl ?_ ?_
    | refine gm_16 ?_ rfl ?_ ?_
    | refine gm_21 ?_ rfl ?_ ?_
    | refine gm_33 ?_ rfl ?_ ?_
    | refine gm_40 ?_ rfl ?_ ?_
    | refine gm_42 ?_ rfl ?_ ?_
    | refine md_up ?_ rfl rfl
    | refine md_tr ?_ (by assumption) ?_
    | refine gm_tr ?_ (by assumption) ?_
    | refine gm_put ?_ ?_ rfl
    | refine mi_up ?_ rfl
    | exact gm_i (by assumption)
    | exact md_i (by assumption)
    | exact sb_id
    | exact sb_T_s
    | exact sb_T_Q
    | exact sb_T_M
    | exact sb_R_M
    | exact sb_L_M
    | exact mo_l
    | exact mo1_sub
    | exact mo1_one sb_T_s
    | exact mo1_one mo_l
    | exact mo1_one sb_T_Q
    | exact mo1_one (mo1_one sb_T_s)
    | exact mo1_one (mo1_one sb_id)
    | exact fun k j h => sb_T_Q k j (mo_l k j h)
    | exact fun k j h => mo_l k j (mo_l k j h)
    | exact fun k j h => sb_T_s k j (mo_l k j h)
    | refine And.intro (fun h => absurd h (by decide)) (fun _ => ?_)
    | refine And.intro (fun _ => ?_) (fun h => absurd (by decide) h)
    | refine And.intro (fun _ => ?_) (fun _ => ?_)
    | refine And.intro ?_ ?_
  all_goals (first | assumption | decide | omega | rfl | (simp only [am_c] at * <;> omega) | (simp only [am_c, am_up] at * <;> omega) | (simp [am_c, am_up] at * <;> omega))
theorem m_empty {l : Launch} {ν : am_N} {Q : Option am_V → am_N → Prop}  (hS : mi ν)   (k : ∀ (r : Int) (μ' : am_N), gm (mo ms (m1o 83000 15)) ν μ' → r = ν 83 15 → μ' 83 15 = 0 → Q (some (.inl r)) μ') : am_Does l 214 [.inr (.inr 83)] ν Q := by
  refine am_Does_of (Nat.le_of_ble_eq_true rfl) (Nat.le_of_ble_eq_true rfl) (Nat.le_of_ble_eq_true rfl) ?_
  have hb := mi_all hS
  refine am_go (ct := fun _ => false) am_oX7_empty 300 ?_
  conv => whnf
  repeat' first
    | (refine (?_ : am_wp _ _ _ _ _ _ _ _ _ _ _ _); conv => whnf)
    | (refine (?_ : am_sw _ _ _ _); conv => whnf)
    | refine And.intro trivial ?_
    | exact trivial
    | assumption
    | ((with_reducible refine (?_ : _ ∧ _)); first | (with_reducible first | refine am_jn am_q1 ?_ | refine am_jn am_q2 ?_ | refine am_jn am_q3 ?_ | refine am_jn am_q4 ?_ | refine am_jn am_q6 ?_ | refine am_jn am_q9 ?_ | refine am_jn am_p1 ?_ | refine am_jy am_p0 ?_ | refine am_kn am_q1 ?_ | refine am_kn am_q2 ?_ | refine am_kn am_q3 ?_ | refine am_kn am_q4 ?_ | refine am_kn am_q6 ?_ | refine am_kn am_q9 ?_ | refine am_kn am_p1 ?_ | refine am_ky am_p0 ?_) | refine And.intro (fun h => absurd h (by decide)) (fun _ => ?_) | refine And.intro (fun _ => ?_) (fun h => absurd (by decide) h) | refine And.intro (fun _ => ?_) (fun _ => ?_) | refine And.intro ?_ ?_)
    | refine k _ _ ?_ ?_ ?_
    | exact sb_R_KR
    | exact sb_T_KR
    | exact sb_T_K
    | exact fun k j h => mo_l k j (mo_l k j h)
    | exact mo_l
    | exact gm_rf hS
    | refine gm_up ?_ rfl rfl
    | refine gm_up ?_ mo1_self rfl
    | refine gm_up ?_ mo1_in rfl
    | refine gm_100 ?_ rfl ?_ ?_
    | refine gm_14 ?_ rfl ?_ ?_
    | refine gm_15 ?_ rfl ?_ ?_
    | refine gm_16 ?_ rfl ?_ ?_
    | refine gm_21 ?_ rfl ?_ ?_
    | refine gm_33 ?_ rfl ?_ ?_
    | refine gm_40 ?_ rfl ?_ ?_
    | refine gm_42 ?_ rfl ?_ ?_
    | refine md_up ?_ rfl rfl
    | refine md_tr ?_ (by assumption) ?_
    | refine gm_tr ?_ (by assumption) ?_
    | refine gm_put ?_ ?_ rfl
    | refine mi_up ?_ rfl
    | exact gm_i (by assumption)
    | exact md_i (by assumption)
    | exact sb_id
    | exact sb_T_s
    | exact sb_T_Q
    | exact sb_T_M
    | exact sb_R_M
    | exact sb_L_M
    | exact mo_l
    | exact mo1_sub
    | exact mo1_one sb_T_s
    | exact mo1_one mo_l
    | exact mo1_one sb_T_Q
    | exact mo1_one (mo1_one sb_T_s)
    | exact mo1_one (mo1_one sb_id)
    | exact fun k j h => sb_T_Q k j (mo_l k j h)
    | exact fun k j h => mo_l k j (mo_l k j h)
    | exact fun k j h => sb_T_s k j (mo_l k j h)
    | refine And.intro (fun h => absurd h (by decide)) (fun _ => ?_)
    | refine And.intro (fun _ => ?_) (fun h => absurd (by decide) h)
    | refine And.intro (fun _ => ?_) (fun _ => ?_)
    | refine And.intro ?_ ?_
  all_goals (first | assumption | decide | omega | rfl | (simp only [am_c] at * <;> omega) | (simp only [am_c, am_up] at * <;> omega) | (simp [am_c, am_up] at * <;> omega))
theorem m_forget {l : Launch} {ν : am_N} {Q : Option am_V → am_N → Prop}  (hS : mi ν)   (k : ∀ (r : Int) (μ' : am_N), gm (mo ms (m1o 83000 16)) ν μ' → r = ν 83 16 → μ' 83 16 = 0 → Q (some (.inl r)) μ') : am_Does l 234 [.inr (.inr 83)] ν Q := by
  refine am_Does_of (Nat.le_of_ble_eq_true rfl) (Nat.le_of_ble_eq_true rfl) (Nat.le_of_ble_eq_true rfl) ?_
  have hb := mi_all hS
  refine am_go (ct := fun _ => false) am_oX7_forget 300 ?_
  conv => whnf
  repeat' first
    | (refine (?_ : am_wp _ _ _ _ _ _ _ _ _ _ _ _); conv => whnf)
    | (refine (?_ : am_sw _ _ _ _); conv => whnf)
    | refine And.intro trivial ?_
    | exact trivial
    | assumption
    | ((with_reducible refine (?_ : _ ∧ _)); first | (with_reducible first | refine am_jn am_q1 ?_ | refine am_jn am_q2 ?_ | refine am_jn am_q3 ?_ | refine am_jn am_q4 ?_ | refine am_jn am_q6 ?_ | refine am_jn am_q9 ?_ | refine am_jn am_p1 ?_ | refine am_jy am_p0 ?_ | refine am_kn am_q1 ?_ | refine am_kn am_q2 ?_ | refine am_kn am_q3 ?_ | refine am_kn am_q4 ?_ | refine am_kn am_q6 ?_ | refine am_kn am_q9 ?_ | refine am_kn am_p1 ?_ | refine am_ky am_p0 ?_) | refine And.intro (fun h => absurd h (by decide)) (fun _ => ?_) | refine And.intro (fun _ => ?_) (fun h => absurd (by decide) h) | refine And.intro (fun _ => ?_) (fun _ => ?_) | refine And.intro ?_ ?_)
    | refine k _ _ ?_ ?_ ?_
    | exact sb_R_KR
    | exact sb_T_KR
    | exact sb_T_K
    | exact fun k j h => mo_l k j (mo_l k j h)
    | exact mo_l
    | exact gm_rf hS
    | refine gm_up ?_ rfl rfl
    | refine gm_up ?_ mo1_self rfl
    | refine gm_up ?_ mo1_in rfl
    | refine gm_100 ?_ rfl ?_ ?_
    | refine gm_14 ?_ rfl ?_ ?_
    | refine gm_15 ?_ rfl ?_ ?_
    | refine gm_16 ?_ rfl ?_ ?_
    | refine gm_21 ?_ rfl ?_ ?_
    | refine gm_33 ?_ rfl ?_ ?_
    | refine gm_40 ?_ rfl ?_ ?_
    | refine gm_42 ?_ rfl ?_ ?_
    | refine md_up ?_ rfl rfl
    | refine md_tr ?_ (by assumption) ?_
    | refine gm_tr ?_ (by assumption) ?_
    | refine gm_put ?_ ?_ rfl
    | refine mi_up ?_ rfl
    | exact gm_i (by assumption)
    | exact md_i (by assumption)
    | exact sb_id
    | exact sb_T_s
    | exact sb_T_Q
    | exact sb_T_M
    | exact sb_R_M
    | exact sb_L_M
    | exact mo_l
    | exact mo1_sub
    | exact mo1_one sb_T_s
    | exact mo1_one mo_l
    | exact mo1_one sb_T_Q
    | exact mo1_one (mo1_one sb_T_s)
    | exact mo1_one (mo1_one sb_id)
    | exact fun k j h => sb_T_Q k j (mo_l k j h)
    | exact fun k j h => mo_l k j (mo_l k j h)
    | exact fun k j h => sb_T_s k j (mo_l k j h)
    | refine And.intro (fun h => absurd h (by decide)) (fun _ => ?_)
    | refine And.intro (fun _ => ?_) (fun h => absurd (by decide) h)
    | refine And.intro (fun _ => ?_) (fun _ => ?_)
    | refine And.intro ?_ ?_
  all_goals (first | assumption | decide | omega | rfl | (simp only [am_c] at * <;> omega) | (simp only [am_c, am_up] at * <;> omega) | (simp [am_c, am_up] at * <;> omega))
theorem m_judge {l : Launch} {ν : am_N} {Q : Option am_V → am_N → Prop}  (hS : mi ν)   (k : ∀ (r : Int) (μ' : am_N), gm (mo mQ (m1o 83000 42)) ν μ' → μ' 83 42 = 0 → Q (some (.inl r)) μ') : am_Does l 247 [.inr (.inr 83)] ν Q := by
  refine am_Does_of (Nat.le_of_ble_eq_true rfl) (Nat.le_of_ble_eq_true rfl) (Nat.le_of_ble_eq_true rfl) ?_
  have hb := mi_all hS
  refine am_go (ct := fun _ => false) am_oX7_judge 300 ?_
  conv => whnf
  repeat' first
    | (refine (?_ : am_wp _ _ _ _ _ _ _ _ _ _ _ _); conv => whnf)
    | (refine (?_ : am_sw _ _ _ _); conv => whnf)
    | refine And.intro trivial ?_
    | exact trivial
    | assumption
    | ((with_reducible refine (?_ : _ ∧ _)); first | (with_reducible first | refine am_jn am_q1 ?_ | refine am_jn am_q2 ?_ | refine am_jn am_q3 ?_ | refine am_jn am_q4 ?_ | refine am_jn am_q6 ?_ | refine am_jn am_q9 ?_ | refine am_jn am_p1 ?_ | refine am_jy am_p0 ?_ | refine am_kn am_q1 ?_ | refine am_kn am_q2 ?_ | refine am_kn am_q3 ?_ | refine am_kn am_q4 ?_ | refine am_kn am_q6 ?_ | refine am_kn am_q9 ?_ | refine am_kn am_p1 ?_ | refine am_ky am_p0 ?_) | refine And.intro (fun h => absurd h (by decide)) (fun _ => ?_) | refine And.intro (fun _ => ?_) (fun h => absurd (by decide) h) | refine And.intro (fun _ => ?_) (fun _ => ?_) | refine And.intro ?_ ?_)
    | refine k _ _ ?_ ?_
    | exact fun k j h => mo_l k j h
    | exact sb_R_KR
    | exact sb_T_KR
    | exact sb_T_K
    | exact fun k j h => mo_l k j (mo_l k j h)
    | exact mo_l
    | ((with_reducible refine (?_ : am_Does _ 245 _ _ _)); refine m_wrongAt  (by repeat' first | assumption | exact gm_i (by assumption) | exact md_i (by assumption) | refine mi_up ?_ rfl | refine mi_100 ?_ ?_ ?_ | (simp only [am_c] at * <;> omega))  (fun _ _ _ _ => ?_))
    | exact gm_rf hS
    | refine gm_up ?_ rfl rfl
    | refine gm_up ?_ mo1_self rfl
    | refine gm_up ?_ mo1_in rfl
    | refine gm_100 ?_ rfl ?_ ?_
    | refine gm_14 ?_ rfl ?_ ?_
    | refine gm_15 ?_ rfl ?_ ?_
    | refine gm_16 ?_ rfl ?_ ?_
    | refine gm_21 ?_ rfl ?_ ?_
    | refine gm_33 ?_ rfl ?_ ?_
    | refine gm_40 ?_ rfl ?_ ?_
    | refine gm_42 ?_ rfl ?_ ?_
    | refine md_up ?_ rfl rfl
    | refine md_tr ?_ (by assumption) ?_
    | refine gm_tr ?_ (by assumption) ?_
    | refine gm_put ?_ ?_ rfl
    | refine mi_up ?_ rfl
    | exact gm_i (by assumption)
    | exact md_i (by assumption)
    | exact sb_id
    | exact sb_T_s
    | exact sb_T_Q
    | exact sb_T_M
    | exact sb_R_M
    | exact sb_L_M
    | exact mo_l
    | exact mo1_sub
    | exact mo1_one sb_T_s
    | exact mo1_one mo_l
    | exact mo1_one sb_T_Q
    | exact mo1_one (mo1_one sb_T_s)
    | exact mo1_one (mo1_one sb_id)
    | exact fun k j h => sb_T_Q k j (mo_l k j h)
    | exact fun k j h => mo_l k j (mo_l k j h)
    | exact fun k j h => sb_T_s k j (mo_l k j h)
    | refine And.intro (fun h => absurd h (by decide)) (fun _ => ?_)
    | refine And.intro (fun _ => ?_) (fun h => absurd (by decide) h)
    | refine And.intro (fun _ => ?_) (fun _ => ?_)
    | refine And.intro ?_ ?_
  all_goals (first | assumption | decide | omega | rfl | (simp only [am_c] at * <;> omega) | (simp only [am_c, am_up] at * <;> omega) | (simp [am_c, am_up] at * <;> omega))
