theorem n_image {l : Launch} {ν : am_N} {Q : Option am_V → am_N → Prop} (k : ∀ μ' : am_N, (∀ a b, ¬(a = 98 ∧ b < 45) → ¬(a = 83 ∧ (b = 25 ∨ b = 26 ∨ b = 27)) → μ' a b = ν a b) → μ' 83 25 = 1 → (∀ a b o, kp_at a b = some o → μ' 98 o = ν a b) → Q (some (.inl (ν 83 11))) μ') : am_Does l 160 [.inr (.inr 83)] ν Q := by
  refine am_Does_of (Nat.le_of_ble_eq_true rfl) (Nat.le_of_ble_eq_true rfl) (Nat.le_of_ble_eq_true rfl) ?_
  refine am_go (ct := fun _ => false) am_oX7_image 300 ?_
  conv => whnf
  repeat' first
    | (refine (?_ : am_wp _ _ _ _ _ _ _ _ _ _ _ _); conv => whnf)
    | (refine (?_ : am_sw _ _ _ _); conv => whnf)
    | refine And.intro trivial ?_
    | exact trivial
    | ((with_reducible refine (?_ : am_Does _ 159 _ _ _)); refine m_keep0 (fun μ1 u _ _ _ => ?_))
    | (refine am_qe (k _ ?_ ?_ ?_) ?_)
    | refine And.intro (fun h => absurd h (by decide)) (fun _ => ?_)
    | refine And.intro (fun _ => ?_) (fun h => absurd (by decide) h)
    | refine And.intro (fun _ => ?_) (fun _ => ?_)
    | refine And.intro ?_ ?_
  all_goals (first | decide | (intro a b q1 q2; rw [u.2 a b (by omega) (by omega)]; exact am_uE (by omega)) | (rw [u.2 83 25 (by omega) (by omega)]; exact if_pos ⟨rfl, rfl⟩) | (intro a b o ho; have z := u.1 a b o ho; rw [Nat.zero_add] at z; rw [z]; refine am_uE (fun y => ?_); rw [y.1, y.2] at ho; cases ho) | (rw [u.2 83 11 (by omega) (by omega)]; exact am_upM (by decide)) | (trace_state; fail))
