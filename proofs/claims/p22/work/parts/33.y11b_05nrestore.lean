theorem n_restore {l : Launch} {ν : am_N} {Q : Option am_V → am_N → Prop} (c25 : am_c (ν 83 25) = ν 83 25) (k1 : ν 83 25 ≠ 0 → ∀ μ' : am_N, (∀ a b, kp_at a b = none → ¬(a = 83 ∧ (b = 26 ∨ b = 27 ∨ b = 33)) → μ' a b = ν a b) → (∀ a b o, kp_at a b = some o → μ' a b = ν 98 o) → μ' 83 33 = 0 → Q (some (.inl (ν 98 41))) μ') (k0 : ν 83 25 = 0 → ∀ μ' : am_N, (∀ a b, a ≠ 84 → μ' a b = ν a b) → Q (some (.inl (-3))) μ') : am_Does l 161 [.inr (.inr 83)] ν Q := by
  refine am_Does_of (Nat.le_of_ble_eq_true rfl) (Nat.le_of_ble_eq_true rfl) (Nat.le_of_ble_eq_true rfl) ?_
  refine am_go (ct := fun _ => false) am_oX7_restore 300 ?_
  conv => whnf
  repeat' first
    | (refine (?_ : am_wp _ _ _ _ _ _ _ _ _ _ _ _); conv => whnf)
    | (refine (?_ : am_sw _ _ _ _); conv => whnf)
    | refine And.intro trivial ?_
    | exact trivial
    | ((with_reducible refine (?_ : am_Does _ 140 _ _ _)); refine x_no _ ?_ (fun μr fr => ?_))
    | refine k0 ?_ _ fr
    | ((with_reducible refine (?_ : am_Does _ 159 _ _ _)); refine m_come0 (fun μ1 u _ _ _ => ?_))
    | (refine am_qe (k1 ?_ _ ?_ ?_ ?_) ?_)
    | refine And.intro (fun h => absurd h (by decide)) (fun _ => ?_)
    | refine And.intro (fun _ => ?_) (fun h => absurd (by decide) h)
    | refine And.intro (fun _ => ?_) (fun _ => ?_)
    | refine And.intro ?_ ?_
  all_goals (first | decide | (rw [c25] at *; assumption) | (intro z; rw [c25] at *; contradiction) | (simp only [c25] at *; omega) | (intro a b q1 q2; rw [am_uE (by omega)]; exact u.2 a b q1 (by omega)) | (intro a b o ho; have z := u.1 a b o ho; rw [Nat.zero_add] at z; rw [← z]; refine am_uE (fun y => ?_); rw [y.1, y.2] at ho; cases ho) | exact if_pos ⟨rfl, rfl⟩ | (rw [am_upM (by decide)]; have z := u.1 83 11 41 rfl; rw [Nat.zero_add] at z; exact z) | (trace_state; fail))
