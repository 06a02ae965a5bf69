theorem w_refuse_X6 {l : Launch} {μ : am_N} {Q : Option am_V → am_N → Prop} {ν : am_N} (w : Int) (hS : sx ν μ) (h0 : -6 ≤ w) (h1 : w ≤ -1) (k : ∀ μ', sx ν μ' → (μ' 36 1 = μ 36 1 ∧ μ' 44 1 = μ 44 1 ∧ μ' 46 1 = μ 46 1 ∧ μ' 48 1 = μ 48 1) → Q (some (.inl w)) μ') : am_Does l 113 [.inr (.inr 0), .inl w] μ Q := by
  refine am_Does_of (Nat.le_of_ble_eq_true rfl) (Nat.le_of_ble_eq_true rfl) (Nat.le_of_ble_eq_true rfl) ?_
  have hb := sx_all hS
  refine am_go (ct := fun _ => false) am_oX6_refuse 300 ?_
  conv => whnf
  repeat' first
    | (refine (?_ : am_wp _ _ _ _ _ _ _ _ _ _ _ _); conv => whnf)
    | (refine (?_ : am_sw _ _ _ _); conv => whnf)
    | refine And.intro trivial ?_
    | exact trivial
    | assumption
    | refine k _ ?_ ?_
    | exact ⟨rfl, rfl, rfl, rfl⟩
    | refine sx_up ?_ rfl
    | refine And.intro (fun h => absurd h (by decide)) (fun _ => ?_)
    | refine And.intro (fun _ => ?_) (fun h => absurd (by decide) h)
    | refine And.intro (fun _ => ?_) (fun _ => ?_)
    | refine And.intro ?_ ?_
  all_goals (first | assumption | decide | omega | (intros; omega) | (intros; simp only [am_c] at * <;> omega) | (simp only [am_c, am_up] at * <;> omega) | (simp [am_c, am_up] at * <;> omega))
