theorem m_pol {l : Launch} {μ : am_N} {Q : Option am_V → am_N → Prop} (c : Nat) (v : Int) (hc : c < 120) (h6 : μ 83 26 = 0) (h7 : μ 83 27 = (c : Int)) (k : Q (some (.inl (μ 98 c))) (am_up μ 83 27 ((c : Int) + 1))) : am_Does l 158 [.inr (.inr 83), .inl v] μ Q := by
  refine am_Does_of (Nat.le_of_ble_eq_true rfl) (Nat.le_of_ble_eq_true rfl) (Nat.le_of_ble_eq_true rfl) ?_
  have e6 : μ 83 26 = 0 := h6
  have ec : (am_c (c : Int)).toNat = c := by rw [am_cR (by omega) (by omega)]; omega
  have ez : ∀ (x : Nat) (v : Int), am_up μ 98 x v 83 27 = (c : Int) := fun x v => (am_upN (by decide)).trans h7
  refine am_go (ct := fun _ => false) am_oX7_passOne 300 ?_
  conv => whnf
  repeat' first
    | (refine (?_ : am_wp _ _ _ _ _ _ _ _ _ _ _ _); conv => whnf)
    | (refine (?_ : am_sw _ _ _ _); conv => whnf)
    | refine And.intro trivial ?_
    | exact trivial
    | refine And.intro (fun _ => ?_) (fun h => absurd (by rw [e6]; decide) h)
    | exact kq_f k (by rw [h7, ec]) (by rw [h7])
    | refine And.intro (fun h => absurd h (by decide)) (fun _ => ?_)
    | refine And.intro (fun _ => ?_) (fun h => absurd (by decide) h)
    | refine And.intro (fun _ => ?_) (fun _ => ?_)
    | refine And.intro ?_ ?_
  all_goals (first | decide | omega | (rw [h7, am_cR (by omega) (by omega)]; omega) | (trace_state; fail))
