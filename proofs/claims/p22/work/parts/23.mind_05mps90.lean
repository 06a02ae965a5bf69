theorem m_ps_90 {l : Launch} {ν : am_N} {Q : Option am_V → am_N → Prop} (c : Nat) (hc : c + 4 ≤ 120) (h6 : ν 83 26 = 1) (h7 : ν 83 27 = (c : Int)) (k : Q none (kq_s 90 4 c ν)) : am_Does l 157 [.inr (.inr 83), .inr (.inr 90)] ν Q := by
  refine am_Does_of (Nat.le_of_ble_eq_true rfl) (Nat.le_of_ble_eq_true rfl) (Nat.le_of_ble_eq_true rfl) ?_
  have lp2 : ∀ (m : Nat) (i : Int) (μ : am_N) , 0 ≤ i → i ≤ 4 → (∀ p q, μ p q = kq_s 90 i.toNat c ν p q) → 4 - i < (m : Int) → am_AW l 0 (fun _ => 0) 157 Q 2 [some (.inr (.inr 83)), some (.inr (.inr 90)), some (.inl i)] [] μ := by
    intro m
    induction m with
    | zero =>
      intro i μ hv0 hv1 hv2 hm
      exfalso
      omega
    | succ m ih =>
      intro i μ hv0 hv1 hv2 hm
      have e6 : μ 83 26 = 1 := (hv2 83 26).trans h6
      have e7 : μ 83 27 = ((c + i.toNat : Nat) : Int) := (hv2 83 27).trans rfl
      have ei : (am_c i).toNat = i.toNat := by rw [am_cR (by omega) (by omega)]
      have ec : (am_c ((c + i.toNat : Nat) : Int)).toNat = c + i.toNat := by rw [am_cR (by omega) (by omega)]; omega
      have ez : ∀ (x : Nat) (v : Int), am_up μ 98 x v 83 27 = ((c + i.toNat : Nat) : Int) := fun x v => (am_upN (by decide)).trans e7
      have ea : μ 90 i.toNat = ν 90 i.toNat := (hv2 90 i.toNat).trans rfl
      refine am_go (ct := fun pc => Nat.beq pc 2) am_oX7_passes 300 ?_
      conv => whnf
      repeat' first
        | (refine (?_ : am_wp _ _ _ _ _ _ _ _ _ _ _ _); conv => whnf)
        | (refine (?_ : am_sw _ _ _ _); conv => whnf)
        | refine And.intro trivial ?_
        | exact trivial
        | refine And.intro (fun h => absurd h (by rw [e6]; decide)) (fun _ => ?_)
        | refine kq_end k (kq_n (F := fun n => kq_s 90 n c ν) hv2 ?_)
        | refine kq_s1 (by decide) (by omega) hv2 (by rw [e7, ec]) (by rw [ei, ea]) (by rw [ez])
        | ((with_reducible refine (?_ : am_AW _ _ _ _ _ 2 _ _ _)); refine ih _ _ ?_ ?_ ?_ ?_)
        | refine And.intro (fun h => absurd h (by decide)) (fun _ => ?_)
        | refine And.intro (fun _ => ?_) (fun h => absurd (by decide) h)
        | refine And.intro (fun _ => ?_) (fun _ => ?_)
        | refine And.intro ?_ ?_
      all_goals (first | (skip; fail) | decide | omega | rfl | (simp only [am_c] at * <;> omega) | (simp only [e7, am_c] at * <;> omega) | (trace_state; fail))
  have lp2' : ∀ (i : Int) (μ : am_N) , 0 ≤ i → i ≤ 4 → (∀ p q, μ p q = kq_s 90 i.toNat c ν p q) → am_AW l 0 (fun _ => 0) 157 Q 2 [some (.inr (.inr 83)), some (.inr (.inr 90)), some (.inl i)] [] μ := fun i μ hv0 hv1 hv2 => lp2 ((4 - i) + 1).toNat i μ hv0 hv1 hv2 (by omega)
  refine am_go (ct := fun pc => Nat.beq pc 2) am_oX7_passes 300 ?_
  conv => whnf
  repeat' first
    | (refine (?_ : am_wp _ _ _ _ _ _ _ _ _ _ _ _); conv => whnf)
    | (refine (?_ : am_sw _ _ _ _); conv => whnf)
    | refine And.intro trivial ?_
    | exact trivial
    | ((with_reducible refine (?_ : _ ∧ _)); first | (with_reducible first | refine am_jn am_q1 ?_ | refine am_jn am_q2 ?_ | refine am_jn am_q3 ?_ | refine am_jn am_q4 ?_ | refine am_jn am_q6 ?_ | refine am_jn am_q9 ?_ | refine am_jn am_p1 ?_ | refine am_jy am_p0 ?_ | refine am_kn am_q1 ?_ | refine am_kn am_q2 ?_ | refine am_kn am_q3 ?_ | refine am_kn am_q4 ?_ | refine am_kn am_q6 ?_ | refine am_kn am_q9 ?_ | refine am_kn am_p1 ?_ | refine am_ky am_p0 ?_) | refine And.intro (fun h => absurd h (by decide)) (fun _ => ?_) | refine And.intro (fun _ => ?_) (fun h => absurd (by decide) h) | refine And.intro (fun _ => ?_) (fun _ => ?_) | refine And.intro ?_ ?_)
    | ((with_reducible refine (?_ : am_AW _ _ _ _ _ 2 _ _ _)); refine lp2' _ _ ?_ ?_ ?_)
    | refine And.intro (fun h => absurd h (by decide)) (fun _ => ?_)
    | refine And.intro (fun _ => ?_) (fun h => absurd (by decide) h)
    | refine And.intro (fun _ => ?_) (fun _ => ?_)
    | refine And.intro ?_ ?_
  all_goals (first | exact kq_s0 rfl h7 (fun _ _ => rfl) | decide | omega | rfl)
