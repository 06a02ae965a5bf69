/-! told rows, told times as functions -/
def fp_rt (n : Int) (f : Nat → Int) : Nat → Int := fun b => if (b : Int) < n then f b else 0
theorem fp_rt_i {n : Int} {f : Nat → Int} {b : Nat} (h : (b : Int) < n) : fp_rt n f b = f b := if_pos h
theorem fp_rt_e {n m : Int} {f g : Nat → Int} (hn : n = m) (h : ∀ b : Nat, (b : Int) < m → f b = g b) : fp_rt n f = fp_rt m g := funext fun b => by
  unfold fp_rt
  rw [hn]
  by_cases d : (b : Int) < m
  · rw [if_pos d, if_pos d]; exact h b d
  · rw [if_neg d, if_neg d]
theorem rq_w_tr {j c r : Nat} {lo hi : Int} {μ : am_N} (h : rq_w j c r lo hi μ) : fp_rt (μ r 1) (μ (r + 1)) = fp_rt (μ 83 j) (μ c) := fp_rt_e h.1 (fun b hb => (h.2 b hb).1)
theorem rq_w_hC {j c r : Nat} {lo hi : Int} {μ : am_N} (h : rq_w j c r lo hi μ) : ∀ b : Nat, (b : Int) < μ r 1 → lo ≤ μ (r + 1) b ∧ μ (r + 1) b ≤ hi := fun b hb => by
  have z := h.2 b (by rw [← h.1]; exact hb)
  rw [z.1]
  exact z.2
theorem rq_w_hM {j c r : Nat} {lo hi : Int} {μ : am_N} (h : rq_w j c r lo hi μ) : ∀ b : Nat, (b : Int) < μ 83 j → lo ≤ μ c b ∧ μ c b ≤ hi := fun b hb => (h.2 b hb).2
theorem gv_83 {E : List Nat} {μ μ' : am_N} (hE : lx_E E) (h : gv E μ μ') : ∀ k j, 83 ≤ k → μ' k j = μ k j := fun k j hk => h.2 k j (by rw [sx_p83 hk, hE k hk]; rfl)
theorem x_at_44 {l : Launch} {ν : am_N} {Q : Option am_V → am_N → Prop} (i : Int) (i0 : 0 ≤ i) (i1 : i < ν 44 1) (n1 : ν 44 1 ≤ 12) (k : Q (some (.inl (ν 45 i.toNat))) ν) : am_Does l 43 [.inr (.inr 44), .inl i] ν Q := by
  refine am_Does_of (Nat.le_of_ble_eq_true rfl) (Nat.le_of_ble_eq_true rfl) (Nat.le_of_ble_eq_true rfl) ?_
  have l0 : am_c 0 = 0 := rfl
  have l1 : am_c 1 = 1 := rfl
  have l9 : am_c 9 = 9 := rfl
  have l10 : am_c 10 = 10 := rfl
  have l12 : am_c 12 = 12 := rfl
  have l60 : am_c 60 = 60 := rfl
  have l99 : am_c 99 = 99 := rfl
  have ci : am_c i = i := am_cR (by omega) (by omega)
  have cn : am_c (ν 44 1) = ν 44 1 := am_cR (by omega) (by omega)
  have ei : (am_c i).toNat = i.toNat := by rw [ci]
  refine am_go (ct := fun _ => false) am_oX3_at 300 ?_
  conv => whnf
  repeat' first
    | (refine (?_ : am_wp _ _ _ _ _ _ _ _ _ _ _ _); conv => whnf)
    | (refine (?_ : am_sw _ _ _ _); conv => whnf)
    | refine And.intro trivial ?_
    | exact trivial
    | refine am_qe k ?_
    | ((with_reducible refine (?_ : _ ∧ _)); refine And.intro (fun z => absurd z (by rw [ci]; omega)) (fun _ => ?_))
    | ((with_reducible refine (?_ : _ ∧ _)); refine And.intro (fun z => absurd z (by rw [ci, cn]; omega)) (fun _ => ?_))
    | refine And.intro (fun h => absurd h (by decide)) (fun _ => ?_)
    | refine And.intro (fun _ => ?_) (fun h => absurd (by decide) h)
    | refine And.intro (fun _ => ?_) (fun _ => ?_)
    | refine And.intro ?_ ?_
  all_goals (first | decide | omega | (rw [ci]; omega) | (rw [ei]) | (trace_state; fail))
