theorem s_lane {l : Launch} {ν : am_N} {Q : Option am_V → am_N → Prop} (hS : sx ν ν) (hw : fp_fw 999 (fv ν 1)) (hL : ∀ i : Nat, (i : Int) < ν 36 1 → 0 ≤ ν 37 i ∧ ν 37 i ≤ 255) (k : ∀ (r : Int) (μ' : am_N), fp_LN (ν 37) (ν 36 1) (fv ν 1) r (fv μ' 1) → (∀ a b, ¬(1 ≤ a ∧ a ≤ 14) → ¬(38 ≤ a ∧ a ≤ 43) → ¬(a = 36 ∧ b = 1) → ¬(a = 62 ∧ b = 3) → μ' a b = ν a b) → sx_3 μ' 43 → (0 ≤ μ' 38 0 ∧ μ' 38 0 ≤ 4) → (0 ≤ μ' 8 4 ∧ μ' 8 4 ≤ 4) → (0 ≤ μ' 1 4 ∧ μ' 1 4 ≤ 4) → μ' 36 1 = 0 → (μ' 62 3 = if 0 < r then 0 else ν 62 3) → fp_fw 999 (fv μ' 1) → Q (some (.inl r)) μ') : am_Does l 62 [.inr (.inr 0)] ν Q := by
  refine am_Does_of (Nat.le_of_ble_eq_true rfl) (Nat.le_of_ble_eq_true rfl) (Nat.le_of_ble_eq_true rfl) ?_
  have l0 : am_c 0 = 0 := rfl
  have hb := sx_all hS
  have h43 := hS.2.2.1
  have n0 : 0 ≤ ν 36 1 := by omega
  have n1 : ν 36 1 ≤ 96 := by omega
  have h38 : 0 ≤ ν 38 0 ∧ ν 38 0 ≤ 4 := by omega
  clear hb
  have w1 := (fw_C hw (by decide)).1.1
  refine am_go (ct := fun _ => false) am_oX6_lane 300 ?_
  conv => whnf
  repeat' first
    | (refine (?_ : am_wp _ _ _ _ _ _ _ _ _ _ _ _); conv => whnf)
    | (refine (?_ : am_sw _ _ _ _); conv => whnf)
    | refine And.intro trivial ?_
    | exact trivial
    | ((with_reducible refine (?_ : am_Does _ 2 _ _ _)); first | ((with_reducible refine (?_ : am_Does _ 2 (Sum.inr (Sum.inr 8) :: Sum.inr (Sum.inr 1) :: _) _ _)); (refine x_take_8_1 (fun μ1 f1 s1 r1 => ?_); have e8 : fv μ1 8 = fv ν 1 := fp_ct_e (fun b hb => s1 b hb) (fun a b q1 q2 hb => r1 a q1 q2 b hb); have e37 : μ1 37 = ν 37 := (funext fun b => f1 37 b (by omega)); have e36 : μ1 36 1 = ν 36 1 := f1 36 1 (by omega))) | ((with_reducible refine (?_ : am_Does _ 2 (Sum.inr (Sum.inr 1) :: Sum.inr (Sum.inr 8) :: _) _ _)); (refine x_take_1_8 (fun μ3 f3 s3 r3 => ?_); have e3 : fv μ3 1 = fp_fk (ν 37) (ν 36 1) (fv ν 1) K := (by rw [← e8, ← g4]; exact fp_ct_e (fun b hb => (s3 b hb).trans (am_upN (by decide))) (fun a b q1 q2 hb => (r3 a q1 q2 b hb).trans (am_uE (by omega)))))) | (refine x_take_8_1 (fun μ1 f1 s1 r1 => ?_); have e8 : fv μ1 8 = fv ν 1 := fp_ct_e (fun b hb => s1 b hb) (fun a b q1 q2 hb => r1 a q1 q2 b hb); have e37 : μ1 37 = ν 37 := (funext fun b => f1 37 b (by omega)); have e36 : μ1 36 1 = ν 36 1 := f1 36 1 (by omega)) | (refine x_take_1_8 (fun μ3 f3 s3 r3 => ?_); have e3 : fv μ3 1 = fp_fk (ν 37) (ν 36 1) (fv ν 1) K := (by rw [← e8, ← g4]; exact fp_ct_e (fun b hb => (s3 b hb).trans (am_upN (by decide))) (fun a b q1 q2 hb => (r3 a q1 q2 b hb).trans (am_uE (by omega))))))
    | (show fp_fw _ _; rw [e8]; exact hw)
    | ((with_reducible refine (?_ : am_Does _ 50 _ _ _)); (refine x_tell (ν 37) (ν 36 1) e37 e36 ?_ ?_ hL ?_ ?_ ?_ (fun K y1 y2 y3 => ?_) (fun K j y1 y2 y3 y4 y5 y6 μ2 g0 g1 g2 g3 => ?_) (fun K y1 y2 y3 y4 μ2 g0 g4 g5 g1 g2 => ?_)))
    | ((with_reducible refine (?_ : am_Does _ 44 _ _ _)); first | (refine v_drop_X3_36 ?_; have zk := fp_pk_b n0 K y1; have zb := am_bh_b (ν 37) (ν 36 1) (fp_pk (ν 37) (ν 36 1) K) (by omega) (by omega); have zr : am_c (-1000 - (-1 - am_bh (ν 37) (ν 36 1) (fp_pk (ν 37) (ν 36 1) K))) = -1000 - (-1 - am_bh (ν 37) (ν 36 1) (fp_pk (ν 37) (ν 36 1) K)) := am_cR (by omega) (by omega); have zn : am_c (-1000 - (-1 - am_bh (ν 37) (ν 36 1) (fp_pk (ν 37) (ν 36 1) K))) < 0 := (by omega); clear zb zk zr) | (refine v_drop_X3_36 ?_; have zk := fp_pk_b n0 j (fun i hi => y2 i (by omega)); have zr : am_c (-2000 - fp_pk (ν 37) (ν 36 1) j) = -2000 - fp_pk (ν 37) (ν 36 1) j := am_cR (by omega) (by omega); have zn : am_c (-2000 - fp_pk (ν 37) (ν 36 1) j) < 0 := (by omega); clear zr) | (refine v_drop_X3_36 ?_; have zk := fp_pk_b n0 K y2; have zr : am_c (K : Int) = K := am_cR (by omega) (by omega); have zn : 0 < am_c (K : Int) := (by omega); have w8 := (fw_C (show fp_fw 999 (fv μ2 8) by rw [g4]; exact g5) (by decide)).1.1))
    | refine And.intro (fun h => absurd h (Int.not_le.mpr zn)) (fun _ => ?_)
    | refine And.intro (fun _ => ?_) (fun h => absurd (Int.le_of_lt zn) h)
    | (show Q _ (am_up μ1 36 1 0); have e1 : fv (am_up μ1 36 1 0) 1 = fv ν 1 := fp_ct_e (fun b hb => Eq.trans (am_upN (by decide)) (f1 1 b (by omega))) (fun a b q1 q2 hb => Eq.trans (am_uE (by omega)) (f1 (1 + a) b (by omega))); refine k _ _ (Or.inl ⟨K, y1, y2, y3, rfl, e1⟩) ?_ ?_ ?_ ?_ ?_ ?_ ?_ (by rw [e1]; exact hw))
    | (show Q _ (am_up μ2 36 1 0); have e1 : fv (am_up μ2 36 1 0) 1 = fv ν 1 := fp_ct_e (fun b hb => Eq.trans (am_upN (by decide)) (Eq.trans (g0 1 b (by omega) (by omega)) (f1 1 b (by omega)))) (fun a b q1 q2 hb => Eq.trans (am_uE (by omega)) (Eq.trans (g0 (1 + a) b (by omega) (by omega)) (f1 (1 + a) b (by omega)))); refine k _ _ (Or.inr ⟨K, y1, y2, y3, Or.inl ⟨j, y4, (by rw [e8] at y5; exact y5), (by rw [e8] at y6; exact y6), rfl, e1⟩⟩) ?_ ?_ ?_ ?_ ?_ ?_ ?_ (by rw [e1]; exact hw))
    | ((with_reducible refine (?_ : am_Does _ 49 _ _ _)); refine v_drop_X4 ?_)
    | (show Q _ (am_up μ3 62 3 0); have e4 : fv (am_up μ3 62 3 0) 1 = fv μ3 1 := fp_ct_e (fun b hb => am_upN (by decide)) (fun a b q1 q2 hb => am_uE (by omega)); refine k _ _ (Or.inr ⟨K, y1, y2, y3, Or.inr ⟨(by rw [e8] at y4; exact y4), rfl, (by rw [e4]; exact e3)⟩⟩) ?_ ?_ ?_ ?_ ?_ ?_ ?_ (by rw [e4, e3, ← e8]; exact g5))
    | refine And.intro (fun h => absurd h (by decide)) (fun _ => ?_)
    | refine And.intro (fun _ => ?_) (fun h => absurd (by decide) h)
    | refine And.intro (fun _ => ?_) (fun _ => ?_)
    | refine And.intro ?_ ?_
  all_goals (first | decide | omega | (intro a b q1 q2 q3 q4; exact Eq.trans (am_uE q3) (f1 a b (by omega))) | (intro a b q1 q2 q3 q4; exact Eq.trans (am_uE q3) (Eq.trans (g0 a b (by omega) (by omega)) (f1 a b (by omega)))) | (intro a b q1 q2 q3 q4; exact Eq.trans (am_uE q4) (Eq.trans (f3 a b (by omega)) (Eq.trans (am_uE q3) (Eq.trans (g0 a b (by omega) (by omega)) (f1 a b (by omega)))))) | (intro x hx; rw [am_upN (by decide), f1 43 x (by omega)]; exact h43 x hx) | (intro x hx; rw [f1 43 x (by omega)]; exact h43 x hx) | exact sx_3N g1 (by decide) | (intro x hx; rw [am_upN (by decide), f3 43 x (by omega), am_upN (by decide)]; exact g1 x hx) | (rw [f1 38 0 (by omega)]; omega) | (rw [am_upN (by decide), f1 38 0 (by omega)]; omega) | (rw [am_upN (by decide)]; omega) | (rw [am_upN (by decide), f3 38 0 (by omega), am_upN (by decide)]; omega) | (rw [am_upN (by decide), s1 4 (by decide)]; omega) | (rw [am_upN (by decide), f3 8 4 (by omega), am_upN (by decide)]; omega) | (rw [am_upN (by decide), f1 1 4 (by omega)]; omega) | (rw [am_upN (by decide), g0 1 4 (by omega) (by omega), f1 1 4 (by omega)]; omega) | (rw [am_upN (by decide), s3 4 (by decide), am_upN (by decide)]; omega) | exact if_pos ⟨rfl, rfl⟩ | (rw [am_upN (by decide), f3 36 1 (by omega)]; exact if_pos ⟨rfl, rfl⟩) | (rw [if_neg (by omega), am_upN (by decide), f1 62 3 (by omega)]) | (rw [if_neg (by omega), am_upN (by decide), g0 62 3 (by omega) (by omega), f1 62 3 (by omega)]) | (rw [if_pos (by omega)]; exact if_pos ⟨rfl, rfl⟩) | (trace_state; fail))
/-! the law: words -/
theorem gv_of_sx {μ μ' : am_N} (h : sx μ μ') : gv [] μ μ' := ⟨sx_rb h, fun k j hk => h.1 k j (by
  simp only [Bool.and_eq_true] at hk
  exact hk.1)⟩
def lx_E (E : List Nat) : Prop := ∀ k, 83 ≤ k → E.contains k = false
def lx_A (A : Nat → Nat → Bool) : Prop := ∀ k j, k < 83 → A k j = false
theorem sx_p83 {k : Nat} (h : 83 ≤ k) : sx_p k = true := by
  have b : ∀ a c : Nat, c < 83 → (Nat.ble a k && Nat.ble k c) = false := fun a c hc => by
    cases q : Nat.ble k c with
    | false => exact Bool.and_false _
    | true => have := Nat.ble_eq.mp q; omega
  unfold sx_p
  rw [b 8 21 (by omega), b 29 34 (by omega), b 38 43 (by omega), b 78 82 (by omega)]
  rfl
theorem lx_mi {E : List Nat} {μ μ' : am_N} (hE : lx_E E) (h : gv E μ μ') (hm : mi μ) : mi μ' := by
  have e : ∀ k j, 83 ≤ k → μ' k j = μ k j := fun k j hk => h.2 k j (by rw [sx_p83 hk, hE k hk]; rfl)
  unfold mi at hm ⊢
  rw [e 83 14 (by omega), e 83 15 (by omega), e 83 16 (by omega), e 83 21 (by omega), e 83 33 (by omega), e 83 40 (by omega), e 83 42 (by omega), e 98 44 (by omega), e 98 38 (by omega), e 98 39 (by omega)]
  refine ⟨hm.1, hm.2.1, hm.2.2.1, hm.2.2.2.1, hm.2.2.2.2.1, hm.2.2.2.2.2.1, hm.2.2.2.2.2.2.1, hm.2.2.2.2.2.2.2.1, hm.2.2.2.2.2.2.2.2.1, hm.2.2.2.2.2.2.2.2.2.1, fun p hp => ?_⟩
  rw [e 100 p (by omega)]
  exact hm.2.2.2.2.2.2.2.2.2.2 p hp
theorem lx_sx {A : Nat → Nat → Bool} {μ μ' : am_N} (hA : lx_A A) (h : gm A μ μ') (hs : sx μ μ) : sx μ' μ' := by
  have e : ∀ k j, k < 83 → μ' k j = μ k j := fun k j hk => h.2 k j (hA k j hk)
  obtain ⟨-, h1, h2, h3, h4⟩ := hs
  refine ⟨fun _ _ _ => rfl, fun p hp => ?_, fun p hp => ?_, ?_, ?_⟩
  · rw [e 34 p (by omega)]; exact h1 p hp
  · rw [e 43 p (by omega)]; exact h2 p hp
  · unfold sx_4 at h3 ⊢
    rw [e 8 4 (by omega), e 15 4 (by omega), e 29 0 (by omega), e 38 0 (by omega)]
    exact h3
  · unfold px at h4 ⊢
    rw [e 1 4 (by omega), e 22 4 (by omega), e 36 1 (by omega), e 44 1 (by omega), e 46 1 (by omega), e 48 1 (by omega), e 50 1 (by omega), e 53 1 (by omega), e 55 1 (by omega), e 58 1 (by omega), e 60 1 (by omega), e 62 3 (by omega)]
    exact h4
theorem lx_c {E : List Nat} (h : E.all (fun k => Nat.blt k 83) = true) : lx_E E := fun k hk => by
  cases q : E.contains k with
  | false => rfl
  | true =>
    have := List.all_eq_true.mp h k (List.contains_iff_mem.mp q)
    have := Nat.ble_eq.mp this
    omega
theorem lx_A0 : lx_A ms := fun k j hk => by
  have n : ∀ c, 83 ≤ c → Nat.beq k c = false := fun c hc => by
    cases q : Nat.beq k c with
    | false => rfl
    | true => have := Nat.eq_of_beq_eq_true q; omega
  simp only [ms, mT, n 99 (by omega), n 100 (by omega), n 104 (by omega), n 84 (by omega), n 95 (by omega), n 96 (by omega), n 97 (by omega), n 83 (by omega), Bool.or_self, Bool.false_and, Bool.or_false]
theorem lx_Ao {A B : Nat → Nat → Bool} (h1 : lx_A A) (h2 : lx_A B) : lx_A (mo A B) := fun k j hk => Bool.or_eq_false_iff.mpr ⟨h1 k j hk, h2 k j hk⟩
theorem lx_n {k c : Nat} (hk : k < 83) (hc : 83 ≤ c) : Nat.beq k c = false := by
  cases q : Nat.beq k c with
  | false => rfl
  | true => have := Nat.eq_of_beq_eq_true q; omega
theorem lx_b {k c : Nat} (hk : k < 83) (hc : 83 ≤ c) : Nat.ble c k = false := by
  cases q : Nat.ble c k with
  | false => rfl
  | true => have := Nat.ble_eq.mp q; omega
theorem lx_mo {c b : Nat} (hc : 83 ≤ c) : lx_A (m1o c b) := fun k j hk => by simp only [m1o, lx_n hk hc, lx_n hk (Nat.le_refl 83), Bool.false_and, Bool.or_self]
theorem lx_Q1 : lx_A mQ1 := fun k j hk => by simp only [mQ1, lx_n hk (show 83 ≤ 98 by omega), lx_b hk (show 83 ≤ 85 by omega), Bool.false_and, Bool.or_self]
