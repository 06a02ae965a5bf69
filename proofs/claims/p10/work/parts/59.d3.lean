/-! contents: rows told on both sides -/
def rq_w (j c r : Nat) (lo hi : Int) (μ : am_N) : Prop := μ r 1 = μ 83 j ∧ ∀ b : Nat, (b : Int) < μ 83 j → μ (r + 1) b = μ c b ∧ lo ≤ μ c b ∧ μ c b ≤ hi
/-- what the image keeps of them -/
def rq_v (j o r : Nat) (lo hi : Int) (μ : am_N) : Prop := μ r 1 = μ 98 j ∧ ∀ b : Nat, (b : Int) < μ 98 j → μ (r + 1) b = μ 98 (o + b) ∧ lo ≤ μ 98 (o + b) ∧ μ 98 (o + b) ≤ hi
def rq_S (μ : am_N) : Prop := μ 83 25 ≠ 0 → rq_v 38 24 50 1 9 μ ∧ rq_v 39 30 58 0 3 μ ∧ rq_v 39 34 60 (-9) 9 μ
def rq_C (μ : am_N) : Prop := rq_w 42 106 44 0 99 μ ∧ rq_w 40 105 46 0 999 μ ∧ rq_w 15 91 48 1 9 μ ∧ rq_w 16 92 53 0 3 μ ∧ rq_w 16 93 55 (-9) 9 μ ∧ rq_S μ
def lx_J (μ : am_N) : Prop := lx_I μ ∧ rq_C μ
/-- the cells that this speaks of -/
def rq_K (a b : Nat) : Prop := (44 ≤ a ∧ a ≤ 61) ∨ (a = 83 ∧ (b = 15 ∨ b = 16 ∨ b = 25 ∨ b = 40 ∨ b = 42)) ∨ (a = 91 ∧ b < 6) ∨ ((a = 92 ∨ a = 93) ∧ b < 4) ∨ (a = 105 ∧ b < 6) ∨ (a = 106 ∧ b < 12) ∨ (a = 98 ∧ b < 45)
theorem rq_w_keep {j c r : Nat} {lo hi : Int} {μ ν : am_N} (h : rq_w j c r lo hi μ) (e1 : ν r 1 = μ r 1) (e2 : ∀ b, ν (r + 1) b = μ (r + 1) b) (e3 : ν 83 j = μ 83 j) (e4 : ∀ b : Nat, (b : Int) < μ 83 j → ν c b = μ c b) : rq_w j c r lo hi ν := by
  obtain ⟨h1, h2⟩ := h
  refine ⟨by rw [e1, e3]; exact h1, fun b hb => ?_⟩
  rw [e3] at hb
  rw [e2, e4 b hb]
  exact h2 b hb
theorem rq_w_zero {j c r : Nat} {lo hi : Int} {ν : am_N} (e1 : ν r 1 = 0) (e3 : ν 83 j = 0) : rq_w j c r lo hi ν := ⟨by rw [e1, e3], fun b hb => by rw [e3] at hb; omega⟩
theorem rq_w_put {j c r : Nat} {lo hi v : Int} {μ ν : am_N} (h : rq_w j c r lo hi μ) (n0 : 0 ≤ μ 83 j) (hv : lo ≤ v ∧ v ≤ hi) (e1 : ν r 1 = μ r 1 + 1) (e2 : ∀ b, ν (r + 1) b = if b = (μ r 1).toNat then v else μ (r + 1) b) (e3 : ν 83 j = μ 83 j + 1) (e4 : ∀ b, ν c b = if b = (μ 83 j).toNat then v else μ c b) : rq_w j c r lo hi ν := by
  obtain ⟨h1, h2⟩ := h
  refine ⟨by rw [e1, e3, h1], fun b hb => ?_⟩
  rw [e3] at hb
  rw [e2, e4, h1]
  by_cases d : b = (μ 83 j).toNat
  · rw [if_pos d, if_pos d]; exact ⟨rfl, hv.1, hv.2⟩
  · rw [if_neg d, if_neg d]; exact h2 b (by omega)
theorem rq_v_keep {j o r : Nat} {lo hi : Int} {μ ν : am_N} (h : rq_v j o r lo hi μ) (hj : j < 45) (ho : o + 6 ≤ 45) (hn : μ 98 j ≤ 6) (e1 : ν r 1 = μ r 1) (e2 : ∀ b, ν (r + 1) b = μ (r + 1) b) (e4 : ∀ b : Nat, b < 45 → ν 98 b = μ 98 b) : rq_v j o r lo hi ν := by
  obtain ⟨h1, h2⟩ := h
  refine ⟨by rw [e1, e4 j hj]; exact h1, fun b hb => ?_⟩
  rw [e4 j hj] at hb
  rw [e2, e4 (o + b) (by omega)]
  exact h2 b hb
theorem rq_S_keep {μ ν : am_N} (h : rq_S μ) (hm : mi μ) (e : ∀ a b, (50 ≤ a ∧ a ≤ 51) ∨ (57 ≤ a ∧ a ≤ 61) ∨ (a = 83 ∧ b = 25) ∨ (a = 98 ∧ b < 45) → ν a b = μ a b) : rq_S ν := fun z => by
  rw [e 83 25 (by omega)] at z
  obtain ⟨h1, h2, h3⟩ := h z
  have q1 := hm.2.2.2.2.2.2.2.2.1
  have q2 := hm.2.2.2.2.2.2.2.2.2.1
  exact ⟨rq_v_keep h1 (by decide) (by decide) (by omega) (e _ _ (by omega)) (fun b => e _ _ (by omega)) (fun b hb => e _ _ (by omega)), rq_v_keep h2 (by decide) (by decide) (by omega) (e _ _ (by omega)) (fun b => e _ _ (by omega)) (fun b hb => e _ _ (by omega)), rq_v_keep h3 (by decide) (by decide) (by omega) (e _ _ (by omega)) (fun b => e _ _ (by omega)) (fun b hb => e _ _ (by omega))⟩
theorem rq_C_keep {μ ν : am_N} (h : rq_C μ) (hm : mi μ) (e : ∀ a b, rq_K a b → ν a b = μ a b) : rq_C ν := by
  obtain ⟨h1, h2, h3, h4, h5, h6⟩ := h
  have q := mi_all hm
  exact ⟨rq_w_keep h1 (e _ _ (by unfold rq_K; omega)) (fun b => e _ _ (by unfold rq_K; omega)) (e _ _ (by unfold rq_K; omega)) (fun b hb => e _ _ (by unfold rq_K; omega)), rq_w_keep h2 (e _ _ (by unfold rq_K; omega)) (fun b => e _ _ (by unfold rq_K; omega)) (e _ _ (by unfold rq_K; omega)) (fun b hb => e _ _ (by unfold rq_K; omega)), rq_w_keep h3 (e _ _ (by unfold rq_K; omega)) (fun b => e _ _ (by unfold rq_K; omega)) (e _ _ (by unfold rq_K; omega)) (fun b hb => e _ _ (by unfold rq_K; omega)), rq_w_keep h4 (e _ _ (by unfold rq_K; omega)) (fun b => e _ _ (by unfold rq_K; omega)) (e _ _ (by unfold rq_K; omega)) (fun b hb => e _ _ (by unfold rq_K; omega)), rq_w_keep h5 (e _ _ (by unfold rq_K; omega)) (fun b => e _ _ (by unfold rq_K; omega)) (e _ _ (by unfold rq_K; omega)) (fun b hb => e _ _ (by unfold rq_K; omega)), rq_S_keep h6 hm (fun a b q => e a b (by unfold rq_K; omega))⟩
/-- calls that leave all of this: by the weak contracts -/
def fp_Ad (A : Nat → Nat → Bool) : Prop := ∀ a b, 83 ≤ a → rq_K a b → A a b = false
theorem LJ_weak {A : Nat → Nat → Bool} {μ μ1 μ2 : am_N} (hI : lx_J μ) (h1 : gv [] μ μ1) (h2 : gm A μ1 μ2) (hA : lx_A A) (hAc : fp_Ac A) (hAd : fp_Ad A) : lx_J μ2 := by
  refine ⟨LI_weak (E := []) hI.1 h1 h2 (lx_c rfl) rfl hA hAc, rq_C_keep hI.2 hI.1.2.1 (fun a b q => ?_)⟩
  have e1 : μ1 a b = μ a b := h1.2 a b (by
    have z : sx_p a = true := by
      by_cases d : 83 ≤ a
      · exact sx_p83 d
      · rcases (show a = 44 ∨ a = 45 ∨ a = 46 ∨ a = 47 ∨ a = 48 ∨ a = 49 ∨ a = 50 ∨ a = 51 ∨ a = 52 ∨ a = 53 ∨ a = 54 ∨ a = 55 ∨ a = 56 ∨ a = 57 ∨ a = 58 ∨ a = 59 ∨ a = 60 ∨ a = 61 by unfold rq_K at q; omega) with rfl | rfl | rfl | rfl | rfl | rfl | rfl | rfl | rfl | rfl | rfl | rfl | rfl | rfl | rfl | rfl | rfl | rfl <;> rfl
    rw [z]; rfl)
  by_cases d : 83 ≤ a
  · exact (h2.2 a b (hAd a b d q)).trans e1
  · exact (h2.2 a b (hA a b (by omega))).trans e1
theorem fp_AdQ : fp_Ad mQ := fun a b ha h => by
  rcases h with h | ⟨rfl, h⟩ | ⟨rfl, h⟩ | ⟨h, h2⟩ | ⟨rfl, h⟩ | ⟨rfl, h⟩ | ⟨rfl, h⟩
  · omega
  · rcases h with rfl | rfl | rfl | rfl | rfl <;> rfl
  · rcases (show b = 0 ∨ b = 1 ∨ b = 2 ∨ b = 3 ∨ b = 4 ∨ b = 5 by omega) with rfl | rfl | rfl | rfl | rfl | rfl <;> rfl
  · rcases h with rfl | rfl <;> rcases (show b = 0 ∨ b = 1 ∨ b = 2 ∨ b = 3 by omega) with rfl | rfl | rfl | rfl <;> rfl
  · rfl
  · rfl
  · have z : Nat.ble 60 b = false := by
      cases y : Nat.ble 60 b with
      | false => rfl
      | true => have := Nat.ble_eq.mp y; omega
    show mo ms mQ1 98 b = false
    unfold mo mQ1
    rw [z]
    rfl
theorem fp_Ads : fp_Ad ms := fun a b ha h => mo_l a b (fp_AdQ a b ha h)
theorem s_row {l : Launch} {ν : am_N} {Q : Option am_V → am_N → Prop} (v : Int) (cv : am_c v = v) (hS : sx ν ν) (k1 : (0 ≤ v ∧ v ≤ 99) → ν 44 1 < 12 → ∀ μ' : am_N, (∀ a b, ¬(a = 44 ∧ b = 1) → a ≠ 45 → μ' a b = ν a b) → μ' 44 1 = ν 44 1 + 1 → (∀ b, μ' 45 b = if b = (ν 44 1).toNat then v else ν 45 b) → Q (some (.inl (ν 44 1 + 1))) μ') (k0 : ∀ (r : Int) (μ' : am_N), ((v < 0 ∧ r = -4) ∨ (99 < v ∧ r = -6) ∨ ((0 ≤ v ∧ v ≤ 99) ∧ ν 44 1 = 12 ∧ r = -6)) → (∀ a b, a ≠ 78 → μ' a b = ν a b) → Q (some (.inl r)) μ') : am_Does l 86 [.inr (.inr 0), .inl v] ν Q := by
  refine am_Does_of (Nat.le_of_ble_eq_true rfl) (Nat.le_of_ble_eq_true rfl) (Nat.le_of_ble_eq_true rfl) ?_
  have l0 : am_c 0 = 0 := rfl
  have l1 : am_c 1 = 1 := rfl
  have l3 : am_c 3 = 3 := rfl
  have l4 : am_c 4 = 4 := rfl
  have l6 : am_c 6 = 6 := rfl
  have l9 : am_c 9 = 9 := rfl
  have l12 : am_c 12 = 12 := rfl
  have l99 : am_c 99 = 99 := rfl
  have l999 : am_c 999 = 999 := rfl
  have kk := fun (a1 : 0 ≤ v ∧ v ≤ 99) (a2 : ν 44 1 < 12) => k1 a1 a2 _ (fun a b q1 q2 => (am_upN q2).trans (am_uE q1)) ((am_upN (by decide)).trans (if_pos ⟨rfl, rfl⟩)) (fun b => by by_cases d : b = (ν 44 1).toNat; (rw [am_upS, if_pos ⟨rfl, d⟩, if_pos d]); (rw [am_upM d, if_neg d]; exact am_upN (by decide)))
  refine am_go (ct := fun _ => false) am_oX6_row 300 ?_
  conv => whnf
  repeat' first
    | (refine (?_ : am_wp _ _ _ _ _ _ _ _ _ _ _ _); conv => whnf)
    | (refine (?_ : am_sw _ _ _ _); conv => whnf)
    | refine And.intro trivial ?_
    | exact trivial
    | refine x_refuse _ ?_ (fun μr fr => ?_)
    | refine k0 _ _ ?_ fr
    | refine v_full_X3_44 (ν := ν) hS (fun w => ?_) (fun w => ?_)
    | refine v_putE_X3_44 _ hS w ?_
    | exact kk (by omega) w
    | refine And.intro (fun h => absurd h (by decide)) (fun _ => ?_)
    | refine And.intro (fun _ => ?_) (fun h => absurd (by decide) h)
    | refine And.intro (fun _ => ?_) (fun _ => ?_)
    | refine And.intro ?_ ?_
  all_goals (first | decide | omega | (trace_state; fail))
theorem s_time {l : Launch} {ν : am_N} {Q : Option am_V → am_N → Prop} (v : Int) (cv : am_c v = v) (hS : sx ν ν) (k1 : (0 ≤ v ∧ v ≤ 999) → ν 46 1 < 6 → ∀ μ' : am_N, (∀ a b, ¬(a = 46 ∧ b = 1) → a ≠ 47 → μ' a b = ν a b) → μ' 46 1 = ν 46 1 + 1 → (∀ b, μ' 47 b = if b = (ν 46 1).toNat then v else ν 47 b) → Q (some (.inl (ν 46 1 + 1))) μ') (k0 : ∀ (r : Int) (μ' : am_N), ((v < 0 ∧ r = -4) ∨ (999 < v ∧ r = -6) ∨ ((0 ≤ v ∧ v ≤ 999) ∧ ν 46 1 = 6 ∧ r = -6)) → (∀ a b, a ≠ 78 → μ' a b = ν a b) → Q (some (.inl r)) μ') : am_Does l 107 [.inr (.inr 0), .inl v] ν Q := by
  refine am_Does_of (Nat.le_of_ble_eq_true rfl) (Nat.le_of_ble_eq_true rfl) (Nat.le_of_ble_eq_true rfl) ?_
  have l0 : am_c 0 = 0 := rfl
  have l1 : am_c 1 = 1 := rfl
  have l3 : am_c 3 = 3 := rfl
  have l4 : am_c 4 = 4 := rfl
  have l6 : am_c 6 = 6 := rfl
  have l9 : am_c 9 = 9 := rfl
  have l12 : am_c 12 = 12 := rfl
  have l99 : am_c 99 = 99 := rfl
  have l999 : am_c 999 = 999 := rfl
  have kk := fun (a1 : 0 ≤ v ∧ v ≤ 999) (a2 : ν 46 1 < 6) => k1 a1 a2 _ (fun a b q1 q2 => (am_upN q2).trans (am_uE q1)) ((am_upN (by decide)).trans (if_pos ⟨rfl, rfl⟩)) (fun b => by by_cases d : b = (ν 46 1).toNat; (rw [am_upS, if_pos ⟨rfl, d⟩, if_pos d]); (rw [am_upM d, if_neg d]; exact am_upN (by decide)))
  refine am_go (ct := fun _ => false) am_oX6_time 300 ?_
  conv => whnf
  repeat' first
    | (refine (?_ : am_wp _ _ _ _ _ _ _ _ _ _ _ _); conv => whnf)
    | (refine (?_ : am_sw _ _ _ _); conv => whnf)
    | refine And.intro trivial ?_
    | exact trivial
    | refine x_refuse _ ?_ (fun μr fr => ?_)
    | refine k0 _ _ ?_ fr
    | refine v_full_X3_46 (ν := ν) hS (fun w => ?_) (fun w => ?_)
    | refine v_putE_X3_46 _ hS w ?_
    | exact kk (by omega) w
    | refine And.intro (fun h => absurd h (by decide)) (fun _ => ?_)
    | refine And.intro (fun _ => ?_) (fun h => absurd (by decide) h)
    | refine And.intro (fun _ => ?_) (fun _ => ?_)
    | refine And.intro ?_ ?_
  all_goals (first | decide | omega | (trace_state; fail))
theorem s_bag {l : Launch} {ν : am_N} {Q : Option am_V → am_N → Prop} (v : Int) (cv : am_c v = v) (hS : sx ν ν) (k1 : (1 ≤ v ∧ v ≤ 9) → ν 48 1 < 6 → ∀ μ' : am_N, (∀ a b, ¬(a = 48 ∧ b = 1) → a ≠ 49 → μ' a b = ν a b) → μ' 48 1 = ν 48 1 + 1 → (∀ b, μ' 49 b = if b = (ν 48 1).toNat then v else ν 49 b) → Q (some (.inl (ν 48 1 + 1))) μ') (k0 : ∀ (r : Int) (μ' : am_N), ((v < 1 ∧ r = -4) ∨ (9 < v ∧ r = -6) ∨ ((1 ≤ v ∧ v ≤ 9) ∧ ν 48 1 = 6 ∧ r = -6)) → (∀ a b, a ≠ 78 → μ' a b = ν a b) → Q (some (.inl r)) μ') : am_Does l 91 [.inr (.inr 0), .inl v] ν Q := by
  refine am_Does_of (Nat.le_of_ble_eq_true rfl) (Nat.le_of_ble_eq_true rfl) (Nat.le_of_ble_eq_true rfl) ?_
  have l0 : am_c 0 = 0 := rfl
  have l1 : am_c 1 = 1 := rfl
  have l3 : am_c 3 = 3 := rfl
  have l4 : am_c 4 = 4 := rfl
  have l6 : am_c 6 = 6 := rfl
  have l9 : am_c 9 = 9 := rfl
  have l12 : am_c 12 = 12 := rfl
  have l99 : am_c 99 = 99 := rfl
  have l999 : am_c 999 = 999 := rfl
  have kk := fun (a1 : 1 ≤ v ∧ v ≤ 9) (a2 : ν 48 1 < 6) => k1 a1 a2 _ (fun a b q1 q2 => (am_upN q2).trans (am_uE q1)) ((am_upN (by decide)).trans (if_pos ⟨rfl, rfl⟩)) (fun b => by by_cases d : b = (ν 48 1).toNat; (rw [am_upS, if_pos ⟨rfl, d⟩, if_pos d]); (rw [am_upM d, if_neg d]; exact am_upN (by decide)))
  refine am_go (ct := fun _ => false) am_oX6_bag 300 ?_
  conv => whnf
  repeat' first
    | (refine (?_ : am_wp _ _ _ _ _ _ _ _ _ _ _ _); conv => whnf)
    | (refine (?_ : am_sw _ _ _ _); conv => whnf)
    | refine And.intro trivial ?_
    | exact trivial
    | refine x_refuse _ ?_ (fun μr fr => ?_)
    | refine k0 _ _ ?_ fr
    | refine v_full_X3_48 (ν := ν) hS (fun w => ?_) (fun w => ?_)
    | refine v_putE_X3_48 _ hS w ?_
    | exact kk (by omega) w
    | refine And.intro (fun h => absurd h (by decide)) (fun _ => ?_)
    | refine And.intro (fun _ => ?_) (fun h => absurd (by decide) h)
    | refine And.intro (fun _ => ?_) (fun _ => ?_)
    | refine And.intro ?_ ?_
  all_goals (first | decide | omega | (trace_state; fail))
theorem s_clear {l : Launch} {ν : am_N} {Q : Option am_V → am_N → Prop} (k : ∀ μ' : am_N, (∀ a b, ¬(a = 44 ∧ b = 1) → μ' a b = ν a b) → μ' 44 1 = 0 → Q (some (.inl (ν 44 1))) μ') : am_Does l 88 [.inr (.inr 0)] ν Q := by
  refine am_Does_of (Nat.le_of_ble_eq_true rfl) (Nat.le_of_ble_eq_true rfl) (Nat.le_of_ble_eq_true rfl) ?_
  refine am_go (ct := fun _ => false) am_oX6_clear 300 ?_
  conv => whnf
  repeat' first
    | (refine (?_ : am_wp _ _ _ _ _ _ _ _ _ _ _ _); conv => whnf)
    | (refine (?_ : am_sw _ _ _ _); conv => whnf)
    | refine And.intro trivial ?_
    | exact trivial
    | refine v_drop_X3_44 ?_
    | exact k _ (fun a b q => am_uE q) (if_pos ⟨rfl, rfl⟩)
    | refine And.intro (fun h => absurd h (by decide)) (fun _ => ?_)
    | refine And.intro (fun _ => ?_) (fun h => absurd (by decide) h)
    | refine And.intro (fun _ => ?_) (fun _ => ?_)
    | refine And.intro ?_ ?_
  all_goals (first | decide | omega | (trace_state; fail))
theorem s_wipe {l : Launch} {ν : am_N} {Q : Option am_V → am_N → Prop} (k : ∀ μ' : am_N, (∀ a b, ¬(a = 46 ∧ b = 1) → μ' a b = ν a b) → μ' 46 1 = 0 → Q (some (.inl (ν 46 1))) μ') : am_Does l 109 [.inr (.inr 0)] ν Q := by
  refine am_Does_of (Nat.le_of_ble_eq_true rfl) (Nat.le_of_ble_eq_true rfl) (Nat.le_of_ble_eq_true rfl) ?_
  refine am_go (ct := fun _ => false) am_oX6_wipe 300 ?_
  conv => whnf
  repeat' first
    | (refine (?_ : am_wp _ _ _ _ _ _ _ _ _ _ _ _); conv => whnf)
    | (refine (?_ : am_sw _ _ _ _); conv => whnf)
    | refine And.intro trivial ?_
    | exact trivial
    | refine v_drop_X3_46 ?_
    | exact k _ (fun a b q => am_uE q) (if_pos ⟨rfl, rfl⟩)
    | refine And.intro (fun h => absurd h (by decide)) (fun _ => ?_)
    | refine And.intro (fun _ => ?_) (fun h => absurd (by decide) h)
    | refine And.intro (fun _ => ?_) (fun _ => ?_)
    | refine And.intro ?_ ?_
  all_goals (first | decide | omega | (trace_state; fail))
theorem s_empty {l : Launch} {ν : am_N} {Q : Option am_V → am_N → Prop} (k : ∀ μ' : am_N, (∀ a b, ¬(a = 48 ∧ b = 1) → μ' a b = ν a b) → μ' 48 1 = 0 → Q (some (.inl (ν 48 1))) μ') : am_Does l 92 [.inr (.inr 0)] ν Q := by
  refine am_Does_of (Nat.le_of_ble_eq_true rfl) (Nat.le_of_ble_eq_true rfl) (Nat.le_of_ble_eq_true rfl) ?_
  refine am_go (ct := fun _ => false) am_oX6_empty 300 ?_
  conv => whnf
  repeat' first
    | (refine (?_ : am_wp _ _ _ _ _ _ _ _ _ _ _ _); conv => whnf)
    | (refine (?_ : am_sw _ _ _ _); conv => whnf)
    | refine And.intro trivial ?_
    | exact trivial
    | refine v_drop_X3_48 ?_
    | exact k _ (fun a b q => am_uE q) (if_pos ⟨rfl, rfl⟩)
    | refine And.intro (fun h => absurd h (by decide)) (fun _ => ?_)
    | refine And.intro (fun _ => ?_) (fun h => absurd (by decide) h)
    | refine And.intro (fun _ => ?_) (fun _ => ?_)
    | refine And.intro ?_ ?_
  all_goals (first | decide | omega | (trace_state; fail))
theorem v_putX1 {l : Launch} {ν : am_N} {Q : Option am_V → am_N → Prop} (w y : Int) (hS : sx ν ν) (h53 : ν 55 1 = ν 53 1) (a3 : ν 53 1 < 4) (k1 : ∀ μ' : am_N, (∀ a b, ¬(a = 53 ∧ b = 1) → ¬(a = 55 ∧ b = 1) → a ≠ 54 → a ≠ 56 → μ' a b = ν a b) → μ' 53 1 = ν 53 1 + 1 → μ' 55 1 = ν 55 1 + 1 → (∀ b, μ' 54 b = if b = (ν 53 1).toNat then w else ν 54 b) → (∀ b, μ' 56 b = if b = (ν 55 1).toNat then y else ν 56 b) → Q (some (.inl (ν 53 1 + 1))) μ') : am_Does l 16 [.inr (.inr 52), .inl w, .inl y] ν Q := by
  refine am_Does_of (Nat.le_of_ble_eq_true rfl) (Nat.le_of_ble_eq_true rfl) (Nat.le_of_ble_eq_true rfl) ?_
  have hb := sx_all hS
  have hY : sx (am_up (am_up ν 55 1 (ν 55 1 + 1)) 56 (ν 55 1).toNat y) (am_up (am_up ν 55 1 (ν 55 1 + 1)) 56 (ν 55 1).toNat y) := by
    have g : ∀ a b, ¬(a = 55 ∧ b = 1) → a ≠ 56 → am_up (am_up ν 55 1 (ν 55 1 + 1)) 56 (ν 55 1).toNat y a b = ν a b := fun a b q1 q2 => (am_upN q2).trans (am_uE q1)
    have d1 : am_up (am_up ν 55 1 (ν 55 1 + 1)) 56 (ν 55 1).toNat y 55 1 = ν 55 1 + 1 := (am_upN (by decide)).trans (if_pos ⟨rfl, rfl⟩)
    exact ⟨fun _ _ _ => rfl, fun p hp => by rw [g 34 p (by omega) (by omega)]; exact hS.2.1 p hp, fun p hp => by rw [g 43 p (by omega) (by omega)]; exact hS.2.2.1 p hp, by have q := hS.2.2.2.1; unfold sx_4 at q ⊢; rw [g 8 4 (by omega) (by omega), g 15 4 (by omega) (by omega), g 29 0 (by omega) (by omega), g 38 0 (by omega) (by omega)]; omega, by have q := hS.2.2.2.2; unfold px at q ⊢; rw [g 1 4 (by omega) (by omega), g 22 4 (by omega) (by omega), g 36 1 (by omega) (by omega), g 44 1 (by omega) (by omega), g 46 1 (by omega) (by omega), g 48 1 (by omega) (by omega), g 50 1 (by omega) (by omega), g 53 1 (by omega) (by omega), g 58 1 (by omega) (by omega), g 60 1 (by omega) (by omega), g 62 3 (by omega) (by omega)]; omega⟩
  have n55 : am_up (am_up ν 55 1 (ν 55 1 + 1)) 56 (ν 55 1).toNat y 53 1 = ν 53 1 := (am_upN (by decide)).trans (am_uE (by omega))
  have kk := fun (μ' : am_N) (x : Int) (e : μ' = am_up (am_up (am_up (am_up ν 55 1 (ν 55 1 + 1)) 56 (ν 55 1).toNat y) 53 1 (ν 53 1 + 1)) 54 (ν 53 1).toNat w) (ex : x = ν 53 1 + 1) => (show Q (some (.inl x)) μ' by
    rw [ex]
    refine k1 μ' (fun a b q1 q2 q3 q4 => ?_) ?_ ?_ (fun b => ?_) (fun b => ?_)
    · rw [e, am_upN q3, am_uE q1, am_upN q4, am_uE q2]
    · rw [e, am_upN (by decide)]; exact if_pos ⟨rfl, rfl⟩
    · rw [e, am_upN (by decide), am_upN (by decide), am_upN (by decide)]; exact if_pos ⟨rfl, rfl⟩
    · rw [e]; by_cases d : b = (ν 53 1).toNat; (rw [am_upS, if_pos ⟨rfl, d⟩, if_pos d]); (rw [am_upM d, if_neg d, am_upN (by decide), am_upN (by decide), am_upN (by decide)])
    · rw [e, am_upN (by decide), am_upN (by decide)]; by_cases d : b = (ν 55 1).toNat; (rw [am_upS, if_pos ⟨rfl, d⟩, if_pos d]); (rw [am_upM d, if_neg d]; exact am_upN (by decide)))
  refine am_go (ct := fun _ => false) am_oX1_put 300 ?_
  conv => whnf
  repeat' first
    | (refine (?_ : am_wp _ _ _ _ _ _ _ _ _ _ _ _); conv => whnf)
    | (refine (?_ : am_sw _ _ _ _); conv => whnf)
    | refine And.intro trivial ?_
    | exact trivial
    | refine v_putE_X3_55 _ hS (by omega) ?_
    | refine v_putE_X3_53 _ hY (by rw [n55]; omega) ?_
    | refine kk _ _ ?_ ?_
    | refine And.intro (fun h => absurd h (by decide)) (fun _ => ?_)
    | refine And.intro (fun _ => ?_) (fun h => absurd (by decide) h)
    | refine And.intro (fun _ => ?_) (fun _ => ?_)
    | refine And.intro ?_ ?_
  all_goals (first | decide | omega | rfl | (rw [n55]) | (trace_state; fail))
theorem s_habit {l : Launch} {ν : am_N} {Q : Option am_V → am_N → Prop} (w y : Int) (cw : am_c w = w) (cy : am_c y = y) (hS : sx ν ν) (h53 : ν 55 1 = ν 53 1) (k1 : (0 ≤ w ∧ w ≤ 3) → (-9 ≤ y ∧ y ≤ 9) → ν 53 1 < 4 → ∀ μ' : am_N, (∀ a b, ¬(a = 53 ∧ b = 1) → ¬(a = 55 ∧ b = 1) → a ≠ 54 → a ≠ 56 → μ' a b = ν a b) → μ' 53 1 = ν 53 1 + 1 → μ' 55 1 = ν 55 1 + 1 → (∀ b, μ' 54 b = if b = (ν 53 1).toNat then w else ν 54 b) → (∀ b, μ' 56 b = if b = (ν 55 1).toNat then y else ν 56 b) → Q (some (.inl (ν 53 1 + 1))) μ') (k0 : ∀ (r : Int) (μ' : am_N), ((¬(0 ≤ w ∧ w ≤ 3) ∧ r = -2) ∨ ((0 ≤ w ∧ w ≤ 3) ∧ y < -9 ∧ r = -4) ∨ ((0 ≤ w ∧ w ≤ 3) ∧ 9 < y ∧ r = -6) ∨ ((0 ≤ w ∧ w ≤ 3) ∧ (-9 ≤ y ∧ y ≤ 9) ∧ ν 53 1 = 4 ∧ r = -6)) → (∀ a b, a ≠ 78 → μ' a b = ν a b) → Q (some (.inl r)) μ') : am_Does l 103 [.inr (.inr 0), .inl w, .inl y] ν Q := by
  refine am_Does_of (Nat.le_of_ble_eq_true rfl) (Nat.le_of_ble_eq_true rfl) (Nat.le_of_ble_eq_true rfl) ?_
  have l0 : am_c 0 = 0 := rfl
  have l1 : am_c 1 = 1 := rfl
  have l3 : am_c 3 = 3 := rfl
  have l4 : am_c 4 = 4 := rfl
  have l6 : am_c 6 = 6 := rfl
  have l9 : am_c 9 = 9 := rfl
  have l12 : am_c 12 = 12 := rfl
  have l99 : am_c 99 = 99 := rfl
  have l999 : am_c 999 = 999 := rfl
  have m1' : am_c (-1) = -1 := rfl
  have m2' : am_c (-2) = -2 := rfl
  have m3' : am_c (-3) = -3 := rfl
  have m4' : am_c (-4) = -4 := rfl
  have m6' : am_c (-6) = -6 := rfl
  have m9' : am_c (-9) = -9 := rfl
  refine am_go (ct := fun _ => false) am_oX6_habit 300 ?_
  conv => whnf
  repeat' first
    | (refine (?_ : am_wp _ _ _ _ _ _ _ _ _ _ _ _); conv => whnf)
    | (refine (?_ : am_sw _ _ _ _); conv => whnf)
    | refine And.intro trivial ?_
    | exact trivial
    | refine x_refuse _ ?_ (fun μr fr => ?_)
    | refine k0 _ _ ?_ fr
    | refine v_full_X3_53 (ν := ν) hS (fun z => ?_) (fun z => ?_)
    | refine v_putX1 w y hS h53 (by omega) (fun μ2 c1 c2 c3 c4 c5 => ?_)
    | exact k1 ⟨by simp only [cw, l0, l3] at *; omega, by simp only [cw, l0, l3] at *; omega⟩ ⟨by simp only [cy] at *; omega, by simp only [cy, l9] at *; omega⟩ (by omega) _ c1 c2 c3 c4 c5
    | refine And.intro (fun h => absurd h (by decide)) (fun _ => ?_)
    | refine And.intro (fun _ => ?_) (fun h => absurd (by decide) h)
    | refine And.intro (fun _ => ?_) (fun _ => ?_)
    | refine And.intro ?_ ?_
  all_goals (first | decide | omega | (simp only [cw, cy, l0, l3, l9] at *; omega) | (trace_state; fail))
theorem v_dropX1 {l : Launch} {ν : am_N} {Q : Option am_V → am_N → Prop} (k : ∀ μ' : am_N, (∀ a b, ¬(a = 53 ∧ b = 1) → ¬(a = 55 ∧ b = 1) → μ' a b = ν a b) → μ' 53 1 = 0 → μ' 55 1 = 0 → Q (some (.inl (ν 53 1))) μ') : am_Does l 17 [.inr (.inr 52)] ν Q := by
  refine am_Does_of (Nat.le_of_ble_eq_true rfl) (Nat.le_of_ble_eq_true rfl) (Nat.le_of_ble_eq_true rfl) ?_
  have kk := fun (x : Int) (e : x = ν 53 1) => am_qe (k (am_up (am_up ν 55 1 0) 53 1 0) (fun a b q1 q2 => (am_uE q1).trans (am_uE q2)) (if_pos ⟨rfl, rfl⟩) ((am_upN (by decide)).trans (if_pos ⟨rfl, rfl⟩))) e
  refine am_go (ct := fun _ => false) am_oX1_drop 300 ?_
  conv => whnf
  repeat' first
    | (refine (?_ : am_wp _ _ _ _ _ _ _ _ _ _ _ _); conv => whnf)
    | (refine (?_ : am_sw _ _ _ _); conv => whnf)
    | refine And.intro trivial ?_
    | exact trivial
    | refine v_drop_X3_55 ?_
    | refine v_drop_X3_53 ?_
    | refine kk _ ?_
    | refine And.intro (fun h => absurd h (by decide)) (fun _ => ?_)
    | refine And.intro (fun _ => ?_) (fun h => absurd (by decide) h)
    | refine And.intro (fun _ => ?_) (fun _ => ?_)
    | refine And.intro ?_ ?_
  all_goals (first | decide | exact am_upN (by decide) | (trace_state; fail))
theorem s_forget {l : Launch} {ν : am_N} {Q : Option am_V → am_N → Prop} (k : ∀ μ' : am_N, (∀ a b, ¬(a = 53 ∧ b = 1) → ¬(a = 55 ∧ b = 1) → μ' a b = ν a b) → μ' 53 1 = 0 → μ' 55 1 = 0 → Q (some (.inl (ν 53 1))) μ') : am_Does l 104 [.inr (.inr 0)] ν Q := by
  refine am_Does_of (Nat.le_of_ble_eq_true rfl) (Nat.le_of_ble_eq_true rfl) (Nat.le_of_ble_eq_true rfl) ?_
  refine am_go (ct := fun _ => false) am_oX6_forget 300 ?_
  conv => whnf
  repeat' first
    | (refine (?_ : am_wp _ _ _ _ _ _ _ _ _ _ _ _); conv => whnf)
    | (refine (?_ : am_sw _ _ _ _); conv => whnf)
    | refine And.intro trivial ?_
    | exact trivial
    | refine v_dropX1 (fun μ2 c1 c2 c3 => ?_)
    | exact k _ c1 c2 c3
    | refine And.intro (fun h => absurd h (by decide)) (fun _ => ?_)
    | refine And.intro (fun _ => ?_) (fun h => absurd (by decide) h)
    | refine And.intro (fun _ => ?_) (fun _ => ?_)
    | refine And.intro ?_ ?_
  all_goals (first | decide | (trace_state; fail))
theorem n_row {l : Launch} {ν : am_N} {Q : Option am_V → am_N → Prop} (v : Int) (cv : am_c v = v) (n0 : 0 ≤ ν 83 42) (n1 : ν 83 42 ≤ 12) (k1 : (0 ≤ v ∧ v ≤ 99) → ν 83 42 < 12 → ∀ μ' : am_N, (∀ a b, a ≠ 106 → ¬(a = 83 ∧ b = 42) → μ' a b = ν a b) → μ' 83 42 = ν 83 42 + 1 → (∀ b, μ' 106 b = if b = (ν 83 42).toNat then v else ν 106 b) → Q (some (.inl (ν 83 42 + 1))) μ') (k0 : ∀ (r : Int) (μ' : am_N), ((v < 0 ∧ r = -4) ∨ (99 < v ∧ r = -6) ∨ ((0 ≤ v ∧ v ≤ 99) ∧ ν 83 42 = 12 ∧ r = -6)) → (∀ a b, a ≠ 84 → μ' a b = ν a b) → Q (some (.inl r)) μ') : am_Does l 244 [.inr (.inr 83), .inl v] ν Q := by
  refine am_Does_of (Nat.le_of_ble_eq_true rfl) (Nat.le_of_ble_eq_true rfl) (Nat.le_of_ble_eq_true rfl) ?_
  have l0 : am_c 0 = 0 := rfl
  have l1 : am_c 1 = 1 := rfl
  have l3 : am_c 3 = 3 := rfl
  have l4 : am_c 4 = 4 := rfl
  have l6 : am_c 6 = 6 := rfl
  have l9 : am_c 9 = 9 := rfl
  have l12 : am_c 12 = 12 := rfl
  have l99 : am_c 99 = 99 := rfl
  have l999 : am_c 999 = 999 := rfl
  have m1' : am_c (-1) = -1 := rfl
  have m2' : am_c (-2) = -2 := rfl
  have m3' : am_c (-3) = -3 := rfl
  have m4' : am_c (-4) = -4 := rfl
  have m6' : am_c (-6) = -6 := rfl
  have m9' : am_c (-9) = -9 := rfl
  have cj : am_c (ν 83 42) = ν 83 42 := am_cR (by omega) (by omega)
  have kk := fun (x y : Int) (i : Nat) (ei : i = (ν 83 42).toNat) (ex : x = ν 83 42 + 1) (ey : y = ν 83 42 + 1) (a1 : 0 ≤ v ∧ v ≤ 99) (a2 : ν 83 42 < 12) => (show Q (some (.inl x)) (am_up (am_up ν 106 i v) 83 42 y) by
    rw [ei, ex, ey]
    exact k1 a1 a2 _ (fun a b q1 q2 => (am_uE q2).trans (am_upN q1)) (if_pos ⟨rfl, rfl⟩) (fun b => by rw [am_upN (by decide)]; by_cases d : b = (ν 83 42).toNat; (rw [am_upS, if_pos ⟨rfl, d⟩, if_pos d]); (rw [am_upM d, if_neg d])))
  refine am_go (ct := fun _ => false) am_oX7_row 300 ?_
  conv => whnf
  repeat' first
    | (refine (?_ : am_wp _ _ _ _ _ _ _ _ _ _ _ _); conv => whnf)
    | (refine (?_ : am_sw _ _ _ _); conv => whnf)
    | refine And.intro trivial ?_
    | exact trivial
    | refine x_bound _ _ _ ?_ ?_ ?_ (fun _ => ?_) (fun _ => ?_) (fun _ _ => ?_)
    | refine x_no _ ?_ (fun μr fr => ?_)
    | refine k0 _ _ ?_ fr
    | refine And.intro (fun h => absurd h (by omega)) (fun _ => ?_)
    | refine And.intro (fun _ => ?_) (fun h => absurd h (by omega))
    | refine kk _ _ _ ?_ ?_ ?_ ?_ ?_
    | refine And.intro (fun h => absurd h (by decide)) (fun _ => ?_)
    | refine And.intro (fun _ => ?_) (fun h => absurd (by decide) h)
    | refine And.intro (fun _ => ?_) (fun _ => ?_)
    | refine And.intro ?_ ?_
  all_goals (first | decide | omega | (simp only [cj, l6, l12] at *; omega) | (rw [cj]; done) | (rw [am_upS, if_pos ⟨rfl, rfl⟩, am_upN (by decide)]; done) | (rw [am_upN (by decide)]; done) | (trace_state; fail))
theorem n_time {l : Launch} {ν : am_N} {Q : Option am_V → am_N → Prop} (v : Int) (cv : am_c v = v) (n0 : 0 ≤ ν 83 40) (n1 : ν 83 40 ≤ 6) (k1 : (0 ≤ v ∧ v ≤ 999) → ν 83 40 < 6 → ∀ μ' : am_N, (∀ a b, a ≠ 105 → ¬(a = 83 ∧ b = 40) → μ' a b = ν a b) → μ' 83 40 = ν 83 40 + 1 → (∀ b, μ' 105 b = if b = (ν 83 40).toNat then v else ν 105 b) → Q (some (.inl (ν 83 40 + 1))) μ') (k0 : ∀ (r : Int) (μ' : am_N), ((v < 0 ∧ r = -4) ∨ (999 < v ∧ r = -6) ∨ ((0 ≤ v ∧ v ≤ 999) ∧ ν 83 40 = 6 ∧ r = -6)) → (∀ a b, a ≠ 84 → μ' a b = ν a b) → Q (some (.inl r)) μ') : am_Does l 240 [.inr (.inr 83), .inl v] ν Q := by
  refine am_Does_of (Nat.le_of_ble_eq_true rfl) (Nat.le_of_ble_eq_true rfl) (Nat.le_of_ble_eq_true rfl) ?_
  have l0 : am_c 0 = 0 := rfl
  have l1 : am_c 1 = 1 := rfl
  have l3 : am_c 3 = 3 := rfl
  have l4 : am_c 4 = 4 := rfl
  have l6 : am_c 6 = 6 := rfl
  have l9 : am_c 9 = 9 := rfl
  have l12 : am_c 12 = 12 := rfl
  have l99 : am_c 99 = 99 := rfl
  have l999 : am_c 999 = 999 := rfl
  have m1' : am_c (-1) = -1 := rfl
  have m2' : am_c (-2) = -2 := rfl
  have m3' : am_c (-3) = -3 := rfl
  have m4' : am_c (-4) = -4 := rfl
  have m6' : am_c (-6) = -6 := rfl
  have m9' : am_c (-9) = -9 := rfl
  have cj : am_c (ν 83 40) = ν 83 40 := am_cR (by omega) (by omega)
  have kk := fun (x y : Int) (i : Nat) (ei : i = (ν 83 40).toNat) (ex : x = ν 83 40 + 1) (ey : y = ν 83 40 + 1) (a1 : 0 ≤ v ∧ v ≤ 999) (a2 : ν 83 40 < 6) => (show Q (some (.inl x)) (am_up (am_up ν 105 i v) 83 40 y) by
    rw [ei, ex, ey]
    exact k1 a1 a2 _ (fun a b q1 q2 => (am_uE q2).trans (am_upN q1)) (if_pos ⟨rfl, rfl⟩) (fun b => by rw [am_upN (by decide)]; by_cases d : b = (ν 83 40).toNat; (rw [am_upS, if_pos ⟨rfl, d⟩, if_pos d]); (rw [am_upM d, if_neg d])))
  refine am_go (ct := fun _ => false) am_oX7_time 300 ?_
  conv => whnf
  repeat' first
    | (refine (?_ : am_wp _ _ _ _ _ _ _ _ _ _ _ _); conv => whnf)
    | (refine (?_ : am_sw _ _ _ _); conv => whnf)
    | refine And.intro trivial ?_
    | exact trivial
    | refine x_bound _ _ _ ?_ ?_ ?_ (fun _ => ?_) (fun _ => ?_) (fun _ _ => ?_)
    | refine x_no _ ?_ (fun μr fr => ?_)
    | refine k0 _ _ ?_ fr
    | refine And.intro (fun h => absurd h (by omega)) (fun _ => ?_)
    | refine And.intro (fun _ => ?_) (fun h => absurd h (by omega))
    | refine kk _ _ _ ?_ ?_ ?_ ?_ ?_
    | refine And.intro (fun h => absurd h (by decide)) (fun _ => ?_)
    | refine And.intro (fun _ => ?_) (fun h => absurd (by decide) h)
    | refine And.intro (fun _ => ?_) (fun _ => ?_)
    | refine And.intro ?_ ?_
  all_goals (first | decide | omega | (simp only [cj, l6, l12] at *; omega) | (rw [cj]; done) | (rw [am_upS, if_pos ⟨rfl, rfl⟩, am_upN (by decide)]; done) | (rw [am_upN (by decide)]; done) | (trace_state; fail))
theorem n_bag {l : Launch} {ν : am_N} {Q : Option am_V → am_N → Prop} (v : Int) (cv : am_c v = v) (n0 : 0 ≤ ν 83 15) (n1 : ν 83 15 ≤ 6) (k1 : (1 ≤ v ∧ v ≤ 9) → ν 83 15 < 6 → ∀ μ' : am_N, (∀ a b, a ≠ 91 → ¬(a = 83 ∧ b = 15) → μ' a b = ν a b) → μ' 83 15 = ν 83 15 + 1 → (∀ b, μ' 91 b = if b = (ν 83 15).toNat then v else ν 91 b) → Q (some (.inl (ν 83 15 + 1))) μ') (k0 : ∀ (r : Int) (μ' : am_N), ((v < 1 ∧ r = -4) ∨ (9 < v ∧ r = -6) ∨ ((1 ≤ v ∧ v ≤ 9) ∧ ν 83 15 = 6 ∧ r = -6)) → (∀ a b, a ≠ 84 → μ' a b = ν a b) → Q (some (.inl r)) μ') : am_Does l 213 [.inr (.inr 83), .inl v] ν Q := by
  refine am_Does_of (Nat.le_of_ble_eq_true rfl) (Nat.le_of_ble_eq_true rfl) (Nat.le_of_ble_eq_true rfl) ?_
  have l0 : am_c 0 = 0 := rfl
  have l1 : am_c 1 = 1 := rfl
  have l3 : am_c 3 = 3 := rfl
  have l4 : am_c 4 = 4 := rfl
  have l6 : am_c 6 = 6 := rfl
  have l9 : am_c 9 = 9 := rfl
  have l12 : am_c 12 = 12 := rfl
  have l99 : am_c 99 = 99 := rfl
  have l999 : am_c 999 = 999 := rfl
  have m1' : am_c (-1) = -1 := rfl
  have m2' : am_c (-2) = -2 := rfl
  have m3' : am_c (-3) = -3 := rfl
  have m4' : am_c (-4) = -4 := rfl
  have m6' : am_c (-6) = -6 := rfl
  have m9' : am_c (-9) = -9 := rfl
  have cj : am_c (ν 83 15) = ν 83 15 := am_cR (by omega) (by omega)
  have kk := fun (x y : Int) (i : Nat) (ei : i = (ν 83 15).toNat) (ex : x = ν 83 15 + 1) (ey : y = ν 83 15 + 1) (a1 : 1 ≤ v ∧ v ≤ 9) (a2 : ν 83 15 < 6) => (show Q (some (.inl x)) (am_up (am_up ν 91 i v) 83 15 y) by
    rw [ei, ex, ey]
    exact k1 a1 a2 _ (fun a b q1 q2 => (am_uE q2).trans (am_upN q1)) (if_pos ⟨rfl, rfl⟩) (fun b => by rw [am_upN (by decide)]; by_cases d : b = (ν 83 15).toNat; (rw [am_upS, if_pos ⟨rfl, d⟩, if_pos d]); (rw [am_upM d, if_neg d])))
  refine am_go (ct := fun _ => false) am_oX7_bag 300 ?_
  conv => whnf
  repeat' first
    | (refine (?_ : am_wp _ _ _ _ _ _ _ _ _ _ _ _); conv => whnf)
    | (refine (?_ : am_sw _ _ _ _); conv => whnf)
    | refine And.intro trivial ?_
    | exact trivial
    | refine x_bound _ _ _ ?_ ?_ ?_ (fun _ => ?_) (fun _ => ?_) (fun _ _ => ?_)
    | refine x_no _ ?_ (fun μr fr => ?_)
    | refine k0 _ _ ?_ fr
    | refine And.intro (fun h => absurd h (by omega)) (fun _ => ?_)
    | refine And.intro (fun _ => ?_) (fun h => absurd h (by omega))
    | refine kk _ _ _ ?_ ?_ ?_ ?_ ?_
    | refine And.intro (fun h => absurd h (by decide)) (fun _ => ?_)
    | refine And.intro (fun _ => ?_) (fun h => absurd (by decide) h)
    | refine And.intro (fun _ => ?_) (fun _ => ?_)
    | refine And.intro ?_ ?_
  all_goals (first | decide | omega | (simp only [cj, l6, l12] at *; omega) | (rw [cj]; done) | (rw [am_upS, if_pos ⟨rfl, rfl⟩, am_upN (by decide)]; done) | (rw [am_upN (by decide)]; done) | (trace_state; fail))
theorem n_clear {l : Launch} {ν : am_N} {Q : Option am_V → am_N → Prop} (k : ∀ μ' : am_N, (∀ a b, ¬(a = 83 ∧ b = 42) → μ' a b = ν a b) → μ' 83 42 = 0 → Q (some (.inl (ν 83 42))) μ') : am_Does l 248 [.inr (.inr 83)] ν Q := by
  refine am_Does_of (Nat.le_of_ble_eq_true rfl) (Nat.le_of_ble_eq_true rfl) (Nat.le_of_ble_eq_true rfl) ?_
  refine am_go (ct := fun _ => false) am_oX7_clear 300 ?_
  conv => whnf
  repeat' first
    | (refine (?_ : am_wp _ _ _ _ _ _ _ _ _ _ _ _); conv => whnf)
    | (refine (?_ : am_sw _ _ _ _); conv => whnf)
    | refine And.intro trivial ?_
    | exact trivial
    | exact k _ (fun a b q => am_uE q) (if_pos ⟨rfl, rfl⟩)
    | refine And.intro (fun h => absurd h (by decide)) (fun _ => ?_)
    | refine And.intro (fun _ => ?_) (fun h => absurd (by decide) h)
    | refine And.intro (fun _ => ?_) (fun _ => ?_)
    | refine And.intro ?_ ?_
  all_goals (first | decide | (trace_state; fail))
theorem n_wipe {l : Launch} {ν : am_N} {Q : Option am_V → am_N → Prop} (k : ∀ μ' : am_N, (∀ a b, ¬(a = 83 ∧ b = 40) → μ' a b = ν a b) → μ' 83 40 = 0 → Q (some (.inl (ν 83 40))) μ') : am_Does l 241 [.inr (.inr 83)] ν Q := by
  refine am_Does_of (Nat.le_of_ble_eq_true rfl) (Nat.le_of_ble_eq_true rfl) (Nat.le_of_ble_eq_true rfl) ?_
  refine am_go (ct := fun _ => false) am_oX7_wipe 300 ?_
  conv => whnf
  repeat' first
    | (refine (?_ : am_wp _ _ _ _ _ _ _ _ _ _ _ _); conv => whnf)
    | (refine (?_ : am_sw _ _ _ _); conv => whnf)
    | refine And.intro trivial ?_
    | exact trivial
    | exact k _ (fun a b q => am_uE q) (if_pos ⟨rfl, rfl⟩)
    | refine And.intro (fun h => absurd h (by decide)) (fun _ => ?_)
    | refine And.intro (fun _ => ?_) (fun h => absurd (by decide) h)
    | refine And.intro (fun _ => ?_) (fun _ => ?_)
    | refine And.intro ?_ ?_
  all_goals (first | decide | (trace_state; fail))
theorem n_empty {l : Launch} {ν : am_N} {Q : Option am_V → am_N → Prop} (k : ∀ μ' : am_N, (∀ a b, ¬(a = 83 ∧ b = 15) → μ' a b = ν a b) → μ' 83 15 = 0 → Q (some (.inl (ν 83 15))) μ') : am_Does l 214 [.inr (.inr 83)] ν Q := by
  refine am_Does_of (Nat.le_of_ble_eq_true rfl) (Nat.le_of_ble_eq_true rfl) (Nat.le_of_ble_eq_true rfl) ?_
  refine am_go (ct := fun _ => false) am_oX7_empty 300 ?_
  conv => whnf
  repeat' first
    | (refine (?_ : am_wp _ _ _ _ _ _ _ _ _ _ _ _); conv => whnf)
    | (refine (?_ : am_sw _ _ _ _); conv => whnf)
    | refine And.intro trivial ?_
    | exact trivial
    | exact k _ (fun a b q => am_uE q) (if_pos ⟨rfl, rfl⟩)
    | refine And.intro (fun h => absurd h (by decide)) (fun _ => ?_)
    | refine And.intro (fun _ => ?_) (fun h => absurd (by decide) h)
    | refine And.intro (fun _ => ?_) (fun _ => ?_)
    | refine And.intro ?_ ?_
  all_goals (first | decide | (trace_state; fail))
theorem n_forget {l : Launch} {ν : am_N} {Q : Option am_V → am_N → Prop} (k : ∀ μ' : am_N, (∀ a b, ¬(a = 83 ∧ b = 16) → μ' a b = ν a b) → μ' 83 16 = 0 → Q (some (.inl (ν 83 16))) μ') : am_Does l 234 [.inr (.inr 83)] ν Q := by
  refine am_Does_of (Nat.le_of_ble_eq_true rfl) (Nat.le_of_ble_eq_true rfl) (Nat.le_of_ble_eq_true rfl) ?_
  refine am_go (ct := fun _ => false) am_oX7_forget 300 ?_
  conv => whnf
  repeat' first
    | (refine (?_ : am_wp _ _ _ _ _ _ _ _ _ _ _ _); conv => whnf)
    | (refine (?_ : am_sw _ _ _ _); conv => whnf)
    | refine And.intro trivial ?_
    | exact trivial
    | exact k _ (fun a b q => am_uE q) (if_pos ⟨rfl, rfl⟩)
    | refine And.intro (fun h => absurd h (by decide)) (fun _ => ?_)
    | refine And.intro (fun _ => ?_) (fun h => absurd (by decide) h)
    | refine And.intro (fun _ => ?_) (fun _ => ?_)
    | refine And.intro ?_ ?_
  all_goals (first | decide | (trace_state; fail))
theorem n_habit {l : Launch} {ν : am_N} {Q : Option am_V → am_N → Prop} (w y : Int) (cw : am_c w = w) (cy : am_c y = y) (n0 : 0 ≤ ν 83 16) (n1 : ν 83 16 ≤ 4) (k1 : (0 ≤ w ∧ w ≤ 3) → (-9 ≤ y ∧ y ≤ 9) → ν 83 16 < 4 → ∀ μ' : am_N, (∀ a b, a ≠ 92 → a ≠ 93 → ¬(a = 83 ∧ b = 16) → μ' a b = ν a b) → μ' 83 16 = ν 83 16 + 1 → (∀ b, μ' 92 b = if b = (ν 83 16).toNat then w else ν 92 b) → (∀ b, μ' 93 b = if b = (ν 83 16).toNat then y else ν 93 b) → Q (some (.inl (ν 83 16 + 1))) μ') (k0 : ∀ (r : Int) (μ' : am_N), ((¬(0 ≤ w ∧ w ≤ 3) ∧ r = -2) ∨ ((0 ≤ w ∧ w ≤ 3) ∧ y < -9 ∧ r = -4) ∨ ((0 ≤ w ∧ w ≤ 3) ∧ 9 < y ∧ r = -6) ∨ ((0 ≤ w ∧ w ≤ 3) ∧ (-9 ≤ y ∧ y ≤ 9) ∧ ν 83 16 = 4 ∧ r = -6)) → (∀ a b, a ≠ 84 → μ' a b = ν a b) → Q (some (.inl r)) μ') : am_Does l 233 [.inr (.inr 83), .inl w, .inl y] ν Q := by
  refine am_Does_of (Nat.le_of_ble_eq_true rfl) (Nat.le_of_ble_eq_true rfl) (Nat.le_of_ble_eq_true rfl) ?_
  have l0 : am_c 0 = 0 := rfl
  have l1 : am_c 1 = 1 := rfl
  have l3 : am_c 3 = 3 := rfl
  have l4 : am_c 4 = 4 := rfl
  have l6 : am_c 6 = 6 := rfl
  have l9 : am_c 9 = 9 := rfl
  have l12 : am_c 12 = 12 := rfl
  have l99 : am_c 99 = 99 := rfl
  have l999 : am_c 999 = 999 := rfl
  have m1' : am_c (-1) = -1 := rfl
  have m2' : am_c (-2) = -2 := rfl
  have m3' : am_c (-3) = -3 := rfl
  have m4' : am_c (-4) = -4 := rfl
  have m6' : am_c (-6) = -6 := rfl
  have m9' : am_c (-9) = -9 := rfl
  have cj : am_c (ν 83 16) = ν 83 16 := am_cR (by omega) (by omega)
  have kk := fun (x z : Int) (i i2 : Nat) (ei : i = (ν 83 16).toNat) (ei2 : i2 = (ν 83 16).toNat) (ex : x = ν 83 16 + 1) (ez : z = ν 83 16 + 1) (a1 : 0 ≤ w ∧ w ≤ 3) (a2 : -9 ≤ y ∧ y ≤ 9) (a3 : ν 83 16 < 4) => (show Q (some (.inl x)) (am_up (am_up (am_up ν 92 i w) 93 i2 y) 83 16 z) by
    rw [ei, ei2, ex, ez]
    refine k1 a1 a2 a3 _ (fun a b q1 q2 q3 => (am_uE q3).trans ((am_upN q2).trans (am_upN q1))) (if_pos ⟨rfl, rfl⟩) (fun b => ?_) (fun b => ?_)
    · rw [am_upN (by decide), am_upN (by decide)]; by_cases d : b = (ν 83 16).toNat; (rw [am_upS, if_pos ⟨rfl, d⟩, if_pos d]); (rw [am_upM d, if_neg d])
    · rw [am_upN (by decide)]; by_cases d : b = (ν 83 16).toNat; (rw [am_upS, if_pos ⟨rfl, d⟩, if_pos d]); (rw [am_upM d, if_neg d]; exact am_upN (by decide)))
  refine am_go (ct := fun _ => false) am_oX7_habit 300 ?_
  conv => whnf
  repeat' first
    | (refine (?_ : am_wp _ _ _ _ _ _ _ _ _ _ _ _); conv => whnf)
    | (refine (?_ : am_sw _ _ _ _); conv => whnf)
    | refine And.intro trivial ?_
    | exact trivial
    | refine x_isIn w _ _ _ rfl cw ?_ ?_ (fun _ _ => ?_) (fun _ => ?_)
    | refine x_bound _ _ _ ?_ ?_ ?_ (fun _ => ?_) (fun _ => ?_) (fun _ _ => ?_)
    | refine x_no _ ?_ (fun μr fr => ?_)
    | refine k0 _ _ ?_ fr
    | refine And.intro (fun h => absurd h (by omega)) (fun _ => ?_)
    | refine And.intro (fun _ => ?_) (fun h => absurd h (by omega))
    | refine kk _ _ _ _ ?_ ?_ ?_ ?_ ?_ ?_ ?_
    | refine And.intro (fun h => absurd h (by decide)) (fun _ => ?_)
    | refine And.intro (fun _ => ?_) (fun h => absurd (by decide) h)
    | refine And.intro (fun _ => ?_) (fun _ => ?_)
    | refine And.intro ?_ ?_
  all_goals (first | decide | omega | (simp only [cj, l4] at *; omega) | (rw [cj]; done) | (rw [am_upN (by decide), cj]; done) | (rw [am_upN (by decide), cj]; omega) | (rw [am_upS, if_pos ⟨rfl, rfl⟩, am_upN (by decide), am_upN (by decide)]; done) | (rw [am_upN (by decide), am_upN (by decide)]; done) | (trace_state; fail))
theorem LI_row {μ μ1 μ2 : am_N} (hI : lx_I μ) (f1 : ∀ a b, ¬(a = 44 ∧ b = 1) → a ≠ 45 → μ1 a b = μ a b) (f2 : ∀ a b, a ≠ 106 → ¬(a = 83 ∧ b = 42) → μ2 a b = μ1 a b) (e1 : 0 ≤ μ1 44 1 ∧ μ1 44 1 ≤ 12) (e2 : 0 ≤ μ2 83 42 ∧ μ2 83 42 ≤ 12) : lx_I μ2 := by
  obtain ⟨hS, hm, hR0, hL, hB, hJ⟩ := hI
  have hb := sx_all hS
  have hc := mi_all hm
  have g : ∀ a b, ¬(a = 44 ∧ b = 1) → a ≠ 45 → a ≠ 106 → ¬(a = 83 ∧ b = 42) → μ2 a b = μ a b := fun a b h1 h2 h3 h4 => (f2 a b h3 h4).trans (f1 a b h1 h2)
  have d1 : 0 ≤ μ2 44 1 ∧ μ2 44 1 ≤ 12 := by rw [f2 44 1 (by omega) (by omega)]; exact e1
  refine ⟨⟨fun _ _ _ => rfl, fun p hp => by rw [g 34 p (by omega) (by omega) (by omega) (by omega)]; exact hS.2.1 p hp, fun p hp => by rw [g 43 p (by omega) (by omega) (by omega) (by omega)]; exact hS.2.2.1 p hp, by have q := hS.2.2.2.1; unfold sx_4 at q ⊢; rw [g 8 4 (by omega) (by omega) (by omega) (by omega), g 15 4 (by omega) (by omega) (by omega) (by omega), g 29 0 (by omega) (by omega) (by omega) (by omega), g 38 0 (by omega) (by omega) (by omega) (by omega)]; omega, by have q := hS.2.2.2.2; unfold px at q ⊢; rw [g 1 4 (by omega) (by omega) (by omega) (by omega), g 22 4 (by omega) (by omega) (by omega) (by omega), g 36 1 (by omega) (by omega) (by omega) (by omega), g 46 1 (by omega) (by omega) (by omega) (by omega), g 48 1 (by omega) (by omega) (by omega) (by omega), g 50 1 (by omega) (by omega) (by omega) (by omega), g 53 1 (by omega) (by omega) (by omega) (by omega), g 55 1 (by omega) (by omega) (by omega) (by omega), g 58 1 (by omega) (by omega) (by omega) (by omega), g 60 1 (by omega) (by omega) (by omega) (by omega), g 62 3 (by omega) (by omega) (by omega) (by omega)]; omega⟩, ?_, rq_F_keep hR0 (fun a b h1 h2 => (g a b (by omega) (by omega) (by omega) (by omega))) (fun a b h => (g a b (by omega) (by omega) (by omega) (by omega))), rq_L_keep hL (g _ _ (by omega) (by omega) (by omega) (by omega)) (fun b => (g _ _ (by omega) (by omega) (by omega) (by omega))) (g _ _ (by omega) (by omega) (by omega) (by omega)) (fun b => (g _ _ (by omega) (by omega) (by omega) (by omega))), rq_B_keep hB (g _ _ (by omega) (by omega) (by omega) (by omega)) (g _ _ (by omega) (by omega) (by omega) (by omega)) (fun a b h1 h2 => (g _ _ (by omega) (by omega) (by omega) (by omega))) (fun a b h1 h2 => (g _ _ (by omega) (by omega) (by omega) (by omega))) (by omega), rq_I_keep hJ (g _ _ (by omega) (by omega) (by omega) (by omega)) (g _ _ (by omega) (by omega) (by omega) (by omega)) (fun a b h1 h2 => (g _ _ (by omega) (by omega) (by omega) (by omega))) (fun b hb => (g _ _ (by omega) (by omega) (by omega) (by omega)))⟩
  unfold mi at hm ⊢
  rw [g 83 14 (by omega) (by omega) (by omega) (by omega), g 83 15 (by omega) (by omega) (by omega) (by omega), g 83 16 (by omega) (by omega) (by omega) (by omega), g 83 21 (by omega) (by omega) (by omega) (by omega), g 83 33 (by omega) (by omega) (by omega) (by omega), g 83 40 (by omega) (by omega) (by omega) (by omega), g 98 44 (by omega) (by omega) (by omega) (by omega), g 98 38 (by omega) (by omega) (by omega) (by omega), g 98 39 (by omega) (by omega) (by omega) (by omega)]
  refine ⟨hm.1, hm.2.1, hm.2.2.1, hm.2.2.2.1, hm.2.2.2.2.1, hm.2.2.2.2.2.1, e2, hm.2.2.2.2.2.2.2.1, hm.2.2.2.2.2.2.2.2.1, hm.2.2.2.2.2.2.2.2.2.1, fun p hp => ?_⟩
  rw [g 100 p (by omega) (by omega) (by omega) (by omega)]
  exact hm.2.2.2.2.2.2.2.2.2.2 p hp
theorem LJ_row {μ μ1 μ2 : am_N} (hJ : lx_J μ) (f1 : ∀ a b, ¬(a = 44 ∧ b = 1) → a ≠ 45 → μ1 a b = μ a b) (f2 : ∀ a b, a ≠ 106 → ¬(a = 83 ∧ b = 42) → μ2 a b = μ1 a b) (e1 : 0 ≤ μ1 44 1 ∧ μ1 44 1 ≤ 12) (e2 : 0 ≤ μ2 83 42 ∧ μ2 83 42 ≤ 12) (hw : rq_w 42 106 44 0 99 μ2) : lx_J μ2 := by
  have g : ∀ a b, ¬(a = 44 ∧ b = 1) → a ≠ 45 → a ≠ 106 → ¬(a = 83 ∧ b = 42) → μ2 a b = μ a b := fun a b h1 h2 h3 h4 => (f2 a b h3 h4).trans (f1 a b h1 h2)
  have hC := hJ.2
  exact ⟨LI_row hJ.1 f1 f2 e1 e2, hw, rq_w_keep hC.2.1 (g 46 1 (by omega) (by omega) (by omega) (by omega)) (fun b => (g 47 b (by omega) (by omega) (by omega) (by omega))) (g 83 40 (by omega) (by omega) (by omega) (by omega)) (fun b _ => (g 105 b (by omega) (by omega) (by omega) (by omega))), rq_w_keep hC.2.2.1 (g 48 1 (by omega) (by omega) (by omega) (by omega)) (fun b => (g 49 b (by omega) (by omega) (by omega) (by omega))) (g 83 15 (by omega) (by omega) (by omega) (by omega)) (fun b _ => (g 91 b (by omega) (by omega) (by omega) (by omega))), rq_w_keep hC.2.2.2.1 (g 53 1 (by omega) (by omega) (by omega) (by omega)) (fun b => (g 54 b (by omega) (by omega) (by omega) (by omega))) (g 83 16 (by omega) (by omega) (by omega) (by omega)) (fun b _ => (g 92 b (by omega) (by omega) (by omega) (by omega))), rq_w_keep hC.2.2.2.2.1 (g 55 1 (by omega) (by omega) (by omega) (by omega)) (fun b => (g 56 b (by omega) (by omega) (by omega) (by omega))) (g 83 16 (by omega) (by omega) (by omega) (by omega)) (fun b _ => (g 93 b (by omega) (by omega) (by omega) (by omega))), rq_S_keep hC.2.2.2.2.2 hJ.1.2.1 (fun a b q => g a b (by omega) (by omega) (by omega) (by omega))⟩
theorem LJ_row1 {μ μ1 μ2 : am_N} {v : Int} (hJ : lx_J μ) (hv : 0 ≤ v ∧ v ≤ 99) (hC : μ 44 1 < 12) (f1 : ∀ a b, ¬(a = 44 ∧ b = 1) → a ≠ 45 → μ1 a b = μ a b) (e1 : μ1 44 1 = μ 44 1 + 1) (x1 : ∀ b, μ1 45 b = if b = (μ 44 1).toNat then v else μ 45 b) (f2 : ∀ a b, a ≠ 106 → ¬(a = 83 ∧ b = 42) → μ2 a b = μ1 a b) (e2 : μ2 83 42 = μ1 83 42 + 1) (x2 : ∀ b, μ2 106 b = if b = (μ1 83 42).toNat then v else μ1 106 b) : lx_J μ2 := by
  have hw := hJ.2.1
  have hb := mi_all hJ.1.2.1
  have h1 := hw.1
  have d : μ1 83 42 = μ 83 42 := f1 83 42 (by omega) (by omega)
  exact LJ_row hJ f1 f2 (by omega) (by omega) (rq_w_put hw (by omega) hv ((f2 44 1 (by omega) (by omega)).trans e1) (fun b => (f2 45 b (by omega) (by omega)).trans (x1 b)) (by rw [e2, d]) (fun b => by rw [x2, d, f1 106 b (by omega) (by omega)]))
theorem LJ_row0 {μ μ1 μ2 : am_N} (hJ : lx_J μ) (f1 : ∀ a b, ¬(a = 44 ∧ b = 1) → μ1 a b = μ a b) (e1 : μ1 44 1 = 0) (f2 : ∀ a b, ¬(a = 83 ∧ b = 42) → μ2 a b = μ1 a b) (e2 : μ2 83 42 = 0) : lx_J μ2 := LJ_row hJ (fun a b q _ => f1 a b q) (fun a b _ q => f2 a b q) (by rw [e1]; decide) (by rw [e2]; decide) (rq_w_zero ((f2 44 1 (by omega)).trans e1) e2)
theorem LI_time {μ μ1 μ2 : am_N} (hI : lx_I μ) (f1 : ∀ a b, ¬(a = 46 ∧ b = 1) → a ≠ 47 → μ1 a b = μ a b) (f2 : ∀ a b, a ≠ 105 → ¬(a = 83 ∧ b = 40) → μ2 a b = μ1 a b) (e1 : 0 ≤ μ1 46 1 ∧ μ1 46 1 ≤ 6) (e2 : 0 ≤ μ2 83 40 ∧ μ2 83 40 ≤ 6) : lx_I μ2 := by
  obtain ⟨hS, hm, hR0, hL, hB, hJ⟩ := hI
  have hb := sx_all hS
  have hc := mi_all hm
  have g : ∀ a b, ¬(a = 46 ∧ b = 1) → a ≠ 47 → a ≠ 105 → ¬(a = 83 ∧ b = 40) → μ2 a b = μ a b := fun a b h1 h2 h3 h4 => (f2 a b h3 h4).trans (f1 a b h1 h2)
  have d1 : 0 ≤ μ2 46 1 ∧ μ2 46 1 ≤ 6 := by rw [f2 46 1 (by omega) (by omega)]; exact e1
  refine ⟨⟨fun _ _ _ => rfl, fun p hp => by rw [g 34 p (by omega) (by omega) (by omega) (by omega)]; exact hS.2.1 p hp, fun p hp => by rw [g 43 p (by omega) (by omega) (by omega) (by omega)]; exact hS.2.2.1 p hp, by have q := hS.2.2.2.1; unfold sx_4 at q ⊢; rw [g 8 4 (by omega) (by omega) (by omega) (by omega), g 15 4 (by omega) (by omega) (by omega) (by omega), g 29 0 (by omega) (by omega) (by omega) (by omega), g 38 0 (by omega) (by omega) (by omega) (by omega)]; omega, by have q := hS.2.2.2.2; unfold px at q ⊢; rw [g 1 4 (by omega) (by omega) (by omega) (by omega), g 22 4 (by omega) (by omega) (by omega) (by omega), g 36 1 (by omega) (by omega) (by omega) (by omega), g 44 1 (by omega) (by omega) (by omega) (by omega), g 48 1 (by omega) (by omega) (by omega) (by omega), g 50 1 (by omega) (by omega) (by omega) (by omega), g 53 1 (by omega) (by omega) (by omega) (by omega), g 55 1 (by omega) (by omega) (by omega) (by omega), g 58 1 (by omega) (by omega) (by omega) (by omega), g 60 1 (by omega) (by omega) (by omega) (by omega), g 62 3 (by omega) (by omega) (by omega) (by omega)]; omega⟩, ?_, rq_F_keep hR0 (fun a b h1 h2 => (g a b (by omega) (by omega) (by omega) (by omega))) (fun a b h => (g a b (by omega) (by omega) (by omega) (by omega))), rq_L_keep hL (g _ _ (by omega) (by omega) (by omega) (by omega)) (fun b => (g _ _ (by omega) (by omega) (by omega) (by omega))) (g _ _ (by omega) (by omega) (by omega) (by omega)) (fun b => (g _ _ (by omega) (by omega) (by omega) (by omega))), rq_B_keep hB (g _ _ (by omega) (by omega) (by omega) (by omega)) (g _ _ (by omega) (by omega) (by omega) (by omega)) (fun a b h1 h2 => (g _ _ (by omega) (by omega) (by omega) (by omega))) (fun a b h1 h2 => (g _ _ (by omega) (by omega) (by omega) (by omega))) (by omega), rq_I_keep hJ (g _ _ (by omega) (by omega) (by omega) (by omega)) (g _ _ (by omega) (by omega) (by omega) (by omega)) (fun a b h1 h2 => (g _ _ (by omega) (by omega) (by omega) (by omega))) (fun b hb => (g _ _ (by omega) (by omega) (by omega) (by omega)))⟩
  unfold mi at hm ⊢
  rw [g 83 14 (by omega) (by omega) (by omega) (by omega), g 83 15 (by omega) (by omega) (by omega) (by omega), g 83 16 (by omega) (by omega) (by omega) (by omega), g 83 21 (by omega) (by omega) (by omega) (by omega), g 83 33 (by omega) (by omega) (by omega) (by omega), g 83 42 (by omega) (by omega) (by omega) (by omega), g 98 44 (by omega) (by omega) (by omega) (by omega), g 98 38 (by omega) (by omega) (by omega) (by omega), g 98 39 (by omega) (by omega) (by omega) (by omega)]
  refine ⟨hm.1, hm.2.1, hm.2.2.1, hm.2.2.2.1, hm.2.2.2.2.1, e2, hm.2.2.2.2.2.2.1, hm.2.2.2.2.2.2.2.1, hm.2.2.2.2.2.2.2.2.1, hm.2.2.2.2.2.2.2.2.2.1, fun p hp => ?_⟩
  rw [g 100 p (by omega) (by omega) (by omega) (by omega)]
  exact hm.2.2.2.2.2.2.2.2.2.2 p hp
theorem LJ_time {μ μ1 μ2 : am_N} (hJ : lx_J μ) (f1 : ∀ a b, ¬(a = 46 ∧ b = 1) → a ≠ 47 → μ1 a b = μ a b) (f2 : ∀ a b, a ≠ 105 → ¬(a = 83 ∧ b = 40) → μ2 a b = μ1 a b) (e1 : 0 ≤ μ1 46 1 ∧ μ1 46 1 ≤ 6) (e2 : 0 ≤ μ2 83 40 ∧ μ2 83 40 ≤ 6) (hw : rq_w 40 105 46 0 999 μ2) : lx_J μ2 := by
  have g : ∀ a b, ¬(a = 46 ∧ b = 1) → a ≠ 47 → a ≠ 105 → ¬(a = 83 ∧ b = 40) → μ2 a b = μ a b := fun a b h1 h2 h3 h4 => (f2 a b h3 h4).trans (f1 a b h1 h2)
  have hC := hJ.2
  exact ⟨LI_time hJ.1 f1 f2 e1 e2, rq_w_keep hC.1 (g 44 1 (by omega) (by omega) (by omega) (by omega)) (fun b => (g 45 b (by omega) (by omega) (by omega) (by omega))) (g 83 42 (by omega) (by omega) (by omega) (by omega)) (fun b _ => (g 106 b (by omega) (by omega) (by omega) (by omega))), hw, rq_w_keep hC.2.2.1 (g 48 1 (by omega) (by omega) (by omega) (by omega)) (fun b => (g 49 b (by omega) (by omega) (by omega) (by omega))) (g 83 15 (by omega) (by omega) (by omega) (by omega)) (fun b _ => (g 91 b (by omega) (by omega) (by omega) (by omega))), rq_w_keep hC.2.2.2.1 (g 53 1 (by omega) (by omega) (by omega) (by omega)) (fun b => (g 54 b (by omega) (by omega) (by omega) (by omega))) (g 83 16 (by omega) (by omega) (by omega) (by omega)) (fun b _ => (g 92 b (by omega) (by omega) (by omega) (by omega))), rq_w_keep hC.2.2.2.2.1 (g 55 1 (by omega) (by omega) (by omega) (by omega)) (fun b => (g 56 b (by omega) (by omega) (by omega) (by omega))) (g 83 16 (by omega) (by omega) (by omega) (by omega)) (fun b _ => (g 93 b (by omega) (by omega) (by omega) (by omega))), rq_S_keep hC.2.2.2.2.2 hJ.1.2.1 (fun a b q => g a b (by omega) (by omega) (by omega) (by omega))⟩
theorem LJ_time1 {μ μ1 μ2 : am_N} {v : Int} (hJ : lx_J μ) (hv : 0 ≤ v ∧ v ≤ 999) (hC : μ 46 1 < 6) (f1 : ∀ a b, ¬(a = 46 ∧ b = 1) → a ≠ 47 → μ1 a b = μ a b) (e1 : μ1 46 1 = μ 46 1 + 1) (x1 : ∀ b, μ1 47 b = if b = (μ 46 1).toNat then v else μ 47 b) (f2 : ∀ a b, a ≠ 105 → ¬(a = 83 ∧ b = 40) → μ2 a b = μ1 a b) (e2 : μ2 83 40 = μ1 83 40 + 1) (x2 : ∀ b, μ2 105 b = if b = (μ1 83 40).toNat then v else μ1 105 b) : lx_J μ2 := by
  have hw := hJ.2.2.1
  have hb := mi_all hJ.1.2.1
  have h1 := hw.1
  have d : μ1 83 40 = μ 83 40 := f1 83 40 (by omega) (by omega)
  exact LJ_time hJ f1 f2 (by omega) (by omega) (rq_w_put hw (by omega) hv ((f2 46 1 (by omega) (by omega)).trans e1) (fun b => (f2 47 b (by omega) (by omega)).trans (x1 b)) (by rw [e2, d]) (fun b => by rw [x2, d, f1 105 b (by omega) (by omega)]))
theorem LJ_time0 {μ μ1 μ2 : am_N} (hJ : lx_J μ) (f1 : ∀ a b, ¬(a = 46 ∧ b = 1) → μ1 a b = μ a b) (e1 : μ1 46 1 = 0) (f2 : ∀ a b, ¬(a = 83 ∧ b = 40) → μ2 a b = μ1 a b) (e2 : μ2 83 40 = 0) : lx_J μ2 := LJ_time hJ (fun a b q _ => f1 a b q) (fun a b _ q => f2 a b q) (by rw [e1]; decide) (by rw [e2]; decide) (rq_w_zero ((f2 46 1 (by omega)).trans e1) e2)
theorem LI_bag {μ μ1 μ2 : am_N} (hI : lx_I μ) (f1 : ∀ a b, ¬(a = 48 ∧ b = 1) → a ≠ 49 → μ1 a b = μ a b) (f2 : ∀ a b, a ≠ 91 → ¬(a = 83 ∧ b = 15) → μ2 a b = μ1 a b) (e1 : 0 ≤ μ1 48 1 ∧ μ1 48 1 ≤ 6) (e2 : 0 ≤ μ2 83 15 ∧ μ2 83 15 ≤ 6) : lx_I μ2 := by
  obtain ⟨hS, hm, hR0, hL, hB, hJ⟩ := hI
  have hb := sx_all hS
  have hc := mi_all hm
  have g : ∀ a b, ¬(a = 48 ∧ b = 1) → a ≠ 49 → a ≠ 91 → ¬(a = 83 ∧ b = 15) → μ2 a b = μ a b := fun a b h1 h2 h3 h4 => (f2 a b h3 h4).trans (f1 a b h1 h2)
  have d1 : 0 ≤ μ2 48 1 ∧ μ2 48 1 ≤ 6 := by rw [f2 48 1 (by omega) (by omega)]; exact e1
  refine ⟨⟨fun _ _ _ => rfl, fun p hp => by rw [g 34 p (by omega) (by omega) (by omega) (by omega)]; exact hS.2.1 p hp, fun p hp => by rw [g 43 p (by omega) (by omega) (by omega) (by omega)]; exact hS.2.2.1 p hp, by have q := hS.2.2.2.1; unfold sx_4 at q ⊢; rw [g 8 4 (by omega) (by omega) (by omega) (by omega), g 15 4 (by omega) (by omega) (by omega) (by omega), g 29 0 (by omega) (by omega) (by omega) (by omega), g 38 0 (by omega) (by omega) (by omega) (by omega)]; omega, by have q := hS.2.2.2.2; unfold px at q ⊢; rw [g 1 4 (by omega) (by omega) (by omega) (by omega), g 22 4 (by omega) (by omega) (by omega) (by omega), g 36 1 (by omega) (by omega) (by omega) (by omega), g 44 1 (by omega) (by omega) (by omega) (by omega), g 46 1 (by omega) (by omega) (by omega) (by omega), g 50 1 (by omega) (by omega) (by omega) (by omega), g 53 1 (by omega) (by omega) (by omega) (by omega), g 55 1 (by omega) (by omega) (by omega) (by omega), g 58 1 (by omega) (by omega) (by omega) (by omega), g 60 1 (by omega) (by omega) (by omega) (by omega), g 62 3 (by omega) (by omega) (by omega) (by omega)]; omega⟩, ?_, rq_F_keep hR0 (fun a b h1 h2 => (g a b (by omega) (by omega) (by omega) (by omega))) (fun a b h => (g a b (by omega) (by omega) (by omega) (by omega))), rq_L_keep hL (g _ _ (by omega) (by omega) (by omega) (by omega)) (fun b => (g _ _ (by omega) (by omega) (by omega) (by omega))) (g _ _ (by omega) (by omega) (by omega) (by omega)) (fun b => (g _ _ (by omega) (by omega) (by omega) (by omega))), rq_B_keep hB (g _ _ (by omega) (by omega) (by omega) (by omega)) (g _ _ (by omega) (by omega) (by omega) (by omega)) (fun a b h1 h2 => (g _ _ (by omega) (by omega) (by omega) (by omega))) (fun a b h1 h2 => (g _ _ (by omega) (by omega) (by omega) (by omega))) (by omega), rq_I_keep hJ (g _ _ (by omega) (by omega) (by omega) (by omega)) (g _ _ (by omega) (by omega) (by omega) (by omega)) (fun a b h1 h2 => (g _ _ (by omega) (by omega) (by omega) (by omega))) (fun b hb => (g _ _ (by omega) (by omega) (by omega) (by omega)))⟩
  unfold mi at hm ⊢
  rw [g 83 14 (by omega) (by omega) (by omega) (by omega), g 83 16 (by omega) (by omega) (by omega) (by omega), g 83 21 (by omega) (by omega) (by omega) (by omega), g 83 33 (by omega) (by omega) (by omega) (by omega), g 83 40 (by omega) (by omega) (by omega) (by omega), g 83 42 (by omega) (by omega) (by omega) (by omega), g 98 44 (by omega) (by omega) (by omega) (by omega), g 98 38 (by omega) (by omega) (by omega) (by omega), g 98 39 (by omega) (by omega) (by omega) (by omega)]
  refine ⟨hm.1, e2, hm.2.2.1, hm.2.2.2.1, hm.2.2.2.2.1, hm.2.2.2.2.2.1, hm.2.2.2.2.2.2.1, hm.2.2.2.2.2.2.2.1, hm.2.2.2.2.2.2.2.2.1, hm.2.2.2.2.2.2.2.2.2.1, fun p hp => ?_⟩
  rw [g 100 p (by omega) (by omega) (by omega) (by omega)]
  exact hm.2.2.2.2.2.2.2.2.2.2 p hp
theorem LJ_bag {μ μ1 μ2 : am_N} (hJ : lx_J μ) (f1 : ∀ a b, ¬(a = 48 ∧ b = 1) → a ≠ 49 → μ1 a b = μ a b) (f2 : ∀ a b, a ≠ 91 → ¬(a = 83 ∧ b = 15) → μ2 a b = μ1 a b) (e1 : 0 ≤ μ1 48 1 ∧ μ1 48 1 ≤ 6) (e2 : 0 ≤ μ2 83 15 ∧ μ2 83 15 ≤ 6) (hw : rq_w 15 91 48 1 9 μ2) : lx_J μ2 := by
  have g : ∀ a b, ¬(a = 48 ∧ b = 1) → a ≠ 49 → a ≠ 91 → ¬(a = 83 ∧ b = 15) → μ2 a b = μ a b := fun a b h1 h2 h3 h4 => (f2 a b h3 h4).trans (f1 a b h1 h2)
  have hC := hJ.2
  exact ⟨LI_bag hJ.1 f1 f2 e1 e2, rq_w_keep hC.1 (g 44 1 (by omega) (by omega) (by omega) (by omega)) (fun b => (g 45 b (by omega) (by omega) (by omega) (by omega))) (g 83 42 (by omega) (by omega) (by omega) (by omega)) (fun b _ => (g 106 b (by omega) (by omega) (by omega) (by omega))), rq_w_keep hC.2.1 (g 46 1 (by omega) (by omega) (by omega) (by omega)) (fun b => (g 47 b (by omega) (by omega) (by omega) (by omega))) (g 83 40 (by omega) (by omega) (by omega) (by omega)) (fun b _ => (g 105 b (by omega) (by omega) (by omega) (by omega))), hw, rq_w_keep hC.2.2.2.1 (g 53 1 (by omega) (by omega) (by omega) (by omega)) (fun b => (g 54 b (by omega) (by omega) (by omega) (by omega))) (g 83 16 (by omega) (by omega) (by omega) (by omega)) (fun b _ => (g 92 b (by omega) (by omega) (by omega) (by omega))), rq_w_keep hC.2.2.2.2.1 (g 55 1 (by omega) (by omega) (by omega) (by omega)) (fun b => (g 56 b (by omega) (by omega) (by omega) (by omega))) (g 83 16 (by omega) (by omega) (by omega) (by omega)) (fun b _ => (g 93 b (by omega) (by omega) (by omega) (by omega))), rq_S_keep hC.2.2.2.2.2 hJ.1.2.1 (fun a b q => g a b (by omega) (by omega) (by omega) (by omega))⟩
theorem LJ_bag1 {μ μ1 μ2 : am_N} {v : Int} (hJ : lx_J μ) (hv : 1 ≤ v ∧ v ≤ 9) (hC : μ 48 1 < 6) (f1 : ∀ a b, ¬(a = 48 ∧ b = 1) → a ≠ 49 → μ1 a b = μ a b) (e1 : μ1 48 1 = μ 48 1 + 1) (x1 : ∀ b, μ1 49 b = if b = (μ 48 1).toNat then v else μ 49 b) (f2 : ∀ a b, a ≠ 91 → ¬(a = 83 ∧ b = 15) → μ2 a b = μ1 a b) (e2 : μ2 83 15 = μ1 83 15 + 1) (x2 : ∀ b, μ2 91 b = if b = (μ1 83 15).toNat then v else μ1 91 b) : lx_J μ2 := by
  have hw := hJ.2.2.2.1
  have hb := mi_all hJ.1.2.1
  have h1 := hw.1
  have d : μ1 83 15 = μ 83 15 := f1 83 15 (by omega) (by omega)
  exact LJ_bag hJ f1 f2 (by omega) (by omega) (rq_w_put hw (by omega) hv ((f2 48 1 (by omega) (by omega)).trans e1) (fun b => (f2 49 b (by omega) (by omega)).trans (x1 b)) (by rw [e2, d]) (fun b => by rw [x2, d, f1 91 b (by omega) (by omega)]))
theorem LJ_bag0 {μ μ1 μ2 : am_N} (hJ : lx_J μ) (f1 : ∀ a b, ¬(a = 48 ∧ b = 1) → μ1 a b = μ a b) (e1 : μ1 48 1 = 0) (f2 : ∀ a b, ¬(a = 83 ∧ b = 15) → μ2 a b = μ1 a b) (e2 : μ2 83 15 = 0) : lx_J μ2 := LJ_bag hJ (fun a b q _ => f1 a b q) (fun a b _ q => f2 a b q) (by rw [e1]; decide) (by rw [e2]; decide) (rq_w_zero ((f2 48 1 (by omega)).trans e1) e2)
theorem LJ_hab {μ μ1 μ2 : am_N} (hJ : lx_J μ) (f1 : ∀ a b, ¬(a = 53 ∧ b = 1) → ¬(a = 55 ∧ b = 1) → a ≠ 54 → a ≠ 56 → μ1 a b = μ a b) (f2 : ∀ a b, a ≠ 92 → a ≠ 93 → ¬(a = 83 ∧ b = 16) → μ2 a b = μ1 a b) (e1 : 0 ≤ μ1 53 1 ∧ μ1 53 1 ≤ 4) (e1' : 0 ≤ μ1 55 1 ∧ μ1 55 1 ≤ 4) (e2 : 0 ≤ μ2 83 16 ∧ μ2 83 16 ≤ 4) (hw : rq_w 16 92 53 0 3 μ2) (hy : rq_w 16 93 55 (-9) 9 μ2) : lx_J μ2 := by
  obtain ⟨hI, hC⟩ := hJ
  obtain ⟨hS, hm, hR0, hL, hB, hJ⟩ := hI
  have hb := sx_all hS
  have hc := mi_all hm
  have g : ∀ a b, ¬(a = 53 ∧ b = 1) → ¬(a = 55 ∧ b = 1) → a ≠ 54 → a ≠ 56 → a ≠ 92 → a ≠ 93 → ¬(a = 83 ∧ b = 16) → μ2 a b = μ a b := fun a b h1 h2 h3 h4 h5 h6 h7 => (f2 a b h5 h6 h7).trans (f1 a b h1 h2 h3 h4)
  have d1 : 0 ≤ μ2 53 1 ∧ μ2 53 1 ≤ 4 := by rw [f2 53 1 (by omega) (by omega) (by omega)]; exact e1
  have d2 : 0 ≤ μ2 55 1 ∧ μ2 55 1 ≤ 4 := by rw [f2 55 1 (by omega) (by omega) (by omega)]; exact e1'
  refine ⟨⟨⟨fun _ _ _ => rfl, fun p hp => by rw [g 34 p (by omega) (by omega) (by omega) (by omega) (by omega) (by omega) (by omega)]; exact hS.2.1 p hp, fun p hp => by rw [g 43 p (by omega) (by omega) (by omega) (by omega) (by omega) (by omega) (by omega)]; exact hS.2.2.1 p hp, by have q := hS.2.2.2.1; unfold sx_4 at q ⊢; rw [g 8 4 (by omega) (by omega) (by omega) (by omega) (by omega) (by omega) (by omega), g 15 4 (by omega) (by omega) (by omega) (by omega) (by omega) (by omega) (by omega), g 29 0 (by omega) (by omega) (by omega) (by omega) (by omega) (by omega) (by omega), g 38 0 (by omega) (by omega) (by omega) (by omega) (by omega) (by omega) (by omega)]; omega, by have q := hS.2.2.2.2; unfold px at q ⊢; rw [g 1 4 (by omega) (by omega) (by omega) (by omega) (by omega) (by omega) (by omega), g 22 4 (by omega) (by omega) (by omega) (by omega) (by omega) (by omega) (by omega), g 36 1 (by omega) (by omega) (by omega) (by omega) (by omega) (by omega) (by omega), g 44 1 (by omega) (by omega) (by omega) (by omega) (by omega) (by omega) (by omega), g 46 1 (by omega) (by omega) (by omega) (by omega) (by omega) (by omega) (by omega), g 48 1 (by omega) (by omega) (by omega) (by omega) (by omega) (by omega) (by omega), g 50 1 (by omega) (by omega) (by omega) (by omega) (by omega) (by omega) (by omega), g 58 1 (by omega) (by omega) (by omega) (by omega) (by omega) (by omega) (by omega), g 60 1 (by omega) (by omega) (by omega) (by omega) (by omega) (by omega) (by omega), g 62 3 (by omega) (by omega) (by omega) (by omega) (by omega) (by omega) (by omega)]; omega⟩, ?_, rq_F_keep hR0 (fun a b h1 h2 => (g a b (by omega) (by omega) (by omega) (by omega) (by omega) (by omega) (by omega))) (fun a b h => (g a b (by omega) (by omega) (by omega) (by omega) (by omega) (by omega) (by omega))), rq_L_keep hL (g _ _ (by omega) (by omega) (by omega) (by omega) (by omega) (by omega) (by omega)) (fun b => (g _ _ (by omega) (by omega) (by omega) (by omega) (by omega) (by omega) (by omega))) (g _ _ (by omega) (by omega) (by omega) (by omega) (by omega) (by omega) (by omega)) (fun b => (g _ _ (by omega) (by omega) (by omega) (by omega) (by omega) (by omega) (by omega))), rq_B_keep hB (g _ _ (by omega) (by omega) (by omega) (by omega) (by omega) (by omega) (by omega)) (g _ _ (by omega) (by omega) (by omega) (by omega) (by omega) (by omega) (by omega)) (fun a b h1 h2 => (g _ _ (by omega) (by omega) (by omega) (by omega) (by omega) (by omega) (by omega))) (fun a b h1 h2 => (g _ _ (by omega) (by omega) (by omega) (by omega) (by omega) (by omega) (by omega))) (by omega), rq_I_keep hJ (g _ _ (by omega) (by omega) (by omega) (by omega) (by omega) (by omega) (by omega)) (g _ _ (by omega) (by omega) (by omega) (by omega) (by omega) (by omega) (by omega)) (fun a b h1 h2 => (g _ _ (by omega) (by omega) (by omega) (by omega) (by omega) (by omega) (by omega))) (fun b hb => (g _ _ (by omega) (by omega) (by omega) (by omega) (by omega) (by omega) (by omega)))⟩, rq_w_keep hC.1 (g 44 1 (by omega) (by omega) (by omega) (by omega) (by omega) (by omega) (by omega)) (fun b => (g 45 b (by omega) (by omega) (by omega) (by omega) (by omega) (by omega) (by omega))) (g 83 42 (by omega) (by omega) (by omega) (by omega) (by omega) (by omega) (by omega)) (fun b _ => (g 106 b (by omega) (by omega) (by omega) (by omega) (by omega) (by omega) (by omega))), rq_w_keep hC.2.1 (g 46 1 (by omega) (by omega) (by omega) (by omega) (by omega) (by omega) (by omega)) (fun b => (g 47 b (by omega) (by omega) (by omega) (by omega) (by omega) (by omega) (by omega))) (g 83 40 (by omega) (by omega) (by omega) (by omega) (by omega) (by omega) (by omega)) (fun b _ => (g 105 b (by omega) (by omega) (by omega) (by omega) (by omega) (by omega) (by omega))), rq_w_keep hC.2.2.1 (g 48 1 (by omega) (by omega) (by omega) (by omega) (by omega) (by omega) (by omega)) (fun b => (g 49 b (by omega) (by omega) (by omega) (by omega) (by omega) (by omega) (by omega))) (g 83 15 (by omega) (by omega) (by omega) (by omega) (by omega) (by omega) (by omega)) (fun b _ => (g 91 b (by omega) (by omega) (by omega) (by omega) (by omega) (by omega) (by omega))), hw, hy, rq_S_keep hC.2.2.2.2.2 hm (fun a b q => g a b (by omega) (by omega) (by omega) (by omega) (by omega) (by omega) (by omega))⟩
  unfold mi at hm ⊢
  rw [g 83 14 (by omega) (by omega) (by omega) (by omega) (by omega) (by omega) (by omega), g 83 15 (by omega) (by omega) (by omega) (by omega) (by omega) (by omega) (by omega), g 83 21 (by omega) (by omega) (by omega) (by omega) (by omega) (by omega) (by omega), g 83 33 (by omega) (by omega) (by omega) (by omega) (by omega) (by omega) (by omega), g 83 40 (by omega) (by omega) (by omega) (by omega) (by omega) (by omega) (by omega), g 83 42 (by omega) (by omega) (by omega) (by omega) (by omega) (by omega) (by omega), g 98 44 (by omega) (by omega) (by omega) (by omega) (by omega) (by omega) (by omega), g 98 38 (by omega) (by omega) (by omega) (by omega) (by omega) (by omega) (by omega), g 98 39 (by omega) (by omega) (by omega) (by omega) (by omega) (by omega) (by omega)]
  refine ⟨hm.1, hm.2.1, e2, hm.2.2.2.1, hm.2.2.2.2.1, hm.2.2.2.2.2.1, hm.2.2.2.2.2.2.1, hm.2.2.2.2.2.2.2.1, hm.2.2.2.2.2.2.2.2.1, hm.2.2.2.2.2.2.2.2.2.1, fun p hp => ?_⟩
  rw [g 100 p (by omega) (by omega) (by omega) (by omega) (by omega) (by omega) (by omega)]
  exact hm.2.2.2.2.2.2.2.2.2.2 p hp
theorem LJ_habit1 {μ μ1 μ2 : am_N} {w y : Int} (hJ : lx_J μ) (hv : 0 ≤ w ∧ w ≤ 3) (hz : -9 ≤ y ∧ y ≤ 9) (h4 : μ 53 1 < 4) (f1 : ∀ a b, ¬(a = 53 ∧ b = 1) → ¬(a = 55 ∧ b = 1) → a ≠ 54 → a ≠ 56 → μ1 a b = μ a b) (e1 : μ1 53 1 = μ 53 1 + 1) (e1' : μ1 55 1 = μ 55 1 + 1) (x1 : ∀ b, μ1 54 b = if b = (μ 53 1).toNat then w else μ 54 b) (x1' : ∀ b, μ1 56 b = if b = (μ 55 1).toNat then y else μ 56 b) (f2 : ∀ a b, a ≠ 92 → a ≠ 93 → ¬(a = 83 ∧ b = 16) → μ2 a b = μ1 a b) (e2 : μ2 83 16 = μ1 83 16 + 1) (x2 : ∀ b, μ2 92 b = if b = (μ1 83 16).toNat then w else μ1 92 b) (x2' : ∀ b, μ2 93 b = if b = (μ1 83 16).toNat then y else μ1 93 b) : lx_J μ2 := by
  have hw := hJ.2.2.2.2.1
  have hy := hJ.2.2.2.2.2.1
  have hb := mi_all hJ.1.2.1
  have h1 := hw.1
  have h2 := hy.1
  have d : μ1 83 16 = μ 83 16 := f1 83 16 (by omega) (by omega) (by omega) (by omega)
  exact LJ_hab hJ f1 f2 (by omega) (by omega) (by omega) (rq_w_put hw (by omega) hv ((f2 53 1 (by omega) (by omega) (by omega)).trans e1) (fun b => (f2 54 b (by omega) (by omega) (by omega)).trans (x1 b)) (by rw [e2, d]) (fun b => by rw [x2, d, f1 92 b (by omega) (by omega) (by omega) (by omega)])) (rq_w_put hy (by omega) hz ((f2 55 1 (by omega) (by omega) (by omega)).trans e1') (fun b => (f2 56 b (by omega) (by omega) (by omega)).trans (x1' b)) (by rw [e2, d]) (fun b => by rw [x2', d, f1 93 b (by omega) (by omega) (by omega) (by omega)]))
theorem LJ_habit0 {μ μ1 μ2 : am_N} (hJ : lx_J μ) (f1 : ∀ a b, ¬(a = 53 ∧ b = 1) → ¬(a = 55 ∧ b = 1) → μ1 a b = μ a b) (e1 : μ1 53 1 = 0) (e1' : μ1 55 1 = 0) (f2 : ∀ a b, ¬(a = 83 ∧ b = 16) → μ2 a b = μ1 a b) (e2 : μ2 83 16 = 0) : lx_J μ2 := LJ_hab hJ (fun a b q1 q2 _ _ => f1 a b q1 q2) (fun a b _ _ q => f2 a b q) (by rw [e1]; decide) (by rw [e1']; decide) (by rw [e2]; decide) (rq_w_zero ((f2 53 1 (by omega)).trans e1) e2) (rq_w_zero ((f2 55 1 (by omega)).trans e1') e2)
theorem LJ_image {μ μ1 μ2 : am_N} (hJ : lx_J μ) (f1 : (∀ a b, ¬(22 ≤ a ∧ a ≤ 28) → ¬(50 ≤ a ∧ a ≤ 51) → ¬(57 ≤ a ∧ a ≤ 61) → ¬(a = 0 ∧ b = 15) → μ1 a b = μ a b)) (h1 : fv μ1 22 = fv μ 1) (e15 : μ1 0 15 = 1) (e50 : μ1 50 1 = μ 48 1) (x51 : ∀ i : Nat, (i : Int) < μ 48 1 → μ1 51 i = μ 49 i) (e58 : μ1 58 1 = μ 53 1) (x59 : ∀ i : Nat, (i : Int) < μ 53 1 → μ1 59 i = μ 54 i) (e60 : μ1 60 1 = μ 55 1) (x61 : ∀ i : Nat, (i : Int) < μ 55 1 → μ1 61 i = μ 56 i) (f2 : (∀ a b, ¬(a = 98 ∧ b < 45) → ¬(a = 83 ∧ (b = 25 ∨ b = 26 ∨ b = 27)) → μ2 a b = μ1 a b)) (e25 : μ2 83 25 = 1) (u : ∀ a b o, kp_at a b = some o → μ2 98 o = μ1 a b) : lx_J μ2 := by
  have hb := mi_all hJ.1.2.1
  obtain ⟨w1, w2, w3, w4, w5, w6⟩ := hJ.2
  have g : ∀ a b, ¬(22 ≤ a ∧ a ≤ 28) → ¬(50 ≤ a ∧ a ≤ 51) → ¬(57 ≤ a ∧ a ≤ 61) → ¬(a = 0 ∧ b = 15) → ¬(a = 98 ∧ b < 45) → ¬(a = 83 ∧ (b = 25 ∨ b = 26 ∨ b = 27)) → μ2 a b = μ a b := fun a b h1 h2 h3 h4 h5 h6 => (f2 a b h5 h6).trans (f1 a b h1 h2 h3 h4)
  have k38 : μ2 98 38 = μ 83 15 := (u 83 15 38 rfl).trans (f1 83 15 (by omega) (by omega) (by omega) (by omega))
  have k39 : μ2 98 39 = μ 83 16 := (u 83 16 39 rfl).trans (f1 83 16 (by omega) (by omega) (by omega) (by omega))
  have p91 : ∀ b : Nat, b < 6 → μ2 98 (24 + b) = μ 91 b := fun b q => (u 91 b (24 + b) (by unfold kp_at; rw [if_neg (by omega), if_pos ⟨rfl, q⟩])).trans (f1 91 b (by omega) (by omega) (by omega) (by omega))
  have p92 : ∀ b : Nat, b < 4 → μ2 98 (30 + b) = μ 92 b := fun b q => (u 92 b (30 + b) (by unfold kp_at; rw [if_neg (by omega), if_neg (by omega), if_pos ⟨rfl, q⟩])).trans (f1 92 b (by omega) (by omega) (by omega) (by omega))
  have p93 : ∀ b : Nat, b < 4 → μ2 98 (34 + b) = μ 93 b := fun b q => (u 93 b (34 + b) (by unfold kp_at; rw [if_neg (by omega), if_neg (by omega), if_neg (by omega), if_pos ⟨rfl, q⟩])).trans (f1 93 b (by omega) (by omega) (by omega) (by omega))
  have c1 := w3.1
  have c2 := w4.1
  have c3 := w5.1
  refine ⟨LI_image hJ.1 f1 h1 e15 e50 e58 e60 f2 e25 u, rq_w_keep w1 (g 44 1 (by omega) (by omega) (by omega) (by omega) (by omega) (by omega)) (fun b => (g 45 b (by omega) (by omega) (by omega) (by omega) (by omega) (by omega))) (g 83 42 (by omega) (by omega) (by omega) (by omega) (by omega) (by omega)) (fun b _ => (g 106 b (by omega) (by omega) (by omega) (by omega) (by omega) (by omega))), rq_w_keep w2 (g 46 1 (by omega) (by omega) (by omega) (by omega) (by omega) (by omega)) (fun b => (g 47 b (by omega) (by omega) (by omega) (by omega) (by omega) (by omega))) (g 83 40 (by omega) (by omega) (by omega) (by omega) (by omega) (by omega)) (fun b _ => (g 105 b (by omega) (by omega) (by omega) (by omega) (by omega) (by omega))), rq_w_keep w3 (g 48 1 (by omega) (by omega) (by omega) (by omega) (by omega) (by omega)) (fun b => (g 49 b (by omega) (by omega) (by omega) (by omega) (by omega) (by omega))) (g 83 15 (by omega) (by omega) (by omega) (by omega) (by omega) (by omega)) (fun b _ => (g 91 b (by omega) (by omega) (by omega) (by omega) (by omega) (by omega))), rq_w_keep w4 (g 53 1 (by omega) (by omega) (by omega) (by omega) (by omega) (by omega)) (fun b => (g 54 b (by omega) (by omega) (by omega) (by omega) (by omega) (by omega))) (g 83 16 (by omega) (by omega) (by omega) (by omega) (by omega) (by omega)) (fun b _ => (g 92 b (by omega) (by omega) (by omega) (by omega) (by omega) (by omega))), rq_w_keep w5 (g 55 1 (by omega) (by omega) (by omega) (by omega) (by omega) (by omega)) (fun b => (g 56 b (by omega) (by omega) (by omega) (by omega) (by omega) (by omega))) (g 83 16 (by omega) (by omega) (by omega) (by omega) (by omega) (by omega)) (fun b _ => (g 93 b (by omega) (by omega) (by omega) (by omega) (by omega) (by omega))), fun _ => ⟨⟨?_, fun b hb2 => ?_⟩, ⟨?_, fun b hb2 => ?_⟩, ⟨?_, fun b hb2 => ?_⟩⟩⟩
  · rw [k38, f2 50 1 (by omega) (by omega), e50]; exact c1
  · rw [k38] at hb2; rw [p91 b (by omega), f2 51 b (by omega) (by omega), x51 b (by omega)]; exact w3.2 b hb2
  · rw [k39, f2 58 1 (by omega) (by omega), e58]; exact c2
  · rw [k39] at hb2; rw [p92 b (by omega), f2 59 b (by omega) (by omega), x59 b (by omega)]; exact w4.2 b hb2
  · rw [k39, f2 60 1 (by omega) (by omega), e60]; exact c3
  · rw [k39] at hb2; rw [p93 b (by omega), f2 61 b (by omega) (by omega), x61 b (by omega)]; exact w5.2 b hb2
theorem LJ_restore {μ μ1 μ2 : am_N} (hJ : lx_J μ) (h15 : μ 0 15 ≠ 0) (f1 : (∀ a b, ¬(1 ≤ a ∧ a ≤ 7) → ¬(48 ≤ a ∧ a ≤ 49) → ¬(52 ≤ a ∧ a ≤ 56) → ¬(a = 62 ∧ b = 3) → μ1 a b = μ a b)) (h1 : fv μ1 1 = fv μ 22) (z62 : μ1 62 3 = 0) (e48 : μ1 48 1 = μ 50 1) (x49 : ∀ i : Nat, (i : Int) < μ 50 1 → μ1 49 i = μ 51 i) (e53 : μ1 53 1 = μ 58 1) (x54 : ∀ i : Nat, (i : Int) < μ 58 1 → μ1 54 i = μ 59 i) (e55 : μ1 55 1 = μ 60 1) (x56 : ∀ i : Nat, (i : Int) < μ 60 1 → μ1 56 i = μ 61 i) (f2 : (∀ a b, kp_at a b = none → ¬(a = 83 ∧ (b = 26 ∨ b = 27 ∨ b = 33)) → μ2 a b = μ1 a b)) (u : ∀ a b o, kp_at a b = some o → μ2 a b = μ1 98 o) (z33 : μ2 83 33 = 0) : lx_J μ2 := by
  have hb := mi_all hJ.1.2.1
  have hm := hJ.1.2.1
  have q38 := hm.2.2.2.2.2.2.2.2.1
  have q39 := hm.2.2.2.2.2.2.2.2.2.1
  obtain ⟨w1, w2, w3, w4, w5, w6⟩ := hJ.2
  have f25 : μ 83 25 ≠ 0 := by
    rcases hJ.1.2.2.2.2.2 with ⟨a, -⟩ | ⟨-, a, -⟩
    · exact absurd a h15
    · rw [a]; decide
  obtain ⟨v1, v2, v3⟩ := w6 f25
  have f2' : ∀ a b, ¬(85 ≤ a ∧ a ≤ 93) → ¬(a = 83 ∧ (10 ≤ b ∧ b ≤ 16)) → ¬(a = 83 ∧ (b = 26 ∨ b = 27 ∨ b = 33)) → μ2 a b = μ1 a b := fun a b q1 q2 q3 => f2 a b (kp_none ⟨q1, q2⟩) q3
  have g : ∀ a b, ¬(1 ≤ a ∧ a ≤ 7) → ¬(48 ≤ a ∧ a ≤ 49) → ¬(52 ≤ a ∧ a ≤ 56) → ¬(a = 62 ∧ b = 3) → ¬(85 ≤ a ∧ a ≤ 93) → ¬(a = 83 ∧ (10 ≤ b ∧ b ≤ 16)) → ¬(a = 83 ∧ (b = 26 ∨ b = 27 ∨ b = 33)) → μ2 a b = μ a b := fun a b h1 h2 h3 h4 h5 h6 h7 => (f2' a b h5 h6 h7).trans (f1 a b h1 h2 h3 h4)
  have n98 : ∀ b, μ1 98 b = μ 98 b := fun b => f1 98 b (by omega) (by omega) (by omega) (by omega)
  have k15 : μ2 83 15 = μ 98 38 := (u 83 15 38 rfl).trans (n98 38)
  have k16 : μ2 83 16 = μ 98 39 := (u 83 16 39 rfl).trans (n98 39)
  have p91 : ∀ b : Nat, b < 6 → μ2 91 b = μ 98 (24 + b) := fun b q => (u 91 b (24 + b) (by unfold kp_at; rw [if_neg (by omega), if_pos ⟨rfl, q⟩])).trans (n98 _)
  have p92 : ∀ b : Nat, b < 4 → μ2 92 b = μ 98 (30 + b) := fun b q => (u 92 b (30 + b) (by unfold kp_at; rw [if_neg (by omega), if_neg (by omega), if_pos ⟨rfl, q⟩])).trans (n98 _)
  have p93 : ∀ b : Nat, b < 4 → μ2 93 b = μ 98 (34 + b) := fun b q => (u 93 b (34 + b) (by unfold kp_at; rw [if_neg (by omega), if_neg (by omega), if_neg (by omega), if_pos ⟨rfl, q⟩])).trans (n98 _)
  have c1 := v1.1
  have c2 := v2.1
  have c3 := v3.1
  refine ⟨LI_restore hJ.1 h15 f1 h1 z62 e48 e53 e55 f2 u z33, rq_w_keep w1 (g 44 1 (by omega) (by omega) (by omega) (by omega) (by omega) (by omega) (by omega)) (fun b => (g 45 b (by omega) (by omega) (by omega) (by omega) (by omega) (by omega) (by omega))) (g 83 42 (by omega) (by omega) (by omega) (by omega) (by omega) (by omega) (by omega)) (fun b _ => (g 106 b (by omega) (by omega) (by omega) (by omega) (by omega) (by omega) (by omega))), rq_w_keep w2 (g 46 1 (by omega) (by omega) (by omega) (by omega) (by omega) (by omega) (by omega)) (fun b => (g 47 b (by omega) (by omega) (by omega) (by omega) (by omega) (by omega) (by omega))) (g 83 40 (by omega) (by omega) (by omega) (by omega) (by omega) (by omega) (by omega)) (fun b _ => (g 105 b (by omega) (by omega) (by omega) (by omega) (by omega) (by omega) (by omega))), ⟨?_, fun b hb2 => ?_⟩, ⟨?_, fun b hb2 => ?_⟩, ⟨?_, fun b hb2 => ?_⟩, rq_S_keep w6 hm (fun a b q => g a b (by omega) (by omega) (by omega) (by omega) (by omega) (by omega) (by omega))⟩
  · rw [k15, f2' 48 1 (by omega) (by omega) (by omega), e48]; exact c1
  · rw [k15] at hb2; rw [p91 b (by omega), f2' 49 b (by omega) (by omega) (by omega), x49 b (by omega)]; exact v1.2 b hb2
  · rw [k16, f2' 53 1 (by omega) (by omega) (by omega), e53]; exact c2
  · rw [k16] at hb2; rw [p92 b (by omega), f2' 54 b (by omega) (by omega) (by omega), x54 b (by omega)]; exact v2.2 b hb2
  · rw [k16, f2' 55 1 (by omega) (by omega) (by omega), e55]; exact c3
  · rw [k16] at hb2; rw [p93 b (by omega), f2' 56 b (by omega) (by omega) (by omega), x56 b (by omega)]; exact v3.2 b hb2
theorem LJ_judge {μ μ1 μ2 : am_N} (hJ : lx_J μ) (h1 : gv [44] μ μ1) (e1 : μ1 44 1 = 0) (h2 : gm (mo mQ (m1o 83000 42)) μ1 μ2) (e2 : μ2 83 42 = 0) : lx_J μ2 := by
  obtain ⟨w1, w2, w3, w4, w5, w6⟩ := hJ.2
  have hb := mi_all hJ.1.2.1
  have hA : lx_A (mo mQ (m1o 83000 42)) := lx_Ao (lx_Ao lx_A0 lx_Q1) (lx_mo (by decide))
  have e : ∀ a b, rq_K a b → a ≠ 44 → ¬(a = 83 ∧ b = 42) → μ2 a b = μ a b := fun a b q n1 n2 => by
    have d1 : μ1 a b = μ a b := h1.2 a b (by
      by_cases d : 83 ≤ a
      · rw [sx_p83 d]
        have z : ([44] : List Nat).contains a = false := by
          cases y : ([44] : List Nat).contains a with
          | false => rfl
          | true => have := List.contains_iff_mem.mp y; simp at this; omega
        rw [z]; rfl
      · rcases (show a = 45 ∨ a = 46 ∨ a = 47 ∨ a = 48 ∨ a = 49 ∨ a = 50 ∨ a = 51 ∨ a = 52 ∨ a = 53 ∨ a = 54 ∨ a = 55 ∨ a = 56 ∨ a = 57 ∨ a = 58 ∨ a = 59 ∨ a = 60 ∨ a = 61 by unfold rq_K at q; omega) with rfl | rfl | rfl | rfl | rfl | rfl | rfl | rfl | rfl | rfl | rfl | rfl | rfl | rfl | rfl | rfl | rfl <;> rfl)
    refine (h2.2 a b ?_).trans d1
    by_cases d : 83 ≤ a
    · refine Bool.or_eq_false_iff.mpr ⟨fp_AdQ a b d q, ?_⟩
      unfold m1o
      have t1 : Nat.beq a 83000 = false := by
        cases y : Nat.beq a 83000 with
        | false => rfl
        | true => have := Nat.eq_of_beq_eq_true y; unfold rq_K at q; omega
      rw [t1]
      by_cases f : a = 83
      · have t2 : Nat.beq b 42 = false := by
          cases y : Nat.beq b 42 with
          | false => rfl
          | true => have := Nat.eq_of_beq_eq_true y; omega
        rw [t2]; exact Bool.and_false _
      · have t2 : Nat.beq a 83 = false := by
          cases y : Nat.beq a 83 with
          | false => rfl
          | true => have := Nat.eq_of_beq_eq_true y; omega
        rw [t2]; rfl
    · exact hA a b (by omega)
  have e44 : μ2 44 1 = 0 := (h2.2 44 1 (hA 44 1 (by decide))).trans e1
  refine ⟨LI_weak (E := [44]) hJ.1 h1 h2 (lx_c rfl) rfl hA (fp_Aco fp_AcQ (fp_Ac1 (by decide) (by decide))), rq_w_zero e44 e2, ?_, ?_, ?_, ?_, rq_S_keep w6 hJ.1.2.1 (fun a b q => e a b (by unfold rq_K; omega) (by omega) (by omega))⟩
  · exact rq_w_keep w2 (e _ _ (by unfold rq_K; omega) (by omega) (by omega)) (fun b => e _ _ (by unfold rq_K; omega) (by omega) (by omega)) (e _ _ (by unfold rq_K; omega) (by omega) (by omega)) (fun b hb => e _ _ (by unfold rq_K; omega) (by omega) (by omega))
  · exact rq_w_keep w3 (e _ _ (by unfold rq_K; omega) (by omega) (by omega)) (fun b => e _ _ (by unfold rq_K; omega) (by omega) (by omega)) (e _ _ (by unfold rq_K; omega) (by omega) (by omega)) (fun b hb => e _ _ (by unfold rq_K; omega) (by omega) (by omega))
  · exact rq_w_keep w4 (e _ _ (by unfold rq_K; omega) (by omega) (by omega)) (fun b => e _ _ (by unfold rq_K; omega) (by omega) (by omega)) (e _ _ (by unfold rq_K; omega) (by omega) (by omega)) (fun b hb => e _ _ (by unfold rq_K; omega) (by omega) (by omega))
  · exact rq_w_keep w5 (e _ _ (by unfold rq_K; omega) (by omega) (by omega)) (fun b => e _ _ (by unfold rq_K; omega) (by omega) (by omega)) (e _ _ (by unfold rq_K; omega) (by omega) (by omega)) (fun b hb => e _ _ (by unfold rq_K; omega) (by omega) (by omega))
/-- calls by frames -/
theorem LJ_fr {μ μ2 : am_N} (hJ : lx_J μ) (hI : lx_I μ2) (g : ∀ a b, rq_K a b → μ2 a b = μ a b) : lx_J μ2 := ⟨hI, rq_C_keep hJ.2 hJ.1.2.1 g⟩
/-! told rows, told times as functions -/
def fp_rt (n : Int) (f : Nat → Int) : Nat → Int := fun b => if (b : Int) < n then f b else 0
theorem fp_rt_i {n : Int} {f : Nat → Int} {b : Nat} (h : (b : Int) < n) : fp_rt n f b = f b := if_pos h
theorem fp_rt_e {n m : Int} {f g : Nat → Int} (hn : n = m) (h : ∀ b : Nat, (b : Int) < m → f b = g b) : fp_rt n f = fp_rt m g := funext fun b => by
  unfold fp_rt
  rw [hn]
  by_cases d : (b : Int) < m
  · rw [if_pos d, if_pos d]; exact h b d
  · rw [if_neg d, if_neg d]
theorem rq_w_tr {j c r : Nat} {lo hi : Int} {μ : am_N} (h : rq_w j c r lo hi μ) : fp_rt (μ r 1) (μ (r + 1)) = fp_rt (μ 83 j) (μ c) := fp_rt_e h.1 (fun b hb => (h.2 b hb).1)
theorem rq_w_hC {j c r : Nat} {lo hi : Int} {μ : am_N} (h : rq_w j c r lo hi μ) : ∀ b : Nat, (b : Int) < μ r 1 → lo ≤ μ (r + 1) b ∧ μ (r + 1) b ≤ hi := fun b hb => by
  have z := h.2 b (by rw [← h.1]; exact hb)
  rw [z.1]
  exact z.2
theorem rq_w_hM {j c r : Nat} {lo hi : Int} {μ : am_N} (h : rq_w j c r lo hi μ) : ∀ b : Nat, (b : Int) < μ 83 j → lo ≤ μ c b ∧ μ c b ≤ hi := fun b hb => (h.2 b hb).2
theorem gv_83 {E : List Nat} {μ μ' : am_N} (hE : lx_E E) (h : gv E μ μ') : ∀ k j, 83 ≤ k → μ' k j = μ k j := fun k j hk => h.2 k j (by rw [sx_p83 hk, hE k hk]; rfl)
/-- the first race that another wins than is told, from race k on, m races -/
def fp_jq (F : am_N) (R : Nat → Int) : Nat → Nat → Int
  | 0, _ => -9
  | m + 1, k => if F 0 4 = 0 ∨ fp_f (fp_go F k) ≠ R k then (k : Int) else fp_jq F R m (k + 1)
theorem fp_jq_b {F : am_N} {R : Nat → Int} : ∀ m k : Nat, fp_jq F R m k = -9 ∨ ((k : Int) ≤ fp_jq F R m k ∧ fp_jq F R m k < (k : Int) + m) := by
  intro m
  induction m with
  | zero => intro k; exact Or.inl rfl
  | succ m ih =>
    intro k
    simp only [fp_jq]
    split
    · exact Or.inr (by omega)
    · rcases ih (k + 1) with h | h
      · exact Or.inl h
      · exact Or.inr (by omega)
theorem fp_jq_s {F : am_N} {R : Nat → Int} {n k : Int} (k0 : 0 ≤ k) (h : k < n) : fp_jq F R (n - k).toNat k.toNat = if F 0 4 = 0 ∨ fp_f (fp_go F k.toNat) ≠ R k.toNat then k else fp_jq F R (n - (k + 1)).toNat (k + 1).toNat := by
  rw [show (n - k).toNat = (n - (k + 1)).toNat + 1 by omega, show (k + 1).toNat = k.toNat + 1 by omega]
  simp only [fp_jq]
  rw [Int.toNat_of_nonneg k0]
def fp_jn (F : am_N) (R : Nat → Int) (n : Int) : Int := fp_jq F R n.toNat 0
def fp_ftp (F : am_N) (R : Nat → Int) (n i : Int) : Nat → Bool := fun s => decide (fp_jn (fp_sd F i.toNat (s : Int)) R n < 0)
def fp_ftr (F : am_N) (R : Nat → Int) (n i w : Int) : Int := if ¬(0 ≤ i ∧ i < F 0 4) then -1 else if ¬(w = 0 ∨ w = 1) then -2 else if w = 0 then fq_cu (fp_ftp F R n i) 100 else fq_lu (fp_ftp F R n i) 100
theorem x_at_44 {l : Launch} {ν : am_N} {Q : Option am_V → am_N → Prop} (i : Int) (i0 : 0 ≤ i) (i1 : i < ν 44 1) (n1 : ν 44 1 ≤ 12) (k : Q (some (.inl (ν 45 i.toNat))) ν) : am_Does l 43 [.inr (.inr 44), .inl i] ν Q := by
  refine am_Does_of (Nat.le_of_ble_eq_true rfl) (Nat.le_of_ble_eq_true rfl) (Nat.le_of_ble_eq_true rfl) ?_
  have l0 : am_c 0 = 0 := rfl
  have l1 : am_c 1 = 1 := rfl
  have l9 : am_c 9 = 9 := rfl
  have l10 : am_c 10 = 10 := rfl
  have l12 : am_c 12 = 12 := rfl
  have l60 : am_c 60 = 60 := rfl
  have l99 : am_c 99 = 99 := rfl
  have ci : am_c i = i := am_cR (by omega) (by omega)
  have cn : am_c (ν 44 1) = ν 44 1 := am_cR (by omega) (by omega)
  have ei : (am_c i).toNat = i.toNat := by rw [ci]
  refine am_go (ct := fun _ => false) am_oX3_at 300 ?_
  conv => whnf
  repeat' first
    | (refine (?_ : am_wp _ _ _ _ _ _ _ _ _ _ _ _); conv => whnf)
    | (refine (?_ : am_sw _ _ _ _); conv => whnf)
    | refine And.intro trivial ?_
    | exact trivial
    | refine am_qe k ?_
    | refine And.intro (fun z => absurd z (by rw [ci]; omega)) (fun _ => ?_)
    | refine And.intro (fun z => absurd z (by rw [ci, cn]; omega)) (fun _ => ?_)
    | refine And.intro (fun h => absurd h (by decide)) (fun _ => ?_)
    | refine And.intro (fun _ => ?_) (fun h => absurd (by decide) h)
    | refine And.intro (fun _ => ?_) (fun _ => ?_)
    | refine And.intro ?_ ?_
  all_goals (first | decide | omega | (rw [ci]; omega) | (rw [ei]) | (trace_state; fail))
theorem s_firstNotSo {l : Launch} {ν : am_N} {Q : Option am_V → am_N → Prop} (hw : fp_fw 999 (fv ν 8)) (n0 : 0 ≤ ν 44 1) (n1 : ν 44 1 ≤ 12) (hr : ∀ b : Nat, (b : Int) < ν 44 1 → 0 ≤ ν 45 b ∧ ν 45 b ≤ 99) (hp : sx_3 ν 34) (hb : 0 ≤ ν 29 0 ∧ ν 29 0 ≤ 4) (k : ∀ (r : Int) (μ' : am_N), (∀ a b, ¬(8 ≤ a ∧ a < 15) → a ≠ 33 → a ≠ 34 → ¬(a = 29 ∧ b = 0) → μ' a b = ν a b) → μ' 8 4 = ν 8 4 → sx_3 μ' 34 → (0 ≤ μ' 29 0 ∧ μ' 29 0 ≤ 4) → r = (if (fp_jn (fv ν 8) (fp_rt (ν 44 1) (ν 45)) (ν 44 1)) < 0 then -1 else (fp_jn (fv ν 8) (fp_rt (ν 44 1) (ν 45)) (ν 44 1))) → am_c r = r → Q (some (.inl r)) μ') : am_Does l 130 [.inr (.inr 0)] ν Q := by
  refine am_Does_of (Nat.le_of_ble_eq_true rfl) (Nat.le_of_ble_eq_true rfl) (Nat.le_of_ble_eq_true rfl) ?_
  have l0 : am_c 0 = 0 := rfl
  have l1 : am_c 1 = 1 := rfl
  have l9 : am_c 9 = 9 := rfl
  have l10 : am_c 10 = 10 := rfl
  have l12 : am_c 12 = 12 := rfl
  have l60 : am_c 60 = 60 := rfl
  have l99 : am_c 99 = 99 := rfl
  have m1' : am_c (-1) = -1 := rfl
  have m2' : am_c (-2) = -2 := rfl
  have m3' : am_c (-3) = -3 := rfl
  have m9' : am_c (-9) = -9 := rfl
  have h4 := (fw_C hw (by decide)).1.1
  have cn : am_c (ν 44 1) = ν 44 1 := am_cR (by omega) (by omega)
  have e84 : fv ν 8 0 4 = ν 8 4 := fv_0 (by decide)
  have lp2 : ∀ (m : Nat) (i : Int) (μ : am_N) , (∀ a b, ¬(8 ≤ a ∧ a < 15) → a ≠ 33 → a ≠ 34 → ¬(a = 29 ∧ b = 0) → μ a b = ν a b) → fv μ 8 = fp_go (fv ν 8) i.toNat → 0 ≤ i → i ≤ ν 44 1 → fp_jq (fv ν 8) (fp_rt (ν 44 1) (ν 45)) (ν 44 1 - i).toNat i.toNat = fp_jn (fv ν 8) (fp_rt (ν 44 1) (ν 45)) (ν 44 1) → sx_3 μ 34 → (0 ≤ μ 29 0 ∧ μ 29 0 ≤ 4) → ν 44 1 - i < (m : Int) → am_AW l 0 (fun _ => 0) 130 Q 2 [some (.inr (.inr 0)), some (.inl i)] [] μ := by
    intro m
    induction m with
    | zero =>
      intro i μ hv0 hv1 hv2 hv3 hv4 hv5 hv6 hm
      exfalso
      omega
    | succ m ih =>
      intro i μ hv0 hv1 hv2 hv3 hv4 hv5 hv6 hm
      have ci : am_c i = i := am_cR (by omega) (by omega)
      have h8 : fp_fw 1059 (fv μ 8) := by rw [hv1]; exact fw_mono (fw_go hw i.toNat) (by omega)
      have n8 : μ 8 4 = ν 8 4 := by rw [← fv_0 (μ := μ) (c := 8) (b := 4) (by decide), hv1, fp_go_n]; exact fv_0 (by decide)
      have e44 : μ 44 1 = ν 44 1 := hv0 44 1 (by omega) (by omega) (by omega) (by omega)
      have c84 : am_c (ν 8 4) = ν 8 4 := am_cR (by omega) (by omega)
      have js := fun q : i < ν 44 1 => fp_jq_s (F := (fv ν 8)) (R := (fp_rt (ν 44 1) (ν 45))) hv2 q
      have kk := fun (x : Int) (e : x = (if (fp_jn (fv ν 8) (fp_rt (ν 44 1) (ν 45)) (ν 44 1)) < 0 then -1 else (fp_jn (fv ν 8) (fp_rt (ν 44 1) (ν 45)) (ν 44 1)))) (c : am_c x = x) => k x μ hv0 n8 hv5 hv6 e c
      have fb := fp_f_b (fv μ 8)
      have cf : am_c (fp_f (fv μ 8)) = fp_f (fv μ 8) := am_cR (by omega) (by omega)
      refine am_go (ct := fun pc => Nat.beq pc 2) am_oX6_firstNotSo 300 ?_
      conv => whnf
      repeat' first
        | (refine (?_ : am_wp _ _ _ _ _ _ _ _ _ _ _ _); conv => whnf)
        | (refine (?_ : am_sw _ _ _ _); conv => whnf)
        | refine And.intro trivial ?_
        | exact trivial
        | (refine x_goOn_29_8 1059 h8 (by decide) (by rw [n8]; simp only [n8, c84, l0] at *; omega) hv5 (fun μ2 g2 p2 b2 n2 _ _ => ?_); have i44 : i < ν 44 1 := (by simp only [ci, e44, cn] at *; omega); have e44b : μ2 44 1 = ν 44 1 := (g2 44 1 (by omega) (by omega) (by omega) (by omega) (by omega) (by omega)).trans e44; have e45 : μ2 45 i.toNat = ν 45 i.toNat := (g2 45 _ (by omega) (by omega) (by omega) (by omega) (by omega) (by omega)).trans (hv0 45 _ (by omega) (by omega) (by omega) (by omega)); have rb := hr i.toNat (by omega); have c45 : am_c (ν 45 i.toNat) = ν 45 i.toNat := am_cR (by omega) (by omega); have kk2 := fun (x : Int) (e : x = (if (fp_jn (fv ν 8) (fp_rt (ν 44 1) (ν 45)) (ν 44 1)) < 0 then -1 else (fp_jn (fv ν 8) (fp_rt (ν 44 1) (ν 45)) (ν 44 1)))) (c : am_c x = x) => k x μ2 (fun a b q1 q2 q3 q4 => by rw [g2 a b (by omega) (by omega) (by omega) q2 q3 q4]; exact hv0 a b q1 q2 q3 q4) ((g2 8 4 (by omega) (by omega) (by omega) (by omega) (by omega) (by omega)).trans n8) b2 (by rw [n2, n8]; exact h4) e c)
        | (refine x_at_44 i hv2 (by rw [e44b]; exact i44) (by rw [e44b]; exact n1) ?_; rw [e45])
        | refine kk2 _ ?_ ci
        | refine kk _ ?_ ci
        | refine kk _ ?_ rfl
        | refine ih _ _ ?_ ?_ ?_ ?_ ?_ ?_ ?_ ?_
        | refine And.intro (fun h => absurd h (by decide)) (fun _ => ?_)
        | refine And.intro (fun _ => ?_) (fun h => absurd (by decide) h)
        | refine And.intro (fun _ => ?_) (fun _ => ?_)
        | refine And.intro ?_ ?_
      all_goals (first | decide | assumption | omega | (intro a b q1 q2 q3 q4; rw [g2 a b (by omega) (by omega) (by omega) q2 q3 q4]; exact hv0 a b q1 q2 q3 q4) | (rw [show (i + 1).toNat = i.toNat + 1 by omega, p2, hv1]; rfl) | (rw [← hv4, js i44, if_neg (by rw [fp_rt_i (by omega), ← hv1, e84]; simp only [n8, c84, l0, cf, c45] at *; omega)]) | (rw [n2, n8]; exact h4) | (have jc : fv ν 8 0 4 = 0 ∨ fp_f (fp_go (fv ν 8) i.toNat) ≠ fp_rt (ν 44 1) (ν 45) i.toNat := (by first | (left; rw [e84]; simp only [n8, c84, l0] at *; omega) | (right; rw [fp_rt_i (by omega), ← hv1]; simp only [cf, c45] at *; omega)); rw [← hv4, js (by simp only [ci, e44, cn] at *; omega), if_pos jc, if_neg (by omega)]; try (rw [if_pos jc])) | (rw [← hv4, show (ν 44 1 - i).toNat = 0 by simp only [ci, e44, cn] at *; omega]; rfl) | (trace_state; fail))
  have lp2' : ∀ (i : Int) (μ : am_N) , (∀ a b, ¬(8 ≤ a ∧ a < 15) → a ≠ 33 → a ≠ 34 → ¬(a = 29 ∧ b = 0) → μ a b = ν a b) → fv μ 8 = fp_go (fv ν 8) i.toNat → 0 ≤ i → i ≤ ν 44 1 → fp_jq (fv ν 8) (fp_rt (ν 44 1) (ν 45)) (ν 44 1 - i).toNat i.toNat = fp_jn (fv ν 8) (fp_rt (ν 44 1) (ν 45)) (ν 44 1) → sx_3 μ 34 → (0 ≤ μ 29 0 ∧ μ 29 0 ≤ 4) → am_AW l 0 (fun _ => 0) 130 Q 2 [some (.inr (.inr 0)), some (.inl i)] [] μ := fun i μ hv0 hv1 hv2 hv3 hv4 hv5 hv6 => lp2 ((ν 44 1 - i) + 1).toNat i μ hv0 hv1 hv2 hv3 hv4 hv5 hv6 (by omega)
  refine am_go (ct := fun pc => Nat.beq pc 2) am_oX6_firstNotSo 300 ?_
  conv => whnf
  repeat' first
    | (refine (?_ : am_wp _ _ _ _ _ _ _ _ _ _ _ _); conv => whnf)
    | (refine (?_ : am_sw _ _ _ _); conv => whnf)
    | refine And.intro trivial ?_
    | exact trivial
    | refine lp2' _ _ ?_ ?_ ?_ ?_ ?_ ?_ ?_
    | refine And.intro (fun h => absurd h (by decide)) (fun _ => ?_)
    | refine And.intro (fun _ => ?_) (fun h => absurd (by decide) h)
    | refine And.intro (fun _ => ?_) (fun _ => ?_)
    | refine And.intro ?_ ?_
  all_goals (first | decide | assumption | omega | rfl | (intros; rfl) | (rw [show (ν 44 1 - 0).toNat = (ν 44 1).toNat by omega]; rfl) | (trace_state; fail))
theorem s_judge {l : Launch} {ν : am_N} {Q : Option am_V → am_N → Prop} (hS : sx ν ν) (hw : fp_fw 999 (fv ν 1)) (hr : ∀ b : Nat, (b : Int) < ν 44 1 → 0 ≤ ν 45 b ∧ ν 45 b ≤ 99) (k : ∀ μ' : am_N, gv [44] ν μ' → μ' 44 1 = 0 → Q (some (.inl (fp_jn (fv ν 1) (fp_rt (ν 44 1) (ν 45)) (ν 44 1)))) μ') : am_Does l 87 [.inr (.inr 0)] ν Q := by
  refine am_Does_of (Nat.le_of_ble_eq_true rfl) (Nat.le_of_ble_eq_true rfl) (Nat.le_of_ble_eq_true rfl) ?_
  have l0 : am_c 0 = 0 := rfl
  have l1 : am_c 1 = 1 := rfl
  have l9 : am_c 9 = 9 := rfl
  have l10 : am_c 10 = 10 := rfl
  have l12 : am_c 12 = 12 := rfl
  have l60 : am_c 60 = 60 := rfl
  have l99 : am_c 99 = 99 := rfl
  have m1' : am_c (-1) = -1 := rfl
  have m2' : am_c (-2) = -2 := rfl
  have m3' : am_c (-3) = -3 := rfl
  have m9' : am_c (-9) = -9 := rfl
  have hb := sx_all hS
  have n44 : 0 ≤ ν 44 1 ∧ ν 44 1 ≤ 12 := by omega
  have h15 := hS.2.2.2.1
  have jb := fp_jq_b (F := (fv ν 1)) (R := (fp_rt (ν 44 1) (ν 45))) (ν 44 1).toNat 0
  have f1 := (fw_C hw (by decide)).1.1
  clear hb
  refine am_go (ct := fun _ => false) am_oX6_judge 300 ?_
  conv => whnf
  repeat' first
    | (refine (?_ : am_wp _ _ _ _ _ _ _ _ _ _ _ _); conv => whnf)
    | (refine (?_ : am_sw _ _ _ _); conv => whnf)
    | refine And.intro trivial ?_
    | exact trivial
    | (refine x_take_8_1 (fun μ1 g1 s1 r1 => ?_); have p1 : fv μ1 8 = fv ν 1 := fv_tk s1 r1; have n8 : μ1 8 4 = ν 1 4 := s1 4 (by decide); have e44 : μ1 44 1 = ν 44 1 := g1 44 1 (by omega); have e45 : μ1 45 = ν 45 := funext (fun b => g1 45 b (by omega)))
    | (refine s_firstNotSo (by rw [p1]; exact hw) (by rw [e44]; exact n44.1) (by rw [e44]; exact n44.2) (by rw [e44, e45]; exact hr) (fun p hp => by rw [g1 34 p (by omega)]; exact hS.2.1 p hp) (by rw [g1 29 0 (by omega)]; exact h15.2.2.1) (fun r μ2 g2 n2 b2 z2 er cr => ?_); rw [p1, e44, e45] at er; have sE : sx ν μ2 := sx_lt hS (fun a b q1 q2 q3 q4 _ => (g2 a b q1 q2 q3 q4).trans (g1 a b q1)) b2 (by rw [n2, n8]; exact f1) z2; have hG : gv [44] ν (am_up μ2 44 1 0) := gv_b44 (gv_sx (gv_rf hS) sE) rfl (by decide); have kk := fun (x : Int) (e : x = fp_jn (fv ν 1) (fp_rt (ν 44 1) (ν 45)) (ν 44 1)) => am_qe (k _ hG (if_pos ⟨rfl, rfl⟩)) e)
    | refine v_drop_X3_44 ?_
    | refine kk _ ?_
    | refine And.intro (fun h => absurd h (by decide)) (fun _ => ?_)
    | refine And.intro (fun _ => ?_) (fun h => absurd (by decide) h)
    | refine And.intro (fun _ => ?_) (fun _ => ?_)
    | refine And.intro ?_ ?_
  all_goals (first | decide | omega | (have e : fp_jn (fv ν 1) (fp_rt (ν 44 1) (ν 45)) (ν 44 1) = fp_jq (fv ν 1) (fp_rt (ν 44 1) (ν 45)) (ν 44 1).toNat 0 := rfl; have jb2 : fp_jn (fv ν 1) (fp_rt (ν 44 1) (ν 45)) (ν 44 1) = -9 ∨ 0 ≤ fp_jn (fv ν 1) (fp_rt (ν 44 1) (ν 45)) (ν 44 1) := (by rw [e]; rcases jb with y | y; exact Or.inl y; exact Or.inr (by omega)); clear jb e; simp only [cr] at *; by_cases z : fp_jn (fv ν 1) (fp_rt (ν 44 1) (ν 45)) (ν 44 1) < 0; (rw [if_pos z] at er; omega); (rw [if_neg z] at er; omega)) | (trace_state; fail))
theorem n_wrongAt {l : Launch} {ν : am_N} {Q : Option am_V → am_N → Prop} (hm : mi ν) (hw : fp_fw 999 (mv ν)) (hr : ∀ b : Nat, (b : Int) < ν 83 42 → 0 ≤ ν 106 b ∧ ν 106 b ≤ 99) (k : ∀ μ' : am_N, gm mQ ν μ' → Q (some (.inl (fp_jn (mv ν) (fp_rt (ν 83 42) (ν 106)) (ν 83 42)))) μ') : am_Does l 245 [.inr (.inr 83)] ν Q := by
  refine am_Does_of (Nat.le_of_ble_eq_true rfl) (Nat.le_of_ble_eq_true rfl) (Nat.le_of_ble_eq_true rfl) ?_
  have l0 : am_c 0 = 0 := rfl
  have l1 : am_c 1 = 1 := rfl
  have l9 : am_c 9 = 9 := rfl
  have l10 : am_c 10 = 10 := rfl
  have l12 : am_c 12 = 12 := rfl
  have l60 : am_c 60 = 60 := rfl
  have l99 : am_c 99 = 99 := rfl
  have m1' : am_c (-1) = -1 := rfl
  have m2' : am_c (-2) = -2 := rfl
  have m3' : am_c (-3) = -3 := rfl
  have m9' : am_c (-9) = -9 := rfl
  have hc := mi_all hm
  have n0 : 0 ≤ ν 83 42 := by omega
  have n1 : ν 83 42 ≤ 12 := by omega
  clear hc
  have h4 := (fw_M hw (by decide)).1.1
  have e4 : mv ν 0 4 = ν 83 14 := rfl
  have cn : am_c (ν 83 42) = ν 83 42 := am_cR (by omega) (by omega)
  have c14 : am_c (ν 83 14) = ν 83 14 := am_cR (by omega) (by omega)
  have kk := fun (x : Int) (μ' : am_N) a1 (e : x = (fp_jn (mv ν) (fp_rt (ν 83 42) (ν 106)) (ν 83 42))) => am_qe (k μ' a1) e
  have jb := fp_jq_b (F := (mv ν)) (R := (fp_rt (ν 83 42) (ν 106))) (ν 83 42).toNat 0
  have lp11 : ∀ (m : Nat) (x i : Int) (μ : am_N) , MD mQ ν μ → 0 ≤ i → i ≤ ν 83 42 → μ 83 42 = ν 83 42 → (∀ b, μ 106 b = ν 106 b) → μ 83 14 = ν 83 14 → (x = -9 ∧ fp_jq (mv ν) (fp_rt (ν 83 42) (ν 106)) (ν 83 42 - i).toNat i.toNat = fp_jn (mv ν) (fp_rt (ν 83 42) (ν 106)) (ν 83 42) ∧ mv μ = fp_go (mv ν) i.toNat) ∨ (0 ≤ x ∧ x = (fp_jn (mv ν) (fp_rt (ν 83 42) (ν 106)) (ν 83 42))) → ν 83 42 - i < (m : Int) → am_AW l 0 (fun _ => 0) 245 Q 11 [some (.inr (.inr 83)), some (.inl x), some (.inl i)] [] μ := by
    intro m
    induction m with
    | zero =>
      intro x i μ hv0 hv1 hv2 hv3 hv4 hv5 hv6 hm
      exfalso
      omega
    | succ m ih =>
      intro x i μ hv0 hv1 hv2 hv3 hv4 hv5 hv6 hm
      have ci : am_c i = i := am_cR (by omega) (by omega)
      have hmi := md_i hv0
      have xb : -9 ≤ x ∧ x ≤ 12 := by
        have e : (fp_jn (mv ν) (fp_rt (ν 83 42) (ν 106)) (ν 83 42)) = fp_jq (mv ν) (fp_rt (ν 83 42) (ν 106)) (ν 83 42).toNat 0 := rfl
        rw [← e] at jb
        rcases hv6 with z | z <;> omega
      have cx : am_c x = x := am_cR (by omega) (by omega)
      have js := fun q : i < ν 83 42 => fp_jq_s (F := (mv ν)) (R := (fp_rt (ν 83 42) (ν 106))) hv1 q
      refine am_go (ct := fun pc => Nat.beq pc 11) am_oX7_wrongAt 300 ?_
      conv => whnf
      repeat' first
        | (refine (?_ : am_wp _ _ _ _ _ _ _ _ _ _ _ _); conv => whnf)
        | (refine (?_ : am_sw _ _ _ _); conv => whnf)
        | refine And.intro trivial ?_
        | exact trivial
        | (have q0 := hv6.resolve_right (fun z => by simp only [cx, l0] at *; omega); have i42 : i < ν 83 42 := (by simp only [ci, hv3, cn] at *; omega); have h8 : fp_fw 1059 (mv μ) := (by rw [q0.2.2]; exact fw_mono (fw_go hw i.toNat) (by omega)); refine x_runs 1059 h8 (by decide) (by rw [hv5]; simp only [hv5, c14, l0] at *; omega) (fun p hp => mi_or hmi p hp) (fun μ2 g2 p2 b2 _ _ => ?_); have e106 : μ2 106 (am_c i).toNat = ν 106 i.toNat := (by rw [ci]; exact (g2 106 _ (by omega) (by omega) (by omega) (by omega) (by omega)).trans (hv4 _)); have rb := hr i.toNat (by omega); have c106 : am_c (ν 106 i.toNat) = ν 106 i.toNat := am_cR (by omega) (by omega); have fb := fp_f_b (mv μ); have cf : am_c (fp_f (mv μ)) = fp_f (mv μ) := am_cR (by omega) (by omega); have d2 : MD mQ ν μ2 := md_tr hv0 (gm_runs hmi g2 b2) (fun _ _ q => q); have d42 : μ2 83 42 = ν 83 42 := (g2 83 42 (by omega) (by omega) (by omega) (by omega) (by omega)).trans hv3; have d106 : ∀ b, μ2 106 b = ν 106 b := (fun b => (g2 106 b (by omega) (by omega) (by omega) (by omega) (by omega)).trans (hv4 b)); have d14 : μ2 83 14 = ν 83 14 := (g2 83 14 (by omega) (by omega) (by omega) (by omega) (by omega)).trans hv5)
        | (refine m_come1 (fun μ3 u1 _ _ _ => ?_); have hG : gm mQ ν μ3 := md_back hv0 u1 (fun _ _ q => q))
        | refine kk _ _ hG ?_
        | refine ih _ _ _ d2 ?_ ?_ d42 d106 d14 ?_ ?_
        | (refine m_keep1 (fun μ1 u1 _ _ _ => ?_); have hD : MD mQ ν μ1 := md_start (gm_rf hm) u1; have p1 : mv μ1 = mv ν := mv_keep (fun a b q => u1.2 a b (by omega) (by omega)))
        | refine ih _ _ _ ?_ ?_ ?_ ?_ ?_ ?_ ?_ ?_
        | refine And.intro (fun h => absurd h (by decide)) (fun _ => ?_)
        | refine And.intro (fun _ => ?_) (fun h => absurd (by decide) h)
        | refine And.intro (fun _ => ?_) (fun _ => ?_)
        | refine And.intro ?_ ?_
      all_goals (first | decide | assumption | omega | (rw [ci]; simp only [ci, hv3, cn] at *; omega) | (simp only [ci, hv3, cn] at *; omega) | (first | (left; refine ⟨rfl, ?_, ?_⟩; (rw [← q0.2.1, js i42, if_neg (by rw [fp_rt_i (by omega), ← q0.2.2, e4]; simp only [hv5, c14, l0, e106, cf, c106] at *; omega)]); (rw [show (i + 1).toNat = i.toNat + 1 by omega, p2, q0.2.2]; rfl)) | (right; refine ⟨by omega, ?_⟩; rw [← q0.2.1, js i42, if_pos (by right; rw [fp_rt_i (by omega), ← q0.2.2]; simp only [e106, cf, c106] at *; omega)])) | (have q0 := hv6.resolve_right (fun z => by simp only [cx, l0] at *; omega); right; refine ⟨by omega, ?_⟩; rw [← q0.2.1, js (by simp only [ci, hv3, cn] at *; omega), if_pos (by left; rw [e4]; simp only [hv5, c14, l0] at *; omega)]) | (rcases hv6 with z | z; (rw [← z.2.1, z.1, show (ν 83 42 - i).toNat = 0 by simp only [ci, hv3, cn, cx, l0] at *; omega]; rfl); (exact z.2)) | (trace_state; fail))
  have lp11' : ∀ (x i : Int) (μ : am_N) , MD mQ ν μ → 0 ≤ i → i ≤ ν 83 42 → μ 83 42 = ν 83 42 → (∀ b, μ 106 b = ν 106 b) → μ 83 14 = ν 83 14 → (x = -9 ∧ fp_jq (mv ν) (fp_rt (ν 83 42) (ν 106)) (ν 83 42 - i).toNat i.toNat = fp_jn (mv ν) (fp_rt (ν 83 42) (ν 106)) (ν 83 42) ∧ mv μ = fp_go (mv ν) i.toNat) ∨ (0 ≤ x ∧ x = (fp_jn (mv ν) (fp_rt (ν 83 42) (ν 106)) (ν 83 42))) → am_AW l 0 (fun _ => 0) 245 Q 11 [some (.inr (.inr 83)), some (.inl x), some (.inl i)] [] μ := fun x i μ hv0 hv1 hv2 hv3 hv4 hv5 hv6 => lp11 ((ν 83 42 - i) + 1).toNat x i μ hv0 hv1 hv2 hv3 hv4 hv5 hv6 (by omega)
  refine am_go (ct := fun pc => Nat.beq pc 11) am_oX7_wrongAt 300 ?_
  conv => whnf
  repeat' first
    | (refine (?_ : am_wp _ _ _ _ _ _ _ _ _ _ _ _); conv => whnf)
    | (refine (?_ : am_sw _ _ _ _); conv => whnf)
    | refine And.intro trivial ?_
    | exact trivial
    | (refine m_keep1 (fun μ1 u1 _ _ _ => ?_); have hD : MD mQ ν μ1 := md_start (gm_rf hm) u1; have p1 : mv μ1 = mv ν := mv_keep (fun a b q => u1.2 a b (by omega) (by omega)))
    | refine lp11' _ _ _ ?_ ?_ ?_ ?_ ?_ ?_ ?_
    | refine And.intro (fun h => absurd h (by decide)) (fun _ => ?_)
    | refine And.intro (fun _ => ?_) (fun h => absurd (by decide) h)
    | refine And.intro (fun _ => ?_) (fun _ => ?_)
    | refine And.intro ?_ ?_
  all_goals (first | decide | assumption | omega | exact hD | (exact u1.2 83 42 (by omega) (by omega)) | (exact u1.2 83 14 (by omega) (by omega)) | (intro b; exact u1.2 106 b (by omega) (by omega)) | (refine Or.inl ⟨rfl, ?_, p1⟩; rw [show (ν 83 42 - 0).toNat = (ν 83 42).toNat by omega]; rfl) | (trace_state; fail))
theorem n_judge {l : Launch} {ν : am_N} {Q : Option am_V → am_N → Prop} (hm : mi ν) (hw : fp_fw 999 (mv ν)) (hr : ∀ b : Nat, (b : Int) < ν 83 42 → 0 ≤ ν 106 b ∧ ν 106 b ≤ 99) (k : ∀ μ' : am_N, gm (mo mQ (m1o 83000 42)) ν μ' → μ' 83 42 = 0 → Q (some (.inl (fp_jn (mv ν) (fp_rt (ν 83 42) (ν 106)) (ν 83 42)))) μ') : am_Does l 247 [.inr (.inr 83)] ν Q := by
  refine am_Does_of (Nat.le_of_ble_eq_true rfl) (Nat.le_of_ble_eq_true rfl) (Nat.le_of_ble_eq_true rfl) ?_
  refine am_go (ct := fun _ => false) am_oX7_judge 300 ?_
  conv => whnf
  repeat' first
    | (refine (?_ : am_wp _ _ _ _ _ _ _ _ _ _ _ _); conv => whnf)
    | (refine (?_ : am_sw _ _ _ _); conv => whnf)
    | refine And.intro trivial ?_
    | exact trivial
    | (refine n_wrongAt hm hw hr (fun μ2 h2 => ?_); have hG : gm (mo mQ (m1o 83000 42)) ν (am_up μ2 83 42 0) := (by refine ⟨?_, fun a b q => ?_⟩; (have hm2 := h2.1; unfold mi at hm2 ⊢; rw [am_upM (by decide), am_upM (by decide), am_upM (by decide), am_upM (by decide), am_upM (by decide), am_upM (by decide), show am_up μ2 83 42 0 83 42 = 0 from if_pos ⟨rfl, rfl⟩, am_upN (by decide), am_upN (by decide), am_upN (by decide)]; refine ⟨hm2.1, hm2.2.1, hm2.2.2.1, hm2.2.2.2.1, hm2.2.2.2.2.1, hm2.2.2.2.2.2.1, by decide, hm2.2.2.2.2.2.2.2.1, hm2.2.2.2.2.2.2.2.2.1, hm2.2.2.2.2.2.2.2.2.2.1, fun p hp => ?_⟩; rw [am_upN (by decide)]; exact hm2.2.2.2.2.2.2.2.2.2.2 p hp); (rw [am_uE (fun z => by rw [z.1, z.2] at q; cases q)]; exact h2.2 a b (Bool.or_eq_false_iff.mp q).1)))
    | exact k _ hG (if_pos ⟨rfl, rfl⟩)
    | refine And.intro (fun h => absurd h (by decide)) (fun _ => ?_)
    | refine And.intro (fun _ => ?_) (fun h => absurd (by decide) h)
    | refine And.intro (fun _ => ?_) (fun _ => ?_)
    | refine And.intro ?_ ?_
  all_goals (first | decide | (trace_state; fail))
theorem s_fits {l : Launch} {ν : am_N} {Q : Option am_V → am_N → Prop} (i w : Int) (ci : am_c i = i) (cw : am_c w = w) (hS : sx ν ν) (hw : fp_fw 999 (fv ν 1)) (hr : ∀ b : Nat, (b : Int) < ν 44 1 → 0 ≤ ν 45 b ∧ ν 45 b ≤ 99) (k : ∀ μ' : am_N, sx ν μ' → Q (some (.inl (fp_ftr (fv ν 1) (fp_rt (ν 44 1) (ν 45)) (ν 44 1) i w))) μ') : am_Does l 84 [.inr (.inr 0), .inl i, .inl w] ν Q := by
  refine am_Does_of (Nat.le_of_ble_eq_true rfl) (Nat.le_of_ble_eq_true rfl) (Nat.le_of_ble_eq_true rfl) ?_
  have l0 : am_c 0 = 0 := rfl
  have l1 : am_c 1 = 1 := rfl
  have l9 : am_c 9 = 9 := rfl
  have l10 : am_c 10 = 10 := rfl
  have l12 : am_c 12 = 12 := rfl
  have l60 : am_c 60 = 60 := rfl
  have l99 : am_c 99 = 99 := rfl
  have m1' : am_c (-1) = -1 := rfl
  have m2' : am_c (-2) = -2 := rfl
  have m3' : am_c (-3) = -3 := rfl
  have m9' : am_c (-9) = -9 := rfl
  obtain ⟨hf, -, -, -, -, -, -⟩ := fw_C hw (by decide)
  have f0 := hf.1.1
  have f1 := hf.1.2
  have e4 : fv ν 1 0 4 = ν 1 4 := fv_0 (by decide)
  have h15 := hS.2.2.2.1
  have hb := sx_all hS
  have n44 : 0 ≤ ν 44 1 ∧ ν 44 1 ≤ 12 := by omega
  clear hb
  have kk := fun (x : Int) (μ' : am_N) (h : sx ν μ') (e : x = fp_ftr (fv ν 1) (fp_rt (ν 44 1) (ν 45)) (ν 44 1) i w) => am_qe (k μ' h) e
  have lp41 : ∀ (m : Nat) (x y s : Int) (μ : am_N) , (∀ a b, ¬(8 ≤ a ∧ a < 15) → a ≠ 33 → a ≠ 34 → ¬(a = 29 ∧ b = 0) → μ a b = ν a b) → -1 ≤ s → s ≤ 99 → x = fq_cd (fp_ftp (fv ν 1) (fp_rt (ν 44 1) (ν 45)) (ν 44 1) i) 100 (99 - s).toNat → y = fq_ld (fp_ftp (fv ν 1) (fp_rt (ν 44 1) (ν 45)) (ν 44 1) i) 100 (99 - s).toNat → sx_3 μ 34 → (0 ≤ μ 8 4 ∧ μ 8 4 ≤ 4) → (0 ≤ μ 29 0 ∧ μ 29 0 ≤ 4) → (0 ≤ i ∧ i < ν 1 4) → (w = 0 ∨ w = 1) → s + 1 < (m : Int) → am_AW l 0 (fun _ => 0) 84 Q 41 [some (.inr (.inr 0)), some (.inl i), some (.inl w), some (.inl x), some (.inl y), some (.inl s)] [] μ := by
    intro m
    induction m with
    | zero =>
      intro x y s μ hv0 hv1 hv2 hv3 hv4 hv5 hv6 hv7 hv8 hv9 hm
      exfalso
      omega
    | succ m ih =>
      intro x y s μ hv0 hv1 hv2 hv3 hv4 hv5 hv6 hv7 hv8 hv9 hm
      have cs : am_c s = s := am_cR (by omega) (by omega)
      have sE : sx ν μ := sx_lt hS (fun a b q1 q2 q3 q4 _ => hv0 a b q1 q2 q3 q4) hv5 hv6 hv7
      have eF : fv μ 1 = (fv ν 1) := fv_keep (fun a b q1 q2 => hv0 a b (by omega) (by omega) (by omega) (by omega))
      have dn := fun q : 0 ≤ s => fq_dn (P := (fp_ftp (fv ν 1) (fp_rt (ν 44 1) (ν 45)) (ν 44 1) i)) q hv2
      have e14 : μ 1 4 = ν 1 4 := hv0 1 4 (by omega) (by omega) (by omega) (by omega)
      have jb := fp_jq_b (F := fp_sd (fv ν 1) i.toNat s) (R := (fp_rt (ν 44 1) (ν 45))) (ν 44 1).toNat 0
      refine am_go (ct := fun pc => Nat.beq pc 41) am_oX6_fits 300 ?_
      conv => whnf
      repeat' first
        | (refine (?_ : am_wp _ _ _ _ _ _ _ _ _ _ _ _); conv => whnf)
        | (refine (?_ : am_sw _ _ _ _); conv => whnf)
        | refine And.intro trivial ?_
        | exact trivial
        | (have s0 : 0 ≤ s := (by simp only [cs, l0] at *; omega); refine x_take_8_1 (fun μ1 g1 s1 r1 => ?_); have p1 : fv μ1 8 = fv ν 1 := (fv_tk s1 r1).trans eF; have n8 : μ1 8 4 = ν 1 4 := (s1 4 (by decide)).trans e14)
        | (have p2 : fv (am_up μ1 13 (am_c i).toNat s) 8 = fp_sd (fv ν 1) i.toNat s := (by rw [ci, show fv (am_up μ1 13 i.toNat s) 8 = fp_ct (am_up (fv μ1 8) 5 i.toNat s) from fv_up (c := 8) (a := 5) (by decide), p1]; rfl); have e44 : am_up μ1 13 (am_c i).toNat s 44 1 = ν 44 1 := (am_upN (by decide)).trans ((g1 44 1 (by omega)).trans (hv0 44 1 (by omega) (by omega) (by omega) (by omega))); have e45 : am_up μ1 13 (am_c i).toNat s 45 = ν 45 := funext (fun b => (am_upN (by decide)).trans ((g1 45 b (by omega)).trans (hv0 45 b (by omega) (by omega) (by omega) (by omega)))); have fr8 : ∀ a b, ¬(8 ≤ a ∧ a < 15) → am_up μ1 13 (am_c i).toNat s a b = μ1 a b := (fun a b q => am_upN (by omega)); refine s_firstNotSo (by rw [p2]; exact fw_sd hw ⟨s0, hv2⟩) (by rw [e44]; exact n44.1) (by rw [e44]; exact n44.2) (by rw [e44, e45]; exact hr) (fun p hp2 => by rw [am_upN (by decide), g1 34 p (by omega)]; exact hv5 p hp2) (by rw [am_upN (by decide), g1 29 0 (by omega)]; exact hv7) (fun r μ2 g2 n2 b2 z2 er cr => ?_); rw [p2, e44, e45] at er; have ps : (fp_ftp (fv ν 1) (fp_rt (ν 44 1) (ν 45)) (ν 44 1) i) s.toNat = decide ((fp_jn (fp_sd (fv ν 1) i.toNat s) (fp_rt (ν 44 1) (ν 45)) (ν 44 1)) < 0) := (by unfold fp_ftp; rw [Int.toNat_of_nonneg s0]); have m8 : μ2 8 4 = ν 1 4 := n2.trans ((am_upN (by decide)).trans n8))
        | refine kk _ _ sE ?_
        | refine x_has1 _ f0 f1 (fun y0 y1 => ?_) (fun y => ?_)
        | refine x_refuse _ ?_ (fun μr fr => ?_)
        | refine x_noPart _ cw (fun z => ?_) (fun z => ?_)
        | refine kk _ _ (sx_78 hS fr) ?_
        | refine ih _ _ _ _ ?_ ?_ ?_ ?_ ?_ ?_ ?_ ?_ ?_ ?_ ?_
        | refine And.intro (fun h => absurd h (by decide)) (fun _ => ?_)
        | refine And.intro (fun _ => ?_) (fun h => absurd (by decide) h)
        | refine And.intro (fun _ => ?_) (fun _ => ?_)
        | refine And.intro ?_ ?_
      all_goals (first | decide | assumption | omega | (rw [ci]; omega) | (intro a b q1 q3 q4 q5; exact (g2 a b q1 q3 q4 q5).trans ((fr8 a b q1).trans ((g1 a b q1).trans (hv0 a b q1 q3 q4 q5)))) | (rw [m8]; exact ⟨f0, f1⟩) | (rw [(dn s0).1, ps, hv3]; first | (rw [show decide ((fp_jn (fp_sd (fv ν 1) i.toNat s) (fp_rt (ν 44 1) (ν 45)) (ν 44 1)) < 0) = true from decide_eq_true (by simp only [cr, l0] at *; split at er <;> omega)]; rfl) | (rw [show decide ((fp_jn (fp_sd (fv ν 1) i.toNat s) (fp_rt (ν 44 1) (ν 45)) (ν 44 1)) < 0) = false from decide_eq_false (by simp only [cr, l0] at *; split at er <;> omega)]; rfl)) | (rw [(dn s0).2, ps]; first | (rw [show decide ((fp_jn (fp_sd (fv ν 1) i.toNat s) (fp_rt (ν 44 1) (ν 45)) (ν 44 1)) < 0) = true from decide_eq_true (by simp only [cr, l0] at *; split at er <;> omega)]; rfl) | (rw [show decide ((fp_jn (fp_sd (fv ν 1) i.toNat s) (fp_rt (ν 44 1) (ν 45)) (ν 44 1)) < 0) = false from decide_eq_false (by simp only [cr, l0] at *; split at er <;> omega)]; rw [hv4]; rfl)) | (have se : (99 - s).toNat = 100 := (by simp only [cs, l0] at *; omega); rw [se] at hv3 hv4; (unfold fp_ftr; rw [e4, if_neg (by omega), if_neg (by omega)]; first | (rw [if_pos (by simp only [cw, l0] at *; omega), hv3, fq_c_N]) | (rw [if_neg (by simp only [cw, l0] at *; omega), hv4, fq_l_N]))) | (trace_state; fail))
  have lp41' : ∀ (x y s : Int) (μ : am_N) , (∀ a b, ¬(8 ≤ a ∧ a < 15) → a ≠ 33 → a ≠ 34 → ¬(a = 29 ∧ b = 0) → μ a b = ν a b) → -1 ≤ s → s ≤ 99 → x = fq_cd (fp_ftp (fv ν 1) (fp_rt (ν 44 1) (ν 45)) (ν 44 1) i) 100 (99 - s).toNat → y = fq_ld (fp_ftp (fv ν 1) (fp_rt (ν 44 1) (ν 45)) (ν 44 1) i) 100 (99 - s).toNat → sx_3 μ 34 → (0 ≤ μ 8 4 ∧ μ 8 4 ≤ 4) → (0 ≤ μ 29 0 ∧ μ 29 0 ≤ 4) → (0 ≤ i ∧ i < ν 1 4) → (w = 0 ∨ w = 1) → am_AW l 0 (fun _ => 0) 84 Q 41 [some (.inr (.inr 0)), some (.inl i), some (.inl w), some (.inl x), some (.inl y), some (.inl s)] [] μ := fun x y s μ hv0 hv1 hv2 hv3 hv4 hv5 hv6 hv7 hv8 hv9 => lp41 ((s + 1) + 1).toNat x y s μ hv0 hv1 hv2 hv3 hv4 hv5 hv6 hv7 hv8 hv9 (by omega)
  refine am_go (ct := fun pc => Nat.beq pc 41) am_oX6_fits 300 ?_
  conv => whnf
  repeat' first
    | (refine (?_ : am_wp _ _ _ _ _ _ _ _ _ _ _ _); conv => whnf)
    | (refine (?_ : am_sw _ _ _ _); conv => whnf)
    | refine And.intro trivial ?_
    | exact trivial
    | refine x_has1 _ f0 f1 (fun y0 y1 => ?_) (fun y => ?_)
    | refine x_refuse _ ?_ (fun μr fr => ?_)
    | refine x_noPart _ cw (fun z => ?_) (fun z => ?_)
    | refine kk _ _ (sx_78 hS fr) ?_
    | refine lp41' _ _ _ _ ?_ ?_ ?_ ?_ ?_ ?_ ?_ ?_ ?_ ?_
    | refine And.intro (fun h => absurd h (by decide)) (fun _ => ?_)
    | refine And.intro (fun _ => ?_) (fun h => absurd (by decide) h)
    | refine And.intro (fun _ => ?_) (fun _ => ?_)
    | refine And.intro ?_ ?_
  all_goals (first | decide | assumption | omega | rfl | (intros; rfl) | exact hS.2.1 | exact h15.1 | exact h15.1.1 | exact h15.1.2 | exact h15.2.2.1 | exact h15.2.2.1.1 | exact h15.2.2.1.2 | (unfold fp_ftr; rw [e4, if_pos (by omega)]; done) | (unfold fp_ftr; rw [e4, if_neg (by omega), if_pos (by omega)]; done) | (trace_state; fail))
theorem n_fits {l : Launch} {ν : am_N} {Q : Option am_V → am_N → Prop} (i w : Int) (ci : am_c i = i) (cw : am_c w = w) (hm : mi ν) (hw : fp_fw 999 (mv ν)) (hr : ∀ b : Nat, (b : Int) < ν 83 42 → 0 ≤ ν 106 b ∧ ν 106 b ≤ 99) (k : ∀ μ' : am_N, gm mQ ν μ' → Q (some (.inl (fp_ftr (mv ν) (fp_rt (ν 83 42) (ν 106)) (ν 83 42) i w))) μ') : am_Does l 246 [.inr (.inr 83), .inl i, .inl w] ν Q := by
  refine am_Does_of (Nat.le_of_ble_eq_true rfl) (Nat.le_of_ble_eq_true rfl) (Nat.le_of_ble_eq_true rfl) ?_
  have l0 : am_c 0 = 0 := rfl
  have l1 : am_c 1 = 1 := rfl
  have l9 : am_c 9 = 9 := rfl
  have l10 : am_c 10 = 10 := rfl
  have l12 : am_c 12 = 12 := rfl
  have l60 : am_c 60 = 60 := rfl
  have l99 : am_c 99 = 99 := rfl
  have m1' : am_c (-1) = -1 := rfl
  have m2' : am_c (-2) = -2 := rfl
  have m3' : am_c (-3) = -3 := rfl
  have m9' : am_c (-9) = -9 := rfl
  obtain ⟨hf, -, -, -, -, -, -⟩ := fw_M hw (by decide)
  have f0 := hf.1.1
  have f1 := hf.1.2
  have e4 : mv ν 0 4 = ν 83 14 := rfl
  have hc := mi_all hm
  have n1 : 0 ≤ ν 83 42 ∧ ν 83 42 ≤ 12 := by omega
  clear hc
  have kk := fun (x : Int) (μ' : am_N) (h : gm mQ ν μ') (e : x = fp_ftr (mv ν) (fp_rt (ν 83 42) (ν 106)) (ν 83 42) i w) => am_qe (k μ' h) e
  have ei : (am_c i).toNat = i.toNat := by rw [ci]
  have lp47 : ∀ (m : Nat) (z x t v : Int) (μ : am_N) , mi μ → (∀ a b, mQ a b = false → ¬(a = 89 ∧ b = i.toNat) → μ a b = ν a b) → 0 ≤ v → v ≤ 100 → x = fq_cu (fp_ftp (mv ν) (fp_rt (ν 83 42) (ν 106)) (ν 83 42) i) v.toNat → t = fq_lu (fp_ftp (mv ν) (fp_rt (ν 83 42) (ν 106)) (ν 83 42) i) v.toNat → (0 ≤ i ∧ i < ν 83 14) → (w = 0 ∨ w = 1) → z = ν 89 i.toNat → 100 - v < (m : Int) → am_AW l 0 (fun _ => 0) 246 Q 47 [some (.inr (.inr 83)), some (.inl i), some (.inl w), some (.inl z), some (.inl x), some (.inl t), some (.inl v)] [] μ := by
    intro m
    induction m with
    | zero =>
      intro z x t v μ hv0 hv1 hv2 hv3 hv4 hv5 hv6 hv7 hv8 hm
      exfalso
      omega
    | succ m ih =>
      intro z x t v μ hv0 hv1 hv2 hv3 hv4 hv5 hv6 hv7 hv8 hm
      have cv2 : am_c v = v := am_cR (by omega) (by omega)
      have p2 : mv (am_up μ 89 (am_c i).toNat v) = fp_sd (mv ν) i.toNat v := by rw [ei]; exact mv_but (a := 4) (by decide) hv1
      have n42 : am_up μ 89 (am_c i).toNat v 83 42 = ν 83 42 := (am_upN (by decide)).trans (hv1 83 42 rfl (by omega))
      have e106 : am_up μ 89 (am_c i).toNat v 106 = ν 106 := funext (fun b => (am_upN (by decide)).trans (hv1 106 b rfl (by omega)))
      have ps : (fp_ftp (mv ν) (fp_rt (ν 83 42) (ν 106)) (ν 83 42) i) v.toNat = decide ((fp_jn (fp_sd (mv ν) i.toNat v) (fp_rt (ν 83 42) (ν 106)) (ν 83 42)) < 0) := by unfold fp_ftp; rw [Int.toNat_of_nonneg hv2]
      have jb := fp_jq_b (F := fp_sd (mv ν) i.toNat v) (R := (fp_rt (ν 83 42) (ν 106))) (ν 83 42).toNat 0
      have je : (fp_jn (fp_sd (mv ν) i.toNat v) (fp_rt (ν 83 42) (ν 106)) (ν 83 42)) = fp_jq (fp_sd (mv ν) i.toNat v) (fp_rt (ν 83 42) (ν 106)) (ν 83 42).toNat 0 := rfl
      have cj : am_c (fp_jn (fp_sd (mv ν) i.toNat v) (fp_rt (ν 83 42) (ν 106)) (ν 83 42)) = (fp_jn (fp_sd (mv ν) i.toNat v) (fp_rt (ν 83 42) (ν 106)) (ν 83 42)) := by rw [← je] at jb; exact am_cR (by omega) (by omega)
      have xb := fq_cu_b (fp_ftp (mv ν) (fp_rt (ν 83 42) (ν 106)) (ν 83 42) i) v.toNat
      have cx : am_c x = x := am_cR (by omega) (by omega)
      have hE : gm mQ ν (am_up μ 89 (am_c i).toNat z) := ⟨mi_up hv0 rfl, fun a b q => by (by_cases d : a = 89 ∧ b = (am_c i).toNat; (rw [am_upS, if_pos d, d.1, d.2, ei]; exact hv8); (rw [am_uE d]; exact hv1 a b q (by rw [ei] at d; exact d)))⟩
      refine am_go (ct := fun pc => Nat.beq pc 47) am_oX7_fits 300 ?_
      conv => whnf
      repeat' first
        | (refine (?_ : am_wp _ _ _ _ _ _ _ _ _ _ _ _); conv => whnf)
        | (refine (?_ : am_sw _ _ _ _); conv => whnf)
        | refine And.intro trivial ?_
        | exact trivial
        | (refine (?_ : mi _); (first | decide | assumption | omega | (rw [ci]; omega) | exact h2.1 | (intro a b q d; rw [h2.2 a b q, am_uE (by rw [ei]; exact d)]; exact hv1 a b q d) | (rw [show (v + 1).toNat = v.toNat + 1 by omega]; simp only [fq_cu]; rw [ps]; first | (rw [show decide ((fp_jn (fp_sd (mv ν) i.toNat v) (fp_rt (ν 83 42) (ν 106)) (ν 83 42)) < 0) = true from decide_eq_true (by simp only [cj, l0] at *; omega)]; show x + 1 = fq_cu _ _ + 1; rw [hv4]) | (rw [show decide ((fp_jn (fp_sd (mv ν) i.toNat v) (fp_rt (ν 83 42) (ν 106)) (ν 83 42)) < 0) = false from decide_eq_false (by simp only [cj, l0] at *; omega)]; show x = fq_cu _ _; exact hv4)) | (rw [show (v + 1).toNat = v.toNat + 1 by omega]; simp only [fq_lu]; rw [ps]; first | (rw [show decide ((fp_jn (fp_sd (mv ν) i.toNat v) (fp_rt (ν 83 42) (ν 106)) (ν 83 42)) < 0) = true from decide_eq_true (by simp only [cj, l0] at *; omega)]; show _ = (if fq_cu _ _ = 0 then _ else _); first | (rw [if_pos (by rw [← hv4]; simp only [cx] at *; omega)]; omega) | (rw [if_neg (by rw [← hv4]; simp only [cx] at *; omega)]; exact hv5)) | (rw [show decide ((fp_jn (fp_sd (mv ν) i.toNat v) (fp_rt (ν 83 42) (ν 106)) (ν 83 42)) < 0) = false from decide_eq_false (by simp only [cj, l0] at *; omega)]; show t = fq_lu _ _; exact hv5)) | (have se : v.toNat = 100 := (by rw [cv2, l99] at *; omega); rw [se] at hv4 hv5; (unfold fp_ftr; rw [e4, if_neg (by omega), if_neg (by omega)]; first | (rw [if_pos (by simp only [cw, l0] at *; omega), hv4]) | (rw [if_neg (by simp only [cw, l0] at *; omega), hv5]))) | (trace_state; fail)))
        | (have v9 : v ≤ 99 := (by rw [cv2, l99] at *; omega); refine n_wrongAt (mi_up hv0 rfl) (by rw [p2]; exact fw_sd hw ⟨hv2, v9⟩) (by rw [n42, e106]; exact hr) (fun μ2 h2 => ?_); rw [p2, n42, e106])
        | exact h2.1
        | refine kk _ _ hE ?_
        | exact hm
        | refine x_isRunnerT _ f0 f1 (fun y0 y1 => ?_) (fun y => ?_)
        | refine x_isIn w _ _ _ rfl cw ?_ ?_ (fun _ _ => ?_) (fun _ => ?_)
        | refine x_no _ ?_ (fun μr fr => ?_)
        | refine And.intro (fun h => absurd h (by omega)) (fun _ => ?_)
        | refine And.intro (fun _ => ?_) (fun h => absurd h (by omega))
        | refine kk _ _ (gm_84 (fun _ => rfl) hm fr) ?_
        | refine ih _ _ _ _ _ ?_ ?_ ?_ ?_ ?_ ?_ ?_ ?_ ?_ ?_
        | refine And.intro (fun h => absurd h (by decide)) (fun _ => ?_)
        | refine And.intro (fun _ => ?_) (fun h => absurd (by decide) h)
        | refine And.intro (fun _ => ?_) (fun _ => ?_)
        | refine And.intro ?_ ?_
      all_goals (first | decide | assumption | omega | (rw [ci]; omega) | exact h2.1 | (intro a b q d; rw [h2.2 a b q, am_uE (by rw [ei]; exact d)]; exact hv1 a b q d) | (rw [show (v + 1).toNat = v.toNat + 1 by omega]; simp only [fq_cu]; rw [ps]; first | (rw [show decide ((fp_jn (fp_sd (mv ν) i.toNat v) (fp_rt (ν 83 42) (ν 106)) (ν 83 42)) < 0) = true from decide_eq_true (by simp only [cj, l0] at *; omega)]; show x + 1 = fq_cu _ _ + 1; rw [hv4]) | (rw [show decide ((fp_jn (fp_sd (mv ν) i.toNat v) (fp_rt (ν 83 42) (ν 106)) (ν 83 42)) < 0) = false from decide_eq_false (by simp only [cj, l0] at *; omega)]; show x = fq_cu _ _; exact hv4)) | (rw [show (v + 1).toNat = v.toNat + 1 by omega]; simp only [fq_lu]; rw [ps]; first | (rw [show decide ((fp_jn (fp_sd (mv ν) i.toNat v) (fp_rt (ν 83 42) (ν 106)) (ν 83 42)) < 0) = true from decide_eq_true (by simp only [cj, l0] at *; omega)]; show _ = (if fq_cu _ _ = 0 then _ else _); first | (rw [if_pos (by rw [← hv4]; simp only [cx] at *; omega)]; omega) | (rw [if_neg (by rw [← hv4]; simp only [cx] at *; omega)]; exact hv5)) | (rw [show decide ((fp_jn (fp_sd (mv ν) i.toNat v) (fp_rt (ν 83 42) (ν 106)) (ν 83 42)) < 0) = false from decide_eq_false (by simp only [cj, l0] at *; omega)]; show t = fq_lu _ _; exact hv5)) | (have se : v.toNat = 100 := (by rw [cv2, l99] at *; omega); rw [se] at hv4 hv5; (unfold fp_ftr; rw [e4, if_neg (by omega), if_neg (by omega)]; first | (rw [if_pos (by simp only [cw, l0] at *; omega), hv4]) | (rw [if_neg (by simp only [cw, l0] at *; omega), hv5]))) | (trace_state; fail))
  have lp47' : ∀ (z x t v : Int) (μ : am_N) , mi μ → (∀ a b, mQ a b = false → ¬(a = 89 ∧ b = i.toNat) → μ a b = ν a b) → 0 ≤ v → v ≤ 100 → x = fq_cu (fp_ftp (mv ν) (fp_rt (ν 83 42) (ν 106)) (ν 83 42) i) v.toNat → t = fq_lu (fp_ftp (mv ν) (fp_rt (ν 83 42) (ν 106)) (ν 83 42) i) v.toNat → (0 ≤ i ∧ i < ν 83 14) → (w = 0 ∨ w = 1) → z = ν 89 i.toNat → am_AW l 0 (fun _ => 0) 246 Q 47 [some (.inr (.inr 83)), some (.inl i), some (.inl w), some (.inl z), some (.inl x), some (.inl t), some (.inl v)] [] μ := fun z x t v μ hv0 hv1 hv2 hv3 hv4 hv5 hv6 hv7 hv8 => lp47 ((100 - v) + 1).toNat z x t v μ hv0 hv1 hv2 hv3 hv4 hv5 hv6 hv7 hv8 (by omega)
  refine am_go (ct := fun pc => Nat.beq pc 47) am_oX7_fits 300 ?_
  conv => whnf
  repeat' first
    | (refine (?_ : am_wp _ _ _ _ _ _ _ _ _ _ _ _); conv => whnf)
    | (refine (?_ : am_sw _ _ _ _); conv => whnf)
    | refine And.intro trivial ?_
    | exact trivial
    | (refine (?_ : mi _); (first | decide | assumption | omega | rfl | (intros; rfl) | (rw [ci]; omega) | (rw [ei]) | (unfold fp_ftr; rw [e4, if_pos (by omega)]; done) | (unfold fp_ftr; rw [e4, if_neg (by omega), if_pos (by omega)]; done) | (trace_state; fail)))
    | exact hm
    | refine x_isRunnerT _ f0 f1 (fun y0 y1 => ?_) (fun y => ?_)
    | refine x_isIn w _ _ _ rfl cw ?_ ?_ (fun _ _ => ?_) (fun _ => ?_)
    | refine x_no _ ?_ (fun μr fr => ?_)
    | refine And.intro (fun h => absurd h (by omega)) (fun _ => ?_)
    | refine And.intro (fun _ => ?_) (fun h => absurd h (by omega))
    | refine kk _ _ (gm_84 (fun _ => rfl) hm fr) ?_
    | refine lp47' _ _ _ _ _ ?_ ?_ ?_ ?_ ?_ ?_ ?_ ?_ ?_
    | refine And.intro (fun h => absurd h (by decide)) (fun _ => ?_)
    | refine And.intro (fun _ => ?_) (fun h => absurd (by decide) h)
    | refine And.intro (fun _ => ?_) (fun _ => ?_)
    | refine And.intro ?_ ?_
  all_goals (first | decide | assumption | omega | rfl | (intros; rfl) | (rw [ci]; omega) | (rw [ei]) | (unfold fp_ftr; rw [e4, if_pos (by omega)]; done) | (unfold fp_ftr; rw [e4, if_neg (by omega), if_pos (by omega)]; done) | (trace_state; fail))
