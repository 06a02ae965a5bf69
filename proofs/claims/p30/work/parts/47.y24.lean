/-! contents: rows told on both sides -/
def rq_w (j c r : Nat) (lo hi : Int) (μ : am_N) : Prop := μ r 1 = μ 83 j ∧ ∀ b : Nat, (b : Int) < μ 83 j → μ (r + 1) b = μ c b ∧ lo ≤ μ c b ∧ μ c b ≤ hi
/-- what the image keeps of them -/
def rq_v (j o r : Nat) (lo hi : Int) (μ : am_N) : Prop := μ r 1 = μ 98 j ∧ ∀ b : Nat, (b : Int) < μ 98 j → μ (r + 1) b = μ 98 (o + b) ∧ lo ≤ μ 98 (o + b) ∧ μ 98 (o + b) ≤ hi
def rq_S (μ : am_N) : Prop := μ 83 25 ≠ 0 → rq_v 38 24 50 1 9 μ ∧ rq_v 39 30 58 0 3 μ ∧ rq_v 39 34 60 (-9) 9 μ
def rq_C (μ : am_N) : Prop := rq_w 42 106 44 0 99 μ ∧ rq_w 40 105 46 0 999 μ ∧ rq_w 15 91 48 1 9 μ ∧ rq_w 16 92 53 0 3 μ ∧ rq_w 16 93 55 (-9) 9 μ ∧ rq_S μ
def lx_J (μ : am_N) : Prop := lx_I μ ∧ rq_C μ
/-- the cells that this speaks of -/
def rq_K (a b : Nat) : Prop := (44 ≤ a ∧ a ≤ 61) ∨ (a = 83 ∧ (b = 15 ∨ b = 16 ∨ b = 25 ∨ b = 40 ∨ b = 42)) ∨ (a = 91 ∧ b < 6) ∨ ((a = 92 ∨ a = 93) ∧ b < 4) ∨ (a = 105 ∧ b < 6) ∨ (a = 106 ∧ b < 12) ∨ (a = 98 ∧ b < 45)
theorem rq_w_keep {j c r : Nat} {lo hi : Int} {μ ν : am_N} (h : rq_w j c r lo hi μ) (e1 : ν r 1 = μ r 1) (e2 : ∀ b, ν (r + 1) b = μ (r + 1) b) (e3 : ν 83 j = μ 83 j) (e4 : ∀ b : Nat, (b : Int) < μ 83 j → ν c b = μ c b) : rq_w j c r lo hi ν := by
  obtain ⟨h1, h2⟩ := h
  refine ⟨by rw [e1, e3]; exact h1, fun b hb => ?_⟩
  rw [e3] at hb
  rw [e2, e4 b hb]
  exact h2 b hb
theorem rq_w_zero {j c r : Nat} {lo hi : Int} {ν : am_N} (e1 : ν r 1 = 0) (e3 : ν 83 j = 0) : rq_w j c r lo hi ν := ⟨by rw [e1, e3], fun b hb => by rw [e3] at hb; omega⟩
theorem rq_w_put {j c r : Nat} {lo hi v : Int} {μ ν : am_N} (h : rq_w j c r lo hi μ) (n0 : 0 ≤ μ 83 j) (hv : lo ≤ v ∧ v ≤ hi) (e1 : ν r 1 = μ r 1 + 1) (e2 : ∀ b, ν (r + 1) b = if b = (μ r 1).toNat then v else μ (r + 1) b) (e3 : ν 83 j = μ 83 j + 1) (e4 : ∀ b, ν c b = if b = (μ 83 j).toNat then v else μ c b) : rq_w j c r lo hi ν := by
  obtain ⟨h1, h2⟩ := h
  refine ⟨by rw [e1, e3, h1], fun b hb => ?_⟩
  rw [e3] at hb
  rw [e2, e4, h1]
  by_cases d : b = (μ 83 j).toNat
  · rw [if_pos d, if_pos d]; exact ⟨rfl, hv.1, hv.2⟩
  · rw [if_neg d, if_neg d]; exact h2 b (by omega)
theorem rq_v_keep {j o r : Nat} {lo hi : Int} {μ ν : am_N} (h : rq_v j o r lo hi μ) (hj : j < 45) (ho : o + 6 ≤ 45) (hn : μ 98 j ≤ 6) (e1 : ν r 1 = μ r 1) (e2 : ∀ b, ν (r + 1) b = μ (r + 1) b) (e4 : ∀ b : Nat, b < 45 → ν 98 b = μ 98 b) : rq_v j o r lo hi ν := by
  obtain ⟨h1, h2⟩ := h
  refine ⟨by rw [e1, e4 j hj]; exact h1, fun b hb => ?_⟩
  rw [e4 j hj] at hb
  rw [e2, e4 (o + b) (by omega)]
  exact h2 b hb
theorem rq_S_keep {μ ν : am_N} (h : rq_S μ) (hm : mi μ) (e : ∀ a b, (50 ≤ a ∧ a ≤ 51) ∨ (57 ≤ a ∧ a ≤ 61) ∨ (a = 83 ∧ b = 25) ∨ (a = 98 ∧ b < 45) → ν a b = μ a b) : rq_S ν := fun z => by
  rw [e 83 25 (by omega)] at z
  obtain ⟨h1, h2, h3⟩ := h z
  have q1 := hm.2.2.2.2.2.2.2.2.1
  have q2 := hm.2.2.2.2.2.2.2.2.2.1
  exact ⟨rq_v_keep h1 (by decide) (by decide) (by omega) (e _ _ (by omega)) (fun b => e _ _ (by omega)) (fun b hb => e _ _ (by omega)), rq_v_keep h2 (by decide) (by decide) (by omega) (e _ _ (by omega)) (fun b => e _ _ (by omega)) (fun b hb => e _ _ (by omega)), rq_v_keep h3 (by decide) (by decide) (by omega) (e _ _ (by omega)) (fun b => e _ _ (by omega)) (fun b hb => e _ _ (by omega))⟩
theorem rq_C_keep {μ ν : am_N} (h : rq_C μ) (hm : mi μ) (e : ∀ a b, rq_K a b → ν a b = μ a b) : rq_C ν := by
  obtain ⟨h1, h2, h3, h4, h5, h6⟩ := h
  have q := mi_all hm
  exact ⟨rq_w_keep h1 (e _ _ (by unfold rq_K; omega)) (fun b => e _ _ (by unfold rq_K; omega)) (e _ _ (by unfold rq_K; omega)) (fun b hb => e _ _ (by unfold rq_K; omega)), rq_w_keep h2 (e _ _ (by unfold rq_K; omega)) (fun b => e _ _ (by unfold rq_K; omega)) (e _ _ (by unfold rq_K; omega)) (fun b hb => e _ _ (by unfold rq_K; omega)), rq_w_keep h3 (e _ _ (by unfold rq_K; omega)) (fun b => e _ _ (by unfold rq_K; omega)) (e _ _ (by unfold rq_K; omega)) (fun b hb => e _ _ (by unfold rq_K; omega)), rq_w_keep h4 (e _ _ (by unfold rq_K; omega)) (fun b => e _ _ (by unfold rq_K; omega)) (e _ _ (by unfold rq_K; omega)) (fun b hb => e _ _ (by unfold rq_K; omega)), rq_w_keep h5 (e _ _ (by unfold rq_K; omega)) (fun b => e _ _ (by unfold rq_K; omega)) (e _ _ (by unfold rq_K; omega)) (fun b hb => e _ _ (by unfold rq_K; omega)), rq_S_keep h6 hm (fun a b q => e a b (by unfold rq_K; omega))⟩
/-- calls that leave all of this: by the weak contracts -/
def fp_Ad (A : Nat → Nat → Bool) : Prop := ∀ a b, 83 ≤ a → rq_K a b → A a b = false
theorem LJ_weak {A : Nat → Nat → Bool} {μ μ1 μ2 : am_N} (hI : lx_J μ) (h1 : gv [] μ μ1) (h2 : gm A μ1 μ2) (hA : lx_A A) (hAc : fp_Ac A) (hAd : fp_Ad A) : lx_J μ2 := by
  refine ⟨LI_weak (E := []) hI.1 h1 h2 (lx_c rfl) rfl hA hAc, rq_C_keep hI.2 hI.1.2.1 (fun a b q => ?_)⟩
  have e1 : μ1 a b = μ a b := h1.2 a b (by
    have z : sx_p a = true := by
      by_cases d : 83 ≤ a
      · exact sx_p83 d
      · rcases (show a = 44 ∨ a = 45 ∨ a = 46 ∨ a = 47 ∨ a = 48 ∨ a = 49 ∨ a = 50 ∨ a = 51 ∨ a = 52 ∨ a = 53 ∨ a = 54 ∨ a = 55 ∨ a = 56 ∨ a = 57 ∨ a = 58 ∨ a = 59 ∨ a = 60 ∨ a = 61 by unfold rq_K at q; omega) with rfl | rfl | rfl | rfl | rfl | rfl | rfl | rfl | rfl | rfl | rfl | rfl | rfl | rfl | rfl | rfl | rfl | rfl <;> rfl
    rw [z]; rfl)
  by_cases d : 83 ≤ a
  · exact (h2.2 a b (hAd a b d q)).trans e1
  · exact (h2.2 a b (hA a b (by omega))).trans e1
theorem fp_AdQ : fp_Ad mQ := fun a b ha h => by
  rcases h with h | ⟨rfl, h⟩ | ⟨rfl, h⟩ | ⟨h, h2⟩ | ⟨rfl, h⟩ | ⟨rfl, h⟩ | ⟨rfl, h⟩
  · omega
  · rcases h with rfl | rfl | rfl | rfl | rfl <;> rfl
  · rcases (show b = 0 ∨ b = 1 ∨ b = 2 ∨ b = 3 ∨ b = 4 ∨ b = 5 by omega) with rfl | rfl | rfl | rfl | rfl | rfl <;> rfl
  · rcases h with rfl | rfl <;> rcases (show b = 0 ∨ b = 1 ∨ b = 2 ∨ b = 3 by omega) with rfl | rfl | rfl | rfl <;> rfl
  · rfl
  · rfl
  · have z : Nat.ble 60 b = false := by
      cases y : Nat.ble 60 b with
      | false => rfl
      | true => have := Nat.ble_eq.mp y; omega
    show mo ms mQ1 98 b = false
    unfold mo mQ1
    rw [z]
    rfl
theorem fp_Ads : fp_Ad ms := fun a b ha h => mo_l a b (fp_AdQ a b ha h)
theorem s_row {l : Launch} {ν : am_N} {Q : Option am_V → am_N → Prop} (v : Int) (cv : am_c v = v) (hS : sx ν ν) (k1 : (0 ≤ v ∧ v ≤ 99) → ν 44 1 < 12 → ∀ μ' : am_N, (∀ a b, ¬(a = 44 ∧ b = 1) → a ≠ 45 → μ' a b = ν a b) → μ' 44 1 = ν 44 1 + 1 → (∀ b, μ' 45 b = if b = (ν 44 1).toNat then v else ν 45 b) → Q (some (.inl (ν 44 1 + 1))) μ') (k0 : ∀ (r : Int) (μ' : am_N), ((v < 0 ∧ r = -4) ∨ (99 < v ∧ r = -6) ∨ ((0 ≤ v ∧ v ≤ 99) ∧ ν 44 1 = 12 ∧ r = -6)) → (∀ a b, a ≠ 78 → μ' a b = ν a b) → Q (some (.inl r)) μ') : am_Does l 86 [.inr (.inr 0), .inl v] ν Q := by
  refine am_Does_of (Nat.le_of_ble_eq_true rfl) (Nat.le_of_ble_eq_true rfl) (Nat.le_of_ble_eq_true rfl) ?_
  have l0 : am_c 0 = 0 := rfl
  have l1 : am_c 1 = 1 := rfl
  have l3 : am_c 3 = 3 := rfl
  have l4 : am_c 4 = 4 := rfl
  have l6 : am_c 6 = 6 := rfl
  have l9 : am_c 9 = 9 := rfl
  have l12 : am_c 12 = 12 := rfl
  have l99 : am_c 99 = 99 := rfl
  have l999 : am_c 999 = 999 := rfl
  have kk := fun (a1 : 0 ≤ v ∧ v ≤ 99) (a2 : ν 44 1 < 12) => k1 a1 a2 _ (fun a b q1 q2 => (am_upN q2).trans (am_uE q1)) ((am_upN (by decide)).trans (if_pos ⟨rfl, rfl⟩)) (fun b => by by_cases d : b = (ν 44 1).toNat; (rw [am_upS, if_pos ⟨rfl, d⟩, if_pos d]); (rw [am_upM d, if_neg d]; exact am_upN (by decide)))
  refine am_go (ct := fun _ => false) am_oX6_row 300 ?_
  conv => whnf
  repeat' first
    | (refine (?_ : am_wp _ _ _ _ _ _ _ _ _ _ _ _); conv => whnf)
    | (refine (?_ : am_sw _ _ _ _); conv => whnf)
    | refine And.intro trivial ?_
    | exact trivial
    | refine x_refuse _ ?_ (fun μr fr => ?_)
    | refine k0 _ _ ?_ fr
    | refine v_full_X3_44 (ν := ν) hS (fun w => ?_) (fun w => ?_)
    | refine v_putE_X3_44 _ hS w ?_
    | exact kk (by omega) w
    | refine And.intro (fun h => absurd h (by decide)) (fun _ => ?_)
    | refine And.intro (fun _ => ?_) (fun h => absurd (by decide) h)
    | refine And.intro (fun _ => ?_) (fun _ => ?_)
    | refine And.intro ?_ ?_
  all_goals (first | decide | omega | (trace_state; fail))
theorem s_time {l : Launch} {ν : am_N} {Q : Option am_V → am_N → Prop} (v : Int) (cv : am_c v = v) (hS : sx ν ν) (k1 : (0 ≤ v ∧ v ≤ 999) → ν 46 1 < 6 → ∀ μ' : am_N, (∀ a b, ¬(a = 46 ∧ b = 1) → a ≠ 47 → μ' a b = ν a b) → μ' 46 1 = ν 46 1 + 1 → (∀ b, μ' 47 b = if b = (ν 46 1).toNat then v else ν 47 b) → Q (some (.inl (ν 46 1 + 1))) μ') (k0 : ∀ (r : Int) (μ' : am_N), ((v < 0 ∧ r = -4) ∨ (999 < v ∧ r = -6) ∨ ((0 ≤ v ∧ v ≤ 999) ∧ ν 46 1 = 6 ∧ r = -6)) → (∀ a b, a ≠ 78 → μ' a b = ν a b) → Q (some (.inl r)) μ') : am_Does l 107 [.inr (.inr 0), .inl v] ν Q := by
  refine am_Does_of (Nat.le_of_ble_eq_true rfl) (Nat.le_of_ble_eq_true rfl) (Nat.le_of_ble_eq_true rfl) ?_
  have l0 : am_c 0 = 0 := rfl
  have l1 : am_c 1 = 1 := rfl
  have l3 : am_c 3 = 3 := rfl
  have l4 : am_c 4 = 4 := rfl
  have l6 : am_c 6 = 6 := rfl
  have l9 : am_c 9 = 9 := rfl
  have l12 : am_c 12 = 12 := rfl
  have l99 : am_c 99 = 99 := rfl
  have l999 : am_c 999 = 999 := rfl
  have kk := fun (a1 : 0 ≤ v ∧ v ≤ 999) (a2 : ν 46 1 < 6) => k1 a1 a2 _ (fun a b q1 q2 => (am_upN q2).trans (am_uE q1)) ((am_upN (by decide)).trans (if_pos ⟨rfl, rfl⟩)) (fun b => by by_cases d : b = (ν 46 1).toNat; (rw [am_upS, if_pos ⟨rfl, d⟩, if_pos d]); (rw [am_upM d, if_neg d]; exact am_upN (by decide)))
  refine am_go (ct := fun _ => false) am_oX6_time 300 ?_
  conv => whnf
  repeat' first
    | (refine (?_ : am_wp _ _ _ _ _ _ _ _ _ _ _ _); conv => whnf)
    | (refine (?_ : am_sw _ _ _ _); conv => whnf)
    | refine And.intro trivial ?_
    | exact trivial
    | refine x_refuse _ ?_ (fun μr fr => ?_)
    | refine k0 _ _ ?_ fr
    | refine v_full_X3_46 (ν := ν) hS (fun w => ?_) (fun w => ?_)
    | refine v_putE_X3_46 _ hS w ?_
    | exact kk (by omega) w
    | refine And.intro (fun h => absurd h (by decide)) (fun _ => ?_)
    | refine And.intro (fun _ => ?_) (fun h => absurd (by decide) h)
    | refine And.intro (fun _ => ?_) (fun _ => ?_)
    | refine And.intro ?_ ?_
  all_goals (first | decide | omega | (trace_state; fail))
theorem s_bag {l : Launch} {ν : am_N} {Q : Option am_V → am_N → Prop} (v : Int) (cv : am_c v = v) (hS : sx ν ν) (k1 : (1 ≤ v ∧ v ≤ 9) → ν 48 1 < 6 → ∀ μ' : am_N, (∀ a b, ¬(a = 48 ∧ b = 1) → a ≠ 49 → μ' a b = ν a b) → μ' 48 1 = ν 48 1 + 1 → (∀ b, μ' 49 b = if b = (ν 48 1).toNat then v else ν 49 b) → Q (some (.inl (ν 48 1 + 1))) μ') (k0 : ∀ (r : Int) (μ' : am_N), ((v < 1 ∧ r = -4) ∨ (9 < v ∧ r = -6) ∨ ((1 ≤ v ∧ v ≤ 9) ∧ ν 48 1 = 6 ∧ r = -6)) → (∀ a b, a ≠ 78 → μ' a b = ν a b) → Q (some (.inl r)) μ') : am_Does l 91 [.inr (.inr 0), .inl v] ν Q := by
  refine am_Does_of (Nat.le_of_ble_eq_true rfl) (Nat.le_of_ble_eq_true rfl) (Nat.le_of_ble_eq_true rfl) ?_
  have l0 : am_c 0 = 0 := rfl
  have l1 : am_c 1 = 1 := rfl
  have l3 : am_c 3 = 3 := rfl
  have l4 : am_c 4 = 4 := rfl
  have l6 : am_c 6 = 6 := rfl
  have l9 : am_c 9 = 9 := rfl
  have l12 : am_c 12 = 12 := rfl
  have l99 : am_c 99 = 99 := rfl
  have l999 : am_c 999 = 999 := rfl
  have kk := fun (a1 : 1 ≤ v ∧ v ≤ 9) (a2 : ν 48 1 < 6) => k1 a1 a2 _ (fun a b q1 q2 => (am_upN q2).trans (am_uE q1)) ((am_upN (by decide)).trans (if_pos ⟨rfl, rfl⟩)) (fun b => by by_cases d : b = (ν 48 1).toNat; (rw [am_upS, if_pos ⟨rfl, d⟩, if_pos d]); (rw [am_upM d, if_neg d]; exact am_upN (by decide)))
  refine am_go (ct := fun _ => false) am_oX6_bag 300 ?_
  conv => whnf
  repeat' first
    | (refine (?_ : am_wp _ _ _ _ _ _ _ _ _ _ _ _); conv => whnf)
    | (refine (?_ : am_sw _ _ _ _); conv => whnf)
    | refine And.intro trivial ?_
    | exact trivial
    | refine x_refuse _ ?_ (fun μr fr => ?_)
    | refine k0 _ _ ?_ fr
    | refine v_full_X3_48 (ν := ν) hS (fun w => ?_) (fun w => ?_)
    | refine v_putE_X3_48 _ hS w ?_
    | exact kk (by omega) w
    | refine And.intro (fun h => absurd h (by decide)) (fun _ => ?_)
    | refine And.intro (fun _ => ?_) (fun h => absurd (by decide) h)
    | refine And.intro (fun _ => ?_) (fun _ => ?_)
    | refine And.intro ?_ ?_
  all_goals (first | decide | omega | (trace_state; fail))
theorem s_clear {l : Launch} {ν : am_N} {Q : Option am_V → am_N → Prop} (k : ∀ μ' : am_N, (∀ a b, ¬(a = 44 ∧ b = 1) → μ' a b = ν a b) → μ' 44 1 = 0 → Q (some (.inl (ν 44 1))) μ') : am_Does l 88 [.inr (.inr 0)] ν Q := by
  refine am_Does_of (Nat.le_of_ble_eq_true rfl) (Nat.le_of_ble_eq_true rfl) (Nat.le_of_ble_eq_true rfl) ?_
  refine am_go (ct := fun _ => false) am_oX6_clear 300 ?_
  conv => whnf
  repeat' first
    | (refine (?_ : am_wp _ _ _ _ _ _ _ _ _ _ _ _); conv => whnf)
    | (refine (?_ : am_sw _ _ _ _); conv => whnf)
    | refine And.intro trivial ?_
    | exact trivial
    | refine v_drop_X3_44 ?_
    | exact k _ (fun a b q => am_uE q) (if_pos ⟨rfl, rfl⟩)
    | refine And.intro (fun h => absurd h (by decide)) (fun _ => ?_)
    | refine And.intro (fun _ => ?_) (fun h => absurd (by decide) h)
    | refine And.intro (fun _ => ?_) (fun _ => ?_)
    | refine And.intro ?_ ?_
  all_goals (first | decide | omega | (trace_state; fail))
theorem s_wipe {l : Launch} {ν : am_N} {Q : Option am_V → am_N → Prop} (k : ∀ μ' : am_N, (∀ a b, ¬(a = 46 ∧ b = 1) → μ' a b = ν a b) → μ' 46 1 = 0 → Q (some (.inl (ν 46 1))) μ') : am_Does l 109 [.inr (.inr 0)] ν Q := by
  refine am_Does_of (Nat.le_of_ble_eq_true rfl) (Nat.le_of_ble_eq_true rfl) (Nat.le_of_ble_eq_true rfl) ?_
  refine am_go (ct := fun _ => false) am_oX6_wipe 300 ?_
  conv => whnf
  repeat' first
    | (refine (?_ : am_wp _ _ _ _ _ _ _ _ _ _ _ _); conv => whnf)
    | (refine (?_ : am_sw _ _ _ _); conv => whnf)
    | refine And.intro trivial ?_
    | exact trivial
    | refine v_drop_X3_46 ?_
    | exact k _ (fun a b q => am_uE q) (if_pos ⟨rfl, rfl⟩)
    | refine And.intro (fun h => absurd h (by decide)) (fun _ => ?_)
    | refine And.intro (fun _ => ?_) (fun h => absurd (by decide) h)
    | refine And.intro (fun _ => ?_) (fun _ => ?_)
    | refine And.intro ?_ ?_
  all_goals (first | decide | omega | (trace_state; fail))
theorem s_empty {l : Launch} {ν : am_N} {Q : Option am_V → am_N → Prop} (k : ∀ μ' : am_N, (∀ a b, ¬(a = 48 ∧ b = 1) → μ' a b = ν a b) → μ' 48 1 = 0 → Q (some (.inl (ν 48 1))) μ') : am_Does l 92 [.inr (.inr 0)] ν Q := by
  refine am_Does_of (Nat.le_of_ble_eq_true rfl) (Nat.le_of_ble_eq_true rfl) (Nat.le_of_ble_eq_true rfl) ?_
  refine am_go (ct := fun _ => false) am_oX6_empty 300 ?_
  conv => whnf
  repeat' first
    | (refine (?_ : am_wp _ _ _ _ _ _ _ _ _ _ _ _); conv => whnf)
    | (refine (?_ : am_sw _ _ _ _); conv => whnf)
    | refine And.intro trivial ?_
    | exact trivial
    | refine v_drop_X3_48 ?_
    | exact k _ (fun a b q => am_uE q) (if_pos ⟨rfl, rfl⟩)
    | refine And.intro (fun h => absurd h (by decide)) (fun _ => ?_)
    | refine And.intro (fun _ => ?_) (fun h => absurd (by decide) h)
    | refine And.intro (fun _ => ?_) (fun _ => ?_)
    | refine And.intro ?_ ?_
  all_goals (first | decide | omega | (trace_state; fail))
theorem v_putX1 {l : Launch} {ν : am_N} {Q : Option am_V → am_N → Prop} (w y : Int) (hS : sx ν ν) (h53 : ν 55 1 = ν 53 1) (a3 : ν 53 1 < 4) (k1 : ∀ μ' : am_N, (∀ a b, ¬(a = 53 ∧ b = 1) → ¬(a = 55 ∧ b = 1) → a ≠ 54 → a ≠ 56 → μ' a b = ν a b) → μ' 53 1 = ν 53 1 + 1 → μ' 55 1 = ν 55 1 + 1 → (∀ b, μ' 54 b = if b = (ν 53 1).toNat then w else ν 54 b) → (∀ b, μ' 56 b = if b = (ν 55 1).toNat then y else ν 56 b) → Q (some (.inl (ν 53 1 + 1))) μ') : am_Does l 16 [.inr (.inr 52), .inl w, .inl y] ν Q := by
  refine am_Does_of (Nat.le_of_ble_eq_true rfl) (Nat.le_of_ble_eq_true rfl) (Nat.le_of_ble_eq_true rfl) ?_
  have hb := sx_all hS
  have hY : sx (am_up (am_up ν 55 1 (ν 55 1 + 1)) 56 (ν 55 1).toNat y) (am_up (am_up ν 55 1 (ν 55 1 + 1)) 56 (ν 55 1).toNat y) := by
    have g : ∀ a b, ¬(a = 55 ∧ b = 1) → a ≠ 56 → am_up (am_up ν 55 1 (ν 55 1 + 1)) 56 (ν 55 1).toNat y a b = ν a b := fun a b q1 q2 => (am_upN q2).trans (am_uE q1)
    have d1 : am_up (am_up ν 55 1 (ν 55 1 + 1)) 56 (ν 55 1).toNat y 55 1 = ν 55 1 + 1 := (am_upN (by decide)).trans (if_pos ⟨rfl, rfl⟩)
    exact ⟨fun _ _ _ => rfl, fun p hp => by rw [g 34 p (by omega) (by omega)]; exact hS.2.1 p hp, fun p hp => by rw [g 43 p (by omega) (by omega)]; exact hS.2.2.1 p hp, by have q := hS.2.2.2.1; unfold sx_4 at q ⊢; rw [g 8 4 (by omega) (by omega), g 15 4 (by omega) (by omega), g 29 0 (by omega) (by omega), g 38 0 (by omega) (by omega)]; omega, by have q := hS.2.2.2.2; unfold px at q ⊢; rw [g 1 4 (by omega) (by omega), g 22 4 (by omega) (by omega), g 36 1 (by omega) (by omega), g 44 1 (by omega) (by omega), g 46 1 (by omega) (by omega), g 48 1 (by omega) (by omega), g 50 1 (by omega) (by omega), g 53 1 (by omega) (by omega), g 58 1 (by omega) (by omega), g 60 1 (by omega) (by omega), g 62 3 (by omega) (by omega)]; omega⟩
  have n55 : am_up (am_up ν 55 1 (ν 55 1 + 1)) 56 (ν 55 1).toNat y 53 1 = ν 53 1 := (am_upN (by decide)).trans (am_uE (by omega))
  have kk := fun (μ' : am_N) (x : Int) (e : μ' = am_up (am_up (am_up (am_up ν 55 1 (ν 55 1 + 1)) 56 (ν 55 1).toNat y) 53 1 (ν 53 1 + 1)) 54 (ν 53 1).toNat w) (ex : x = ν 53 1 + 1) => (show Q (some (.inl x)) μ' by
    rw [ex]
    refine k1 μ' (fun a b q1 q2 q3 q4 => ?_) ?_ ?_ (fun b => ?_) (fun b => ?_)
    · rw [e, am_upN q3, am_uE q1, am_upN q4, am_uE q2]
    · rw [e, am_upN (by decide)]; exact if_pos ⟨rfl, rfl⟩
    · rw [e, am_upN (by decide), am_upN (by decide), am_upN (by decide)]; exact if_pos ⟨rfl, rfl⟩
    · rw [e]; by_cases d : b = (ν 53 1).toNat; (rw [am_upS, if_pos ⟨rfl, d⟩, if_pos d]); (rw [am_upM d, if_neg d, am_upN (by decide), am_upN (by decide), am_upN (by decide)])
    · rw [e, am_upN (by decide), am_upN (by decide)]; by_cases d : b = (ν 55 1).toNat; (rw [am_upS, if_pos ⟨rfl, d⟩, if_pos d]); (rw [am_upM d, if_neg d]; exact am_upN (by decide)))
  refine am_go (ct := fun _ => false) am_oX1_put 300 ?_
  conv => whnf
  repeat' first
    | (refine (?_ : am_wp _ _ _ _ _ _ _ _ _ _ _ _); conv => whnf)
    | (refine (?_ : am_sw _ _ _ _); conv => whnf)
    | refine And.intro trivial ?_
    | exact trivial
    | refine v_putE_X3_55 _ hS (by omega) ?_
    | refine v_putE_X3_53 _ hY (by rw [n55]; omega) ?_
    | refine kk _ _ ?_ ?_
    | refine And.intro (fun h => absurd h (by decide)) (fun _ => ?_)
    | refine And.intro (fun _ => ?_) (fun h => absurd (by decide) h)
    | refine And.intro (fun _ => ?_) (fun _ => ?_)
    | refine And.intro ?_ ?_
  all_goals (first | decide | omega | rfl | (rw [n55]) | (trace_state; fail))
theorem s_habit {l : Launch} {ν : am_N} {Q : Option am_V → am_N → Prop} (w y : Int) (cw : am_c w = w) (cy : am_c y = y) (hS : sx ν ν) (h53 : ν 55 1 = ν 53 1) (k1 : (0 ≤ w ∧ w ≤ 3) → (-9 ≤ y ∧ y ≤ 9) → ν 53 1 < 4 → ∀ μ' : am_N, (∀ a b, ¬(a = 53 ∧ b = 1) → ¬(a = 55 ∧ b = 1) → a ≠ 54 → a ≠ 56 → μ' a b = ν a b) → μ' 53 1 = ν 53 1 + 1 → μ' 55 1 = ν 55 1 + 1 → (∀ b, μ' 54 b = if b = (ν 53 1).toNat then w else ν 54 b) → (∀ b, μ' 56 b = if b = (ν 55 1).toNat then y else ν 56 b) → Q (some (.inl (ν 53 1 + 1))) μ') (k0 : ∀ (r : Int) (μ' : am_N), ((¬(0 ≤ w ∧ w ≤ 3) ∧ r = -2) ∨ ((0 ≤ w ∧ w ≤ 3) ∧ y < -9 ∧ r = -4) ∨ ((0 ≤ w ∧ w ≤ 3) ∧ 9 < y ∧ r = -6) ∨ ((0 ≤ w ∧ w ≤ 3) ∧ (-9 ≤ y ∧ y ≤ 9) ∧ ν 53 1 = 4 ∧ r = -6)) → (∀ a b, a ≠ 78 → μ' a b = ν a b) → Q (some (.inl r)) μ') : am_Does l 103 [.inr (.inr 0), .inl w, .inl y] ν Q := by
  refine am_Does_of (Nat.le_of_ble_eq_true rfl) (Nat.le_of_ble_eq_true rfl) (Nat.le_of_ble_eq_true rfl) ?_
  have l0 : am_c 0 = 0 := rfl
  have l1 : am_c 1 = 1 := rfl
  have l3 : am_c 3 = 3 := rfl
  have l4 : am_c 4 = 4 := rfl
  have l6 : am_c 6 = 6 := rfl
  have l9 : am_c 9 = 9 := rfl
  have l12 : am_c 12 = 12 := rfl
  have l99 : am_c 99 = 99 := rfl
  have l999 : am_c 999 = 999 := rfl
  have m1' : am_c (-1) = -1 := rfl
  have m2' : am_c (-2) = -2 := rfl
  have m3' : am_c (-3) = -3 := rfl
  have m4' : am_c (-4) = -4 := rfl
  have m6' : am_c (-6) = -6 := rfl
  have m9' : am_c (-9) = -9 := rfl
  refine am_go (ct := fun _ => false) am_oX6_habit 300 ?_
  conv => whnf
  repeat' first
    | (refine (?_ : am_wp _ _ _ _ _ _ _ _ _ _ _ _); conv => whnf)
    | (refine (?_ : am_sw _ _ _ _); conv => whnf)
    | refine And.intro trivial ?_
    | exact trivial
    | refine x_refuse _ ?_ (fun μr fr => ?_)
    | refine k0 _ _ ?_ fr
    | refine v_full_X3_53 (ν := ν) hS (fun z => ?_) (fun z => ?_)
    | refine v_putX1 w y hS h53 (by omega) (fun μ2 c1 c2 c3 c4 c5 => ?_)
    | exact k1 ⟨by simp only [cw, l0, l3] at *; omega, by simp only [cw, l0, l3] at *; omega⟩ ⟨by simp only [cy] at *; omega, by simp only [cy, l9] at *; omega⟩ (by omega) _ c1 c2 c3 c4 c5
    | refine And.intro (fun h => absurd h (by decide)) (fun _ => ?_)
    | refine And.intro (fun _ => ?_) (fun h => absurd (by decide) h)
    | refine And.intro (fun _ => ?_) (fun _ => ?_)
    | refine And.intro ?_ ?_
  all_goals (first | decide | omega | (simp only [cw, cy, l0, l3, l9] at *; omega) | (trace_state; fail))
theorem v_dropX1 {l : Launch} {ν : am_N} {Q : Option am_V → am_N → Prop} (k : ∀ μ' : am_N, (∀ a b, ¬(a = 53 ∧ b = 1) → ¬(a = 55 ∧ b = 1) → μ' a b = ν a b) → μ' 53 1 = 0 → μ' 55 1 = 0 → Q (some (.inl (ν 53 1))) μ') : am_Does l 17 [.inr (.inr 52)] ν Q := by
  refine am_Does_of (Nat.le_of_ble_eq_true rfl) (Nat.le_of_ble_eq_true rfl) (Nat.le_of_ble_eq_true rfl) ?_
  have kk := fun (x : Int) (e : x = ν 53 1) => am_qe (k (am_up (am_up ν 55 1 0) 53 1 0) (fun a b q1 q2 => (am_uE q1).trans (am_uE q2)) (if_pos ⟨rfl, rfl⟩) ((am_upN (by decide)).trans (if_pos ⟨rfl, rfl⟩))) e
  refine am_go (ct := fun _ => false) am_oX1_drop 300 ?_
  conv => whnf
  repeat' first
    | (refine (?_ : am_wp _ _ _ _ _ _ _ _ _ _ _ _); conv => whnf)
    | (refine (?_ : am_sw _ _ _ _); conv => whnf)
    | refine And.intro trivial ?_
    | exact trivial
    | refine v_drop_X3_55 ?_
    | refine v_drop_X3_53 ?_
    | refine kk _ ?_
    | refine And.intro (fun h => absurd h (by decide)) (fun _ => ?_)
    | refine And.intro (fun _ => ?_) (fun h => absurd (by decide) h)
    | refine And.intro (fun _ => ?_) (fun _ => ?_)
    | refine And.intro ?_ ?_
  all_goals (first | decide | exact am_upN (by decide) | (trace_state; fail))
theorem s_forget {l : Launch} {ν : am_N} {Q : Option am_V → am_N → Prop} (k : ∀ μ' : am_N, (∀ a b, ¬(a = 53 ∧ b = 1) → ¬(a = 55 ∧ b = 1) → μ' a b = ν a b) → μ' 53 1 = 0 → μ' 55 1 = 0 → Q (some (.inl (ν 53 1))) μ') : am_Does l 104 [.inr (.inr 0)] ν Q := by
  refine am_Does_of (Nat.le_of_ble_eq_true rfl) (Nat.le_of_ble_eq_true rfl) (Nat.le_of_ble_eq_true rfl) ?_
  refine am_go (ct := fun _ => false) am_oX6_forget 300 ?_
  conv => whnf
  repeat' first
    | (refine (?_ : am_wp _ _ _ _ _ _ _ _ _ _ _ _); conv => whnf)
    | (refine (?_ : am_sw _ _ _ _); conv => whnf)
    | refine And.intro trivial ?_
    | exact trivial
    | refine v_dropX1 (fun μ2 c1 c2 c3 => ?_)
    | exact k _ c1 c2 c3
    | refine And.intro (fun h => absurd h (by decide)) (fun _ => ?_)
    | refine And.intro (fun _ => ?_) (fun h => absurd (by decide) h)
    | refine And.intro (fun _ => ?_) (fun _ => ?_)
    | refine And.intro ?_ ?_
  all_goals (first | decide | (trace_state; fail))
theorem n_row {l : Launch} {ν : am_N} {Q : Option am_V → am_N → Prop} (v : Int) (cv : am_c v = v) (n0 : 0 ≤ ν 83 42) (n1 : ν 83 42 ≤ 12) (k1 : (0 ≤ v ∧ v ≤ 99) → ν 83 42 < 12 → ∀ μ' : am_N, (∀ a b, a ≠ 106 → ¬(a = 83 ∧ b = 42) → μ' a b = ν a b) → μ' 83 42 = ν 83 42 + 1 → (∀ b, μ' 106 b = if b = (ν 83 42).toNat then v else ν 106 b) → Q (some (.inl (ν 83 42 + 1))) μ') (k0 : ∀ (r : Int) (μ' : am_N), ((v < 0 ∧ r = -4) ∨ (99 < v ∧ r = -6) ∨ ((0 ≤ v ∧ v ≤ 99) ∧ ν 83 42 = 12 ∧ r = -6)) → (∀ a b, a ≠ 84 → μ' a b = ν a b) → Q (some (.inl r)) μ') : am_Does l 244 [.inr (.inr 83), .inl v] ν Q := by
  refine am_Does_of (Nat.le_of_ble_eq_true rfl) (Nat.le_of_ble_eq_true rfl) (Nat.le_of_ble_eq_true rfl) ?_
  have l0 : am_c 0 = 0 := rfl
  have l1 : am_c 1 = 1 := rfl
  have l3 : am_c 3 = 3 := rfl
  have l4 : am_c 4 = 4 := rfl
  have l6 : am_c 6 = 6 := rfl
  have l9 : am_c 9 = 9 := rfl
  have l12 : am_c 12 = 12 := rfl
  have l99 : am_c 99 = 99 := rfl
  have l999 : am_c 999 = 999 := rfl
  have m1' : am_c (-1) = -1 := rfl
  have m2' : am_c (-2) = -2 := rfl
  have m3' : am_c (-3) = -3 := rfl
  have m4' : am_c (-4) = -4 := rfl
  have m6' : am_c (-6) = -6 := rfl
  have m9' : am_c (-9) = -9 := rfl
  have cj : am_c (ν 83 42) = ν 83 42 := am_cR (by omega) (by omega)
  have kk := fun (x y : Int) (i : Nat) (ei : i = (ν 83 42).toNat) (ex : x = ν 83 42 + 1) (ey : y = ν 83 42 + 1) (a1 : 0 ≤ v ∧ v ≤ 99) (a2 : ν 83 42 < 12) => (show Q (some (.inl x)) (am_up (am_up ν 106 i v) 83 42 y) by
    rw [ei, ex, ey]
    exact k1 a1 a2 _ (fun a b q1 q2 => (am_uE q2).trans (am_upN q1)) (if_pos ⟨rfl, rfl⟩) (fun b => by rw [am_upN (by decide)]; by_cases d : b = (ν 83 42).toNat; (rw [am_upS, if_pos ⟨rfl, d⟩, if_pos d]); (rw [am_upM d, if_neg d])))
  refine am_go (ct := fun _ => false) am_oX7_row 300 ?_
  conv => whnf
  repeat' first
    | (refine (?_ : am_wp _ _ _ _ _ _ _ _ _ _ _ _); conv => whnf)
    | (refine (?_ : am_sw _ _ _ _); conv => whnf)
    | refine And.intro trivial ?_
    | exact trivial
    | refine x_bound _ _ _ ?_ ?_ ?_ (fun _ => ?_) (fun _ => ?_) (fun _ _ => ?_)
    | refine x_no _ ?_ (fun μr fr => ?_)
    | refine k0 _ _ ?_ fr
    | refine And.intro (fun h => absurd h (by omega)) (fun _ => ?_)
    | refine And.intro (fun _ => ?_) (fun h => absurd h (by omega))
    | refine kk _ _ _ ?_ ?_ ?_ ?_ ?_
    | refine And.intro (fun h => absurd h (by decide)) (fun _ => ?_)
    | refine And.intro (fun _ => ?_) (fun h => absurd (by decide) h)
    | refine And.intro (fun _ => ?_) (fun _ => ?_)
    | refine And.intro ?_ ?_
  all_goals (first | decide | omega | (simp only [cj, l6, l12] at *; omega) | (rw [cj]; done) | (rw [am_upS, if_pos ⟨rfl, rfl⟩, am_upN (by decide)]; done) | (rw [am_upN (by decide)]; done) | (trace_state; fail))
theorem n_time {l : Launch} {ν : am_N} {Q : Option am_V → am_N → Prop} (v : Int) (cv : am_c v = v) (n0 : 0 ≤ ν 83 40) (n1 : ν 83 40 ≤ 6) (k1 : (0 ≤ v ∧ v ≤ 999) → ν 83 40 < 6 → ∀ μ' : am_N, (∀ a b, a ≠ 105 → ¬(a = 83 ∧ b = 40) → μ' a b = ν a b) → μ' 83 40 = ν 83 40 + 1 → (∀ b, μ' 105 b = if b = (ν 83 40).toNat then v else ν 105 b) → Q (some (.inl (ν 83 40 + 1))) μ') (k0 : ∀ (r : Int) (μ' : am_N), ((v < 0 ∧ r = -4) ∨ (999 < v ∧ r = -6) ∨ ((0 ≤ v ∧ v ≤ 999) ∧ ν 83 40 = 6 ∧ r = -6)) → (∀ a b, a ≠ 84 → μ' a b = ν a b) → Q (some (.inl r)) μ') : am_Does l 240 [.inr (.inr 83), .inl v] ν Q := by
  refine am_Does_of (Nat.le_of_ble_eq_true rfl) (Nat.le_of_ble_eq_true rfl) (Nat.le_of_ble_eq_true rfl) ?_
  have l0 : am_c 0 = 0 := rfl
  have l1 : am_c 1 = 1 := rfl
  have l3 : am_c 3 = 3 := rfl
  have l4 : am_c 4 = 4 := rfl
  have l6 : am_c 6 = 6 := rfl
  have l9 : am_c 9 = 9 := rfl
  have l12 : am_c 12 = 12 := rfl
  have l99 : am_c 99 = 99 := rfl
  have l999 : am_c 999 = 999 := rfl
  have m1' : am_c (-1) = -1 := rfl
  have m2' : am_c (-2) = -2 := rfl
  have m3' : am_c (-3) = -3 := rfl
  have m4' : am_c (-4) = -4 := rfl
  have m6' : am_c (-6) = -6 := rfl
  have m9' : am_c (-9) = -9 := rfl
  have cj : am_c (ν 83 40) = ν 83 40 := am_cR (by omega) (by omega)
  have kk := fun (x y : Int) (i : Nat) (ei : i = (ν 83 40).toNat) (ex : x = ν 83 40 + 1) (ey : y = ν 83 40 + 1) (a1 : 0 ≤ v ∧ v ≤ 999) (a2 : ν 83 40 < 6) => (show Q (some (.inl x)) (am_up (am_up ν 105 i v) 83 40 y) by
    rw [ei, ex, ey]
    exact k1 a1 a2 _ (fun a b q1 q2 => (am_uE q2).trans (am_upN q1)) (if_pos ⟨rfl, rfl⟩) (fun b => by rw [am_upN (by decide)]; by_cases d : b = (ν 83 40).toNat; (rw [am_upS, if_pos ⟨rfl, d⟩, if_pos d]); (rw [am_upM d, if_neg d])))
  refine am_go (ct := fun _ => false) am_oX7_time 300 ?_
  conv => whnf
  repeat' first
    | (refine (?_ : am_wp _ _ _ _ _ _ _ _ _ _ _ _); conv => whnf)
    | (refine (?_ : am_sw _ _ _ _); conv => whnf)
    | refine And.intro trivial ?_
    | exact trivial
    | refine x_bound _ _ _ ?_ ?_ ?_ (fun _ => ?_) (fun _ => ?_) (fun _ _ => ?_)
    | refine x_no _ ?_ (fun μr fr => ?_)
    | refine k0 _ _ ?_ fr
    | refine And.intro (fun h => absurd h (by omega)) (fun _ => ?_)
    | refine And.intro (fun _ => ?_) (fun h => absurd h (by omega))
    | refine kk _ _ _ ?_ ?_ ?_ ?_ ?_
    | refine And.intro (fun h => absurd h (by decide)) (fun _ => ?_)
    | refine And.intro (fun _ => ?_) (fun h => absurd (by decide) h)
    | refine And.intro (fun _ => ?_) (fun _ => ?_)
    | refine And.intro ?_ ?_
  all_goals (first | decide | omega | (simp only [cj, l6, l12] at *; omega) | (rw [cj]; done) | (rw [am_upS, if_pos ⟨rfl, rfl⟩, am_upN (by decide)]; done) | (rw [am_upN (by decide)]; done) | (trace_state; fail))
theorem n_bag {l : Launch} {ν : am_N} {Q : Option am_V → am_N → Prop} (v : Int) (cv : am_c v = v) (n0 : 0 ≤ ν 83 15) (n1 : ν 83 15 ≤ 6) (k1 : (1 ≤ v ∧ v ≤ 9) → ν 83 15 < 6 → ∀ μ' : am_N, (∀ a b, a ≠ 91 → ¬(a = 83 ∧ b = 15) → μ' a b = ν a b) → μ' 83 15 = ν 83 15 + 1 → (∀ b, μ' 91 b = if b = (ν 83 15).toNat then v else ν 91 b) → Q (some (.inl (ν 83 15 + 1))) μ') (k0 : ∀ (r : Int) (μ' : am_N), ((v < 1 ∧ r = -4) ∨ (9 < v ∧ r = -6) ∨ ((1 ≤ v ∧ v ≤ 9) ∧ ν 83 15 = 6 ∧ r = -6)) → (∀ a b, a ≠ 84 → μ' a b = ν a b) → Q (some (.inl r)) μ') : am_Does l 213 [.inr (.inr 83), .inl v] ν Q := by
  refine am_Does_of (Nat.le_of_ble_eq_true rfl) (Nat.le_of_ble_eq_true rfl) (Nat.le_of_ble_eq_true rfl) ?_
  have l0 : am_c 0 = 0 := rfl
  have l1 : am_c 1 = 1 := rfl
  have l3 : am_c 3 = 3 := rfl
  have l4 : am_c 4 = 4 := rfl
  have l6 : am_c 6 = 6 := rfl
  have l9 : am_c 9 = 9 := rfl
  have l12 : am_c 12 = 12 := rfl
  have l99 : am_c 99 = 99 := rfl
  have l999 : am_c 999 = 999 := rfl
  have m1' : am_c (-1) = -1 := rfl
  have m2' : am_c (-2) = -2 := rfl
  have m3' : am_c (-3) = -3 := rfl
  have m4' : am_c (-4) = -4 := rfl
  have m6' : am_c (-6) = -6 := rfl
  have m9' : am_c (-9) = -9 := rfl
  have cj : am_c (ν 83 15) = ν 83 15 := am_cR (by omega) (by omega)
  have kk := fun (x y : Int) (i : Nat) (ei : i = (ν 83 15).toNat) (ex : x = ν 83 15 + 1) (ey : y = ν 83 15 + 1) (a1 : 1 ≤ v ∧ v ≤ 9) (a2 : ν 83 15 < 6) => (show Q (some (.inl x)) (am_up (am_up ν 91 i v) 83 15 y) by
    rw [ei, ex, ey]
    exact k1 a1 a2 _ (fun a b q1 q2 => (am_uE q2).trans (am_upN q1)) (if_pos ⟨rfl, rfl⟩) (fun b => by rw [am_upN (by decide)]; by_cases d : b = (ν 83 15).toNat; (rw [am_upS, if_pos ⟨rfl, d⟩, if_pos d]); (rw [am_upM d, if_neg d])))
  refine am_go (ct := fun _ => false) am_oX7_bag 300 ?_
  conv => whnf
  repeat' first
    | (refine (?_ : am_wp _ _ _ _ _ _ _ _ _ _ _ _); conv => whnf)
    | (refine (?_ : am_sw _ _ _ _); conv => whnf)
    | refine And.intro trivial ?_
    | exact trivial
    | refine x_bound _ _ _ ?_ ?_ ?_ (fun _ => ?_) (fun _ => ?_) (fun _ _ => ?_)
    | refine x_no _ ?_ (fun μr fr => ?_)
    | refine k0 _ _ ?_ fr
    | refine And.intro (fun h => absurd h (by omega)) (fun _ => ?_)
    | refine And.intro (fun _ => ?_) (fun h => absurd h (by omega))
    | refine kk _ _ _ ?_ ?_ ?_ ?_ ?_
    | refine And.intro (fun h => absurd h (by decide)) (fun _ => ?_)
    | refine And.intro (fun _ => ?_) (fun h => absurd (by decide) h)
    | refine And.intro (fun _ => ?_) (fun _ => ?_)
    | refine And.intro ?_ ?_
  all_goals (first | decide | omega | (simp only [cj, l6, l12] at *; omega) | (rw [cj]; done) | (rw [am_upS, if_pos ⟨rfl, rfl⟩, am_upN (by decide)]; done) | (rw [am_upN (by decide)]; done) | (trace_state; fail))
theorem n_clear {l : Launch} {ν : am_N} {Q : Option am_V → am_N → Prop} (k : ∀ μ' : am_N, (∀ a b, ¬(a = 83 ∧ b = 42) → μ' a b = ν a b) → μ' 83 42 = 0 → Q (some (.inl (ν 83 42))) μ') : am_Does l 248 [.inr (.inr 83)] ν Q := by
  refine am_Does_of (Nat.le_of_ble_eq_true rfl) (Nat.le_of_ble_eq_true rfl) (Nat.le_of_ble_eq_true rfl) ?_
  refine am_go (ct := fun _ => false) am_oX7_clear 300 ?_
  conv => whnf
  repeat' first
    | (refine (?_ : am_wp _ _ _ _ _ _ _ _ _ _ _ _); conv => whnf)
    | (refine (?_ : am_sw _ _ _ _); conv => whnf)
    | refine And.intro trivial ?_
    | exact trivial
    | exact k _ (fun a b q => am_uE q) (if_pos ⟨rfl, rfl⟩)
    | refine And.intro (fun h => absurd h (by decide)) (fun _ => ?_)
    | refine And.intro (fun _ => ?_) (fun h => absurd (by decide) h)
    | refine And.intro (fun _ => ?_) (fun _ => ?_)
    | refine And.intro ?_ ?_
  all_goals (first | decide | (trace_state; fail))
theorem n_wipe {l : Launch} {ν : am_N} {Q : Option am_V → am_N → Prop} (k : ∀ μ' : am_N, (∀ a b, ¬(a = 83 ∧ b = 40) → μ' a b = ν a b) → μ' 83 40 = 0 → Q (some (.inl (ν 83 40))) μ') : am_Does l 241 [.inr (.inr 83)] ν Q := by
  refine am_Does_of (Nat.le_of_ble_eq_true rfl) (Nat.le_of_ble_eq_true rfl) (Nat.le_of_ble_eq_true rfl) ?_
  refine am_go (ct := fun _ => false) am_oX7_wipe 300 ?_
  conv => whnf
  repeat' first
    | (refine (?_ : am_wp _ _ _ _ _ _ _ _ _ _ _ _); conv => whnf)
    | (refine (?_ : am_sw _ _ _ _); conv => whnf)
    | refine And.intro trivial ?_
    | exact trivial
    | exact k _ (fun a b q => am_uE q) (if_pos ⟨rfl, rfl⟩)
    | refine And.intro (fun h => absurd h (by decide)) (fun _ => ?_)
    | refine And.intro (fun _ => ?_) (fun h => absurd (by decide) h)
    | refine And.intro (fun _ => ?_) (fun _ => ?_)
    | refine And.intro ?_ ?_
  all_goals (first | decide | (trace_state; fail))
theorem n_empty {l : Launch} {ν : am_N} {Q : Option am_V → am_N → Prop} (k : ∀ μ' : am_N, (∀ a b, ¬(a = 83 ∧ b = 15) → μ' a b = ν a b) → μ' 83 15 = 0 → Q (some (.inl (ν 83 15))) μ') : am_Does l 214 [.inr (.inr 83)] ν Q := by
  refine am_Does_of (Nat.le_of_ble_eq_true rfl) (Nat.le_of_ble_eq_true rfl) (Nat.le_of_ble_eq_true rfl) ?_
  refine am_go (ct := fun _ => false) am_oX7_empty 300 ?_
  conv => whnf
  repeat' first
    | (refine (?_ : am_wp _ _ _ _ _ _ _ _ _ _ _ _); conv => whnf)
    | (refine (?_ : am_sw _ _ _ _); conv => whnf)
    | refine And.intro trivial ?_
    | exact trivial
    | exact k _ (fun a b q => am_uE q) (if_pos ⟨rfl, rfl⟩)
    | refine And.intro (fun h => absurd h (by decide)) (fun _ => ?_)
    | refine And.intro (fun _ => ?_) (fun h => absurd (by decide) h)
    | refine And.intro (fun _ => ?_) (fun _ => ?_)
    | refine And.intro ?_ ?_
  all_goals (first | decide | (trace_state; fail))
theorem n_forget {l : Launch} {ν : am_N} {Q : Option am_V → am_N → Prop} (k : ∀ μ' : am_N, (∀ a b, ¬(a = 83 ∧ b = 16) → μ' a b = ν a b) → μ' 83 16 = 0 → Q (some (.inl (ν 83 16))) μ') : am_Does l 234 [.inr (.inr 83)] ν Q := by
  refine am_Does_of (Nat.le_of_ble_eq_true rfl) (Nat.le_of_ble_eq_true rfl) (Nat.le_of_ble_eq_true rfl) ?_
  refine am_go (ct := fun _ => false) am_oX7_forget 300 ?_
  conv => whnf
  repeat' first
    | (refine (?_ : am_wp _ _ _ _ _ _ _ _ _ _ _ _); conv => whnf)
    | (refine (?_ : am_sw _ _ _ _); conv => whnf)
    | refine And.intro trivial ?_
    | exact trivial
    | exact k _ (fun a b q => am_uE q) (if_pos ⟨rfl, rfl⟩)
    | refine And.intro (fun h => absurd h (by decide)) (fun _ => ?_)
    | refine And.intro (fun _ => ?_) (fun h => absurd (by decide) h)
    | refine And.intro (fun _ => ?_) (fun _ => ?_)
    | refine And.intro ?_ ?_
  all_goals (first | decide | (trace_state; fail))
theorem n_habit {l : Launch} {ν : am_N} {Q : Option am_V → am_N → Prop} (w y : Int) (cw : am_c w = w) (cy : am_c y = y) (n0 : 0 ≤ ν 83 16) (n1 : ν 83 16 ≤ 4) (k1 : (0 ≤ w ∧ w ≤ 3) → (-9 ≤ y ∧ y ≤ 9) → ν 83 16 < 4 → ∀ μ' : am_N, (∀ a b, a ≠ 92 → a ≠ 93 → ¬(a = 83 ∧ b = 16) → μ' a b = ν a b) → μ' 83 16 = ν 83 16 + 1 → (∀ b, μ' 92 b = if b = (ν 83 16).toNat then w else ν 92 b) → (∀ b, μ' 93 b = if b = (ν 83 16).toNat then y else ν 93 b) → Q (some (.inl (ν 83 16 + 1))) μ') (k0 : ∀ (r : Int) (μ' : am_N), ((¬(0 ≤ w ∧ w ≤ 3) ∧ r = -2) ∨ ((0 ≤ w ∧ w ≤ 3) ∧ y < -9 ∧ r = -4) ∨ ((0 ≤ w ∧ w ≤ 3) ∧ 9 < y ∧ r = -6) ∨ ((0 ≤ w ∧ w ≤ 3) ∧ (-9 ≤ y ∧ y ≤ 9) ∧ ν 83 16 = 4 ∧ r = -6)) → (∀ a b, a ≠ 84 → μ' a b = ν a b) → Q (some (.inl r)) μ') : am_Does l 233 [.inr (.inr 83), .inl w, .inl y] ν Q := by
  refine am_Does_of (Nat.le_of_ble_eq_true rfl) (Nat.le_of_ble_eq_true rfl) (Nat.le_of_ble_eq_true rfl) ?_
  have l0 : am_c 0 = 0 := rfl
  have l1 : am_c 1 = 1 := rfl
  have l3 : am_c 3 = 3 := rfl
  have l4 : am_c 4 = 4 := rfl
  have l6 : am_c 6 = 6 := rfl
  have l9 : am_c 9 = 9 := rfl
  have l12 : am_c 12 = 12 := rfl
  have l99 : am_c 99 = 99 := rfl
  have l999 : am_c 999 = 999 := rfl
  have m1' : am_c (-1) = -1 := rfl
  have m2' : am_c (-2) = -2 := rfl
  have m3' : am_c (-3) = -3 := rfl
  have m4' : am_c (-4) = -4 := rfl
  have m6' : am_c (-6) = -6 := rfl
  have m9' : am_c (-9) = -9 := rfl
  have cj : am_c (ν 83 16) = ν 83 16 := am_cR (by omega) (by omega)
  have kk := fun (x z : Int) (i i2 : Nat) (ei : i = (ν 83 16).toNat) (ei2 : i2 = (ν 83 16).toNat) (ex : x = ν 83 16 + 1) (ez : z = ν 83 16 + 1) (a1 : 0 ≤ w ∧ w ≤ 3) (a2 : -9 ≤ y ∧ y ≤ 9) (a3 : ν 83 16 < 4) => (show Q (some (.inl x)) (am_up (am_up (am_up ν 92 i w) 93 i2 y) 83 16 z) by
    rw [ei, ei2, ex, ez]
    refine k1 a1 a2 a3 _ (fun a b q1 q2 q3 => (am_uE q3).trans ((am_upN q2).trans (am_upN q1))) (if_pos ⟨rfl, rfl⟩) (fun b => ?_) (fun b => ?_)
    · rw [am_upN (by decide), am_upN (by decide)]; by_cases d : b = (ν 83 16).toNat; (rw [am_upS, if_pos ⟨rfl, d⟩, if_pos d]); (rw [am_upM d, if_neg d])
    · rw [am_upN (by decide)]; by_cases d : b = (ν 83 16).toNat; (rw [am_upS, if_pos ⟨rfl, d⟩, if_pos d]); (rw [am_upM d, if_neg d]; exact am_upN (by decide)))
  refine am_go (ct := fun _ => false) am_oX7_habit 300 ?_
  conv => whnf
  repeat' first
    | (refine (?_ : am_wp _ _ _ _ _ _ _ _ _ _ _ _); conv => whnf)
    | (refine (?_ : am_sw _ _ _ _); conv => whnf)
    | refine And.intro trivial ?_
    | exact trivial
    | refine x_isIn w _ _ _ rfl cw ?_ ?_ (fun _ _ => ?_) (fun _ => ?_)
    | refine x_bound _ _ _ ?_ ?_ ?_ (fun _ => ?_) (fun _ => ?_) (fun _ _ => ?_)
    | refine x_no _ ?_ (fun μr fr => ?_)
    | refine k0 _ _ ?_ fr
    | refine And.intro (fun h => absurd h (by omega)) (fun _ => ?_)
    | refine And.intro (fun _ => ?_) (fun h => absurd h (by omega))
    | refine kk _ _ _ _ ?_ ?_ ?_ ?_ ?_ ?_ ?_
    | refine And.intro (fun h => absurd h (by decide)) (fun _ => ?_)
    | refine And.intro (fun _ => ?_) (fun h => absurd (by decide) h)
    | refine And.intro (fun _ => ?_) (fun _ => ?_)
    | refine And.intro ?_ ?_
  all_goals (first | decide | omega | (simp only [cj, l4] at *; omega) | (rw [cj]; done) | (rw [am_upN (by decide), cj]; done) | (rw [am_upN (by decide), cj]; omega) | (rw [am_upS, if_pos ⟨rfl, rfl⟩, am_upN (by decide), am_upN (by decide)]; done) | (rw [am_upN (by decide), am_upN (by decide)]; done) | (trace_state; fail))
theorem LI_row {μ μ1 μ2 : am_N} (hI : lx_I μ) (f1 : ∀ a b, ¬(a = 44 ∧ b = 1) → a ≠ 45 → μ1 a b = μ a b) (f2 : ∀ a b, a ≠ 106 → ¬(a = 83 ∧ b = 42) → μ2 a b = μ1 a b) (e1 : 0 ≤ μ1 44 1 ∧ μ1 44 1 ≤ 12) (e2 : 0 ≤ μ2 83 42 ∧ μ2 83 42 ≤ 12) : lx_I μ2 := by
  obtain ⟨hS, hm, hR0, hL, hB, hJ⟩ := hI
  have hb := sx_all hS
  have hc := mi_all hm
  have g : ∀ a b, ¬(a = 44 ∧ b = 1) → a ≠ 45 → a ≠ 106 → ¬(a = 83 ∧ b = 42) → μ2 a b = μ a b := fun a b h1 h2 h3 h4 => (f2 a b h3 h4).trans (f1 a b h1 h2)
  have d1 : 0 ≤ μ2 44 1 ∧ μ2 44 1 ≤ 12 := by rw [f2 44 1 (by omega) (by omega)]; exact e1
  refine ⟨⟨fun _ _ _ => rfl, fun p hp => by rw [g 34 p (by omega) (by omega) (by omega) (by omega)]; exact hS.2.1 p hp, fun p hp => by rw [g 43 p (by omega) (by omega) (by omega) (by omega)]; exact hS.2.2.1 p hp, by have q := hS.2.2.2.1; unfold sx_4 at q ⊢; rw [g 8 4 (by omega) (by omega) (by omega) (by omega), g 15 4 (by omega) (by omega) (by omega) (by omega), g 29 0 (by omega) (by omega) (by omega) (by omega), g 38 0 (by omega) (by omega) (by omega) (by omega)]; omega, by have q := hS.2.2.2.2; unfold px at q ⊢; rw [g 1 4 (by omega) (by omega) (by omega) (by omega), g 22 4 (by omega) (by omega) (by omega) (by omega), g 36 1 (by omega) (by omega) (by omega) (by omega), g 46 1 (by omega) (by omega) (by omega) (by omega), g 48 1 (by omega) (by omega) (by omega) (by omega), g 50 1 (by omega) (by omega) (by omega) (by omega), g 53 1 (by omega) (by omega) (by omega) (by omega), g 55 1 (by omega) (by omega) (by omega) (by omega), g 58 1 (by omega) (by omega) (by omega) (by omega), g 60 1 (by omega) (by omega) (by omega) (by omega), g 62 3 (by omega) (by omega) (by omega) (by omega)]; omega⟩, ?_, rq_F_keep hR0 (fun a b h1 h2 => (g a b (by omega) (by omega) (by omega) (by omega))) (fun a b h => (g a b (by omega) (by omega) (by omega) (by omega))), rq_L_keep hL (g _ _ (by omega) (by omega) (by omega) (by omega)) (fun b => (g _ _ (by omega) (by omega) (by omega) (by omega))) (g _ _ (by omega) (by omega) (by omega) (by omega)) (fun b => (g _ _ (by omega) (by omega) (by omega) (by omega))), rq_B_keep hB (g _ _ (by omega) (by omega) (by omega) (by omega)) (g _ _ (by omega) (by omega) (by omega) (by omega)) (fun a b h1 h2 => (g _ _ (by omega) (by omega) (by omega) (by omega))) (fun a b h1 h2 => (g _ _ (by omega) (by omega) (by omega) (by omega))) (by omega), rq_I_keep hJ (g _ _ (by omega) (by omega) (by omega) (by omega)) (g _ _ (by omega) (by omega) (by omega) (by omega)) (fun a b h1 h2 => (g _ _ (by omega) (by omega) (by omega) (by omega))) (fun b hb => (g _ _ (by omega) (by omega) (by omega) (by omega)))⟩
  unfold mi at hm ⊢
  rw [g 83 14 (by omega) (by omega) (by omega) (by omega), g 83 15 (by omega) (by omega) (by omega) (by omega), g 83 16 (by omega) (by omega) (by omega) (by omega), g 83 21 (by omega) (by omega) (by omega) (by omega), g 83 33 (by omega) (by omega) (by omega) (by omega), g 83 40 (by omega) (by omega) (by omega) (by omega), g 98 44 (by omega) (by omega) (by omega) (by omega), g 98 38 (by omega) (by omega) (by omega) (by omega), g 98 39 (by omega) (by omega) (by omega) (by omega)]
  refine ⟨hm.1, hm.2.1, hm.2.2.1, hm.2.2.2.1, hm.2.2.2.2.1, hm.2.2.2.2.2.1, e2, hm.2.2.2.2.2.2.2.1, hm.2.2.2.2.2.2.2.2.1, hm.2.2.2.2.2.2.2.2.2.1, fun p hp => ?_⟩
  rw [g 100 p (by omega) (by omega) (by omega) (by omega)]
  exact hm.2.2.2.2.2.2.2.2.2.2 p hp
theorem LJ_row {μ μ1 μ2 : am_N} (hJ : lx_J μ) (f1 : ∀ a b, ¬(a = 44 ∧ b = 1) → a ≠ 45 → μ1 a b = μ a b) (f2 : ∀ a b, a ≠ 106 → ¬(a = 83 ∧ b = 42) → μ2 a b = μ1 a b) (e1 : 0 ≤ μ1 44 1 ∧ μ1 44 1 ≤ 12) (e2 : 0 ≤ μ2 83 42 ∧ μ2 83 42 ≤ 12) (hw : rq_w 42 106 44 0 99 μ2) : lx_J μ2 := by
  have g : ∀ a b, ¬(a = 44 ∧ b = 1) → a ≠ 45 → a ≠ 106 → ¬(a = 83 ∧ b = 42) → μ2 a b = μ a b := fun a b h1 h2 h3 h4 => (f2 a b h3 h4).trans (f1 a b h1 h2)
  have hC := hJ.2
  exact ⟨LI_row hJ.1 f1 f2 e1 e2, hw, rq_w_keep hC.2.1 (g 46 1 (by omega) (by omega) (by omega) (by omega)) (fun b => (g 47 b (by omega) (by omega) (by omega) (by omega))) (g 83 40 (by omega) (by omega) (by omega) (by omega)) (fun b _ => (g 105 b (by omega) (by omega) (by omega) (by omega))), rq_w_keep hC.2.2.1 (g 48 1 (by omega) (by omega) (by omega) (by omega)) (fun b => (g 49 b (by omega) (by omega) (by omega) (by omega))) (g 83 15 (by omega) (by omega) (by omega) (by omega)) (fun b _ => (g 91 b (by omega) (by omega) (by omega) (by omega))), rq_w_keep hC.2.2.2.1 (g 53 1 (by omega) (by omega) (by omega) (by omega)) (fun b => (g 54 b (by omega) (by omega) (by omega) (by omega))) (g 83 16 (by omega) (by omega) (by omega) (by omega)) (fun b _ => (g 92 b (by omega) (by omega) (by omega) (by omega))), rq_w_keep hC.2.2.2.2.1 (g 55 1 (by omega) (by omega) (by omega) (by omega)) (fun b => (g 56 b (by omega) (by omega) (by omega) (by omega))) (g 83 16 (by omega) (by omega) (by omega) (by omega)) (fun b _ => (g 93 b (by omega) (by omega) (by omega) (by omega))), rq_S_keep hC.2.2.2.2.2 hJ.1.2.1 (fun a b q => g a b (by omega) (by omega) (by omega) (by omega))⟩
theorem LJ_row1 {μ μ1 μ2 : am_N} {v : Int} (hJ : lx_J μ) (hv : 0 ≤ v ∧ v ≤ 99) (hC : μ 44 1 < 12) (f1 : ∀ a b, ¬(a = 44 ∧ b = 1) → a ≠ 45 → μ1 a b = μ a b) (e1 : μ1 44 1 = μ 44 1 + 1) (x1 : ∀ b, μ1 45 b = if b = (μ 44 1).toNat then v else μ 45 b) (f2 : ∀ a b, a ≠ 106 → ¬(a = 83 ∧ b = 42) → μ2 a b = μ1 a b) (e2 : μ2 83 42 = μ1 83 42 + 1) (x2 : ∀ b, μ2 106 b = if b = (μ1 83 42).toNat then v else μ1 106 b) : lx_J μ2 := by
  have hw := hJ.2.1
  have hb := mi_all hJ.1.2.1
  have h1 := hw.1
  have d : μ1 83 42 = μ 83 42 := f1 83 42 (by omega) (by omega)
  exact LJ_row hJ f1 f2 (by omega) (by omega) (rq_w_put hw (by omega) hv ((f2 44 1 (by omega) (by omega)).trans e1) (fun b => (f2 45 b (by omega) (by omega)).trans (x1 b)) (by rw [e2, d]) (fun b => by rw [x2, d, f1 106 b (by omega) (by omega)]))
theorem LJ_row0 {μ μ1 μ2 : am_N} (hJ : lx_J μ) (f1 : ∀ a b, ¬(a = 44 ∧ b = 1) → μ1 a b = μ a b) (e1 : μ1 44 1 = 0) (f2 : ∀ a b, ¬(a = 83 ∧ b = 42) → μ2 a b = μ1 a b) (e2 : μ2 83 42 = 0) : lx_J μ2 := LJ_row hJ (fun a b q _ => f1 a b q) (fun a b _ q => f2 a b q) (by rw [e1]; decide) (by rw [e2]; decide) (rq_w_zero ((f2 44 1 (by omega)).trans e1) e2)
theorem LI_time {μ μ1 μ2 : am_N} (hI : lx_I μ) (f1 : ∀ a b, ¬(a = 46 ∧ b = 1) → a ≠ 47 → μ1 a b = μ a b) (f2 : ∀ a b, a ≠ 105 → ¬(a = 83 ∧ b = 40) → μ2 a b = μ1 a b) (e1 : 0 ≤ μ1 46 1 ∧ μ1 46 1 ≤ 6) (e2 : 0 ≤ μ2 83 40 ∧ μ2 83 40 ≤ 6) : lx_I μ2 := by
  obtain ⟨hS, hm, hR0, hL, hB, hJ⟩ := hI
  have hb := sx_all hS
  have hc := mi_all hm
  have g : ∀ a b, ¬(a = 46 ∧ b = 1) → a ≠ 47 → a ≠ 105 → ¬(a = 83 ∧ b = 40) → μ2 a b = μ a b := fun a b h1 h2 h3 h4 => (f2 a b h3 h4).trans (f1 a b h1 h2)
  have d1 : 0 ≤ μ2 46 1 ∧ μ2 46 1 ≤ 6 := by rw [f2 46 1 (by omega) (by omega)]; exact e1
  refine ⟨⟨fun _ _ _ => rfl, fun p hp => by rw [g 34 p (by omega) (by omega) (by omega) (by omega)]; exact hS.2.1 p hp, fun p hp => by rw [g 43 p (by omega) (by omega) (by omega) (by omega)]; exact hS.2.2.1 p hp, by have q := hS.2.2.2.1; unfold sx_4 at q ⊢; rw [g 8 4 (by omega) (by omega) (by omega) (by omega), g 15 4 (by omega) (by omega) (by omega) (by omega), g 29 0 (by omega) (by omega) (by omega) (by omega), g 38 0 (by omega) (by omega) (by omega) (by omega)]; omega, by have q := hS.2.2.2.2; unfold px at q ⊢; rw [g 1 4 (by omega) (by omega) (by omega) (by omega), g 22 4 (by omega) (by omega) (by omega) (by omega), g 36 1 (by omega) (by omega) (by omega) (by omega), g 44 1 (by omega) (by omega) (by omega) (by omega), g 48 1 (by omega) (by omega) (by omega) (by omega), g 50 1 (by omega) (by omega) (by omega) (by omega), g 53 1 (by omega) (by omega) (by omega) (by omega), g 55 1 (by omega) (by omega) (by omega) (by omega), g 58 1 (by omega) (by omega) (by omega) (by omega), g 60 1 (by omega) (by omega) (by omega) (by omega), g 62 3 (by omega) (by omega) (by omega) (by omega)]; omega⟩, ?_, rq_F_keep hR0 (fun a b h1 h2 => (g a b (by omega) (by omega) (by omega) (by omega))) (fun a b h => (g a b (by omega) (by omega) (by omega) (by omega))), rq_L_keep hL (g _ _ (by omega) (by omega) (by omega) (by omega)) (fun b => (g _ _ (by omega) (by omega) (by omega) (by omega))) (g _ _ (by omega) (by omega) (by omega) (by omega)) (fun b => (g _ _ (by omega) (by omega) (by omega) (by omega))), rq_B_keep hB (g _ _ (by omega) (by omega) (by omega) (by omega)) (g _ _ (by omega) (by omega) (by omega) (by omega)) (fun a b h1 h2 => (g _ _ (by omega) (by omega) (by omega) (by omega))) (fun a b h1 h2 => (g _ _ (by omega) (by omega) (by omega) (by omega))) (by omega), rq_I_keep hJ (g _ _ (by omega) (by omega) (by omega) (by omega)) (g _ _ (by omega) (by omega) (by omega) (by omega)) (fun a b h1 h2 => (g _ _ (by omega) (by omega) (by omega) (by omega))) (fun b hb => (g _ _ (by omega) (by omega) (by omega) (by omega)))⟩
  unfold mi at hm ⊢
  rw [g 83 14 (by omega) (by omega) (by omega) (by omega), g 83 15 (by omega) (by omega) (by omega) (by omega), g 83 16 (by omega) (by omega) (by omega) (by omega), g 83 21 (by omega) (by omega) (by omega) (by omega), g 83 33 (by omega) (by omega) (by omega) (by omega), g 83 42 (by omega) (by omega) (by omega) (by omega), g 98 44 (by omega) (by omega) (by omega) (by omega), g 98 38 (by omega) (by omega) (by omega) (by omega), g 98 39 (by omega) (by omega) (by omega) (by omega)]
  refine ⟨hm.1, hm.2.1, hm.2.2.1, hm.2.2.2.1, hm.2.2.2.2.1, e2, hm.2.2.2.2.2.2.1, hm.2.2.2.2.2.2.2.1, hm.2.2.2.2.2.2.2.2.1, hm.2.2.2.2.2.2.2.2.2.1, fun p hp => ?_⟩
  rw [g 100 p (by omega) (by omega) (by omega) (by omega)]
  exact hm.2.2.2.2.2.2.2.2.2.2 p hp
theorem LJ_time {μ μ1 μ2 : am_N} (hJ : lx_J μ) (f1 : ∀ a b, ¬(a = 46 ∧ b = 1) → a ≠ 47 → μ1 a b = μ a b) (f2 : ∀ a b, a ≠ 105 → ¬(a = 83 ∧ b = 40) → μ2 a b = μ1 a b) (e1 : 0 ≤ μ1 46 1 ∧ μ1 46 1 ≤ 6) (e2 : 0 ≤ μ2 83 40 ∧ μ2 83 40 ≤ 6) (hw : rq_w 40 105 46 0 999 μ2) : lx_J μ2 := by
  have g : ∀ a b, ¬(a = 46 ∧ b = 1) → a ≠ 47 → a ≠ 105 → ¬(a = 83 ∧ b = 40) → μ2 a b = μ a b := fun a b h1 h2 h3 h4 => (f2 a b h3 h4).trans (f1 a b h1 h2)
  have hC := hJ.2
  exact ⟨LI_time hJ.1 f1 f2 e1 e2, rq_w_keep hC.1 (g 44 1 (by omega) (by omega) (by omega) (by omega)) (fun b => (g 45 b (by omega) (by omega) (by omega) (by omega))) (g 83 42 (by omega) (by omega) (by omega) (by omega)) (fun b _ => (g 106 b (by omega) (by omega) (by omega) (by omega))), hw, rq_w_keep hC.2.2.1 (g 48 1 (by omega) (by omega) (by omega) (by omega)) (fun b => (g 49 b (by omega) (by omega) (by omega) (by omega))) (g 83 15 (by omega) (by omega) (by omega) (by omega)) (fun b _ => (g 91 b (by omega) (by omega) (by omega) (by omega))), rq_w_keep hC.2.2.2.1 (g 53 1 (by omega) (by omega) (by omega) (by omega)) (fun b => (g 54 b (by omega) (by omega) (by omega) (by omega))) (g 83 16 (by omega) (by omega) (by omega) (by omega)) (fun b _ => (g 92 b (by omega) (by omega) (by omega) (by omega))), rq_w_keep hC.2.2.2.2.1 (g 55 1 (by omega) (by omega) (by omega) (by omega)) (fun b => (g 56 b (by omega) (by omega) (by omega) (by omega))) (g 83 16 (by omega) (by omega) (by omega) (by omega)) (fun b _ => (g 93 b (by omega) (by omega) (by omega) (by omega))), rq_S_keep hC.2.2.2.2.2 hJ.1.2.1 (fun a b q => g a b (by omega) (by omega) (by omega) (by omega))⟩
theorem LJ_time1 {μ μ1 μ2 : am_N} {v : Int} (hJ : lx_J μ) (hv : 0 ≤ v ∧ v ≤ 999) (hC : μ 46 1 < 6) (f1 : ∀ a b, ¬(a = 46 ∧ b = 1) → a ≠ 47 → μ1 a b = μ a b) (e1 : μ1 46 1 = μ 46 1 + 1) (x1 : ∀ b, μ1 47 b = if b = (μ 46 1).toNat then v else μ 47 b) (f2 : ∀ a b, a ≠ 105 → ¬(a = 83 ∧ b = 40) → μ2 a b = μ1 a b) (e2 : μ2 83 40 = μ1 83 40 + 1) (x2 : ∀ b, μ2 105 b = if b = (μ1 83 40).toNat then v else μ1 105 b) : lx_J μ2 := by
  have hw := hJ.2.2.1
  have hb := mi_all hJ.1.2.1
  have h1 := hw.1
  have d : μ1 83 40 = μ 83 40 := f1 83 40 (by omega) (by omega)
  exact LJ_time hJ f1 f2 (by omega) (by omega) (rq_w_put hw (by omega) hv ((f2 46 1 (by omega) (by omega)).trans e1) (fun b => (f2 47 b (by omega) (by omega)).trans (x1 b)) (by rw [e2, d]) (fun b => by rw [x2, d, f1 105 b (by omega) (by omega)]))
theorem LJ_time0 {μ μ1 μ2 : am_N} (hJ : lx_J μ) (f1 : ∀ a b, ¬(a = 46 ∧ b = 1) → μ1 a b = μ a b) (e1 : μ1 46 1 = 0) (f2 : ∀ a b, ¬(a = 83 ∧ b = 40) → μ2 a b = μ1 a b) (e2 : μ2 83 40 = 0) : lx_J μ2 := LJ_time hJ (fun a b q _ => f1 a b q) (fun a b _ q => f2 a b q) (by rw [e1]; decide) (by rw [e2]; decide) (rq_w_zero ((f2 46 1 (by omega)).trans e1) e2)
theorem LI_bag {μ μ1 μ2 : am_N} (hI : lx_I μ) (f1 : ∀ a b, ¬(a = 48 ∧ b = 1) → a ≠ 49 → μ1 a b = μ a b) (f2 : ∀ a b, a ≠ 91 → ¬(a = 83 ∧ b = 15) → μ2 a b = μ1 a b) (e1 : 0 ≤ μ1 48 1 ∧ μ1 48 1 ≤ 6) (e2 : 0 ≤ μ2 83 15 ∧ μ2 83 15 ≤ 6) : lx_I μ2 := by
  obtain ⟨hS, hm, hR0, hL, hB, hJ⟩ := hI
  have hb := sx_all hS
  have hc := mi_all hm
  have g : ∀ a b, ¬(a = 48 ∧ b = 1) → a ≠ 49 → a ≠ 91 → ¬(a = 83 ∧ b = 15) → μ2 a b = μ a b := fun a b h1 h2 h3 h4 => (f2 a b h3 h4).trans (f1 a b h1 h2)
  have d1 : 0 ≤ μ2 48 1 ∧ μ2 48 1 ≤ 6 := by rw [f2 48 1 (by omega) (by omega)]; exact e1
  refine ⟨⟨fun _ _ _ => rfl, fun p hp => by rw [g 34 p (by omega) (by omega) (by omega) (by omega)]; exact hS.2.1 p hp, fun p hp => by rw [g 43 p (by omega) (by omega) (by omega) (by omega)]; exact hS.2.2.1 p hp, by have q := hS.2.2.2.1; unfold sx_4 at q ⊢; rw [g 8 4 (by omega) (by omega) (by omega) (by omega), g 15 4 (by omega) (by omega) (by omega) (by omega), g 29 0 (by omega) (by omega) (by omega) (by omega), g 38 0 (by omega) (by omega) (by omega) (by omega)]; omega, by have q := hS.2.2.2.2; unfold px at q ⊢; rw [g 1 4 (by omega) (by omega) (by omega) (by omega), g 22 4 (by omega) (by omega) (by omega) (by omega), g 36 1 (by omega) (by omega) (by omega) (by omega), g 44 1 (by omega) (by omega) (by omega) (by omega), g 46 1 (by omega) (by omega) (by omega) (by omega), g 50 1 (by omega) (by omega) (by omega) (by omega), g 53 1 (by omega) (by omega) (by omega) (by omega), g 55 1 (by omega) (by omega) (by omega) (by omega), g 58 1 (by omega) (by omega) (by omega) (by omega), g 60 1 (by omega) (by omega) (by omega) (by omega), g 62 3 (by omega) (by omega) (by omega) (by omega)]; omega⟩, ?_, rq_F_keep hR0 (fun a b h1 h2 => (g a b (by omega) (by omega) (by omega) (by omega))) (fun a b h => (g a b (by omega) (by omega) (by omega) (by omega))), rq_L_keep hL (g _ _ (by omega) (by omega) (by omega) (by omega)) (fun b => (g _ _ (by omega) (by omega) (by omega) (by omega))) (g _ _ (by omega) (by omega) (by omega) (by omega)) (fun b => (g _ _ (by omega) (by omega) (by omega) (by omega))), rq_B_keep hB (g _ _ (by omega) (by omega) (by omega) (by omega)) (g _ _ (by omega) (by omega) (by omega) (by omega)) (fun a b h1 h2 => (g _ _ (by omega) (by omega) (by omega) (by omega))) (fun a b h1 h2 => (g _ _ (by omega) (by omega) (by omega) (by omega))) (by omega), rq_I_keep hJ (g _ _ (by omega) (by omega) (by omega) (by omega)) (g _ _ (by omega) (by omega) (by omega) (by omega)) (fun a b h1 h2 => (g _ _ (by omega) (by omega) (by omega) (by omega))) (fun b hb => (g _ _ (by omega) (by omega) (by omega) (by omega)))⟩
  unfold mi at hm ⊢
  rw [g 83 14 (by omega) (by omega) (by omega) (by omega), g 83 16 (by omega) (by omega) (by omega) (by omega), g 83 21 (by omega) (by omega) (by omega) (by omega), g 83 33 (by omega) (by omega) (by omega) (by omega), g 83 40 (by omega) (by omega) (by omega) (by omega), g 83 42 (by omega) (by omega) (by omega) (by omega), g 98 44 (by omega) (by omega) (by omega) (by omega), g 98 38 (by omega) (by omega) (by omega) (by omega), g 98 39 (by omega) (by omega) (by omega) (by omega)]
  refine ⟨hm.1, e2, hm.2.2.1, hm.2.2.2.1, hm.2.2.2.2.1, hm.2.2.2.2.2.1, hm.2.2.2.2.2.2.1, hm.2.2.2.2.2.2.2.1, hm.2.2.2.2.2.2.2.2.1, hm.2.2.2.2.2.2.2.2.2.1, fun p hp => ?_⟩
  rw [g 100 p (by omega) (by omega) (by omega) (by omega)]
  exact hm.2.2.2.2.2.2.2.2.2.2 p hp
theorem LJ_bag {μ μ1 μ2 : am_N} (hJ : lx_J μ) (f1 : ∀ a b, ¬(a = 48 ∧ b = 1) → a ≠ 49 → μ1 a b = μ a b) (f2 : ∀ a b, a ≠ 91 → ¬(a = 83 ∧ b = 15) → μ2 a b = μ1 a b) (e1 : 0 ≤ μ1 48 1 ∧ μ1 48 1 ≤ 6) (e2 : 0 ≤ μ2 83 15 ∧ μ2 83 15 ≤ 6) (hw : rq_w 15 91 48 1 9 μ2) : lx_J μ2 := by
  have g : ∀ a b, ¬(a = 48 ∧ b = 1) → a ≠ 49 → a ≠ 91 → ¬(a = 83 ∧ b = 15) → μ2 a b = μ a b := fun a b h1 h2 h3 h4 => (f2 a b h3 h4).trans (f1 a b h1 h2)
  have hC := hJ.2
  exact ⟨LI_bag hJ.1 f1 f2 e1 e2, rq_w_keep hC.1 (g 44 1 (by omega) (by omega) (by omega) (by omega)) (fun b => (g 45 b (by omega) (by omega) (by omega) (by omega))) (g 83 42 (by omega) (by omega) (by omega) (by omega)) (fun b _ => (g 106 b (by omega) (by omega) (by omega) (by omega))), rq_w_keep hC.2.1 (g 46 1 (by omega) (by omega) (by omega) (by omega)) (fun b => (g 47 b (by omega) (by omega) (by omega) (by omega))) (g 83 40 (by omega) (by omega) (by omega) (by omega)) (fun b _ => (g 105 b (by omega) (by omega) (by omega) (by omega))), hw, rq_w_keep hC.2.2.2.1 (g 53 1 (by omega) (by omega) (by omega) (by omega)) (fun b => (g 54 b (by omega) (by omega) (by omega) (by omega))) (g 83 16 (by omega) (by omega) (by omega) (by omega)) (fun b _ => (g 92 b (by omega) (by omega) (by omega) (by omega))), rq_w_keep hC.2.2.2.2.1 (g 55 1 (by omega) (by omega) (by omega) (by omega)) (fun b => (g 56 b (by omega) (by omega) (by omega) (by omega))) (g 83 16 (by omega) (by omega) (by omega) (by omega)) (fun b _ => (g 93 b (by omega) (by omega) (by omega) (by omega))), rq_S_keep hC.2.2.2.2.2 hJ.1.2.1 (fun a b q => g a b (by omega) (by omega) (by omega) (by omega))⟩
theorem LJ_bag1 {μ μ1 μ2 : am_N} {v : Int} (hJ : lx_J μ) (hv : 1 ≤ v ∧ v ≤ 9) (hC : μ 48 1 < 6) (f1 : ∀ a b, ¬(a = 48 ∧ b = 1) → a ≠ 49 → μ1 a b = μ a b) (e1 : μ1 48 1 = μ 48 1 + 1) (x1 : ∀ b, μ1 49 b = if b = (μ 48 1).toNat then v else μ 49 b) (f2 : ∀ a b, a ≠ 91 → ¬(a = 83 ∧ b = 15) → μ2 a b = μ1 a b) (e2 : μ2 83 15 = μ1 83 15 + 1) (x2 : ∀ b, μ2 91 b = if b = (μ1 83 15).toNat then v else μ1 91 b) : lx_J μ2 := by
  have hw := hJ.2.2.2.1
  have hb := mi_all hJ.1.2.1
  have h1 := hw.1
  have d : μ1 83 15 = μ 83 15 := f1 83 15 (by omega) (by omega)
  exact LJ_bag hJ f1 f2 (by omega) (by omega) (rq_w_put hw (by omega) hv ((f2 48 1 (by omega) (by omega)).trans e1) (fun b => (f2 49 b (by omega) (by omega)).trans (x1 b)) (by rw [e2, d]) (fun b => by rw [x2, d, f1 91 b (by omega) (by omega)]))
theorem LJ_bag0 {μ μ1 μ2 : am_N} (hJ : lx_J μ) (f1 : ∀ a b, ¬(a = 48 ∧ b = 1) → μ1 a b = μ a b) (e1 : μ1 48 1 = 0) (f2 : ∀ a b, ¬(a = 83 ∧ b = 15) → μ2 a b = μ1 a b) (e2 : μ2 83 15 = 0) : lx_J μ2 := LJ_bag hJ (fun a b q _ => f1 a b q) (fun a b _ q => f2 a b q) (by rw [e1]; decide) (by rw [e2]; decide) (rq_w_zero ((f2 48 1 (by omega)).trans e1) e2)
theorem LJ_hab {μ μ1 μ2 : am_N} (hJ : lx_J μ) (f1 : ∀ a b, ¬(a = 53 ∧ b = 1) → ¬(a = 55 ∧ b = 1) → a ≠ 54 → a ≠ 56 → μ1 a b = μ a b) (f2 : ∀ a b, a ≠ 92 → a ≠ 93 → ¬(a = 83 ∧ b = 16) → μ2 a b = μ1 a b) (e1 : 0 ≤ μ1 53 1 ∧ μ1 53 1 ≤ 4) (e1' : 0 ≤ μ1 55 1 ∧ μ1 55 1 ≤ 4) (e2 : 0 ≤ μ2 83 16 ∧ μ2 83 16 ≤ 4) (hw : rq_w 16 92 53 0 3 μ2) (hy : rq_w 16 93 55 (-9) 9 μ2) : lx_J μ2 := by
  obtain ⟨hI, hC⟩ := hJ
  obtain ⟨hS, hm, hR0, hL, hB, hJ⟩ := hI
  have hb := sx_all hS
  have hc := mi_all hm
  have g : ∀ a b, ¬(a = 53 ∧ b = 1) → ¬(a = 55 ∧ b = 1) → a ≠ 54 → a ≠ 56 → a ≠ 92 → a ≠ 93 → ¬(a = 83 ∧ b = 16) → μ2 a b = μ a b := fun a b h1 h2 h3 h4 h5 h6 h7 => (f2 a b h5 h6 h7).trans (f1 a b h1 h2 h3 h4)
  have d1 : 0 ≤ μ2 53 1 ∧ μ2 53 1 ≤ 4 := by rw [f2 53 1 (by omega) (by omega) (by omega)]; exact e1
  have d2 : 0 ≤ μ2 55 1 ∧ μ2 55 1 ≤ 4 := by rw [f2 55 1 (by omega) (by omega) (by omega)]; exact e1'
  refine ⟨⟨⟨fun _ _ _ => rfl, fun p hp => by rw [g 34 p (by omega) (by omega) (by omega) (by omega) (by omega) (by omega) (by omega)]; exact hS.2.1 p hp, fun p hp => by rw [g 43 p (by omega) (by omega) (by omega) (by omega) (by omega) (by omega) (by omega)]; exact hS.2.2.1 p hp, by have q := hS.2.2.2.1; unfold sx_4 at q ⊢; rw [g 8 4 (by omega) (by omega) (by omega) (by omega) (by omega) (by omega) (by omega), g 15 4 (by omega) (by omega) (by omega) (by omega) (by omega) (by omega) (by omega), g 29 0 (by omega) (by omega) (by omega) (by omega) (by omega) (by omega) (by omega), g 38 0 (by omega) (by omega) (by omega) (by omega) (by omega) (by omega) (by omega)]; omega, by have q := hS.2.2.2.2; unfold px at q ⊢; rw [g 1 4 (by omega) (by omega) (by omega) (by omega) (by omega) (by omega) (by omega), g 22 4 (by omega) (by omega) (by omega) (by omega) (by omega) (by omega) (by omega), g 36 1 (by omega) (by omega) (by omega) (by omega) (by omega) (by omega) (by omega), g 44 1 (by omega) (by omega) (by omega) (by omega) (by omega) (by omega) (by omega), g 46 1 (by omega) (by omega) (by omega) (by omega) (by omega) (by omega) (by omega), g 48 1 (by omega) (by omega) (by omega) (by omega) (by omega) (by omega) (by omega), g 50 1 (by omega) (by omega) (by omega) (by omega) (by omega) (by omega) (by omega), g 58 1 (by omega) (by omega) (by omega) (by omega) (by omega) (by omega) (by omega), g 60 1 (by omega) (by omega) (by omega) (by omega) (by omega) (by omega) (by omega), g 62 3 (by omega) (by omega) (by omega) (by omega) (by omega) (by omega) (by omega)]; omega⟩, ?_, rq_F_keep hR0 (fun a b h1 h2 => (g a b (by omega) (by omega) (by omega) (by omega) (by omega) (by omega) (by omega))) (fun a b h => (g a b (by omega) (by omega) (by omega) (by omega) (by omega) (by omega) (by omega))), rq_L_keep hL (g _ _ (by omega) (by omega) (by omega) (by omega) (by omega) (by omega) (by omega)) (fun b => (g _ _ (by omega) (by omega) (by omega) (by omega) (by omega) (by omega) (by omega))) (g _ _ (by omega) (by omega) (by omega) (by omega) (by omega) (by omega) (by omega)) (fun b => (g _ _ (by omega) (by omega) (by omega) (by omega) (by omega) (by omega) (by omega))), rq_B_keep hB (g _ _ (by omega) (by omega) (by omega) (by omega) (by omega) (by omega) (by omega)) (g _ _ (by omega) (by omega) (by omega) (by omega) (by omega) (by omega) (by omega)) (fun a b h1 h2 => (g _ _ (by omega) (by omega) (by omega) (by omega) (by omega) (by omega) (by omega))) (fun a b h1 h2 => (g _ _ (by omega) (by omega) (by omega) (by omega) (by omega) (by omega) (by omega))) (by omega), rq_I_keep hJ (g _ _ (by omega) (by omega) (by omega) (by omega) (by omega) (by omega) (by omega)) (g _ _ (by omega) (by omega) (by omega) (by omega) (by omega) (by omega) (by omega)) (fun a b h1 h2 => (g _ _ (by omega) (by omega) (by omega) (by omega) (by omega) (by omega) (by omega))) (fun b hb => (g _ _ (by omega) (by omega) (by omega) (by omega) (by omega) (by omega) (by omega)))⟩, rq_w_keep hC.1 (g 44 1 (by omega) (by omega) (by omega) (by omega) (by omega) (by omega) (by omega)) (fun b => (g 45 b (by omega) (by omega) (by omega) (by omega) (by omega) (by omega) (by omega))) (g 83 42 (by omega) (by omega) (by omega) (by omega) (by omega) (by omega) (by omega)) (fun b _ => (g 106 b (by omega) (by omega) (by omega) (by omega) (by omega) (by omega) (by omega))), rq_w_keep hC.2.1 (g 46 1 (by omega) (by omega) (by omega) (by omega) (by omega) (by omega) (by omega)) (fun b => (g 47 b (by omega) (by omega) (by omega) (by omega) (by omega) (by omega) (by omega))) (g 83 40 (by omega) (by omega) (by omega) (by omega) (by omega) (by omega) (by omega)) (fun b _ => (g 105 b (by omega) (by omega) (by omega) (by omega) (by omega) (by omega) (by omega))), rq_w_keep hC.2.2.1 (g 48 1 (by omega) (by omega) (by omega) (by omega) (by omega) (by omega) (by omega)) (fun b => (g 49 b (by omega) (by omega) (by omega) (by omega) (by omega) (by omega) (by omega))) (g 83 15 (by omega) (by omega) (by omega) (by omega) (by omega) (by omega) (by omega)) (fun b _ => (g 91 b (by omega) (by omega) (by omega) (by omega) (by omega) (by omega) (by omega))), hw, hy, rq_S_keep hC.2.2.2.2.2 hm (fun a b q => g a b (by omega) (by omega) (by omega) (by omega) (by omega) (by omega) (by omega))⟩
  unfold mi at hm ⊢
  rw [g 83 14 (by omega) (by omega) (by omega) (by omega) (by omega) (by omega) (by omega), g 83 15 (by omega) (by omega) (by omega) (by omega) (by omega) (by omega) (by omega), g 83 21 (by omega) (by omega) (by omega) (by omega) (by omega) (by omega) (by omega), g 83 33 (by omega) (by omega) (by omega) (by omega) (by omega) (by omega) (by omega), g 83 40 (by omega) (by omega) (by omega) (by omega) (by omega) (by omega) (by omega), g 83 42 (by omega) (by omega) (by omega) (by omega) (by omega) (by omega) (by omega), g 98 44 (by omega) (by omega) (by omega) (by omega) (by omega) (by omega) (by omega), g 98 38 (by omega) (by omega) (by omega) (by omega) (by omega) (by omega) (by omega), g 98 39 (by omega) (by omega) (by omega) (by omega) (by omega) (by omega) (by omega)]
  refine ⟨hm.1, hm.2.1, e2, hm.2.2.2.1, hm.2.2.2.2.1, hm.2.2.2.2.2.1, hm.2.2.2.2.2.2.1, hm.2.2.2.2.2.2.2.1, hm.2.2.2.2.2.2.2.2.1, hm.2.2.2.2.2.2.2.2.2.1, fun p hp => ?_⟩
  rw [g 100 p (by omega) (by omega) (by omega) (by omega) (by omega) (by omega) (by omega)]
  exact hm.2.2.2.2.2.2.2.2.2.2 p hp
theorem LJ_habit1 {μ μ1 μ2 : am_N} {w y : Int} (hJ : lx_J μ) (hv : 0 ≤ w ∧ w ≤ 3) (hz : -9 ≤ y ∧ y ≤ 9) (h4 : μ 53 1 < 4) (f1 : ∀ a b, ¬(a = 53 ∧ b = 1) → ¬(a = 55 ∧ b = 1) → a ≠ 54 → a ≠ 56 → μ1 a b = μ a b) (e1 : μ1 53 1 = μ 53 1 + 1) (e1' : μ1 55 1 = μ 55 1 + 1) (x1 : ∀ b, μ1 54 b = if b = (μ 53 1).toNat then w else μ 54 b) (x1' : ∀ b, μ1 56 b = if b = (μ 55 1).toNat then y else μ 56 b) (f2 : ∀ a b, a ≠ 92 → a ≠ 93 → ¬(a = 83 ∧ b = 16) → μ2 a b = μ1 a b) (e2 : μ2 83 16 = μ1 83 16 + 1) (x2 : ∀ b, μ2 92 b = if b = (μ1 83 16).toNat then w else μ1 92 b) (x2' : ∀ b, μ2 93 b = if b = (μ1 83 16).toNat then y else μ1 93 b) : lx_J μ2 := by
  have hw := hJ.2.2.2.2.1
  have hy := hJ.2.2.2.2.2.1
  have hb := mi_all hJ.1.2.1
  have h1 := hw.1
  have h2 := hy.1
  have d : μ1 83 16 = μ 83 16 := f1 83 16 (by omega) (by omega) (by omega) (by omega)
  exact LJ_hab hJ f1 f2 (by omega) (by omega) (by omega) (rq_w_put hw (by omega) hv ((f2 53 1 (by omega) (by omega) (by omega)).trans e1) (fun b => (f2 54 b (by omega) (by omega) (by omega)).trans (x1 b)) (by rw [e2, d]) (fun b => by rw [x2, d, f1 92 b (by omega) (by omega) (by omega) (by omega)])) (rq_w_put hy (by omega) hz ((f2 55 1 (by omega) (by omega) (by omega)).trans e1') (fun b => (f2 56 b (by omega) (by omega) (by omega)).trans (x1' b)) (by rw [e2, d]) (fun b => by rw [x2', d, f1 93 b (by omega) (by omega) (by omega) (by omega)]))
theorem LJ_habit0 {μ μ1 μ2 : am_N} (hJ : lx_J μ) (f1 : ∀ a b, ¬(a = 53 ∧ b = 1) → ¬(a = 55 ∧ b = 1) → μ1 a b = μ a b) (e1 : μ1 53 1 = 0) (e1' : μ1 55 1 = 0) (f2 : ∀ a b, ¬(a = 83 ∧ b = 16) → μ2 a b = μ1 a b) (e2 : μ2 83 16 = 0) : lx_J μ2 := LJ_hab hJ (fun a b q1 q2 _ _ => f1 a b q1 q2) (fun a b _ _ q => f2 a b q) (by rw [e1]; decide) (by rw [e1']; decide) (by rw [e2]; decide) (rq_w_zero ((f2 53 1 (by omega)).trans e1) e2) (rq_w_zero ((f2 55 1 (by omega)).trans e1') e2)
theorem LJ_image {μ μ1 μ2 : am_N} (hJ : lx_J μ) (f1 : (∀ a b, ¬(22 ≤ a ∧ a ≤ 28) → ¬(50 ≤ a ∧ a ≤ 51) → ¬(57 ≤ a ∧ a ≤ 61) → ¬(a = 0 ∧ b = 15) → μ1 a b = μ a b)) (h1 : fv μ1 22 = fv μ 1) (e15 : μ1 0 15 = 1) (e50 : μ1 50 1 = μ 48 1) (x51 : ∀ i : Nat, (i : Int) < μ 48 1 → μ1 51 i = μ 49 i) (e58 : μ1 58 1 = μ 53 1) (x59 : ∀ i : Nat, (i : Int) < μ 53 1 → μ1 59 i = μ 54 i) (e60 : μ1 60 1 = μ 55 1) (x61 : ∀ i : Nat, (i : Int) < μ 55 1 → μ1 61 i = μ 56 i) (f2 : (∀ a b, ¬(a = 98 ∧ b < 45) → ¬(a = 83 ∧ (b = 25 ∨ b = 26 ∨ b = 27)) → μ2 a b = μ1 a b)) (e25 : μ2 83 25 = 1) (u : ∀ a b o, kp_at a b = some o → μ2 98 o = μ1 a b) : lx_J μ2 := by
  have hb := mi_all hJ.1.2.1
  obtain ⟨w1, w2, w3, w4, w5, w6⟩ := hJ.2
  have g : ∀ a b, ¬(22 ≤ a ∧ a ≤ 28) → ¬(50 ≤ a ∧ a ≤ 51) → ¬(57 ≤ a ∧ a ≤ 61) → ¬(a = 0 ∧ b = 15) → ¬(a = 98 ∧ b < 45) → ¬(a = 83 ∧ (b = 25 ∨ b = 26 ∨ b = 27)) → μ2 a b = μ a b := fun a b h1 h2 h3 h4 h5 h6 => (f2 a b h5 h6).trans (f1 a b h1 h2 h3 h4)
  have k38 : μ2 98 38 = μ 83 15 := (u 83 15 38 rfl).trans (f1 83 15 (by omega) (by omega) (by omega) (by omega))
  have k39 : μ2 98 39 = μ 83 16 := (u 83 16 39 rfl).trans (f1 83 16 (by omega) (by omega) (by omega) (by omega))
  have p91 : ∀ b : Nat, b < 6 → μ2 98 (24 + b) = μ 91 b := fun b q => (u 91 b (24 + b) (by unfold kp_at; rw [if_neg (by omega), if_pos ⟨rfl, q⟩])).trans (f1 91 b (by omega) (by omega) (by omega) (by omega))
  have p92 : ∀ b : Nat, b < 4 → μ2 98 (30 + b) = μ 92 b := fun b q => (u 92 b (30 + b) (by unfold kp_at; rw [if_neg (by omega), if_neg (by omega), if_pos ⟨rfl, q⟩])).trans (f1 92 b (by omega) (by omega) (by omega) (by omega))
  have p93 : ∀ b : Nat, b < 4 → μ2 98 (34 + b) = μ 93 b := fun b q => (u 93 b (34 + b) (by unfold kp_at; rw [if_neg (by omega), if_neg (by omega), if_neg (by omega), if_pos ⟨rfl, q⟩])).trans (f1 93 b (by omega) (by omega) (by omega) (by omega))
  have c1 := w3.1
  have c2 := w4.1
  have c3 := w5.1
  refine ⟨LI_image hJ.1 f1 h1 e15 e50 e58 e60 f2 e25 u, rq_w_keep w1 (g 44 1 (by omega) (by omega) (by omega) (by omega) (by omega) (by omega)) (fun b => (g 45 b (by omega) (by omega) (by omega) (by omega) (by omega) (by omega))) (g 83 42 (by omega) (by omega) (by omega) (by omega) (by omega) (by omega)) (fun b _ => (g 106 b (by omega) (by omega) (by omega) (by omega) (by omega) (by omega))), rq_w_keep w2 (g 46 1 (by omega) (by omega) (by omega) (by omega) (by omega) (by omega)) (fun b => (g 47 b (by omega) (by omega) (by omega) (by omega) (by omega) (by omega))) (g 83 40 (by omega) (by omega) (by omega) (by omega) (by omega) (by omega)) (fun b _ => (g 105 b (by omega) (by omega) (by omega) (by omega) (by omega) (by omega))), rq_w_keep w3 (g 48 1 (by omega) (by omega) (by omega) (by omega) (by omega) (by omega)) (fun b => (g 49 b (by omega) (by omega) (by omega) (by omega) (by omega) (by omega))) (g 83 15 (by omega) (by omega) (by omega) (by omega) (by omega) (by omega)) (fun b _ => (g 91 b (by omega) (by omega) (by omega) (by omega) (by omega) (by omega))), rq_w_keep w4 (g 53 1 (by omega) (by omega) (by omega) (by omega) (by omega) (by omega)) (fun b => (g 54 b (by omega) (by omega) (by omega) (by omega) (by omega) (by omega))) (g 83 16 (by omega) (by omega) (by omega) (by omega) (by omega) (by omega)) (fun b _ => (g 92 b (by omega) (by omega) (by omega) (by omega) (by omega) (by omega))), rq_w_keep w5 (g 55 1 (by omega) (by omega) (by omega) (by omega) (by omega) (by omega)) (fun b => (g 56 b (by omega) (by omega) (by omega) (by omega) (by omega) (by omega))) (g 83 16 (by omega) (by omega) (by omega) (by omega) (by omega) (by omega)) (fun b _ => (g 93 b (by omega) (by omega) (by omega) (by omega) (by omega) (by omega))), fun _ => ⟨⟨?_, fun b hb2 => ?_⟩, ⟨?_, fun b hb2 => ?_⟩, ⟨?_, fun b hb2 => ?_⟩⟩⟩
  · rw [k38, f2 50 1 (by omega) (by omega), e50]; exact c1
  · rw [k38] at hb2; rw [p91 b (by omega), f2 51 b (by omega) (by omega), x51 b (by omega)]; exact w3.2 b hb2
  · rw [k39, f2 58 1 (by omega) (by omega), e58]; exact c2
  · rw [k39] at hb2; rw [p92 b (by omega), f2 59 b (by omega) (by omega), x59 b (by omega)]; exact w4.2 b hb2
  · rw [k39, f2 60 1 (by omega) (by omega), e60]; exact c3
  · rw [k39] at hb2; rw [p93 b (by omega), f2 61 b (by omega) (by omega), x61 b (by omega)]; exact w5.2 b hb2
theorem LJ_restore {μ μ1 μ2 : am_N} (hJ : lx_J μ) (h15 : μ 0 15 ≠ 0) (f1 : (∀ a b, ¬(1 ≤ a ∧ a ≤ 7) → ¬(48 ≤ a ∧ a ≤ 49) → ¬(52 ≤ a ∧ a ≤ 56) → ¬(a = 62 ∧ b = 3) → μ1 a b = μ a b)) (h1 : fv μ1 1 = fv μ 22) (z62 : μ1 62 3 = 0) (e48 : μ1 48 1 = μ 50 1) (x49 : ∀ i : Nat, (i : Int) < μ 50 1 → μ1 49 i = μ 51 i) (e53 : μ1 53 1 = μ 58 1) (x54 : ∀ i : Nat, (i : Int) < μ 58 1 → μ1 54 i = μ 59 i) (e55 : μ1 55 1 = μ 60 1) (x56 : ∀ i : Nat, (i : Int) < μ 60 1 → μ1 56 i = μ 61 i) (f2 : (∀ a b, kp_at a b = none → ¬(a = 83 ∧ (b = 26 ∨ b = 27 ∨ b = 33)) → μ2 a b = μ1 a b)) (u : ∀ a b o, kp_at a b = some o → μ2 a b = μ1 98 o) (z33 : μ2 83 33 = 0) : lx_J μ2 := by
  have hb := mi_all hJ.1.2.1
  have hm := hJ.1.2.1
  have q38 := hm.2.2.2.2.2.2.2.2.1
  have q39 := hm.2.2.2.2.2.2.2.2.2.1
  obtain ⟨w1, w2, w3, w4, w5, w6⟩ := hJ.2
  have f25 : μ 83 25 ≠ 0 := by
    rcases hJ.1.2.2.2.2.2 with ⟨a, -⟩ | ⟨-, a, -⟩
    · exact absurd a h15
    · rw [a]; decide
  obtain ⟨v1, v2, v3⟩ := w6 f25
  have f2' : ∀ a b, ¬(85 ≤ a ∧ a ≤ 93) → ¬(a = 83 ∧ (10 ≤ b ∧ b ≤ 16)) → ¬(a = 83 ∧ (b = 26 ∨ b = 27 ∨ b = 33)) → μ2 a b = μ1 a b := fun a b q1 q2 q3 => f2 a b (kp_none ⟨q1, q2⟩) q3
  have g : ∀ a b, ¬(1 ≤ a ∧ a ≤ 7) → ¬(48 ≤ a ∧ a ≤ 49) → ¬(52 ≤ a ∧ a ≤ 56) → ¬(a = 62 ∧ b = 3) → ¬(85 ≤ a ∧ a ≤ 93) → ¬(a = 83 ∧ (10 ≤ b ∧ b ≤ 16)) → ¬(a = 83 ∧ (b = 26 ∨ b = 27 ∨ b = 33)) → μ2 a b = μ a b := fun a b h1 h2 h3 h4 h5 h6 h7 => (f2' a b h5 h6 h7).trans (f1 a b h1 h2 h3 h4)
  have n98 : ∀ b, μ1 98 b = μ 98 b := fun b => f1 98 b (by omega) (by omega) (by omega) (by omega)
  have k15 : μ2 83 15 = μ 98 38 := (u 83 15 38 rfl).trans (n98 38)
  have k16 : μ2 83 16 = μ 98 39 := (u 83 16 39 rfl).trans (n98 39)
  have p91 : ∀ b : Nat, b < 6 → μ2 91 b = μ 98 (24 + b) := fun b q => (u 91 b (24 + b) (by unfold kp_at; rw [if_neg (by omega), if_pos ⟨rfl, q⟩])).trans (n98 _)
  have p92 : ∀ b : Nat, b < 4 → μ2 92 b = μ 98 (30 + b) := fun b q => (u 92 b (30 + b) (by unfold kp_at; rw [if_neg (by omega), if_neg (by omega), if_pos ⟨rfl, q⟩])).trans (n98 _)
  have p93 : ∀ b : Nat, b < 4 → μ2 93 b = μ 98 (34 + b) := fun b q => (u 93 b (34 + b) (by unfold kp_at; rw [if_neg (by omega), if_neg (by omega), if_neg (by omega), if_pos ⟨rfl, q⟩])).trans (n98 _)
  have c1 := v1.1
  have c2 := v2.1
  have c3 := v3.1
  refine ⟨LI_restore hJ.1 h15 f1 h1 z62 e48 e53 e55 f2 u z33, rq_w_keep w1 (g 44 1 (by omega) (by omega) (by omega) (by omega) (by omega) (by omega) (by omega)) (fun b => (g 45 b (by omega) (by omega) (by omega) (by omega) (by omega) (by omega) (by omega))) (g 83 42 (by omega) (by omega) (by omega) (by omega) (by omega) (by omega) (by omega)) (fun b _ => (g 106 b (by omega) (by omega) (by omega) (by omega) (by omega) (by omega) (by omega))), rq_w_keep w2 (g 46 1 (by omega) (by omega) (by omega) (by omega) (by omega) (by omega) (by omega)) (fun b => (g 47 b (by omega) (by omega) (by omega) (by omega) (by omega) (by omega) (by omega))) (g 83 40 (by omega) (by omega) (by omega) (by omega) (by omega) (by omega) (by omega)) (fun b _ => (g 105 b (by omega) (by omega) (by omega) (by omega) (by omega) (by omega) (by omega))), ⟨?_, fun b hb2 => ?_⟩, ⟨?_, fun b hb2 => ?_⟩, ⟨?_, fun b hb2 => ?_⟩, rq_S_keep w6 hm (fun a b q => g a b (by omega) (by omega) (by omega) (by omega) (by omega) (by omega) (by omega))⟩
  · rw [k15, f2' 48 1 (by omega) (by omega) (by omega), e48]; exact c1
  · rw [k15] at hb2; rw [p91 b (by omega), f2' 49 b (by omega) (by omega) (by omega), x49 b (by omega)]; exact v1.2 b hb2
  · rw [k16, f2' 53 1 (by omega) (by omega) (by omega), e53]; exact c2
  · rw [k16] at hb2; rw [p92 b (by omega), f2' 54 b (by omega) (by omega) (by omega), x54 b (by omega)]; exact v2.2 b hb2
  · rw [k16, f2' 55 1 (by omega) (by omega) (by omega), e55]; exact c3
  · rw [k16] at hb2; rw [p93 b (by omega), f2' 56 b (by omega) (by omega) (by omega), x56 b (by omega)]; exact v3.2 b hb2
theorem LJ_judge {μ μ1 μ2 : am_N} (hJ : lx_J μ) (h1 : gv [44] μ μ1) (e1 : μ1 44 1 = 0) (h2 : gm (mo mQ (m1o 83000 42)) μ1 μ2) (e2 : μ2 83 42 = 0) : lx_J μ2 := by
  obtain ⟨w1, w2, w3, w4, w5, w6⟩ := hJ.2
  have hb := mi_all hJ.1.2.1
  have hA : lx_A (mo mQ (m1o 83000 42)) := lx_Ao (lx_Ao lx_A0 lx_Q1) (lx_mo (by decide))
  have e : ∀ a b, rq_K a b → a ≠ 44 → ¬(a = 83 ∧ b = 42) → μ2 a b = μ a b := fun a b q n1 n2 => by
    have d1 : μ1 a b = μ a b := h1.2 a b (by
      by_cases d : 83 ≤ a
      · rw [sx_p83 d]
        have z : ([44] : List Nat).contains a = false := by
          cases y : ([44] : List Nat).contains a with
          | false => rfl
          | true => have := List.contains_iff_mem.mp y; simp at this; omega
        rw [z]; rfl
      · rcases (show a = 45 ∨ a = 46 ∨ a = 47 ∨ a = 48 ∨ a = 49 ∨ a = 50 ∨ a = 51 ∨ a = 52 ∨ a = 53 ∨ a = 54 ∨ a = 55 ∨ a = 56 ∨ a = 57 ∨ a = 58 ∨ a = 59 ∨ a = 60 ∨ a = 61 by unfold rq_K at q; omega) with rfl | rfl | rfl | rfl | rfl | rfl | rfl | rfl | rfl | rfl | rfl | rfl | rfl | rfl | rfl | rfl | rfl <;> rfl)
    refine (h2.2 a b ?_).trans d1
    by_cases d : 83 ≤ a
    · refine Bool.or_eq_false_iff.mpr ⟨fp_AdQ a b d q, ?_⟩
      unfold m1o
      have t1 : Nat.beq a 83000 = false := by
        cases y : Nat.beq a 83000 with
        | false => rfl
        | true => have := Nat.eq_of_beq_eq_true y; unfold rq_K at q; omega
      rw [t1]
      by_cases f : a = 83
      · have t2 : Nat.beq b 42 = false := by
          cases y : Nat.beq b 42 with
          | false => rfl
          | true => have := Nat.eq_of_beq_eq_true y; omega
        rw [t2]; exact Bool.and_false _
      · have t2 : Nat.beq a 83 = false := by
          cases y : Nat.beq a 83 with
          | false => rfl
          | true => have := Nat.eq_of_beq_eq_true y; omega
        rw [t2]; rfl
    · exact hA a b (by omega)
  have e44 : μ2 44 1 = 0 := (h2.2 44 1 (hA 44 1 (by decide))).trans e1
  refine ⟨LI_weak (E := [44]) hJ.1 h1 h2 (lx_c rfl) rfl hA (fp_Aco fp_AcQ (fp_Ac1 (by decide) (by decide))), rq_w_zero e44 e2, ?_, ?_, ?_, ?_, rq_S_keep w6 hJ.1.2.1 (fun a b q => e a b (by unfold rq_K; omega) (by omega) (by omega))⟩
  · exact rq_w_keep w2 (e _ _ (by unfold rq_K; omega) (by omega) (by omega)) (fun b => e _ _ (by unfold rq_K; omega) (by omega) (by omega)) (e _ _ (by unfold rq_K; omega) (by omega) (by omega)) (fun b hb => e _ _ (by unfold rq_K; omega) (by omega) (by omega))
  · exact rq_w_keep w3 (e _ _ (by unfold rq_K; omega) (by omega) (by omega)) (fun b => e _ _ (by unfold rq_K; omega) (by omega) (by omega)) (e _ _ (by unfold rq_K; omega) (by omega) (by omega)) (fun b hb => e _ _ (by unfold rq_K; omega) (by omega) (by omega))
  · exact rq_w_keep w4 (e _ _ (by unfold rq_K; omega) (by omega) (by omega)) (fun b => e _ _ (by unfold rq_K; omega) (by omega) (by omega)) (e _ _ (by unfold rq_K; omega) (by omega) (by omega)) (fun b hb => e _ _ (by unfold rq_K; omega) (by omega) (by omega))
  · exact rq_w_keep w5 (e _ _ (by unfold rq_K; omega) (by omega) (by omega)) (fun b => e _ _ (by unfold rq_K; omega) (by omega) (by omega)) (e _ _ (by unfold rq_K; omega) (by omega) (by omega)) (fun b hb => e _ _ (by unfold rq_K; omega) (by omega) (by omega))
/-- calls by frames -/
theorem LJ_fr {μ μ2 : am_N} (hJ : lx_J μ) (hI : lx_I μ2) (g : ∀ a b, rq_K a b → μ2 a b = μ a b) : lx_J μ2 := ⟨hI, rq_C_keep hJ.2 hJ.1.2.1 g⟩
