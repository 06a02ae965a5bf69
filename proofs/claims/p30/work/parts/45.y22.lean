/-! when STARTS settle, which RULE is best -/
def fp_eq (f g : Nat → Int) : Nat → Bool
  | 0 => true
  | i + 1 => fp_eq f g i && decide (f i = g i)
theorem fp_eq_i {f g : Nat → Int} : ∀ n : Nat, fp_eq f g n = true ↔ ∀ i : Nat, i < n → f i = g i := by
  intro n
  induction n with
  | zero => exact ⟨fun _ i hi => absurd hi (by omega), fun _ => rfl⟩
  | succ n ih =>
    simp only [fp_eq, Bool.and_eq_true, decide_eq_true_eq, ih]
    refine ⟨fun h i hi => ?_, fun h => ⟨fun i hi => h i (by omega), h n (by omega)⟩⟩
    by_cases d : i = n
    · rw [d]; exact h.2
    · exact h.1 i (by omega)
/-- STARTS as one number -/
def fp_sn (f : Nat → Int) : Nat → Int
  | 0 => 0
  | i + 1 => 100 * fp_sn f i + f i
theorem fp_sn_b {f : Nat → Int} : ∀ n : Nat, (∀ i : Nat, i < n → 0 ≤ f i ∧ f i ≤ 99) → 0 ≤ fp_sn f n ∧ fp_sn f n < (100 ^ n : Nat) := by
  intro n
  induction n with
  | zero => intro _; exact ⟨(by first | exact Int.le_refl 0 | (show (0 : Int) ≤ 1; decide) | (show (0 : Int) ≤ _; decide) | (show _ ≤ (0 : Int); decide) | (show (1 : Int) ≤ _; decide) | (show (0 : Int) < _; decide)), (by first | exact Int.le_refl 0 | (show (0 : Int) ≤ 1; decide) | (show (0 : Int) ≤ _; decide) | (show _ ≤ (0 : Int); decide) | (show (1 : Int) ≤ _; decide) | (show (0 : Int) < _; decide))⟩
  | succ n ih =>
    intro h
    have q := ih (fun i hi => h i (by omega))
    have p := h n (by omega)
    have e : (((100 ^ (n + 1) : Nat)) : Int) = (100 ^ n : Nat) * 100 := by rw [Nat.pow_succ]; omega
    simp only [fp_sn]
    rw [e]
    omega
theorem fp_sn_e {f g : Nat → Int} : ∀ n : Nat, (∀ i : Nat, i < n → 0 ≤ f i ∧ f i ≤ 99) → (∀ i : Nat, i < n → 0 ≤ g i ∧ g i ≤ 99) → (fp_sn f n = fp_sn g n ↔ fp_eq f g n = true) := by
  intro n
  induction n with
  | zero => intro _ _; exact ⟨fun _ => rfl, fun _ => rfl⟩
  | succ n ih =>
    intro h1 h2
    have q := ih (fun i hi => h1 i (by omega)) (fun i hi => h2 i (by omega))
    have p1 := h1 n (by omega)
    have p2 := h2 n (by omega)
    simp only [fp_sn, fp_eq, Bool.and_eq_true, decide_eq_true_eq, ← q]
    omega
def fp_st (F : am_N) : Nat → Int
  | 0 => 0
  | k + 1 => bif fp_eq (fp_go F (k + 1) 5) (fp_go F k 5) (F 0 4).toNat then fp_st F k else (k : Int) + 1
theorem fp_st_b (F : am_N) : ∀ k : Nat, 0 ≤ fp_st F k ∧ fp_st F k ≤ (k : Int) := by
  intro k
  induction k with
  | zero => exact ⟨(by first | exact Int.le_refl 0 | (show (0 : Int) ≤ 1; decide) | (show (0 : Int) ≤ _; decide) | (show _ ≤ (0 : Int); decide) | (show (1 : Int) ≤ _; decide) | (show (0 : Int) < _; decide)), (by first | exact Int.le_refl 0 | (show (0 : Int) ≤ 1; decide) | (show (0 : Int) ≤ _; decide) | (show _ ≤ (0 : Int); decide) | (show (1 : Int) ≤ _; decide) | (show (0 : Int) < _; decide))⟩
  | succ k ih =>
    simp only [fp_st]
    cases fp_eq (fp_go F (k + 1) 5) (fp_go F k 5) (F 0 4).toNat
    · exact ⟨by show 0 ≤ (k : Int) + 1; omega, by show (k : Int) + 1 ≤ _; omega⟩
    · exact ⟨ih.1, by show fp_st F k ≤ _; omega⟩
def fp_stl (F : am_N) : Int := if F 0 4 = 0 then -3 else if fp_st F 60 = 60 then -9 else fp_st F 60
/-- the gap of a race as a rule -/
def fp_gp (F : am_N) : Int := fp_tf F (fp_od (fp_tf F) (F 0 4) 1).toNat - fp_tf F (fp_f F).toNat
def fp_gs (F : am_N) : Nat → Int
  | 0 => 0
  | k + 1 => fp_gs F k + fp_gp (fp_go F k)
def fp_ru2 (F : am_N) (r : Int) : am_N := fp_ct (am_up F 0 2 r)
theorem fw_ru2 {W : Int} {F : am_N} {r : Int} (h : fp_fw W F) (hr : 0 ≤ r ∧ r ≤ 4) : fp_fw W (fp_ru2 F r) := by
  refine fw_ct ?_
  obtain ⟨h0, h1, h2, h3, h4, h5, h6⟩ := h
  have e : ∀ b : Nat, b ≠ 2 → am_up F 0 2 r 0 b = F 0 b := fun b z => am_upM z
  have ea : ∀ a b : Nat, 0 < a → am_up F 0 2 r a b = F a b := fun a b z => am_upN (by omega)
  have e2 : am_up F 0 2 r 0 2 = r := if_pos ⟨rfl, rfl⟩
  unfold fp_fw
  rw [e 0 (by decide), e 1 (by decide), e2, e 3 (by decide), e 4 (by decide)]
  refine ⟨h0, h1, hr, h3, h4, fun j hj => ?_, fun j hj => ?_⟩
  · rw [ea 5 j (by decide)]; exact h5 j hj
  · rw [ea 1 j (by decide), ea 2 j (by decide), ea 3 j (by decide), ea 4 j (by decide)]; exact h6 j hj
theorem fp_gp_b {W : Int} {F : am_N} (h : fp_fw W F) (hW : W ≤ 2000) (h2 : 2 ≤ F 0 4) : -60000 ≤ fp_gp F ∧ fp_gp F ≤ 60000 := by
  have h4 := h.2.2.2.2.1
  have hc : am_fC F 0 := by
    obtain ⟨a0, a1, a2, a3, a4, a5, a6⟩ := h
    refine ⟨a4, ⟨by omega, by omega⟩, fun i hi => ?_⟩
    obtain ⟨q1, q2, q3, q4⟩ := a6 i hi
    exact ⟨⟨q3, q2, q1, by omega, by omega⟩, a5 i (by omega)⟩
  have o1 := fp_od_n (t := fp_tf F) (n := F 0 4) (p := 1) h4.2 (by decide) (by omega)
  have b1 := fp_od_b (fp_tf F) (F 0 4) 1
  have o0 : fp_f F < F 0 4 := fp_od_n (t := fp_tf F) (n := F 0 4) (p := 0) h4.2 (by decide) (by omega)
  have b0 := fp_f_b F
  have t1 := am_TC_b (i := (fp_od (fp_tf F) (F 0 4) 1).toNat) hc (by omega)
  have t0 := am_TC_b (i := (fp_f F).toNat) hc (by omega)
  have t1 : 1 ≤ fp_tf F (fp_od (fp_tf F) (F 0 4) 1).toNat ∧ fp_tf F (fp_od (fp_tf F) (F 0 4) 1).toNat ≤ 60000 := t1
  have t0 : 1 ≤ fp_tf F (fp_f F).toNat ∧ fp_tf F (fp_f F).toNat ≤ 60000 := t0
  unfold fp_gp
  omega
theorem fp_gs_b {F : am_N} (h : fp_fw 999 F) (h2 : 2 ≤ F 0 4) : ∀ k : Nat, k ≤ 60 → -(60000 * (k : Int)) ≤ fp_gs F k ∧ fp_gs F k ≤ 60000 * (k : Int) := by
  intro k
  induction k with
  | zero => intro _; exact ⟨(by first | exact Int.le_refl 0 | (show (0 : Int) ≤ 1; decide) | (show (0 : Int) ≤ _; decide) | (show _ ≤ (0 : Int); decide) | (show (1 : Int) ≤ _; decide) | (show (0 : Int) < _; decide)), (by first | exact Int.le_refl 0 | (show (0 : Int) ≤ 1; decide) | (show (0 : Int) ≤ _; decide) | (show _ ≤ (0 : Int); decide) | (show (1 : Int) ≤ _; decide) | (show (0 : Int) < _; decide))⟩
  | succ k ih =>
    intro hk
    have q := ih (by omega)
    have p := fp_gp_b (W := 999 + (k : Int)) (F := fp_go F k) (fw_go h k) (by omega) (by rw [fp_go_n]; exact h2)
    simp only [fp_gs]
    omega
def fp_bst (F : am_N) (n : Int) : Int := if n < 1 then -4 else if 60 < n then -6 else if F 0 4 < 2 then -3 else ((fq_m (fun r => fp_gs (fp_ru2 F (r : Int)) n.toNat) 4 : Nat) : Int)
theorem sx_st {ν μ : am_N} (hS : sx ν ν) (f : ∀ a b, ¬(8 ≤ a ∧ a < 22) → a ≠ 33 → a ≠ 34 → ¬(a = 29 ∧ b = 0) → μ a b = ν a b) (h34 : sx_3 μ 34) (h8 : 0 ≤ μ 8 4 ∧ μ 8 4 ≤ 4) (h15 : 0 ≤ μ 15 4 ∧ μ 15 4 ≤ 4) (h29 : 0 ≤ μ 29 0 ∧ μ 29 0 ≤ 4) : sx ν μ := by
  have p : ∀ a, sx_p a = true → ¬(8 ≤ a ∧ a < 22) ∧ a ≠ 33 ∧ a ≠ 34 ∧ a ≠ 29 := fun a ha => by
    refine ⟨fun z => ?_, fun z => ?_, fun z => ?_, fun z => ?_⟩
    · rcases (show a = 8 ∨ a = 9 ∨ a = 10 ∨ a = 11 ∨ a = 12 ∨ a = 13 ∨ a = 14 ∨ (15 ≤ a ∧ a < 22) by omega) with rfl | rfl | rfl | rfl | rfl | rfl | rfl | y
      all_goals first | cases ha | exact sx_p15 ha y
    all_goals (rw [z] at ha; cases ha)
  refine ⟨fun a b ha => f a b (p a ha).1 (p a ha).2.1 (p a ha).2.2.1 (fun z => (p a ha).2.2.2 z.1), h34, fun q hq => ?_, ⟨h8, h15, h29, ?_⟩, hS.2.2.2.2⟩
  · rw [f 43 q (by omega) (by omega) (by omega) (by omega)]; exact hS.2.2.1 q hq
  · rw [f 38 0 (by omega) (by omega) (by omega) (by omega)]; exact hS.2.2.2.1.2.2.2
theorem x_tS_15_8 {l : Launch} {ν : am_N} {Q : Option am_V → am_N → Prop} (k : ∀ μ' : am_N, (∀ a b, ¬(a = 15 ∧ b < 4) → μ' a b = ν a b) → (∀ b : Nat, b < 4 → μ' 15 b = ν 8 b) → Q none μ') : am_Does l 4 [.inr (.inr 15), .inr (.inr 8)] ν Q := by
  refine am_Does_of (Nat.le_of_ble_eq_true rfl) (Nat.le_of_ble_eq_true rfl) (Nat.le_of_ble_eq_true rfl) ?_
  refine am_go (ct := fun _ => false) am_oX0_takeSettings 300 ?_
  conv => whnf
  repeat' first
    | (refine (?_ : am_wp _ _ _ _ _ _ _ _ _ _ _ _); conv => whnf)
    | (refine (?_ : am_sw _ _ _ _); conv => whnf)
    | refine And.intro trivial ?_
    | exact trivial
    | refine k _ ?_ ?_
    | refine And.intro (fun h => absurd h (by decide)) (fun _ => ?_)
    | refine And.intro (fun _ => ?_) (fun h => absurd (by decide) h)
    | refine And.intro (fun _ => ?_) (fun _ => ?_)
    | refine And.intro ?_ ?_
  all_goals (first | decide | rfl | (intro a b h; rw [am_upS, if_neg (by omega), am_upS, if_neg (by omega), am_upS, if_neg (by omega), am_upS, if_neg (by omega)]) | (intro b hb; rcases (show b = 0 ∨ b = 1 ∨ b = 2 ∨ b = 3 by omega) with rfl | rfl | rfl | rfl <;> rfl) | (trace_state; fail))
theorem x_tR_15_8 {l : Launch} {ν : am_N} {Q : Option am_V → am_N → Prop} (i j : Int) (i0 : 0 ≤ i) (i1 : i < 4) (j0 : 0 ≤ j) (j1 : j < 4) (k : ∀ μ' : am_N, (∀ a b, ¬((15 < a ∧ a < 22) ∧ b = i.toNat) → μ' a b = ν a b) → (∀ a : Nat, 0 < a → a < 7 → μ' (15 + a) i.toNat = ν (8 + a) j.toNat) → Q none μ') : am_Does l 5 [.inr (.inr 15), .inl i, .inr (.inr 8), .inl j] ν Q := by
  refine am_Does_of (Nat.le_of_ble_eq_true rfl) (Nat.le_of_ble_eq_true rfl) (Nat.le_of_ble_eq_true rfl) ?_
  have ci : am_c i = i := am_cR (by omega) (by omega)
  have cj : am_c j = j := am_cR (by omega) (by omega)
  have c0 : am_c 0 = 0 := rfl
  have c4 : am_c 4 = 4 := rfl
  refine am_go (ct := fun _ => false) am_oX0_takeRunner 300 ?_
  conv => whnf
  repeat' first
    | (refine (?_ : am_wp _ _ _ _ _ _ _ _ _ _ _ _); conv => whnf)
    | (refine (?_ : am_sw _ _ _ _); conv => whnf)
    | refine And.intro trivial ?_
    | exact trivial
    | refine k _ ?_ ?_
    | refine And.intro (fun h => absurd h (by decide)) (fun _ => ?_)
    | refine And.intro (fun _ => ?_) (fun h => absurd (by decide) h)
    | refine And.intro (fun _ => ?_) (fun _ => ?_)
    | refine And.intro ?_ ?_
  all_goals (first | decide | omega | (simp only [ci, cj, c0, c4] at *; omega) | (intro a b h; simp only [ci]; rw [am_upS, if_neg (by omega), am_upS, if_neg (by omega), am_upS, if_neg (by omega), am_upS, if_neg (by omega), am_upS, if_neg (by omega), am_upS, if_neg (by omega)]) | (intro a h0 h1; simp only [ci, cj]; rcases (show a = 1 ∨ a = 2 ∨ a = 3 ∨ a = 4 ∨ a = 5 ∨ a = 6 by omega) with rfl | rfl | rfl | rfl | rfl | rfl <;> simp [am_up]) | (exfalso; simp only [ci, cj, c0, c4] at *; omega) | (trace_state; fail))
theorem x_take_15_8 {l : Launch} {ν : am_N} {Q : Option am_V → am_N → Prop} (k : ∀ μ' : am_N, (∀ a b, ¬(15 ≤ a ∧ a < 22) → μ' a b = ν a b) → (∀ b : Nat, b < 5 → μ' 15 b = ν 8 b) → (∀ a : Nat, 0 < a → a < 7 → ∀ b : Nat, b < 4 → μ' (15 + a) b = ν (8 + a) b) → Q none μ') : am_Does l 2 [.inr (.inr 15), .inr (.inr 8)] ν Q := by
  refine am_Does_of (Nat.le_of_ble_eq_true rfl) (Nat.le_of_ble_eq_true rfl) (Nat.le_of_ble_eq_true rfl) ?_
  have lp15 : ∀ (m : Nat) (i : Int) (μ : am_N) , (∀ a b, ¬(15 ≤ a ∧ a < 22) → μ a b = ν a b) → (∀ b : Nat, b < 5 → μ 15 b = ν 8 b) → 0 ≤ i → i ≤ 4 → (∀ a : Nat, 0 < a → a < 7 → ∀ b : Nat, (b : Int) < i → μ (15 + a) b = ν (8 + a) b) → 4 - i < (m : Int) → am_AW l 0 (fun _ => 0) 2 Q 15 [some (.inr (.inr 15)), some (.inr (.inr 8)), some (.inl i)] [] μ := by
    intro m
    induction m with
    | zero =>
      intro i μ hv0 hv1 hv2 hv3 hv4 hm
      exfalso
      omega
    | succ m ih =>
      intro i μ hv0 hv1 hv2 hv3 hv4 hm
      have ci : am_c i = i := am_cR (by omega) (by omega)
      have c4 : am_c 4 = 4 := rfl
      refine am_go (ct := fun pc => Nat.beq pc 15) am_oX0_take 300 ?_
      conv => whnf
      repeat' first
        | (refine (?_ : am_wp _ _ _ _ _ _ _ _ _ _ _ _); conv => whnf)
        | (refine (?_ : am_sw _ _ _ _); conv => whnf)
        | refine And.intro trivial ?_
        | exact trivial
        | refine x_tR_15_8 _ _ ?_ ?_ ?_ ?_ (fun _ _ _ => ?_)
        | refine k _ ?_ ?_ ?_
        | refine x_tS_15_8 (fun _ _ _ => ?_)
        | refine ih _ _ ?_ ?_ ?_ ?_ ?_ ?_
        | refine And.intro (fun h => absurd h (by decide)) (fun _ => ?_)
        | refine And.intro (fun _ => ?_) (fun h => absurd (by decide) h)
        | refine And.intro (fun _ => ?_) (fun _ => ?_)
        | refine And.intro ?_ ?_
      all_goals (first | decide | assumption | omega | (simp only [ci, c4] at *; omega) | (intro a h0 h1 b hb; exact hv4 a h0 h1 b (by simp only [ci, c4] at *; omega)) | (rename_i h1 h2; intro a b h; rw [h1 a b (by omega)]; exact hv0 a b h) | (rename_i h1 h2; intro b hb; rw [h1 _ _ (by omega)]; exact hv1 b hb) | (rename_i h1 h2; intro a h3 h4 b hb; by_cases d : (b : Int) = i; (rw [show b = i.toNat by omega, h2 a h3 h4, hv0 _ _ (by omega)]); (rw [h1 _ _ (by omega)]; exact hv4 a h3 h4 b (by omega))) | (trace_state; fail))
  have lp15' : ∀ (i : Int) (μ : am_N) , (∀ a b, ¬(15 ≤ a ∧ a < 22) → μ a b = ν a b) → (∀ b : Nat, b < 5 → μ 15 b = ν 8 b) → 0 ≤ i → i ≤ 4 → (∀ a : Nat, 0 < a → a < 7 → ∀ b : Nat, (b : Int) < i → μ (15 + a) b = ν (8 + a) b) → am_AW l 0 (fun _ => 0) 2 Q 15 [some (.inr (.inr 15)), some (.inr (.inr 8)), some (.inl i)] [] μ := fun i μ hv0 hv1 hv2 hv3 hv4 => lp15 ((4 - i) + 1).toNat i μ hv0 hv1 hv2 hv3 hv4 (by omega)
  refine am_go (ct := fun pc => Nat.beq pc 15) am_oX0_take 300 ?_
  conv => whnf
  repeat' first
    | (refine (?_ : am_wp _ _ _ _ _ _ _ _ _ _ _ _); conv => whnf)
    | (refine (?_ : am_sw _ _ _ _); conv => whnf)
    | refine And.intro trivial ?_
    | exact trivial
    | refine x_tS_15_8 (fun _ _ _ => ?_)
    | refine lp15' _ _ ?_ ?_ ?_ ?_ ?_
    | refine And.intro (fun h => absurd h (by decide)) (fun _ => ?_)
    | refine And.intro (fun _ => ?_) (fun h => absurd (by decide) h)
    | refine And.intro (fun _ => ?_) (fun _ => ?_)
    | refine And.intro ?_ ?_
  all_goals (first | decide | assumption | omega | (rename_i h1 h2; intro a b h; rw [am_upS, if_neg (by omega)]; exact h1 a b (by omega)) | (rename_i h1 h2; intro b hb; by_cases d : b = 4; (subst d; rw [am_upS, if_pos ⟨rfl, rfl⟩]; exact h1 _ _ (by omega)); (rw [am_upM d]; exact h2 b (by omega))) | (intros; omega) | (trace_state; fail))
theorem x_startsAs {l : Launch} {ν : am_N} {Q : Option am_V → am_N → Prop} (n0 : 0 ≤ ν 8 4) (n1 : ν 8 4 ≤ 4) (h8 : ∀ b : Nat, (b : Int) < ν 8 4 → 0 ≤ ν 13 b ∧ ν 13 b ≤ 99) (h15 : ∀ b : Nat, (b : Int) < ν 8 4 → 0 ≤ ν 20 b ∧ ν 20 b ≤ 99) (k1 : fp_eq (ν 13) (ν 20) (ν 8 4).toNat = true → Q (some (.inl 1)) ν) (k0 : fp_eq (ν 13) (ν 20) (ν 8 4).toNat = false → Q (some (.inl 0)) ν) : am_Does l 13 [.inr (.inr 8), .inr (.inr 15)] ν Q := by
  refine am_Does_of (Nat.le_of_ble_eq_true rfl) (Nat.le_of_ble_eq_true rfl) (Nat.le_of_ble_eq_true rfl) ?_
  have l0 : am_c 0 = 0 := rfl
  have l1 : am_c 1 = 1 := rfl
  have l2 : am_c 2 = 2 := rfl
  have l4 : am_c 4 = 4 := rfl
  have l5 : am_c 5 = 5 := rfl
  have l60 : am_c 60 = 60 := rfl
  have l100 : am_c 100 = 100 := rfl
  have cn : am_c (ν 8 4) = ν 8 4 := am_cR (by omega) (by omega)
  have q1 : (∀ i : Nat, i < (ν 8 4).toNat → ν 13 i = ν 20 i) → Q (some (.inl 1)) ν := fun h => k1 ((fp_eq_i _).2 h)
  have q0 : ∀ i : Nat, i < (ν 8 4).toNat → ν 13 i ≠ ν 20 i → Q (some (.inl 0)) ν := fun i hi h => by
    cases e : fp_eq (ν 13) (ν 20) (ν 8 4).toNat with
    | false => exact k0 e
    | true => exact absurd ((fp_eq_i _).1 e i hi) h
  have lp2 : ∀ (m : Nat) (i : Int) , 0 ≤ i → i ≤ ν 8 4 → (∀ q : Nat, (q : Int) < i → ν 13 q = ν 20 q) → ν 8 4 - i < (m : Int) → am_AW l 0 (fun _ => 0) 13 Q 2 [some (.inr (.inr 8)), some (.inr (.inr 15)), some (.inl i)] [] ν := by
    intro m
    induction m with
    | zero =>
      intro i  hv0 hv1 hv2 hm
      exfalso
      omega
    | succ m ih =>
      intro i  hv0 hv1 hv2 hm
      have ci : am_c i = i := am_cR (by omega) (by omega)
      have c13 := fun q : i < ν 8 4 => (show am_c (ν 13 (am_c i).toNat) = ν 13 i.toNat by rw [ci]; have z := h8 i.toNat (by omega); exact am_cR (by omega) (by omega))
      have c20 := fun q : i < ν 8 4 => (show am_c (ν 20 (am_c i).toNat) = ν 20 i.toNat by rw [ci]; have z := h15 i.toNat (by omega); exact am_cR (by omega) (by omega))
      refine am_go (ct := fun pc => Nat.beq pc 2) am_oX0_startsAs 300 ?_
      conv => whnf
      repeat' first
        | (refine (?_ : am_wp _ _ _ _ _ _ _ _ _ _ _ _); conv => whnf)
        | (refine (?_ : am_sw _ _ _ _); conv => whnf)
        | refine And.intro trivial ?_
        | exact trivial
        | (refine q1 (fun q hq => ?_))
        | (refine q0 i.toNat ?_ ?_)
        | refine ih _  ?_ ?_ ?_ ?_
        | refine And.intro (fun h => absurd h (by decide)) (fun _ => ?_)
        | refine And.intro (fun _ => ?_) (fun h => absurd (by decide) h)
        | refine And.intro (fun _ => ?_) (fun _ => ?_)
        | refine And.intro ?_ ?_
      all_goals (first | decide | assumption | omega | (rw [ci]; (rw [ci, cn] at *; first | done | omega)) | (simp only [ci, l4]; omega) | ((simp only [ci, cn, l4] at *; first | done | omega)) | (have hi : i < ν 8 4 := (by (simp only [ci, cn] at *; first | done | omega)); have a := c13 hi; have b := c20 hi; (simp only [a, b] at *; first | done | omega)) | (intro q hq; have hi : i < ν 8 4 := (by (simp only [ci, cn] at *; first | done | omega)); have a := c13 hi; have b := c20 hi; by_cases d : (q : Int) = i; (rw [show q = i.toNat by omega]; simp only [a, b] at *; assumption); (exact hv2 q (by omega))) | (exact hv2 q (by (simp only [ci, cn, l4] at *; first | done | omega))) | (trace_state; fail))
  have lp2' : ∀ (i : Int) , 0 ≤ i → i ≤ ν 8 4 → (∀ q : Nat, (q : Int) < i → ν 13 q = ν 20 q) → am_AW l 0 (fun _ => 0) 13 Q 2 [some (.inr (.inr 8)), some (.inr (.inr 15)), some (.inl i)] [] ν := fun i  hv0 hv1 hv2 => lp2 ((ν 8 4 - i) + 1).toNat i  hv0 hv1 hv2 (by omega)
  refine am_go (ct := fun pc => Nat.beq pc 2) am_oX0_startsAs 300 ?_
  conv => whnf
  repeat' first
    | (refine (?_ : am_wp _ _ _ _ _ _ _ _ _ _ _ _); conv => whnf)
    | (refine (?_ : am_sw _ _ _ _); conv => whnf)
    | refine And.intro trivial ?_
    | exact trivial
    | refine lp2' _  ?_ ?_ ?_
    | refine And.intro (fun h => absurd h (by decide)) (fun _ => ?_)
    | refine And.intro (fun _ => ?_) (fun h => absurd (by decide) h)
    | refine And.intro (fun _ => ?_) (fun _ => ?_)
    | refine And.intro ?_ ?_
  all_goals (first | decide | assumption | omega | (intros; omega) | (trace_state; fail))
theorem s_settles {l : Launch} {ν : am_N} {Q : Option am_V → am_N → Prop} (hS : sx ν ν) (hw : fp_fw 999 (fv ν 1)) (k : ∀ μ' : am_N, sx ν μ' → Q (some (.inl (fp_stl (fv ν 1)))) μ') : am_Does l 77 [.inr (.inr 0)] ν Q := by
  refine am_Does_of (Nat.le_of_ble_eq_true rfl) (Nat.le_of_ble_eq_true rfl) (Nat.le_of_ble_eq_true rfl) ?_
  have l0 : am_c 0 = 0 := rfl
  have l1 : am_c 1 = 1 := rfl
  have l2 : am_c 2 = 2 := rfl
  have l4 : am_c 4 = 4 := rfl
  have l5 : am_c 5 = 5 := rfl
  have l60 : am_c 60 = 60 := rfl
  have l100 : am_c 100 = 100 := rfl
  have m1' : am_c (-1) = -1 := rfl
  have m2' : am_c (-2) = -2 := rfl
  have m3' : am_c (-3) = -3 := rfl
  have m4' : am_c (-4) = -4 := rfl
  have m6' : am_c (-6) = -6 := rfl
  have m9' : am_c (-9) = -9 := rfl
  obtain ⟨hf, -, -, -, -, -, hx⟩ := fw_C hw (by decide)
  have f0 := hf.1.1
  have f1 := hf.1.2
  have e4 : fv ν 1 0 4 = ν 1 4 := fv_0 (by decide)
  have cn : am_c (ν 1 4) = ν 1 4 := am_cR (by omega) (by omega)
  have h15 := hS.2.2.2.1
  have kk := fun (x : Int) (μ' : am_N) (h : sx ν μ') (e : x = fp_stl (fv ν 1)) => am_qe (k μ' h) e
  have lp32 : ∀ (m : Nat) (x i : Int) (μ : am_N) , (∀ a b, ¬(8 ≤ a ∧ a < 22) → a ≠ 33 → a ≠ 34 → ¬(a = 29 ∧ b = 0) → μ a b = ν a b) → fv μ 8 = fp_go (fv ν 1) i.toNat → 0 ≤ i → i ≤ 60 → x = fp_st (fv ν 1) i.toNat → sx_3 μ 34 → (0 ≤ μ 15 4 ∧ μ 15 4 ≤ 4) → (0 ≤ μ 29 0 ∧ μ 29 0 ≤ 4) → 1 ≤ ν 1 4 → 60 - i < (m : Int) → am_AW l 0 (fun _ => 0) 77 Q 32 [some (.inr (.inr 0)), some (.inl x), some (.inl i)] [] μ := by
    intro m
    induction m with
    | zero =>
      intro x i μ hv0 hv1 hv2 hv3 hv4 hv5 hv6 hv7 hv8 hm
      exfalso
      omega
    | succ m ih =>
      intro x i μ hv0 hv1 hv2 hv3 hv4 hv5 hv6 hv7 hv8 hm
      have ci : am_c i = i := am_cR (by omega) (by omega)
      have n8 : μ 8 4 = ν 1 4 := by rw [← fv_0 (μ := μ) (c := 8) (b := 4) (by decide), hv1, fp_go_n]; exact fv_0 (by decide)
      have sE : sx ν μ := sx_st hS hv0 hv5 (by rw [n8]; exact ⟨f0, f1⟩) hv6 hv7
      have xb := fp_st_b (fv ν 1) i.toNat
      have cx : am_c x = x := am_cR (by omega) (by omega)
      have w8 : fp_fw 1059 (fp_go (fv ν 1) i.toNat) := fw_mono (fw_go hw i.toNat) (by omega)
      have w9 : fp_fw 1060 (fp_go (fv ν 1) (i.toNat + 1)) := fw_mono (fw_go hw (i.toNat + 1)) (by omega)
      refine am_go (ct := fun pc => Nat.beq pc 32) am_oX6_settles 300 ?_
      conv => whnf
      repeat' first
        | (refine (?_ : am_wp _ _ _ _ _ _ _ _ _ _ _ _); conv => whnf)
        | (refine (?_ : am_sw _ _ _ _); conv => whnf)
        | refine And.intro trivial ?_
        | exact trivial
        | (have i6 : i < 60 := (by (rw [ci, l60] at *; first | done | omega)); refine x_take_15_8 (fun μ1 g1 s1 r1 => ?_); have p1 : fv μ1 8 = fp_go (fv ν 1) i.toNat := (fv_keep (fun a b q1 q2 => g1 a b (by omega))).trans hv1; have m8 : μ1 8 4 = ν 1 4 := (g1 8 4 (by omega)).trans n8)
        | (refine x_goOn_29_8 1059 (by rw [p1]; exact w8) (by decide) (by rw [m8]; exact hv8) (fun p hp => by rw [g1 34 p (by omega)]; exact hv5 p hp) (fun μ2 g2 p2 b2 n2 _ _ => ?_); rw [p1] at p2; have k8 : μ2 8 4 = ν 1 4 := (g2 8 4 (by omega) (by omega) (by omega) (by omega) (by omega) (by omega)).trans m8; have e13 : ∀ b : Nat, b < 4 → μ2 13 b = fp_go (fv ν 1) (i.toNat + 1) 5 b := (fun b hb => by rw [← fv_a (μ := μ2) (c := 8) (a := 5) (by decide) (by decide) hb, p2]; rfl); have e20 : ∀ b : Nat, b < 4 → μ2 20 b = fp_go (fv ν 1) i.toNat 5 b := (fun b hb => by rw [g2 20 b (by omega) (by omega) (by omega) (by omega) (by omega) (by omega), ← hv1]; exact (r1 5 (by decide) (by decide) b hb).trans (fv_a (μ := μ) (c := 8) (a := 5) (by decide) (by decide) hb).symm); have ee : fp_eq (μ2 13) (μ2 20) (μ2 8 4).toNat = fp_eq (fp_go (fv ν 1) (i.toNat + 1) 5) (fp_go (fv ν 1) i.toNat 5) (ν 1 4).toNat := (by rw [k8]; exact Bool.eq_iff_iff.mpr ⟨fun h => (fp_eq_i _).2 (fun j hj => by rw [← e13 j (by omega), ← e20 j (by omega)]; exact (fp_eq_i _).1 h j hj), fun h => (fp_eq_i _).2 (fun j hj => by rw [e13 j (by omega), e20 j (by omega)]; exact (fp_eq_i _).1 h j hj)⟩))
        | (refine x_startsAs (by rw [k8]; exact f0) (by rw [k8]; exact f1) (fun b hb => by rw [e13 b (by omega)]; exact w9.2.2.2.2.2.1 b (by omega)) (fun b hb => by rw [e20 b (by omega)]; exact w8.2.2.2.2.2.1 b (by omega)) (fun z => ?_) (fun z => ?_) <;> rw [ee] at z)
        | refine kk _ _ sE ?_
        | refine x_refuse _ ?_ (fun μr fr => ?_)
        | (refine x_take_8_1 (fun μ1 g1 s1 r1 => ?_); have p1 : fv μ1 8 = fv ν 1 := fv_tk s1 r1)
        | refine kk _ _ (sx_78 hS fr) ?_
        | refine ih _ _ _ ?_ ?_ ?_ ?_ ?_ ?_ ?_ ?_ ?_ ?_
        | refine And.intro (fun h => absurd h (by decide)) (fun _ => ?_)
        | refine And.intro (fun _ => ?_) (fun h => absurd (by decide) h)
        | refine And.intro (fun _ => ?_) (fun _ => ?_)
        | refine And.intro ?_ ?_
      all_goals (first | decide | assumption | omega | (intro a b q1 q2 q3 q4; rw [g2 a b (by omega) (by omega) (by omega) q2 q3 q4, g1 a b (by omega)]; exact hv0 a b q1 q2 q3 q4) | (rw [show (i + 1).toNat = i.toNat + 1 by omega, p2]; rfl) | (rw [show (i + 1).toNat = i.toNat + 1 by omega]; simp only [fp_st]; rw [e4, z]; first | exact hv4 | (show _ = ((i.toNat : Nat) : Int) + 1; omega)) | (rw [g2 15 4 (by omega) (by omega) (by omega) (by omega) (by omega) (by omega), s1 4 (by decide), n8]; first | exact ⟨f0, f1⟩ | exact f0 | exact f1) | (rw [n2, m8]; first | exact ⟨f0, f1⟩ | exact f0 | exact f1) | (unfold fp_stl; rw [e4, if_neg (by omega)]; have ei : i.toNat = 60 := (by (rw [ci, l60] at *; first | done | omega)); rw [ei] at hv4; first | (rw [if_pos (by rw [← hv4]; (simp only [cx, l60] at *; first | done | omega))]) | (rw [if_neg (by rw [← hv4]; (simp only [cx, l60] at *; first | done | omega))]; exact hv4)) | (trace_state; fail))
  have lp32' : ∀ (x i : Int) (μ : am_N) , (∀ a b, ¬(8 ≤ a ∧ a < 22) → a ≠ 33 → a ≠ 34 → ¬(a = 29 ∧ b = 0) → μ a b = ν a b) → fv μ 8 = fp_go (fv ν 1) i.toNat → 0 ≤ i → i ≤ 60 → x = fp_st (fv ν 1) i.toNat → sx_3 μ 34 → (0 ≤ μ 15 4 ∧ μ 15 4 ≤ 4) → (0 ≤ μ 29 0 ∧ μ 29 0 ≤ 4) → 1 ≤ ν 1 4 → am_AW l 0 (fun _ => 0) 77 Q 32 [some (.inr (.inr 0)), some (.inl x), some (.inl i)] [] μ := fun x i μ hv0 hv1 hv2 hv3 hv4 hv5 hv6 hv7 hv8 => lp32 ((60 - i) + 1).toNat x i μ hv0 hv1 hv2 hv3 hv4 hv5 hv6 hv7 hv8 (by omega)
  refine am_go (ct := fun pc => Nat.beq pc 32) am_oX6_settles 300 ?_
  conv => whnf
  repeat' first
    | (refine (?_ : am_wp _ _ _ _ _ _ _ _ _ _ _ _); conv => whnf)
    | (refine (?_ : am_sw _ _ _ _); conv => whnf)
    | refine And.intro trivial ?_
    | exact trivial
    | refine x_refuse _ ?_ (fun μr fr => ?_)
    | (refine x_take_8_1 (fun μ1 g1 s1 r1 => ?_); have p1 : fv μ1 8 = fv ν 1 := fv_tk s1 r1)
    | refine kk _ _ (sx_78 hS fr) ?_
    | refine lp32' _ _ _ ?_ ?_ ?_ ?_ ?_ ?_ ?_ ?_ ?_
    | refine And.intro (fun h => absurd h (by decide)) (fun _ => ?_)
    | refine And.intro (fun _ => ?_) (fun h => absurd (by decide) h)
    | refine And.intro (fun _ => ?_) (fun _ => ?_)
    | refine And.intro ?_ ?_
  all_goals (first | decide | assumption | omega | rfl | ((simp only [cn, l0] at *; first | done | omega)) | (intro a b q1 q2 q3 q4; exact g1 a b (by omega)) | exact p1 | (intro p hp; rw [g1 34 p (by omega)]; exact hS.2.1 p hp) | (rw [g1 15 4 (by omega)]; first | exact h15.2.1 | exact h15.2.1.1 | exact h15.2.1.2) | (rw [g1 29 0 (by omega)]; first | exact h15.2.2.1 | exact h15.2.2.1.1 | exact h15.2.2.1.2) | (unfold fp_stl; rw [e4, if_pos (by (simp only [cn, l0] at *; first | done | omega))]) | (trace_state; fail))
theorem n_startsNumber {l : Launch} {ν : am_N} {Q : Option am_V → am_N → Prop} (n0 : 0 ≤ ν 83 14) (n1 : ν 83 14 ≤ 4) (k : Q (some (.inl (fp_sn (ν 89) (ν 83 14).toNat))) ν) : am_Does l 201 [.inr (.inr 83)] ν Q := by
  refine am_Does_of (Nat.le_of_ble_eq_true rfl) (Nat.le_of_ble_eq_true rfl) (Nat.le_of_ble_eq_true rfl) ?_
  have l0 : am_c 0 = 0 := rfl
  have l1 : am_c 1 = 1 := rfl
  have l2 : am_c 2 = 2 := rfl
  have l4 : am_c 4 = 4 := rfl
  have l5 : am_c 5 = 5 := rfl
  have l60 : am_c 60 = 60 := rfl
  have l100 : am_c 100 = 100 := rfl
  have cn : am_c (ν 83 14) = ν 83 14 := am_cR (by omega) (by omega)
  have lp4 : ∀ (m : Nat) (x i : Int) , 0 ≤ i → i ≤ ν 83 14 → x = fp_sn (ν 89) i.toNat → ν 83 14 - i < (m : Int) → am_AW l 0 (fun _ => 0) 201 Q 4 [some (.inr (.inr 83)), some (.inl x), some (.inl i)] [] ν := by
    intro m
    induction m with
    | zero =>
      intro x i  hv0 hv1 hv2 hm
      exfalso
      omega
    | succ m ih =>
      intro x i  hv0 hv1 hv2 hm
      have ci : am_c i = i := am_cR (by omega) (by omega)
      refine am_go (ct := fun pc => Nat.beq pc 4) am_oX7_startsNumber 300 ?_
      conv => whnf
      repeat' first
        | (refine (?_ : am_wp _ _ _ _ _ _ _ _ _ _ _ _); conv => whnf)
        | (refine (?_ : am_sw _ _ _ _); conv => whnf)
        | refine And.intro trivial ?_
        | exact trivial
        | refine am_qe k ?_
        | refine ih _ _  ?_ ?_ ?_ ?_
        | refine And.intro (fun h => absurd h (by decide)) (fun _ => ?_)
        | refine And.intro (fun _ => ?_) (fun h => absurd (by decide) h)
        | refine And.intro (fun _ => ?_) (fun _ => ?_)
        | refine And.intro ?_ ?_
      all_goals (first | decide | assumption | omega | (rw [ci]; (rw [ci, cn] at *; first | done | omega)) | (rw [show (i + 1).toNat = i.toNat + 1 by omega, ci, hv2]; rfl) | (rw [hv2, show i.toNat = (ν 83 14).toNat by (rw [ci, cn] at *; first | done | omega)]) | (trace_state; fail))
  have lp4' : ∀ (x i : Int) , 0 ≤ i → i ≤ ν 83 14 → x = fp_sn (ν 89) i.toNat → am_AW l 0 (fun _ => 0) 201 Q 4 [some (.inr (.inr 83)), some (.inl x), some (.inl i)] [] ν := fun x i  hv0 hv1 hv2 => lp4 ((ν 83 14 - i) + 1).toNat x i  hv0 hv1 hv2 (by omega)
  refine am_go (ct := fun pc => Nat.beq pc 4) am_oX7_startsNumber 300 ?_
  conv => whnf
  repeat' first
    | (refine (?_ : am_wp _ _ _ _ _ _ _ _ _ _ _ _); conv => whnf)
    | (refine (?_ : am_sw _ _ _ _); conv => whnf)
    | refine And.intro trivial ?_
    | exact trivial
    | refine lp4' _ _  ?_ ?_ ?_
    | refine And.intro (fun h => absurd h (by decide)) (fun _ => ?_)
    | refine And.intro (fun _ => ?_) (fun h => absurd (by decide) h)
    | refine And.intro (fun _ => ?_) (fun _ => ?_)
    | refine And.intro ?_ ?_
  all_goals (first | decide | assumption | omega | rfl | (trace_state; fail))
theorem n_settles {l : Launch} {ν : am_N} {Q : Option am_V → am_N → Prop} (hm : mi ν) (hw : fp_fw 999 (mv ν)) (k : ∀ μ' : am_N, gm mQ ν μ' → Q (some (.inl (fp_stl (mv ν)))) μ') : am_Does l 202 [.inr (.inr 83)] ν Q := by
  refine am_Does_of (Nat.le_of_ble_eq_true rfl) (Nat.le_of_ble_eq_true rfl) (Nat.le_of_ble_eq_true rfl) ?_
  have l0 : am_c 0 = 0 := rfl
  have l1 : am_c 1 = 1 := rfl
  have l2 : am_c 2 = 2 := rfl
  have l4 : am_c 4 = 4 := rfl
  have l5 : am_c 5 = 5 := rfl
  have l60 : am_c 60 = 60 := rfl
  have l100 : am_c 100 = 100 := rfl
  have m1' : am_c (-1) = -1 := rfl
  have m2' : am_c (-2) = -2 := rfl
  have m3' : am_c (-3) = -3 := rfl
  have m4' : am_c (-4) = -4 := rfl
  have m6' : am_c (-6) = -6 := rfl
  have m9' : am_c (-9) = -9 := rfl
  obtain ⟨hf, -, -, -, -, -, hx⟩ := fw_M hw (by decide)
  have f0 := hf.1.1
  have f1 := hf.1.2
  have e4 : mv ν 0 4 = ν 83 14 := rfl
  have cn : am_c (ν 83 14) = ν 83 14 := am_cR (by omega) (by omega)
  have kk := fun (x : Int) (μ' : am_N) (h : gm mQ ν μ') (e : x = fp_stl (mv ν)) => am_qe (k μ' h) e
  have lp24 : ∀ (m : Nat) (x i : Int) (o3 : Option am_V) (μ : am_N) , MD mQ ν μ → mv μ = fp_go (mv ν) i.toNat → 0 ≤ i → i ≤ 60 → x = fp_st (mv ν) i.toNat → 1 ≤ ν 83 14 → 60 - i < (m : Int) → am_AW l 0 (fun _ => 0) 202 Q 24 [some (.inr (.inr 83)), some (.inl x), some (.inl i), o3] [] μ := by
    intro m
    induction m with
    | zero =>
      intro x i o3 μ hv0 hv1 hv2 hv3 hv4 hv5 hm
      exfalso
      omega
    | succ m ih =>
      intro x i o3 μ hv0 hv1 hv2 hv3 hv4 hv5 hm
      have ci : am_c i = i := am_cR (by omega) (by omega)
      have hmi := md_i hv0
      have n8 : μ 83 14 = ν 83 14 := by rw [← mv_n (μ := μ), hv1, fp_go_n]; rfl
      have xb := fp_st_b (mv ν) i.toNat
      have cx : am_c x = x := am_cR (by omega) (by omega)
      have w8 : fp_fw 1059 (fp_go (mv ν) i.toNat) := fw_mono (fw_go hw i.toNat) (by omega)
      have w9 : fp_fw 1060 (fp_go (mv ν) (i.toNat + 1)) := fw_mono (fw_go hw (i.toNat + 1)) (by omega)
      have s8 := fun j : Nat => fun q : j < 4 => w8.2.2.2.2.2.1 j q
      have s9 := fun j : Nat => fun q : j < 4 => w9.2.2.2.2.2.1 j q
      have p4 : ((100 ^ (ν 83 14).toNat : Nat) : Int) ≤ 100000000 := by
        rcases (show (ν 83 14).toNat = 0 ∨ (ν 83 14).toNat = 1 ∨ (ν 83 14).toNat = 2 ∨ (ν 83 14).toNat = 3 ∨ (ν 83 14).toNat = 4 by omega) with z | z | z | z | z <;> rw [z] <;> decide
      have b8 := fp_sn_b (f := fp_go (mv ν) i.toNat 5) (ν 83 14).toNat (fun j hj => s8 j (by omega))
      have b9 := fp_sn_b (f := fp_go (mv ν) (i.toNat + 1) 5) (ν 83 14).toNat (fun j hj => s9 j (by omega))
      have q8 : am_c (fp_sn (fp_go (mv ν) i.toNat 5) (ν 83 14).toNat) = fp_sn (fp_go (mv ν) i.toNat 5) (ν 83 14).toNat := am_cR (by omega) (by omega)
      have q9 : am_c (fp_sn (fp_go (mv ν) (i.toNat + 1) 5) (ν 83 14).toNat) = fp_sn (fp_go (mv ν) (i.toNat + 1) 5) (ν 83 14).toNat := am_cR (by omega) (by omega)
      have qe := fp_sn_e (f := fp_go (mv ν) (i.toNat + 1) 5) (g := fp_go (mv ν) i.toNat 5) (ν 83 14).toNat (fun j hj => s9 j (by omega)) (fun j hj => s8 j (by omega))
      have se : ∀ (μ : am_N) (G : am_N), mv μ = G → ∀ n : Nat, n ≤ 4 → fp_sn (μ 89) n = fp_sn (G 5) n := fun μ G hG n => by
        induction n with
        | zero => intro _; rfl
        | succ n ih => intro hn; simp only [fp_sn]; rw [ih (by omega), ← hG, mv_5 (by omega)]
      refine am_go (ct := fun pc => Nat.beq pc 24) am_oX7_settles 300 ?_
      conv => whnf
      repeat' first
        | (refine (?_ : am_wp _ _ _ _ _ _ _ _ _ _ _ _); conv => whnf)
        | (refine (?_ : am_sw _ _ _ _); conv => whnf)
        | refine And.intro trivial ?_
        | exact trivial
        | (have _q := g2; refine n_startsNumber (by rw [n9]; exact f0) (by rw [n9]; exact f1) ?_; rw [n9, se μ2 _ p2 _ (by omega)])
        | (have i6 : i < 60 := (by (rw [ci, l60] at *; first | done | omega)); refine n_startsNumber (by rw [n8]; exact f0) (by rw [n8]; exact f1) ?_; rw [n8, se μ _ hv1 _ (by omega)])
        | (refine x_runs 1059 (by rw [hv1]; exact w8) (by decide) (by rw [n8]; exact hv5) (fun p hp => mi_or hmi p hp) (fun μ2 g2 p2 b2 _ _ => ?_); rw [hv1] at p2; have p2 : mv μ2 = fp_go (mv ν) (i.toNat + 1) := p2; have n9 : μ2 83 14 = ν 83 14 := (g2 83 14 (by omega) (by omega) (by omega) (by omega) (by omega)).trans n8)
        | (refine m_come1 (fun μ3 u1 _ _ _ => ?_); have hG : gm mQ ν μ3 := md_back hv0 u1 (fun _ _ q => q))
        | refine kk _ _ hG ?_
        | refine x_no _ ?_ (fun μr fr => ?_)
        | (refine m_keep1 (fun μ1 u1 _ _ _ => ?_); have hD : MD mQ ν μ1 := md_start (gm_rf hm) u1; have p1 : mv μ1 = mv ν := mv_keep (fun a b q => u1.2 a b (by omega) (by omega)))
        | refine kk _ _ (gm_84 (fun _ => rfl) hm fr) ?_
        | refine ih _ _ _ _ ?_ ?_ ?_ ?_ ?_ ?_ ?_
        | refine And.intro (fun h => absurd h (by decide)) (fun _ => ?_)
        | refine And.intro (fun _ => ?_) (fun h => absurd (by decide) h)
        | refine And.intro (fun _ => ?_) (fun _ => ?_)
        | refine And.intro ?_ ?_
      all_goals (first | decide | assumption | omega | exact md_tr hv0 (gm_runs hmi g2 b2) (fun _ _ q => q) | (rw [show (i + 1).toNat = i.toNat + 1 by omega]; exact p2) | (rw [show (i + 1).toNat = i.toNat + 1 by omega]; simp only [fp_st]; rw [e4]; first | (rw [qe.1 (by (simp only [q8, q9] at *; first | done | omega))]; exact hv4) | (rw [show fp_eq (fp_go (mv ν) (i.toNat + 1) 5) (fp_go (mv ν) i.toNat 5) (ν 83 14).toNat = false from Bool.eq_false_iff.mpr (fun z => by have y := qe.2 z; (simp only [q8, q9] at *; first | done | omega))]; show _ = ((i.toNat : Nat) : Int) + 1; omega)) | (unfold fp_stl; rw [e4, if_neg (by omega)]; have ei : i.toNat = 60 := (by (rw [ci, l60] at *; first | done | omega)); rw [ei] at hv4; first | (rw [if_pos (by rw [← hv4]; (simp only [cx, l60] at *; first | done | omega))]) | (rw [if_neg (by rw [← hv4]; (simp only [cx, l60] at *; first | done | omega))]; exact hv4)) | (trace_state; fail))
  have lp24' : ∀ (x i : Int) (o3 : Option am_V) (μ : am_N) , MD mQ ν μ → mv μ = fp_go (mv ν) i.toNat → 0 ≤ i → i ≤ 60 → x = fp_st (mv ν) i.toNat → 1 ≤ ν 83 14 → am_AW l 0 (fun _ => 0) 202 Q 24 [some (.inr (.inr 83)), some (.inl x), some (.inl i), o3] [] μ := fun x i o3 μ hv0 hv1 hv2 hv3 hv4 hv5 => lp24 ((60 - i) + 1).toNat x i o3 μ hv0 hv1 hv2 hv3 hv4 hv5 (by omega)
  refine am_go (ct := fun pc => Nat.beq pc 24) am_oX7_settles 300 ?_
  conv => whnf
  repeat' first
    | (refine (?_ : am_wp _ _ _ _ _ _ _ _ _ _ _ _); conv => whnf)
    | (refine (?_ : am_sw _ _ _ _); conv => whnf)
    | refine And.intro trivial ?_
    | exact trivial
    | refine x_no _ ?_ (fun μr fr => ?_)
    | (refine m_keep1 (fun μ1 u1 _ _ _ => ?_); have hD : MD mQ ν μ1 := md_start (gm_rf hm) u1; have p1 : mv μ1 = mv ν := mv_keep (fun a b q => u1.2 a b (by omega) (by omega)))
    | refine kk _ _ (gm_84 (fun _ => rfl) hm fr) ?_
    | refine lp24' _ _ _ _ ?_ ?_ ?_ ?_ ?_ ?_
    | refine And.intro (fun h => absurd h (by decide)) (fun _ => ?_)
    | refine And.intro (fun _ => ?_) (fun h => absurd (by decide) h)
    | refine And.intro (fun _ => ?_) (fun _ => ?_)
    | refine And.intro ?_ ?_
  all_goals (first | decide | assumption | omega | rfl | exact hD | exact p1 | ((simp only [cn, l0] at *; first | done | omega)) | (unfold fp_stl; rw [e4, if_pos (by (simp only [cn, l0] at *; first | done | omega))]) | (trace_state; fail))
theorem x_gap {l : Launch} {ν : am_N} {Q : Option am_V → am_N → Prop} (P S : Int) (hP : ν 34 0 = P) (hS : ν 34 1 = S) (P0 : 0 ≤ P) (P1 : P < 4) (S0 : 0 ≤ S) (S1 : S < 4) (h2 : 2 ≤ ν 29 0) (h4 : ν 29 0 ≤ 4) (k : Q (some (.inl (ν 33 S.toNat - ν 33 P.toNat))) ν) : am_Does l 39 [.inr (.inr 29)] ν Q := by
  refine am_Does_of (Nat.le_of_ble_eq_true rfl) (Nat.le_of_ble_eq_true rfl) (Nat.le_of_ble_eq_true rfl) ?_
  have l0 : am_c 0 = 0 := rfl
  have l1 : am_c 1 = 1 := rfl
  have l2 : am_c 2 = 2 := rfl
  have l4 : am_c 4 = 4 := rfl
  have l5 : am_c 5 = 5 := rfl
  have l60 : am_c 60 = 60 := rfl
  have l100 : am_c 100 = 100 := rfl
  have cn : am_c (ν 29 0) = ν 29 0 := am_cR (by omega) (by omega)
  have w0 : ν 34 (am_c 0).toNat = P := hP
  have w1 : ν 34 (am_c 1).toNat = S := hS
  have cP : am_c P = P := am_cR (by omega) (by omega)
  have cS : am_c S = S := am_cR (by omega) (by omega)
  refine am_go (ct := fun _ => false) am_oX2_gap 300 ?_
  conv => whnf
  repeat' first
    | (refine (?_ : am_wp _ _ _ _ _ _ _ _ _ _ _ _); conv => whnf)
    | (refine (?_ : am_sw _ _ _ _); conv => whnf)
    | refine And.intro trivial ?_
    | exact trivial
    | refine am_qe k ?_
    | refine And.intro (fun h => absurd h (by decide)) (fun _ => ?_)
    | refine And.intro (fun _ => ?_) (fun h => absurd (by decide) h)
    | refine And.intro (fun _ => ?_) (fun _ => ?_)
    | refine And.intro ?_ ?_
  all_goals (first | decide | omega | ((simp only [cn, l1] at *; first | done | omega)) | (rw [w1, cS]; omega) | (rw [w0, cP]; omega) | (rw [w0, w1, cP, cS]) | (trace_state; fail))
theorem n_gap {l : Launch} {ν : am_N} {Q : Option am_V → am_N → Prop} (P S : Int) (hP : ν 100 0 = P) (hS : ν 100 1 = S) (P0 : 0 ≤ P) (P1 : P < 4) (S0 : 0 ≤ S) (S1 : S < 4) (k : Q (some (.inl (ν 99 S.toNat - ν 99 P.toNat))) ν) : am_Does l 189 [.inr (.inr 83)] ν Q := by
  refine am_Does_of (Nat.le_of_ble_eq_true rfl) (Nat.le_of_ble_eq_true rfl) (Nat.le_of_ble_eq_true rfl) ?_
  have l0 : am_c 0 = 0 := rfl
  have l1 : am_c 1 = 1 := rfl
  have l2 : am_c 2 = 2 := rfl
  have l4 : am_c 4 = 4 := rfl
  have l5 : am_c 5 = 5 := rfl
  have l60 : am_c 60 = 60 := rfl
  have l100 : am_c 100 = 100 := rfl
  have w0 : ν 100 (am_c 0).toNat = P := hP
  have w1 : ν 100 (am_c 1).toNat = S := hS
  have cP : am_c P = P := am_cR (by omega) (by omega)
  have cS : am_c S = S := am_cR (by omega) (by omega)
  refine am_go (ct := fun _ => false) am_oX7_gap 300 ?_
  conv => whnf
  repeat' first
    | (refine (?_ : am_wp _ _ _ _ _ _ _ _ _ _ _ _); conv => whnf)
    | (refine (?_ : am_sw _ _ _ _); conv => whnf)
    | refine And.intro trivial ?_
    | exact trivial
    | refine am_qe k ?_
    | refine And.intro (fun h => absurd h (by decide)) (fun _ => ?_)
    | refine And.intro (fun _ => ?_) (fun h => absurd (by decide) h)
    | refine And.intro (fun _ => ?_) (fun _ => ?_)
    | refine And.intro ?_ ?_
  all_goals (first | decide | omega | (rw [w1, cS]; omega) | (rw [w0, cP]; omega) | (rw [w0, w1, cP, cS]) | (trace_state; fail))
theorem s_gaps {l : Launch} {ν : am_N} {Q : Option am_V → am_N → Prop} (n : Int) (cn : am_c n = n) (hw : fp_fw 999 (fv ν 8)) (n0 : 0 ≤ n) (n1 : n ≤ 60) (h2 : 2 ≤ ν 8 4) (hp : sx_3 ν 34) (hb : 0 ≤ ν 29 0 ∧ ν 29 0 ≤ 4) (k : ∀ μ' : am_N, (∀ a b, ¬(8 ≤ a ∧ a < 15) → a ≠ 33 → a ≠ 34 → ¬(a = 29 ∧ b = 0) → μ' a b = ν a b) → μ' 8 4 = ν 8 4 → sx_3 μ' 34 → (0 ≤ μ' 29 0 ∧ μ' 29 0 ≤ 4) → Q (some (.inl (fp_gs (fv ν 8) n.toNat))) μ') : am_Does l 127 [.inr (.inr 0), .inl n, .inl 0] ν Q := by
  refine am_Does_of (Nat.le_of_ble_eq_true rfl) (Nat.le_of_ble_eq_true rfl) (Nat.le_of_ble_eq_true rfl) ?_
  have l0 : am_c 0 = 0 := rfl
  have l1 : am_c 1 = 1 := rfl
  have l2 : am_c 2 = 2 := rfl
  have l4 : am_c 4 = 4 := rfl
  have l5 : am_c 5 = 5 := rfl
  have l60 : am_c 60 = 60 := rfl
  have l100 : am_c 100 = 100 := rfl
  have h4 := (fw_C hw (by decide)).1.1
  have kk := fun (x : Int) (μ' : am_N) a1 a2 a3 a4 (e : x = fp_gs (fv ν 8) n.toNat) => am_qe (k μ' a1 a2 a3 a4) e
  have lp5 : ∀ (m : Nat) (w i : Int) (μ : am_N) , (∀ a b, ¬(8 ≤ a ∧ a < 15) → a ≠ 33 → a ≠ 34 → ¬(a = 29 ∧ b = 0) → μ a b = ν a b) → fv μ 8 = fp_go (fv ν 8) i.toNat → 0 ≤ i → i ≤ n → w = fp_gs (fv ν 8) i.toNat → sx_3 μ 34 → (0 ≤ μ 29 0 ∧ μ 29 0 ≤ 4) → n - i < (m : Int) → am_AW l 0 (fun _ => 0) 127 Q 5 [some (.inr (.inr 0)), some (.inl n), some (.inl 0), some (.inl w), some (.inl i)] [] μ := by
    intro m
    induction m with
    | zero =>
      intro w i μ hv0 hv1 hv2 hv3 hv4 hv5 hv6 hm
      exfalso
      omega
    | succ m ih =>
      intro w i μ hv0 hv1 hv2 hv3 hv4 hv5 hv6 hm
      have ci : am_c i = i := am_cR (by omega) (by omega)
      have h8 : fp_fw 1059 (fv μ 8) := by rw [hv1]; exact fw_mono (fw_go hw i.toNat) (by omega)
      have n8 : μ 8 4 = ν 8 4 := by rw [← fv_0 (μ := μ) (c := 8) (b := 4) (by decide), hv1, fp_go_n]; exact fv_0 (by decide)
      have b0 := fp_f_b (fv μ 8)
      have b1 := fp_od_b (fp_tf (fv μ 8)) (μ 8 4) 1
      have o0 : fp_f (fv μ 8) < μ 8 4 := by rw [← fv_f (by omega)]; exact fp_od_n (by omega) (by decide) (by omega)
      have o1 : fp_od (fp_tf (fv μ 8)) (μ 8 4) 1 < μ 8 4 := fp_od_n (by omega) (by decide) (by omega)
      have eF : fp_od (fp_tf (fv μ 8)) (μ 8 4) 0 = fp_f (fv μ 8) := by unfold fp_f; rw [fv_0 (by decide)]
      refine am_go (ct := fun pc => Nat.beq pc 5) am_oX6_gaps 300 ?_
      conv => whnf
      repeat' first
        | (refine (?_ : am_wp _ _ _ _ _ _ _ _ _ _ _ _); conv => whnf)
        | (refine (?_ : am_sw _ _ _ _); conv => whnf)
        | refine And.intro trivial ?_
        | exact trivial
        | (refine x_goOn_29_8 1059 h8 (by decide) (by omega) hv5 (fun μ2 g2 p2 b2 n2 y34 y33 => ?_))
        | (refine x_gap (fp_f (fv μ 8)) (fp_od (fp_tf (fv μ 8)) (μ 8 4) 1) ((y34 0 (by omega)).trans eF) (y34 1 (by omega)) (by omega) (by omega) (by omega) (by omega) (by rw [n2]; omega) (by rw [n2]; omega) ?_; rw [y33 _ (by omega), y33 _ (by omega)])
        | refine kk _ _ hv0 n8 hv5 hv6 ?_
        | refine ih _ _ _ ?_ ?_ ?_ ?_ ?_ ?_ ?_ ?_
        | refine And.intro (fun h => absurd h (by decide)) (fun _ => ?_)
        | refine And.intro (fun _ => ?_) (fun h => absurd (by decide) h)
        | refine And.intro (fun _ => ?_) (fun _ => ?_)
        | refine And.intro ?_ ?_
      all_goals (first | decide | assumption | omega | (intro a b q1 q2 q3 q4; rw [g2 a b (by omega) (by omega) (by omega) q2 q3 q4]; exact hv0 a b q1 q2 q3 q4) | (rw [show (i + 1).toNat = i.toNat + 1 by omega, p2, hv1]; rfl) | (rw [show (i + 1).toNat = i.toNat + 1 by omega, hv4]; show _ = fp_gs (fv ν 8) i.toNat + fp_gp (fp_go (fv ν 8) i.toNat); rw [← hv1]; unfold fp_gp; rw [fv_0 (by decide)]) | (rw [n2, n8]; omega) | (rw [hv4, show i.toNat = n.toNat by (simp only [ci, cn] at *; first | done | omega)]) | (trace_state; fail))
  have lp5' : ∀ (w i : Int) (μ : am_N) , (∀ a b, ¬(8 ≤ a ∧ a < 15) → a ≠ 33 → a ≠ 34 → ¬(a = 29 ∧ b = 0) → μ a b = ν a b) → fv μ 8 = fp_go (fv ν 8) i.toNat → 0 ≤ i → i ≤ n → w = fp_gs (fv ν 8) i.toNat → sx_3 μ 34 → (0 ≤ μ 29 0 ∧ μ 29 0 ≤ 4) → am_AW l 0 (fun _ => 0) 127 Q 5 [some (.inr (.inr 0)), some (.inl n), some (.inl 0), some (.inl w), some (.inl i)] [] μ := fun w i μ hv0 hv1 hv2 hv3 hv4 hv5 hv6 => lp5 ((n - i) + 1).toNat w i μ hv0 hv1 hv2 hv3 hv4 hv5 hv6 (by omega)
  refine am_go (ct := fun pc => Nat.beq pc 5) am_oX6_gaps 300 ?_
  conv => whnf
  repeat' first
    | (refine (?_ : am_wp _ _ _ _ _ _ _ _ _ _ _ _); conv => whnf)
    | (refine (?_ : am_sw _ _ _ _); conv => whnf)
    | refine And.intro trivial ?_
    | exact trivial
    | refine lp5' _ _ _ ?_ ?_ ?_ ?_ ?_ ?_ ?_
    | refine And.intro (fun h => absurd h (by decide)) (fun _ => ?_)
    | refine And.intro (fun _ => ?_) (fun h => absurd (by decide) h)
    | refine And.intro (fun _ => ?_) (fun _ => ?_)
    | refine And.intro ?_ ?_
  all_goals (first | decide | assumption | omega | rfl | (intros; rfl) | (trace_state; fail))
theorem s_best {l : Launch} {ν : am_N} {Q : Option am_V → am_N → Prop} (n : Int) (cn2 : am_c n = n) (hS : sx ν ν) (hw : fp_fw 999 (fv ν 1)) (k : ∀ μ' : am_N, sx ν μ' → Q (some (.inl (fp_bst (fv ν 1) n))) μ') : am_Does l 78 [.inr (.inr 0), .inl n] ν Q := by
  refine am_Does_of (Nat.le_of_ble_eq_true rfl) (Nat.le_of_ble_eq_true rfl) (Nat.le_of_ble_eq_true rfl) ?_
  have l0 : am_c 0 = 0 := rfl
  have l1 : am_c 1 = 1 := rfl
  have l2 : am_c 2 = 2 := rfl
  have l4 : am_c 4 = 4 := rfl
  have l5 : am_c 5 = 5 := rfl
  have l60 : am_c 60 = 60 := rfl
  have l100 : am_c 100 = 100 := rfl
  have m1' : am_c (-1) = -1 := rfl
  have m2' : am_c (-2) = -2 := rfl
  have m3' : am_c (-3) = -3 := rfl
  have m4' : am_c (-4) = -4 := rfl
  have m6' : am_c (-6) = -6 := rfl
  have m9' : am_c (-9) = -9 := rfl
  obtain ⟨hf, -, -, -, -, -, hx⟩ := fw_C hw (by decide)
  have f0 := hf.1.1
  have f1 := hf.1.2
  have e4 : fv ν 1 0 4 = ν 1 4 := fv_0 (by decide)
  have cn : am_c (ν 1 4) = ν 1 4 := am_cR (by omega) (by omega)
  have h15 := hS.2.2.2.1
  have kk := fun (x : Int) (μ' : am_N) (h : sx ν μ') (e : x = fp_bst (fv ν 1) n) => am_qe (k μ' h) e
  have lp50 : ∀ (m : Nat) (t y s : Int) (o5 : Option am_V) (μ : am_N) , (∀ a b, ¬(8 ≤ a ∧ a < 15) → a ≠ 33 → a ≠ 34 → ¬(a = 29 ∧ b = 0) → μ a b = ν a b) → 0 ≤ s → s ≤ 5 → 2 ≤ ν 1 4 → (1 ≤ n ∧ n ≤ 60) → (s = 0 ∧ t = 0 ∧ y = 0) ∨ (1 ≤ s ∧ t = ((fq_m (fun r : Nat => fp_gs (fp_ru2 (fv ν 1) (r : Int)) n.toNat) (s.toNat - 1) : Nat) : Int) ∧ y = fp_gs (fp_ru2 (fv ν 1) ((fq_m (fun r : Nat => fp_gs (fp_ru2 (fv ν 1) (r : Int)) n.toNat) (s.toNat - 1) : Nat) : Int)) n.toNat) → sx_3 μ 34 → (0 ≤ μ 29 0 ∧ μ 29 0 ≤ 4) → (0 ≤ μ 8 4 ∧ μ 8 4 ≤ 4) → 5 - s < (m : Int) → am_AW l 0 (fun _ => 0) 78 Q 50 [some (.inr (.inr 0)), some (.inl n), some (.inl t), some (.inl y), some (.inl s), o5] [] μ := by
    intro m
    induction m with
    | zero =>
      intro t y s o5 μ hv0 hv1 hv2 hv3 hv4 hv5 hv6 hv7 hv8 hm
      exfalso
      omega
    | succ m ih =>
      intro t y s o5 μ hv0 hv1 hv2 hv3 hv4 hv5 hv6 hv7 hv8 hm
      have cs : am_c s = s := am_cR (by omega) (by omega)
      have sE : sx ν μ := sx_lt hS (fun a b q1 q2 q3 q4 _ => hv0 a b q1 q2 q3 q4) hv6 hv8 hv7
      have eF : fv μ 1 = (fv ν 1) := fv_keep (fun a b q1 q2 => hv0 a b (by omega) (by omega) (by omega) (by omega))
      have e14 : μ 1 4 = ν 1 4 := hv0 1 4 (by omega) (by omega) (by omega) (by omega)
      have g4 : ∀ v : Int, fp_ru2 (fv ν 1) v 0 4 = ν 1 4 := fun v => e4
      have tl := fq_m_l (fun r : Nat => fp_gs (fp_ru2 (fv ν 1) (r : Int)) n.toNat) (s.toNat - 1)
      have us := fun q : s ≤ 4 => fp_gs_b (fw_ru2 hw (r := s) ⟨hv1, q⟩) (by rw [g4]; exact hv3) n.toNat (by omega)
      have uy := fp_gs_b (fw_ru2 hw (r := ((fq_m (fun r : Nat => fp_gs (fp_ru2 (fv ν 1) (r : Int)) n.toNat) (s.toNat - 1) : Nat) : Int)) ⟨by omega, by omega⟩) (by rw [g4]; exact hv3) n.toNat (by omega)
      have cy : am_c y = y := am_cR (by omega) (by omega)
      have cu := fun q : s ≤ 4 => (show am_c (fp_gs (fp_ru2 (fv ν 1) s) n.toNat) = fp_gs (fp_ru2 (fv ν 1) s) n.toNat from am_cR (by have z := us q; omega) (by have z := us q; omega))
      have es : ((s.toNat : Nat) : Int) = s := Int.toNat_of_nonneg hv1
      refine am_go (ct := fun pc => Nat.beq pc 50) am_oX6_best 300 ?_
      conv => whnf
      repeat' first
        | (refine (?_ : am_wp _ _ _ _ _ _ _ _ _ _ _ _); conv => whnf)
        | (refine (?_ : am_sw _ _ _ _); conv => whnf)
        | refine And.intro trivial ?_
        | exact trivial
        | (have s4 : s ≤ 4 := (by (rw [cs, l4] at *; first | done | omega)); have cu := cu s4; refine x_take_8_1 (fun μ1 g1 s1 r1 => ?_); have p1 : fv μ1 8 = fv ν 1 := (fv_tk s1 r1).trans eF; have p2 : fv (am_up μ1 8 2 s) 8 = fp_ru2 (fv ν 1) s := (by rw [show fv (am_up μ1 8 2 s) 8 = fp_ct (am_up (fv μ1 8) 0 2 s) from fv_up0, p1]; rfl); have m8 : am_up μ1 8 2 s 8 4 = ν 1 4 := ((am_upM (by decide)).trans (s1 4 (by decide))).trans e14)
        | (have fr8 : ∀ a b, ¬(8 ≤ a ∧ a < 15) → am_up μ1 8 2 s a b = μ1 a b := (fun a b q => am_upN (by omega)); refine s_gaps n cn2 (by rw [p2]; exact fw_ru2 hw ⟨hv1, s4⟩) (by omega) hv4.2 (by rw [m8]; exact hv3) (fun p hp => by rw [am_upN (by decide), g1 34 p (by omega)]; exact hv6 p hp) (by rw [am_upN (by decide), g1 29 0 (by omega)]; exact hv7) (fun μ2 g2 n2 b2 z2 => ?_); rw [p2])
        | refine kk _ _ sE ?_
        | refine x_refuse _ ?_ (fun μr fr => ?_)
        | refine kk _ _ (sx_78 hS fr) ?_
        | refine ih _ _ _ _ _ ?_ ?_ ?_ ?_ ?_ ?_ ?_ ?_ ?_ ?_
        | refine And.intro (fun h => absurd h (by decide)) (fun _ => ?_)
        | refine And.intro (fun _ => ?_) (fun h => absurd (by decide) h)
        | refine And.intro (fun _ => ?_) (fun _ => ?_)
        | refine And.intro ?_ ?_
      all_goals (first | decide | assumption | omega | (intro a b q1 q2 q3 q4; exact (g2 a b q1 q2 q3 q4).trans ((fr8 a b q1).trans ((g1 a b q1).trans (hv0 a b q1 q2 q3 q4)))) | (rw [n2, m8]; first | exact ⟨f0, f1⟩ | exact f0 | exact f1) | (refine Or.inr ⟨by omega, ?_⟩; rcases hv5 with ⟨z1, z2, z3⟩ | ⟨z1, z2, z3⟩; (first | (exfalso; omega) | (subst z1; exact ⟨rfl, rfl⟩)); (rw [fq_m_s z1]; simp only [es]; first | (rw [if_pos (by rw [← z3]; (simp only [cu, cy] at *; first | done | omega))]; exact ⟨es.symm, by rw [es]⟩) | (rw [if_neg (by rw [← z3]; (simp only [cu, cy] at *; first | done | omega))]; exact ⟨z2, z3⟩) | (exfalso; (simp only [cs, l0] at *; first | done | omega)))) | (have x := hv5.resolve_left (by (simp only [cs, l4] at *; first | done | omega)); (unfold fp_bst; rw [e4, if_neg (by omega), if_neg (by omega), if_neg (by omega), x.2.1, show s.toNat - 1 = 4 by (simp only [cs, l4, l5] at *; first | done | omega)])) | (trace_state; fail))
  have lp50' : ∀ (t y s : Int) (o5 : Option am_V) (μ : am_N) , (∀ a b, ¬(8 ≤ a ∧ a < 15) → a ≠ 33 → a ≠ 34 → ¬(a = 29 ∧ b = 0) → μ a b = ν a b) → 0 ≤ s → s ≤ 5 → 2 ≤ ν 1 4 → (1 ≤ n ∧ n ≤ 60) → (s = 0 ∧ t = 0 ∧ y = 0) ∨ (1 ≤ s ∧ t = ((fq_m (fun r : Nat => fp_gs (fp_ru2 (fv ν 1) (r : Int)) n.toNat) (s.toNat - 1) : Nat) : Int) ∧ y = fp_gs (fp_ru2 (fv ν 1) ((fq_m (fun r : Nat => fp_gs (fp_ru2 (fv ν 1) (r : Int)) n.toNat) (s.toNat - 1) : Nat) : Int)) n.toNat) → sx_3 μ 34 → (0 ≤ μ 29 0 ∧ μ 29 0 ≤ 4) → (0 ≤ μ 8 4 ∧ μ 8 4 ≤ 4) → am_AW l 0 (fun _ => 0) 78 Q 50 [some (.inr (.inr 0)), some (.inl n), some (.inl t), some (.inl y), some (.inl s), o5] [] μ := fun t y s o5 μ hv0 hv1 hv2 hv3 hv4 hv5 hv6 hv7 hv8 => lp50 ((5 - s) + 1).toNat t y s o5 μ hv0 hv1 hv2 hv3 hv4 hv5 hv6 hv7 hv8 (by omega)
  refine am_go (ct := fun pc => Nat.beq pc 50) am_oX6_best 300 ?_
  conv => whnf
  repeat' first
    | (refine (?_ : am_wp _ _ _ _ _ _ _ _ _ _ _ _); conv => whnf)
    | (refine (?_ : am_sw _ _ _ _); conv => whnf)
    | refine And.intro trivial ?_
    | exact trivial
    | refine x_refuse _ ?_ (fun μr fr => ?_)
    | refine kk _ _ (sx_78 hS fr) ?_
    | refine lp50' _ _ _ _ _ ?_ ?_ ?_ ?_ ?_ ?_ ?_ ?_ ?_
    | refine And.intro (fun h => absurd h (by decide)) (fun _ => ?_)
    | refine And.intro (fun _ => ?_) (fun h => absurd (by decide) h)
    | refine And.intro (fun _ => ?_) (fun _ => ?_)
    | refine And.intro ?_ ?_
  all_goals (first | decide | assumption | omega | ((simp only [cn, cn2, l1, l2, l60] at *; first | done | omega)) | rfl | (intros; rfl) | exact hS.2.1 | exact h15.1 | exact h15.1.1 | exact h15.1.2 | exact h15.2.2.1 | exact h15.2.2.1.1 | exact h15.2.2.1.2 | exact Or.inl ⟨rfl, rfl, rfl⟩ | (unfold fp_bst; rw [if_pos (by (simp only [cn2, l1] at *; first | done | omega))]) | (unfold fp_bst; rw [if_neg (by (simp only [cn2, l1] at *; first | done | omega)), if_pos (by (simp only [cn2, l60] at *; first | done | omega))]) | (unfold fp_bst; rw [e4, if_neg (by (simp only [cn2, l1] at *; first | done | omega)), if_neg (by (simp only [cn2, l60] at *; first | done | omega)), if_pos (by (simp only [cn, l2] at *; first | done | omega))]) | (trace_state; fail))
theorem n_gapsBy {l : Launch} {ν : am_N} {Q : Option am_V → am_N → Prop} (r n : Int) (cn : am_c n = n) (hm : mi ν) (hw : fp_fw 999 (mv ν)) (r0 : 0 ≤ r) (r1 : r ≤ 4) (n0 : 0 ≤ n) (n1 : n ≤ 60) (h2 : 2 ≤ ν 83 14) (k : ∀ μ' : am_N, gm mQ ν μ' → Q (some (.inl (fp_gs (fp_ru2 (mv ν) r) n.toNat))) μ') : am_Does l 203 [.inr (.inr 83), .inl r, .inl n] ν Q := by
  refine am_Does_of (Nat.le_of_ble_eq_true rfl) (Nat.le_of_ble_eq_true rfl) (Nat.le_of_ble_eq_true rfl) ?_
  have l0 : am_c 0 = 0 := rfl
  have l1 : am_c 1 = 1 := rfl
  have l2 : am_c 2 = 2 := rfl
  have l4 : am_c 4 = 4 := rfl
  have l5 : am_c 5 = 5 := rfl
  have l60 : am_c 60 = 60 := rfl
  have l100 : am_c 100 = 100 := rfl
  have h4 := (fw_M hw (by decide)).1.1
  have hwr := fw_ru2 hw (r := r) ⟨r0, r1⟩
  have kk := fun (x : Int) (μ' : am_N) a1 (e : x = fp_gs (fp_ru2 (mv ν) r) n.toNat) => am_qe (k μ' a1) e
  have lp16 : ∀ (m : Nat) (w i : Int) (μ : am_N) , MD mQ ν μ → mv μ = fp_go (fp_ru2 (mv ν) r) i.toNat → 0 ≤ i → i ≤ n → w = fp_gs (fp_ru2 (mv ν) r) i.toNat → n - i < (m : Int) → am_AW l 0 (fun _ => 0) 203 Q 16 [some (.inr (.inr 83)), some (.inl r), some (.inl n), some (.inl w), some (.inl i)] [] μ := by
    intro m
    induction m with
    | zero =>
      intro w i μ hv0 hv1 hv2 hv3 hv4 hm
      exfalso
      omega
    | succ m ih =>
      intro w i μ hv0 hv1 hv2 hv3 hv4 hm
      have ci : am_c i = i := am_cR (by omega) (by omega)
      have hmi := md_i hv0
      have h8 : fp_fw 1059 (mv μ) := by rw [hv1]; exact fw_mono (fw_go hwr i.toNat) (by omega)
      have n8 : μ 83 14 = ν 83 14 := by rw [← mv_n (μ := μ), hv1, fp_go_n]; rfl
      obtain ⟨hf8, hr8, hy8, hs8, -, -, -⟩ := fw_M h8 (by decide)
      have hn8 := hf8.1.2
      have b0 := fp_f_b (mv μ)
      have b1 := fp_od_b (fp_tf (mv μ)) (μ 83 14) 1
      have gb := fp_g_b (mv μ)
      have o0 : fp_f (mv μ) < μ 83 14 := by rw [← mv_f hn8]; exact fp_od_n hn8 (by decide) (by omega)
      have o1 : fp_od (fp_tf (mv μ)) (μ 83 14) 1 < μ 83 14 := fp_od_n hn8 (by decide) (by omega)
      have og : fp_g (mv μ) < μ 83 14 := by rw [← mv_g hn8]; exact fp_od_n hn8 (by omega) (by omega)
      refine am_go (ct := fun pc => Nat.beq pc 16) am_oX7_gapsBy 300 ?_
      conv => whnf
      repeat' first
        | (refine (?_ : am_wp _ _ _ _ _ _ _ _ _ _ _ _); conv => whnf)
        | (refine (?_ : am_sw _ _ _ _); conv => whnf)
        | refine And.intro trivial ?_
        | exact trivial
        | (refine x_takesTimes hf8 (fun μ1 f1 y2 t1 z1 => ?_); have w0 : μ1 100 0 = fp_f (mv μ) := (fp_od_o hn8 y2 0 (by omega)).trans (mv_f hn8); have w1 : μ1 100 1 = fp_od (fp_tf (mv μ)) (μ 83 14) 1 := (fp_od_o hn8 y2 1 (by omega)).trans (fp_od_t hn8 (fun i hi => mv_T hi)); have k4 : μ1 83 14 = μ 83 14 := f1 83 14 (by decide) (by decide); have wg : μ1 100 (μ1 83 14 - 1).toNat = fp_g (mv μ) := (by rw [k4, fp_od_o hn8 y2 _ (by omega), show (((μ 83 14 - 1).toNat : Nat) : Int) = μ 83 14 - 1 by omega]; exact mv_g hn8))
        | (refine n_gap (fp_f (mv μ)) (fp_od (fp_tf (mv μ)) (μ 83 14) 1) w0 w1 (by omega) (by omega) (by omega) (by omega) ?_; rw [t1 _ (by omega), t1 _ (by omega), mv_T (by omega), mv_T (by omega)])
        | (refine x_mends (fp_f (mv μ)) (fp_g (mv μ)) w0 wg (by omega) (by rw [k4]; exact o0) (by omega) (by rw [k4]; exact og) (by rw [k4]; exact hn8) (by rw [f1 83 12 (by decide) (by decide)]; exact hr8) (by rw [f1 83 13 (by decide) (by decide)]; exact hy8) (fun b hb => by rw [f1 89 b (by decide) (by decide)]; exact hs8 b hb) (fun μ2 f2 s2 v2 k2 => ?_); have p2 : mv μ2 = fp_rn (mv μ) := mv_rn (fun b hb => by rw [v2 b, f1 90 b (by decide) (by decide)]) (fun b hb => by rw [s2, f1 83 12 (by decide) (by decide), f1 83 13 (by decide) (by decide), k4, show μ1 89 = μ 89 from funext (fun b => f1 89 b (by decide) (by decide))]) (by rw [k2, f1 83 11 (by decide) (by decide)]) (fun b hb => by rw [f2 83 b (by decide) (by decide) (by omega)]; exact f1 83 b (by decide) (by decide)) (fun a b q1 q2 => by rw [f2 a b (by omega) (by omega) (by omega)]; exact f1 a b (by omega) (by omega)); have hG2 : gm mM μ μ2 := gm_runs hmi (fun a b q1 q2 q3 q4 q5 => (f2 a b q1 q2 q3).trans (f1 a b q4 q5)) (fun p hp => by rw [f2 100 p (by decide) (by decide) (by omega)]; exact z1 (fun p hp => mi_or hmi p hp) p hp))
        | (refine m_come1 (fun μ3 u1 _ _ _ => ?_); have hG : gm mQ ν μ3 := md_back hv0 u1 (fun _ _ q => q))
        | refine kk _ _ hG ?_
        | (refine m_keep1 (fun μ1 u1 _ _ _ => ?_); have hD : MD mQ ν (am_up μ1 83 12 r) := md_up (md_start (gm_rf hm) u1) rfl rfl; have p1 : mv (am_up μ1 83 12 r) = fp_ru2 (mv ν) r := (by rw [show mv ν = mv μ1 from (mv_keep (fun a b q => u1.2 a b (by omega) (by omega))).symm]; refine fp_ct_e (fun b hb => ?_) (fun a b q1 q2 hb => ?_); (by_cases d : b = 2; (subst d; rfl); (rw [am_upM d, mv_0 hb]; exact am_upM (by omega))); (rw [am_upN (by omega)]; obtain ⟨a, rfl⟩ : ∃ y, a = y + 1 := ⟨a - 1, by omega⟩; rw [mv_a (by omega) hb]; exact am_upN (by omega))))
        | refine ih _ _ _ ?_ ?_ ?_ ?_ ?_ ?_
        | refine And.intro (fun h => absurd h (by decide)) (fun _ => ?_)
        | refine And.intro (fun _ => ?_) (fun h => absurd (by decide) h)
        | refine And.intro (fun _ => ?_) (fun _ => ?_)
        | refine And.intro ?_ ?_
      all_goals (first | decide | assumption | omega | exact md_tr hv0 hG2 (fun _ _ q => q) | (rw [show (i + 1).toNat = i.toNat + 1 by omega, p2, hv1]; rfl) | (rw [show (i + 1).toNat = i.toNat + 1 by omega, hv4]; show _ = fp_gs (fp_ru2 (mv ν) r) i.toNat + fp_gp (fp_go (fp_ru2 (mv ν) r) i.toNat); rw [← hv1]; rfl) | (rw [hv4, show i.toNat = n.toNat by (simp only [ci, cn] at *; first | done | omega)]) | (trace_state; fail))
  have lp16' : ∀ (w i : Int) (μ : am_N) , MD mQ ν μ → mv μ = fp_go (fp_ru2 (mv ν) r) i.toNat → 0 ≤ i → i ≤ n → w = fp_gs (fp_ru2 (mv ν) r) i.toNat → am_AW l 0 (fun _ => 0) 203 Q 16 [some (.inr (.inr 83)), some (.inl r), some (.inl n), some (.inl w), some (.inl i)] [] μ := fun w i μ hv0 hv1 hv2 hv3 hv4 => lp16 ((n - i) + 1).toNat w i μ hv0 hv1 hv2 hv3 hv4 (by omega)
  refine am_go (ct := fun pc => Nat.beq pc 16) am_oX7_gapsBy 300 ?_
  conv => whnf
  repeat' first
    | (refine (?_ : am_wp _ _ _ _ _ _ _ _ _ _ _ _); conv => whnf)
    | (refine (?_ : am_sw _ _ _ _); conv => whnf)
    | refine And.intro trivial ?_
    | exact trivial
    | (refine m_keep1 (fun μ1 u1 _ _ _ => ?_); have hD : MD mQ ν (am_up μ1 83 12 r) := md_up (md_start (gm_rf hm) u1) rfl rfl; have p1 : mv (am_up μ1 83 12 r) = fp_ru2 (mv ν) r := (by rw [show mv ν = mv μ1 from (mv_keep (fun a b q => u1.2 a b (by omega) (by omega))).symm]; refine fp_ct_e (fun b hb => ?_) (fun a b q1 q2 hb => ?_); (by_cases d : b = 2; (subst d; rfl); (rw [am_upM d, mv_0 hb]; exact am_upM (by omega))); (rw [am_upN (by omega)]; obtain ⟨a, rfl⟩ : ∃ y, a = y + 1 := ⟨a - 1, by omega⟩; rw [mv_a (by omega) hb]; exact am_upN (by omega))))
    | refine lp16' _ _ _ ?_ ?_ ?_ ?_ ?_
    | refine And.intro (fun h => absurd h (by decide)) (fun _ => ?_)
    | refine And.intro (fun _ => ?_) (fun h => absurd (by decide) h)
    | refine And.intro (fun _ => ?_) (fun _ => ?_)
    | refine And.intro ?_ ?_
  all_goals (first | decide | assumption | omega | exact hD | exact p1 | rfl | (trace_state; fail))
theorem n_best {l : Launch} {ν : am_N} {Q : Option am_V → am_N → Prop} (n : Int) (cn2 : am_c n = n) (hm : mi ν) (hw : fp_fw 999 (mv ν)) (k : ∀ μ' : am_N, gm mQ ν μ' → Q (some (.inl (fp_bst (mv ν) n))) μ') : am_Does l 204 [.inr (.inr 83), .inl n] ν Q := by
  refine am_Does_of (Nat.le_of_ble_eq_true rfl) (Nat.le_of_ble_eq_true rfl) (Nat.le_of_ble_eq_true rfl) ?_
  have l0 : am_c 0 = 0 := rfl
  have l1 : am_c 1 = 1 := rfl
  have l2 : am_c 2 = 2 := rfl
  have l4 : am_c 4 = 4 := rfl
  have l5 : am_c 5 = 5 := rfl
  have l60 : am_c 60 = 60 := rfl
  have l100 : am_c 100 = 100 := rfl
  have m1' : am_c (-1) = -1 := rfl
  have m2' : am_c (-2) = -2 := rfl
  have m3' : am_c (-3) = -3 := rfl
  have m4' : am_c (-4) = -4 := rfl
  have m6' : am_c (-6) = -6 := rfl
  have m9' : am_c (-9) = -9 := rfl
  obtain ⟨hf, -, -, -, -, -, hx⟩ := fw_M hw (by decide)
  have f0 := hf.1.1
  have f1 := hf.1.2
  have e4 : mv ν 0 4 = ν 83 14 := rfl
  have cn : am_c (ν 83 14) = ν 83 14 := am_cR (by omega) (by omega)
  have kk := fun (x : Int) (μ' : am_N) (h : gm mQ ν μ') (e : x = fp_bst (mv ν) n) => am_qe (k μ' h) e
  have lp38 : ∀ (m : Nat) (y t s : Int) (μ : am_N) , gm mQ ν μ → 1 ≤ s → s ≤ 5 → t = ((fq_m (fun r : Nat => fp_gs (fp_ru2 (mv ν) (r : Int)) n.toNat) (s.toNat - 1) : Nat) : Int) → 2 ≤ ν 83 14 → (1 ≤ n ∧ n ≤ 60) → 5 - s < (m : Int) → am_AW l 0 (fun _ => 0) 204 Q 38 [some (.inr (.inr 83)), some (.inl n), some (.inl y), some (.inl t), some (.inl s)] [] μ := by
    intro m
    induction m with
    | zero =>
      intro y t s μ hv0 hv1 hv2 hv3 hv4 hv5 hm
      exfalso
      omega
    | succ m ih =>
      intro y t s μ hv0 hv1 hv2 hv3 hv4 hv5 hm
      have cs : am_c s = s := am_cR (by omega) (by omega)
      have eF : mv μ = (mv ν) := mv_mQ hv0.2
      have e14 : μ 83 14 = ν 83 14 := hv0.2 83 14 rfl
      have tl := fq_m_l (fun r : Nat => fp_gs (fp_ru2 (mv ν) (r : Int)) n.toNat) (s.toNat - 1)
      have g4 : ∀ v : Int, fp_ru2 (mv ν) v 0 4 = ν 83 14 := fun v => e4
      have us := fun q : s ≤ 4 => fp_gs_b (fw_ru2 hw (r := s) ⟨by omega, q⟩) (by rw [g4]; exact hv4) n.toNat (by omega)
      have ut := fp_gs_b (fw_ru2 hw (r := t) ⟨by omega, by omega⟩) (by rw [g4]; exact hv4) n.toNat (by omega)
      have ct : am_c (fp_gs (fp_ru2 (mv ν) t) n.toNat) = fp_gs (fp_ru2 (mv ν) t) n.toNat := am_cR (by omega) (by omega)
      have cu := fun q : s ≤ 4 => (show am_c (fp_gs (fp_ru2 (mv ν) s) n.toNat) = fp_gs (fp_ru2 (mv ν) s) n.toNat from am_cR (by have z := us q; omega) (by have z := us q; omega))
      have es : ((s.toNat : Nat) : Int) = s := Int.toNat_of_nonneg (by omega)
      refine am_go (ct := fun pc => Nat.beq pc 38) am_oX7_best 300 ?_
      conv => whnf
      repeat' first
        | (refine (?_ : am_wp _ _ _ _ _ _ _ _ _ _ _ _); conv => whnf)
        | (refine (?_ : am_sw _ _ _ _); conv => whnf)
        | refine And.intro trivial ?_
        | exact trivial
        | (refine (?_ : gm _ _ _); (first | decide | assumption | omega | (rw [fq_m_s hv1]; simp only [es]; rw [← hv3]; first | (rw [if_pos (by (simp only [cu, ct] at *; first | done | omega))]; exact es.symm) | (rw [if_neg (by (simp only [cu, ct] at *; first | done | omega))]; exact hv3)) | (unfold fp_bst; rw [e4, if_neg (by omega), if_neg (by omega), if_neg (by omega), hv3, show s.toNat - 1 = 4 by (simp only [cs, l4, l5] at *; first | done | omega)]) | (trace_state; fail)))
        | (have _q := h1; have eF1 : mv μ1 = mv ν := (mv_mQ h1.2).trans eF; have e24 : μ1 83 14 = ν 83 14 := (h1.2 83 14 rfl).trans e14; refine n_gapsBy t n cn2 h1.1 (by rw [eF1]; exact hw) (by omega) (by omega) (by omega) hv5.2 (by rw [e24]; exact hv4) (fun μ2 h2 => ?_); rw [eF1]; have h02 : gm mQ ν μ2 := gm_tr (gm_tr hv0 h1 (fun _ _ q => q)) h2 (fun _ _ q => q))
        | (have s4 : s ≤ 4 := (by (simp only [cs, l5] at *; first | done | omega)); have cu := cu s4; refine n_gapsBy s n cn2 hv0.1 (by rw [eF]; exact hw) (by omega) s4 (by omega) hv5.2 (by rw [e14]; exact hv4) (fun μ1 h1 => ?_); rw [eF])
        | refine kk _ _ hv0 ?_
        | refine x_bound _ _ _ ?_ ?_ ?_ (fun _ => ?_) (fun _ => ?_) (fun _ _ => ?_)
        | refine x_no _ ?_ (fun μr fr => ?_)
        | refine kk _ _ (gm_84 (fun _ => rfl) hm fr) ?_
        | refine And.intro (fun h => absurd h (by omega)) (fun _ => ?_)
        | refine And.intro (fun _ => ?_) (fun h => absurd h (by omega))
        | refine ih _ _ _ _ ?_ ?_ ?_ ?_ ?_ ?_ ?_
        | refine And.intro (fun h => absurd h (by decide)) (fun _ => ?_)
        | refine And.intro (fun _ => ?_) (fun h => absurd (by decide) h)
        | refine And.intro (fun _ => ?_) (fun _ => ?_)
        | refine And.intro ?_ ?_
      all_goals (first | decide | assumption | omega | (rw [fq_m_s hv1]; simp only [es]; rw [← hv3]; first | (rw [if_pos (by (simp only [cu, ct] at *; first | done | omega))]; exact es.symm) | (rw [if_neg (by (simp only [cu, ct] at *; first | done | omega))]; exact hv3)) | (unfold fp_bst; rw [e4, if_neg (by omega), if_neg (by omega), if_neg (by omega), hv3, show s.toNat - 1 = 4 by (simp only [cs, l4, l5] at *; first | done | omega)]) | (trace_state; fail))
  have lp38' : ∀ (y t s : Int) (μ : am_N) , gm mQ ν μ → 1 ≤ s → s ≤ 5 → t = ((fq_m (fun r : Nat => fp_gs (fp_ru2 (mv ν) (r : Int)) n.toNat) (s.toNat - 1) : Nat) : Int) → 2 ≤ ν 83 14 → (1 ≤ n ∧ n ≤ 60) → am_AW l 0 (fun _ => 0) 204 Q 38 [some (.inr (.inr 83)), some (.inl n), some (.inl y), some (.inl t), some (.inl s)] [] μ := fun y t s μ hv0 hv1 hv2 hv3 hv4 hv5 => lp38 ((5 - s) + 1).toNat y t s μ hv0 hv1 hv2 hv3 hv4 hv5 (by omega)
  refine am_go (ct := fun pc => Nat.beq pc 38) am_oX7_best 300 ?_
  conv => whnf
  repeat' first
    | (refine (?_ : am_wp _ _ _ _ _ _ _ _ _ _ _ _); conv => whnf)
    | (refine (?_ : am_sw _ _ _ _); conv => whnf)
    | refine And.intro trivial ?_
    | exact trivial
    | (refine (?_ : gm _ _ _); (first | decide | assumption | omega | ((simp only [cn, cn2, l1, l2, l60] at *; first | done | omega)) | rfl | exact gm_rf hm | (unfold fp_bst; rw [if_pos (by (simp only [cn2, l1] at *; first | done | omega))]) | (unfold fp_bst; rw [if_neg (by (simp only [cn2, l1] at *; first | done | omega)), if_pos (by (simp only [cn2, l60] at *; first | done | omega))]) | (unfold fp_bst; rw [e4, if_neg (by (simp only [cn2, l1] at *; first | done | omega)), if_neg (by (simp only [cn2, l60] at *; first | done | omega)), if_pos (by (simp only [cn, l2] at *; first | done | omega))]) | (trace_state; fail)))
    | refine x_bound _ _ _ ?_ ?_ ?_ (fun _ => ?_) (fun _ => ?_) (fun _ _ => ?_)
    | refine x_no _ ?_ (fun μr fr => ?_)
    | refine kk _ _ (gm_84 (fun _ => rfl) hm fr) ?_
    | refine And.intro (fun h => absurd h (by omega)) (fun _ => ?_)
    | refine And.intro (fun _ => ?_) (fun h => absurd h (by omega))
    | refine lp38' _ _ _ _ ?_ ?_ ?_ ?_ ?_ ?_
    | refine And.intro (fun h => absurd h (by decide)) (fun _ => ?_)
    | refine And.intro (fun _ => ?_) (fun h => absurd (by decide) h)
    | refine And.intro (fun _ => ?_) (fun _ => ?_)
    | refine And.intro ?_ ?_
  all_goals (first | decide | assumption | omega | ((simp only [cn, cn2, l1, l2, l60] at *; first | done | omega)) | rfl | exact gm_rf hm | (unfold fp_bst; rw [if_pos (by (simp only [cn2, l1] at *; first | done | omega))]) | (unfold fp_bst; rw [if_neg (by (simp only [cn2, l1] at *; first | done | omega)), if_pos (by (simp only [cn2, l60] at *; first | done | omega))]) | (unfold fp_bst; rw [e4, if_neg (by (simp only [cn2, l1] at *; first | done | omega)), if_neg (by (simp only [cn2, l60] at *; first | done | omega)), if_pos (by (simp only [cn, l2] at *; first | done | omega))]) | (trace_state; fail))
