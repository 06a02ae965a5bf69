/-! two alone: in how many of sixteen the one is ahead -/
/-- what one takes by a part: time t, spread s -/
def fp_pt (t s : Int) (q : Nat) : Int := if q = 0 then (if t - s < 1 then 1 else t - s) else if q = 3 then t + s else t
/-- in how many quarters v or more -/
def fp_qu (L M H v : Int) : Int := if v ≤ L then 4 else if v ≤ M then 3 else if v ≤ H then 1 else 0
theorem fp_pt_b {t s : Int} {q : Nat} (t0 : 1 ≤ t) (t1 : t ≤ 100000) (s0 : 0 ≤ s) (s1 : s ≤ 20) : 1 ≤ fp_pt t s q ∧ fp_pt t s q ≤ 100020 := by
  unfold fp_pt
  (repeat' split) <;> omega
theorem fp_pt_0 (t s : Int) : fp_pt t s 0 = if t - s < 1 then 1 else t - s := rfl
theorem fp_qu_b (L M H v : Int) : 0 ≤ fp_qu L M H v ∧ fp_qu L M H v ≤ 4 := by
  unfold fp_qu
  (repeat' split) <;> omega
/-- the product over the others -/
def fp_wa (L M H : Nat → Int) (i : Nat) (t : Int) : Nat → Int
  | 0 => 1
  | j + 1 => if j = i then fp_wa L M H i t j else fp_wa L M H i t j * fp_qu (L j) (M j) (H j) (if j < i then t + 1 else t)
def fp_wy (L M H : Nat → Int) (n i : Nat) : Int := fp_wa L M H i (L i) n + 2 * fp_wa L M H i (M i) n + fp_wa L M H i (H i) n
/-- a field's numbers hang on its own cells -/
theorem am_fC_ch {μ ν : am_N} {c : Nat} (h : ∀ a b, c ≤ a → a < c + 7 → μ a b = ν a b) : (am_fC ν c → am_fC μ c) ∧ ∀ i, am_TC μ c i = am_TC ν c i := by
  constructor
  · intro q
    unfold am_fC at q ⊢
    rw [h c 4 (by omega) (by omega), h c 0 (by omega) (by omega), h c 1 (by omega) (by omega)]
    refine ⟨q.1, q.2.1, fun i hi => ?_⟩
    rw [h (c + 3) i (by omega) (by omega), h (c + 2) i (by omega) (by omega), h (c + 1) i (by omega) (by omega), h (c + 5) i (by omega) (by omega)]
    exact q.2.2 i hi
  · intro i
    unfold am_TC
    rw [h c 0 (by omega) (by omega), h c 1 (by omega) (by omega), h (c + 3) i (by omega) (by omega), h (c + 2) i (by omega) (by omega), h (c + 1) i (by omega) (by omega), h (c + 5) i (by omega) (by omega)]
theorem sx_p15 {a : Nat} (h : sx_p a = true) : ¬(15 ≤ a ∧ a < 22) := fun z => by
  rcases (show a = 15 ∨ a = 16 ∨ a = 17 ∨ a = 18 ∨ a = 19 ∨ a = 20 ∨ a = 21 by omega) with rfl | rfl | rfl | rfl | rfl | rfl | rfl <;> cases h
theorem sx_p30 {a : Nat} (h : sx_p a = true) : ¬(29 ≤ a ∧ a ≤ 34) := fun z => by
  rcases (show a = 29 ∨ a = 30 ∨ a = 31 ∨ a = 32 ∨ a = 33 ∨ a = 34 by omega) with rfl | rfl | rfl | rfl | rfl | rfl <;> cases h
theorem sx_ad {ν μ : am_N} (hS : sx ν ν) (f : ∀ a b, ¬(15 ≤ a ∧ a < 22) → ¬(30 ≤ a ∧ a ≤ 32) → ¬(a = 29 ∧ b = 0) → a ≠ 78 → μ a b = ν a b) (h15 : 0 ≤ μ 15 4 ∧ μ 15 4 ≤ 4) (h29 : 0 ≤ μ 29 0 ∧ μ 29 0 ≤ 4) : sx ν μ := by
  refine ⟨fun a b ha => f a b (sx_p15 ha) (fun z => sx_p30 ha (by omega)) (fun z => sx_p30 ha (by omega)) (fun z => by rw [z] at ha; cases ha), fun p hp => ?_, fun p hp => ?_, ⟨?_, h15, h29, ?_⟩, hS.2.2.2.2⟩
  · rw [f 34 p (by omega) (by omega) (by omega) (by omega)]; exact hS.2.1 p hp
  · rw [f 43 p (by omega) (by omega) (by omega) (by omega)]; exact hS.2.2.1 p hp
  · rw [f 8 4 (by omega) (by omega) (by omega) (by omega)]; exact hS.2.2.2.1.1
  · rw [f 38 0 (by omega) (by omega) (by omega) (by omega)]; exact hS.2.2.2.1.2.2.2
theorem sx_78 {ν μ : am_N} (hS : sx ν ν) (f : ∀ a b, a ≠ 78 → μ a b = ν a b) : sx ν μ := sx_ad hS (fun a b _ _ _ h => f a b h) (by rw [f 15 4 (by decide)]; exact hS.2.2.2.1.2.1) (by rw [f 29 0 (by decide)]; exact hS.2.2.2.1.2.2.1)
theorem mi_84 {ν μ : am_N} (h : mi ν) (f : ∀ a b, a ≠ 84 → μ a b = ν a b) : gm ms ν μ := by
  refine ⟨?_, fun a b q => f a b (fun z => by rw [z] at q; cases q)⟩
  unfold mi at h ⊢
  rw [f 83 14 (by decide), f 83 15 (by decide), f 83 16 (by decide), f 83 21 (by decide), f 83 33 (by decide), f 83 40 (by decide), f 83 42 (by decide), f 98 44 (by decide), f 98 38 (by decide), f 98 39 (by decide)]
  refine ⟨h.1, h.2.1, h.2.2.1, h.2.2.2.1, h.2.2.2.2.1, h.2.2.2.2.2.1, h.2.2.2.2.2.2.1, h.2.2.2.2.2.2.2.1, h.2.2.2.2.2.2.2.2.1, h.2.2.2.2.2.2.2.2.2.1, fun p hp => ?_⟩
  rw [f 100 p (by decide)]
  exact h.2.2.2.2.2.2.2.2.2.2 p hp
theorem x_put {l : Launch} {ν : am_N} {Q : Option am_V → am_N → Prop} (i t s : Int) (i0 : 0 ≤ i) (i1 : i < 4) (t0 : 1 ≤ t) (t1 : t ≤ 100000) (s0 : 0 ≤ s) (s1 : s ≤ 20) (k : ∀ μ' : am_N, (∀ a b, ¬(30 ≤ a ∧ a ≤ 32 ∧ b = i.toNat) → μ' a b = ν a b) → μ' 30 i.toNat = fp_pt t s 0 → μ' 31 i.toNat = t → μ' 32 i.toNat = t + s → Q none μ') : am_Does l 22 [.inr (.inr 29), .inl i, .inl t, .inl s] ν Q := by
  refine am_Does_of (Nat.le_of_ble_eq_true rfl) (Nat.le_of_ble_eq_true rfl) (Nat.le_of_ble_eq_true rfl) ?_
  have l0 : am_c 0 = 0 := rfl
  have l1 : am_c 1 = 1 := rfl
  have l2 : am_c 2 = 2 := rfl
  have l3 : am_c 3 = 3 := rfl
  have l4 : am_c 4 = 4 := rfl
  have l16 : am_c 16 = 16 := rfl
  have ci : am_c i = i := am_cR (by omega) (by omega)
  have ct : am_c (t - s) = t - s := am_cR (by omega) (by omega)
  refine am_go (ct := fun _ => false) am_oX2_put 300 ?_
  conv => whnf
  repeat' first
    | (refine (?_ : am_wp _ _ _ _ _ _ _ _ _ _ _ _); conv => whnf)
    | (refine (?_ : am_sw _ _ _ _); conv => whnf)
    | refine And.intro trivial ?_
    | exact trivial
    | ((with_reducible refine (?_ : _ ∧ _)); refine And.intro (fun z => absurd z (by rw [ci]; omega)) (fun _ => ?_))
    | ((with_reducible refine (?_ : _ ∧ _)); refine And.intro (fun _ => ?_) (fun z => absurd z (by rw [ci]; omega)))
    | refine k _ ?_ ?_ ?_ ?_
    | refine And.intro (fun h => absurd h (by decide)) (fun _ => ?_)
    | refine And.intro (fun _ => ?_) (fun h => absurd (by decide) h)
    | refine And.intro (fun _ => ?_) (fun _ => ?_)
    | refine And.intro ?_ ?_
  all_goals (first | decide | omega | (rw [ci]; omega) | (intro a b h; simp only [ci]; rw [am_upS, if_neg (by omega), am_upS, if_neg (by omega), am_upS, if_neg (by omega)]) | (simp only [ci]; rw [am_upN (by decide), am_upN (by decide), am_upS, if_pos ⟨rfl, rfl⟩, fp_pt_0, l1, ct]; (repeat' split) <;> omega) | (simp only [ci]; rw [am_upN (by decide), am_upS, if_pos ⟨rfl, rfl⟩]) | (simp only [ci]; rw [am_upS, if_pos ⟨rfl, rfl⟩]) | (trace_state; fail))
theorem x_quarters {l : Launch} {ν : am_N} {Q : Option am_V → am_N → Prop} (j t : Int) (j0 : 0 ≤ j) (j1 : j < 4) (ct : am_c t = t) (cL : am_c (ν 30 j.toNat) = ν 30 j.toNat) (cM : am_c (ν 31 j.toNat) = ν 31 j.toNat) (cH : am_c (ν 32 j.toNat) = ν 32 j.toNat) (k : Q (some (.inl (fp_qu (ν 30 j.toNat) (ν 31 j.toNat) (ν 32 j.toNat) t))) ν) : am_Does l 26 [.inr (.inr 29), .inl j, .inl t] ν Q := by
  refine am_Does_of (Nat.le_of_ble_eq_true rfl) (Nat.le_of_ble_eq_true rfl) (Nat.le_of_ble_eq_true rfl) ?_
  have cj : am_c j = j := am_cR (by omega) (by omega)
  have ej : (am_c j).toNat = j.toNat := by rw [cj]
  refine am_go (ct := fun _ => false) am_oX2_quarters 300 ?_
  conv => whnf
  repeat' first
    | (refine (?_ : am_wp _ _ _ _ _ _ _ _ _ _ _ _); conv => whnf)
    | (refine (?_ : am_sw _ _ _ _); conv => whnf)
    | refine And.intro trivial ?_
    | exact trivial
    | refine am_qe k ?_
    | refine And.intro (fun h => absurd h (by decide)) (fun _ => ?_)
    | refine And.intro (fun _ => ?_) (fun h => absurd (by decide) h)
    | refine And.intro (fun _ => ?_) (fun _ => ?_)
    | refine And.intro ?_ ?_
  all_goals (first | decide | (rw [cj]; omega) | (unfold fp_qu; simp only [cj, ct, cL, cM, cH] at *; (repeat' split) <;> omega) | (trace_state; fail))
theorem x_waysAt {l : Launch} {ν : am_N} {Q : Option am_V → am_N → Prop} (i t : Int) (i0 : 0 ≤ i) (i1 : i < ν 29 0) (n1 : ν 29 0 ≤ 4) (t0 : -10 ≤ t) (t1 : t ≤ 200000) (hb : ∀ j : Nat, (j : Int) < ν 29 0 → (0 ≤ ν 30 j ∧ ν 30 j ≤ 200000) ∧ (0 ≤ ν 31 j ∧ ν 31 j ≤ 200000) ∧ (0 ≤ ν 32 j ∧ ν 32 j ≤ 200000)) (k : Q (some (.inl (fp_wa (ν 30) (ν 31) (ν 32) i.toNat t (ν 29 0).toNat))) ν) : am_Does l 25 [.inr (.inr 29), .inl i, .inl t] ν Q := by
  refine am_Does_of (Nat.le_of_ble_eq_true rfl) (Nat.le_of_ble_eq_true rfl) (Nat.le_of_ble_eq_true rfl) ?_
  have l0 : am_c 0 = 0 := rfl
  have l1 : am_c 1 = 1 := rfl
  have l2 : am_c 2 = 2 := rfl
  have l3 : am_c 3 = 3 := rfl
  have l4 : am_c 4 = 4 := rfl
  have l16 : am_c 16 = 16 := rfl
  have ci : am_c i = i := am_cR (by omega) (by omega)
  have cn : am_c (ν 29 0) = ν 29 0 := am_cR (by omega) (by omega)
  have ct : am_c t = t := am_cR (by omega) (by omega)
  have ct1 : am_c (t + 1) = t + 1 := am_cR (by omega) (by omega)
  have lp5 : ∀ (m : Nat) (w j : Int) , 0 ≤ j → j ≤ ν 29 0 → w = fp_wa (ν 30) (ν 31) (ν 32) i.toNat t j.toNat → ν 29 0 - j < (m : Int) → am_AW l 0 (fun _ => 0) 25 Q 5 [some (.inr (.inr 29)), some (.inl i), some (.inl t), some (.inl w), some (.inl j)] [] ν := by
    intro m
    induction m with
    | zero =>
      intro w j  hv0 hv1 hv2 hm
      exfalso
      omega
    | succ m ih =>
      intro w j  hv0 hv1 hv2 hm
      have cj : am_c j = j := am_cR (by omega) (by omega)
      refine am_go (ct := fun pc => Nat.beq pc 5) am_oX2_waysAt 300 ?_
      conv => whnf
      repeat' first
        | (refine (?_ : am_wp _ _ _ _ _ _ _ _ _ _ _ _); conv => whnf)
        | (refine (?_ : am_sw _ _ _ _); conv => whnf)
        | refine And.intro trivial ?_
        | exact trivial
        | ((with_reducible refine (?_ : am_Does _ 26 _ _ _)); refine x_quarters _ _ ?_ ?_ ?_ ?_ ?_ ?_ ?_)
        | refine am_qe k ?_
        | ((with_reducible refine (?_ : am_AW _ _ _ _ _ 5 _ _ _)); refine ih _ _  ?_ ?_ ?_ ?_)
        | refine And.intro (fun h => absurd h (by decide)) (fun _ => ?_)
        | refine And.intro (fun _ => ?_) (fun h => absurd (by decide) h)
        | refine And.intro (fun _ => ?_) (fun _ => ?_)
        | refine And.intro ?_ ?_
      all_goals (first | decide | assumption | omega | (have z := hb j.toNat (by rw [cj, cn] at *; omega); exact am_cR (by omega) (by omega)) | (simp only [cj, ci, cn] at *; omega) | (rw [show (j + 1).toNat = j.toNat + 1 by omega]; simp only [fp_wa]; rw [if_neg (by rw [cj, ci] at *; omega), if_pos (by rw [cj, ci] at *; omega), hv2]) | (rw [show (j + 1).toNat = j.toNat + 1 by omega]; simp only [fp_wa]; rw [if_neg (by rw [cj, ci] at *; omega), if_neg (by rw [cj, ci] at *; omega), hv2]) | (rw [show (j + 1).toNat = j.toNat + 1 by omega]; simp only [fp_wa]; rw [if_pos (by rw [cj, ci] at *; omega), hv2]) | (rw [hv2, show j.toNat = (ν 29 0).toNat by rw [cj, cn] at *; omega]) | (trace_state; fail))
  have lp5' : ∀ (w j : Int) , 0 ≤ j → j ≤ ν 29 0 → w = fp_wa (ν 30) (ν 31) (ν 32) i.toNat t j.toNat → am_AW l 0 (fun _ => 0) 25 Q 5 [some (.inr (.inr 29)), some (.inl i), some (.inl t), some (.inl w), some (.inl j)] [] ν := fun w j  hv0 hv1 hv2 => lp5 ((ν 29 0 - j) + 1).toNat w j  hv0 hv1 hv2 (by omega)
  refine am_go (ct := fun pc => Nat.beq pc 5) am_oX2_waysAt 300 ?_
  conv => whnf
  repeat' first
    | (refine (?_ : am_wp _ _ _ _ _ _ _ _ _ _ _ _); conv => whnf)
    | (refine (?_ : am_sw _ _ _ _); conv => whnf)
    | refine And.intro trivial ?_
    | exact trivial
    | ((with_reducible refine (?_ : am_AW _ _ _ _ _ 5 _ _ _)); refine lp5' _ _  ?_ ?_ ?_)
    | refine And.intro (fun h => absurd h (by decide)) (fun _ => ?_)
    | refine And.intro (fun _ => ?_) (fun h => absurd (by decide) h)
    | refine And.intro (fun _ => ?_) (fun _ => ?_)
    | refine And.intro ?_ ?_
  all_goals (first | decide | assumption | omega | rfl | (trace_state; fail))
theorem x_ways {l : Launch} {ν : am_N} {Q : Option am_V → am_N → Prop} (i : Int) (i0 : 0 ≤ i) (i1 : i < ν 29 0) (n1 : ν 29 0 ≤ 4) (hb : ∀ j : Nat, (j : Int) < ν 29 0 → (0 ≤ ν 30 j ∧ ν 30 j ≤ 200000) ∧ (0 ≤ ν 31 j ∧ ν 31 j ≤ 200000) ∧ (0 ≤ ν 32 j ∧ ν 32 j ≤ 200000)) (k : Q (some (.inl (fp_wy (ν 30) (ν 31) (ν 32) (ν 29 0).toNat i.toNat))) ν) : am_Does l 24 [.inr (.inr 29), .inl i] ν Q := by
  refine am_Does_of (Nat.le_of_ble_eq_true rfl) (Nat.le_of_ble_eq_true rfl) (Nat.le_of_ble_eq_true rfl) ?_
  have ci : am_c i = i := am_cR (by omega) (by omega)
  have cn : am_c (ν 29 0) = ν 29 0 := am_cR (by omega) (by omega)
  have hi := hb i.toNat (by omega)
  refine am_go (ct := fun _ => false) am_oX2_ways 300 ?_
  conv => whnf
  repeat' first
    | (refine (?_ : am_wp _ _ _ _ _ _ _ _ _ _ _ _); conv => whnf)
    | (refine (?_ : am_sw _ _ _ _); conv => whnf)
    | refine And.intro trivial ?_
    | exact trivial
    | ((with_reducible refine (?_ : _ ∧ _)); refine And.intro (fun z => absurd z (by rw [ci]; omega)) (fun _ => ?_))
    | ((with_reducible refine (?_ : _ ∧ _)); refine And.intro (fun _ => ?_) (fun z => absurd z (by rw [ci, cn]; omega)))
    | ((with_reducible refine (?_ : am_Does _ 25 _ _ _)); refine x_waysAt _ _ ?_ ?_ ?_ ?_ ?_ ?_ ?_)
    | (refine am_qe k ?_)
    | refine And.intro (fun h => absurd h (by decide)) (fun _ => ?_)
    | refine And.intro (fun _ => ?_) (fun h => absurd (by decide) h)
    | refine And.intro (fun _ => ?_) (fun _ => ?_)
    | refine And.intro ?_ ?_
  all_goals (first | decide | assumption | omega | (rw [ci]; omega) | (simp only [ci]; omega) | (simp only [ci]; rfl) | (trace_state; fail))
theorem fp_rw_b {ν μ : am_N} {c : Nat} (hf : am_fC ν c) (hs : ∀ q : Nat, (q : Int) < ν c 4 → 0 ≤ ν (c + 4) q ∧ ν (c + 4) q ≤ 20) (d0 : μ 29 0 = ν c 4) (dr : ∀ q : Nat, (q : Int) < ν c 4 → μ 30 q = fp_pt (am_TC ν c q) (ν (c + 4) q) 0 ∧ μ 31 q = am_TC ν c q ∧ μ 32 q = am_TC ν c q + ν (c + 4) q) : ∀ j : Nat, (j : Int) < μ 29 0 → (0 ≤ μ 30 j ∧ μ 30 j ≤ 200000) ∧ (0 ≤ μ 31 j ∧ μ 31 j ≤ 200000) ∧ (0 ≤ μ 32 j ∧ μ 32 j ≤ 200000) := fun j hj => by
  rw [d0] at hj
  obtain ⟨q0, q1, q2⟩ := dr j hj
  have z := am_TC_b hf hj
  have y := hs j hj
  have x := fp_pt_b (t := am_TC ν c j) (s := ν (c + 4) j) (q := 0) z.1 (by omega) y.1 y.2
  rw [q0, q1, q2]
  omega
