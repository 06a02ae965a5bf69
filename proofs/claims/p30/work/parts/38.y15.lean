/-! two alone: in how many of sixteen the one is ahead -/
/-- what one takes by a part: time t, spread s -/
def fp_pt (t s : Int) (q : Nat) : Int := if q = 0 then (if t - s < 1 then 1 else t - s) else if q = 3 then t + s else t
theorem fp_pt_0 (t s : Int) : fp_pt t s 0 = if t - s < 1 then 1 else t - s := rfl
/-- a field's numbers hang on its own cells -/
theorem am_fC_ch {μ ν : am_N} {c : Nat} (h : ∀ a b, c ≤ a → a < c + 7 → μ a b = ν a b) : (am_fC ν c → am_fC μ c) ∧ ∀ i, am_TC μ c i = am_TC ν c i := by
  constructor
  · intro q
    unfold am_fC at q ⊢
    rw [h c 4 (by omega) (by omega), h c 0 (by omega) (by omega), h c 1 (by omega) (by omega)]
    refine ⟨q.1, q.2.1, fun i hi => ?_⟩
    rw [h (c + 3) i (by omega) (by omega), h (c + 2) i (by omega) (by omega), h (c + 1) i (by omega) (by omega), h (c + 5) i (by omega) (by omega)]
    exact q.2.2 i hi
  · intro i
    unfold am_TC
    rw [h c 0 (by omega) (by omega), h c 1 (by omega) (by omega), h (c + 3) i (by omega) (by omega), h (c + 2) i (by omega) (by omega), h (c + 1) i (by omega) (by omega), h (c + 5) i (by omega) (by omega)]
theorem sx_p15 {a : Nat} (h : sx_p a = true) : ¬(15 ≤ a ∧ a < 22) := fun z => by
  rcases (show a = 15 ∨ a = 16 ∨ a = 17 ∨ a = 18 ∨ a = 19 ∨ a = 20 ∨ a = 21 by omega) with rfl | rfl | rfl | rfl | rfl | rfl | rfl <;> cases h
theorem sx_p30 {a : Nat} (h : sx_p a = true) : ¬(29 ≤ a ∧ a ≤ 34) := fun z => by
  rcases (show a = 29 ∨ a = 30 ∨ a = 31 ∨ a = 32 ∨ a = 33 ∨ a = 34 by omega) with rfl | rfl | rfl | rfl | rfl | rfl <;> cases h
theorem sx_ad {ν μ : am_N} (hS : sx ν ν) (f : ∀ a b, ¬(15 ≤ a ∧ a < 22) → ¬(30 ≤ a ∧ a ≤ 32) → ¬(a = 29 ∧ b = 0) → a ≠ 78 → μ a b = ν a b) (h15 : 0 ≤ μ 15 4 ∧ μ 15 4 ≤ 4) (h29 : 0 ≤ μ 29 0 ∧ μ 29 0 ≤ 4) : sx ν μ := by
  refine ⟨fun a b ha => f a b (sx_p15 ha) (fun z => sx_p30 ha (by omega)) (fun z => sx_p30 ha (by omega)) (fun z => by rw [z] at ha; cases ha), fun p hp => ?_, fun p hp => ?_, ⟨?_, h15, h29, ?_⟩, hS.2.2.2.2⟩
  · rw [f 34 p (by omega) (by omega) (by omega) (by omega)]; exact hS.2.1 p hp
  · rw [f 43 p (by omega) (by omega) (by omega) (by omega)]; exact hS.2.2.1 p hp
  · rw [f 8 4 (by omega) (by omega) (by omega) (by omega)]; exact hS.2.2.2.1.1
  · rw [f 38 0 (by omega) (by omega) (by omega) (by omega)]; exact hS.2.2.2.1.2.2.2
theorem sx_78 {ν μ : am_N} (hS : sx ν ν) (f : ∀ a b, a ≠ 78 → μ a b = ν a b) : sx ν μ := sx_ad hS (fun a b _ _ _ h => f a b h) (by rw [f 15 4 (by decide)]; exact hS.2.2.2.1.2.1) (by rw [f 29 0 (by decide)]; exact hS.2.2.2.1.2.2.1)
theorem mi_84 {ν μ : am_N} (h : mi ν) (f : ∀ a b, a ≠ 84 → μ a b = ν a b) : gm ms ν μ := by
  refine ⟨?_, fun a b q => f a b (fun z => by rw [z] at q; cases q)⟩
  unfold mi at h ⊢
  rw [f 83 14 (by decide), f 83 15 (by decide), f 83 16 (by decide), f 83 21 (by decide), f 83 33 (by decide), f 83 40 (by decide), f 83 42 (by decide), f 98 44 (by decide), f 98 38 (by decide), f 98 39 (by decide)]
  refine ⟨h.1, h.2.1, h.2.2.1, h.2.2.2.1, h.2.2.2.2.1, h.2.2.2.2.2.1, h.2.2.2.2.2.2.1, h.2.2.2.2.2.2.2.1, h.2.2.2.2.2.2.2.2.1, h.2.2.2.2.2.2.2.2.2.1, fun p hp => ?_⟩
  rw [f 100 p (by decide)]
  exact h.2.2.2.2.2.2.2.2.2.2 p hp
theorem x_put {l : Launch} {ν : am_N} {Q : Option am_V → am_N → Prop} (i t s : Int) (i0 : 0 ≤ i) (i1 : i < 4) (t0 : 1 ≤ t) (t1 : t ≤ 100000) (s0 : 0 ≤ s) (s1 : s ≤ 20) (k : ∀ μ' : am_N, (∀ a b, ¬(30 ≤ a ∧ a ≤ 32 ∧ b = i.toNat) → μ' a b = ν a b) → μ' 30 i.toNat = fp_pt t s 0 → μ' 31 i.toNat = t → μ' 32 i.toNat = t + s → Q none μ') : am_Does l 22 [.inr (.inr 29), .inl i, .inl t, .inl s] ν Q := by
  refine am_Does_of (Nat.le_of_ble_eq_true rfl) (Nat.le_of_ble_eq_true rfl) (Nat.le_of_ble_eq_true rfl) ?_
  have l0 : am_c 0 = 0 := rfl
  have l1 : am_c 1 = 1 := rfl
  have l2 : am_c 2 = 2 := rfl
  have l3 : am_c 3 = 3 := rfl
  have l4 : am_c 4 = 4 := rfl
  have l16 : am_c 16 = 16 := rfl
  have ci : am_c i = i := am_cR (by omega) (by omega)
  have ct : am_c (t - s) = t - s := am_cR (by omega) (by omega)
  refine am_go (ct := fun _ => false) am_oX2_put 300 ?_
  conv => whnf
  repeat' first
    | (refine (?_ : am_wp _ _ _ _ _ _ _ _ _ _ _ _); conv => whnf)
    | (refine (?_ : am_sw _ _ _ _); conv => whnf)
    | refine And.intro trivial ?_
    | exact trivial
    | ((with_reducible refine (?_ : _ ∧ _)); refine And.intro (fun z => absurd z (by rw [ci]; omega)) (fun _ => ?_))
    | ((with_reducible refine (?_ : _ ∧ _)); refine And.intro (fun _ => ?_) (fun z => absurd z (by rw [ci]; omega)))
    | refine k _ ?_ ?_ ?_ ?_
    | refine And.intro (fun h => absurd h (by decide)) (fun _ => ?_)
    | refine And.intro (fun _ => ?_) (fun h => absurd (by decide) h)
    | refine And.intro (fun _ => ?_) (fun _ => ?_)
    | refine And.intro ?_ ?_
  all_goals (first | decide | omega | (rw [ci]; omega) | (intro a b h; simp only [ci]; rw [am_upS, if_neg (by omega), am_upS, if_neg (by omega), am_upS, if_neg (by omega)]) | (simp only [ci]; rw [am_upN (by decide), am_upN (by decide), am_upS, if_pos ⟨rfl, rfl⟩, fp_pt_0, l1, ct]; (repeat' split) <;> omega) | (simp only [ci]; rw [am_upN (by decide), am_upS, if_pos ⟨rfl, rfl⟩]) | (simp only [ci]; rw [am_upS, if_pos ⟨rfl, rfl⟩]) | (trace_state; fail))
