/-! two alone: in how many of sixteen the one is ahead -/
/-- what one takes by a part: time t, spread s -/
def fp_pt (t s : Int) (q : Nat) : Int := if q = 0 then (if t - s < 1 then 1 else t - s) else if q = 3 then t + s else t
/-- in how many quarters v or more -/
def fp_qu (L M H v : Int) : Int := if v ≤ L then 4 else if v ≤ M then 3 else if v ≤ H then 1 else 0
def fp_aw (g t s u r : Int) : Int := fp_qu (fp_pt u r 0) u (u + r) (fp_pt t s 0 + g) + 2 * fp_qu (fp_pt u r 0) u (u + r) (t + g) + fp_qu (fp_pt u r 0) u (u + r) (t + s + g)
def fp_lt (g a b : Int) : Int := if a + g ≤ b then 1 else 0
def fp_am (g t s u r : Int) : Nat → Int
  | 0 => 0
  | k + 1 => fp_am g t s u r k + fp_lt g (fp_pt t s (k / 4)) (fp_pt u r (k % 4))
theorem fp_pt_b {t s : Int} {q : Nat} (t0 : 1 ≤ t) (t1 : t ≤ 100000) (s0 : 0 ≤ s) (s1 : s ≤ 20) : 1 ≤ fp_pt t s q ∧ fp_pt t s q ≤ 100020 := by
  unfold fp_pt
  (repeat' split) <;> omega
theorem fp_pt_0 (t s : Int) : fp_pt t s 0 = if t - s < 1 then 1 else t - s := rfl
theorem fp_qu_b (L M H v : Int) : 0 ≤ fp_qu L M H v ∧ fp_qu L M H v ≤ 4 := by
  unfold fp_qu
  (repeat' split) <;> omega
theorem fp_lt_q {g a u r : Int} (hr : 0 ≤ r) (hu : 1 ≤ u) : fp_lt g a (fp_pt u r 0) + fp_lt g a u + fp_lt g a u + fp_lt g a (u + r) = fp_qu (fp_pt u r 0) u (u + r) (a + g) := by
  have h0 : fp_pt u r 0 ≤ u := by rw [fp_pt_0]; split <;> omega
  unfold fp_lt fp_qu
  (repeat' split) <;> omega
theorem fp_am_w {g t s u r : Int} (hr : 0 ≤ r) (hu : 1 ≤ u) : fp_am g t s u r 16 = fp_aw g t s u r := by
  have q0 := fp_lt_q (g := g) (a := fp_pt t s 0) hr hu
  have q1 := fp_lt_q (g := g) (a := t) hr hu
  have q3 := fp_lt_q (g := g) (a := t + s) hr hu
  have e : fp_am g t s u r 16 = 0 + fp_lt g (fp_pt t s 0) (fp_pt u r 0) + fp_lt g (fp_pt t s 0) u + fp_lt g (fp_pt t s 0) u + fp_lt g (fp_pt t s 0) (u + r) + fp_lt g t (fp_pt u r 0) + fp_lt g t u + fp_lt g t u + fp_lt g t (u + r) + fp_lt g t (fp_pt u r 0) + fp_lt g t u + fp_lt g t u + fp_lt g t (u + r) + fp_lt g (t + s) (fp_pt u r 0) + fp_lt g (t + s) u + fp_lt g (t + s) u + fp_lt g (t + s) (u + r) := rfl
  rw [e]
  unfold fp_aw
  rw [← q0, ← q1, ← q3]
  omega
theorem fp_aw_b (g t s u r : Int) : 0 ≤ fp_aw g t s u r ∧ fp_aw g t s u r ≤ 16 := by
  have q0 := fp_qu_b (fp_pt u r 0) u (u + r) (fp_pt t s 0 + g)
  have q1 := fp_qu_b (fp_pt u r 0) u (u + r) (t + g)
  have q2 := fp_qu_b (fp_pt u r 0) u (u + r) (t + s + g)
  unfold fp_aw
  omega
/-- in how many of sixteen i is ahead of j -/
def fp_ah (F : am_N) (i j : Nat) : Int := fp_aw (if i < j then 0 else 1) (fp_tf F i) (F 4 i) (fp_tf F j) (F 4 j)
theorem fp_ah_b (F : am_N) (i j : Nat) : 0 ≤ fp_ah F i j ∧ fp_ah F i j ≤ 16 := fp_aw_b _ _ _ _ _
/-- the answer of ahead() -/
def fp_hr (F : am_N) (i j : Int) : Int := if ¬((0 ≤ i ∧ i < F 0 4) ∧ (0 ≤ j ∧ j < F 0 4) ∧ i ≠ j) then -1 else fp_ah F i.toNat j.toNat
/-- the product over the others -/
def fp_wa (L M H : Nat → Int) (i : Nat) (t : Int) : Nat → Int
  | 0 => 1
  | j + 1 => if j = i then fp_wa L M H i t j else fp_wa L M H i t j * fp_qu (L j) (M j) (H j) (if j < i then t + 1 else t)
def fp_wy (L M H : Nat → Int) (n i : Nat) : Int := fp_wa L M H i (L i) n + 2 * fp_wa L M H i (M i) n + fp_wa L M H i (H i) n
theorem fp_wy_20 (L M H : Nat → Int) : fp_wy L M H 2 0 = fp_qu (L 1) (M 1) (H 1) (L 0) + 2 * fp_qu (L 1) (M 1) (H 1) (M 0) + fp_qu (L 1) (M 1) (H 1) (H 0) := by
  have e : ∀ t, fp_wa L M H 0 t 2 = fp_qu (L 1) (M 1) (H 1) t := fun t => by
    show (1 : Int) * fp_qu (L 1) (M 1) (H 1) t = _
    exact Int.one_mul _
  unfold fp_wy
  rw [e, e, e]
theorem fp_wy_21 (L M H : Nat → Int) : fp_wy L M H 2 1 = fp_qu (L 0) (M 0) (H 0) (L 1 + 1) + 2 * fp_qu (L 0) (M 0) (H 0) (M 1 + 1) + fp_qu (L 0) (M 0) (H 0) (H 1 + 1) := by
  have e : ∀ t, fp_wa L M H 1 t 2 = fp_qu (L 0) (M 0) (H 0) (t + 1) := fun t => by
    show (1 : Int) * fp_qu (L 0) (M 0) (H 0) (t + 1) = _
    exact Int.one_mul _
  unfold fp_wy
  rw [e, e, e]
/-- a field's numbers hang on its own cells -/
theorem am_fC_ch {μ ν : am_N} {c : Nat} (h : ∀ a b, c ≤ a → a < c + 7 → μ a b = ν a b) : (am_fC ν c → am_fC μ c) ∧ ∀ i, am_TC μ c i = am_TC ν c i := by
  constructor
  · intro q
    unfold am_fC at q ⊢
    rw [h c 4 (by omega) (by omega), h c 0 (by omega) (by omega), h c 1 (by omega) (by omega)]
    refine ⟨q.1, q.2.1, fun i hi => ?_⟩
    rw [h (c + 3) i (by omega) (by omega), h (c + 2) i (by omega) (by omega), h (c + 1) i (by omega) (by omega), h (c + 5) i (by omega) (by omega)]
    exact q.2.2 i hi
  · intro i
    unfold am_TC
    rw [h c 0 (by omega) (by omega), h c 1 (by omega) (by omega), h (c + 3) i (by omega) (by omega), h (c + 2) i (by omega) (by omega), h (c + 1) i (by omega) (by omega), h (c + 5) i (by omega) (by omega)]
theorem sx_p15 {a : Nat} (h : sx_p a = true) : ¬(15 ≤ a ∧ a < 22) := fun z => by
  rcases (show a = 15 ∨ a = 16 ∨ a = 17 ∨ a = 18 ∨ a = 19 ∨ a = 20 ∨ a = 21 by omega) with rfl | rfl | rfl | rfl | rfl | rfl | rfl <;> cases h
theorem sx_p30 {a : Nat} (h : sx_p a = true) : ¬(29 ≤ a ∧ a ≤ 34) := fun z => by
  rcases (show a = 29 ∨ a = 30 ∨ a = 31 ∨ a = 32 ∨ a = 33 ∨ a = 34 by omega) with rfl | rfl | rfl | rfl | rfl | rfl <;> cases h
theorem sx_ad {ν μ : am_N} (hS : sx ν ν) (f : ∀ a b, ¬(15 ≤ a ∧ a < 22) → ¬(30 ≤ a ∧ a ≤ 32) → ¬(a = 29 ∧ b = 0) → a ≠ 78 → μ a b = ν a b) (h15 : 0 ≤ μ 15 4 ∧ μ 15 4 ≤ 4) (h29 : 0 ≤ μ 29 0 ∧ μ 29 0 ≤ 4) : sx ν μ := by
  refine ⟨fun a b ha => f a b (sx_p15 ha) (fun z => sx_p30 ha (by omega)) (fun z => sx_p30 ha (by omega)) (fun z => by rw [z] at ha; cases ha), fun p hp => ?_, fun p hp => ?_, ⟨?_, h15, h29, ?_⟩, hS.2.2.2.2⟩
  · rw [f 34 p (by omega) (by omega) (by omega) (by omega)]; exact hS.2.1 p hp
  · rw [f 43 p (by omega) (by omega) (by omega) (by omega)]; exact hS.2.2.1 p hp
  · rw [f 8 4 (by omega) (by omega) (by omega) (by omega)]; exact hS.2.2.2.1.1
  · rw [f 38 0 (by omega) (by omega) (by omega) (by omega)]; exact hS.2.2.2.1.2.2.2
theorem sx_78 {ν μ : am_N} (hS : sx ν ν) (f : ∀ a b, a ≠ 78 → μ a b = ν a b) : sx ν μ := sx_ad hS (fun a b _ _ _ h => f a b h) (by rw [f 15 4 (by decide)]; exact hS.2.2.2.1.2.1) (by rw [f 29 0 (by decide)]; exact hS.2.2.2.1.2.2.1)
theorem mi_84 {ν μ : am_N} (h : mi ν) (f : ∀ a b, a ≠ 84 → μ a b = ν a b) : gm ms ν μ := by
  refine ⟨?_, fun a b q => f a b (fun z => by rw [z] at q; cases q)⟩
  unfold mi at h ⊢
  rw [f 83 14 (by decide), f 83 15 (by decide), f 83 16 (by decide), f 83 21 (by decide), f 83 33 (by decide), f 83 40 (by decide), f 83 42 (by decide), f 98 44 (by decide), f 98 38 (by decide), f 98 39 (by decide)]
  refine ⟨h.1, h.2.1, h.2.2.1, h.2.2.2.1, h.2.2.2.2.1, h.2.2.2.2.2.1, h.2.2.2.2.2.2.1, h.2.2.2.2.2.2.2.1, h.2.2.2.2.2.2.2.2.1, h.2.2.2.2.2.2.2.2.2.1, fun p hp => ?_⟩
  rw [f 100 p (by decide)]
  exact h.2.2.2.2.2.2.2.2.2.2 p hp
theorem x_tS_15_1 {l : Launch} {ν : am_N} {Q : Option am_V → am_N → Prop} (k : ∀ μ' : am_N, (∀ a b, ¬(a = 15 ∧ b < 4) → μ' a b = ν a b) → (∀ b : Nat, b < 4 → μ' 15 b = ν 1 b) → Q none μ') : am_Does l 4 [.inr (.inr 15), .inr (.inr 1)] ν Q := by
  refine am_Does_of (Nat.le_of_ble_eq_true rfl) (Nat.le_of_ble_eq_true rfl) (Nat.le_of_ble_eq_true rfl) ?_
  refine am_go (ct := fun _ => false) am_oX0_takeSettings 300 ?_
  conv => whnf
  repeat' first
    | (refine (?_ : am_wp _ _ _ _ _ _ _ _ _ _ _ _); conv => whnf)
    | (refine (?_ : am_sw _ _ _ _); conv => whnf)
    | refine And.intro trivial ?_
    | exact trivial
    | refine k _ ?_ ?_
    | refine And.intro (fun h => absurd h (by decide)) (fun _ => ?_)
    | refine And.intro (fun _ => ?_) (fun h => absurd (by decide) h)
    | refine And.intro (fun _ => ?_) (fun _ => ?_)
    | refine And.intro ?_ ?_
  all_goals (first | decide | rfl | (intro a b h; rw [am_upS, if_neg (by omega), am_upS, if_neg (by omega), am_upS, if_neg (by omega), am_upS, if_neg (by omega)]) | (intro b hb; rcases (show b = 0 ∨ b = 1 ∨ b = 2 ∨ b = 3 by omega) with rfl | rfl | rfl | rfl <;> rfl) | (trace_state; fail))
theorem x_tR_15_1 {l : Launch} {ν : am_N} {Q : Option am_V → am_N → Prop} (i j : Int) (i0 : 0 ≤ i) (i1 : i < 4) (j0 : 0 ≤ j) (j1 : j < 4) (k : ∀ μ' : am_N, (∀ a b, ¬((15 < a ∧ a < 22) ∧ b = i.toNat) → μ' a b = ν a b) → (∀ a : Nat, 0 < a → a < 7 → μ' (15 + a) i.toNat = ν (1 + a) j.toNat) → Q none μ') : am_Does l 5 [.inr (.inr 15), .inl i, .inr (.inr 1), .inl j] ν Q := by
  refine am_Does_of (Nat.le_of_ble_eq_true rfl) (Nat.le_of_ble_eq_true rfl) (Nat.le_of_ble_eq_true rfl) ?_
  have ci : am_c i = i := am_cR (by omega) (by omega)
  have cj : am_c j = j := am_cR (by omega) (by omega)
  have c0 : am_c 0 = 0 := rfl
  have c4 : am_c 4 = 4 := rfl
  refine am_go (ct := fun _ => false) am_oX0_takeRunner 300 ?_
  conv => whnf
  repeat' first
    | (refine (?_ : am_wp _ _ _ _ _ _ _ _ _ _ _ _); conv => whnf)
    | (refine (?_ : am_sw _ _ _ _); conv => whnf)
    | refine And.intro trivial ?_
    | exact trivial
    | refine k _ ?_ ?_
    | refine And.intro (fun h => absurd h (by decide)) (fun _ => ?_)
    | refine And.intro (fun _ => ?_) (fun h => absurd (by decide) h)
    | refine And.intro (fun _ => ?_) (fun _ => ?_)
    | refine And.intro ?_ ?_
  all_goals (first | decide | omega | (simp only [ci, cj, c0, c4] at *; omega) | (intro a b h; simp only [ci]; rw [am_upS, if_neg (by omega), am_upS, if_neg (by omega), am_upS, if_neg (by omega), am_upS, if_neg (by omega), am_upS, if_neg (by omega), am_upS, if_neg (by omega)]) | (intro a h0 h1; simp only [ci, cj]; rcases (show a = 1 ∨ a = 2 ∨ a = 3 ∨ a = 4 ∨ a = 5 ∨ a = 6 by omega) with rfl | rfl | rfl | rfl | rfl | rfl <;> simp [am_up]) | (exfalso; simp only [ci, cj, c0, c4] at *; omega) | (trace_state; fail))
theorem x_takeTwo {l : Launch} {ν : am_N} {Q : Option am_V → am_N → Prop} (i j : Int) (i0 : 0 ≤ i) (i1 : i < 4) (j0 : 0 ≤ j) (j1 : j < 4) (k : ∀ μ' : am_N, (∀ a b, ¬(15 ≤ a ∧ a < 22) → μ' a b = ν a b) → (∀ b : Nat, b < 4 → μ' 15 b = ν 1 b) → μ' 15 4 = 2 → (∀ a : Nat, 0 < a → a < 7 → μ' (15 + a) 0 = ν (1 + a) i.toNat) → (∀ a : Nat, 0 < a → a < 7 → μ' (15 + a) 1 = ν (1 + a) j.toNat) → Q none μ') : am_Does l 3 [.inr (.inr 15), .inr (.inr 1), .inl i, .inl j] ν Q := by
  refine am_Does_of (Nat.le_of_ble_eq_true rfl) (Nat.le_of_ble_eq_true rfl) (Nat.le_of_ble_eq_true rfl) ?_
  refine am_go (ct := fun _ => false) am_oX0_takeTwo 300 ?_
  conv => whnf
  repeat' first
    | (refine (?_ : am_wp _ _ _ _ _ _ _ _ _ _ _ _); conv => whnf)
    | (refine (?_ : am_sw _ _ _ _); conv => whnf)
    | refine And.intro trivial ?_
    | exact trivial
    | refine x_tS_15_1 (fun μ1 f1 e1 => ?_)
    | (have _q := f2; refine x_tR_15_1 _ _ ?_ ?_ ?_ ?_ (fun μ3 f3 e3 => ?_))
    | refine x_tR_15_1 _ _ ?_ ?_ ?_ ?_ (fun μ2 f2 e2 => ?_)
    | refine k _ ?_ ?_ ?_ ?_ ?_
    | refine And.intro (fun h => absurd h (by decide)) (fun _ => ?_)
    | refine And.intro (fun _ => ?_) (fun h => absurd (by decide) h)
    | refine And.intro (fun _ => ?_) (fun _ => ?_)
    | refine And.intro ?_ ?_
  all_goals (first | decide | assumption | omega | (intro a b h; rw [f3 a b (by omega), f2 a b (by omega), am_upS, if_neg (by omega), f1 a b (by omega)]) | (intro b hb; rw [f3 15 b (by omega), f2 15 b (by omega), am_upM (by omega), e1 b hb]) | (rw [f3 15 4 (by omega), f2 15 4 (by omega)]; exact if_pos ⟨rfl, rfl⟩) | (intro a h0 h1; rw [f3 (15 + a) 0 (by omega)]; have z := e2 a h0 h1; rw [am_upN (by omega), f1 _ _ (by omega)] at z; exact z) | (intro a h0 h1; have z := e3 a h0 h1; rw [f2 (1 + a) _ (by omega), am_upN (by omega), f1 _ _ (by omega)] at z; exact z) | (trace_state; fail))
theorem x_alone0 {l : Launch} {ν : am_N} {Q : Option am_V → am_N → Prop} (i j : Int) (ci : am_c i = i) (cj : am_c j = j) (hij : i < j) (i0 : 0 ≤ i) (i1 : i < 4) (j0 : 0 ≤ j) (j1 : j < 4) (k : ∀ μ' : am_N, (∀ a b, ¬(15 ≤ a ∧ a < 22) → μ' a b = ν a b) → (∀ b : Nat, b < 4 → μ' 15 b = ν 1 b) → μ' 15 4 = 2 → (∀ a : Nat, 0 < a → a < 7 → μ' (15 + a) 0 = ν (1 + a) i.toNat) → (∀ a : Nat, 0 < a → a < 7 → μ' (15 + a) 1 = ν (1 + a) j.toNat) → Q (some (.inl 0)) μ') : am_Does l 121 [.inr (.inr 0), .inl i, .inl j] ν Q := by
  refine am_Does_of (Nat.le_of_ble_eq_true rfl) (Nat.le_of_ble_eq_true rfl) (Nat.le_of_ble_eq_true rfl) ?_
  have hmin : (if am_c j < am_c i then j else i) = i := if_neg (by rw [ci, cj]; omega)
  have hmax : (if am_c i < am_c j then j else i) = j := if_pos (by rw [ci, cj]; omega)
  refine am_go (ct := fun _ => false) am_oX6_alone 300 ?_
  conv => whnf
  repeat' first
    | (refine (?_ : am_wp _ _ _ _ _ _ _ _ _ _ _ _); conv => whnf)
    | (refine (?_ : am_sw _ _ _ _); conv => whnf)
    | refine And.intro trivial ?_
    | exact trivial
    | (rw [hmin, hmax]; refine x_takeTwo _ _ ?_ ?_ ?_ ?_ (fun μ1 f1 e1 n1 r0 r1 => ?_))
    | refine And.intro (fun z => absurd z (by rw [ci, cj]; omega)) (fun _ => ?_)
    | exact k _ f1 e1 n1 r0 r1
    | refine And.intro (fun h => absurd h (by decide)) (fun _ => ?_)
    | refine And.intro (fun _ => ?_) (fun h => absurd (by decide) h)
    | refine And.intro (fun _ => ?_) (fun _ => ?_)
    | refine And.intro ?_ ?_
  all_goals (first | decide | assumption | omega | (trace_state; fail))
theorem x_alone1 {l : Launch} {ν : am_N} {Q : Option am_V → am_N → Prop} (i j : Int) (ci : am_c i = i) (cj : am_c j = j) (hij : j < i) (i0 : 0 ≤ i) (i1 : i < 4) (j0 : 0 ≤ j) (j1 : j < 4) (k : ∀ μ' : am_N, (∀ a b, ¬(15 ≤ a ∧ a < 22) → μ' a b = ν a b) → (∀ b : Nat, b < 4 → μ' 15 b = ν 1 b) → μ' 15 4 = 2 → (∀ a : Nat, 0 < a → a < 7 → μ' (15 + a) 0 = ν (1 + a) j.toNat) → (∀ a : Nat, 0 < a → a < 7 → μ' (15 + a) 1 = ν (1 + a) i.toNat) → Q (some (.inl 1)) μ') : am_Does l 121 [.inr (.inr 0), .inl i, .inl j] ν Q := by
  refine am_Does_of (Nat.le_of_ble_eq_true rfl) (Nat.le_of_ble_eq_true rfl) (Nat.le_of_ble_eq_true rfl) ?_
  have hmin : (if am_c j < am_c i then j else i) = j := if_pos (by rw [ci, cj]; omega)
  have hmax : (if am_c i < am_c j then j else i) = i := if_neg (by rw [ci, cj]; omega)
  refine am_go (ct := fun _ => false) am_oX6_alone 300 ?_
  conv => whnf
  repeat' first
    | (refine (?_ : am_wp _ _ _ _ _ _ _ _ _ _ _ _); conv => whnf)
    | (refine (?_ : am_sw _ _ _ _); conv => whnf)
    | refine And.intro trivial ?_
    | exact trivial
    | (rw [hmin, hmax]; refine x_takeTwo _ _ ?_ ?_ ?_ ?_ (fun μ1 f1 e1 n1 r0 r1 => ?_))
    | refine And.intro (fun _ => ?_) (fun z => absurd z (by rw [ci, cj]; omega))
    | exact k _ f1 e1 n1 r0 r1
    | refine And.intro (fun h => absurd h (by decide)) (fun _ => ?_)
    | refine And.intro (fun _ => ?_) (fun h => absurd (by decide) h)
    | refine And.intro (fun _ => ?_) (fun _ => ?_)
    | refine And.intro ?_ ?_
  all_goals (first | decide | assumption | omega | (trace_state; fail))
theorem x_put {l : Launch} {ν : am_N} {Q : Option am_V → am_N → Prop} (i t s : Int) (i0 : 0 ≤ i) (i1 : i < 4) (t0 : 1 ≤ t) (t1 : t ≤ 100000) (s0 : 0 ≤ s) (s1 : s ≤ 20) (k : ∀ μ' : am_N, (∀ a b, ¬(30 ≤ a ∧ a ≤ 32 ∧ b = i.toNat) → μ' a b = ν a b) → μ' 30 i.toNat = fp_pt t s 0 → μ' 31 i.toNat = t → μ' 32 i.toNat = t + s → Q none μ') : am_Does l 22 [.inr (.inr 29), .inl i, .inl t, .inl s] ν Q := by
  refine am_Does_of (Nat.le_of_ble_eq_true rfl) (Nat.le_of_ble_eq_true rfl) (Nat.le_of_ble_eq_true rfl) ?_
  have l0 : am_c 0 = 0 := rfl
  have l1 : am_c 1 = 1 := rfl
  have l2 : am_c 2 = 2 := rfl
  have l3 : am_c 3 = 3 := rfl
  have l4 : am_c 4 = 4 := rfl
  have l16 : am_c 16 = 16 := rfl
  have ci : am_c i = i := am_cR (by omega) (by omega)
  have ct : am_c (t - s) = t - s := am_cR (by omega) (by omega)
  refine am_go (ct := fun _ => false) am_oX2_put 300 ?_
  conv => whnf
  repeat' first
    | (refine (?_ : am_wp _ _ _ _ _ _ _ _ _ _ _ _); conv => whnf)
    | (refine (?_ : am_sw _ _ _ _); conv => whnf)
    | refine And.intro trivial ?_
    | exact trivial
    | refine And.intro (fun z => absurd z (by rw [ci]; omega)) (fun _ => ?_)
    | refine And.intro (fun _ => ?_) (fun z => absurd z (by rw [ci]; omega))
    | refine k _ ?_ ?_ ?_ ?_
    | refine And.intro (fun h => absurd h (by decide)) (fun _ => ?_)
    | refine And.intro (fun _ => ?_) (fun h => absurd (by decide) h)
    | refine And.intro (fun _ => ?_) (fun _ => ?_)
    | refine And.intro ?_ ?_
  all_goals (first | decide | omega | (rw [ci]; omega) | (intro a b h; simp only [ci]; rw [am_upS, if_neg (by omega), am_upS, if_neg (by omega), am_upS, if_neg (by omega)]) | (simp only [ci]; rw [am_upN (by decide), am_upN (by decide), am_upS, if_pos ⟨rfl, rfl⟩, fp_pt_0, l1, ct]; (repeat' split) <;> omega) | (simp only [ci]; rw [am_upN (by decide), am_upS, if_pos ⟨rfl, rfl⟩]) | (simp only [ci]; rw [am_upS, if_pos ⟨rfl, rfl⟩]) | (trace_state; fail))
theorem x_quarters {l : Launch} {ν : am_N} {Q : Option am_V → am_N → Prop} (j t : Int) (j0 : 0 ≤ j) (j1 : j < 4) (ct : am_c t = t) (cL : am_c (ν 30 j.toNat) = ν 30 j.toNat) (cM : am_c (ν 31 j.toNat) = ν 31 j.toNat) (cH : am_c (ν 32 j.toNat) = ν 32 j.toNat) (k : Q (some (.inl (fp_qu (ν 30 j.toNat) (ν 31 j.toNat) (ν 32 j.toNat) t))) ν) : am_Does l 26 [.inr (.inr 29), .inl j, .inl t] ν Q := by
  refine am_Does_of (Nat.le_of_ble_eq_true rfl) (Nat.le_of_ble_eq_true rfl) (Nat.le_of_ble_eq_true rfl) ?_
  have cj : am_c j = j := am_cR (by omega) (by omega)
  have ej : (am_c j).toNat = j.toNat := by rw [cj]
  refine am_go (ct := fun _ => false) am_oX2_quarters 300 ?_
  conv => whnf
  repeat' first
    | (refine (?_ : am_wp _ _ _ _ _ _ _ _ _ _ _ _); conv => whnf)
    | (refine (?_ : am_sw _ _ _ _); conv => whnf)
    | refine And.intro trivial ?_
    | exact trivial
    | refine am_qe k ?_
    | refine And.intro (fun h => absurd h (by decide)) (fun _ => ?_)
    | refine And.intro (fun _ => ?_) (fun h => absurd (by decide) h)
    | refine And.intro (fun _ => ?_) (fun _ => ?_)
    | refine And.intro ?_ ?_
  all_goals (first | decide | (rw [cj]; omega) | (unfold fp_qu; simp only [cj, ct, cL, cM, cH] at *; (repeat' split) <;> omega) | (trace_state; fail))
theorem x_waysAt {l : Launch} {ν : am_N} {Q : Option am_V → am_N → Prop} (i t : Int) (i0 : 0 ≤ i) (i1 : i < ν 29 0) (n1 : ν 29 0 ≤ 4) (t0 : -10 ≤ t) (t1 : t ≤ 200000) (hb : ∀ j : Nat, (j : Int) < ν 29 0 → (0 ≤ ν 30 j ∧ ν 30 j ≤ 200000) ∧ (0 ≤ ν 31 j ∧ ν 31 j ≤ 200000) ∧ (0 ≤ ν 32 j ∧ ν 32 j ≤ 200000)) (k : Q (some (.inl (fp_wa (ν 30) (ν 31) (ν 32) i.toNat t (ν 29 0).toNat))) ν) : am_Does l 25 [.inr (.inr 29), .inl i, .inl t] ν Q := by
  refine am_Does_of (Nat.le_of_ble_eq_true rfl) (Nat.le_of_ble_eq_true rfl) (Nat.le_of_ble_eq_true rfl) ?_
  have l0 : am_c 0 = 0 := rfl
  have l1 : am_c 1 = 1 := rfl
  have l2 : am_c 2 = 2 := rfl
  have l3 : am_c 3 = 3 := rfl
  have l4 : am_c 4 = 4 := rfl
  have l16 : am_c 16 = 16 := rfl
  have ci : am_c i = i := am_cR (by omega) (by omega)
  have cn : am_c (ν 29 0) = ν 29 0 := am_cR (by omega) (by omega)
  have ct : am_c t = t := am_cR (by omega) (by omega)
  have ct1 : am_c (t + 1) = t + 1 := am_cR (by omega) (by omega)
  have lp5 : ∀ (m : Nat) (w j : Int) , 0 ≤ j → j ≤ ν 29 0 → w = fp_wa (ν 30) (ν 31) (ν 32) i.toNat t j.toNat → ν 29 0 - j < (m : Int) → am_AW l 0 (fun _ => 0) 25 Q 5 [some (.inr (.inr 29)), some (.inl i), some (.inl t), some (.inl w), some (.inl j)] [] ν := by
    intro m
    induction m with
    | zero =>
      intro w j  hv0 hv1 hv2 hm
      exfalso
      omega
    | succ m ih =>
      intro w j  hv0 hv1 hv2 hm
      have cj : am_c j = j := am_cR (by omega) (by omega)
      refine am_go (ct := fun pc => Nat.beq pc 5) am_oX2_waysAt 300 ?_
      conv => whnf
      repeat' first
        | (refine (?_ : am_wp _ _ _ _ _ _ _ _ _ _ _ _); conv => whnf)
        | (refine (?_ : am_sw _ _ _ _); conv => whnf)
        | refine And.intro trivial ?_
        | exact trivial
        | refine x_quarters _ _ ?_ ?_ ?_ ?_ ?_ ?_ ?_
        | refine am_qe k ?_
        | refine ih _ _  ?_ ?_ ?_ ?_
        | refine And.intro (fun h => absurd h (by decide)) (fun _ => ?_)
        | refine And.intro (fun _ => ?_) (fun h => absurd (by decide) h)
        | refine And.intro (fun _ => ?_) (fun _ => ?_)
        | refine And.intro ?_ ?_
      all_goals (first | decide | assumption | omega | (have z := hb j.toNat (by rw [cj, cn] at *; omega); exact am_cR (by omega) (by omega)) | (simp only [cj, ci, cn] at *; omega) | (rw [show (j + 1).toNat = j.toNat + 1 by omega]; simp only [fp_wa]; rw [if_neg (by rw [cj, ci] at *; omega), if_pos (by rw [cj, ci] at *; omega), hv2]) | (rw [show (j + 1).toNat = j.toNat + 1 by omega]; simp only [fp_wa]; rw [if_neg (by rw [cj, ci] at *; omega), if_neg (by rw [cj, ci] at *; omega), hv2]) | (rw [show (j + 1).toNat = j.toNat + 1 by omega]; simp only [fp_wa]; rw [if_pos (by rw [cj, ci] at *; omega), hv2]) | (rw [hv2, show j.toNat = (ν 29 0).toNat by rw [cj, cn] at *; omega]) | (trace_state; fail))
  have lp5' : ∀ (w j : Int) , 0 ≤ j → j ≤ ν 29 0 → w = fp_wa (ν 30) (ν 31) (ν 32) i.toNat t j.toNat → am_AW l 0 (fun _ => 0) 25 Q 5 [some (.inr (.inr 29)), some (.inl i), some (.inl t), some (.inl w), some (.inl j)] [] ν := fun w j  hv0 hv1 hv2 => lp5 ((ν 29 0 - j) + 1).toNat w j  hv0 hv1 hv2 (by omega)
  refine am_go (ct := fun pc => Nat.beq pc 5) am_oX2_waysAt 300 ?_
  conv => whnf
  repeat' first
    | (refine (?_ : am_wp _ _ _ _ _ _ _ _ _ _ _ _); conv => whnf)
    | (refine (?_ : am_sw _ _ _ _); conv => whnf)
    | refine And.intro trivial ?_
    | exact trivial
    | refine lp5' _ _  ?_ ?_ ?_
    | refine And.intro (fun h => absurd h (by decide)) (fun _ => ?_)
    | refine And.intro (fun _ => ?_) (fun h => absurd (by decide) h)
    | refine And.intro (fun _ => ?_) (fun _ => ?_)
    | refine And.intro ?_ ?_
  all_goals (first | decide | assumption | omega | rfl | (trace_state; fail))
theorem x_ways {l : Launch} {ν : am_N} {Q : Option am_V → am_N → Prop} (i : Int) (i0 : 0 ≤ i) (i1 : i < ν 29 0) (n1 : ν 29 0 ≤ 4) (hb : ∀ j : Nat, (j : Int) < ν 29 0 → (0 ≤ ν 30 j ∧ ν 30 j ≤ 200000) ∧ (0 ≤ ν 31 j ∧ ν 31 j ≤ 200000) ∧ (0 ≤ ν 32 j ∧ ν 32 j ≤ 200000)) (k : Q (some (.inl (fp_wy (ν 30) (ν 31) (ν 32) (ν 29 0).toNat i.toNat))) ν) : am_Does l 24 [.inr (.inr 29), .inl i] ν Q := by
  refine am_Does_of (Nat.le_of_ble_eq_true rfl) (Nat.le_of_ble_eq_true rfl) (Nat.le_of_ble_eq_true rfl) ?_
  have ci : am_c i = i := am_cR (by omega) (by omega)
  have cn : am_c (ν 29 0) = ν 29 0 := am_cR (by omega) (by omega)
  have hi := hb i.toNat (by omega)
  refine am_go (ct := fun _ => false) am_oX2_ways 300 ?_
  conv => whnf
  repeat' first
    | (refine (?_ : am_wp _ _ _ _ _ _ _ _ _ _ _ _); conv => whnf)
    | (refine (?_ : am_sw _ _ _ _); conv => whnf)
    | refine And.intro trivial ?_
    | exact trivial
    | refine And.intro (fun z => absurd z (by rw [ci]; omega)) (fun _ => ?_)
    | refine And.intro (fun _ => ?_) (fun z => absurd z (by rw [ci, cn]; omega))
    | refine x_waysAt _ _ ?_ ?_ ?_ ?_ ?_ ?_ ?_
    | (refine am_qe k ?_)
    | refine And.intro (fun h => absurd h (by decide)) (fun _ => ?_)
    | refine And.intro (fun _ => ?_) (fun h => absurd (by decide) h)
    | refine And.intro (fun _ => ?_) (fun _ => ?_)
    | refine And.intro ?_ ?_
  all_goals (first | decide | assumption | omega | (rw [ci]; omega) | (simp only [ci]; omega) | (simp only [ci]; rfl) | (trace_state; fail))
theorem x_tenthsOver_15_0 {l : Launch} {ν : am_N} {Q : Option am_V → am_N → Prop} (i y s P F W : Int) (hi0 : 0 ≤ i) (hi1 : i < ν 15 4) (hn : ν 15 4 ≤ 4) (eP : ν 18 i.toNat = P) (eF : ν 17 i.toNat = F) (eK : ν 16 i.toNat = 0) (eW : ν 15 1 = W) (p0 : 5 ≤ P) (p1 : P ≤ 40) (f0 : 0 ≤ F) (f1 : F ≤ 9) (w0 : 0 ≤ W) (w1 : W ≤ 2000) (y0 : -1000 ≤ y) (y1 : y ≤ 1000) (s0 : -1000 ≤ s) (s1 : s ≤ 1000) (k : Q (some (.inl (am_T P F 0 W (am_y y) s))) ν) : am_Does l 10 [.inr (.inr 15), .inl i, .inl y, .inl s] ν Q := by
  refine am_Does_of (Nat.le_of_ble_eq_true rfl) (Nat.le_of_ble_eq_true rfl) (Nat.le_of_ble_eq_true rfl) ?_
  have ci : am_c i = i := am_cR (by omega) (by omega)
  have ei : (am_c i).toNat = i.toNat := by rw [ci]
  have c1 : am_c 1 = 1 := rfl
  have c2 : am_c 2 = 2 := rfl
  have c10 : am_c 10 = 10 := rfl
  have c20 : am_c 20 = 20 := rfl
  have c50 : am_c 50 = 50 := rfl
  have cy : am_c y = y := am_cR (by omega) (by omega)
  have cs : am_c s = s := am_cR (by omega) (by omega)
  have cw : am_c W = W := am_cR (by omega) (by omega)
  have hy2 : 1 ≤ am_y y ∧ am_y y ≤ 1000 := by unfold am_y; split <;> omega
  have m1 := am_mulb (a := P) (b := am_y y) (A := 40) (B := 1000) (by omega) (by omega) (by omega) (by omega)
  have m2 := am_mulb (a := W) (b := F) (A := 2000) (B := 9) (by omega) (by omega) (by omega) (by omega)
  have m3 := fun q : 50 < am_y y => am_mulb (a := F) (b := am_y y - 50) (A := 9) (B := 950) (by omega) (by omega) (by omega) (by omega)
  have d1 := am_tdb (a := P * am_y y) (n := 10) (by omega) (by omega)
  have d2 := am_tdb (a := W * F) (n := 10) (by omega) (by omega)
  have d3 := fun q : 50 < am_y y => am_tdb (a := F * (am_y y - 50)) (n := 20) (m3 q).1 (by omega)
  have a1 : am_c (P * am_y y) = P * am_y y := am_cR (by omega) (by omega)
  have a2 : am_c (W * F) = W * F := am_cR (by omega) (by omega)
  have m4 := am_mulb (a := F) (b := am_y y) (A := 9) (B := 1000) (by omega) (by omega) (by omega) (by omega)
  have m5 : F * (am_y y - 50) = F * am_y y - F * 50 := Int.mul_sub _ _ _
  have a3 : am_c (F * (am_y y - 50)) = F * (am_y y - 50) := am_cR (by omega) (by omega)
  have a4 : am_c ((P * am_y y).tdiv 10) = (P * am_y y).tdiv 10 := am_cR (by omega) (by omega)
  have w2 : W.tmod 2 = W % 2 := Int.tmod_eq_emod_of_nonneg w0
  have a6 : am_c (W.tmod 2) = W.tmod 2 := am_cR (by omega) (by omega)
  have cY : am_c (am_y y) = am_y y := am_cR (by omega) (by omega)
  have c00 : am_c 0 = 0 := rfl
  have z20 : (0 : Int).tdiv 20 = 0 := rfl
  have m0 : F * 0 = 0 := Int.mul_zero F
  have t0 : 1 ≤ am_t0 P (am_y y) ∧ am_t0 P (am_y y) ≤ 40000 := by unfold am_t0; split <;> omega
  have cT : am_c (am_t0 P (am_y y)) = am_t0 P (am_y y) := am_cR (by omega) (by omega)
  have t1 : 0 ≤ am_tt F (am_y y) ∧ am_tt F (am_y y) ≤ 8550 := by
    unfold am_tt
    split
    · next q => have h1 := d3 q; have h2 := m3 q; omega
    · omega
  have t2 : 0 ≤ am_ts F W ∧ am_ts F W ≤ 9 := by unfold am_ts; split <;> omega
  have lp49 : ∀ (Y t : Int), Y = am_y y → t = am_t0 P (am_y y) → am_AW l 0 (fun _ => 0) 10 Q 49 [some (.inr (.inr 15)), some (.inl i), some (.inl y), some (.inl s), some (.inl Y), some (.inl t), none, none] [] ν := by
    intro Y t  hv0 hv1
    subst hv0
    subst hv1
    refine am_go (ct := fun pc => Nat.beq pc 49 || Nat.beq pc 26) am_oX0_tenthsOver 300 ?_
    conv => whnf
    repeat' first
      | (refine (?_ : am_wp _ _ _ _ _ _ _ _ _ _ _ _); conv => whnf)
      | (refine (?_ : am_sw _ _ _ _); conv => whnf)
      | refine And.intro trivial ?_
      | exact trivial
      | refine And.intro (fun h => absurd h (by rw [ei, eK]; decide)) (fun _ => ?_)
      | refine And.intro (fun _ => ?_) (fun h => absurd h (by rw [ei, eK]; decide))
      | refine am_qe k ?_
      | refine And.intro (fun h => absurd h (by decide)) (fun _ => ?_)
      | refine And.intro (fun _ => ?_) (fun h => absurd (by decide) h)
      | refine And.intro (fun _ => ?_) (fun _ => ?_)
      | refine And.intro ?_ ?_
    all_goals (first | decide | omega | (unfold am_T; rw [if_neg (by decide), if_neg (by decide), if_neg (by decide), if_neg (by decide), if_neg (by decide)]; done) | (unfold am_T; rw [if_neg (by decide), if_neg (by decide), if_neg (by decide), if_neg (by decide), if_neg (by decide)]; simp only [am_ts, am_tt, ei, ci, eP, eF, eK, eW, c1, c2, c10, c20, c50, cy, cs, cw, a1, a2, a3, a4, a6, cY, cT, c00, z20, m0] at * <;> first | omega | ((repeat' split) <;> first | omega | (simp only [am_c] at * <;> omega))) | (simp only [ei, ci, eP, eF, eK, eW, c1, c2, c10, c20, c50, cy, cs, cw, a1, a2, a3, a4, a6, cY, cT, c00, z20, m0] at * <;> first | omega | (simp only [am_c] at * <;> omega)) | (trace_state; fail))
  have lp26 : ∀ (Y : Int), Y = am_y y → am_AW l 0 (fun _ => 0) 10 Q 26 [some (.inr (.inr 15)), some (.inl i), some (.inl y), some (.inl s), some (.inl Y), none, none, none] [] ν := by
    intro Y  hv0
    subst hv0
    refine am_go (ct := fun pc => Nat.beq pc 49 || Nat.beq pc 26) am_oX0_tenthsOver 300 ?_
    conv => whnf
    repeat' first
      | (refine (?_ : am_wp _ _ _ _ _ _ _ _ _ _ _ _); conv => whnf)
      | (refine (?_ : am_sw _ _ _ _); conv => whnf)
      | refine And.intro trivial ?_
      | exact trivial
      | refine lp49 _ _  ?_ ?_
      | refine And.intro (fun h => absurd h (by decide)) (fun _ => ?_)
      | refine And.intro (fun _ => ?_) (fun h => absurd (by decide) h)
      | refine And.intro (fun _ => ?_) (fun _ => ?_)
      | refine And.intro ?_ ?_
    all_goals (first | assumption | rfl | decide | omega | (unfold am_t0; simp only [ei, ci, eP, eF, eK, eW, c1, c2, c10, c20, c50, cy, cs, cw, a1, a2, a3, a4, a6, cY, cT, c00, z20, m0] at * <;> first | omega | (rw [if_pos (by omega)]) | (rw [if_neg (by omega)]) | ((repeat' split) <;> first | omega | (simp only [am_c] at * <;> omega))) | (simp only [ei, ci, eP, eF, eK, eW, c1, c2, c10, c20, c50, cy, cs, cw, a1, a2, a3, a4, a6, cY, cT, c00, z20, m0] at * <;> first | omega | (simp only [am_c] at * <;> omega)) | (trace_state; fail))
  refine am_go (ct := fun pc => Nat.beq pc 49 || Nat.beq pc 26) am_oX0_tenthsOver 300 ?_
  conv => whnf
  repeat' first
    | (refine (?_ : am_wp _ _ _ _ _ _ _ _ _ _ _ _); conv => whnf)
    | (refine (?_ : am_sw _ _ _ _); conv => whnf)
    | refine And.intro trivial ?_
    | exact trivial
    | refine lp26 _  ?_
    | refine lp49 _ _  ?_ ?_
    | refine And.intro (fun h => absurd h (by decide)) (fun _ => ?_)
    | refine And.intro (fun _ => ?_) (fun h => absurd (by decide) h)
    | refine And.intro (fun _ => ?_) (fun _ => ?_)
    | refine And.intro ?_ ?_
  all_goals (first | assumption | rfl | decide | omega | (unfold am_y; simp only [ei, ci, eP, eF, eK, eW, c1, c2, c10, c20, c50, cy, cs, cw, a1, a2, a3, a4, a6, cY, cT, c00, z20, m0] at * <;> first | omega | (rw [if_pos (by omega)]) | (rw [if_neg (by omega)]) | ((repeat' split) <;> first | omega | (simp only [am_c] at * <;> omega))) | (simp only [ei, ci, eP, eF, eK, eW, c1, c2, c10, c20, c50, cy, cs, cw, a1, a2, a3, a4, a6, cY, cT, c00, z20, m0] at * <;> first | omega | (simp only [am_c] at * <;> omega)) | (trace_state; fail))
theorem x_tenthsOver_15_1 {l : Launch} {ν : am_N} {Q : Option am_V → am_N → Prop} (i y s P F W : Int) (hi0 : 0 ≤ i) (hi1 : i < ν 15 4) (hn : ν 15 4 ≤ 4) (eP : ν 18 i.toNat = P) (eF : ν 17 i.toNat = F) (eK : ν 16 i.toNat = 1) (eW : ν 15 1 = W) (p0 : 5 ≤ P) (p1 : P ≤ 40) (f0 : 0 ≤ F) (f1 : F ≤ 9) (w0 : 0 ≤ W) (w1 : W ≤ 2000) (y0 : -1000 ≤ y) (y1 : y ≤ 1000) (s0 : -1000 ≤ s) (s1 : s ≤ 1000) (k : Q (some (.inl (am_T P F 1 W (am_y y) s))) ν) : am_Does l 10 [.inr (.inr 15), .inl i, .inl y, .inl s] ν Q := by
  refine am_Does_of (Nat.le_of_ble_eq_true rfl) (Nat.le_of_ble_eq_true rfl) (Nat.le_of_ble_eq_true rfl) ?_
  have ci : am_c i = i := am_cR (by omega) (by omega)
  have ei : (am_c i).toNat = i.toNat := by rw [ci]
  have c1 : am_c 1 = 1 := rfl
  have c2 : am_c 2 = 2 := rfl
  have c10 : am_c 10 = 10 := rfl
  have c20 : am_c 20 = 20 := rfl
  have c50 : am_c 50 = 50 := rfl
  have cy : am_c y = y := am_cR (by omega) (by omega)
  have cs : am_c s = s := am_cR (by omega) (by omega)
  have cw : am_c W = W := am_cR (by omega) (by omega)
  have hy2 : 1 ≤ am_y y ∧ am_y y ≤ 1000 := by unfold am_y; split <;> omega
  have m1 := am_mulb (a := P) (b := am_y y) (A := 40) (B := 1000) (by omega) (by omega) (by omega) (by omega)
  have m2 := am_mulb (a := W) (b := F) (A := 2000) (B := 9) (by omega) (by omega) (by omega) (by omega)
  have m3 := fun q : 50 < am_y y => am_mulb (a := F) (b := am_y y - 50) (A := 9) (B := 950) (by omega) (by omega) (by omega) (by omega)
  have d1 := am_tdb (a := P * am_y y) (n := 10) (by omega) (by omega)
  have d2 := am_tdb (a := W * F) (n := 10) (by omega) (by omega)
  have d3 := fun q : 50 < am_y y => am_tdb (a := F * (am_y y - 50)) (n := 20) (m3 q).1 (by omega)
  have a1 : am_c (P * am_y y) = P * am_y y := am_cR (by omega) (by omega)
  have a2 : am_c (W * F) = W * F := am_cR (by omega) (by omega)
  have m4 := am_mulb (a := F) (b := am_y y) (A := 9) (B := 1000) (by omega) (by omega) (by omega) (by omega)
  have m5 : F * (am_y y - 50) = F * am_y y - F * 50 := Int.mul_sub _ _ _
  have a3 : am_c (F * (am_y y - 50)) = F * (am_y y - 50) := am_cR (by omega) (by omega)
  have a4 : am_c ((P * am_y y).tdiv 10) = (P * am_y y).tdiv 10 := am_cR (by omega) (by omega)
  have w2 : W.tmod 2 = W % 2 := Int.tmod_eq_emod_of_nonneg w0
  have a6 : am_c (W.tmod 2) = W.tmod 2 := am_cR (by omega) (by omega)
  have cY : am_c (am_y y) = am_y y := am_cR (by omega) (by omega)
  have c00 : am_c 0 = 0 := rfl
  have z20 : (0 : Int).tdiv 20 = 0 := rfl
  have m0 : F * 0 = 0 := Int.mul_zero F
  have t0 : 1 ≤ am_t0 P (am_y y) ∧ am_t0 P (am_y y) ≤ 40000 := by unfold am_t0; split <;> omega
  have cT : am_c (am_t0 P (am_y y)) = am_t0 P (am_y y) := am_cR (by omega) (by omega)
  have t1 : 0 ≤ am_tt F (am_y y) ∧ am_tt F (am_y y) ≤ 8550 := by
    unfold am_tt
    split
    · next q => have h1 := d3 q; have h2 := m3 q; omega
    · omega
  have t2 : 0 ≤ am_ts F W ∧ am_ts F W ≤ 9 := by unfold am_ts; split <;> omega
  have lp49 : ∀ (Y t : Int), Y = am_y y → t = am_t0 P (am_y y) → am_AW l 0 (fun _ => 0) 10 Q 49 [some (.inr (.inr 15)), some (.inl i), some (.inl y), some (.inl s), some (.inl Y), some (.inl t), none, none] [] ν := by
    intro Y t  hv0 hv1
    subst hv0
    subst hv1
    refine am_go (ct := fun pc => Nat.beq pc 49 || Nat.beq pc 26) am_oX0_tenthsOver 300 ?_
    conv => whnf
    repeat' first
      | (refine (?_ : am_wp _ _ _ _ _ _ _ _ _ _ _ _); conv => whnf)
      | (refine (?_ : am_sw _ _ _ _); conv => whnf)
      | refine And.intro trivial ?_
      | exact trivial
      | refine And.intro (fun h => absurd h (by rw [ei, eK]; decide)) (fun _ => ?_)
      | refine And.intro (fun _ => ?_) (fun h => absurd h (by rw [ei, eK]; decide))
      | refine am_qe k ?_
      | refine And.intro (fun h => absurd h (by decide)) (fun _ => ?_)
      | refine And.intro (fun _ => ?_) (fun h => absurd (by decide) h)
      | refine And.intro (fun _ => ?_) (fun _ => ?_)
      | refine And.intro ?_ ?_
    all_goals (first | decide | omega | (unfold am_T; rw [if_pos rfl]; done) | (unfold am_T; rw [if_pos rfl]; simp only [am_ts, am_tt, ei, ci, eP, eF, eK, eW, c1, c2, c10, c20, c50, cy, cs, cw, a1, a2, a3, a4, a6, cY, cT, c00, z20, m0] at * <;> first | omega | ((repeat' split) <;> first | omega | (simp only [am_c] at * <;> omega))) | (simp only [ei, ci, eP, eF, eK, eW, c1, c2, c10, c20, c50, cy, cs, cw, a1, a2, a3, a4, a6, cY, cT, c00, z20, m0] at * <;> first | omega | (simp only [am_c] at * <;> omega)) | (trace_state; fail))
  have lp26 : ∀ (Y : Int), Y = am_y y → am_AW l 0 (fun _ => 0) 10 Q 26 [some (.inr (.inr 15)), some (.inl i), some (.inl y), some (.inl s), some (.inl Y), none, none, none] [] ν := by
    intro Y  hv0
    subst hv0
    refine am_go (ct := fun pc => Nat.beq pc 49 || Nat.beq pc 26) am_oX0_tenthsOver 300 ?_
    conv => whnf
    repeat' first
      | (refine (?_ : am_wp _ _ _ _ _ _ _ _ _ _ _ _); conv => whnf)
      | (refine (?_ : am_sw _ _ _ _); conv => whnf)
      | refine And.intro trivial ?_
      | exact trivial
      | refine lp49 _ _  ?_ ?_
      | refine And.intro (fun h => absurd h (by decide)) (fun _ => ?_)
      | refine And.intro (fun _ => ?_) (fun h => absurd (by decide) h)
      | refine And.intro (fun _ => ?_) (fun _ => ?_)
      | refine And.intro ?_ ?_
    all_goals (first | assumption | rfl | decide | omega | (unfold am_t0; simp only [ei, ci, eP, eF, eK, eW, c1, c2, c10, c20, c50, cy, cs, cw, a1, a2, a3, a4, a6, cY, cT, c00, z20, m0] at * <;> first | omega | (rw [if_pos (by omega)]) | (rw [if_neg (by omega)]) | ((repeat' split) <;> first | omega | (simp only [am_c] at * <;> omega))) | (simp only [ei, ci, eP, eF, eK, eW, c1, c2, c10, c20, c50, cy, cs, cw, a1, a2, a3, a4, a6, cY, cT, c00, z20, m0] at * <;> first | omega | (simp only [am_c] at * <;> omega)) | (trace_state; fail))
  refine am_go (ct := fun pc => Nat.beq pc 49 || Nat.beq pc 26) am_oX0_tenthsOver 300 ?_
  conv => whnf
  repeat' first
    | (refine (?_ : am_wp _ _ _ _ _ _ _ _ _ _ _ _); conv => whnf)
    | (refine (?_ : am_sw _ _ _ _); conv => whnf)
    | refine And.intro trivial ?_
    | exact trivial
    | refine lp26 _  ?_
    | refine lp49 _ _  ?_ ?_
    | refine And.intro (fun h => absurd h (by decide)) (fun _ => ?_)
    | refine And.intro (fun _ => ?_) (fun h => absurd (by decide) h)
    | refine And.intro (fun _ => ?_) (fun _ => ?_)
    | refine And.intro ?_ ?_
  all_goals (first | assumption | rfl | decide | omega | (unfold am_y; simp only [ei, ci, eP, eF, eK, eW, c1, c2, c10, c20, c50, cy, cs, cw, a1, a2, a3, a4, a6, cY, cT, c00, z20, m0] at * <;> first | omega | (rw [if_pos (by omega)]) | (rw [if_neg (by omega)]) | ((repeat' split) <;> first | omega | (simp only [am_c] at * <;> omega))) | (simp only [ei, ci, eP, eF, eK, eW, c1, c2, c10, c20, c50, cy, cs, cw, a1, a2, a3, a4, a6, cY, cT, c00, z20, m0] at * <;> first | omega | (simp only [am_c] at * <;> omega)) | (trace_state; fail))
theorem x_tenthsOver_15_2 {l : Launch} {ν : am_N} {Q : Option am_V → am_N → Prop} (i y s P F W : Int) (hi0 : 0 ≤ i) (hi1 : i < ν 15 4) (hn : ν 15 4 ≤ 4) (eP : ν 18 i.toNat = P) (eF : ν 17 i.toNat = F) (eK : ν 16 i.toNat = 2) (eW : ν 15 1 = W) (p0 : 5 ≤ P) (p1 : P ≤ 40) (f0 : 0 ≤ F) (f1 : F ≤ 9) (w0 : 0 ≤ W) (w1 : W ≤ 2000) (y0 : -1000 ≤ y) (y1 : y ≤ 1000) (s0 : -1000 ≤ s) (s1 : s ≤ 1000) (k : Q (some (.inl (am_T P F 2 W (am_y y) s))) ν) : am_Does l 10 [.inr (.inr 15), .inl i, .inl y, .inl s] ν Q := by
  refine am_Does_of (Nat.le_of_ble_eq_true rfl) (Nat.le_of_ble_eq_true rfl) (Nat.le_of_ble_eq_true rfl) ?_
  have ci : am_c i = i := am_cR (by omega) (by omega)
  have ei : (am_c i).toNat = i.toNat := by rw [ci]
  have c1 : am_c 1 = 1 := rfl
  have c2 : am_c 2 = 2 := rfl
  have c10 : am_c 10 = 10 := rfl
  have c20 : am_c 20 = 20 := rfl
  have c50 : am_c 50 = 50 := rfl
  have cy : am_c y = y := am_cR (by omega) (by omega)
  have cs : am_c s = s := am_cR (by omega) (by omega)
  have cw : am_c W = W := am_cR (by omega) (by omega)
  have hy2 : 1 ≤ am_y y ∧ am_y y ≤ 1000 := by unfold am_y; split <;> omega
  have m1 := am_mulb (a := P) (b := am_y y) (A := 40) (B := 1000) (by omega) (by omega) (by omega) (by omega)
  have m2 := am_mulb (a := W) (b := F) (A := 2000) (B := 9) (by omega) (by omega) (by omega) (by omega)
  have m3 := fun q : 50 < am_y y => am_mulb (a := F) (b := am_y y - 50) (A := 9) (B := 950) (by omega) (by omega) (by omega) (by omega)
  have d1 := am_tdb (a := P * am_y y) (n := 10) (by omega) (by omega)
  have d2 := am_tdb (a := W * F) (n := 10) (by omega) (by omega)
  have d3 := fun q : 50 < am_y y => am_tdb (a := F * (am_y y - 50)) (n := 20) (m3 q).1 (by omega)
  have a1 : am_c (P * am_y y) = P * am_y y := am_cR (by omega) (by omega)
  have a2 : am_c (W * F) = W * F := am_cR (by omega) (by omega)
  have m4 := am_mulb (a := F) (b := am_y y) (A := 9) (B := 1000) (by omega) (by omega) (by omega) (by omega)
  have m5 : F * (am_y y - 50) = F * am_y y - F * 50 := Int.mul_sub _ _ _
  have a3 : am_c (F * (am_y y - 50)) = F * (am_y y - 50) := am_cR (by omega) (by omega)
  have a4 : am_c ((P * am_y y).tdiv 10) = (P * am_y y).tdiv 10 := am_cR (by omega) (by omega)
  have w2 : W.tmod 2 = W % 2 := Int.tmod_eq_emod_of_nonneg w0
  have a6 : am_c (W.tmod 2) = W.tmod 2 := am_cR (by omega) (by omega)
  have cY : am_c (am_y y) = am_y y := am_cR (by omega) (by omega)
  have c00 : am_c 0 = 0 := rfl
  have z20 : (0 : Int).tdiv 20 = 0 := rfl
  have m0 : F * 0 = 0 := Int.mul_zero F
  have t0 : 1 ≤ am_t0 P (am_y y) ∧ am_t0 P (am_y y) ≤ 40000 := by unfold am_t0; split <;> omega
  have cT : am_c (am_t0 P (am_y y)) = am_t0 P (am_y y) := am_cR (by omega) (by omega)
  have t1 : 0 ≤ am_tt F (am_y y) ∧ am_tt F (am_y y) ≤ 8550 := by
    unfold am_tt
    split
    · next q => have h1 := d3 q; have h2 := m3 q; omega
    · omega
  have t2 : 0 ≤ am_ts F W ∧ am_ts F W ≤ 9 := by unfold am_ts; split <;> omega
  have lp49 : ∀ (Y t : Int), Y = am_y y → t = am_t0 P (am_y y) → am_AW l 0 (fun _ => 0) 10 Q 49 [some (.inr (.inr 15)), some (.inl i), some (.inl y), some (.inl s), some (.inl Y), some (.inl t), none, none] [] ν := by
    intro Y t  hv0 hv1
    subst hv0
    subst hv1
    refine am_go (ct := fun pc => Nat.beq pc 49 || Nat.beq pc 26) am_oX0_tenthsOver 300 ?_
    conv => whnf
    repeat' first
      | (refine (?_ : am_wp _ _ _ _ _ _ _ _ _ _ _ _); conv => whnf)
      | (refine (?_ : am_sw _ _ _ _); conv => whnf)
      | refine And.intro trivial ?_
      | exact trivial
      | refine And.intro (fun h => absurd h (by rw [ei, eK]; decide)) (fun _ => ?_)
      | refine And.intro (fun _ => ?_) (fun h => absurd h (by rw [ei, eK]; decide))
      | refine am_qe k ?_
      | refine And.intro (fun h => absurd h (by decide)) (fun _ => ?_)
      | refine And.intro (fun _ => ?_) (fun h => absurd (by decide) h)
      | refine And.intro (fun _ => ?_) (fun _ => ?_)
      | refine And.intro ?_ ?_
    all_goals (first | decide | omega | (unfold am_T; rw [if_neg (by decide), if_pos rfl]; done) | (unfold am_T; rw [if_neg (by decide), if_pos rfl]; simp only [am_ts, am_tt, ei, ci, eP, eF, eK, eW, c1, c2, c10, c20, c50, cy, cs, cw, a1, a2, a3, a4, a6, cY, cT, c00, z20, m0] at * <;> first | omega | ((repeat' split) <;> first | omega | (simp only [am_c] at * <;> omega))) | (simp only [ei, ci, eP, eF, eK, eW, c1, c2, c10, c20, c50, cy, cs, cw, a1, a2, a3, a4, a6, cY, cT, c00, z20, m0] at * <;> first | omega | (simp only [am_c] at * <;> omega)) | (trace_state; fail))
  have lp26 : ∀ (Y : Int), Y = am_y y → am_AW l 0 (fun _ => 0) 10 Q 26 [some (.inr (.inr 15)), some (.inl i), some (.inl y), some (.inl s), some (.inl Y), none, none, none] [] ν := by
    intro Y  hv0
    subst hv0
    refine am_go (ct := fun pc => Nat.beq pc 49 || Nat.beq pc 26) am_oX0_tenthsOver 300 ?_
    conv => whnf
    repeat' first
      | (refine (?_ : am_wp _ _ _ _ _ _ _ _ _ _ _ _); conv => whnf)
      | (refine (?_ : am_sw _ _ _ _); conv => whnf)
      | refine And.intro trivial ?_
      | exact trivial
      | refine lp49 _ _  ?_ ?_
      | refine And.intro (fun h => absurd h (by decide)) (fun _ => ?_)
      | refine And.intro (fun _ => ?_) (fun h => absurd (by decide) h)
      | refine And.intro (fun _ => ?_) (fun _ => ?_)
      | refine And.intro ?_ ?_
    all_goals (first | assumption | rfl | decide | omega | (unfold am_t0; simp only [ei, ci, eP, eF, eK, eW, c1, c2, c10, c20, c50, cy, cs, cw, a1, a2, a3, a4, a6, cY, cT, c00, z20, m0] at * <;> first | omega | (rw [if_pos (by omega)]) | (rw [if_neg (by omega)]) | ((repeat' split) <;> first | omega | (simp only [am_c] at * <;> omega))) | (simp only [ei, ci, eP, eF, eK, eW, c1, c2, c10, c20, c50, cy, cs, cw, a1, a2, a3, a4, a6, cY, cT, c00, z20, m0] at * <;> first | omega | (simp only [am_c] at * <;> omega)) | (trace_state; fail))
  refine am_go (ct := fun pc => Nat.beq pc 49 || Nat.beq pc 26) am_oX0_tenthsOver 300 ?_
  conv => whnf
  repeat' first
    | (refine (?_ : am_wp _ _ _ _ _ _ _ _ _ _ _ _); conv => whnf)
    | (refine (?_ : am_sw _ _ _ _); conv => whnf)
    | refine And.intro trivial ?_
    | exact trivial
    | refine lp26 _  ?_
    | refine lp49 _ _  ?_ ?_
    | refine And.intro (fun h => absurd h (by decide)) (fun _ => ?_)
    | refine And.intro (fun _ => ?_) (fun h => absurd (by decide) h)
    | refine And.intro (fun _ => ?_) (fun _ => ?_)
    | refine And.intro ?_ ?_
  all_goals (first | assumption | rfl | decide | omega | (unfold am_y; simp only [ei, ci, eP, eF, eK, eW, c1, c2, c10, c20, c50, cy, cs, cw, a1, a2, a3, a4, a6, cY, cT, c00, z20, m0] at * <;> first | omega | (rw [if_pos (by omega)]) | (rw [if_neg (by omega)]) | ((repeat' split) <;> first | omega | (simp only [am_c] at * <;> omega))) | (simp only [ei, ci, eP, eF, eK, eW, c1, c2, c10, c20, c50, cy, cs, cw, a1, a2, a3, a4, a6, cY, cT, c00, z20, m0] at * <;> first | omega | (simp only [am_c] at * <;> omega)) | (trace_state; fail))
theorem x_tenthsOver_15_3 {l : Launch} {ν : am_N} {Q : Option am_V → am_N → Prop} (i y s P F W : Int) (hi0 : 0 ≤ i) (hi1 : i < ν 15 4) (hn : ν 15 4 ≤ 4) (eP : ν 18 i.toNat = P) (eF : ν 17 i.toNat = F) (eK : ν 16 i.toNat = 3) (eW : ν 15 1 = W) (p0 : 5 ≤ P) (p1 : P ≤ 40) (f0 : 0 ≤ F) (f1 : F ≤ 9) (w0 : 0 ≤ W) (w1 : W ≤ 2000) (y0 : -1000 ≤ y) (y1 : y ≤ 1000) (s0 : -1000 ≤ s) (s1 : s ≤ 1000) (k : Q (some (.inl (am_T P F 3 W (am_y y) s))) ν) : am_Does l 10 [.inr (.inr 15), .inl i, .inl y, .inl s] ν Q := by
  refine am_Does_of (Nat.le_of_ble_eq_true rfl) (Nat.le_of_ble_eq_true rfl) (Nat.le_of_ble_eq_true rfl) ?_
  have ci : am_c i = i := am_cR (by omega) (by omega)
  have ei : (am_c i).toNat = i.toNat := by rw [ci]
  have c1 : am_c 1 = 1 := rfl
  have c2 : am_c 2 = 2 := rfl
  have c10 : am_c 10 = 10 := rfl
  have c20 : am_c 20 = 20 := rfl
  have c50 : am_c 50 = 50 := rfl
  have cy : am_c y = y := am_cR (by omega) (by omega)
  have cs : am_c s = s := am_cR (by omega) (by omega)
  have cw : am_c W = W := am_cR (by omega) (by omega)
  have hy2 : 1 ≤ am_y y ∧ am_y y ≤ 1000 := by unfold am_y; split <;> omega
  have m1 := am_mulb (a := P) (b := am_y y) (A := 40) (B := 1000) (by omega) (by omega) (by omega) (by omega)
  have m2 := am_mulb (a := W) (b := F) (A := 2000) (B := 9) (by omega) (by omega) (by omega) (by omega)
  have m3 := fun q : 50 < am_y y => am_mulb (a := F) (b := am_y y - 50) (A := 9) (B := 950) (by omega) (by omega) (by omega) (by omega)
  have d1 := am_tdb (a := P * am_y y) (n := 10) (by omega) (by omega)
  have d2 := am_tdb (a := W * F) (n := 10) (by omega) (by omega)
  have d3 := fun q : 50 < am_y y => am_tdb (a := F * (am_y y - 50)) (n := 20) (m3 q).1 (by omega)
  have a1 : am_c (P * am_y y) = P * am_y y := am_cR (by omega) (by omega)
  have a2 : am_c (W * F) = W * F := am_cR (by omega) (by omega)
  have m4 := am_mulb (a := F) (b := am_y y) (A := 9) (B := 1000) (by omega) (by omega) (by omega) (by omega)
  have m5 : F * (am_y y - 50) = F * am_y y - F * 50 := Int.mul_sub _ _ _
  have a3 : am_c (F * (am_y y - 50)) = F * (am_y y - 50) := am_cR (by omega) (by omega)
  have a4 : am_c ((P * am_y y).tdiv 10) = (P * am_y y).tdiv 10 := am_cR (by omega) (by omega)
  have w2 : W.tmod 2 = W % 2 := Int.tmod_eq_emod_of_nonneg w0
  have a6 : am_c (W.tmod 2) = W.tmod 2 := am_cR (by omega) (by omega)
  have cY : am_c (am_y y) = am_y y := am_cR (by omega) (by omega)
  have c00 : am_c 0 = 0 := rfl
  have z20 : (0 : Int).tdiv 20 = 0 := rfl
  have m0 : F * 0 = 0 := Int.mul_zero F
  have t0 : 1 ≤ am_t0 P (am_y y) ∧ am_t0 P (am_y y) ≤ 40000 := by unfold am_t0; split <;> omega
  have cT : am_c (am_t0 P (am_y y)) = am_t0 P (am_y y) := am_cR (by omega) (by omega)
  have t1 : 0 ≤ am_tt F (am_y y) ∧ am_tt F (am_y y) ≤ 8550 := by
    unfold am_tt
    split
    · next q => have h1 := d3 q; have h2 := m3 q; omega
    · omega
  have t2 : 0 ≤ am_ts F W ∧ am_ts F W ≤ 9 := by unfold am_ts; split <;> omega
  have lp49 : ∀ (Y t : Int), Y = am_y y → t = am_t0 P (am_y y) → am_AW l 0 (fun _ => 0) 10 Q 49 [some (.inr (.inr 15)), some (.inl i), some (.inl y), some (.inl s), some (.inl Y), some (.inl t), none, none] [] ν := by
    intro Y t  hv0 hv1
    subst hv0
    subst hv1
    refine am_go (ct := fun pc => Nat.beq pc 49 || Nat.beq pc 26) am_oX0_tenthsOver 300 ?_
    conv => whnf
    repeat' first
      | (refine (?_ : am_wp _ _ _ _ _ _ _ _ _ _ _ _); conv => whnf)
      | (refine (?_ : am_sw _ _ _ _); conv => whnf)
      | refine And.intro trivial ?_
      | exact trivial
      | refine And.intro (fun h => absurd h (by rw [ei, eK]; decide)) (fun _ => ?_)
      | refine And.intro (fun _ => ?_) (fun h => absurd h (by rw [ei, eK]; decide))
      | refine am_qe k ?_
      | refine And.intro (fun h => absurd h (by decide)) (fun _ => ?_)
      | refine And.intro (fun _ => ?_) (fun h => absurd (by decide) h)
      | refine And.intro (fun _ => ?_) (fun _ => ?_)
      | refine And.intro ?_ ?_
    all_goals (first | decide | omega | (unfold am_T; rw [if_neg (by decide), if_neg (by decide), if_pos rfl]; done) | (unfold am_T; rw [if_neg (by decide), if_neg (by decide), if_pos rfl]; simp only [am_ts, am_tt, ei, ci, eP, eF, eK, eW, c1, c2, c10, c20, c50, cy, cs, cw, a1, a2, a3, a4, a6, cY, cT, c00, z20, m0] at * <;> first | omega | ((repeat' split) <;> first | omega | (simp only [am_c] at * <;> omega))) | (simp only [ei, ci, eP, eF, eK, eW, c1, c2, c10, c20, c50, cy, cs, cw, a1, a2, a3, a4, a6, cY, cT, c00, z20, m0] at * <;> first | omega | (simp only [am_c] at * <;> omega)) | (trace_state; fail))
  have lp26 : ∀ (Y : Int), Y = am_y y → am_AW l 0 (fun _ => 0) 10 Q 26 [some (.inr (.inr 15)), some (.inl i), some (.inl y), some (.inl s), some (.inl Y), none, none, none] [] ν := by
    intro Y  hv0
    subst hv0
    refine am_go (ct := fun pc => Nat.beq pc 49 || Nat.beq pc 26) am_oX0_tenthsOver 300 ?_
    conv => whnf
    repeat' first
      | (refine (?_ : am_wp _ _ _ _ _ _ _ _ _ _ _ _); conv => whnf)
      | (refine (?_ : am_sw _ _ _ _); conv => whnf)
      | refine And.intro trivial ?_
      | exact trivial
      | refine lp49 _ _  ?_ ?_
      | refine And.intro (fun h => absurd h (by decide)) (fun _ => ?_)
      | refine And.intro (fun _ => ?_) (fun h => absurd (by decide) h)
      | refine And.intro (fun _ => ?_) (fun _ => ?_)
      | refine And.intro ?_ ?_
    all_goals (first | assumption | rfl | decide | omega | (unfold am_t0; simp only [ei, ci, eP, eF, eK, eW, c1, c2, c10, c20, c50, cy, cs, cw, a1, a2, a3, a4, a6, cY, cT, c00, z20, m0] at * <;> first | omega | (rw [if_pos (by omega)]) | (rw [if_neg (by omega)]) | ((repeat' split) <;> first | omega | (simp only [am_c] at * <;> omega))) | (simp only [ei, ci, eP, eF, eK, eW, c1, c2, c10, c20, c50, cy, cs, cw, a1, a2, a3, a4, a6, cY, cT, c00, z20, m0] at * <;> first | omega | (simp only [am_c] at * <;> omega)) | (trace_state; fail))
  refine am_go (ct := fun pc => Nat.beq pc 49 || Nat.beq pc 26) am_oX0_tenthsOver 300 ?_
  conv => whnf
  repeat' first
    | (refine (?_ : am_wp _ _ _ _ _ _ _ _ _ _ _ _); conv => whnf)
    | (refine (?_ : am_sw _ _ _ _); conv => whnf)
    | refine And.intro trivial ?_
    | exact trivial
    | refine lp26 _  ?_
    | refine lp49 _ _  ?_ ?_
    | refine And.intro (fun h => absurd h (by decide)) (fun _ => ?_)
    | refine And.intro (fun _ => ?_) (fun h => absurd (by decide) h)
    | refine And.intro (fun _ => ?_) (fun _ => ?_)
    | refine And.intro ?_ ?_
  all_goals (first | assumption | rfl | decide | omega | (unfold am_y; simp only [ei, ci, eP, eF, eK, eW, c1, c2, c10, c20, c50, cy, cs, cw, a1, a2, a3, a4, a6, cY, cT, c00, z20, m0] at * <;> first | omega | (rw [if_pos (by omega)]) | (rw [if_neg (by omega)]) | ((repeat' split) <;> first | omega | (simp only [am_c] at * <;> omega))) | (simp only [ei, ci, eP, eF, eK, eW, c1, c2, c10, c20, c50, cy, cs, cw, a1, a2, a3, a4, a6, cY, cT, c00, z20, m0] at * <;> first | omega | (simp only [am_c] at * <;> omega)) | (trace_state; fail))
theorem x_tenthsOver_15_4 {l : Launch} {ν : am_N} {Q : Option am_V → am_N → Prop} (i y s P F W : Int) (hi0 : 0 ≤ i) (hi1 : i < ν 15 4) (hn : ν 15 4 ≤ 4) (eP : ν 18 i.toNat = P) (eF : ν 17 i.toNat = F) (eK : ν 16 i.toNat = 4) (eW : ν 15 1 = W) (p0 : 5 ≤ P) (p1 : P ≤ 40) (f0 : 0 ≤ F) (f1 : F ≤ 9) (w0 : 0 ≤ W) (w1 : W ≤ 2000) (y0 : -1000 ≤ y) (y1 : y ≤ 1000) (s0 : -1000 ≤ s) (s1 : s ≤ 1000) (k : Q (some (.inl (am_T P F 4 W (am_y y) s))) ν) : am_Does l 10 [.inr (.inr 15), .inl i, .inl y, .inl s] ν Q := by
  refine am_Does_of (Nat.le_of_ble_eq_true rfl) (Nat.le_of_ble_eq_true rfl) (Nat.le_of_ble_eq_true rfl) ?_
  have ci : am_c i = i := am_cR (by omega) (by omega)
  have ei : (am_c i).toNat = i.toNat := by rw [ci]
  have c1 : am_c 1 = 1 := rfl
  have c2 : am_c 2 = 2 := rfl
  have c10 : am_c 10 = 10 := rfl
  have c20 : am_c 20 = 20 := rfl
  have c50 : am_c 50 = 50 := rfl
  have cy : am_c y = y := am_cR (by omega) (by omega)
  have cs : am_c s = s := am_cR (by omega) (by omega)
  have cw : am_c W = W := am_cR (by omega) (by omega)
  have hy2 : 1 ≤ am_y y ∧ am_y y ≤ 1000 := by unfold am_y; split <;> omega
  have m1 := am_mulb (a := P) (b := am_y y) (A := 40) (B := 1000) (by omega) (by omega) (by omega) (by omega)
  have m2 := am_mulb (a := W) (b := F) (A := 2000) (B := 9) (by omega) (by omega) (by omega) (by omega)
  have m3 := fun q : 50 < am_y y => am_mulb (a := F) (b := am_y y - 50) (A := 9) (B := 950) (by omega) (by omega) (by omega) (by omega)
  have d1 := am_tdb (a := P * am_y y) (n := 10) (by omega) (by omega)
  have d2 := am_tdb (a := W * F) (n := 10) (by omega) (by omega)
  have d3 := fun q : 50 < am_y y => am_tdb (a := F * (am_y y - 50)) (n := 20) (m3 q).1 (by omega)
  have a1 : am_c (P * am_y y) = P * am_y y := am_cR (by omega) (by omega)
  have a2 : am_c (W * F) = W * F := am_cR (by omega) (by omega)
  have m4 := am_mulb (a := F) (b := am_y y) (A := 9) (B := 1000) (by omega) (by omega) (by omega) (by omega)
  have m5 : F * (am_y y - 50) = F * am_y y - F * 50 := Int.mul_sub _ _ _
  have a3 : am_c (F * (am_y y - 50)) = F * (am_y y - 50) := am_cR (by omega) (by omega)
  have a4 : am_c ((P * am_y y).tdiv 10) = (P * am_y y).tdiv 10 := am_cR (by omega) (by omega)
  have w2 : W.tmod 2 = W % 2 := Int.tmod_eq_emod_of_nonneg w0
  have a6 : am_c (W.tmod 2) = W.tmod 2 := am_cR (by omega) (by omega)
  have cY : am_c (am_y y) = am_y y := am_cR (by omega) (by omega)
  have c00 : am_c 0 = 0 := rfl
  have z20 : (0 : Int).tdiv 20 = 0 := rfl
  have m0 : F * 0 = 0 := Int.mul_zero F
  have t0 : 1 ≤ am_t0 P (am_y y) ∧ am_t0 P (am_y y) ≤ 40000 := by unfold am_t0; split <;> omega
  have cT : am_c (am_t0 P (am_y y)) = am_t0 P (am_y y) := am_cR (by omega) (by omega)
  have t1 : 0 ≤ am_tt F (am_y y) ∧ am_tt F (am_y y) ≤ 8550 := by
    unfold am_tt
    split
    · next q => have h1 := d3 q; have h2 := m3 q; omega
    · omega
  have t2 : 0 ≤ am_ts F W ∧ am_ts F W ≤ 9 := by unfold am_ts; split <;> omega
  have lp49 : ∀ (Y t : Int), Y = am_y y → t = am_t0 P (am_y y) → am_AW l 0 (fun _ => 0) 10 Q 49 [some (.inr (.inr 15)), some (.inl i), some (.inl y), some (.inl s), some (.inl Y), some (.inl t), none, none] [] ν := by
    intro Y t  hv0 hv1
    subst hv0
    subst hv1
    refine am_go (ct := fun pc => Nat.beq pc 49 || Nat.beq pc 26) am_oX0_tenthsOver 300 ?_
    conv => whnf
    repeat' first
      | (refine (?_ : am_wp _ _ _ _ _ _ _ _ _ _ _ _); conv => whnf)
      | (refine (?_ : am_sw _ _ _ _); conv => whnf)
      | refine And.intro trivial ?_
      | exact trivial
      | refine And.intro (fun h => absurd h (by rw [ei, eK]; decide)) (fun _ => ?_)
      | refine And.intro (fun _ => ?_) (fun h => absurd h (by rw [ei, eK]; decide))
      | refine am_qe k ?_
      | refine And.intro (fun h => absurd h (by decide)) (fun _ => ?_)
      | refine And.intro (fun _ => ?_) (fun h => absurd (by decide) h)
      | refine And.intro (fun _ => ?_) (fun _ => ?_)
      | refine And.intro ?_ ?_
    all_goals (first | decide | omega | (unfold am_T; rw [if_neg (by decide), if_neg (by decide), if_neg (by decide), if_pos rfl]; done) | (unfold am_T; rw [if_neg (by decide), if_neg (by decide), if_neg (by decide), if_pos rfl]; simp only [am_ts, am_tt, ei, ci, eP, eF, eK, eW, c1, c2, c10, c20, c50, cy, cs, cw, a1, a2, a3, a4, a6, cY, cT, c00, z20, m0] at * <;> first | omega | ((repeat' split) <;> first | omega | (simp only [am_c] at * <;> omega))) | (simp only [ei, ci, eP, eF, eK, eW, c1, c2, c10, c20, c50, cy, cs, cw, a1, a2, a3, a4, a6, cY, cT, c00, z20, m0] at * <;> first | omega | (simp only [am_c] at * <;> omega)) | (trace_state; fail))
  have lp26 : ∀ (Y : Int), Y = am_y y → am_AW l 0 (fun _ => 0) 10 Q 26 [some (.inr (.inr 15)), some (.inl i), some (.inl y), some (.inl s), some (.inl Y), none, none, none] [] ν := by
    intro Y  hv0
    subst hv0
    refine am_go (ct := fun pc => Nat.beq pc 49 || Nat.beq pc 26) am_oX0_tenthsOver 300 ?_
    conv => whnf
    repeat' first
      | (refine (?_ : am_wp _ _ _ _ _ _ _ _ _ _ _ _); conv => whnf)
      | (refine (?_ : am_sw _ _ _ _); conv => whnf)
      | refine And.intro trivial ?_
      | exact trivial
      | refine lp49 _ _  ?_ ?_
      | refine And.intro (fun h => absurd h (by decide)) (fun _ => ?_)
      | refine And.intro (fun _ => ?_) (fun h => absurd (by decide) h)
      | refine And.intro (fun _ => ?_) (fun _ => ?_)
      | refine And.intro ?_ ?_
    all_goals (first | assumption | rfl | decide | omega | (unfold am_t0; simp only [ei, ci, eP, eF, eK, eW, c1, c2, c10, c20, c50, cy, cs, cw, a1, a2, a3, a4, a6, cY, cT, c00, z20, m0] at * <;> first | omega | (rw [if_pos (by omega)]) | (rw [if_neg (by omega)]) | ((repeat' split) <;> first | omega | (simp only [am_c] at * <;> omega))) | (simp only [ei, ci, eP, eF, eK, eW, c1, c2, c10, c20, c50, cy, cs, cw, a1, a2, a3, a4, a6, cY, cT, c00, z20, m0] at * <;> first | omega | (simp only [am_c] at * <;> omega)) | (trace_state; fail))
  refine am_go (ct := fun pc => Nat.beq pc 49 || Nat.beq pc 26) am_oX0_tenthsOver 300 ?_
  conv => whnf
  repeat' first
    | (refine (?_ : am_wp _ _ _ _ _ _ _ _ _ _ _ _); conv => whnf)
    | (refine (?_ : am_sw _ _ _ _); conv => whnf)
    | refine And.intro trivial ?_
    | exact trivial
    | refine lp26 _  ?_
    | refine lp49 _ _  ?_ ?_
    | refine And.intro (fun h => absurd h (by decide)) (fun _ => ?_)
    | refine And.intro (fun _ => ?_) (fun h => absurd (by decide) h)
    | refine And.intro (fun _ => ?_) (fun _ => ?_)
    | refine And.intro ?_ ?_
  all_goals (first | assumption | rfl | decide | omega | (unfold am_y; simp only [ei, ci, eP, eF, eK, eW, c1, c2, c10, c20, c50, cy, cs, cw, a1, a2, a3, a4, a6, cY, cT, c00, z20, m0] at * <;> first | omega | (rw [if_pos (by omega)]) | (rw [if_neg (by omega)]) | ((repeat' split) <;> first | omega | (simp only [am_c] at * <;> omega))) | (simp only [ei, ci, eP, eF, eK, eW, c1, c2, c10, c20, c50, cy, cs, cw, a1, a2, a3, a4, a6, cY, cT, c00, z20, m0] at * <;> first | omega | (simp only [am_c] at * <;> omega)) | (trace_state; fail))
theorem x_tenthsOver_15_5 {l : Launch} {ν : am_N} {Q : Option am_V → am_N → Prop} (i y s P F W : Int) (hi0 : 0 ≤ i) (hi1 : i < ν 15 4) (hn : ν 15 4 ≤ 4) (eP : ν 18 i.toNat = P) (eF : ν 17 i.toNat = F) (eK : ν 16 i.toNat = 5) (eW : ν 15 1 = W) (p0 : 5 ≤ P) (p1 : P ≤ 40) (f0 : 0 ≤ F) (f1 : F ≤ 9) (w0 : 0 ≤ W) (w1 : W ≤ 2000) (y0 : -1000 ≤ y) (y1 : y ≤ 1000) (s0 : -1000 ≤ s) (s1 : s ≤ 1000) (k : Q (some (.inl (am_T P F 5 W (am_y y) s))) ν) : am_Does l 10 [.inr (.inr 15), .inl i, .inl y, .inl s] ν Q := by
  refine am_Does_of (Nat.le_of_ble_eq_true rfl) (Nat.le_of_ble_eq_true rfl) (Nat.le_of_ble_eq_true rfl) ?_
  have ci : am_c i = i := am_cR (by omega) (by omega)
  have ei : (am_c i).toNat = i.toNat := by rw [ci]
  have c1 : am_c 1 = 1 := rfl
  have c2 : am_c 2 = 2 := rfl
  have c10 : am_c 10 = 10 := rfl
  have c20 : am_c 20 = 20 := rfl
  have c50 : am_c 50 = 50 := rfl
  have cy : am_c y = y := am_cR (by omega) (by omega)
  have cs : am_c s = s := am_cR (by omega) (by omega)
  have cw : am_c W = W := am_cR (by omega) (by omega)
  have hy2 : 1 ≤ am_y y ∧ am_y y ≤ 1000 := by unfold am_y; split <;> omega
  have m1 := am_mulb (a := P) (b := am_y y) (A := 40) (B := 1000) (by omega) (by omega) (by omega) (by omega)
  have m2 := am_mulb (a := W) (b := F) (A := 2000) (B := 9) (by omega) (by omega) (by omega) (by omega)
  have m3 := fun q : 50 < am_y y => am_mulb (a := F) (b := am_y y - 50) (A := 9) (B := 950) (by omega) (by omega) (by omega) (by omega)
  have d1 := am_tdb (a := P * am_y y) (n := 10) (by omega) (by omega)
  have d2 := am_tdb (a := W * F) (n := 10) (by omega) (by omega)
  have d3 := fun q : 50 < am_y y => am_tdb (a := F * (am_y y - 50)) (n := 20) (m3 q).1 (by omega)
  have a1 : am_c (P * am_y y) = P * am_y y := am_cR (by omega) (by omega)
  have a2 : am_c (W * F) = W * F := am_cR (by omega) (by omega)
  have m4 := am_mulb (a := F) (b := am_y y) (A := 9) (B := 1000) (by omega) (by omega) (by omega) (by omega)
  have m5 : F * (am_y y - 50) = F * am_y y - F * 50 := Int.mul_sub _ _ _
  have a3 : am_c (F * (am_y y - 50)) = F * (am_y y - 50) := am_cR (by omega) (by omega)
  have a4 : am_c ((P * am_y y).tdiv 10) = (P * am_y y).tdiv 10 := am_cR (by omega) (by omega)
  have w2 : W.tmod 2 = W % 2 := Int.tmod_eq_emod_of_nonneg w0
  have a6 : am_c (W.tmod 2) = W.tmod 2 := am_cR (by omega) (by omega)
  have cY : am_c (am_y y) = am_y y := am_cR (by omega) (by omega)
  have c00 : am_c 0 = 0 := rfl
  have z20 : (0 : Int).tdiv 20 = 0 := rfl
  have m0 : F * 0 = 0 := Int.mul_zero F
  have t0 : 1 ≤ am_t0 P (am_y y) ∧ am_t0 P (am_y y) ≤ 40000 := by unfold am_t0; split <;> omega
  have cT : am_c (am_t0 P (am_y y)) = am_t0 P (am_y y) := am_cR (by omega) (by omega)
  have t1 : 0 ≤ am_tt F (am_y y) ∧ am_tt F (am_y y) ≤ 8550 := by
    unfold am_tt
    split
    · next q => have h1 := d3 q; have h2 := m3 q; omega
    · omega
  have t2 : 0 ≤ am_ts F W ∧ am_ts F W ≤ 9 := by unfold am_ts; split <;> omega
  have lp49 : ∀ (Y t : Int), Y = am_y y → t = am_t0 P (am_y y) → am_AW l 0 (fun _ => 0) 10 Q 49 [some (.inr (.inr 15)), some (.inl i), some (.inl y), some (.inl s), some (.inl Y), some (.inl t), none, none] [] ν := by
    intro Y t  hv0 hv1
    subst hv0
    subst hv1
    refine am_go (ct := fun pc => Nat.beq pc 49 || Nat.beq pc 26) am_oX0_tenthsOver 300 ?_
    conv => whnf
    repeat' first
      | (refine (?_ : am_wp _ _ _ _ _ _ _ _ _ _ _ _); conv => whnf)
      | (refine (?_ : am_sw _ _ _ _); conv => whnf)
      | refine And.intro trivial ?_
      | exact trivial
      | refine And.intro (fun h => absurd h (by rw [ei, eK]; decide)) (fun _ => ?_)
      | refine And.intro (fun _ => ?_) (fun h => absurd h (by rw [ei, eK]; decide))
      | refine am_qe k ?_
      | refine And.intro (fun h => absurd h (by decide)) (fun _ => ?_)
      | refine And.intro (fun _ => ?_) (fun h => absurd (by decide) h)
      | refine And.intro (fun _ => ?_) (fun _ => ?_)
      | refine And.intro ?_ ?_
    all_goals (first | decide | omega | (unfold am_T; rw [if_neg (by decide), if_neg (by decide), if_neg (by decide), if_neg (by decide), if_pos rfl]; done) | (unfold am_T; rw [if_neg (by decide), if_neg (by decide), if_neg (by decide), if_neg (by decide), if_pos rfl]; simp only [am_ts, am_tt, ei, ci, eP, eF, eK, eW, c1, c2, c10, c20, c50, cy, cs, cw, a1, a2, a3, a4, a6, cY, cT, c00, z20, m0] at * <;> first | omega | ((repeat' split) <;> first | omega | (simp only [am_c] at * <;> omega))) | (simp only [ei, ci, eP, eF, eK, eW, c1, c2, c10, c20, c50, cy, cs, cw, a1, a2, a3, a4, a6, cY, cT, c00, z20, m0] at * <;> first | omega | (simp only [am_c] at * <;> omega)) | (trace_state; fail))
  have lp26 : ∀ (Y : Int), Y = am_y y → am_AW l 0 (fun _ => 0) 10 Q 26 [some (.inr (.inr 15)), some (.inl i), some (.inl y), some (.inl s), some (.inl Y), none, none, none] [] ν := by
    intro Y  hv0
    subst hv0
    refine am_go (ct := fun pc => Nat.beq pc 49 || Nat.beq pc 26) am_oX0_tenthsOver 300 ?_
    conv => whnf
    repeat' first
      | (refine (?_ : am_wp _ _ _ _ _ _ _ _ _ _ _ _); conv => whnf)
      | (refine (?_ : am_sw _ _ _ _); conv => whnf)
      | refine And.intro trivial ?_
      | exact trivial
      | refine lp49 _ _  ?_ ?_
      | refine And.intro (fun h => absurd h (by decide)) (fun _ => ?_)
      | refine And.intro (fun _ => ?_) (fun h => absurd (by decide) h)
      | refine And.intro (fun _ => ?_) (fun _ => ?_)
      | refine And.intro ?_ ?_
    all_goals (first | assumption | rfl | decide | omega | (unfold am_t0; simp only [ei, ci, eP, eF, eK, eW, c1, c2, c10, c20, c50, cy, cs, cw, a1, a2, a3, a4, a6, cY, cT, c00, z20, m0] at * <;> first | omega | (rw [if_pos (by omega)]) | (rw [if_neg (by omega)]) | ((repeat' split) <;> first | omega | (simp only [am_c] at * <;> omega))) | (simp only [ei, ci, eP, eF, eK, eW, c1, c2, c10, c20, c50, cy, cs, cw, a1, a2, a3, a4, a6, cY, cT, c00, z20, m0] at * <;> first | omega | (simp only [am_c] at * <;> omega)) | (trace_state; fail))
  refine am_go (ct := fun pc => Nat.beq pc 49 || Nat.beq pc 26) am_oX0_tenthsOver 300 ?_
  conv => whnf
  repeat' first
    | (refine (?_ : am_wp _ _ _ _ _ _ _ _ _ _ _ _); conv => whnf)
    | (refine (?_ : am_sw _ _ _ _); conv => whnf)
    | refine And.intro trivial ?_
    | exact trivial
    | refine lp26 _  ?_
    | refine lp49 _ _  ?_ ?_
    | refine And.intro (fun h => absurd h (by decide)) (fun _ => ?_)
    | refine And.intro (fun _ => ?_) (fun h => absurd (by decide) h)
    | refine And.intro (fun _ => ?_) (fun _ => ?_)
    | refine And.intro ?_ ?_
  all_goals (first | assumption | rfl | decide | omega | (unfold am_y; simp only [ei, ci, eP, eF, eK, eW, c1, c2, c10, c20, c50, cy, cs, cw, a1, a2, a3, a4, a6, cY, cT, c00, z20, m0] at * <;> first | omega | (rw [if_pos (by omega)]) | (rw [if_neg (by omega)]) | ((repeat' split) <;> first | omega | (simp only [am_c] at * <;> omega))) | (simp only [ei, ci, eP, eF, eK, eW, c1, c2, c10, c20, c50, cy, cs, cw, a1, a2, a3, a4, a6, cY, cT, c00, z20, m0] at * <;> first | omega | (simp only [am_c] at * <;> omega)) | (trace_state; fail))
theorem x_tenthsOver_15 {l : Launch} {ν : am_N} {Q : Option am_V → am_N → Prop} (i y s : Int) (hi0 : 0 ≤ i) (hi1 : i < ν 15 4) (hn : ν 15 4 ≤ 4) (hr : am_rg (ν 18 i.toNat) (ν 17 i.toNat) (ν 16 i.toNat) (ν 15 1)) (y0 : -1000 ≤ y) (y1 : y ≤ 1000) (s0 : -1000 ≤ s) (s1 : s ≤ 1000) (k : Q (some (.inl (am_T (ν 18 i.toNat) (ν 17 i.toNat) (ν 16 i.toNat) (ν 15 1) (am_y y) s))) ν) : am_Does l 10 [.inr (.inr 15), .inl i, .inl y, .inl s] ν Q := by
  obtain ⟨⟨p0, p1⟩, ⟨f0, f1⟩, ⟨k0, k1⟩, ⟨w0, w1⟩⟩ := hr
  rcases (show ν 16 i.toNat = 0 ∨ ν 16 i.toNat = 1 ∨ ν 16 i.toNat = 2 ∨ ν 16 i.toNat = 3 ∨ ν 16 i.toNat = 4 ∨ ν 16 i.toNat = 5 by omega) with e | e | e | e | e | e
  · rw [e] at k; exact x_tenthsOver_15_0 i y s _ _ _ hi0 hi1 hn rfl rfl e rfl p0 p1 f0 f1 w0 w1 y0 y1 s0 s1 k
  · rw [e] at k; exact x_tenthsOver_15_1 i y s _ _ _ hi0 hi1 hn rfl rfl e rfl p0 p1 f0 f1 w0 w1 y0 y1 s0 s1 k
  · rw [e] at k; exact x_tenthsOver_15_2 i y s _ _ _ hi0 hi1 hn rfl rfl e rfl p0 p1 f0 f1 w0 w1 y0 y1 s0 s1 k
  · rw [e] at k; exact x_tenthsOver_15_3 i y s _ _ _ hi0 hi1 hn rfl rfl e rfl p0 p1 f0 f1 w0 w1 y0 y1 s0 s1 k
  · rw [e] at k; exact x_tenthsOver_15_4 i y s _ _ _ hi0 hi1 hn rfl rfl e rfl p0 p1 f0 f1 w0 w1 y0 y1 s0 s1 k
  · rw [e] at k; exact x_tenthsOver_15_5 i y s _ _ _ hi0 hi1 hn rfl rfl e rfl p0 p1 f0 f1 w0 w1 y0 y1 s0 s1 k
theorem x_tenths_15 {l : Launch} {ν : am_N} {Q : Option am_V → am_N → Prop} (i : Int) (hi0 : 0 ≤ i) (hi1 : i < ν 15 4) (hf : am_fC ν 15) (k : Q (some (.inl (am_TC ν 15 i.toNat))) ν) : am_Does l 8 [.inr (.inr 15), .inl i] ν Q := by
  refine am_Does_of (Nat.le_of_ble_eq_true rfl) (Nat.le_of_ble_eq_true rfl) (Nat.le_of_ble_eq_true rfl) ?_
  have hn := hf.1.2
  have ci : am_c i = i := am_cR (by omega) (by omega)
  have ei : (am_c i).toNat = i.toNat := by rw [ci]
  have cn : am_c (ν 15 4) = ν 15 4 := am_cR (by omega) (by omega)
  have z := hf.2.2 i.toNat (by omega)
  have w := hf.2.1
  have z2 : 0 ≤ ν 20 i.toNat ∧ ν 20 i.toNat ≤ 99 := z.2
  refine am_go (ct := fun _ => false) am_oX0_tenths 300 ?_
  conv => whnf
  repeat' first
    | (refine (?_ : am_wp _ _ _ _ _ _ _ _ _ _ _ _); conv => whnf)
    | (refine (?_ : am_sw _ _ _ _); conv => whnf)
    | refine And.intro trivial ?_
    | exact trivial
    | exact z.1
    | refine x_tenthsOver_15 _ _ _ ?_ ?_ ?_ ?_ ?_ ?_ ?_ ?_ ?_
    | refine And.intro (fun h => absurd h (by decide)) (fun _ => ?_)
    | refine And.intro (fun _ => ?_) (fun h => absurd (by decide) h)
    | refine And.intro (fun _ => ?_) (fun _ => ?_)
    | refine And.intro ?_ ?_
  all_goals (first | assumption | decide | omega | exact z.1 | (simp only [ei, ci, cn] at *; first | assumption | omega | exact z.1 | exact k) | (unfold am_TC at k; simp only [ei, ci] at *; exact k) | (trace_state; fail))
theorem x_draw_15 {l : Launch} {ν : am_N} {Q : Option am_V → am_N → Prop} (hf : am_fC ν 15) (hs : ∀ q : Nat, (q : Int) < ν 15 4 → 0 ≤ ν 19 q ∧ ν 19 q ≤ 20) (k : ∀ μ' : am_N, (∀ a b, ¬(30 ≤ a ∧ a ≤ 32) → ¬(a = 29 ∧ b = 0) → μ' a b = ν a b) → μ' 29 0 = ν 15 4 → (∀ q : Nat, (q : Int) < ν 15 4 → μ' 30 q = fp_pt (am_TC ν 15 q) (ν 19 q) 0 ∧ μ' 31 q = am_TC ν 15 q ∧ μ' 32 q = am_TC ν 15 q + ν 19 q) → Q none μ') : am_Does l 21 [.inr (.inr 29), .inr (.inr 15)] ν Q := by
  refine am_Does_of (Nat.le_of_ble_eq_true rfl) (Nat.le_of_ble_eq_true rfl) (Nat.le_of_ble_eq_true rfl) ?_
  have l0 : am_c 0 = 0 := rfl
  have l1 : am_c 1 = 1 := rfl
  have l2 : am_c 2 = 2 := rfl
  have l3 : am_c 3 = 3 := rfl
  have l4 : am_c 4 = 4 := rfl
  have l16 : am_c 16 = 16 := rfl
  have hn := hf.1
  have hq := @am_TC_b ν 15
  have lp10 : ∀ (m : Nat) (i : Int) (μ : am_N) , (∀ a b, ¬(30 ≤ a ∧ a ≤ 32) → ¬(a = 29 ∧ b = 0) → μ a b = ν a b) → μ 29 0 = ν 15 4 → 0 ≤ i → i ≤ ν 15 4 → (∀ q : Nat, (q : Int) < i → μ 30 q = fp_pt (am_TC ν 15 q) (ν 19 q) 0 ∧ μ 31 q = am_TC ν 15 q ∧ μ 32 q = am_TC ν 15 q + ν 19 q) → ν 15 4 - i < (m : Int) → am_AW l 0 (fun _ => 0) 21 Q 10 [some (.inr (.inr 29)), some (.inr (.inr 15)), some (.inl i)] [] μ := by
    intro m
    induction m with
    | zero =>
      intro i μ hv0 hv1 hv2 hv3 hv4 hm
      exfalso
      omega
    | succ m ih =>
      intro i μ hv0 hv1 hv2 hv3 hv4 hm
      have ci : am_c i = i := am_cR (by omega) (by omega)
      have cn : am_c (ν 15 4) = ν 15 4 := am_cR (by omega) (by omega)
      obtain ⟨g1, g2⟩ := am_fC_ch (c := 15) (fun a b q1 q2 => hv0 a b (by omega) (by omega))
      have g3 := g1 hf
      have e4 : μ 15 4 = ν 15 4 := hv0 15 4 (by decide) (by decide)
      have eS : μ 19 i.toNat = ν 19 i.toNat := hv0 19 _ (by omega) (by omega)
      have gT := g2 i.toNat
      have eI : (am_c i).toNat = i.toNat := by rw [ci]
      refine am_go (ct := fun pc => Nat.beq pc 10) am_oX2_draw 300 ?_
      conv => whnf
      repeat' first
        | (refine (?_ : am_wp _ _ _ _ _ _ _ _ _ _ _ _); conv => whnf)
        | (refine (?_ : am_sw _ _ _ _); conv => whnf)
        | refine And.intro trivial ?_
        | exact trivial
        | exact g3
        | refine x_tenths_15 _ ?_ ?_ ?_ ?_
        | (refine x_put _ _ _ ?_ ?_ ?_ ?_ ?_ ?_ (fun μ2 y1 y2 y3 y4 => ?_))
        | refine k _ ?_ ?_ ?_
        | refine ih _ _ ?_ ?_ ?_ ?_ ?_ ?_
        | refine And.intro (fun h => absurd h (by decide)) (fun _ => ?_)
        | refine And.intro (fun _ => ?_) (fun h => absurd (by decide) h)
        | refine And.intro (fun _ => ?_) (fun _ => ?_)
        | refine And.intro ?_ ?_
      all_goals (first | decide | assumption | omega | (simp only [hv1, ci, cn, e4] at *; omega) | (have hi : i < ν 15 4 := (by simp only [hv1, ci, cn, e4] at *; omega); have z1 := @hq i.toNat hf (by omega); have z2 := hs i.toNat (by omega); simp only [eI, eS, gT]; omega) | (intro a b h1 h2; rw [y1 a b (by omega)]; exact hv0 a b h1 h2) | (rw [y1 29 0 (by omega)]; exact hv1) | (intro q hq; by_cases d : (q : Int) = i; (rw [show q = i.toNat by omega, y2, y3, y4]; refine ⟨?_, ?_, ?_⟩ <;> simp only [eI, eS, gT]); (rw [y1 30 q (by omega), y1 31 q (by omega), y1 32 q (by omega)]; exact hv4 q (by omega))) | (intro q hq; exact hv4 q (by simp only [hv1, ci, cn, e4] at *; omega)) | (trace_state; fail))
  have lp10' : ∀ (i : Int) (μ : am_N) , (∀ a b, ¬(30 ≤ a ∧ a ≤ 32) → ¬(a = 29 ∧ b = 0) → μ a b = ν a b) → μ 29 0 = ν 15 4 → 0 ≤ i → i ≤ ν 15 4 → (∀ q : Nat, (q : Int) < i → μ 30 q = fp_pt (am_TC ν 15 q) (ν 19 q) 0 ∧ μ 31 q = am_TC ν 15 q ∧ μ 32 q = am_TC ν 15 q + ν 19 q) → am_AW l 0 (fun _ => 0) 21 Q 10 [some (.inr (.inr 29)), some (.inr (.inr 15)), some (.inl i)] [] μ := fun i μ hv0 hv1 hv2 hv3 hv4 => lp10 ((ν 15 4 - i) + 1).toNat i μ hv0 hv1 hv2 hv3 hv4 (by omega)
  refine am_go (ct := fun pc => Nat.beq pc 10) am_oX2_draw 300 ?_
  conv => whnf
  repeat' first
    | (refine (?_ : am_wp _ _ _ _ _ _ _ _ _ _ _ _); conv => whnf)
    | (refine (?_ : am_sw _ _ _ _); conv => whnf)
    | refine And.intro trivial ?_
    | exact trivial
    | refine lp10' _ _ ?_ ?_ ?_ ?_ ?_
    | refine And.intro (fun h => absurd h (by decide)) (fun _ => ?_)
    | refine And.intro (fun _ => ?_) (fun h => absurd (by decide) h)
    | refine And.intro (fun _ => ?_) (fun _ => ?_)
    | refine And.intro ?_ ?_
  all_goals (first | decide | assumption | omega | rfl | (intro a b h1 h2; rw [am_upS, if_neg h2]) | (exact if_pos ⟨rfl, rfl⟩) | (intros; omega) | (trace_state; fail))
/-- the rows of two alone, drawn, tell in how many of sixteen the one is ahead -/
theorem fp_ah_r0 {ν μ1 μ2 : am_N} {i j : Int} (hij : i < j) (i0 : 0 ≤ i) (i1 : i < 4) (j0 : 0 ≤ j) (j1 : j < 4) (e1 : ∀ b : Nat, b < 4 → μ1 15 b = ν 1 b) (r0 : ∀ a : Nat, 0 < a → a < 7 → μ1 (15 + a) 0 = ν (1 + a) i.toNat) (r1 : ∀ a : Nat, 0 < a → a < 7 → μ1 (15 + a) 1 = ν (1 + a) j.toNat) (n1 : μ1 15 4 = 2) (d0 : μ2 29 0 = μ1 15 4) (dr : ∀ q : Nat, (q : Int) < μ1 15 4 → μ2 30 q = fp_pt (am_TC μ1 15 q) (μ1 19 q) 0 ∧ μ2 31 q = am_TC μ1 15 q ∧ μ2 32 q = am_TC μ1 15 q + μ1 19 q) : fp_wy (μ2 30) (μ2 31) (μ2 32) (μ2 29 0).toNat 0 = fp_ah (fv ν 1) i.toNat j.toNat := by
  obtain ⟨a0, a1, a2⟩ := dr 0 (by rw [n1]; decide)
  obtain ⟨b0, b1, b2⟩ := dr 1 (by rw [n1]; decide)
  have tA : am_TC μ1 15 0 = fp_tf (fv ν 1) i.toNat := by
    rw [← fv_T (by omega)]
    unfold am_TC
    rw [e1 0 (by decide), e1 1 (by decide), r0 1 (by decide) (by decide), r0 2 (by decide) (by decide), r0 3 (by decide) (by decide), r0 5 (by decide) (by decide)]
  have tB : am_TC μ1 15 1 = fp_tf (fv ν 1) j.toNat := by
    rw [← fv_T (by omega)]
    unfold am_TC
    rw [e1 0 (by decide), e1 1 (by decide), r1 1 (by decide) (by decide), r1 2 (by decide) (by decide), r1 3 (by decide) (by decide), r1 5 (by decide) (by decide)]
  have sA : μ1 19 0 = fv ν 1 4 i.toNat := (r0 4 (by decide) (by decide)).trans (fv_a (by decide) (by decide) (by omega)).symm
  have sB : μ1 19 1 = fv ν 1 4 j.toNat := (r1 4 (by decide) (by decide)).trans (fv_a (by decide) (by decide) (by omega)).symm
  rw [tA, sA] at a0 a2
  rw [tA] at a1
  rw [tB, sB] at b0 b2
  rw [tB] at b1
  rw [d0, n1]
  show fp_wy (μ2 30) (μ2 31) (μ2 32) 2 0 = _
  rw [fp_wy_20, a0, a1, a2, b0, b1, b2]
  unfold fp_ah fp_aw
  rw [if_pos (by omega)]
  all_goals (first | (simp only [Int.add_zero]; done) | rfl)
theorem fp_ah_f0 {ν μ1 : am_N} {i j : Int} (hw : fp_fw 999 (fv ν 1)) (i0 : 0 ≤ i) (i1 : i < ν 1 4) (j0 : 0 ≤ j) (j1 : j < ν 1 4) (e1 : ∀ b : Nat, b < 4 → μ1 15 b = ν 1 b) (r0 : ∀ a : Nat, 0 < a → a < 7 → μ1 (15 + a) 0 = ν (1 + a) i.toNat) (r1 : ∀ a : Nat, 0 < a → a < 7 → μ1 (15 + a) 1 = ν (1 + a) j.toNat) (n1 : μ1 15 4 = 2) : am_fC μ1 15 ∧ ∀ q : Nat, (q : Int) < μ1 15 4 → 0 ≤ μ1 19 q ∧ μ1 19 q ≤ 20 := by
  obtain ⟨hf, -, -, -, -, -, hx⟩ := fw_C hw (by decide)
  have zA := hf.2.2 i.toNat (by omega)
  have zB := hf.2.2 j.toNat (by omega)
  have yA := (hx i.toNat (by omega)).2.2.2
  have yB := (hx j.toNat (by omega)).2.2.2
  refine ⟨⟨by rw [n1]; decide, by rw [e1 0 (by decide)]; exact hf.2.1, fun q hq => ?_⟩, fun q hq => ?_⟩
  · rcases (show q = 0 ∨ q = 1 by rw [n1] at hq; omega) with rfl | rfl
    · rw [e1 1 (by decide), r0 1 (by decide) (by decide), r0 2 (by decide) (by decide), r0 3 (by decide) (by decide), r0 5 (by decide) (by decide)]; exact zA
    · rw [e1 1 (by decide), r1 1 (by decide) (by decide), r1 2 (by decide) (by decide), r1 3 (by decide) (by decide), r1 5 (by decide) (by decide)]; exact zB
  · rcases (show q = 0 ∨ q = 1 by rw [n1] at hq; omega) with rfl | rfl
    · have z := r0 4 (by decide) (by decide); rw [show μ1 19 0 = ν 5 i.toNat from z]; exact yA
    · have z := r1 4 (by decide) (by decide); rw [show μ1 19 1 = ν 5 j.toNat from z]; exact yB
/-- the rows of two alone, drawn, tell in how many of sixteen the one is ahead -/
theorem fp_ah_r1 {ν μ1 μ2 : am_N} {i j : Int} (hij : j < i) (i0 : 0 ≤ i) (i1 : i < 4) (j0 : 0 ≤ j) (j1 : j < 4) (e1 : ∀ b : Nat, b < 4 → μ1 15 b = ν 1 b) (r0 : ∀ a : Nat, 0 < a → a < 7 → μ1 (15 + a) 0 = ν (1 + a) j.toNat) (r1 : ∀ a : Nat, 0 < a → a < 7 → μ1 (15 + a) 1 = ν (1 + a) i.toNat) (n1 : μ1 15 4 = 2) (d0 : μ2 29 0 = μ1 15 4) (dr : ∀ q : Nat, (q : Int) < μ1 15 4 → μ2 30 q = fp_pt (am_TC μ1 15 q) (μ1 19 q) 0 ∧ μ2 31 q = am_TC μ1 15 q ∧ μ2 32 q = am_TC μ1 15 q + μ1 19 q) : fp_wy (μ2 30) (μ2 31) (μ2 32) (μ2 29 0).toNat 1 = fp_ah (fv ν 1) i.toNat j.toNat := by
  obtain ⟨a0, a1, a2⟩ := dr 0 (by rw [n1]; decide)
  obtain ⟨b0, b1, b2⟩ := dr 1 (by rw [n1]; decide)
  have tA : am_TC μ1 15 0 = fp_tf (fv ν 1) j.toNat := by
    rw [← fv_T (by omega)]
    unfold am_TC
    rw [e1 0 (by decide), e1 1 (by decide), r0 1 (by decide) (by decide), r0 2 (by decide) (by decide), r0 3 (by decide) (by decide), r0 5 (by decide) (by decide)]
  have tB : am_TC μ1 15 1 = fp_tf (fv ν 1) i.toNat := by
    rw [← fv_T (by omega)]
    unfold am_TC
    rw [e1 0 (by decide), e1 1 (by decide), r1 1 (by decide) (by decide), r1 2 (by decide) (by decide), r1 3 (by decide) (by decide), r1 5 (by decide) (by decide)]
  have sA : μ1 19 0 = fv ν 1 4 j.toNat := (r0 4 (by decide) (by decide)).trans (fv_a (by decide) (by decide) (by omega)).symm
  have sB : μ1 19 1 = fv ν 1 4 i.toNat := (r1 4 (by decide) (by decide)).trans (fv_a (by decide) (by decide) (by omega)).symm
  rw [tA, sA] at a0 a2
  rw [tA] at a1
  rw [tB, sB] at b0 b2
  rw [tB] at b1
  rw [d0, n1]
  show fp_wy (μ2 30) (μ2 31) (μ2 32) 2 1 = _
  rw [fp_wy_21, a0, a1, a2, b0, b1, b2]
  unfold fp_ah fp_aw
  rw [if_neg (by omega)]
  all_goals (first | (simp only [Int.add_zero]; done) | rfl)
theorem fp_ah_f1 {ν μ1 : am_N} {i j : Int} (hw : fp_fw 999 (fv ν 1)) (i0 : 0 ≤ i) (i1 : i < ν 1 4) (j0 : 0 ≤ j) (j1 : j < ν 1 4) (e1 : ∀ b : Nat, b < 4 → μ1 15 b = ν 1 b) (r0 : ∀ a : Nat, 0 < a → a < 7 → μ1 (15 + a) 0 = ν (1 + a) j.toNat) (r1 : ∀ a : Nat, 0 < a → a < 7 → μ1 (15 + a) 1 = ν (1 + a) i.toNat) (n1 : μ1 15 4 = 2) : am_fC μ1 15 ∧ ∀ q : Nat, (q : Int) < μ1 15 4 → 0 ≤ μ1 19 q ∧ μ1 19 q ≤ 20 := by
  obtain ⟨hf, -, -, -, -, -, hx⟩ := fw_C hw (by decide)
  have zA := hf.2.2 j.toNat (by omega)
  have zB := hf.2.2 i.toNat (by omega)
  have yA := (hx j.toNat (by omega)).2.2.2
  have yB := (hx i.toNat (by omega)).2.2.2
  refine ⟨⟨by rw [n1]; decide, by rw [e1 0 (by decide)]; exact hf.2.1, fun q hq => ?_⟩, fun q hq => ?_⟩
  · rcases (show q = 0 ∨ q = 1 by rw [n1] at hq; omega) with rfl | rfl
    · rw [e1 1 (by decide), r0 1 (by decide) (by decide), r0 2 (by decide) (by decide), r0 3 (by decide) (by decide), r0 5 (by decide) (by decide)]; exact zA
    · rw [e1 1 (by decide), r1 1 (by decide) (by decide), r1 2 (by decide) (by decide), r1 3 (by decide) (by decide), r1 5 (by decide) (by decide)]; exact zB
  · rcases (show q = 0 ∨ q = 1 by rw [n1] at hq; omega) with rfl | rfl
    · have z := r0 4 (by decide) (by decide); rw [show μ1 19 0 = ν 5 j.toNat from z]; exact yA
    · have z := r1 4 (by decide) (by decide); rw [show μ1 19 1 = ν 5 i.toNat from z]; exact yB
theorem fp_rw_b {ν μ : am_N} {c : Nat} (hf : am_fC ν c) (hs : ∀ q : Nat, (q : Int) < ν c 4 → 0 ≤ ν (c + 4) q ∧ ν (c + 4) q ≤ 20) (d0 : μ 29 0 = ν c 4) (dr : ∀ q : Nat, (q : Int) < ν c 4 → μ 30 q = fp_pt (am_TC ν c q) (ν (c + 4) q) 0 ∧ μ 31 q = am_TC ν c q ∧ μ 32 q = am_TC ν c q + ν (c + 4) q) : ∀ j : Nat, (j : Int) < μ 29 0 → (0 ≤ μ 30 j ∧ μ 30 j ≤ 200000) ∧ (0 ≤ μ 31 j ∧ μ 31 j ≤ 200000) ∧ (0 ≤ μ 32 j ∧ μ 32 j ≤ 200000) := fun j hj => by
  rw [d0] at hj
  obtain ⟨q0, q1, q2⟩ := dr j hj
  have z := am_TC_b hf hj
  have y := hs j hj
  have x := fp_pt_b (t := am_TC ν c j) (s := ν (c + 4) j) (q := 0) z.1 (by omega) y.1 y.2
  rw [q0, q1, q2]
  omega
theorem s_six0 {l : Launch} {ν : am_N} {Q : Option am_V → am_N → Prop} (i j : Int) (ci : am_c i = i) (cj : am_c j = j) (hw : fp_fw 999 (fv ν 1)) (hij : i < j) (i0 : 0 ≤ i) (i1 : i < ν 1 4) (j0 : 0 ≤ j) (j1 : j < ν 1 4) (k : ∀ μ' : am_N, (∀ a b, ¬(15 ≤ a ∧ a < 22) → ¬(30 ≤ a ∧ a ≤ 32) → ¬(a = 29 ∧ b = 0) → μ' a b = ν a b) → μ' 15 4 = 2 → μ' 29 0 = 2 → Q (some (.inl (fp_ah (fv ν 1) i.toNat j.toNat))) μ') : am_Does l 122 [.inr (.inr 0), .inl i, .inl j] ν Q := by
  refine am_Does_of (Nat.le_of_ble_eq_true rfl) (Nat.le_of_ble_eq_true rfl) (Nat.le_of_ble_eq_true rfl) ?_
  have n14 := (fw_C hw (by decide)).1.1
  have i4 : i < 4 := by omega
  have j4 : j < 4 := by omega
  refine am_go (ct := fun _ => false) am_oX6_sixteenths 300 ?_
  conv => whnf
  repeat' first
    | (refine (?_ : am_wp _ _ _ _ _ _ _ _ _ _ _ _); conv => whnf)
    | (refine (?_ : am_sw _ _ _ _); conv => whnf)
    | refine And.intro trivial ?_
    | exact trivial
    | (refine x_alone0 _ _ ci cj hij i0 i4 j0 j4 (fun μ1 f1 e1 n1 r0 r1 => ?_); obtain ⟨hf, hs⟩ := fp_ah_f0 hw i0 i1 j0 j1 e1 r0 r1 n1)
    | (refine x_draw_15 hf hs (fun μ2 f2 d0 dr => ?_); have hb := fp_rw_b (c := 15) hf hs d0 dr; have hn : μ2 29 0 = 2 := d0.trans n1; have hz := fp_ah_r0 hij i0 i4 j0 j4 e1 r0 r1 n1 d0 dr; have h15 : μ2 15 4 = 2 := (f2 15 4 (by omega) (by omega)).trans n1; have fr : (∀ a b, ¬(15 ≤ a ∧ a < 22) → ¬(30 ≤ a ∧ a ≤ 32) → ¬(a = 29 ∧ b = 0) → μ2 a b = ν a b) := fun a b q1 q2 q3 => (f2 a b q2 q3).trans (f1 a b q1))
    | (refine x_ways 0 ?_ ?_ ?_ hb ?_)
    | (refine am_qe (k _ fr h15 hn) hz)
    | refine And.intro (fun h => absurd h (by decide)) (fun _ => ?_)
    | refine And.intro (fun _ => ?_) (fun h => absurd (by decide) h)
    | refine And.intro (fun _ => ?_) (fun _ => ?_)
    | refine And.intro ?_ ?_
  all_goals (first | decide | omega | (trace_state; fail))
theorem s_six1 {l : Launch} {ν : am_N} {Q : Option am_V → am_N → Prop} (i j : Int) (ci : am_c i = i) (cj : am_c j = j) (hw : fp_fw 999 (fv ν 1)) (hij : j < i) (i0 : 0 ≤ i) (i1 : i < ν 1 4) (j0 : 0 ≤ j) (j1 : j < ν 1 4) (k : ∀ μ' : am_N, (∀ a b, ¬(15 ≤ a ∧ a < 22) → ¬(30 ≤ a ∧ a ≤ 32) → ¬(a = 29 ∧ b = 0) → μ' a b = ν a b) → μ' 15 4 = 2 → μ' 29 0 = 2 → Q (some (.inl (fp_ah (fv ν 1) i.toNat j.toNat))) μ') : am_Does l 122 [.inr (.inr 0), .inl i, .inl j] ν Q := by
  refine am_Does_of (Nat.le_of_ble_eq_true rfl) (Nat.le_of_ble_eq_true rfl) (Nat.le_of_ble_eq_true rfl) ?_
  have n14 := (fw_C hw (by decide)).1.1
  have i4 : i < 4 := by omega
  have j4 : j < 4 := by omega
  refine am_go (ct := fun _ => false) am_oX6_sixteenths 300 ?_
  conv => whnf
  repeat' first
    | (refine (?_ : am_wp _ _ _ _ _ _ _ _ _ _ _ _); conv => whnf)
    | (refine (?_ : am_sw _ _ _ _); conv => whnf)
    | refine And.intro trivial ?_
    | exact trivial
    | (refine x_alone1 _ _ ci cj hij i0 i4 j0 j4 (fun μ1 f1 e1 n1 r0 r1 => ?_); obtain ⟨hf, hs⟩ := fp_ah_f1 hw i0 i1 j0 j1 e1 r0 r1 n1)
    | (refine x_draw_15 hf hs (fun μ2 f2 d0 dr => ?_); have hb := fp_rw_b (c := 15) hf hs d0 dr; have hn : μ2 29 0 = 2 := d0.trans n1; have hz := fp_ah_r1 hij i0 i4 j0 j4 e1 r0 r1 n1 d0 dr; have h15 : μ2 15 4 = 2 := (f2 15 4 (by omega) (by omega)).trans n1; have fr : (∀ a b, ¬(15 ≤ a ∧ a < 22) → ¬(30 ≤ a ∧ a ≤ 32) → ¬(a = 29 ∧ b = 0) → μ2 a b = ν a b) := fun a b q1 q2 q3 => (f2 a b q2 q3).trans (f1 a b q1))
    | (refine x_ways 1 ?_ ?_ ?_ hb ?_)
    | (refine am_qe (k _ fr h15 hn) hz)
    | refine And.intro (fun h => absurd h (by decide)) (fun _ => ?_)
    | refine And.intro (fun _ => ?_) (fun h => absurd (by decide) h)
    | refine And.intro (fun _ => ?_) (fun _ => ?_)
    | refine And.intro ?_ ?_
  all_goals (first | decide | omega | (trace_state; fail))
theorem s_six {l : Launch} {ν : am_N} {Q : Option am_V → am_N → Prop} (i j : Int) (ci : am_c i = i) (cj : am_c j = j) (hw : fp_fw 999 (fv ν 1)) (hij : i ≠ j) (i0 : 0 ≤ i) (i1 : i < ν 1 4) (j0 : 0 ≤ j) (j1 : j < ν 1 4) (k : ∀ μ' : am_N, (∀ a b, ¬(15 ≤ a ∧ a < 22) → ¬(30 ≤ a ∧ a ≤ 32) → ¬(a = 29 ∧ b = 0) → μ' a b = ν a b) → μ' 15 4 = 2 → μ' 29 0 = 2 → Q (some (.inl (fp_ah (fv ν 1) i.toNat j.toNat))) μ') : am_Does l 122 [.inr (.inr 0), .inl i, .inl j] ν Q := by
  rcases (show i < j ∨ j < i by omega) with h | h
  · exact s_six0 i j ci cj hw h i0 i1 j0 j1 k
  · exact s_six1 i j ci cj hw h i0 i1 j0 j1 k
theorem s_ahead {l : Launch} {ν : am_N} {Q : Option am_V → am_N → Prop} (i j : Int) (ci : am_c i = i) (cj : am_c j = j) (hS : sx ν ν) (hw : fp_fw 999 (fv ν 1)) (k : ∀ μ' : am_N, sx ν μ' → Q (some (.inl (fp_hr (fv ν 1) i j))) μ') : am_Does l 94 [.inr (.inr 0), .inl i, .inl j] ν Q := by
  refine am_Does_of (Nat.le_of_ble_eq_true rfl) (Nat.le_of_ble_eq_true rfl) (Nat.le_of_ble_eq_true rfl) ?_
  have n14 := (fw_C hw (by decide)).1.1
  have f0 := n14.1
  have f1 := n14.2
  have e4 : fv ν 1 0 4 = ν 1 4 := fv_0 (by decide)
  refine am_go (ct := fun _ => false) am_oX6_ahead 300 ?_
  conv => whnf
  repeat' first
    | (refine (?_ : am_wp _ _ _ _ _ _ _ _ _ _ _ _); conv => whnf)
    | (refine (?_ : am_sw _ _ _ _); conv => whnf)
    | refine And.intro trivial ?_
    | exact trivial
    | refine x_notTwo _ _ ci cj f0 f1 (fun y => ?_) (fun y0 y1 y2 => ?_)
    | refine x_refuse _ ?_ (fun μr fr => ?_)
    | refine s_six _ _ ci cj hw y2 y0.1 y0.2 y1.1 y1.2 (fun μ1 g1 n15 n29 => ?_)
    | refine am_qe (k _ (sx_78 hS fr)) ?_
    | refine am_qe (k _ (sx_ad hS (fun a b q1 q2 q3 _ => g1 a b q1 q2 q3) (by rw [n15]; decide) (by rw [n29]; decide))) ?_
    | refine And.intro (fun h => absurd h (by decide)) (fun _ => ?_)
    | refine And.intro (fun _ => ?_) (fun h => absurd (by decide) h)
    | refine And.intro (fun _ => ?_) (fun _ => ?_)
    | refine And.intro ?_ ?_
  all_goals (first | decide | omega | (unfold fp_hr; rw [e4, if_pos (by omega)]) | (unfold fp_hr; rw [e4, if_neg (by omega)]) | (trace_state; fail))
theorem x_partBy {l : Launch} {μ : am_N} {Q : Option am_V → am_N → Prop} (t s q : Int) (t0 : 1 ≤ t) (t1 : t ≤ 100000) (s0 : 0 ≤ s) (s1 : s ≤ 20) (q0 : 0 ≤ q) (q1 : q ≤ 3) (k : ∀ v : Int, v = fp_pt t s q.toNat → 1 ≤ v → v ≤ 100020 → am_c v = v → Q (some (.inl v)) μ) : am_Does l 192 [.inl t, .inl s, .inl q] μ Q := by
  refine am_Does_of (Nat.le_of_ble_eq_true rfl) (Nat.le_of_ble_eq_true rfl) (Nat.le_of_ble_eq_true rfl) ?_
  have l0 : am_c 0 = 0 := rfl
  have l1 : am_c 1 = 1 := rfl
  have l2 : am_c 2 = 2 := rfl
  have l3 : am_c 3 = 3 := rfl
  have l4 : am_c 4 = 4 := rfl
  have l16 : am_c 16 = 16 := rfl
  have cq : am_c q = q := am_cR (by omega) (by omega)
  have hb := fp_pt_b (q := q.toNat) t0 t1 s0 s1
  have kk := fun (x : Int) (e : x = fp_pt t s q.toNat) => am_qe (k _ rfl hb.1 hb.2 (am_cR (by omega) (by omega))) e
  refine am_go (ct := fun _ => false) am_oX7_partBy 300 ?_
  conv => whnf
  repeat' first
    | (refine (?_ : am_wp _ _ _ _ _ _ _ _ _ _ _ _); conv => whnf)
    | (refine (?_ : am_sw _ _ _ _); conv => whnf)
    | refine And.intro trivial ?_
    | exact trivial
    | refine x_atLeastOne _ ?_ ?_ ?_
    | refine kk _ ?_
    | refine And.intro (fun h => absurd h (by decide)) (fun _ => ?_)
    | refine And.intro (fun _ => ?_) (fun h => absurd (by decide) h)
    | refine And.intro (fun _ => ?_) (fun _ => ?_)
    | refine And.intro ?_ ?_
  all_goals (first | decide | omega | (rw [show q.toNat = 0 by simp only [cq] at *; omega]; rfl) | (unfold fp_pt; simp only [cq, l3] at *; rw [if_neg (by omega), if_pos (by omega)]) | (unfold fp_pt; simp only [cq, l3] at *; rw [if_neg (by omega), if_neg (by omega)]) | (trace_state; fail))
theorem x_aheadBy {l : Launch} {ν : am_N} {Q : Option am_V → am_N → Prop} (i t j u : Int) (i0 : 0 ≤ i) (i1 : i < 4) (j0 : 0 ≤ j) (j1 : j < 4) (t0 : 1 ≤ t) (t1 : t ≤ 100000) (u0 : 1 ≤ u) (u1 : u ≤ 100000) (si : 0 ≤ ν 88 i.toNat ∧ ν 88 i.toNat ≤ 20) (sj : 0 ≤ ν 88 j.toNat ∧ ν 88 j.toNat ≤ 20) (k : Q (some (.inl (fp_aw (if i.toNat < j.toNat then 0 else 1) t (ν 88 i.toNat) u (ν 88 j.toNat)))) ν) : am_Does l 193 [.inr (.inr 83), .inl i, .inl t, .inl j, .inl u] ν Q := by
  refine am_Does_of (Nat.le_of_ble_eq_true rfl) (Nat.le_of_ble_eq_true rfl) (Nat.le_of_ble_eq_true rfl) ?_
  have l0 : am_c 0 = 0 := rfl
  have l1 : am_c 1 = 1 := rfl
  have l2 : am_c 2 = 2 := rfl
  have l3 : am_c 3 = 3 := rfl
  have l4 : am_c 4 = 4 := rfl
  have l16 : am_c 16 = 16 := rfl
  have ci : am_c i = i := am_cR (by omega) (by omega)
  have cj : am_c j = j := am_cR (by omega) (by omega)
  have ei : (am_c i).toNat = i.toNat := by rw [ci]
  have ej : (am_c j).toNat = j.toNat := by rw [cj]
  have lp6 : ∀ (m : Nat) (x q : Int) (o7 o8 : Option am_V) , 0 ≤ q → q ≤ 16 → x = fp_am (if i.toNat < j.toNat then 0 else 1) t (ν 88 i.toNat) u (ν 88 j.toNat) q.toNat → 16 - q < (m : Int) → am_AW l 0 (fun _ => 0) 193 Q 6 [some (.inr (.inr 83)), some (.inl i), some (.inl t), some (.inl j), some (.inl u), some (.inl x), some (.inl q), o7, o8] [] ν := by
    intro m
    induction m with
    | zero =>
      intro x q o7 o8  hv0 hv1 hv2 hm
      exfalso
      omega
    | succ m ih =>
      intro x q o7 o8  hv0 hv1 hv2 hm
      have cq : am_c q = q := am_cR (by omega) (by omega)
      have qd : (am_c q).tdiv (am_c 4) = q / 4 := by rw [cq, l4, Int.tdiv_eq_ediv_of_nonneg hv0]
      have qm : (am_c q).tmod (am_c 4) = q % 4 := by rw [cq, l4, Int.tmod_eq_emod_of_nonneg hv0]
      have qn : (q / 4).toNat = q.toNat / 4 := by omega
      have qo : (q % 4).toNat = q.toNat % 4 := by omega
      refine am_go (ct := fun pc => Nat.beq pc 6) am_oX7_aheadBy 300 ?_
      conv => whnf
      repeat' first
        | (refine (?_ : am_wp _ _ _ _ _ _ _ _ _ _ _ _); conv => whnf)
        | (refine (?_ : am_sw _ _ _ _); conv => whnf)
        | refine And.intro trivial ?_
        | exact trivial
        | (refine x_partBy _ _ _ u0 u1 (by rw [ej]; exact sj.1) (by rw [ej]; exact sj.2) (by rw [qm]; omega) (by rw [qm]; omega) (fun w ew w0 w1 cw => ?_); rw [qm, qo, ej] at ew)
        | (refine x_partBy _ _ _ t0 t1 (by rw [ei]; exact si.1) (by rw [ei]; exact si.2) (by rw [qd]; omega) (by rw [qd]; omega) (fun z ez z0 z1 cz => ?_); rw [qd, qn, ei] at ez)
        | refine am_qe k ?_
        | refine ih _ _ _ _  ?_ ?_ ?_ ?_
        | refine And.intro (fun h => absurd h (by decide)) (fun _ => ?_)
        | refine And.intro (fun _ => ?_) (fun h => absurd (by decide) h)
        | refine And.intro (fun _ => ?_) (fun _ => ?_)
        | refine And.intro ?_ ?_
      all_goals (first | decide | assumption | omega | (simp only [ei, ej, ci, cj, l4]; omega) | (rw [cq, l16] at *; omega) | (rw [hv2, show q.toNat = 16 by rw [cq, l16] at *; omega]; exact fp_am_w sj.1 u0) | (rw [show (q + 1).toNat = q.toNat + 1 by omega]; show _ = fp_am (if i.toNat < j.toNat then 0 else 1) t (ν 88 i.toNat) u (ν 88 j.toNat) q.toNat + fp_lt _ (fp_pt t (ν 88 i.toNat) (q.toNat / 4)) (fp_pt u (ν 88 j.toNat) (q.toNat % 4)); rw [← hv2, ← ez, ← ew]; unfold fp_lt; rw [ci, cj, cz, cw] at *; (repeat' split) <;> omega) | (trace_state; fail))
  have lp6' : ∀ (x q : Int) (o7 o8 : Option am_V) , 0 ≤ q → q ≤ 16 → x = fp_am (if i.toNat < j.toNat then 0 else 1) t (ν 88 i.toNat) u (ν 88 j.toNat) q.toNat → am_AW l 0 (fun _ => 0) 193 Q 6 [some (.inr (.inr 83)), some (.inl i), some (.inl t), some (.inl j), some (.inl u), some (.inl x), some (.inl q), o7, o8] [] ν := fun x q o7 o8  hv0 hv1 hv2 => lp6 ((16 - q) + 1).toNat x q o7 o8  hv0 hv1 hv2 (by omega)
  refine am_go (ct := fun pc => Nat.beq pc 6) am_oX7_aheadBy 300 ?_
  conv => whnf
  repeat' first
    | (refine (?_ : am_wp _ _ _ _ _ _ _ _ _ _ _ _); conv => whnf)
    | (refine (?_ : am_sw _ _ _ _); conv => whnf)
    | refine And.intro trivial ?_
    | exact trivial
    | refine lp6' _ _ _ _  ?_ ?_ ?_
    | refine And.intro (fun h => absurd h (by decide)) (fun _ => ?_)
    | refine And.intro (fun _ => ?_) (fun h => absurd (by decide) h)
    | refine And.intro (fun _ => ?_) (fun _ => ?_)
    | refine And.intro ?_ ?_
  all_goals (first | decide | assumption | omega | rfl | (trace_state; fail))
theorem n_aheadOf {l : Launch} {ν : am_N} {Q : Option am_V → am_N → Prop} (i j : Int) (hw : fp_fw 999 (mv ν)) (hi : 0 ≤ i ∧ i < ν 83 14) (hj : 0 ≤ j ∧ j < ν 83 14) (k : Q (some (.inl (fp_ah (mv ν) i.toNat j.toNat))) ν) : am_Does l 194 [.inr (.inr 83), .inl i, .inl j] ν Q := by
  refine am_Does_of (Nat.le_of_ble_eq_true rfl) (Nat.le_of_ble_eq_true rfl) (Nat.le_of_ble_eq_true rfl) ?_
  obtain ⟨hf, -, -, -, -, -, hx⟩ := fw_M hw (by decide)
  have hn := hf.1
  have zi := am_TM_b (i := i.toNat) hf (by omega)
  have zj := am_TM_b (i := j.toNat) hf (by omega)
  have yi := (hx i.toNat (by omega)).2.2.2
  have yj := (hx j.toNat (by omega)).2.2.2
  have hz : fp_aw (if i.toNat < j.toNat then 0 else 1) (am_TM ν i.toNat) (ν 88 i.toNat) (am_TM ν j.toNat) (ν 88 j.toNat) = fp_ah (mv ν) i.toNat j.toNat := by
    unfold fp_ah
    rw [← mv_T (by omega), ← mv_T (by omega), show mv ν 4 i.toNat = ν 88 i.toNat from mv_a (a := 3) (by decide) (by omega), show mv ν 4 j.toNat = ν 88 j.toNat from mv_a (a := 3) (by decide) (by omega)]
  refine am_go (ct := fun _ => false) am_oX7_aheadOf 300 ?_
  conv => whnf
  repeat' first
    | (refine (?_ : am_wp _ _ _ _ _ _ _ _ _ _ _ _); conv => whnf)
    | (refine (?_ : am_sw _ _ _ _); conv => whnf)
    | refine And.intro trivial ?_
    | exact trivial
    | refine x_timeOf _ ?_ ?_ hf ?_
    | refine x_aheadBy _ _ _ _ ?_ ?_ ?_ ?_ ?_ ?_ ?_ ?_ yi yj ?_
    | exact am_qe k hz
    | refine And.intro (fun h => absurd h (by decide)) (fun _ => ?_)
    | refine And.intro (fun _ => ?_) (fun h => absurd (by decide) h)
    | refine And.intro (fun _ => ?_) (fun _ => ?_)
    | refine And.intro ?_ ?_
  all_goals (first | decide | omega | (trace_state; fail))
theorem n_ahead {l : Launch} {ν : am_N} {Q : Option am_V → am_N → Prop} (i j : Int) (ci : am_c i = i) (cj : am_c j = j) (hm : mi ν) (hw : fp_fw 999 (mv ν)) (k : ∀ μ' : am_N, gm ms ν μ' → Q (some (.inl (fp_hr (mv ν) i j))) μ') : am_Does l 217 [.inr (.inr 83), .inl i, .inl j] ν Q := by
  refine am_Does_of (Nat.le_of_ble_eq_true rfl) (Nat.le_of_ble_eq_true rfl) (Nat.le_of_ble_eq_true rfl) ?_
  have n14 := (fw_M hw (by decide)).1.1
  have f0 := n14.1
  have f1 := n14.2
  have e4 : mv ν 0 4 = ν 83 14 := rfl
  refine am_go (ct := fun _ => false) am_oX7_ahead 300 ?_
  conv => whnf
  repeat' first
    | (refine (?_ : am_wp _ _ _ _ _ _ _ _ _ _ _ _); conv => whnf)
    | (refine (?_ : am_sw _ _ _ _); conv => whnf)
    | refine And.intro trivial ?_
    | exact trivial
    | refine x_areTwoT _ _ ci cj f0 f1 (fun y0 y1 y2 => ?_) (fun y => ?_)
    | refine x_no _ ?_ (fun μr fr => ?_)
    | refine n_aheadOf _ _ hw y0 y1 ?_
    | refine am_qe (k _ (mi_84 hm fr)) ?_
    | refine am_qe (k _ (gm_rf hm)) ?_
    | refine And.intro (fun h => absurd h (by decide)) (fun _ => ?_)
    | refine And.intro (fun _ => ?_) (fun h => absurd (by decide) h)
    | refine And.intro (fun _ => ?_) (fun _ => ?_)
    | refine And.intro ?_ ?_
  all_goals (first | decide | omega | (unfold fp_hr; rw [e4, if_pos (by omega)]) | (unfold fp_hr; rw [e4, if_neg (by omega)]) | (trace_state; fail))
