/-! what stays, what is within bounds: the system's side -/
theorem am_cR {z : Int} (h1 : -2147483648 ≤ z) (h2 : z < 2147483648) : am_c z = z := by
  unfold am_c; omega
theorem am_cb (z : Int) : -2147483648 ≤ am_c z ∧ am_c z < 2147483648 := by
  unfold am_c; omega
theorem am_upS {μ : am_N} {k j a b : Nat} {v : Int} : am_up μ k j v a b = if a = k ∧ b = j then v else μ a b := rfl
theorem am_upN {μ : am_N} {k j a b : Nat} {v : Int} (h : a ≠ k) : am_up μ k j v a b = μ a b := if_neg (fun z => h z.1)
theorem am_upM {μ : am_N} {k j a b : Nat} {v : Int} (h : b ≠ j) : am_up μ k j v a b = μ a b := if_neg (fun z => h z.2)
/-- cells that a question leaves as they are -/
def sx_p (k : Nat) : Bool := !((Nat.ble 8 k && Nat.ble k 21) || ((Nat.ble 29 k && Nat.ble k 34) || ((Nat.ble 38 k && Nat.ble k 43) || (Nat.ble 78 k && Nat.ble k 82))))
/-- cells of no bounds -/
def sx_q (k j : Nat) : Bool := !(sx_p k) && (!(Nat.beq k 34) && (!(Nat.beq k 43) && (!(Nat.beq k 8 && Nat.beq j 4) && (!(Nat.beq k 15 && Nat.beq j 4) && (!(Nat.beq k 29 && Nat.beq j 0) && !(Nat.beq k 38 && Nat.beq j 0))))))
/-- numbers in bounds -/
def px (ν : am_N) : Prop := (0 ≤ ν 1 4 ∧ ν 1 4 ≤ 4) ∧ (0 ≤ ν 22 4 ∧ ν 22 4 ≤ 4) ∧ (0 ≤ ν 36 1 ∧ ν 36 1 ≤ 96) ∧ (0 ≤ ν 44 1 ∧ ν 44 1 ≤ 12) ∧ (0 ≤ ν 46 1 ∧ ν 46 1 ≤ 6) ∧ (0 ≤ ν 48 1 ∧ ν 48 1 ≤ 6) ∧ (0 ≤ ν 50 1 ∧ ν 50 1 ≤ 6) ∧ (0 ≤ ν 53 1 ∧ ν 53 1 ≤ 4) ∧ (0 ≤ ν 55 1 ∧ ν 55 1 ≤ 4) ∧ (0 ≤ ν 58 1 ∧ ν 58 1 ≤ 4) ∧ (0 ≤ ν 60 1 ∧ ν 60 1 ≤ 4) ∧ (0 ≤ ν 62 3 ∧ ν 62 3 ≤ 6)
def sx_3 (μ : am_N) (c : Nat) : Prop := ∀ p : Nat, p < 4 → 0 ≤ μ c p ∧ μ c p ≤ 3
def sx_4 (μ : am_N) : Prop := (0 ≤ μ 8 4 ∧ μ 8 4 ≤ 4) ∧ (0 ≤ μ 15 4 ∧ μ 15 4 ≤ 4) ∧ (0 ≤ μ 29 0 ∧ μ 29 0 ≤ 4) ∧ (0 ≤ μ 38 0 ∧ μ 38 0 ≤ 4)
def sx (ν μ : am_N) : Prop := (∀ k j, sx_p k = true → μ k j = ν k j) ∧ sx_3 μ 34 ∧ sx_3 μ 43 ∧ sx_4 μ ∧ px ν
theorem sx_fr {ν μ : am_N} {k j : Nat} {v : Int} (h : ∀ k j, sx_p k = true → μ k j = ν k j) (hk : sx_p k = false) : ∀ a b, sx_p a = true → am_up μ k j v a b = ν a b := fun a b ha => by
  rw [am_upN (fun z => by rw [z, hk] at ha; cases ha)]
  exact h a b ha
theorem sx_3N {μ : am_N} {c k j : Nat} {v : Int} (h : sx_3 μ c) (hk : k ≠ c) : sx_3 (am_up μ k j v) c := fun p hp => by
  rw [am_upN (fun z => hk z.symm)]
  exact h p hp
theorem sx_3S {μ : am_N} {c j : Nat} {v : Int} (h : sx_3 μ c) (h0 : 0 ≤ v) (h1 : v ≤ 3) : sx_3 (am_up μ c j v) c := fun p hp => by
  by_cases e : p = j
  · rw [am_upS, if_pos ⟨rfl, e⟩]; exact ⟨h0, h1⟩
  · rw [am_upM e]; exact h p hp
theorem sx_4N {μ : am_N} {k j : Nat} {v : Int} (h : sx_4 μ) (hk : (Nat.beq k 8 && Nat.beq j 4) = false) (hk1 : (Nat.beq k 15 && Nat.beq j 4) = false) (hk2 : (Nat.beq k 29 && Nat.beq j 0) = false) (hk3 : (Nat.beq k 38 && Nat.beq j 0) = false) : sx_4 (am_up μ k j v) := by
  unfold sx_4 at h ⊢
  have e : ∀ a b : Nat, (Nat.beq k a && Nat.beq j b) = false → am_up μ k j v a b = μ a b := fun a b q => by
    rw [am_upS, if_neg (fun z => by rw [z.1, z.2] at q; simp at q)]
  rw [e 8 4 hk, e 15 4 hk1, e 29 0 hk2, e 38 0 hk3]
  exact h
theorem sx_up {ν μ : am_N} {k j : Nat} {v : Int} (h : sx ν μ) (hk : sx_q k j = true) : sx ν (am_up μ k j v) := by
  simp only [sx_q, Bool.and_eq_true, Bool.not_eq_true'] at hk
  obtain ⟨q1, q2, q3, q4, q5, q6, q7⟩ := hk
  exact ⟨sx_fr h.1 q1, sx_3N h.2.1 (fun z => by subst z; cases q2), sx_3N h.2.2.1 (fun z => by subst z; cases q3), sx_4N h.2.2.2.1 q4 q5 q6 q7, h.2.2.2.2⟩
theorem sx_34 {ν μ : am_N} {j : Nat} {v : Int} (h : sx ν μ) (h0 : 0 ≤ v) (h1 : v ≤ 3) : sx ν (am_up μ 34 j v) :=
  ⟨sx_fr h.1 rfl, sx_3S h.2.1 h0 h1, sx_3N h.2.2.1 (by decide), sx_4N h.2.2.2.1 rfl rfl rfl rfl, h.2.2.2.2⟩
theorem sx_43 {ν μ : am_N} {j : Nat} {v : Int} (h : sx ν μ) (h0 : 0 ≤ v) (h1 : v ≤ 3) : sx ν (am_up μ 43 j v) :=
  ⟨sx_fr h.1 rfl, sx_3N h.2.1 (by decide), sx_3S h.2.2.1 h0 h1, sx_4N h.2.2.2.1 rfl rfl rfl rfl, h.2.2.2.2⟩
theorem sx_c8 {ν μ : am_N} {v : Int} (h : sx ν μ) (h0 : 0 ≤ v ∧ v ≤ 4) : sx ν (am_up μ 8 4 v) :=
  ⟨sx_fr h.1 rfl, sx_3N h.2.1 (by decide), sx_3N h.2.2.1 (by decide), ⟨h0, h.2.2.2.1.2.1, h.2.2.2.1.2.2.1, h.2.2.2.1.2.2.2⟩, h.2.2.2.2⟩
theorem sx_c15 {ν μ : am_N} {v : Int} (h : sx ν μ) (h0 : 0 ≤ v ∧ v ≤ 4) : sx ν (am_up μ 15 4 v) :=
  ⟨sx_fr h.1 rfl, sx_3N h.2.1 (by decide), sx_3N h.2.2.1 (by decide), ⟨h.2.2.2.1.1, h0, h.2.2.2.1.2.2.1, h.2.2.2.1.2.2.2⟩, h.2.2.2.2⟩
theorem sx_c29 {ν μ : am_N} {v : Int} (h : sx ν μ) (h0 : 0 ≤ v ∧ v ≤ 4) : sx ν (am_up μ 29 0 v) :=
  ⟨sx_fr h.1 rfl, sx_3N h.2.1 (by decide), sx_3N h.2.2.1 (by decide), ⟨h.2.2.2.1.1, h.2.2.2.1.2.1, h0, h.2.2.2.1.2.2.2⟩, h.2.2.2.2⟩
theorem sx_c38 {ν μ : am_N} {v : Int} (h : sx ν μ) (h0 : 0 ≤ v ∧ v ≤ 4) : sx ν (am_up μ 38 0 v) :=
  ⟨sx_fr h.1 rfl, sx_3N h.2.1 (by decide), sx_3N h.2.2.1 (by decide), ⟨h.2.2.2.1.1, h.2.2.2.1.2.1, h.2.2.2.1.2.2.1, h0⟩, h.2.2.2.2⟩
theorem sx_px {ν μ : am_N} (h : sx ν μ) : px μ := by
  obtain ⟨h, -, -, -, q⟩ := h
  unfold px at q ⊢
  rw [h 1 4 rfl, h 22 4 rfl, h 36 1 rfl, h 44 1 rfl, h 46 1 rfl, h 48 1 rfl, h 50 1 rfl, h 53 1 rfl, h 55 1 rfl, h 58 1 rfl, h 60 1 rfl, h 62 3 rfl]
  exact q
/-- the bounds of a state -/
theorem sx_all {ν μ : am_N} (h : sx ν μ) : (0 ≤ μ 1 4 ∧ μ 1 4 ≤ 4) ∧ (0 ≤ μ 8 4 ∧ μ 8 4 ≤ 4) ∧ (0 ≤ μ 15 4 ∧ μ 15 4 ≤ 4) ∧ (0 ≤ μ 22 4 ∧ μ 22 4 ≤ 4) ∧ (0 ≤ μ 29 0 ∧ μ 29 0 ≤ 4) ∧ (0 ≤ μ 38 0 ∧ μ 38 0 ≤ 4) ∧ (0 ≤ μ 36 1 ∧ μ 36 1 ≤ 96) ∧ (0 ≤ μ 44 1 ∧ μ 44 1 ≤ 12) ∧ (0 ≤ μ 46 1 ∧ μ 46 1 ≤ 6) ∧ (0 ≤ μ 48 1 ∧ μ 48 1 ≤ 6) ∧ (0 ≤ μ 50 1 ∧ μ 50 1 ≤ 6) ∧ (0 ≤ μ 53 1 ∧ μ 53 1 ≤ 4) ∧ (0 ≤ μ 55 1 ∧ μ 55 1 ≤ 4) ∧ (0 ≤ μ 58 1 ∧ μ 58 1 ≤ 4) ∧ (0 ≤ μ 60 1 ∧ μ 60 1 ≤ 4) ∧ (0 ≤ μ 62 3 ∧ μ 62 3 ≤ 6) := by
  obtain ⟨p1, p2, p3, p4, p5, p6, p7, p8, p9, p10, p11, p12⟩ := sx_px h
  obtain ⟨a1, a2, a3, a4⟩ := h.2.2.2.1
  exact ⟨p1, a1, a2, p2, a3, a4, p3, p4, p5, p6, p7, p8, p9, p10, p11, p12⟩
theorem sx_pl {ν μ : am_N} (h : sx ν μ) (p : Nat) (hp : p < 4) : (0 ≤ μ 34 p ∧ μ 34 p ≤ 3) ∧ (0 ≤ μ 43 p ∧ μ 43 p ≤ 3) := ⟨h.2.1 p hp, h.2.2.1 p hp⟩
/-! switches over constants -/
theorem am_jn {A X Y : Prop} (h : ¬A) (y : Y) : (A → X) ∧ (¬A → Y) := ⟨fun a => absurd a h, fun _ => y⟩
theorem am_jy {A X Y : Prop} (h : A) (x : X) : (A → X) ∧ (¬A → Y) := ⟨fun _ => x, fun a => absurd h a⟩
theorem am_kn {A X Y : Prop} (h : ¬A) (x : X) : (¬A → X) ∧ (A → Y) := ⟨fun _ => x, fun a => absurd a h⟩
theorem am_ky {A X Y : Prop} (h : A) (y : Y) : (¬A → X) ∧ (A → Y) := ⟨fun a => absurd h a, fun _ => y⟩
theorem am_q1 : ¬ am_c (-1) = 0 := by decide
theorem am_q2 : ¬ am_c (-2) = 0 := by decide
theorem am_q3 : ¬ am_c (-3) = 0 := by decide
theorem am_q4 : ¬ am_c (-4) = 0 := by decide
theorem am_q6 : ¬ am_c (-6) = 0 := by decide
theorem am_q9 : ¬ am_c (-9) = 0 := by decide
theorem am_p1 : ¬ am_c 1 = 0 := by decide
theorem am_p0 : am_c 0 = 0 := by decide
/-! helpers of the strong parts -/
theorem am_uE {μ : am_N} {k j a b : Nat} {v : Int} (h : ¬ (a = k ∧ b = j)) : am_up μ k j v a b = μ a b := if_neg h
theorem am_ab1 {P : Nat → Prop} {l : List Nat} {i a : Nat} (h : l[i]? = some a) (hp : P a) : ∀ j : Nat, l[i]? = some j → P j := fun j hj => by
  rw [h] at hj
  cases hj
  exact hp
/-! TIME, exactly -/
def am_y (y : Int) : Int := if y < 1 then 1 else y
def am_t0 (p y : Int) : Int := if (p * y).tdiv 10 < 1 then 1 else (p * y).tdiv 10
def am_tt (f y : Int) : Int := if 50 < y then (f * (y - 50)).tdiv 20 else 0
def am_ts (f w : Int) : Int := if w.tmod 2 = 0 then f else 0
/-- TIME of one with pace p, figure f, kind k in week w over y yards (1 at least), with start s -/
def am_T (p f k w y s : Int) : Int :=
  if k = 1 then (if am_t0 p y - (w * f).tdiv 10 < 1 then 1 else am_t0 p y - (w * f).tdiv 10)
  else if k = 2 then am_t0 p y + am_tt f y
  else if k = 3 then am_t0 p y + am_ts f w
  else if k = 4 then am_t0 p y + am_tt f y + 2 * f
  else if k = 5 then am_t0 p y + am_ts f w + (if s = 0 then 5 else 0)
  else am_t0 p y
/-- what one may be -/
def am_rg (p f k w : Int) : Prop := (5 ≤ p ∧ p ≤ 40) ∧ (0 ≤ f ∧ f ≤ 9) ∧ (0 ≤ k ∧ k ≤ 5) ∧ (0 ≤ w ∧ w ≤ 2000)
theorem am_mulb {a b A B : Int} (h0 : 0 ≤ a) (h1 : a ≤ A) (h2 : 0 ≤ b) (h3 : b ≤ B) : 0 ≤ a * b ∧ a * b ≤ A * B := ⟨Int.mul_nonneg h0 h2, Int.le_trans (Int.mul_le_mul_of_nonneg_right h1 h2) (Int.mul_le_mul_of_nonneg_left h3 (Int.le_trans h0 h1))⟩
theorem am_tdb {a n : Int} (h0 : 0 ≤ a) (hn : 0 < n) : 0 ≤ a.tdiv n ∧ a.tdiv n ≤ a := by
  rw [Int.tdiv_eq_ediv_of_nonneg h0]
  exact ⟨Int.ediv_nonneg h0 (Int.le_of_lt hn), Int.ediv_le_self _ h0⟩
theorem am_qe {Q : Option am_V → am_N → Prop} {μ : am_N} {x z : Int} (k : Q (some (.inl z)) μ) (h : x = z) : Q (some (.inl x)) μ := by rw [h]; exact k
def x1_B (y s P F W : Int) : Prop := (am_c y = y) ∧ (am_c s = s) ∧ (am_c W = W) ∧ (1 ≤ am_y y ∧ am_y y ≤ 1000) ∧ (0 ≤ P * am_y y ∧ P * am_y y ≤ 40 * 1000) ∧ (0 ≤ W * F ∧ W * F ≤ 2000 * 9) ∧ (50 < am_y y → 0 ≤ F * (am_y y - 50) ∧ F * (am_y y - 50) ≤ 9 * 950) ∧ (0 ≤ (P * am_y y).tdiv 10 ∧ (P * am_y y).tdiv 10 ≤ P * am_y y) ∧ (0 ≤ (W * F).tdiv 10 ∧ (W * F).tdiv 10 ≤ W * F) ∧ (50 < am_y y → 0 ≤ (F * (am_y y - 50)).tdiv 20 ∧ (F * (am_y y - 50)).tdiv 20 ≤ F * (am_y y - 50)) ∧ (am_c (P * am_y y) = P * am_y y) ∧ (am_c (W * F) = W * F) ∧ (0 ≤ F * am_y y ∧ F * am_y y ≤ 9 * 1000) ∧ (F * (am_y y - 50) = F * am_y y - F * 50) ∧ (am_c (F * (am_y y - 50)) = F * (am_y y - 50)) ∧ (am_c ((P * am_y y).tdiv 10) = (P * am_y y).tdiv 10) ∧ (W.tmod 2 = W % 2) ∧ (am_c (W.tmod 2) = W.tmod 2) ∧ (am_c (am_y y) = am_y y) ∧ (1 ≤ am_t0 P (am_y y) ∧ am_t0 P (am_y y) ≤ 40000) ∧ (am_c (am_t0 P (am_y y)) = am_t0 P (am_y y)) ∧ (0 ≤ am_tt F (am_y y) ∧ am_tt F (am_y y) ≤ 8550) ∧ (0 ≤ am_ts F W ∧ am_ts F W ≤ 9)
theorem x1_base {y s P F W : Int} (p0 : 5 ≤ P) (p1 : P ≤ 40) (f0 : 0 ≤ F) (f1 : F ≤ 9) (w0 : 0 ≤ W) (w1 : W ≤ 2000) (y0 : -1000 ≤ y) (y1 : y ≤ 1000) (s0 : -1000 ≤ s) (s1 : s ≤ 1000) : x1_B y s P F W := by
  have cy : am_c y = y := am_cR (by omega) (by omega)
  have cs : am_c s = s := am_cR (by omega) (by omega)
  have cw : am_c W = W := am_cR (by omega) (by omega)
  have hy2 : 1 ≤ am_y y ∧ am_y y ≤ 1000 := by unfold am_y; split <;> omega
  have m1 := am_mulb (a := P) (b := am_y y) (A := 40) (B := 1000) (by omega) (by omega) (by omega) (by omega)
  have m2 := am_mulb (a := W) (b := F) (A := 2000) (B := 9) (by omega) (by omega) (by omega) (by omega)
  have m3 := fun q : 50 < am_y y => am_mulb (a := F) (b := am_y y - 50) (A := 9) (B := 950) (by omega) (by omega) (by omega) (by omega)
  have d1 := am_tdb (a := P * am_y y) (n := 10) (by omega) (by omega)
  have d2 := am_tdb (a := W * F) (n := 10) (by omega) (by omega)
  have d3 := fun q : 50 < am_y y => am_tdb (a := F * (am_y y - 50)) (n := 20) (m3 q).1 (by omega)
  have a1 : am_c (P * am_y y) = P * am_y y := am_cR (by omega) (by omega)
  have a2 : am_c (W * F) = W * F := am_cR (by omega) (by omega)
  have m4 := am_mulb (a := F) (b := am_y y) (A := 9) (B := 1000) (by omega) (by omega) (by omega) (by omega)
  have m5 : F * (am_y y - 50) = F * am_y y - F * 50 := Int.mul_sub _ _ _
  have a3 : am_c (F * (am_y y - 50)) = F * (am_y y - 50) := am_cR (by omega) (by omega)
  have a4 : am_c ((P * am_y y).tdiv 10) = (P * am_y y).tdiv 10 := am_cR (by omega) (by omega)
  have w2 : W.tmod 2 = W % 2 := Int.tmod_eq_emod_of_nonneg w0
  have a6 : am_c (W.tmod 2) = W.tmod 2 := am_cR (by omega) (by omega)
  have cY : am_c (am_y y) = am_y y := am_cR (by omega) (by omega)
  have t0 : 1 ≤ am_t0 P (am_y y) ∧ am_t0 P (am_y y) ≤ 40000 := by unfold am_t0; split <;> omega
  have cT : am_c (am_t0 P (am_y y)) = am_t0 P (am_y y) := am_cR (by omega) (by omega)
  have t1 : 0 ≤ am_tt F (am_y y) ∧ am_tt F (am_y y) ≤ 8550 := by
    unfold am_tt
    split
    · next q => have h1 := d3 q; have h2 := m3 q; omega
    · omega
  have t2 : 0 ≤ am_ts F W ∧ am_ts F W ≤ 9 := by unfold am_ts; split <;> omega
  exact ⟨cy, cs, cw, hy2, m1, m2, m3, d1, d2, d3, a1, a2, m4, m5, a3, a4, w2, a6, cY, t0, cT, t1, t2⟩
theorem x_to49_1 {l : Launch} {ν : am_N} {Q : Option am_V → am_N → Prop} (i y s P F W : Int) (hi0 : 0 ≤ i) (hi1 : i < ν 1 4) (hn : ν 1 4 ≤ 4) (eP : ν 4 i.toNat = P) (p0 : 5 ≤ P) (p1 : P ≤ 40) (f0 : 0 ≤ F) (f1 : F ≤ 9) (w0 : 0 ≤ W) (w1 : W ≤ 2000) (y0 : -1000 ≤ y) (y1 : y ≤ 1000) (s0 : -1000 ≤ s) (s1 : s ≤ 1000) (h : ∀ (Y t : Int), Y = am_y y → t = am_t0 P (am_y y) → am_AW l 0 (fun _ => 0) 10 Q 49 [some (.inr (.inr 1)), some (.inl i), some (.inl y), some (.inl s), some (.inl Y), some (.inl t), none, none] [] ν) : am_Does l 10 [.inr (.inr 1), .inl i, .inl y, .inl s] ν Q := by
  refine am_Does_of (Nat.le_of_ble_eq_true rfl) (Nat.le_of_ble_eq_true rfl) (Nat.le_of_ble_eq_true rfl) ?_
  have ci : am_c i = i := am_cR (by omega) (by omega)
  have ei : (am_c i).toNat = i.toNat := by rw [ci]
  have c1 : am_c 1 = 1 := rfl
  have c2 : am_c 2 = 2 := rfl
  have c10 : am_c 10 = 10 := rfl
  have c20 : am_c 20 = 20 := rfl
  have c50 : am_c 50 = 50 := rfl
  have c00 : am_c 0 = 0 := rfl
  have z20 : (0 : Int).tdiv 20 = 0 := rfl
  have m0 : F * 0 = 0 := Int.mul_zero F
  obtain ⟨cy, cs, cw, hy2, m1, m2, m3, d1, d2, d3, a1, a2, m4, m5, a3, a4, w2, a6, cY, t0, cT, t1, t2⟩ := x1_base p0 p1 f0 f1 w0 w1 y0 y1 s0 s1
  have lp26 : ∀ (Y : Int), Y = am_y y → am_AW l 0 (fun _ => 0) 10 Q 26 [some (.inr (.inr 1)), some (.inl i), some (.inl y), some (.inl s), some (.inl Y), none, none, none] [] ν := by
    intro Y  hv0
    subst hv0
    refine am_go (ct := fun pc => Nat.beq pc 26 || Nat.beq pc 49) am_oX0_tenthsOver 300 ?_
    conv => whnf
    repeat' first
      | (refine (?_ : am_wp _ _ _ _ _ _ _ _ _ _ _ _); conv => whnf)
      | (refine (?_ : am_sw _ _ _ _); conv => whnf)
      | refine And.intro trivial ?_
      | exact trivial
      | refine h _ _ ?_ ?_
      | refine And.intro (fun h => absurd h (by decide)) (fun _ => ?_)
      | refine And.intro (fun _ => ?_) (fun h => absurd (by decide) h)
      | refine And.intro (fun _ => ?_) (fun _ => ?_)
      | refine And.intro ?_ ?_
    all_goals (first | assumption | rfl | decide | omega | (unfold am_t0; simp only [ei, ci, eP, c1, c2, c10, c20, c50, cy, cs, cw, a1, a2, a3, a4, a6, cY, cT, c00, z20, m0] at * <;> first | omega | (rw [if_pos (by omega)]) | (rw [if_neg (by omega)]) | ((repeat' split) <;> first | omega | (simp only [am_c] at * <;> omega))) | (simp only [ei, ci, eP, c1, c2, c10, c20, c50, cy, cs, cw, a1, a2, a3, a4, a6, cY, cT, c00, z20, m0] at * <;> first | omega | (simp only [am_c] at * <;> omega)) | (trace_state; fail))
  refine am_go (ct := fun pc => Nat.beq pc 26 || Nat.beq pc 49) am_oX0_tenthsOver 300 ?_
  conv => whnf
  repeat' first
    | (refine (?_ : am_wp _ _ _ _ _ _ _ _ _ _ _ _); conv => whnf)
    | (refine (?_ : am_sw _ _ _ _); conv => whnf)
    | refine And.intro trivial ?_
    | exact trivial
    | refine h _ _ ?_ ?_
    | ((with_reducible refine (?_ : am_AW _ _ _ _ _ 26 _ _ _)); refine lp26 _  ?_)
    | refine And.intro (fun h => absurd h (by decide)) (fun _ => ?_)
    | refine And.intro (fun _ => ?_) (fun h => absurd (by decide) h)
    | refine And.intro (fun _ => ?_) (fun _ => ?_)
    | refine And.intro ?_ ?_
  all_goals (first | assumption | rfl | decide | omega | (unfold am_y; simp only [ei, ci, eP, c1, c2, c10, c20, c50, cy, cs, cw, a1, a2, a3, a4, a6, cY, cT, c00, z20, m0] at * <;> first | omega | (rw [if_pos (by omega)]) | (rw [if_neg (by omega)]) | ((repeat' split) <;> first | omega | (simp only [am_c] at * <;> omega))) | (simp only [ei, ci, eP, c1, c2, c10, c20, c50, cy, cs, cw, a1, a2, a3, a4, a6, cY, cT, c00, z20, m0] at * <;> first | omega | (simp only [am_c] at * <;> omega)) | (trace_state; fail))
theorem x_at49_1_0 {l : Launch} {ν : am_N} {Q : Option am_V → am_N → Prop} (i y s P F W : Int) (hi0 : 0 ≤ i) (hi1 : i < ν 1 4) (hn : ν 1 4 ≤ 4) (eP : ν 4 i.toNat = P) (eF : ν 3 i.toNat = F) (eK : ν 2 i.toNat = 0) (eW : ν 1 1 = W) (p0 : 5 ≤ P) (p1 : P ≤ 40) (f0 : 0 ≤ F) (f1 : F ≤ 9) (w0 : 0 ≤ W) (w1 : W ≤ 2000) (y0 : -1000 ≤ y) (y1 : y ≤ 1000) (s0 : -1000 ≤ s) (s1 : s ≤ 1000) (k : Q (some (.inl (am_T P F 0 W (am_y y) s))) ν) : am_AW l 0 (fun _ => 0) 10 Q 49 [some (.inr (.inr 1)), some (.inl i), some (.inl y), some (.inl s), some (.inl (am_y y)), some (.inl (am_t0 P (am_y y))), none, none] [] ν := by
  have ci : am_c i = i := am_cR (by omega) (by omega)
  have ei : (am_c i).toNat = i.toNat := by rw [ci]
  have c1 : am_c 1 = 1 := rfl
  have c2 : am_c 2 = 2 := rfl
  have c10 : am_c 10 = 10 := rfl
  have c20 : am_c 20 = 20 := rfl
  have c50 : am_c 50 = 50 := rfl
  have c00 : am_c 0 = 0 := rfl
  have z20 : (0 : Int).tdiv 20 = 0 := rfl
  have m0 : F * 0 = 0 := Int.mul_zero F
  obtain ⟨cy, cs, cw, hy2, m1, m2, m3, d1, d2, d3, a1, a2, m4, m5, a3, a4, w2, a6, cY, t0, cT, t1, t2⟩ := x1_base p0 p1 f0 f1 w0 w1 y0 y1 s0 s1
  refine am_go (ct := fun _ => false) am_oX0_tenthsOver 300 ?_
  conv => whnf
  repeat' first
    | (refine (?_ : am_wp _ _ _ _ _ _ _ _ _ _ _ _); conv => whnf)
    | (refine (?_ : am_sw _ _ _ _); conv => whnf)
    | refine And.intro trivial ?_
    | exact trivial
    | ((with_reducible refine (?_ : _ ∧ _)); refine And.intro (fun h => absurd h (by rw [ei, eK]; decide)) (fun _ => ?_))
    | ((with_reducible refine (?_ : _ ∧ _)); refine And.intro (fun _ => ?_) (fun h => absurd h (by rw [ei, eK]; decide)))
    | refine am_qe k ?_
    | refine And.intro (fun h => absurd h (by decide)) (fun _ => ?_)
    | refine And.intro (fun _ => ?_) (fun h => absurd (by decide) h)
    | refine And.intro (fun _ => ?_) (fun _ => ?_)
    | refine And.intro ?_ ?_
  all_goals (first | decide | omega | (unfold am_T; rw [if_neg (by decide), if_neg (by decide), if_neg (by decide), if_neg (by decide), if_neg (by decide)]; done) | (unfold am_T; rw [if_neg (by decide), if_neg (by decide), if_neg (by decide), if_neg (by decide), if_neg (by decide)]; simp only [am_ts, am_tt, ei, ci, eP, eF, eK, eW, c1, c2, c10, c20, c50, cy, cs, cw, a1, a2, a3, a4, a6, cY, cT, c00, z20, m0] at * <;> first | omega | ((repeat' split) <;> first | omega | (simp only [am_c] at * <;> omega))) | (simp only [ei, ci, eP, eF, eK, eW, c1, c2, c10, c20, c50, cy, cs, cw, a1, a2, a3, a4, a6, cY, cT, c00, z20, m0] at * <;> first | omega | (simp only [am_c] at * <;> omega)) | (trace_state; fail))
theorem x_tenthsOver_1_0 {l : Launch} {ν : am_N} {Q : Option am_V → am_N → Prop} (i y s P F W : Int) (hi0 : 0 ≤ i) (hi1 : i < ν 1 4) (hn : ν 1 4 ≤ 4) (eP : ν 4 i.toNat = P) (eF : ν 3 i.toNat = F) (eK : ν 2 i.toNat = 0) (eW : ν 1 1 = W) (p0 : 5 ≤ P) (p1 : P ≤ 40) (f0 : 0 ≤ F) (f1 : F ≤ 9) (w0 : 0 ≤ W) (w1 : W ≤ 2000) (y0 : -1000 ≤ y) (y1 : y ≤ 1000) (s0 : -1000 ≤ s) (s1 : s ≤ 1000) (k : Q (some (.inl (am_T P F 0 W (am_y y) s))) ν) : am_Does l 10 [.inr (.inr 1), .inl i, .inl y, .inl s] ν Q := by
  refine x_to49_1 i y s P F W hi0 hi1 hn eP p0 p1 f0 f1 w0 w1 y0 y1 s0 s1 (fun Y t hv0 hv1 => ?_)
  subst hv0
  subst hv1
  exact x_at49_1_0 i y s P F W hi0 hi1 hn eP eF eK eW p0 p1 f0 f1 w0 w1 y0 y1 s0 s1 k
theorem x_at49_1_1 {l : Launch} {ν : am_N} {Q : Option am_V → am_N → Prop} (i y s P F W : Int) (hi0 : 0 ≤ i) (hi1 : i < ν 1 4) (hn : ν 1 4 ≤ 4) (eP : ν 4 i.toNat = P) (eF : ν 3 i.toNat = F) (eK : ν 2 i.toNat = 1) (eW : ν 1 1 = W) (p0 : 5 ≤ P) (p1 : P ≤ 40) (f0 : 0 ≤ F) (f1 : F ≤ 9) (w0 : 0 ≤ W) (w1 : W ≤ 2000) (y0 : -1000 ≤ y) (y1 : y ≤ 1000) (s0 : -1000 ≤ s) (s1 : s ≤ 1000) (k : Q (some (.inl (am_T P F 1 W (am_y y) s))) ν) : am_AW l 0 (fun _ => 0) 10 Q 49 [some (.inr (.inr 1)), some (.inl i), some (.inl y), some (.inl s), some (.inl (am_y y)), some (.inl (am_t0 P (am_y y))), none, none] [] ν := by
  have ci : am_c i = i := am_cR (by omega) (by omega)
  have ei : (am_c i).toNat = i.toNat := by rw [ci]
  have c1 : am_c 1 = 1 := rfl
  have c2 : am_c 2 = 2 := rfl
  have c10 : am_c 10 = 10 := rfl
  have c20 : am_c 20 = 20 := rfl
  have c50 : am_c 50 = 50 := rfl
  have c00 : am_c 0 = 0 := rfl
  have z20 : (0 : Int).tdiv 20 = 0 := rfl
  have m0 : F * 0 = 0 := Int.mul_zero F
  obtain ⟨cy, cs, cw, hy2, m1, m2, m3, d1, d2, d3, a1, a2, m4, m5, a3, a4, w2, a6, cY, t0, cT, t1, t2⟩ := x1_base p0 p1 f0 f1 w0 w1 y0 y1 s0 s1
  refine am_go (ct := fun _ => false) am_oX0_tenthsOver 300 ?_
  conv => whnf
  repeat' first
    | (refine (?_ : am_wp _ _ _ _ _ _ _ _ _ _ _ _); conv => whnf)
    | (refine (?_ : am_sw _ _ _ _); conv => whnf)
    | refine And.intro trivial ?_
    | exact trivial
    | ((with_reducible refine (?_ : _ ∧ _)); refine And.intro (fun h => absurd h (by rw [ei, eK]; decide)) (fun _ => ?_))
    | ((with_reducible refine (?_ : _ ∧ _)); refine And.intro (fun _ => ?_) (fun h => absurd h (by rw [ei, eK]; decide)))
    | refine am_qe k ?_
    | refine And.intro (fun h => absurd h (by decide)) (fun _ => ?_)
    | refine And.intro (fun _ => ?_) (fun h => absurd (by decide) h)
    | refine And.intro (fun _ => ?_) (fun _ => ?_)
    | refine And.intro ?_ ?_
  all_goals (first | decide | omega | (unfold am_T; rw [if_pos rfl]; done) | (unfold am_T; rw [if_pos rfl]; simp only [am_ts, am_tt, ei, ci, eP, eF, eK, eW, c1, c2, c10, c20, c50, cy, cs, cw, a1, a2, a3, a4, a6, cY, cT, c00, z20, m0] at * <;> first | omega | ((repeat' split) <;> first | omega | (simp only [am_c] at * <;> omega))) | (simp only [ei, ci, eP, eF, eK, eW, c1, c2, c10, c20, c50, cy, cs, cw, a1, a2, a3, a4, a6, cY, cT, c00, z20, m0] at * <;> first | omega | (simp only [am_c] at * <;> omega)) | (trace_state; fail))
theorem x_tenthsOver_1_1 {l : Launch} {ν : am_N} {Q : Option am_V → am_N → Prop} (i y s P F W : Int) (hi0 : 0 ≤ i) (hi1 : i < ν 1 4) (hn : ν 1 4 ≤ 4) (eP : ν 4 i.toNat = P) (eF : ν 3 i.toNat = F) (eK : ν 2 i.toNat = 1) (eW : ν 1 1 = W) (p0 : 5 ≤ P) (p1 : P ≤ 40) (f0 : 0 ≤ F) (f1 : F ≤ 9) (w0 : 0 ≤ W) (w1 : W ≤ 2000) (y0 : -1000 ≤ y) (y1 : y ≤ 1000) (s0 : -1000 ≤ s) (s1 : s ≤ 1000) (k : Q (some (.inl (am_T P F 1 W (am_y y) s))) ν) : am_Does l 10 [.inr (.inr 1), .inl i, .inl y, .inl s] ν Q := by
  refine x_to49_1 i y s P F W hi0 hi1 hn eP p0 p1 f0 f1 w0 w1 y0 y1 s0 s1 (fun Y t hv0 hv1 => ?_)
  subst hv0
  subst hv1
  exact x_at49_1_1 i y s P F W hi0 hi1 hn eP eF eK eW p0 p1 f0 f1 w0 w1 y0 y1 s0 s1 k
theorem x_at49_1_2 {l : Launch} {ν : am_N} {Q : Option am_V → am_N → Prop} (i y s P F W : Int) (hi0 : 0 ≤ i) (hi1 : i < ν 1 4) (hn : ν 1 4 ≤ 4) (eP : ν 4 i.toNat = P) (eF : ν 3 i.toNat = F) (eK : ν 2 i.toNat = 2) (eW : ν 1 1 = W) (p0 : 5 ≤ P) (p1 : P ≤ 40) (f0 : 0 ≤ F) (f1 : F ≤ 9) (w0 : 0 ≤ W) (w1 : W ≤ 2000) (y0 : -1000 ≤ y) (y1 : y ≤ 1000) (s0 : -1000 ≤ s) (s1 : s ≤ 1000) (k : Q (some (.inl (am_T P F 2 W (am_y y) s))) ν) : am_AW l 0 (fun _ => 0) 10 Q 49 [some (.inr (.inr 1)), some (.inl i), some (.inl y), some (.inl s), some (.inl (am_y y)), some (.inl (am_t0 P (am_y y))), none, none] [] ν := by
  have ci : am_c i = i := am_cR (by omega) (by omega)
  have ei : (am_c i).toNat = i.toNat := by rw [ci]
  have c1 : am_c 1 = 1 := rfl
  have c2 : am_c 2 = 2 := rfl
  have c10 : am_c 10 = 10 := rfl
  have c20 : am_c 20 = 20 := rfl
  have c50 : am_c 50 = 50 := rfl
  have c00 : am_c 0 = 0 := rfl
  have z20 : (0 : Int).tdiv 20 = 0 := rfl
  have m0 : F * 0 = 0 := Int.mul_zero F
  obtain ⟨cy, cs, cw, hy2, m1, m2, m3, d1, d2, d3, a1, a2, m4, m5, a3, a4, w2, a6, cY, t0, cT, t1, t2⟩ := x1_base p0 p1 f0 f1 w0 w1 y0 y1 s0 s1
  refine am_go (ct := fun _ => false) am_oX0_tenthsOver 300 ?_
  conv => whnf
  repeat' first
    | (refine (?_ : am_wp _ _ _ _ _ _ _ _ _ _ _ _); conv => whnf)
    | (refine (?_ : am_sw _ _ _ _); conv => whnf)
    | refine And.intro trivial ?_
    | exact trivial
    | ((with_reducible refine (?_ : _ ∧ _)); refine And.intro (fun h => absurd h (by rw [ei, eK]; decide)) (fun _ => ?_))
    | ((with_reducible refine (?_ : _ ∧ _)); refine And.intro (fun _ => ?_) (fun h => absurd h (by rw [ei, eK]; decide)))
    | refine am_qe k ?_
    | refine And.intro (fun h => absurd h (by decide)) (fun _ => ?_)
    | refine And.intro (fun _ => ?_) (fun h => absurd (by decide) h)
    | refine And.intro (fun _ => ?_) (fun _ => ?_)
    | refine And.intro ?_ ?_
  all_goals (first | decide | omega | (unfold am_T; rw [if_neg (by decide), if_pos rfl]; done) | (unfold am_T; rw [if_neg (by decide), if_pos rfl]; simp only [am_ts, am_tt, ei, ci, eP, eF, eK, eW, c1, c2, c10, c20, c50, cy, cs, cw, a1, a2, a3, a4, a6, cY, cT, c00, z20, m0] at * <;> first | omega | ((repeat' split) <;> first | omega | (simp only [am_c] at * <;> omega))) | (simp only [ei, ci, eP, eF, eK, eW, c1, c2, c10, c20, c50, cy, cs, cw, a1, a2, a3, a4, a6, cY, cT, c00, z20, m0] at * <;> first | omega | (simp only [am_c] at * <;> omega)) | (trace_state; fail))
theorem x_tenthsOver_1_2 {l : Launch} {ν : am_N} {Q : Option am_V → am_N → Prop} (i y s P F W : Int) (hi0 : 0 ≤ i) (hi1 : i < ν 1 4) (hn : ν 1 4 ≤ 4) (eP : ν 4 i.toNat = P) (eF : ν 3 i.toNat = F) (eK : ν 2 i.toNat = 2) (eW : ν 1 1 = W) (p0 : 5 ≤ P) (p1 : P ≤ 40) (f0 : 0 ≤ F) (f1 : F ≤ 9) (w0 : 0 ≤ W) (w1 : W ≤ 2000) (y0 : -1000 ≤ y) (y1 : y ≤ 1000) (s0 : -1000 ≤ s) (s1 : s ≤ 1000) (k : Q (some (.inl (am_T P F 2 W (am_y y) s))) ν) : am_Does l 10 [.inr (.inr 1), .inl i, .inl y, .inl s] ν Q := by
  refine x_to49_1 i y s P F W hi0 hi1 hn eP p0 p1 f0 f1 w0 w1 y0 y1 s0 s1 (fun Y t hv0 hv1 => ?_)
  subst hv0
  subst hv1
  exact x_at49_1_2 i y s P F W hi0 hi1 hn eP eF eK eW p0 p1 f0 f1 w0 w1 y0 y1 s0 s1 k
theorem x_at49_1_3 {l : Launch} {ν : am_N} {Q : Option am_V → am_N → Prop} (i y s P F W : Int) (hi0 : 0 ≤ i) (hi1 : i < ν 1 4) (hn : ν 1 4 ≤ 4) (eP : ν 4 i.toNat = P) (eF : ν 3 i.toNat = F) (eK : ν 2 i.toNat = 3) (eW : ν 1 1 = W) (p0 : 5 ≤ P) (p1 : P ≤ 40) (f0 : 0 ≤ F) (f1 : F ≤ 9) (w0 : 0 ≤ W) (w1 : W ≤ 2000) (y0 : -1000 ≤ y) (y1 : y ≤ 1000) (s0 : -1000 ≤ s) (s1 : s ≤ 1000) (k : Q (some (.inl (am_T P F 3 W (am_y y) s))) ν) : am_AW l 0 (fun _ => 0) 10 Q 49 [some (.inr (.inr 1)), some (.inl i), some (.inl y), some (.inl s), some (.inl (am_y y)), some (.inl (am_t0 P (am_y y))), none, none] [] ν := by
  have ci : am_c i = i := am_cR (by omega) (by omega)
  have ei : (am_c i).toNat = i.toNat := by rw [ci]
  have c1 : am_c 1 = 1 := rfl
  have c2 : am_c 2 = 2 := rfl
  have c10 : am_c 10 = 10 := rfl
  have c20 : am_c 20 = 20 := rfl
  have c50 : am_c 50 = 50 := rfl
  have c00 : am_c 0 = 0 := rfl
  have z20 : (0 : Int).tdiv 20 = 0 := rfl
  have m0 : F * 0 = 0 := Int.mul_zero F
  obtain ⟨cy, cs, cw, hy2, m1, m2, m3, d1, d2, d3, a1, a2, m4, m5, a3, a4, w2, a6, cY, t0, cT, t1, t2⟩ := x1_base p0 p1 f0 f1 w0 w1 y0 y1 s0 s1
  refine am_go (ct := fun _ => false) am_oX0_tenthsOver 300 ?_
  conv => whnf
  repeat' first
    | (refine (?_ : am_wp _ _ _ _ _ _ _ _ _ _ _ _); conv => whnf)
    | (refine (?_ : am_sw _ _ _ _); conv => whnf)
    | refine And.intro trivial ?_
    | exact trivial
    | ((with_reducible refine (?_ : _ ∧ _)); refine And.intro (fun h => absurd h (by rw [ei, eK]; decide)) (fun _ => ?_))
    | ((with_reducible refine (?_ : _ ∧ _)); refine And.intro (fun _ => ?_) (fun h => absurd h (by rw [ei, eK]; decide)))
    | refine am_qe k ?_
    | refine And.intro (fun h => absurd h (by decide)) (fun _ => ?_)
    | refine And.intro (fun _ => ?_) (fun h => absurd (by decide) h)
    | refine And.intro (fun _ => ?_) (fun _ => ?_)
    | refine And.intro ?_ ?_
  all_goals (first | decide | omega | (unfold am_T; rw [if_neg (by decide), if_neg (by decide), if_pos rfl]; done) | (unfold am_T; rw [if_neg (by decide), if_neg (by decide), if_pos rfl]; simp only [am_ts, am_tt, ei, ci, eP, eF, eK, eW, c1, c2, c10, c20, c50, cy, cs, cw, a1, a2, a3, a4, a6, cY, cT, c00, z20, m0] at * <;> first | omega | ((repeat' split) <;> first | omega | (simp only [am_c] at * <;> omega))) | (simp only [ei, ci, eP, eF, eK, eW, c1, c2, c10, c20, c50, cy, cs, cw, a1, a2, a3, a4, a6, cY, cT, c00, z20, m0] at * <;> first | omega | (simp only [am_c] at * <;> omega)) | (trace_state; fail))
theorem x_tenthsOver_1_3 {l : Launch} {ν : am_N} {Q : Option am_V → am_N → Prop} (i y s P F W : Int) (hi0 : 0 ≤ i) (hi1 : i < ν 1 4) (hn : ν 1 4 ≤ 4) (eP : ν 4 i.toNat = P) (eF : ν 3 i.toNat = F) (eK : ν 2 i.toNat = 3) (eW : ν 1 1 = W) (p0 : 5 ≤ P) (p1 : P ≤ 40) (f0 : 0 ≤ F) (f1 : F ≤ 9) (w0 : 0 ≤ W) (w1 : W ≤ 2000) (y0 : -1000 ≤ y) (y1 : y ≤ 1000) (s0 : -1000 ≤ s) (s1 : s ≤ 1000) (k : Q (some (.inl (am_T P F 3 W (am_y y) s))) ν) : am_Does l 10 [.inr (.inr 1), .inl i, .inl y, .inl s] ν Q := by
  refine x_to49_1 i y s P F W hi0 hi1 hn eP p0 p1 f0 f1 w0 w1 y0 y1 s0 s1 (fun Y t hv0 hv1 => ?_)
  subst hv0
  subst hv1
  exact x_at49_1_3 i y s P F W hi0 hi1 hn eP eF eK eW p0 p1 f0 f1 w0 w1 y0 y1 s0 s1 k
theorem x_at49_1_4 {l : Launch} {ν : am_N} {Q : Option am_V → am_N → Prop} (i y s P F W : Int) (hi0 : 0 ≤ i) (hi1 : i < ν 1 4) (hn : ν 1 4 ≤ 4) (eP : ν 4 i.toNat = P) (eF : ν 3 i.toNat = F) (eK : ν 2 i.toNat = 4) (eW : ν 1 1 = W) (p0 : 5 ≤ P) (p1 : P ≤ 40) (f0 : 0 ≤ F) (f1 : F ≤ 9) (w0 : 0 ≤ W) (w1 : W ≤ 2000) (y0 : -1000 ≤ y) (y1 : y ≤ 1000) (s0 : -1000 ≤ s) (s1 : s ≤ 1000) (k : Q (some (.inl (am_T P F 4 W (am_y y) s))) ν) : am_AW l 0 (fun _ => 0) 10 Q 49 [some (.inr (.inr 1)), some (.inl i), some (.inl y), some (.inl s), some (.inl (am_y y)), some (.inl (am_t0 P (am_y y))), none, none] [] ν := by
  have ci : am_c i = i := am_cR (by omega) (by omega)
  have ei : (am_c i).toNat = i.toNat := by rw [ci]
  have c1 : am_c 1 = 1 := rfl
  have c2 : am_c 2 = 2 := rfl
  have c10 : am_c 10 = 10 := rfl
  have c20 : am_c 20 = 20 := rfl
  have c50 : am_c 50 = 50 := rfl
  have c00 : am_c 0 = 0 := rfl
  have z20 : (0 : Int).tdiv 20 = 0 := rfl
  have m0 : F * 0 = 0 := Int.mul_zero F
  obtain ⟨cy, cs, cw, hy2, m1, m2, m3, d1, d2, d3, a1, a2, m4, m5, a3, a4, w2, a6, cY, t0, cT, t1, t2⟩ := x1_base p0 p1 f0 f1 w0 w1 y0 y1 s0 s1
  refine am_go (ct := fun _ => false) am_oX0_tenthsOver 300 ?_
  conv => whnf
  repeat' first
    | (refine (?_ : am_wp _ _ _ _ _ _ _ _ _ _ _ _); conv => whnf)
    | (refine (?_ : am_sw _ _ _ _); conv => whnf)
    | refine And.intro trivial ?_
    | exact trivial
    | ((with_reducible refine (?_ : _ ∧ _)); refine And.intro (fun h => absurd h (by rw [ei, eK]; decide)) (fun _ => ?_))
    | ((with_reducible refine (?_ : _ ∧ _)); refine And.intro (fun _ => ?_) (fun h => absurd h (by rw [ei, eK]; decide)))
    | refine am_qe k ?_
    | refine And.intro (fun h => absurd h (by decide)) (fun _ => ?_)
    | refine And.intro (fun _ => ?_) (fun h => absurd (by decide) h)
    | refine And.intro (fun _ => ?_) (fun _ => ?_)
    | refine And.intro ?_ ?_
  all_goals (first | decide | omega | (unfold am_T; rw [if_neg (by decide), if_neg (by decide), if_neg (by decide), if_pos rfl]; done) | (unfold am_T; rw [if_neg (by decide), if_neg (by decide), if_neg (by decide), if_pos rfl]; simp only [am_ts, am_tt, ei, ci, eP, eF, eK, eW, c1, c2, c10, c20, c50, cy, cs, cw, a1, a2, a3, a4, a6, cY, cT, c00, z20, m0] at * <;> first | omega | ((repeat' split) <;> first | omega | (simp only [am_c] at * <;> omega))) | (simp only [ei, ci, eP, eF, eK, eW, c1, c2, c10, c20, c50, cy, cs, cw, a1, a2, a3, a4, a6, cY, cT, c00, z20, m0] at * <;> first | omega | (simp only [am_c] at * <;> omega)) | (trace_state; fail))
theorem x_tenthsOver_1_4 {l : Launch} {ν : am_N} {Q : Option am_V → am_N → Prop} (i y s P F W : Int) (hi0 : 0 ≤ i) (hi1 : i < ν 1 4) (hn : ν 1 4 ≤ 4) (eP : ν 4 i.toNat = P) (eF : ν 3 i.toNat = F) (eK : ν 2 i.toNat = 4) (eW : ν 1 1 = W) (p0 : 5 ≤ P) (p1 : P ≤ 40) (f0 : 0 ≤ F) (f1 : F ≤ 9) (w0 : 0 ≤ W) (w1 : W ≤ 2000) (y0 : -1000 ≤ y) (y1 : y ≤ 1000) (s0 : -1000 ≤ s) (s1 : s ≤ 1000) (k : Q (some (.inl (am_T P F 4 W (am_y y) s))) ν) : am_Does l 10 [.inr (.inr 1), .inl i, .inl y, .inl s] ν Q := by
  refine x_to49_1 i y s P F W hi0 hi1 hn eP p0 p1 f0 f1 w0 w1 y0 y1 s0 s1 (fun Y t hv0 hv1 => ?_)
  subst hv0
  subst hv1
  exact x_at49_1_4 i y s P F W hi0 hi1 hn eP eF eK eW p0 p1 f0 f1 w0 w1 y0 y1 s0 s1 k
theorem x_at49_1_5 {l : Launch} {ν : am_N} {Q : Option am_V → am_N → Prop} (i y s P F W : Int) (hi0 : 0 ≤ i) (hi1 : i < ν 1 4) (hn : ν 1 4 ≤ 4) (eP : ν 4 i.toNat = P) (eF : ν 3 i.toNat = F) (eK : ν 2 i.toNat = 5) (eW : ν 1 1 = W) (p0 : 5 ≤ P) (p1 : P ≤ 40) (f0 : 0 ≤ F) (f1 : F ≤ 9) (w0 : 0 ≤ W) (w1 : W ≤ 2000) (y0 : -1000 ≤ y) (y1 : y ≤ 1000) (s0 : -1000 ≤ s) (s1 : s ≤ 1000) (k : Q (some (.inl (am_T P F 5 W (am_y y) s))) ν) : am_AW l 0 (fun _ => 0) 10 Q 49 [some (.inr (.inr 1)), some (.inl i), some (.inl y), some (.inl s), some (.inl (am_y y)), some (.inl (am_t0 P (am_y y))), none, none] [] ν := by
  have ci : am_c i = i := am_cR (by omega) (by omega)
  have ei : (am_c i).toNat = i.toNat := by rw [ci]
  have c1 : am_c 1 = 1 := rfl
  have c2 : am_c 2 = 2 := rfl
  have c10 : am_c 10 = 10 := rfl
  have c20 : am_c 20 = 20 := rfl
  have c50 : am_c 50 = 50 := rfl
  have c00 : am_c 0 = 0 := rfl
  have z20 : (0 : Int).tdiv 20 = 0 := rfl
  have m0 : F * 0 = 0 := Int.mul_zero F
  obtain ⟨cy, cs, cw, hy2, m1, m2, m3, d1, d2, d3, a1, a2, m4, m5, a3, a4, w2, a6, cY, t0, cT, t1, t2⟩ := x1_base p0 p1 f0 f1 w0 w1 y0 y1 s0 s1
  refine am_go (ct := fun _ => false) am_oX0_tenthsOver 300 ?_
  conv => whnf
  repeat' first
    | (refine (?_ : am_wp _ _ _ _ _ _ _ _ _ _ _ _); conv => whnf)
    | (refine (?_ : am_sw _ _ _ _); conv => whnf)
    | refine And.intro trivial ?_
    | exact trivial
    | ((with_reducible refine (?_ : _ ∧ _)); refine And.intro (fun h => absurd h (by rw [ei, eK]; decide)) (fun _ => ?_))
    | ((with_reducible refine (?_ : _ ∧ _)); refine And.intro (fun _ => ?_) (fun h => absurd h (by rw [ei, eK]; decide)))
    | refine am_qe k ?_
    | refine And.intro (fun h => absurd h (by decide)) (fun _ => ?_)
    | refine And.intro (fun _ => ?_) (fun h => absurd (by decide) h)
    | refine And.intro (fun _ => ?_) (fun _ => ?_)
    | refine And.intro ?_ ?_
  all_goals (first | decide | omega | (unfold am_T; rw [if_neg (by decide), if_neg (by decide), if_neg (by decide), if_neg (by decide), if_pos rfl]; done) | (unfold am_T; rw [if_neg (by decide), if_neg (by decide), if_neg (by decide), if_neg (by decide), if_pos rfl]; simp only [am_ts, am_tt, ei, ci, eP, eF, eK, eW, c1, c2, c10, c20, c50, cy, cs, cw, a1, a2, a3, a4, a6, cY, cT, c00, z20, m0] at * <;> first | omega | ((repeat' split) <;> first | omega | (simp only [am_c] at * <;> omega))) | (simp only [ei, ci, eP, eF, eK, eW, c1, c2, c10, c20, c50, cy, cs, cw, a1, a2, a3, a4, a6, cY, cT, c00, z20, m0] at * <;> first | omega | (simp only [am_c] at * <;> omega)) | (trace_state; fail))
theorem x_tenthsOver_1_5 {l : Launch} {ν : am_N} {Q : Option am_V → am_N → Prop} (i y s P F W : Int) (hi0 : 0 ≤ i) (hi1 : i < ν 1 4) (hn : ν 1 4 ≤ 4) (eP : ν 4 i.toNat = P) (eF : ν 3 i.toNat = F) (eK : ν 2 i.toNat = 5) (eW : ν 1 1 = W) (p0 : 5 ≤ P) (p1 : P ≤ 40) (f0 : 0 ≤ F) (f1 : F ≤ 9) (w0 : 0 ≤ W) (w1 : W ≤ 2000) (y0 : -1000 ≤ y) (y1 : y ≤ 1000) (s0 : -1000 ≤ s) (s1 : s ≤ 1000) (k : Q (some (.inl (am_T P F 5 W (am_y y) s))) ν) : am_Does l 10 [.inr (.inr 1), .inl i, .inl y, .inl s] ν Q := by
  refine x_to49_1 i y s P F W hi0 hi1 hn eP p0 p1 f0 f1 w0 w1 y0 y1 s0 s1 (fun Y t hv0 hv1 => ?_)
  subst hv0
  subst hv1
  exact x_at49_1_5 i y s P F W hi0 hi1 hn eP eF eK eW p0 p1 f0 f1 w0 w1 y0 y1 s0 s1 k
theorem x_to49_8 {l : Launch} {ν : am_N} {Q : Option am_V → am_N → Prop} (i y s P F W : Int) (hi0 : 0 ≤ i) (hi1 : i < ν 8 4) (hn : ν 8 4 ≤ 4) (eP : ν 11 i.toNat = P) (p0 : 5 ≤ P) (p1 : P ≤ 40) (f0 : 0 ≤ F) (f1 : F ≤ 9) (w0 : 0 ≤ W) (w1 : W ≤ 2000) (y0 : -1000 ≤ y) (y1 : y ≤ 1000) (s0 : -1000 ≤ s) (s1 : s ≤ 1000) (h : ∀ (Y t : Int), Y = am_y y → t = am_t0 P (am_y y) → am_AW l 0 (fun _ => 0) 10 Q 49 [some (.inr (.inr 8)), some (.inl i), some (.inl y), some (.inl s), some (.inl Y), some (.inl t), none, none] [] ν) : am_Does l 10 [.inr (.inr 8), .inl i, .inl y, .inl s] ν Q := by
  refine am_Does_of (Nat.le_of_ble_eq_true rfl) (Nat.le_of_ble_eq_true rfl) (Nat.le_of_ble_eq_true rfl) ?_
  have ci : am_c i = i := am_cR (by omega) (by omega)
  have ei : (am_c i).toNat = i.toNat := by rw [ci]
  have c1 : am_c 1 = 1 := rfl
  have c2 : am_c 2 = 2 := rfl
  have c10 : am_c 10 = 10 := rfl
  have c20 : am_c 20 = 20 := rfl
  have c50 : am_c 50 = 50 := rfl
  have c00 : am_c 0 = 0 := rfl
  have z20 : (0 : Int).tdiv 20 = 0 := rfl
  have m0 : F * 0 = 0 := Int.mul_zero F
  obtain ⟨cy, cs, cw, hy2, m1, m2, m3, d1, d2, d3, a1, a2, m4, m5, a3, a4, w2, a6, cY, t0, cT, t1, t2⟩ := x1_base p0 p1 f0 f1 w0 w1 y0 y1 s0 s1
  have lp26 : ∀ (Y : Int), Y = am_y y → am_AW l 0 (fun _ => 0) 10 Q 26 [some (.inr (.inr 8)), some (.inl i), some (.inl y), some (.inl s), some (.inl Y), none, none, none] [] ν := by
    intro Y  hv0
    subst hv0
    refine am_go (ct := fun pc => Nat.beq pc 26 || Nat.beq pc 49) am_oX0_tenthsOver 300 ?_
    conv => whnf
    repeat' first
      | (refine (?_ : am_wp _ _ _ _ _ _ _ _ _ _ _ _); conv => whnf)
      | (refine (?_ : am_sw _ _ _ _); conv => whnf)
      | refine And.intro trivial ?_
      | exact trivial
      | refine h _ _ ?_ ?_
      | refine And.intro (fun h => absurd h (by decide)) (fun _ => ?_)
      | refine And.intro (fun _ => ?_) (fun h => absurd (by decide) h)
      | refine And.intro (fun _ => ?_) (fun _ => ?_)
      | refine And.intro ?_ ?_
    all_goals (first | assumption | rfl | decide | omega | (unfold am_t0; simp only [ei, ci, eP, c1, c2, c10, c20, c50, cy, cs, cw, a1, a2, a3, a4, a6, cY, cT, c00, z20, m0] at * <;> first | omega | (rw [if_pos (by omega)]) | (rw [if_neg (by omega)]) | ((repeat' split) <;> first | omega | (simp only [am_c] at * <;> omega))) | (simp only [ei, ci, eP, c1, c2, c10, c20, c50, cy, cs, cw, a1, a2, a3, a4, a6, cY, cT, c00, z20, m0] at * <;> first | omega | (simp only [am_c] at * <;> omega)) | (trace_state; fail))
  refine am_go (ct := fun pc => Nat.beq pc 26 || Nat.beq pc 49) am_oX0_tenthsOver 300 ?_
  conv => whnf
  repeat' first
    | (refine (?_ : am_wp _ _ _ _ _ _ _ _ _ _ _ _); conv => whnf)
    | (refine (?_ : am_sw _ _ _ _); conv => whnf)
    | refine And.intro trivial ?_
    | exact trivial
    | refine h _ _ ?_ ?_
    | ((with_reducible refine (?_ : am_AW _ _ _ _ _ 26 _ _ _)); refine lp26 _  ?_)
    | refine And.intro (fun h => absurd h (by decide)) (fun _ => ?_)
    | refine And.intro (fun _ => ?_) (fun h => absurd (by decide) h)
    | refine And.intro (fun _ => ?_) (fun _ => ?_)
    | refine And.intro ?_ ?_
  all_goals (first | assumption | rfl | decide | omega | (unfold am_y; simp only [ei, ci, eP, c1, c2, c10, c20, c50, cy, cs, cw, a1, a2, a3, a4, a6, cY, cT, c00, z20, m0] at * <;> first | omega | (rw [if_pos (by omega)]) | (rw [if_neg (by omega)]) | ((repeat' split) <;> first | omega | (simp only [am_c] at * <;> omega))) | (simp only [ei, ci, eP, c1, c2, c10, c20, c50, cy, cs, cw, a1, a2, a3, a4, a6, cY, cT, c00, z20, m0] at * <;> first | omega | (simp only [am_c] at * <;> omega)) | (trace_state; fail))
theorem x_at49_8_0 {l : Launch} {ν : am_N} {Q : Option am_V → am_N → Prop} (i y s P F W : Int) (hi0 : 0 ≤ i) (hi1 : i < ν 8 4) (hn : ν 8 4 ≤ 4) (eP : ν 11 i.toNat = P) (eF : ν 10 i.toNat = F) (eK : ν 9 i.toNat = 0) (eW : ν 8 1 = W) (p0 : 5 ≤ P) (p1 : P ≤ 40) (f0 : 0 ≤ F) (f1 : F ≤ 9) (w0 : 0 ≤ W) (w1 : W ≤ 2000) (y0 : -1000 ≤ y) (y1 : y ≤ 1000) (s0 : -1000 ≤ s) (s1 : s ≤ 1000) (k : Q (some (.inl (am_T P F 0 W (am_y y) s))) ν) : am_AW l 0 (fun _ => 0) 10 Q 49 [some (.inr (.inr 8)), some (.inl i), some (.inl y), some (.inl s), some (.inl (am_y y)), some (.inl (am_t0 P (am_y y))), none, none] [] ν := by
  have ci : am_c i = i := am_cR (by omega) (by omega)
  have ei : (am_c i).toNat = i.toNat := by rw [ci]
  have c1 : am_c 1 = 1 := rfl
  have c2 : am_c 2 = 2 := rfl
  have c10 : am_c 10 = 10 := rfl
  have c20 : am_c 20 = 20 := rfl
  have c50 : am_c 50 = 50 := rfl
  have c00 : am_c 0 = 0 := rfl
  have z20 : (0 : Int).tdiv 20 = 0 := rfl
  have m0 : F * 0 = 0 := Int.mul_zero F
  obtain ⟨cy, cs, cw, hy2, m1, m2, m3, d1, d2, d3, a1, a2, m4, m5, a3, a4, w2, a6, cY, t0, cT, t1, t2⟩ := x1_base p0 p1 f0 f1 w0 w1 y0 y1 s0 s1
  refine am_go (ct := fun _ => false) am_oX0_tenthsOver 300 ?_
  conv => whnf
  repeat' first
    | (refine (?_ : am_wp _ _ _ _ _ _ _ _ _ _ _ _); conv => whnf)
    | (refine (?_ : am_sw _ _ _ _); conv => whnf)
    | refine And.intro trivial ?_
    | exact trivial
    | ((with_reducible refine (?_ : _ ∧ _)); refine And.intro (fun h => absurd h (by rw [ei, eK]; decide)) (fun _ => ?_))
    | ((with_reducible refine (?_ : _ ∧ _)); refine And.intro (fun _ => ?_) (fun h => absurd h (by rw [ei, eK]; decide)))
    | refine am_qe k ?_
    | refine And.intro (fun h => absurd h (by decide)) (fun _ => ?_)
    | refine And.intro (fun _ => ?_) (fun h => absurd (by decide) h)
    | refine And.intro (fun _ => ?_) (fun _ => ?_)
    | refine And.intro ?_ ?_
  all_goals (first | decide | omega | (unfold am_T; rw [if_neg (by decide), if_neg (by decide), if_neg (by decide), if_neg (by decide), if_neg (by decide)]; done) | (unfold am_T; rw [if_neg (by decide), if_neg (by decide), if_neg (by decide), if_neg (by decide), if_neg (by decide)]; simp only [am_ts, am_tt, ei, ci, eP, eF, eK, eW, c1, c2, c10, c20, c50, cy, cs, cw, a1, a2, a3, a4, a6, cY, cT, c00, z20, m0] at * <;> first | omega | ((repeat' split) <;> first | omega | (simp only [am_c] at * <;> omega))) | (simp only [ei, ci, eP, eF, eK, eW, c1, c2, c10, c20, c50, cy, cs, cw, a1, a2, a3, a4, a6, cY, cT, c00, z20, m0] at * <;> first | omega | (simp only [am_c] at * <;> omega)) | (trace_state; fail))
theorem x_tenthsOver_8_0 {l : Launch} {ν : am_N} {Q : Option am_V → am_N → Prop} (i y s P F W : Int) (hi0 : 0 ≤ i) (hi1 : i < ν 8 4) (hn : ν 8 4 ≤ 4) (eP : ν 11 i.toNat = P) (eF : ν 10 i.toNat = F) (eK : ν 9 i.toNat = 0) (eW : ν 8 1 = W) (p0 : 5 ≤ P) (p1 : P ≤ 40) (f0 : 0 ≤ F) (f1 : F ≤ 9) (w0 : 0 ≤ W) (w1 : W ≤ 2000) (y0 : -1000 ≤ y) (y1 : y ≤ 1000) (s0 : -1000 ≤ s) (s1 : s ≤ 1000) (k : Q (some (.inl (am_T P F 0 W (am_y y) s))) ν) : am_Does l 10 [.inr (.inr 8), .inl i, .inl y, .inl s] ν Q := by
  refine x_to49_8 i y s P F W hi0 hi1 hn eP p0 p1 f0 f1 w0 w1 y0 y1 s0 s1 (fun Y t hv0 hv1 => ?_)
  subst hv0
  subst hv1
  exact x_at49_8_0 i y s P F W hi0 hi1 hn eP eF eK eW p0 p1 f0 f1 w0 w1 y0 y1 s0 s1 k
theorem x_at49_8_1 {l : Launch} {ν : am_N} {Q : Option am_V → am_N → Prop} (i y s P F W : Int) (hi0 : 0 ≤ i) (hi1 : i < ν 8 4) (hn : ν 8 4 ≤ 4) (eP : ν 11 i.toNat = P) (eF : ν 10 i.toNat = F) (eK : ν 9 i.toNat = 1) (eW : ν 8 1 = W) (p0 : 5 ≤ P) (p1 : P ≤ 40) (f0 : 0 ≤ F) (f1 : F ≤ 9) (w0 : 0 ≤ W) (w1 : W ≤ 2000) (y0 : -1000 ≤ y) (y1 : y ≤ 1000) (s0 : -1000 ≤ s) (s1 : s ≤ 1000) (k : Q (some (.inl (am_T P F 1 W (am_y y) s))) ν) : am_AW l 0 (fun _ => 0) 10 Q 49 [some (.inr (.inr 8)), some (.inl i), some (.inl y), some (.inl s), some (.inl (am_y y)), some (.inl (am_t0 P (am_y y))), none, none] [] ν := by
  have ci : am_c i = i := am_cR (by omega) (by omega)
  have ei : (am_c i).toNat = i.toNat := by rw [ci]
  have c1 : am_c 1 = 1 := rfl
  have c2 : am_c 2 = 2 := rfl
  have c10 : am_c 10 = 10 := rfl
  have c20 : am_c 20 = 20 := rfl
  have c50 : am_c 50 = 50 := rfl
  have c00 : am_c 0 = 0 := rfl
  have z20 : (0 : Int).tdiv 20 = 0 := rfl
  have m0 : F * 0 = 0 := Int.mul_zero F
  obtain ⟨cy, cs, cw, hy2, m1, m2, m3, d1, d2, d3, a1, a2, m4, m5, a3, a4, w2, a6, cY, t0, cT, t1, t2⟩ := x1_base p0 p1 f0 f1 w0 w1 y0 y1 s0 s1
  refine am_go (ct := fun _ => false) am_oX0_tenthsOver 300 ?_
  conv => whnf
  repeat' first
    | (refine (?_ : am_wp _ _ _ _ _ _ _ _ _ _ _ _); conv => whnf)
    | (refine (?_ : am_sw _ _ _ _); conv => whnf)
    | refine And.intro trivial ?_
    | exact trivial
    | ((with_reducible refine (?_ : _ ∧ _)); refine And.intro (fun h => absurd h (by rw [ei, eK]; decide)) (fun _ => ?_))
    | ((with_reducible refine (?_ : _ ∧ _)); refine And.intro (fun _ => ?_) (fun h => absurd h (by rw [ei, eK]; decide)))
    | refine am_qe k ?_
    | refine And.intro (fun h => absurd h (by decide)) (fun _ => ?_)
    | refine And.intro (fun _ => ?_) (fun h => absurd (by decide) h)
    | refine And.intro (fun _ => ?_) (fun _ => ?_)
    | refine And.intro ?_ ?_
  all_goals (first | decide | omega | (unfold am_T; rw [if_pos rfl]; done) | (unfold am_T; rw [if_pos rfl]; simp only [am_ts, am_tt, ei, ci, eP, eF, eK, eW, c1, c2, c10, c20, c50, cy, cs, cw, a1, a2, a3, a4, a6, cY, cT, c00, z20, m0] at * <;> first | omega | ((repeat' split) <;> first | omega | (simp only [am_c] at * <;> omega))) | (simp only [ei, ci, eP, eF, eK, eW, c1, c2, c10, c20, c50, cy, cs, cw, a1, a2, a3, a4, a6, cY, cT, c00, z20, m0] at * <;> first | omega | (simp only [am_c] at * <;> omega)) | (trace_state; fail))
theorem x_tenthsOver_8_1 {l : Launch} {ν : am_N} {Q : Option am_V → am_N → Prop} (i y s P F W : Int) (hi0 : 0 ≤ i) (hi1 : i < ν 8 4) (hn : ν 8 4 ≤ 4) (eP : ν 11 i.toNat = P) (eF : ν 10 i.toNat = F) (eK : ν 9 i.toNat = 1) (eW : ν 8 1 = W) (p0 : 5 ≤ P) (p1 : P ≤ 40) (f0 : 0 ≤ F) (f1 : F ≤ 9) (w0 : 0 ≤ W) (w1 : W ≤ 2000) (y0 : -1000 ≤ y) (y1 : y ≤ 1000) (s0 : -1000 ≤ s) (s1 : s ≤ 1000) (k : Q (some (.inl (am_T P F 1 W (am_y y) s))) ν) : am_Does l 10 [.inr (.inr 8), .inl i, .inl y, .inl s] ν Q := by
  refine x_to49_8 i y s P F W hi0 hi1 hn eP p0 p1 f0 f1 w0 w1 y0 y1 s0 s1 (fun Y t hv0 hv1 => ?_)
  subst hv0
  subst hv1
  exact x_at49_8_1 i y s P F W hi0 hi1 hn eP eF eK eW p0 p1 f0 f1 w0 w1 y0 y1 s0 s1 k
theorem x_at49_8_2 {l : Launch} {ν : am_N} {Q : Option am_V → am_N → Prop} (i y s P F W : Int) (hi0 : 0 ≤ i) (hi1 : i < ν 8 4) (hn : ν 8 4 ≤ 4) (eP : ν 11 i.toNat = P) (eF : ν 10 i.toNat = F) (eK : ν 9 i.toNat = 2) (eW : ν 8 1 = W) (p0 : 5 ≤ P) (p1 : P ≤ 40) (f0 : 0 ≤ F) (f1 : F ≤ 9) (w0 : 0 ≤ W) (w1 : W ≤ 2000) (y0 : -1000 ≤ y) (y1 : y ≤ 1000) (s0 : -1000 ≤ s) (s1 : s ≤ 1000) (k : Q (some (.inl (am_T P F 2 W (am_y y) s))) ν) : am_AW l 0 (fun _ => 0) 10 Q 49 [some (.inr (.inr 8)), some (.inl i), some (.inl y), some (.inl s), some (.inl (am_y y)), some (.inl (am_t0 P (am_y y))), none, none] [] ν := by
  have ci : am_c i = i := am_cR (by omega) (by omega)
  have ei : (am_c i).toNat = i.toNat := by rw [ci]
  have c1 : am_c 1 = 1 := rfl
  have c2 : am_c 2 = 2 := rfl
  have c10 : am_c 10 = 10 := rfl
  have c20 : am_c 20 = 20 := rfl
  have c50 : am_c 50 = 50 := rfl
  have c00 : am_c 0 = 0 := rfl
  have z20 : (0 : Int).tdiv 20 = 0 := rfl
  have m0 : F * 0 = 0 := Int.mul_zero F
  obtain ⟨cy, cs, cw, hy2, m1, m2, m3, d1, d2, d3, a1, a2, m4, m5, a3, a4, w2, a6, cY, t0, cT, t1, t2⟩ := x1_base p0 p1 f0 f1 w0 w1 y0 y1 s0 s1
  refine am_go (ct := fun _ => false) am_oX0_tenthsOver 300 ?_
  conv => whnf
  repeat' first
    | (refine (?_ : am_wp _ _ _ _ _ _ _ _ _ _ _ _); conv => whnf)
    | (refine (?_ : am_sw _ _ _ _); conv => whnf)
    | refine And.intro trivial ?_
    | exact trivial
    | ((with_reducible refine (?_ : _ ∧ _)); refine And.intro (fun h => absurd h (by rw [ei, eK]; decide)) (fun _ => ?_))
    | ((with_reducible refine (?_ : _ ∧ _)); refine And.intro (fun _ => ?_) (fun h => absurd h (by rw [ei, eK]; decide)))
    | refine am_qe k ?_
    | refine And.intro (fun h => absurd h (by decide)) (fun _ => ?_)
    | refine And.intro (fun _ => ?_) (fun h => absurd (by decide) h)
    | refine And.intro (fun _ => ?_) (fun _ => ?_)
    | refine And.intro ?_ ?_
  all_goals (first | decide | omega | (unfold am_T; rw [if_neg (by decide), if_pos rfl]; done) | (unfold am_T; rw [if_neg (by decide), if_pos rfl]; simp only [am_ts, am_tt, ei, ci, eP, eF, eK, eW, c1, c2, c10, c20, c50, cy, cs, cw, a1, a2, a3, a4, a6, cY, cT, c00, z20, m0] at * <;> first | omega | ((repeat' split) <;> first | omega | (simp only [am_c] at * <;> omega))) | (simp only [ei, ci, eP, eF, eK, eW, c1, c2, c10, c20, c50, cy, cs, cw, a1, a2, a3, a4, a6, cY, cT, c00, z20, m0] at * <;> first | omega | (simp only [am_c] at * <;> omega)) | (trace_state; fail))
theorem x_tenthsOver_8_2 {l : Launch} {ν : am_N} {Q : Option am_V → am_N → Prop} (i y s P F W : Int) (hi0 : 0 ≤ i) (hi1 : i < ν 8 4) (hn : ν 8 4 ≤ 4) (eP : ν 11 i.toNat = P) (eF : ν 10 i.toNat = F) (eK : ν 9 i.toNat = 2) (eW : ν 8 1 = W) (p0 : 5 ≤ P) (p1 : P ≤ 40) (f0 : 0 ≤ F) (f1 : F ≤ 9) (w0 : 0 ≤ W) (w1 : W ≤ 2000) (y0 : -1000 ≤ y) (y1 : y ≤ 1000) (s0 : -1000 ≤ s) (s1 : s ≤ 1000) (k : Q (some (.inl (am_T P F 2 W (am_y y) s))) ν) : am_Does l 10 [.inr (.inr 8), .inl i, .inl y, .inl s] ν Q := by
  refine x_to49_8 i y s P F W hi0 hi1 hn eP p0 p1 f0 f1 w0 w1 y0 y1 s0 s1 (fun Y t hv0 hv1 => ?_)
  subst hv0
  subst hv1
  exact x_at49_8_2 i y s P F W hi0 hi1 hn eP eF eK eW p0 p1 f0 f1 w0 w1 y0 y1 s0 s1 k
theorem x_at49_8_3 {l : Launch} {ν : am_N} {Q : Option am_V → am_N → Prop} (i y s P F W : Int) (hi0 : 0 ≤ i) (hi1 : i < ν 8 4) (hn : ν 8 4 ≤ 4) (eP : ν 11 i.toNat = P) (eF : ν 10 i.toNat = F) (eK : ν 9 i.toNat = 3) (eW : ν 8 1 = W) (p0 : 5 ≤ P) (p1 : P ≤ 40) (f0 : 0 ≤ F) (f1 : F ≤ 9) (w0 : 0 ≤ W) (w1 : W ≤ 2000) (y0 : -1000 ≤ y) (y1 : y ≤ 1000) (s0 : -1000 ≤ s) (s1 : s ≤ 1000) (k : Q (some (.inl (am_T P F 3 W (am_y y) s))) ν) : am_AW l 0 (fun _ => 0) 10 Q 49 [some (.inr (.inr 8)), some (.inl i), some (.inl y), some (.inl s), some (.inl (am_y y)), some (.inl (am_t0 P (am_y y))), none, none] [] ν := by
  have ci : am_c i = i := am_cR (by omega) (by omega)
  have ei : (am_c i).toNat = i.toNat := by rw [ci]
  have c1 : am_c 1 = 1 := rfl
  have c2 : am_c 2 = 2 := rfl
  have c10 : am_c 10 = 10 := rfl
  have c20 : am_c 20 = 20 := rfl
  have c50 : am_c 50 = 50 := rfl
  have c00 : am_c 0 = 0 := rfl
  have z20 : (0 : Int).tdiv 20 = 0 := rfl
  have m0 : F * 0 = 0 := Int.mul_zero F
  obtain ⟨cy, cs, cw, hy2, m1, m2, m3, d1, d2, d3, a1, a2, m4, m5, a3, a4, w2, a6, cY, t0, cT, t1, t2⟩ := x1_base p0 p1 f0 f1 w0 w1 y0 y1 s0 s1
  refine am_go (ct := fun _ => false) am_oX0_tenthsOver 300 ?_
  conv => whnf
  repeat' first
    | (refine (?_ : am_wp _ _ _ _ _ _ _ _ _ _ _ _); conv => whnf)
    | (refine (?_ : am_sw _ _ _ _); conv => whnf)
    | refine And.intro trivial ?_
    | exact trivial
    | ((with_reducible refine (?_ : _ ∧ _)); refine And.intro (fun h => absurd h (by rw [ei, eK]; decide)) (fun _ => ?_))
    | ((with_reducible refine (?_ : _ ∧ _)); refine And.intro (fun _ => ?_) (fun h => absurd h (by rw [ei, eK]; decide)))
    | refine am_qe k ?_
    | refine And.intro (fun h => absurd h (by decide)) (fun _ => ?_)
    | refine And.intro (fun _ => ?_) (fun h => absurd (by decide) h)
    | refine And.intro (fun _ => ?_) (fun _ => ?_)
    | refine And.intro ?_ ?_
  all_goals (first | decide | omega | (unfold am_T; rw [if_neg (by decide), if_neg (by decide), if_pos rfl]; done) | (unfold am_T; rw [if_neg (by decide), if_neg (by decide), if_pos rfl]; simp only [am_ts, am_tt, ei, ci, eP, eF, eK, eW, c1, c2, c10, c20, c50, cy, cs, cw, a1, a2, a3, a4, a6, cY, cT, c00, z20, m0] at * <;> first | omega | ((repeat' split) <;> first | omega | (simp only [am_c] at * <;> omega))) | (simp only [ei, ci, eP, eF, eK, eW, c1, c2, c10, c20, c50, cy, cs, cw, a1, a2, a3, a4, a6, cY, cT, c00, z20, m0] at * <;> first | omega | (simp only [am_c] at * <;> omega)) | (trace_state; fail))
theorem x_tenthsOver_8_3 {l : Launch} {ν : am_N} {Q : Option am_V → am_N → Prop} (i y s P F W : Int) (hi0 : 0 ≤ i) (hi1 : i < ν 8 4) (hn : ν 8 4 ≤ 4) (eP : ν 11 i.toNat = P) (eF : ν 10 i.toNat = F) (eK : ν 9 i.toNat = 3) (eW : ν 8 1 = W) (p0 : 5 ≤ P) (p1 : P ≤ 40) (f0 : 0 ≤ F) (f1 : F ≤ 9) (w0 : 0 ≤ W) (w1 : W ≤ 2000) (y0 : -1000 ≤ y) (y1 : y ≤ 1000) (s0 : -1000 ≤ s) (s1 : s ≤ 1000) (k : Q (some (.inl (am_T P F 3 W (am_y y) s))) ν) : am_Does l 10 [.inr (.inr 8), .inl i, .inl y, .inl s] ν Q := by
  refine x_to49_8 i y s P F W hi0 hi1 hn eP p0 p1 f0 f1 w0 w1 y0 y1 s0 s1 (fun Y t hv0 hv1 => ?_)
  subst hv0
  subst hv1
  exact x_at49_8_3 i y s P F W hi0 hi1 hn eP eF eK eW p0 p1 f0 f1 w0 w1 y0 y1 s0 s1 k
theorem x_at49_8_4 {l : Launch} {ν : am_N} {Q : Option am_V → am_N → Prop} (i y s P F W : Int) (hi0 : 0 ≤ i) (hi1 : i < ν 8 4) (hn : ν 8 4 ≤ 4) (eP : ν 11 i.toNat = P) (eF : ν 10 i.toNat = F) (eK : ν 9 i.toNat = 4) (eW : ν 8 1 = W) (p0 : 5 ≤ P) (p1 : P ≤ 40) (f0 : 0 ≤ F) (f1 : F ≤ 9) (w0 : 0 ≤ W) (w1 : W ≤ 2000) (y0 : -1000 ≤ y) (y1 : y ≤ 1000) (s0 : -1000 ≤ s) (s1 : s ≤ 1000) (k : Q (some (.inl (am_T P F 4 W (am_y y) s))) ν) : am_AW l 0 (fun _ => 0) 10 Q 49 [some (.inr (.inr 8)), some (.inl i), some (.inl y), some (.inl s), some (.inl (am_y y)), some (.inl (am_t0 P (am_y y))), none, none] [] ν := by
  have ci : am_c i = i := am_cR (by omega) (by omega)
  have ei : (am_c i).toNat = i.toNat := by rw [ci]
  have c1 : am_c 1 = 1 := rfl
  have c2 : am_c 2 = 2 := rfl
  have c10 : am_c 10 = 10 := rfl
  have c20 : am_c 20 = 20 := rfl
  have c50 : am_c 50 = 50 := rfl
  have c00 : am_c 0 = 0 := rfl
  have z20 : (0 : Int).tdiv 20 = 0 := rfl
  have m0 : F * 0 = 0 := Int.mul_zero F
  obtain ⟨cy, cs, cw, hy2, m1, m2, m3, d1, d2, d3, a1, a2, m4, m5, a3, a4, w2, a6, cY, t0, cT, t1, t2⟩ := x1_base p0 p1 f0 f1 w0 w1 y0 y1 s0 s1
  refine am_go (ct := fun _ => false) am_oX0_tenthsOver 300 ?_
  conv => whnf
  repeat' first
    | (refine (?_ : am_wp _ _ _ _ _ _ _ _ _ _ _ _); conv => whnf)
    | (refine (?_ : am_sw _ _ _ _); conv => whnf)
    | refine And.intro trivial ?_
    | exact trivial
    | ((with_reducible refine (?_ : _ ∧ _)); refine And.intro (fun h => absurd h (by rw [ei, eK]; decide)) (fun _ => ?_))
    | ((with_reducible refine (?_ : _ ∧ _)); refine And.intro (fun _ => ?_) (fun h => absurd h (by rw [ei, eK]; decide)))
    | refine am_qe k ?_
    | refine And.intro (fun h => absurd h (by decide)) (fun _ => ?_)
    | refine And.intro (fun _ => ?_) (fun h => absurd (by decide) h)
    | refine And.intro (fun _ => ?_) (fun _ => ?_)
    | refine And.intro ?_ ?_
  all_goals (first | decide | omega | (unfold am_T; rw [if_neg (by decide), if_neg (by decide), if_neg (by decide), if_pos rfl]; done) | (unfold am_T; rw [if_neg (by decide), if_neg (by decide), if_neg (by decide), if_pos rfl]; simp only [am_ts, am_tt, ei, ci, eP, eF, eK, eW, c1, c2, c10, c20, c50, cy, cs, cw, a1, a2, a3, a4, a6, cY, cT, c00, z20, m0] at * <;> first | omega | ((repeat' split) <;> first | omega | (simp only [am_c] at * <;> omega))) | (simp only [ei, ci, eP, eF, eK, eW, c1, c2, c10, c20, c50, cy, cs, cw, a1, a2, a3, a4, a6, cY, cT, c00, z20, m0] at * <;> first | omega | (simp only [am_c] at * <;> omega)) | (trace_state; fail))
theorem x_tenthsOver_8_4 {l : Launch} {ν : am_N} {Q : Option am_V → am_N → Prop} (i y s P F W : Int) (hi0 : 0 ≤ i) (hi1 : i < ν 8 4) (hn : ν 8 4 ≤ 4) (eP : ν 11 i.toNat = P) (eF : ν 10 i.toNat = F) (eK : ν 9 i.toNat = 4) (eW : ν 8 1 = W) (p0 : 5 ≤ P) (p1 : P ≤ 40) (f0 : 0 ≤ F) (f1 : F ≤ 9) (w0 : 0 ≤ W) (w1 : W ≤ 2000) (y0 : -1000 ≤ y) (y1 : y ≤ 1000) (s0 : -1000 ≤ s) (s1 : s ≤ 1000) (k : Q (some (.inl (am_T P F 4 W (am_y y) s))) ν) : am_Does l 10 [.inr (.inr 8), .inl i, .inl y, .inl s] ν Q := by
  refine x_to49_8 i y s P F W hi0 hi1 hn eP p0 p1 f0 f1 w0 w1 y0 y1 s0 s1 (fun Y t hv0 hv1 => ?_)
  subst hv0
  subst hv1
  exact x_at49_8_4 i y s P F W hi0 hi1 hn eP eF eK eW p0 p1 f0 f1 w0 w1 y0 y1 s0 s1 k
theorem x_at49_8_5 {l : Launch} {ν : am_N} {Q : Option am_V → am_N → Prop} (i y s P F W : Int) (hi0 : 0 ≤ i) (hi1 : i < ν 8 4) (hn : ν 8 4 ≤ 4) (eP : ν 11 i.toNat = P) (eF : ν 10 i.toNat = F) (eK : ν 9 i.toNat = 5) (eW : ν 8 1 = W) (p0 : 5 ≤ P) (p1 : P ≤ 40) (f0 : 0 ≤ F) (f1 : F ≤ 9) (w0 : 0 ≤ W) (w1 : W ≤ 2000) (y0 : -1000 ≤ y) (y1 : y ≤ 1000) (s0 : -1000 ≤ s) (s1 : s ≤ 1000) (k : Q (some (.inl (am_T P F 5 W (am_y y) s))) ν) : am_AW l 0 (fun _ => 0) 10 Q 49 [some (.inr (.inr 8)), some (.inl i), some (.inl y), some (.inl s), some (.inl (am_y y)), some (.inl (am_t0 P (am_y y))), none, none] [] ν := by
  have ci : am_c i = i := am_cR (by omega) (by omega)
  have ei : (am_c i).toNat = i.toNat := by rw [ci]
  have c1 : am_c 1 = 1 := rfl
  have c2 : am_c 2 = 2 := rfl
  have c10 : am_c 10 = 10 := rfl
  have c20 : am_c 20 = 20 := rfl
  have c50 : am_c 50 = 50 := rfl
  have c00 : am_c 0 = 0 := rfl
  have z20 : (0 : Int).tdiv 20 = 0 := rfl
  have m0 : F * 0 = 0 := Int.mul_zero F
  obtain ⟨cy, cs, cw, hy2, m1, m2, m3, d1, d2, d3, a1, a2, m4, m5, a3, a4, w2, a6, cY, t0, cT, t1, t2⟩ := x1_base p0 p1 f0 f1 w0 w1 y0 y1 s0 s1
  refine am_go (ct := fun _ => false) am_oX0_tenthsOver 300 ?_
  conv => whnf
  repeat' first
    | (refine (?_ : am_wp _ _ _ _ _ _ _ _ _ _ _ _); conv => whnf)
    | (refine (?_ : am_sw _ _ _ _); conv => whnf)
    | refine And.intro trivial ?_
    | exact trivial
    | ((with_reducible refine (?_ : _ ∧ _)); refine And.intro (fun h => absurd h (by rw [ei, eK]; decide)) (fun _ => ?_))
    | ((with_reducible refine (?_ : _ ∧ _)); refine And.intro (fun _ => ?_) (fun h => absurd h (by rw [ei, eK]; decide)))
    | refine am_qe k ?_
    | refine And.intro (fun h => absurd h (by decide)) (fun _ => ?_)
    | refine And.intro (fun _ => ?_) (fun h => absurd (by decide) h)
    | refine And.intro (fun _ => ?_) (fun _ => ?_)
    | refine And.intro ?_ ?_
  all_goals (first | decide | omega | (unfold am_T; rw [if_neg (by decide), if_neg (by decide), if_neg (by decide), if_neg (by decide), if_pos rfl]; done) | (unfold am_T; rw [if_neg (by decide), if_neg (by decide), if_neg (by decide), if_neg (by decide), if_pos rfl]; simp only [am_ts, am_tt, ei, ci, eP, eF, eK, eW, c1, c2, c10, c20, c50, cy, cs, cw, a1, a2, a3, a4, a6, cY, cT, c00, z20, m0] at * <;> first | omega | ((repeat' split) <;> first | omega | (simp only [am_c] at * <;> omega))) | (simp only [ei, ci, eP, eF, eK, eW, c1, c2, c10, c20, c50, cy, cs, cw, a1, a2, a3, a4, a6, cY, cT, c00, z20, m0] at * <;> first | omega | (simp only [am_c] at * <;> omega)) | (trace_state; fail))
theorem x_tenthsOver_8_5 {l : Launch} {ν : am_N} {Q : Option am_V → am_N → Prop} (i y s P F W : Int) (hi0 : 0 ≤ i) (hi1 : i < ν 8 4) (hn : ν 8 4 ≤ 4) (eP : ν 11 i.toNat = P) (eF : ν 10 i.toNat = F) (eK : ν 9 i.toNat = 5) (eW : ν 8 1 = W) (p0 : 5 ≤ P) (p1 : P ≤ 40) (f0 : 0 ≤ F) (f1 : F ≤ 9) (w0 : 0 ≤ W) (w1 : W ≤ 2000) (y0 : -1000 ≤ y) (y1 : y ≤ 1000) (s0 : -1000 ≤ s) (s1 : s ≤ 1000) (k : Q (some (.inl (am_T P F 5 W (am_y y) s))) ν) : am_Does l 10 [.inr (.inr 8), .inl i, .inl y, .inl s] ν Q := by
  refine x_to49_8 i y s P F W hi0 hi1 hn eP p0 p1 f0 f1 w0 w1 y0 y1 s0 s1 (fun Y t hv0 hv1 => ?_)
  subst hv0
  subst hv1
  exact x_at49_8_5 i y s P F W hi0 hi1 hn eP eF eK eW p0 p1 f0 f1 w0 w1 y0 y1 s0 s1 k
theorem x_atLeastOne {l : Launch} {μ : am_N} {Q : Option am_V → am_N → Prop} (v : Int) (h0 : -2147483648 ≤ v) (h1 : v ≤ 2147483647) (k : Q (some (.inl (if v < 1 then 1 else v))) μ) : am_Does l 145 [.inl v] μ Q := by
  refine am_Does_of (Nat.le_of_ble_eq_true rfl) (Nat.le_of_ble_eq_true rfl) (Nat.le_of_ble_eq_true rfl) ?_
  have cv : am_c v = v := am_cR (by omega) (by omega)
  have c1 : am_c 1 = 1 := rfl
  refine am_go (ct := fun _ => false) am_oX7_atLeastOne 300 ?_
  conv => whnf
  repeat' first
    | (refine (?_ : am_wp _ _ _ _ _ _ _ _ _ _ _ _); conv => whnf)
    | (refine (?_ : am_sw _ _ _ _); conv => whnf)
    | refine And.intro trivial ?_
    | exact trivial
    | refine am_qe k ?_
    | refine And.intro (fun h => absurd h (by decide)) (fun _ => ?_)
    | refine And.intro (fun _ => ?_) (fun h => absurd (by decide) h)
    | refine And.intro (fun _ => ?_) (fun _ => ?_)
    | refine And.intro ?_ ?_
  all_goals (first | omega | (simp only [cv, c1] at *; first | (rw [if_pos (by omega)]) | (rw [if_neg (by omega)])) | (trace_state; fail))
theorem x_to81 {l : Launch} {ν : am_N} {Q : Option am_V → am_N → Prop} (i y s P F W : Int) (hi0 : 0 ≤ i) (hi1 : i < ν 83 14) (hn : ν 83 14 ≤ 4) (eP : ν 87 i.toNat = P) (eF : ν 86 i.toNat = F) (eW : ν 83 11 = W) (p0 : 5 ≤ P) (p1 : P ≤ 40) (f0 : 0 ≤ F) (f1 : F ≤ 9) (w0 : 0 ≤ W) (w1 : W ≤ 2000) (y0 : -1000 ≤ y) (y1 : y ≤ 1000) (s0 : -1000 ≤ s) (s1 : s ≤ 1000) (h : ∀ (Y t u v : Int), Y = am_y y → t = am_t0 P (am_y y) → u = am_t0 P (am_y y) + am_tt F (am_y y) → v = am_t0 P (am_y y) + am_ts F W → am_AW l 0 (fun _ => 0) 162 Q 81 [some (.inr (.inr 83)), some (.inl i), some (.inl y), some (.inl s), some (.inl Y), some (.inl t), some (.inl u), some (.inl v)] [] ν) : am_Does l 162 [.inr (.inr 83), .inl i, .inl y, .inl s] ν Q := by
  refine am_Does_of (Nat.le_of_ble_eq_true rfl) (Nat.le_of_ble_eq_true rfl) (Nat.le_of_ble_eq_true rfl) ?_
  have ci : am_c i = i := am_cR (by omega) (by omega)
  have ei : (am_c i).toNat = i.toNat := by rw [ci]
  have c1 : am_c 1 = 1 := rfl
  have c2 : am_c 2 = 2 := rfl
  have c10 : am_c 10 = 10 := rfl
  have c20 : am_c 20 = 20 := rfl
  have c50 : am_c 50 = 50 := rfl
  have c00 : am_c 0 = 0 := rfl
  have z20 : (0 : Int).tdiv 20 = 0 := rfl
  have m0 : F * 0 = 0 := Int.mul_zero F
  obtain ⟨cy, cs, cw, hy2, m1, m2, m3, d1, d2, d3, a1, a2, m4, m5, a3, a4, w2, a6, cY, t0, cT, t1, t2⟩ := x1_base p0 p1 f0 f1 w0 w1 y0 y1 s0 s1
  have lp57 : ∀ (Y t u : Int), Y = am_y y → t = am_t0 P (am_y y) → u = am_t0 P (am_y y) + am_tt F (am_y y) → am_AW l 0 (fun _ => 0) 162 Q 57 [some (.inr (.inr 83)), some (.inl i), some (.inl y), some (.inl s), some (.inl Y), some (.inl t), some (.inl u), none] [] ν := by
    intro Y t u  hv0 hv1 hv2
    subst hv0
    subst hv1
    subst hv2
    refine am_go (ct := fun pc => Nat.beq pc 57 || Nat.beq pc 23 || Nat.beq pc 6 || Nat.beq pc 81) am_oX7_timeOver 300 ?_
    conv => whnf
    repeat' first
      | (refine (?_ : am_wp _ _ _ _ _ _ _ _ _ _ _ _); conv => whnf)
      | (refine (?_ : am_sw _ _ _ _); conv => whnf)
      | refine And.intro trivial ?_
      | exact trivial
      | ((with_reducible refine (?_ : am_Does _ 145 _ _ _)); refine x_atLeastOne _ ?_ ?_ ?_)
      | refine h _ _ _ _ ?_ ?_ ?_ ?_
      | refine And.intro (fun h => absurd h (by decide)) (fun _ => ?_)
      | refine And.intro (fun _ => ?_) (fun h => absurd (by decide) h)
      | refine And.intro (fun _ => ?_) (fun _ => ?_)
      | refine And.intro ?_ ?_
    all_goals (first | assumption | rfl | decide | omega | (unfold am_ts; simp only [ei, ci, eP, eF, eW, c1, c2, c10, c20, c50, cy, cs, cw, a1, a2, a3, a4, a6, cY, cT, c00, z20, m0] at * <;> first | omega | (rw [if_pos (by omega)]) | (rw [if_neg (by omega)]) | ((repeat' split) <;> first | omega | (simp only [am_c] at * <;> omega))) | (simp only [ei, ci, eP, eF, eW, c1, c2, c10, c20, c50, cy, cs, cw, a1, a2, a3, a4, a6, cY, cT, c00, z20, m0] at * <;> first | omega | (simp only [am_c] at * <;> omega)) | (trace_state; fail))
  have lp23 : ∀ (Y t : Int), Y = am_y y → t = am_t0 P (am_y y) → am_AW l 0 (fun _ => 0) 162 Q 23 [some (.inr (.inr 83)), some (.inl i), some (.inl y), some (.inl s), some (.inl Y), some (.inl t), none, none] [] ν := by
    intro Y t  hv0 hv1
    subst hv0
    subst hv1
    refine am_go (ct := fun pc => Nat.beq pc 57 || Nat.beq pc 23 || Nat.beq pc 6 || Nat.beq pc 81) am_oX7_timeOver 300 ?_
    conv => whnf
    repeat' first
      | (refine (?_ : am_wp _ _ _ _ _ _ _ _ _ _ _ _); conv => whnf)
      | (refine (?_ : am_sw _ _ _ _); conv => whnf)
      | refine And.intro trivial ?_
      | exact trivial
      | ((with_reducible refine (?_ : am_Does _ 145 _ _ _)); first | refine x_atLeastOne _ ?_ ?_ ?_ | refine x_atLeastOne _ ?_ ?_ ?_)
      | refine h _ _ _ _ ?_ ?_ ?_ ?_
      | ((with_reducible refine (?_ : am_AW _ _ _ _ _ 57 _ _ _)); refine lp57 _ _ _  ?_ ?_ ?_)
      | refine And.intro (fun h => absurd h (by decide)) (fun _ => ?_)
      | refine And.intro (fun _ => ?_) (fun h => absurd (by decide) h)
      | refine And.intro (fun _ => ?_) (fun _ => ?_)
      | refine And.intro ?_ ?_
    all_goals (first | assumption | rfl | decide | omega | (unfold am_tt; simp only [ei, ci, eP, eF, eW, c1, c2, c10, c20, c50, cy, cs, cw, a1, a2, a3, a4, a6, cY, cT, c00, z20, m0] at * <;> first | omega | (rw [if_pos (by omega)]) | (rw [if_neg (by omega)]) | ((repeat' split) <;> first | omega | (simp only [am_c] at * <;> omega))) | (simp only [ei, ci, eP, eF, eW, c1, c2, c10, c20, c50, cy, cs, cw, a1, a2, a3, a4, a6, cY, cT, c00, z20, m0] at * <;> first | omega | (simp only [am_c] at * <;> omega)) | (trace_state; fail))
  have lp6 : ∀ (Y : Int), Y = am_y y → am_AW l 0 (fun _ => 0) 162 Q 6 [some (.inr (.inr 83)), some (.inl i), some (.inl y), some (.inl s), some (.inl Y), none, none, none] [] ν := by
    intro Y  hv0
    subst hv0
    refine am_go (ct := fun pc => Nat.beq pc 57 || Nat.beq pc 23 || Nat.beq pc 6 || Nat.beq pc 81) am_oX7_timeOver 300 ?_
    conv => whnf
    repeat' first
      | (refine (?_ : am_wp _ _ _ _ _ _ _ _ _ _ _ _); conv => whnf)
      | (refine (?_ : am_sw _ _ _ _); conv => whnf)
      | refine And.intro trivial ?_
      | exact trivial
      | ((with_reducible refine (?_ : am_Does _ 145 _ _ _)); first | refine x_atLeastOne _ ?_ ?_ ?_ | refine x_atLeastOne _ ?_ ?_ ?_)
      | refine h _ _ _ _ ?_ ?_ ?_ ?_
      | ((with_reducible refine (?_ : am_AW _ _ _ _ _ 23 _ _ _)); refine lp23 _ _  ?_ ?_)
      | ((with_reducible refine (?_ : am_AW _ _ _ _ _ 57 _ _ _)); refine lp57 _ _ _  ?_ ?_ ?_)
      | refine And.intro (fun h => absurd h (by decide)) (fun _ => ?_)
      | refine And.intro (fun _ => ?_) (fun h => absurd (by decide) h)
      | refine And.intro (fun _ => ?_) (fun _ => ?_)
      | refine And.intro ?_ ?_
    all_goals (first | assumption | rfl | decide | omega | (unfold am_t0; simp only [ei, ci, eP, eF, eW, c1, c2, c10, c20, c50, cy, cs, cw, a1, a2, a3, a4, a6, cY, cT, c00, z20, m0] at * <;> first | omega | (rw [if_pos (by omega)]) | (rw [if_neg (by omega)]) | ((repeat' split) <;> first | omega | (simp only [am_c] at * <;> omega))) | (simp only [ei, ci, eP, eF, eW, c1, c2, c10, c20, c50, cy, cs, cw, a1, a2, a3, a4, a6, cY, cT, c00, z20, m0] at * <;> first | omega | (simp only [am_c] at * <;> omega)) | (trace_state; fail))
  refine am_go (ct := fun pc => Nat.beq pc 57 || Nat.beq pc 23 || Nat.beq pc 6 || Nat.beq pc 81) am_oX7_timeOver 300 ?_
  conv => whnf
  repeat' first
    | (refine (?_ : am_wp _ _ _ _ _ _ _ _ _ _ _ _); conv => whnf)
    | (refine (?_ : am_sw _ _ _ _); conv => whnf)
    | refine And.intro trivial ?_
    | exact trivial
    | ((with_reducible refine (?_ : am_Does _ 145 _ _ _)); refine x_atLeastOne _ ?_ ?_ ?_)
    | refine h _ _ _ _ ?_ ?_ ?_ ?_
    | ((with_reducible refine (?_ : am_AW _ _ _ _ _ 6 _ _ _)); refine lp6 _  ?_)
    | ((with_reducible refine (?_ : am_AW _ _ _ _ _ 23 _ _ _)); refine lp23 _ _  ?_ ?_)
    | ((with_reducible refine (?_ : am_AW _ _ _ _ _ 57 _ _ _)); refine lp57 _ _ _  ?_ ?_ ?_)
    | refine And.intro (fun h => absurd h (by decide)) (fun _ => ?_)
    | refine And.intro (fun _ => ?_) (fun h => absurd (by decide) h)
    | refine And.intro (fun _ => ?_) (fun _ => ?_)
    | refine And.intro ?_ ?_
  all_goals (first | assumption | rfl | decide | omega | (unfold am_y; simp only [ei, ci, eP, eF, eW, c1, c2, c10, c20, c50, cy, cs, cw, a1, a2, a3, a4, a6, cY, cT, c00, z20, m0] at * <;> first | omega | (rw [if_pos (by omega)]) | (rw [if_neg (by omega)]) | ((repeat' split) <;> first | omega | (simp only [am_c] at * <;> omega))) | (simp only [ei, ci, eP, eF, eW, c1, c2, c10, c20, c50, cy, cs, cw, a1, a2, a3, a4, a6, cY, cT, c00, z20, m0] at * <;> first | omega | (simp only [am_c] at * <;> omega)) | (trace_state; fail))
theorem x_at81_0 {l : Launch} {ν : am_N} {Q : Option am_V → am_N → Prop} (i y s P F W : Int) (hi0 : 0 ≤ i) (hi1 : i < ν 83 14) (hn : ν 83 14 ≤ 4) (eP : ν 87 i.toNat = P) (eF : ν 86 i.toNat = F) (eK : ν 85 i.toNat = 0) (eW : ν 83 11 = W) (p0 : 5 ≤ P) (p1 : P ≤ 40) (f0 : 0 ≤ F) (f1 : F ≤ 9) (w0 : 0 ≤ W) (w1 : W ≤ 2000) (y0 : -1000 ≤ y) (y1 : y ≤ 1000) (s0 : -1000 ≤ s) (s1 : s ≤ 1000) (k : Q (some (.inl (am_T P F 0 W (am_y y) s))) ν) : am_AW l 0 (fun _ => 0) 162 Q 81 [some (.inr (.inr 83)), some (.inl i), some (.inl y), some (.inl s), some (.inl (am_y y)), some (.inl (am_t0 P (am_y y))), some (.inl (am_t0 P (am_y y) + am_tt F (am_y y))), some (.inl (am_t0 P (am_y y) + am_ts F W))] [] ν := by
  have ci : am_c i = i := am_cR (by omega) (by omega)
  have ei : (am_c i).toNat = i.toNat := by rw [ci]
  have c1 : am_c 1 = 1 := rfl
  have c2 : am_c 2 = 2 := rfl
  have c10 : am_c 10 = 10 := rfl
  have c20 : am_c 20 = 20 := rfl
  have c50 : am_c 50 = 50 := rfl
  have c00 : am_c 0 = 0 := rfl
  have z20 : (0 : Int).tdiv 20 = 0 := rfl
  have m0 : F * 0 = 0 := Int.mul_zero F
  obtain ⟨cy, cs, cw, hy2, m1, m2, m3, d1, d2, d3, a1, a2, m4, m5, a3, a4, w2, a6, cY, t0, cT, t1, t2⟩ := x1_base p0 p1 f0 f1 w0 w1 y0 y1 s0 s1
  refine am_go (ct := fun _ => false) am_oX7_timeOver 300 ?_
  conv => whnf
  repeat' first
    | (refine (?_ : am_wp _ _ _ _ _ _ _ _ _ _ _ _); conv => whnf)
    | (refine (?_ : am_sw _ _ _ _); conv => whnf)
    | refine And.intro trivial ?_
    | exact trivial
    | ((with_reducible refine (?_ : _ ∧ _)); (first | (refine And.intro (fun h => absurd h (by rw [ei, eK]; decide)) (fun _ => ?_)) | (refine And.intro (fun _ => ?_) (fun h => absurd h (by rw [ei, eK]; decide)))))
    | ((with_reducible refine (?_ : am_Does _ 145 _ _ _)); refine x_atLeastOne _ ?_ ?_ ?_)
    | refine am_qe k ?_
    | refine And.intro (fun h => absurd h (by decide)) (fun _ => ?_)
    | refine And.intro (fun _ => ?_) (fun h => absurd (by decide) h)
    | refine And.intro (fun _ => ?_) (fun _ => ?_)
    | refine And.intro ?_ ?_
  all_goals (first | decide | omega | (unfold am_T; rw [if_neg (by decide), if_neg (by decide), if_neg (by decide), if_neg (by decide), if_neg (by decide)]; done) | (unfold am_T; rw [if_neg (by decide), if_neg (by decide), if_neg (by decide), if_neg (by decide), if_neg (by decide)]; simp only [am_ts, am_tt, ei, ci, eP, eF, eK, eW, c1, c2, c10, c20, c50, cy, cs, cw, a1, a2, a3, a4, a6, cY, cT, c00, z20, m0] at * <;> first | omega | ((repeat' split) <;> first | omega | (simp only [am_c] at * <;> omega))) | (simp only [ei, ci, eP, eF, eK, eW, c1, c2, c10, c20, c50, cy, cs, cw, a1, a2, a3, a4, a6, cY, cT, c00, z20, m0] at * <;> first | omega | (simp only [am_c] at * <;> omega)) | (trace_state; fail))
theorem x_timeOver_0 {l : Launch} {ν : am_N} {Q : Option am_V → am_N → Prop} (i y s P F W : Int) (hi0 : 0 ≤ i) (hi1 : i < ν 83 14) (hn : ν 83 14 ≤ 4) (eP : ν 87 i.toNat = P) (eF : ν 86 i.toNat = F) (eK : ν 85 i.toNat = 0) (eW : ν 83 11 = W) (p0 : 5 ≤ P) (p1 : P ≤ 40) (f0 : 0 ≤ F) (f1 : F ≤ 9) (w0 : 0 ≤ W) (w1 : W ≤ 2000) (y0 : -1000 ≤ y) (y1 : y ≤ 1000) (s0 : -1000 ≤ s) (s1 : s ≤ 1000) (k : Q (some (.inl (am_T P F 0 W (am_y y) s))) ν) : am_Does l 162 [.inr (.inr 83), .inl i, .inl y, .inl s] ν Q := by
  refine x_to81 i y s P F W hi0 hi1 hn eP eF eW p0 p1 f0 f1 w0 w1 y0 y1 s0 s1 (fun Y t u v hv0 hv1 hv2 hv3 => ?_)
  subst hv0
  subst hv1
  subst hv2
  subst hv3
  exact x_at81_0 i y s P F W hi0 hi1 hn eP eF eK eW p0 p1 f0 f1 w0 w1 y0 y1 s0 s1 k
theorem x_at81_1 {l : Launch} {ν : am_N} {Q : Option am_V → am_N → Prop} (i y s P F W : Int) (hi0 : 0 ≤ i) (hi1 : i < ν 83 14) (hn : ν 83 14 ≤ 4) (eP : ν 87 i.toNat = P) (eF : ν 86 i.toNat = F) (eK : ν 85 i.toNat = 1) (eW : ν 83 11 = W) (p0 : 5 ≤ P) (p1 : P ≤ 40) (f0 : 0 ≤ F) (f1 : F ≤ 9) (w0 : 0 ≤ W) (w1 : W ≤ 2000) (y0 : -1000 ≤ y) (y1 : y ≤ 1000) (s0 : -1000 ≤ s) (s1 : s ≤ 1000) (k : Q (some (.inl (am_T P F 1 W (am_y y) s))) ν) : am_AW l 0 (fun _ => 0) 162 Q 81 [some (.inr (.inr 83)), some (.inl i), some (.inl y), some (.inl s), some (.inl (am_y y)), some (.inl (am_t0 P (am_y y))), some (.inl (am_t0 P (am_y y) + am_tt F (am_y y))), some (.inl (am_t0 P (am_y y) + am_ts F W))] [] ν := by
  have ci : am_c i = i := am_cR (by omega) (by omega)
  have ei : (am_c i).toNat = i.toNat := by rw [ci]
  have c1 : am_c 1 = 1 := rfl
  have c2 : am_c 2 = 2 := rfl
  have c10 : am_c 10 = 10 := rfl
  have c20 : am_c 20 = 20 := rfl
  have c50 : am_c 50 = 50 := rfl
  have c00 : am_c 0 = 0 := rfl
  have z20 : (0 : Int).tdiv 20 = 0 := rfl
  have m0 : F * 0 = 0 := Int.mul_zero F
  obtain ⟨cy, cs, cw, hy2, m1, m2, m3, d1, d2, d3, a1, a2, m4, m5, a3, a4, w2, a6, cY, t0, cT, t1, t2⟩ := x1_base p0 p1 f0 f1 w0 w1 y0 y1 s0 s1
  refine am_go (ct := fun _ => false) am_oX7_timeOver 300 ?_
  conv => whnf
  repeat' first
    | (refine (?_ : am_wp _ _ _ _ _ _ _ _ _ _ _ _); conv => whnf)
    | (refine (?_ : am_sw _ _ _ _); conv => whnf)
    | refine And.intro trivial ?_
    | exact trivial
    | ((with_reducible refine (?_ : _ ∧ _)); (first | (refine And.intro (fun h => absurd h (by rw [ei, eK]; decide)) (fun _ => ?_)) | (refine And.intro (fun _ => ?_) (fun h => absurd h (by rw [ei, eK]; decide)))))
    | ((with_reducible refine (?_ : am_Does _ 145 _ _ _)); refine x_atLeastOne _ ?_ ?_ ?_)
    | refine am_qe k ?_
    | refine And.intro (fun h => absurd h (by decide)) (fun _ => ?_)
    | refine And.intro (fun _ => ?_) (fun h => absurd (by decide) h)
    | refine And.intro (fun _ => ?_) (fun _ => ?_)
    | refine And.intro ?_ ?_
  all_goals (first | decide | omega | (unfold am_T; rw [if_pos rfl]; done) | (unfold am_T; rw [if_pos rfl]; simp only [am_ts, am_tt, ei, ci, eP, eF, eK, eW, c1, c2, c10, c20, c50, cy, cs, cw, a1, a2, a3, a4, a6, cY, cT, c00, z20, m0] at * <;> first | omega | ((repeat' split) <;> first | omega | (simp only [am_c] at * <;> omega))) | (simp only [ei, ci, eP, eF, eK, eW, c1, c2, c10, c20, c50, cy, cs, cw, a1, a2, a3, a4, a6, cY, cT, c00, z20, m0] at * <;> first | omega | (simp only [am_c] at * <;> omega)) | (trace_state; fail))
theorem x_timeOver_1 {l : Launch} {ν : am_N} {Q : Option am_V → am_N → Prop} (i y s P F W : Int) (hi0 : 0 ≤ i) (hi1 : i < ν 83 14) (hn : ν 83 14 ≤ 4) (eP : ν 87 i.toNat = P) (eF : ν 86 i.toNat = F) (eK : ν 85 i.toNat = 1) (eW : ν 83 11 = W) (p0 : 5 ≤ P) (p1 : P ≤ 40) (f0 : 0 ≤ F) (f1 : F ≤ 9) (w0 : 0 ≤ W) (w1 : W ≤ 2000) (y0 : -1000 ≤ y) (y1 : y ≤ 1000) (s0 : -1000 ≤ s) (s1 : s ≤ 1000) (k : Q (some (.inl (am_T P F 1 W (am_y y) s))) ν) : am_Does l 162 [.inr (.inr 83), .inl i, .inl y, .inl s] ν Q := by
  refine x_to81 i y s P F W hi0 hi1 hn eP eF eW p0 p1 f0 f1 w0 w1 y0 y1 s0 s1 (fun Y t u v hv0 hv1 hv2 hv3 => ?_)
  subst hv0
  subst hv1
  subst hv2
  subst hv3
  exact x_at81_1 i y s P F W hi0 hi1 hn eP eF eK eW p0 p1 f0 f1 w0 w1 y0 y1 s0 s1 k
theorem x_at81_2 {l : Launch} {ν : am_N} {Q : Option am_V → am_N → Prop} (i y s P F W : Int) (hi0 : 0 ≤ i) (hi1 : i < ν 83 14) (hn : ν 83 14 ≤ 4) (eP : ν 87 i.toNat = P) (eF : ν 86 i.toNat = F) (eK : ν 85 i.toNat = 2) (eW : ν 83 11 = W) (p0 : 5 ≤ P) (p1 : P ≤ 40) (f0 : 0 ≤ F) (f1 : F ≤ 9) (w0 : 0 ≤ W) (w1 : W ≤ 2000) (y0 : -1000 ≤ y) (y1 : y ≤ 1000) (s0 : -1000 ≤ s) (s1 : s ≤ 1000) (k : Q (some (.inl (am_T P F 2 W (am_y y) s))) ν) : am_AW l 0 (fun _ => 0) 162 Q 81 [some (.inr (.inr 83)), some (.inl i), some (.inl y), some (.inl s), some (.inl (am_y y)), some (.inl (am_t0 P (am_y y))), some (.inl (am_t0 P (am_y y) + am_tt F (am_y y))), some (.inl (am_t0 P (am_y y) + am_ts F W))] [] ν := by
  have ci : am_c i = i := am_cR (by omega) (by omega)
  have ei : (am_c i).toNat = i.toNat := by rw [ci]
  have c1 : am_c 1 = 1 := rfl
  have c2 : am_c 2 = 2 := rfl
  have c10 : am_c 10 = 10 := rfl
  have c20 : am_c 20 = 20 := rfl
  have c50 : am_c 50 = 50 := rfl
  have c00 : am_c 0 = 0 := rfl
  have z20 : (0 : Int).tdiv 20 = 0 := rfl
  have m0 : F * 0 = 0 := Int.mul_zero F
  obtain ⟨cy, cs, cw, hy2, m1, m2, m3, d1, d2, d3, a1, a2, m4, m5, a3, a4, w2, a6, cY, t0, cT, t1, t2⟩ := x1_base p0 p1 f0 f1 w0 w1 y0 y1 s0 s1
  refine am_go (ct := fun _ => false) am_oX7_timeOver 300 ?_
  conv => whnf
  repeat' first
    | (refine (?_ : am_wp _ _ _ _ _ _ _ _ _ _ _ _); conv => whnf)
    | (refine (?_ : am_sw _ _ _ _); conv => whnf)
    | refine And.intro trivial ?_
    | exact trivial
    | ((with_reducible refine (?_ : _ ∧ _)); (first | (refine And.intro (fun h => absurd h (by rw [ei, eK]; decide)) (fun _ => ?_)) | (refine And.intro (fun _ => ?_) (fun h => absurd h (by rw [ei, eK]; decide)))))
    | ((with_reducible refine (?_ : am_Does _ 145 _ _ _)); refine x_atLeastOne _ ?_ ?_ ?_)
    | refine am_qe k ?_
    | refine And.intro (fun h => absurd h (by decide)) (fun _ => ?_)
    | refine And.intro (fun _ => ?_) (fun h => absurd (by decide) h)
    | refine And.intro (fun _ => ?_) (fun _ => ?_)
    | refine And.intro ?_ ?_
  all_goals (first | decide | omega | (unfold am_T; rw [if_neg (by decide), if_pos rfl]; done) | (unfold am_T; rw [if_neg (by decide), if_pos rfl]; simp only [am_ts, am_tt, ei, ci, eP, eF, eK, eW, c1, c2, c10, c20, c50, cy, cs, cw, a1, a2, a3, a4, a6, cY, cT, c00, z20, m0] at * <;> first | omega | ((repeat' split) <;> first | omega | (simp only [am_c] at * <;> omega))) | (simp only [ei, ci, eP, eF, eK, eW, c1, c2, c10, c20, c50, cy, cs, cw, a1, a2, a3, a4, a6, cY, cT, c00, z20, m0] at * <;> first | omega | (simp only [am_c] at * <;> omega)) | (trace_state; fail))
theorem x_timeOver_2 {l : Launch} {ν : am_N} {Q : Option am_V → am_N → Prop} (i y s P F W : Int) (hi0 : 0 ≤ i) (hi1 : i < ν 83 14) (hn : ν 83 14 ≤ 4) (eP : ν 87 i.toNat = P) (eF : ν 86 i.toNat = F) (eK : ν 85 i.toNat = 2) (eW : ν 83 11 = W) (p0 : 5 ≤ P) (p1 : P ≤ 40) (f0 : 0 ≤ F) (f1 : F ≤ 9) (w0 : 0 ≤ W) (w1 : W ≤ 2000) (y0 : -1000 ≤ y) (y1 : y ≤ 1000) (s0 : -1000 ≤ s) (s1 : s ≤ 1000) (k : Q (some (.inl (am_T P F 2 W (am_y y) s))) ν) : am_Does l 162 [.inr (.inr 83), .inl i, .inl y, .inl s] ν Q := by
  refine x_to81 i y s P F W hi0 hi1 hn eP eF eW p0 p1 f0 f1 w0 w1 y0 y1 s0 s1 (fun Y t u v hv0 hv1 hv2 hv3 => ?_)
  subst hv0
  subst hv1
  subst hv2
  subst hv3
  exact x_at81_2 i y s P F W hi0 hi1 hn eP eF eK eW p0 p1 f0 f1 w0 w1 y0 y1 s0 s1 k
theorem x_at81_3 {l : Launch} {ν : am_N} {Q : Option am_V → am_N → Prop} (i y s P F W : Int) (hi0 : 0 ≤ i) (hi1 : i < ν 83 14) (hn : ν 83 14 ≤ 4) (eP : ν 87 i.toNat = P) (eF : ν 86 i.toNat = F) (eK : ν 85 i.toNat = 3) (eW : ν 83 11 = W) (p0 : 5 ≤ P) (p1 : P ≤ 40) (f0 : 0 ≤ F) (f1 : F ≤ 9) (w0 : 0 ≤ W) (w1 : W ≤ 2000) (y0 : -1000 ≤ y) (y1 : y ≤ 1000) (s0 : -1000 ≤ s) (s1 : s ≤ 1000) (k : Q (some (.inl (am_T P F 3 W (am_y y) s))) ν) : am_AW l 0 (fun _ => 0) 162 Q 81 [some (.inr (.inr 83)), some (.inl i), some (.inl y), some (.inl s), some (.inl (am_y y)), some (.inl (am_t0 P (am_y y))), some (.inl (am_t0 P (am_y y) + am_tt F (am_y y))), some (.inl (am_t0 P (am_y y) + am_ts F W))] [] ν := by
  have ci : am_c i = i := am_cR (by omega) (by omega)
  have ei : (am_c i).toNat = i.toNat := by rw [ci]
  have c1 : am_c 1 = 1 := rfl
  have c2 : am_c 2 = 2 := rfl
  have c10 : am_c 10 = 10 := rfl
  have c20 : am_c 20 = 20 := rfl
  have c50 : am_c 50 = 50 := rfl
  have c00 : am_c 0 = 0 := rfl
  have z20 : (0 : Int).tdiv 20 = 0 := rfl
  have m0 : F * 0 = 0 := Int.mul_zero F
  obtain ⟨cy, cs, cw, hy2, m1, m2, m3, d1, d2, d3, a1, a2, m4, m5, a3, a4, w2, a6, cY, t0, cT, t1, t2⟩ := x1_base p0 p1 f0 f1 w0 w1 y0 y1 s0 s1
  refine am_go (ct := fun _ => false) am_oX7_timeOver 300 ?_
  conv => whnf
  repeat' first
    | (refine (?_ : am_wp _ _ _ _ _ _ _ _ _ _ _ _); conv => whnf)
    | (refine (?_ : am_sw _ _ _ _); conv => whnf)
    | refine And.intro trivial ?_
    | exact trivial
    | ((with_reducible refine (?_ : _ ∧ _)); (first | (refine And.intro (fun h => absurd h (by rw [ei, eK]; decide)) (fun _ => ?_)) | (refine And.intro (fun _ => ?_) (fun h => absurd h (by rw [ei, eK]; decide)))))
    | ((with_reducible refine (?_ : am_Does _ 145 _ _ _)); refine x_atLeastOne _ ?_ ?_ ?_)
    | refine am_qe k ?_
    | refine And.intro (fun h => absurd h (by decide)) (fun _ => ?_)
    | refine And.intro (fun _ => ?_) (fun h => absurd (by decide) h)
    | refine And.intro (fun _ => ?_) (fun _ => ?_)
    | refine And.intro ?_ ?_
  all_goals (first | decide | omega | (unfold am_T; rw [if_neg (by decide), if_neg (by decide), if_pos rfl]; done) | (unfold am_T; rw [if_neg (by decide), if_neg (by decide), if_pos rfl]; simp only [am_ts, am_tt, ei, ci, eP, eF, eK, eW, c1, c2, c10, c20, c50, cy, cs, cw, a1, a2, a3, a4, a6, cY, cT, c00, z20, m0] at * <;> first | omega | ((repeat' split) <;> first | omega | (simp only [am_c] at * <;> omega))) | (simp only [ei, ci, eP, eF, eK, eW, c1, c2, c10, c20, c50, cy, cs, cw, a1, a2, a3, a4, a6, cY, cT, c00, z20, m0] at * <;> first | omega | (simp only [am_c] at * <;> omega)) | (trace_state; fail))
theorem x_timeOver_3 {l : Launch} {ν : am_N} {Q : Option am_V → am_N → Prop} (i y s P F W : Int) (hi0 : 0 ≤ i) (hi1 : i < ν 83 14) (hn : ν 83 14 ≤ 4) (eP : ν 87 i.toNat = P) (eF : ν 86 i.toNat = F) (eK : ν 85 i.toNat = 3) (eW : ν 83 11 = W) (p0 : 5 ≤ P) (p1 : P ≤ 40) (f0 : 0 ≤ F) (f1 : F ≤ 9) (w0 : 0 ≤ W) (w1 : W ≤ 2000) (y0 : -1000 ≤ y) (y1 : y ≤ 1000) (s0 : -1000 ≤ s) (s1 : s ≤ 1000) (k : Q (some (.inl (am_T P F 3 W (am_y y) s))) ν) : am_Does l 162 [.inr (.inr 83), .inl i, .inl y, .inl s] ν Q := by
  refine x_to81 i y s P F W hi0 hi1 hn eP eF eW p0 p1 f0 f1 w0 w1 y0 y1 s0 s1 (fun Y t u v hv0 hv1 hv2 hv3 => ?_)
  subst hv0
  subst hv1
  subst hv2
  subst hv3
  exact x_at81_3 i y s P F W hi0 hi1 hn eP eF eK eW p0 p1 f0 f1 w0 w1 y0 y1 s0 s1 k
theorem x_at81_4 {l : Launch} {ν : am_N} {Q : Option am_V → am_N → Prop} (i y s P F W : Int) (hi0 : 0 ≤ i) (hi1 : i < ν 83 14) (hn : ν 83 14 ≤ 4) (eP : ν 87 i.toNat = P) (eF : ν 86 i.toNat = F) (eK : ν 85 i.toNat = 4) (eW : ν 83 11 = W) (p0 : 5 ≤ P) (p1 : P ≤ 40) (f0 : 0 ≤ F) (f1 : F ≤ 9) (w0 : 0 ≤ W) (w1 : W ≤ 2000) (y0 : -1000 ≤ y) (y1 : y ≤ 1000) (s0 : -1000 ≤ s) (s1 : s ≤ 1000) (k : Q (some (.inl (am_T P F 4 W (am_y y) s))) ν) : am_AW l 0 (fun _ => 0) 162 Q 81 [some (.inr (.inr 83)), some (.inl i), some (.inl y), some (.inl s), some (.inl (am_y y)), some (.inl (am_t0 P (am_y y))), some (.inl (am_t0 P (am_y y) + am_tt F (am_y y))), some (.inl (am_t0 P (am_y y) + am_ts F W))] [] ν := by
  have ci : am_c i = i := am_cR (by omega) (by omega)
  have ei : (am_c i).toNat = i.toNat := by rw [ci]
  have c1 : am_c 1 = 1 := rfl
  have c2 : am_c 2 = 2 := rfl
  have c10 : am_c 10 = 10 := rfl
  have c20 : am_c 20 = 20 := rfl
  have c50 : am_c 50 = 50 := rfl
  have c00 : am_c 0 = 0 := rfl
  have z20 : (0 : Int).tdiv 20 = 0 := rfl
  have m0 : F * 0 = 0 := Int.mul_zero F
  obtain ⟨cy, cs, cw, hy2, m1, m2, m3, d1, d2, d3, a1, a2, m4, m5, a3, a4, w2, a6, cY, t0, cT, t1, t2⟩ := x1_base p0 p1 f0 f1 w0 w1 y0 y1 s0 s1
  refine am_go (ct := fun _ => false) am_oX7_timeOver 300 ?_
  conv => whnf
  repeat' first
    | (refine (?_ : am_wp _ _ _ _ _ _ _ _ _ _ _ _); conv => whnf)
    | (refine (?_ : am_sw _ _ _ _); conv => whnf)
    | refine And.intro trivial ?_
    | exact trivial
    | ((with_reducible refine (?_ : _ ∧ _)); (first | (refine And.intro (fun h => absurd h (by rw [ei, eK]; decide)) (fun _ => ?_)) | (refine And.intro (fun _ => ?_) (fun h => absurd h (by rw [ei, eK]; decide)))))
    | ((with_reducible refine (?_ : am_Does _ 145 _ _ _)); refine x_atLeastOne _ ?_ ?_ ?_)
    | refine am_qe k ?_
    | refine And.intro (fun h => absurd h (by decide)) (fun _ => ?_)
    | refine And.intro (fun _ => ?_) (fun h => absurd (by decide) h)
    | refine And.intro (fun _ => ?_) (fun _ => ?_)
    | refine And.intro ?_ ?_
  all_goals (first | decide | omega | (unfold am_T; rw [if_neg (by decide), if_neg (by decide), if_neg (by decide), if_pos rfl]; done) | (unfold am_T; rw [if_neg (by decide), if_neg (by decide), if_neg (by decide), if_pos rfl]; simp only [am_ts, am_tt, ei, ci, eP, eF, eK, eW, c1, c2, c10, c20, c50, cy, cs, cw, a1, a2, a3, a4, a6, cY, cT, c00, z20, m0] at * <;> first | omega | ((repeat' split) <;> first | omega | (simp only [am_c] at * <;> omega))) | (simp only [ei, ci, eP, eF, eK, eW, c1, c2, c10, c20, c50, cy, cs, cw, a1, a2, a3, a4, a6, cY, cT, c00, z20, m0] at * <;> first | omega | (simp only [am_c] at * <;> omega)) | (trace_state; fail))
theorem x_timeOver_4 {l : Launch} {ν : am_N} {Q : Option am_V → am_N → Prop} (i y s P F W : Int) (hi0 : 0 ≤ i) (hi1 : i < ν 83 14) (hn : ν 83 14 ≤ 4) (eP : ν 87 i.toNat = P) (eF : ν 86 i.toNat = F) (eK : ν 85 i.toNat = 4) (eW : ν 83 11 = W) (p0 : 5 ≤ P) (p1 : P ≤ 40) (f0 : 0 ≤ F) (f1 : F ≤ 9) (w0 : 0 ≤ W) (w1 : W ≤ 2000) (y0 : -1000 ≤ y) (y1 : y ≤ 1000) (s0 : -1000 ≤ s) (s1 : s ≤ 1000) (k : Q (some (.inl (am_T P F 4 W (am_y y) s))) ν) : am_Does l 162 [.inr (.inr 83), .inl i, .inl y, .inl s] ν Q := by
  refine x_to81 i y s P F W hi0 hi1 hn eP eF eW p0 p1 f0 f1 w0 w1 y0 y1 s0 s1 (fun Y t u v hv0 hv1 hv2 hv3 => ?_)
  subst hv0
  subst hv1
  subst hv2
  subst hv3
  exact x_at81_4 i y s P F W hi0 hi1 hn eP eF eK eW p0 p1 f0 f1 w0 w1 y0 y1 s0 s1 k
theorem x_at81_5 {l : Launch} {ν : am_N} {Q : Option am_V → am_N → Prop} (i y s P F W : Int) (hi0 : 0 ≤ i) (hi1 : i < ν 83 14) (hn : ν 83 14 ≤ 4) (eP : ν 87 i.toNat = P) (eF : ν 86 i.toNat = F) (eK : ν 85 i.toNat = 5) (eW : ν 83 11 = W) (p0 : 5 ≤ P) (p1 : P ≤ 40) (f0 : 0 ≤ F) (f1 : F ≤ 9) (w0 : 0 ≤ W) (w1 : W ≤ 2000) (y0 : -1000 ≤ y) (y1 : y ≤ 1000) (s0 : -1000 ≤ s) (s1 : s ≤ 1000) (k : Q (some (.inl (am_T P F 5 W (am_y y) s))) ν) : am_AW l 0 (fun _ => 0) 162 Q 81 [some (.inr (.inr 83)), some (.inl i), some (.inl y), some (.inl s), some (.inl (am_y y)), some (.inl (am_t0 P (am_y y))), some (.inl (am_t0 P (am_y y) + am_tt F (am_y y))), some (.inl (am_t0 P (am_y y) + am_ts F W))] [] ν := by
  have ci : am_c i = i := am_cR (by omega) (by omega)
  have ei : (am_c i).toNat = i.toNat := by rw [ci]
  have c1 : am_c 1 = 1 := rfl
  have c2 : am_c 2 = 2 := rfl
  have c10 : am_c 10 = 10 := rfl
  have c20 : am_c 20 = 20 := rfl
  have c50 : am_c 50 = 50 := rfl
  have c00 : am_c 0 = 0 := rfl
  have z20 : (0 : Int).tdiv 20 = 0 := rfl
  have m0 : F * 0 = 0 := Int.mul_zero F
  obtain ⟨cy, cs, cw, hy2, m1, m2, m3, d1, d2, d3, a1, a2, m4, m5, a3, a4, w2, a6, cY, t0, cT, t1, t2⟩ := x1_base p0 p1 f0 f1 w0 w1 y0 y1 s0 s1
  refine am_go (ct := fun _ => false) am_oX7_timeOver 300 ?_
  conv => whnf
  repeat' first
    | (refine (?_ : am_wp _ _ _ _ _ _ _ _ _ _ _ _); conv => whnf)
    | (refine (?_ : am_sw _ _ _ _); conv => whnf)
    | refine And.intro trivial ?_
    | exact trivial
    | ((with_reducible refine (?_ : _ ∧ _)); (first | (refine And.intro (fun h => absurd h (by rw [ei, eK]; decide)) (fun _ => ?_)) | (refine And.intro (fun _ => ?_) (fun h => absurd h (by rw [ei, eK]; decide)))))
    | ((with_reducible refine (?_ : am_Does _ 145 _ _ _)); refine x_atLeastOne _ ?_ ?_ ?_)
    | refine am_qe k ?_
    | refine And.intro (fun h => absurd h (by decide)) (fun _ => ?_)
    | refine And.intro (fun _ => ?_) (fun h => absurd (by decide) h)
    | refine And.intro (fun _ => ?_) (fun _ => ?_)
    | refine And.intro ?_ ?_
  all_goals (first | decide | omega | (unfold am_T; rw [if_neg (by decide), if_neg (by decide), if_neg (by decide), if_neg (by decide), if_pos rfl]; done) | (unfold am_T; rw [if_neg (by decide), if_neg (by decide), if_neg (by decide), if_neg (by decide), if_pos rfl]; simp only [am_ts, am_tt, ei, ci, eP, eF, eK, eW, c1, c2, c10, c20, c50, cy, cs, cw, a1, a2, a3, a4, a6, cY, cT, c00, z20, m0] at * <;> first | omega | ((repeat' split) <;> first | omega | (simp only [am_c] at * <;> omega))) | (simp only [ei, ci, eP, eF, eK, eW, c1, c2, c10, c20, c50, cy, cs, cw, a1, a2, a3, a4, a6, cY, cT, c00, z20, m0] at * <;> first | omega | (simp only [am_c] at * <;> omega)) | (trace_state; fail))
theorem x_timeOver_5 {l : Launch} {ν : am_N} {Q : Option am_V → am_N → Prop} (i y s P F W : Int) (hi0 : 0 ≤ i) (hi1 : i < ν 83 14) (hn : ν 83 14 ≤ 4) (eP : ν 87 i.toNat = P) (eF : ν 86 i.toNat = F) (eK : ν 85 i.toNat = 5) (eW : ν 83 11 = W) (p0 : 5 ≤ P) (p1 : P ≤ 40) (f0 : 0 ≤ F) (f1 : F ≤ 9) (w0 : 0 ≤ W) (w1 : W ≤ 2000) (y0 : -1000 ≤ y) (y1 : y ≤ 1000) (s0 : -1000 ≤ s) (s1 : s ≤ 1000) (k : Q (some (.inl (am_T P F 5 W (am_y y) s))) ν) : am_Does l 162 [.inr (.inr 83), .inl i, .inl y, .inl s] ν Q := by
  refine x_to81 i y s P F W hi0 hi1 hn eP eF eW p0 p1 f0 f1 w0 w1 y0 y1 s0 s1 (fun Y t u v hv0 hv1 hv2 hv3 => ?_)
  subst hv0
  subst hv1
  subst hv2
  subst hv3
  exact x_at81_5 i y s P F W hi0 hi1 hn eP eF eK eW p0 p1 f0 f1 w0 w1 y0 y1 s0 s1 k
/-! the order of a race, exactly -/
/-- how many of the first m are ahead of i -/
def am_cnt (t : Nat → Int) (i : Nat) : Nat → Int
  | 0 => 0
  | m + 1 => am_cnt t i m + (if t m < t i ∨ (t m = t i ∧ m < i) then 1 else 0)
theorem am_cnt_b (t : Nat → Int) (i : Nat) : ∀ m, 0 ≤ am_cnt t i m ∧ am_cnt t i m ≤ m
  | 0 => ⟨Int.le_refl 0, Int.le_refl 0⟩
  | m + 1 => by
    have h := am_cnt_b t i m
    simp only [am_cnt]
    split <;> omega
/-- oneself isn't counted -/
theorem am_cnt_l (t : Nat → Int) (i : Nat) : ∀ m, i < m → am_cnt t i m ≤ (m : Int) - 1
  | 0, h => absurd h (Nat.not_lt_zero _)
  | m + 1, h => by
    have hb := am_cnt_b t i m
    by_cases e : i = m
    · subst e
      simp only [am_cnt]
      rw [if_neg (by omega)]
      omega
    · have hl := am_cnt_l t i m (by omega)
      simp only [am_cnt]
      split <;> omega
/-- who is ahead of j where i is ahead of j, and j -/
theorem am_cnt_m (t : Nat → Int) (i j : Nat) (h : t i < t j ∨ (t i = t j ∧ i < j)) : ∀ m, am_cnt t i m + (if i < m then 1 else 0) ≤ am_cnt t j m
  | 0 => by simp [am_cnt]
  | m + 1 => by
    have q := am_cnt_m t i j h m
    simp only [am_cnt]
    by_cases e : i = m
    · subst e
      rw [if_neg (by omega)] at q
      rw [if_neg (by omega), if_pos (by omega), if_pos (by omega)]
      omega
    · by_cases e2 : t m < t i ∨ (t m = t i ∧ m < i)
      · rw [if_pos e2, if_pos (by omega : t m < t j ∨ (t m = t j ∧ m < j))]
        by_cases e3 : i < m
        · rw [if_pos e3] at q; rw [if_pos (by omega)]; omega
        · rw [if_neg e3] at q; rw [if_neg (by omega)]; omega
      · rw [if_neg e2]
        by_cases e3 : i < m
        · rw [if_pos e3] at q; rw [if_pos (by omega)]; split <;> omega
        · rw [if_neg e3] at q; rw [if_neg (by omega)]; split <;> omega
theorem am_cnt_ne (t : Nat → Int) {i j m : Nat} (hi : i < m) (hj : j < m) (h : i ≠ j) : am_cnt t i m ≠ am_cnt t j m := by
  by_cases e : t i < t j ∨ (t i = t j ∧ i < j)
  · have q := am_cnt_m t i j e m
    rw [if_pos hi] at q
    omega
  · have q := am_cnt_m t j i (by omega) m
    rw [if_pos hj] at q
    omega
/-- each place is somebody's -/
theorem am_cnt_s (t : Nat → Int) {m : Nat} (hm : m ≤ 4) : ∀ p : Nat, p < m → ∃ i, i < m ∧ am_cnt t i m = p := by
  intro p hp
  rcases (show m = 1 ∨ m = 2 ∨ m = 3 ∨ m = 4 by omega) with rfl | rfl | rfl | rfl
  · exact ⟨0, by omega, by have := am_cnt_b t 0 1; have := am_cnt_l t 0 1 (by omega); omega⟩
  · have a0 := am_cnt_b t 0 2; have a1 := am_cnt_b t 1 2; have b0 := am_cnt_l t 0 2 (by omega); have b1 := am_cnt_l t 1 2 (by omega)
    have c01 := am_cnt_ne t (i := 0) (j := 1) (m := 2) (by omega) (by omega) (by decide)
    rcases (show am_cnt t 0 2 = p ∨ am_cnt t 1 2 = p by omega) with h | h
    · exact ⟨0, by omega, h⟩
    · exact ⟨1, by omega, h⟩
  · have a0 := am_cnt_b t 0 3; have a1 := am_cnt_b t 1 3; have a2 := am_cnt_b t 2 3; have b0 := am_cnt_l t 0 3 (by omega); have b1 := am_cnt_l t 1 3 (by omega); have b2 := am_cnt_l t 2 3 (by omega)
    have c01 := am_cnt_ne t (i := 0) (j := 1) (m := 3) (by omega) (by omega) (by decide)
    have c02 := am_cnt_ne t (i := 0) (j := 2) (m := 3) (by omega) (by omega) (by decide)
    have c12 := am_cnt_ne t (i := 1) (j := 2) (m := 3) (by omega) (by omega) (by decide)
    rcases (show am_cnt t 0 3 = p ∨ am_cnt t 1 3 = p ∨ am_cnt t 2 3 = p by omega) with h | h | h
    · exact ⟨0, by omega, h⟩
    · exact ⟨1, by omega, h⟩
    · exact ⟨2, by omega, h⟩
  · have a0 := am_cnt_b t 0 4; have a1 := am_cnt_b t 1 4; have a2 := am_cnt_b t 2 4; have a3 := am_cnt_b t 3 4; have b0 := am_cnt_l t 0 4 (by omega); have b1 := am_cnt_l t 1 4 (by omega); have b2 := am_cnt_l t 2 4 (by omega); have b3 := am_cnt_l t 3 4 (by omega)
    have c01 := am_cnt_ne t (i := 0) (j := 1) (m := 4) (by omega) (by omega) (by decide)
    have c02 := am_cnt_ne t (i := 0) (j := 2) (m := 4) (by omega) (by omega) (by decide)
    have c03 := am_cnt_ne t (i := 0) (j := 3) (m := 4) (by omega) (by omega) (by decide)
    have c12 := am_cnt_ne t (i := 1) (j := 2) (m := 4) (by omega) (by omega) (by decide)
    have c13 := am_cnt_ne t (i := 1) (j := 3) (m := 4) (by omega) (by omega) (by decide)
    have c23 := am_cnt_ne t (i := 2) (j := 3) (m := 4) (by omega) (by omega) (by decide)
    rcases (show am_cnt t 0 4 = p ∨ am_cnt t 1 4 = p ∨ am_cnt t 2 4 = p ∨ am_cnt t 3 4 = p by omega) with h | h | h | h
    · exact ⟨0, by omega, h⟩
    · exact ⟨1, by omega, h⟩
    · exact ⟨2, by omega, h⟩
    · exact ⟨3, by omega, h⟩
/-- fewer ahead: no later time -/
theorem am_cnt_le (t : Nat → Int) {i j m : Nat} (hj : j < m) (h : am_cnt t i m ≤ am_cnt t j m) : t i ≤ t j := by
  by_cases e : t j < t i
  · have q := am_cnt_m t j i (Or.inl e) m
    rw [if_pos hj] at q
    omega
  · omega
/-- one more at place k -/
theorem am_ins (t : Nat → Int) {r : Nat} {k : Int} (hr : r + 1 ≤ 4) (k0 : 0 ≤ k) (k1 : k ≤ r) (H : ∀ i, i < r → (am_cnt t i r < k → t i ≤ t r) ∧ (k ≤ am_cnt t i r → t r < t i)) : am_cnt t r (r + 1) = k ∧ ∀ i, i < r → am_cnt t i (r + 1) = am_cnt t i r + (if am_cnt t i r < k then 0 else 1) := by
  have h2 : ∀ i, i < r → am_cnt t i (r + 1) = am_cnt t i r + (if am_cnt t i r < k then 0 else 1) := fun i hi => by
    have q := H i hi
    simp only [am_cnt]
    by_cases e : am_cnt t i r < k
    · have := q.1 e
      rw [if_pos e, if_neg (by omega)]
    · have := q.2 (by omega)
      rw [if_neg e, if_pos (by omega)]
  refine ⟨?_, h2⟩
  obtain ⟨i, hi, hc⟩ := am_cnt_s t (m := r + 1) hr k.toNat (by omega)
  by_cases e : i = r
  · subst e; omega
  · have q := h2 i (by omega)
    split at q <;> omega
/-- the first r are sorted in cell c, save that from place k on all stand one further -/
def am_gap (μ : am_N) (c : Nat) (t : Nat → Int) (r : Nat) (k : Int) : Prop := ∀ i : Nat, i < r → (am_cnt t i r < k → μ c (am_cnt t i r).toNat = i) ∧ (k ≤ am_cnt t i r → t r < t i ∧ μ c ((am_cnt t i r).toNat + 1) = i)
theorem am_gap0 {μ : am_N} {c : Nat} {t : Nat → Int} {r : Nat} (h : ∀ i : Nat, i < r → μ c (am_cnt t i r).toNat = i) : am_gap μ c t r r := fun i hi => ⟨fun _ => h i hi, fun q => by have := am_cnt_l t i r hi; omega⟩
/-- who stands before the gap -/
theorem am_gap_b {μ : am_N} {c : Nat} {t : Nat → Int} {r : Nat} {k : Int} (hr : r ≤ 3) (h : am_gap μ c t r k) (k0 : 0 < k) (k1 : k ≤ r) : ∃ i : Nat, i < r ∧ am_cnt t i r = k - 1 ∧ μ c (k - 1).toNat = i := by
  obtain ⟨i, hi, hc⟩ := am_cnt_s t (m := r) (by omega) (k - 1).toNat (by omega)
  have e : am_cnt t i r = k - 1 := by omega
  have q := (h i hi).1 (by omega)
  rw [e] at q
  exact ⟨i, hi, e, q⟩
theorem am_gap1 {μ : am_N} {c : Nat} {t : Nat → Int} {r : Nat} {k : Int} (hr : r ≤ 3) (h : am_gap μ c t r k) (k0 : 0 < k) (k1 : k ≤ r) (ht : t r < t (μ c (k - 1).toNat).toNat) : am_gap (am_up μ c k.toNat (μ c (k - 1).toNat)) c t r (k - 1) := by
  obtain ⟨j, hj, hc, hv⟩ := am_gap_b hr h k0 k1
  rw [hv] at ht ⊢
  have ej : ((j : Int)).toNat = j := by omega
  rw [ej] at ht
  intro i hi
  have q := h i hi
  have b := am_cnt_b t i r
  constructor
  · intro z
    rw [show am_up μ c k.toNat (j : Int) c (am_cnt t i r).toNat = μ c (am_cnt t i r).toNat from if_neg (fun w => by have := w.2; omega)]
    exact q.1 (by omega)
  · intro z
    by_cases e : am_cnt t i r = k - 1
    · have d : i = j := by
        by_cases d : i = j
        · exact d
        · exact absurd (by rw [e, hc]) (am_cnt_ne t hi hj d)
      subst d
      refine ⟨ht, ?_⟩
      rw [show (am_cnt t i r).toNat + 1 = k.toNat by omega]
      exact if_pos ⟨rfl, rfl⟩
    · have q2 := q.2 (by omega)
      refine ⟨q2.1, ?_⟩
      rw [show am_up μ c k.toNat (j : Int) c ((am_cnt t i r).toNat + 1) = μ c ((am_cnt t i r).toNat + 1) from if_neg (fun w => by have := w.2; omega)]
      exact q2.2
theorem am_gap2 {μ : am_N} {c : Nat} {t : Nat → Int} {r : Nat} {k : Int} (hr : r ≤ 3) (h : am_gap μ c t r k) (k0 : 0 ≤ k) (k1 : k ≤ r) (ht : 0 < k → t (μ c (k - 1).toNat).toNat ≤ t r) : ∀ i : Nat, i < r + 1 → am_up μ c k.toNat r c (am_cnt t i (r + 1)).toNat = i := by
  have H : ∀ i, i < r → (am_cnt t i r < k → t i ≤ t r) ∧ (k ≤ am_cnt t i r → t r < t i) := fun i hi => by
    refine ⟨fun z => ?_, fun z => ((h i hi).2 z).1⟩
    have b := am_cnt_b t i r
    obtain ⟨j, hj, hc, hv⟩ := am_gap_b hr h (by omega) k1
    have q := ht (by omega)
    rw [hv, show ((j : Int)).toNat = j by omega] at q
    have p : t i ≤ t j := am_cnt_le t hj (by omega)
    omega
  obtain ⟨a, b⟩ := am_ins t (by omega : r + 1 ≤ 4) k0 k1 H
  intro i hi
  by_cases e : i = r
  · subst e
    rw [a]
    exact if_pos ⟨rfl, rfl⟩
  · have q := h i (by omega)
    have c0 := am_cnt_b t i r
    rw [b i (by omega)]
    by_cases e2 : am_cnt t i r < k
    · rw [if_pos e2, show am_cnt t i r + 0 = am_cnt t i r by omega]
      rw [show am_up μ c k.toNat (r : Int) c (am_cnt t i r).toNat = μ c (am_cnt t i r).toNat from if_neg (fun w => by have := w.2; omega)]
      exact q.1 e2
    · rw [if_neg e2, show (am_cnt t i r + 1).toNat = (am_cnt t i r).toNat + 1 by omega]
      rw [show am_up μ c k.toNat (r : Int) c ((am_cnt t i r).toNat + 1) = μ c ((am_cnt t i r).toNat + 1) from if_neg (fun w => by have := w.2; omega)]
      exact (q.2 (by omega)).2
theorem am_gap1e {μ : am_N} {c : Nat} {t : Nat → Int} {r : Nat} {k k' v : Int} {j : Nat} (hr : r ≤ 3) (h : am_gap μ c t r k) (k0 : 0 < k) (k1 : k ≤ r) (hj : j = k.toNat) (hv : v = μ c (k - 1).toNat) (hk : k' = k - 1) (ht : t r < t v.toNat) : am_gap (am_up μ c j v) c t r k' := by
  subst hj; subst hv; subst hk; exact am_gap1 hr h k0 k1 ht
theorem am_gap2e {μ : am_N} {c : Nat} {t : Nat → Int} {r : Nat} {k v : Int} {j r1 : Nat} (hr : r ≤ 3) (h : am_gap μ c t r k) (k0 : 0 ≤ k) (k1 : k ≤ r) (hj : j = k.toNat) (hv : v = r) (h1 : r1 = r + 1) (ht : 0 < k → t (μ c (k - 1).toNat).toNat ≤ t r) : ∀ i : Nat, i < r1 → am_up μ c j v c (am_cnt t i r1).toNat = i := by
  subst hj; subst hv; subst h1; exact am_gap2 hr h k0 k1 ht
/-- somebody is put at his place -/
theorem am_put {μ : am_N} {c : Nat} {t : Nat → Int} {i v : Int} {n p : Nat} (h0 : 0 ≤ i) (hi : i < n) (h : ∀ q : Nat, (q : Int) < i → μ c (am_cnt t q n).toNat = q) (hp : p = (am_cnt t i.toNat n).toNat) (hv : v = i) : ∀ q : Nat, (q : Int) < i + 1 → am_up μ c p v c (am_cnt t q n).toNat = q := by
  subst hp; subst hv
  intro q hq
  by_cases e : (q : Int) = v
  · rw [show v.toNat = q by omega, e.symm]
    exact if_pos ⟨rfl, rfl⟩
  · have ne := am_cnt_ne t (i := q) (j := v.toNat) (m := n) (by omega) (by omega) (by omega)
    have b1 := am_cnt_b t q n
    have b2 := am_cnt_b t v.toNat n
    rw [show am_up μ c (am_cnt t v.toNat n).toNat v c (am_cnt t q n).toNat = μ c (am_cnt t q n).toNat from if_neg (fun w => by have := w.2; omega)]
    exact h q (by omega)
/-- the places in the cell c are the order by the times t of n -/
def am_isord (μ : am_N) (c : Nat) (t : Nat → Int) (n : Int) : Prop := ∀ i : Nat, (i : Int) < n → μ c (am_cnt t i n.toNat).toNat = i
theorem x_line {l : Launch} {ν : am_N} {Q : Option am_V → am_N → Prop} (hn0 : 0 ≤ ν 29 0) (hn1 : ν 29 0 ≤ 4) (ht : ∀ j : Nat, (j : Int) < ν 29 0 → -2147483648 ≤ ν 33 j ∧ ν 33 j ≤ 2147483647) (k : ∀ μ' : am_N, (∀ a b, a ≠ 34 → μ' a b = ν a b) → am_isord μ' 34 (ν 33) (ν 29 0) → (sx_3 ν 34 → sx_3 μ' 34) → Q none μ') : am_Does l 36 [.inr (.inr 29)] ν Q := by
  refine am_Does_of (Nat.le_of_ble_eq_true rfl) (Nat.le_of_ble_eq_true rfl) (Nat.le_of_ble_eq_true rfl) ?_
  have lp14 : ∀ (m : Nat) (i p j : Int) (μ : am_N) , (∀ a b, a ≠ 34 → μ a b = ν a b) → 0 ≤ i → i < ν 29 0 → 0 ≤ j → j ≤ ν 29 0 → p = am_cnt (ν 33) i.toNat j.toNat → (∀ q : Nat, (q : Int) < i → μ 34 (am_cnt (ν 33) q (ν 29 0).toNat).toNat = q) → (∀ (p j : Int) (μ : am_N), (∀ a b, a ≠ 34 → μ a b = ν a b) → (∀ q : Nat, (q : Int) < i + 1 → μ 34 (am_cnt (ν 33) q (ν 29 0).toNat).toNat = q) → (sx_3 ν 34 → sx_3 μ 34) → am_AW l 0 (fun _ => 0) 36 Q 2 [some (.inr (.inr 29)), some (.inl (i + 1)), some (.inl p), some (.inl j)] [] μ) → (sx_3 ν 34 → sx_3 μ 34) → ν 29 0 - j < (m : Int) → am_AW l 0 (fun _ => 0) 36 Q 14 [some (.inr (.inr 29)), some (.inl i), some (.inl p), some (.inl j)] [] μ := by
    intro m
    induction m with
    | zero =>
      intro i p j μ hv0 hv1 hv2 hv3 hv4 hv5 hv6 hv7 hv8 hm
      exfalso
      omega
    | succ m ih =>
      intro i p j μ hv0 hv1 hv2 hv3 hv4 hv5 hv6 hv7 hv8 hm
      have en : μ 29 0 = ν 29 0 := hv0 29 0 (by decide)
      have et : ∀ b, μ 33 b = ν 33 b := fun b => hv0 33 b (by decide)
      have ci : am_c i = i := am_cR (by omega) (by omega)
      have cj : am_c j = j := am_cR (by omega) (by omega)
      have cn : am_c (ν 29 0) = ν 29 0 := am_cR (by omega) (by omega)
      have ti := ht i.toNat (by omega)
      have cti : am_c (ν 33 i.toNat) = ν 33 i.toNat := am_cR (by omega) (by omega)
      have ctj : j < ν 29 0 → am_c (ν 33 j.toNat) = ν 33 j.toNat := fun q => by have := ht j.toNat (by omega); exact am_cR (by omega) (by omega)
      have ej : (j + 1).toNat = j.toNat + 1 := by omega
      have pb := am_cnt_b (ν 33) i.toNat j.toNat
      have cp : am_c p = p := am_cR (by omega) (by omega)
      have pl : j = ν 29 0 → p ≤ ν 29 0 - 1 := fun q => by
        have z := am_cnt_l (ν 33) i.toNat (ν 29 0).toNat (by omega)
        rw [hv5, q]
        omega
      refine am_go (ct := fun pc => Nat.beq pc 14 || Nat.beq pc 2) am_oX2_line 300 ?_
      conv => whnf
      repeat' first
        | (refine (?_ : am_wp _ _ _ _ _ _ _ _ _ _ _ _); conv => whnf)
        | (refine (?_ : am_sw _ _ _ _); conv => whnf)
        | refine And.intro trivial ?_
        | exact trivial
        | refine hv7 _ _ _ ?_ ?_ ?_
        | ((with_reducible refine (?_ : am_AW _ _ _ _ _ 14 _ _ _)); refine ih _ _ _ _ ?_ ?_ ?_ ?_ ?_ ?_ ?_ ?_ ?_ ?_)
        | refine And.intro (fun h => absurd h (by decide)) (fun _ => ?_)
        | refine And.intro (fun _ => ?_) (fun h => absurd (by decide) h)
        | refine And.intro (fun _ => ?_) (fun _ => ?_)
        | refine And.intro ?_ ?_
      all_goals (first | decide | assumption | omega | (simp only [en, ci, cj, cp, cn] at *; omega) | (intro a b ha; rw [am_upN ha]; exact hv0 a b ha) | (intro hb; exact sx_3S (hv8 hb) hv1 (by omega)) | (have en2 : j = ν 29 0 := (by simp only [en, ci, cj, cn] at *; omega); refine am_put hv1 (by omega) hv6 ?_ rfl; rw [cp, hv5, en2]) | (have jn : j < ν 29 0 := (by simp only [en, ci, cj, cn] at *; omega); have ct := ctj jn; simp only [ej, am_cnt, en, ci, cj, cn, et, cti, ct] at *; (first | rw [if_pos (by omega)] | rw [if_neg (by omega)]); omega) | (trace_state; fail))
  have lp14' : ∀ (i p j : Int) (μ : am_N) , (∀ a b, a ≠ 34 → μ a b = ν a b) → 0 ≤ i → i < ν 29 0 → 0 ≤ j → j ≤ ν 29 0 → p = am_cnt (ν 33) i.toNat j.toNat → (∀ q : Nat, (q : Int) < i → μ 34 (am_cnt (ν 33) q (ν 29 0).toNat).toNat = q) → (∀ (p j : Int) (μ : am_N), (∀ a b, a ≠ 34 → μ a b = ν a b) → (∀ q : Nat, (q : Int) < i + 1 → μ 34 (am_cnt (ν 33) q (ν 29 0).toNat).toNat = q) → (sx_3 ν 34 → sx_3 μ 34) → am_AW l 0 (fun _ => 0) 36 Q 2 [some (.inr (.inr 29)), some (.inl (i + 1)), some (.inl p), some (.inl j)] [] μ) → (sx_3 ν 34 → sx_3 μ 34) → am_AW l 0 (fun _ => 0) 36 Q 14 [some (.inr (.inr 29)), some (.inl i), some (.inl p), some (.inl j)] [] μ := fun i p j μ hv0 hv1 hv2 hv3 hv4 hv5 hv6 hv7 hv8 => lp14 ((ν 29 0 - j) + 1).toNat i p j μ hv0 hv1 hv2 hv3 hv4 hv5 hv6 hv7 hv8 (by omega)
  have lp2 : ∀ (m : Nat) (i : Int) (o2 o3 : Option am_V) (μ : am_N) , (∀ a b, a ≠ 34 → μ a b = ν a b) → 0 ≤ i → i ≤ ν 29 0 → (∀ q : Nat, (q : Int) < i → μ 34 (am_cnt (ν 33) q (ν 29 0).toNat).toNat = q) → (sx_3 ν 34 → sx_3 μ 34) → ν 29 0 - i < (m : Int) → am_AW l 0 (fun _ => 0) 36 Q 2 [some (.inr (.inr 29)), some (.inl i), o2, o3] [] μ := by
    intro m
    induction m with
    | zero =>
      intro i o2 o3 μ hv0 hv1 hv2 hv3 hv4 hm
      exfalso
      omega
    | succ m ih =>
      intro i o2 o3 μ hv0 hv1 hv2 hv3 hv4 hm
      have en : μ 29 0 = ν 29 0 := hv0 29 0 (by decide)
      have ci : am_c i = i := am_cR (by omega) (by omega)
      have cn : am_c (ν 29 0) = ν 29 0 := am_cR (by omega) (by omega)
      refine am_go (ct := fun pc => Nat.beq pc 14 || Nat.beq pc 2) am_oX2_line 300 ?_
      conv => whnf
      repeat' first
        | (refine (?_ : am_wp _ _ _ _ _ _ _ _ _ _ _ _); conv => whnf)
        | (refine (?_ : am_sw _ _ _ _); conv => whnf)
        | refine And.intro trivial ?_
        | exact trivial
        | refine k _ ?_ ?_ ?_
        | ((with_reducible refine (?_ : am_AW _ _ _ _ _ 2 _ _ _)); refine ih _ _ _ _ ?_ ?_ ?_ ?_ ?_ ?_)
        | ((with_reducible refine (?_ : am_AW _ _ _ _ _ 14 _ _ _)); refine lp14' _ _ _ _ ?_ ?_ ?_ ?_ ?_ ?_ ?_ ?_ ?_)
        | refine And.intro (fun h => absurd h (by decide)) (fun _ => ?_)
        | refine And.intro (fun _ => ?_) (fun h => absurd (by decide) h)
        | refine And.intro (fun _ => ?_) (fun _ => ?_)
        | refine And.intro ?_ ?_
      all_goals (first | decide | assumption | rfl | omega | (simp only [en, ci, cn] at *; omega) | (intro q hq; exact hv3 q (by simp only [en, ci, cn] at *; omega)) | (intros; refine ih _ _ _ _ ?_ ?_ ?_ ?_ ?_ ?_ <;> first | assumption | omega | (simp only [en, ci, cn] at *; omega)) | (trace_state; fail))
  have lp2' : ∀ (i : Int) (o2 o3 : Option am_V) (μ : am_N) , (∀ a b, a ≠ 34 → μ a b = ν a b) → 0 ≤ i → i ≤ ν 29 0 → (∀ q : Nat, (q : Int) < i → μ 34 (am_cnt (ν 33) q (ν 29 0).toNat).toNat = q) → (sx_3 ν 34 → sx_3 μ 34) → am_AW l 0 (fun _ => 0) 36 Q 2 [some (.inr (.inr 29)), some (.inl i), o2, o3] [] μ := fun i o2 o3 μ hv0 hv1 hv2 hv3 hv4 => lp2 ((ν 29 0 - i) + 1).toNat i o2 o3 μ hv0 hv1 hv2 hv3 hv4 (by omega)
  refine am_go (ct := fun pc => Nat.beq pc 14 || Nat.beq pc 2) am_oX2_line 300 ?_
  conv => whnf
  repeat' first
    | (refine (?_ : am_wp _ _ _ _ _ _ _ _ _ _ _ _); conv => whnf)
    | (refine (?_ : am_sw _ _ _ _); conv => whnf)
    | refine And.intro trivial ?_
    | exact trivial
    | ((with_reducible refine (?_ : am_AW _ _ _ _ _ 2 _ _ _)); refine lp2' _ _ _ _ ?_ ?_ ?_ ?_ ?_)
    | ((with_reducible refine (?_ : am_AW _ _ _ _ _ 14 _ _ _)); refine lp14' _ _ _ _ ?_ ?_ ?_ ?_ ?_ ?_ ?_ ?_ ?_)
    | refine And.intro (fun h => absurd h (by decide)) (fun _ => ?_)
    | refine And.intro (fun _ => ?_) (fun h => absurd (by decide) h)
    | refine And.intro (fun _ => ?_) (fun _ => ?_)
    | refine And.intro ?_ ?_
  all_goals (first | decide | assumption | omega | exact fun _ _ _ => rfl | exact fun z => z | (intros; omega) | (trace_state; fail))
theorem x_line_38 {l : Launch} {ν : am_N} {Q : Option am_V → am_N → Prop} (hn0 : 0 ≤ ν 38 0) (hn1 : ν 38 0 ≤ 4) (ht : ∀ j : Nat, (j : Int) < ν 38 0 → -2147483648 ≤ ν 42 j ∧ ν 42 j ≤ 2147483647) (k : ∀ μ' : am_N, (∀ a b, a ≠ 43 → μ' a b = ν a b) → am_isord μ' 43 (ν 42) (ν 38 0) → (sx_3 ν 43 → sx_3 μ' 43) → Q none μ') : am_Does l 36 [.inr (.inr 38)] ν Q := by
  refine am_Does_of (Nat.le_of_ble_eq_true rfl) (Nat.le_of_ble_eq_true rfl) (Nat.le_of_ble_eq_true rfl) ?_
  have lp14 : ∀ (m : Nat) (i p j : Int) (μ : am_N) , (∀ a b, a ≠ 43 → μ a b = ν a b) → 0 ≤ i → i < ν 38 0 → 0 ≤ j → j ≤ ν 38 0 → p = am_cnt (ν 42) i.toNat j.toNat → (∀ q : Nat, (q : Int) < i → μ 43 (am_cnt (ν 42) q (ν 38 0).toNat).toNat = q) → (∀ (p j : Int) (μ : am_N), (∀ a b, a ≠ 43 → μ a b = ν a b) → (∀ q : Nat, (q : Int) < i + 1 → μ 43 (am_cnt (ν 42) q (ν 38 0).toNat).toNat = q) → (sx_3 ν 43 → sx_3 μ 43) → am_AW l 0 (fun _ => 0) 36 Q 2 [some (.inr (.inr 38)), some (.inl (i + 1)), some (.inl p), some (.inl j)] [] μ) → (sx_3 ν 43 → sx_3 μ 43) → ν 38 0 - j < (m : Int) → am_AW l 0 (fun _ => 0) 36 Q 14 [some (.inr (.inr 38)), some (.inl i), some (.inl p), some (.inl j)] [] μ := by
    intro m
    induction m with
    | zero =>
      intro i p j μ hv0 hv1 hv2 hv3 hv4 hv5 hv6 hv7 hv8 hm
      exfalso
      omega
    | succ m ih =>
      intro i p j μ hv0 hv1 hv2 hv3 hv4 hv5 hv6 hv7 hv8 hm
      have en : μ 38 0 = ν 38 0 := hv0 38 0 (by decide)
      have et : ∀ b, μ 42 b = ν 42 b := fun b => hv0 42 b (by decide)
      have ci : am_c i = i := am_cR (by omega) (by omega)
      have cj : am_c j = j := am_cR (by omega) (by omega)
      have cn : am_c (ν 38 0) = ν 38 0 := am_cR (by omega) (by omega)
      have ti := ht i.toNat (by omega)
      have cti : am_c (ν 42 i.toNat) = ν 42 i.toNat := am_cR (by omega) (by omega)
      have ctj : j < ν 38 0 → am_c (ν 42 j.toNat) = ν 42 j.toNat := fun q => by have := ht j.toNat (by omega); exact am_cR (by omega) (by omega)
      have ej : (j + 1).toNat = j.toNat + 1 := by omega
      have pb := am_cnt_b (ν 42) i.toNat j.toNat
      have cp : am_c p = p := am_cR (by omega) (by omega)
      have pl : j = ν 38 0 → p ≤ ν 38 0 - 1 := fun q => by
        have z := am_cnt_l (ν 42) i.toNat (ν 38 0).toNat (by omega)
        rw [hv5, q]
        omega
      refine am_go (ct := fun pc => Nat.beq pc 14 || Nat.beq pc 2) am_oX2_line 300 ?_
      conv => whnf
      repeat' first
        | (refine (?_ : am_wp _ _ _ _ _ _ _ _ _ _ _ _); conv => whnf)
        | (refine (?_ : am_sw _ _ _ _); conv => whnf)
        | refine And.intro trivial ?_
        | exact trivial
        | refine hv7 _ _ _ ?_ ?_ ?_
        | ((with_reducible refine (?_ : am_AW _ _ _ _ _ 14 _ _ _)); refine ih _ _ _ _ ?_ ?_ ?_ ?_ ?_ ?_ ?_ ?_ ?_ ?_)
        | refine And.intro (fun h => absurd h (by decide)) (fun _ => ?_)
        | refine And.intro (fun _ => ?_) (fun h => absurd (by decide) h)
        | refine And.intro (fun _ => ?_) (fun _ => ?_)
        | refine And.intro ?_ ?_
      all_goals (first | decide | assumption | omega | (simp only [en, ci, cj, cp, cn] at *; omega) | (intro a b ha; rw [am_upN ha]; exact hv0 a b ha) | (intro hb; exact sx_3S (hv8 hb) hv1 (by omega)) | (have en2 : j = ν 38 0 := (by simp only [en, ci, cj, cn] at *; omega); refine am_put hv1 (by omega) hv6 ?_ rfl; rw [cp, hv5, en2]) | (have jn : j < ν 38 0 := (by simp only [en, ci, cj, cn] at *; omega); have ct := ctj jn; simp only [ej, am_cnt, en, ci, cj, cn, et, cti, ct] at *; (first | rw [if_pos (by omega)] | rw [if_neg (by omega)]); omega) | (trace_state; fail))
  have lp14' : ∀ (i p j : Int) (μ : am_N) , (∀ a b, a ≠ 43 → μ a b = ν a b) → 0 ≤ i → i < ν 38 0 → 0 ≤ j → j ≤ ν 38 0 → p = am_cnt (ν 42) i.toNat j.toNat → (∀ q : Nat, (q : Int) < i → μ 43 (am_cnt (ν 42) q (ν 38 0).toNat).toNat = q) → (∀ (p j : Int) (μ : am_N), (∀ a b, a ≠ 43 → μ a b = ν a b) → (∀ q : Nat, (q : Int) < i + 1 → μ 43 (am_cnt (ν 42) q (ν 38 0).toNat).toNat = q) → (sx_3 ν 43 → sx_3 μ 43) → am_AW l 0 (fun _ => 0) 36 Q 2 [some (.inr (.inr 38)), some (.inl (i + 1)), some (.inl p), some (.inl j)] [] μ) → (sx_3 ν 43 → sx_3 μ 43) → am_AW l 0 (fun _ => 0) 36 Q 14 [some (.inr (.inr 38)), some (.inl i), some (.inl p), some (.inl j)] [] μ := fun i p j μ hv0 hv1 hv2 hv3 hv4 hv5 hv6 hv7 hv8 => lp14 ((ν 38 0 - j) + 1).toNat i p j μ hv0 hv1 hv2 hv3 hv4 hv5 hv6 hv7 hv8 (by omega)
  have lp2 : ∀ (m : Nat) (i : Int) (o2 o3 : Option am_V) (μ : am_N) , (∀ a b, a ≠ 43 → μ a b = ν a b) → 0 ≤ i → i ≤ ν 38 0 → (∀ q : Nat, (q : Int) < i → μ 43 (am_cnt (ν 42) q (ν 38 0).toNat).toNat = q) → (sx_3 ν 43 → sx_3 μ 43) → ν 38 0 - i < (m : Int) → am_AW l 0 (fun _ => 0) 36 Q 2 [some (.inr (.inr 38)), some (.inl i), o2, o3] [] μ := by
    intro m
    induction m with
    | zero =>
      intro i o2 o3 μ hv0 hv1 hv2 hv3 hv4 hm
      exfalso
      omega
    | succ m ih =>
      intro i o2 o3 μ hv0 hv1 hv2 hv3 hv4 hm
      have en : μ 38 0 = ν 38 0 := hv0 38 0 (by decide)
      have ci : am_c i = i := am_cR (by omega) (by omega)
      have cn : am_c (ν 38 0) = ν 38 0 := am_cR (by omega) (by omega)
      refine am_go (ct := fun pc => Nat.beq pc 14 || Nat.beq pc 2) am_oX2_line 300 ?_
      conv => whnf
      repeat' first
        | (refine (?_ : am_wp _ _ _ _ _ _ _ _ _ _ _ _); conv => whnf)
        | (refine (?_ : am_sw _ _ _ _); conv => whnf)
        | refine And.intro trivial ?_
        | exact trivial
        | refine k _ ?_ ?_ ?_
        | ((with_reducible refine (?_ : am_AW _ _ _ _ _ 2 _ _ _)); refine ih _ _ _ _ ?_ ?_ ?_ ?_ ?_ ?_)
        | ((with_reducible refine (?_ : am_AW _ _ _ _ _ 14 _ _ _)); refine lp14' _ _ _ _ ?_ ?_ ?_ ?_ ?_ ?_ ?_ ?_ ?_)
        | refine And.intro (fun h => absurd h (by decide)) (fun _ => ?_)
        | refine And.intro (fun _ => ?_) (fun h => absurd (by decide) h)
        | refine And.intro (fun _ => ?_) (fun _ => ?_)
        | refine And.intro ?_ ?_
      all_goals (first | decide | assumption | rfl | omega | (simp only [en, ci, cn] at *; omega) | (intro q hq; exact hv3 q (by simp only [en, ci, cn] at *; omega)) | (intros; refine ih _ _ _ _ ?_ ?_ ?_ ?_ ?_ ?_ <;> first | assumption | omega | (simp only [en, ci, cn] at *; omega)) | (trace_state; fail))
  have lp2' : ∀ (i : Int) (o2 o3 : Option am_V) (μ : am_N) , (∀ a b, a ≠ 43 → μ a b = ν a b) → 0 ≤ i → i ≤ ν 38 0 → (∀ q : Nat, (q : Int) < i → μ 43 (am_cnt (ν 42) q (ν 38 0).toNat).toNat = q) → (sx_3 ν 43 → sx_3 μ 43) → am_AW l 0 (fun _ => 0) 36 Q 2 [some (.inr (.inr 38)), some (.inl i), o2, o3] [] μ := fun i o2 o3 μ hv0 hv1 hv2 hv3 hv4 => lp2 ((ν 38 0 - i) + 1).toNat i o2 o3 μ hv0 hv1 hv2 hv3 hv4 (by omega)
  refine am_go (ct := fun pc => Nat.beq pc 14 || Nat.beq pc 2) am_oX2_line 300 ?_
  conv => whnf
  repeat' first
    | (refine (?_ : am_wp _ _ _ _ _ _ _ _ _ _ _ _); conv => whnf)
    | (refine (?_ : am_sw _ _ _ _); conv => whnf)
    | refine And.intro trivial ?_
    | exact trivial
    | ((with_reducible refine (?_ : am_AW _ _ _ _ _ 2 _ _ _)); refine lp2' _ _ _ _ ?_ ?_ ?_ ?_ ?_)
    | ((with_reducible refine (?_ : am_AW _ _ _ _ _ 14 _ _ _)); refine lp14' _ _ _ _ ?_ ?_ ?_ ?_ ?_ ?_ ?_ ?_ ?_)
    | refine And.intro (fun h => absurd h (by decide)) (fun _ => ?_)
    | refine And.intro (fun _ => ?_) (fun h => absurd (by decide) h)
    | refine And.intro (fun _ => ?_) (fun _ => ?_)
    | refine And.intro ?_ ?_
  all_goals (first | decide | assumption | omega | exact fun _ _ _ => rfl | exact fun z => z | (intros; omega) | (trace_state; fail))
theorem x_sorts {l : Launch} {ν : am_N} {Q : Option am_V → am_N → Prop} (hn0 : 0 ≤ ν 83 14) (hn1 : ν 83 14 ≤ 4) (ht : ∀ j : Nat, (j : Int) < ν 83 14 → -2147483648 ≤ ν 99 j ∧ ν 99 j ≤ 2147483647) (k : ∀ μ' : am_N, (∀ a b, a ≠ 100 → μ' a b = ν a b) → am_isord μ' 100 (ν 99) (ν 83 14) → (sx_3 ν 100 → sx_3 μ' 100) → Q none μ') : am_Does l 165 [.inr (.inr 83)] ν Q := by
  refine am_Does_of (Nat.le_of_ble_eq_true rfl) (Nat.le_of_ble_eq_true rfl) (Nat.le_of_ble_eq_true rfl) ?_
  have lp12 : ∀ (m : Nat) (r k : Int) (μ : am_N) , (∀ a b, a ≠ 100 → μ a b = ν a b) → 0 ≤ r → r < ν 83 14 → 0 ≤ k → k ≤ r → am_gap μ 100 (ν 99) r.toNat k → (∀ (k : Int) (μ : am_N), (∀ a b, a ≠ 100 → μ a b = ν a b) → (∀ i : Nat, i < (r + 1).toNat → μ 100 (am_cnt (ν 99) i (r + 1).toNat).toNat = i) → (sx_3 ν 100 → sx_3 μ 100) → am_AW l 0 (fun _ => 0) 165 Q 2 [some (.inr (.inr 83)), some (.inl (r + 1)), some (.inl k)] [] μ) → (sx_3 ν 100 → sx_3 μ 100) → k < (m : Int) → am_AW l 0 (fun _ => 0) 165 Q 12 [some (.inr (.inr 83)), some (.inl r), some (.inl k)] [] μ := by
    intro m
    induction m with
    | zero =>
      intro r k μ hv0 hv1 hv2 hv3 hv4 hv5 hv6 hv7 hm
      exfalso
      omega
    | succ m ih =>
      intro r k μ hv0 hv1 hv2 hv3 hv4 hv5 hv6 hv7 hm
      have en : μ 83 14 = ν 83 14 := hv0 83 14 (by decide)
      have et : ∀ b, μ 99 b = ν 99 b := fun b => hv0 99 b (by decide)
      have cr : am_c r = r := am_cR (by omega) (by omega)
      have ck : am_c k = k := am_cR (by omega) (by omega)
      have ck1 : 0 < k → am_c (k - 1) = k - 1 := fun _ => am_cR (by omega) (by omega)
      have gb : 0 < k → (0 ≤ μ 100 (k - 1).toNat ∧ μ 100 (k - 1).toNat ≤ 3 ∧ μ 100 (k - 1).toNat < ν 83 14) := fun q => by
        obtain ⟨i, a, _, c⟩ := am_gap_b (by omega) hv5 q (by omega)
        omega
      have cv : 0 < k → am_c (μ 100 (k - 1).toNat) = μ 100 (k - 1).toNat := fun q => by
        have := gb q
        exact am_cR (by omega) (by omega)
      have ct : 0 < k → am_c (ν 99 (μ 100 (k - 1).toNat).toNat) = ν 99 (μ 100 (k - 1).toNat).toNat := fun q => by
        have := gb q
        have := ht (μ 100 (k - 1).toNat).toNat (by omega)
        exact am_cR (by omega) (by omega)
      have tr := ht r.toNat (by omega)
      have ctr : am_c (ν 99 r.toNat) = ν 99 r.toNat := am_cR (by omega) (by omega)
      have er : (r + 1).toNat = r.toNat + 1 := by omega
      refine am_go (ct := fun pc => Nat.beq pc 12 || Nat.beq pc 2) am_oX7_sorts 300 ?_
      conv => whnf
      repeat' first
        | (refine (?_ : am_wp _ _ _ _ _ _ _ _ _ _ _ _); conv => whnf)
        | (refine (?_ : am_sw _ _ _ _); conv => whnf)
        | refine And.intro trivial ?_
        | exact trivial
        | refine hv6 _ _ ?_ ?_ ?_
        | ((with_reducible refine (?_ : am_AW _ _ _ _ _ 12 _ _ _)); refine ih _ _ _ ?_ ?_ ?_ ?_ ?_ ?_ ?_ ?_ ?_)
        | refine And.intro (fun h => absurd h (by decide)) (fun _ => ?_)
        | refine And.intro (fun _ => ?_) (fun h => absurd (by decide) h)
        | refine And.intro (fun _ => ?_) (fun _ => ?_)
        | refine And.intro ?_ ?_
      all_goals (first | decide | assumption | omega | (simp only [en, cr, ck] at *; omega) | (intro a b ha; rw [am_upN ha]; exact hv0 a b ha) | (intro hb; exact sx_3S (hv7 hb) (by omega) (by omega)) | (intro hb; have q : 0 < k := (by clear ck1 gb cv ct; omega); have g := gb q; have e1 := ck1 q; clear ck1 gb cv ct; rw [e1]; exact sx_3S (hv7 hb) g.1 g.2.1) | (have q : 0 < k := (by simp only [ck] at *; omega); have g := gb q; have e1 := ck1 q; have e2 := cv q; have e3 := ct q; clear ck1 gb cv ct; first | (simp only [en, cr, ck, e1, e2, e3, et, ctr] at *; omega) | (refine am_gap1e (by omega) hv5 q (by omega) (by rw [ck]) (by rw [e1]) (by omega) ?_; simp only [en, cr, ck, e1, e2, e3, et, ctr] at *; omega)) | (refine am_gap2e (by omega) hv5 hv3 (by omega) (by rw [ck]) (by omega) er ?_; intro q; have g := gb q; have e1 := ck1 q; have e2 := cv q; have e3 := ct q; clear ck1 gb cv ct; simp only [en, cr, ck, e1, e2, e3, et, ctr] at *; omega) | (trace_state; fail))
  have lp12' : ∀ (r k : Int) (μ : am_N) , (∀ a b, a ≠ 100 → μ a b = ν a b) → 0 ≤ r → r < ν 83 14 → 0 ≤ k → k ≤ r → am_gap μ 100 (ν 99) r.toNat k → (∀ (k : Int) (μ : am_N), (∀ a b, a ≠ 100 → μ a b = ν a b) → (∀ i : Nat, i < (r + 1).toNat → μ 100 (am_cnt (ν 99) i (r + 1).toNat).toNat = i) → (sx_3 ν 100 → sx_3 μ 100) → am_AW l 0 (fun _ => 0) 165 Q 2 [some (.inr (.inr 83)), some (.inl (r + 1)), some (.inl k)] [] μ) → (sx_3 ν 100 → sx_3 μ 100) → am_AW l 0 (fun _ => 0) 165 Q 12 [some (.inr (.inr 83)), some (.inl r), some (.inl k)] [] μ := fun r k μ hv0 hv1 hv2 hv3 hv4 hv5 hv6 hv7 => lp12 ((k) + 1).toNat r k μ hv0 hv1 hv2 hv3 hv4 hv5 hv6 hv7 (by omega)
  have lp2 : ∀ (m : Nat) (r : Int) (o2 : Option am_V) (μ : am_N) , (∀ a b, a ≠ 100 → μ a b = ν a b) → 0 ≤ r → r ≤ ν 83 14 → (∀ i : Nat, i < r.toNat → μ 100 (am_cnt (ν 99) i r.toNat).toNat = i) → (sx_3 ν 100 → sx_3 μ 100) → ν 83 14 - r < (m : Int) → am_AW l 0 (fun _ => 0) 165 Q 2 [some (.inr (.inr 83)), some (.inl r), o2] [] μ := by
    intro m
    induction m with
    | zero =>
      intro r o2 μ hv0 hv1 hv2 hv3 hv4 hm
      exfalso
      omega
    | succ m ih =>
      intro r o2 μ hv0 hv1 hv2 hv3 hv4 hm
      have en : μ 83 14 = ν 83 14 := hv0 83 14 (by decide)
      have ci : am_c r = r := am_cR (by omega) (by omega)
      have cn : am_c (ν 83 14) = ν 83 14 := am_cR (by omega) (by omega)
      refine am_go (ct := fun pc => Nat.beq pc 12 || Nat.beq pc 2) am_oX7_sorts 300 ?_
      conv => whnf
      repeat' first
        | (refine (?_ : am_wp _ _ _ _ _ _ _ _ _ _ _ _); conv => whnf)
        | (refine (?_ : am_sw _ _ _ _); conv => whnf)
        | refine And.intro trivial ?_
        | exact trivial
        | refine k _ ?_ ?_ ?_
        | ((with_reducible refine (?_ : am_AW _ _ _ _ _ 2 _ _ _)); refine ih _ _ _ ?_ ?_ ?_ ?_ ?_ ?_)
        | ((with_reducible refine (?_ : am_AW _ _ _ _ _ 12 _ _ _)); refine lp12' _ _ _ ?_ ?_ ?_ ?_ ?_ ?_ ?_ ?_)
        | refine And.intro (fun h => absurd h (by decide)) (fun _ => ?_)
        | refine And.intro (fun _ => ?_) (fun h => absurd (by decide) h)
        | refine And.intro (fun _ => ?_) (fun _ => ?_)
        | refine And.intro ?_ ?_
      all_goals (first | decide | assumption | rfl | omega | (simp only [en, ci, cn] at *; omega) | (have rn : r = ν 83 14 := (by simp only [en, ci, cn] at *; omega); intro q hq; have z := hv3 q (by omega); rw [rn] at z; exact z) | (have z := am_gap0 (c := 100) (fun i hi => hv3 i hi); rw [show ((r.toNat : Nat) : Int) = r by omega] at z; exact z) | (intros; refine ih _ _ _ ?_ ?_ ?_ ?_ ?_ ?_ <;> first | assumption | omega | (simp only [en, ci, cn] at *; omega)) | (trace_state; fail))
  have lp2' : ∀ (r : Int) (o2 : Option am_V) (μ : am_N) , (∀ a b, a ≠ 100 → μ a b = ν a b) → 0 ≤ r → r ≤ ν 83 14 → (∀ i : Nat, i < r.toNat → μ 100 (am_cnt (ν 99) i r.toNat).toNat = i) → (sx_3 ν 100 → sx_3 μ 100) → am_AW l 0 (fun _ => 0) 165 Q 2 [some (.inr (.inr 83)), some (.inl r), o2] [] μ := fun r o2 μ hv0 hv1 hv2 hv3 hv4 => lp2 ((ν 83 14 - r) + 1).toNat r o2 μ hv0 hv1 hv2 hv3 hv4 (by omega)
  refine am_go (ct := fun pc => Nat.beq pc 12 || Nat.beq pc 2) am_oX7_sorts 300 ?_
  conv => whnf
  repeat' first
    | (refine (?_ : am_wp _ _ _ _ _ _ _ _ _ _ _ _); conv => whnf)
    | (refine (?_ : am_sw _ _ _ _); conv => whnf)
    | refine And.intro trivial ?_
    | exact trivial
    | ((with_reducible refine (?_ : am_AW _ _ _ _ _ 2 _ _ _)); refine lp2' _ _ _ ?_ ?_ ?_ ?_ ?_)
    | ((with_reducible refine (?_ : am_AW _ _ _ _ _ 12 _ _ _)); refine lp12' _ _ _ ?_ ?_ ?_ ?_ ?_ ?_ ?_ ?_)
    | refine And.intro (fun h => absurd h (by decide)) (fun _ => ?_)
    | refine And.intro (fun _ => ?_) (fun h => absurd (by decide) h)
    | refine And.intro (fun _ => ?_) (fun _ => ?_)
    | refine And.intro ?_ ?_
  all_goals (first | decide | assumption | omega | exact fun _ _ _ => rfl | exact fun z => z | (intros; omega) | (trace_state; fail))
/-! TIMES of a field -/
def am_TC (μ : am_N) (c i : Nat) : Int := am_T (μ (c + 3) i) (μ (c + 2) i) (μ (c + 1) i) (μ c 1) (am_y (μ c 0 - μ (c + 5) i)) (μ (c + 5) i)
def am_TM (μ : am_N) (i : Nat) : Int := am_T (μ 87 i) (μ 86 i) (μ 85 i) (μ 83 11) (am_y (μ 83 10 - μ 89 i)) (μ 89 i)
/-- a field's numbers are what they may be: class field at c -/
def am_fC (μ : am_N) (c : Nat) : Prop := (0 ≤ μ c 4 ∧ μ c 4 ≤ 4) ∧ (0 ≤ μ c 0 ∧ μ c 0 ≤ 500) ∧ ∀ i : Nat, (i : Int) < μ c 4 → am_rg (μ (c + 3) i) (μ (c + 2) i) (μ (c + 1) i) (μ c 1) ∧ (0 ≤ μ (c + 5) i ∧ μ (c + 5) i ≤ 99)
def am_fM (μ : am_N) : Prop := (0 ≤ μ 83 14 ∧ μ 83 14 ≤ 4) ∧ (0 ≤ μ 83 10 ∧ μ 83 10 ≤ 500) ∧ ∀ i : Nat, (i : Int) < μ 83 14 → am_rg (μ 87 i) (μ 86 i) (μ 85 i) (μ 83 11) ∧ (0 ≤ μ 89 i ∧ μ 89 i ≤ 99)
theorem am_T_b {p f k w y s : Int} (h : am_rg p f k w) (y0 : 1 ≤ y) (y1 : y ≤ 1000) : 1 ≤ am_T p f k w y s ∧ am_T p f k w y s ≤ 60000 := by
  obtain ⟨⟨p0, p1⟩, ⟨f0, f1⟩, ⟨k0, k1⟩, ⟨w0, w1⟩⟩ := h
  have m1 := am_mulb (a := p) (b := y) (A := 40) (B := 1000) (by omega) (by omega) (by omega) (by omega)
  have m2 := am_mulb (a := w) (b := f) (A := 2000) (B := 9) (by omega) (by omega) (by omega) (by omega)
  have m3 := fun q : 50 < y => am_mulb (a := f) (b := y - 50) (A := 9) (B := 950) (by omega) (by omega) (by omega) (by omega)
  have d1 := am_tdb (a := p * y) (n := 10) (by omega) (by omega)
  have d2 := am_tdb (a := w * f) (n := 10) (by omega) (by omega)
  have d3 := fun q : 50 < y => am_tdb (a := f * (y - 50)) (n := 20) (m3 q).1 (by omega)
  have t0 : 1 ≤ am_t0 p y ∧ am_t0 p y ≤ 40000 := by unfold am_t0; split <;> omega
  have t1 : 0 ≤ am_tt f y ∧ am_tt f y ≤ 8550 := by
    unfold am_tt
    split
    · next q => have h1 := d3 q; have h2 := m3 q; omega
    · omega
  have t2 : 0 ≤ am_ts f w ∧ am_ts f w ≤ 9 := by unfold am_ts; split <;> omega
  unfold am_T
  repeat' split
  all_goals omega
theorem am_yb {a b : Int} (h0 : 0 ≤ a) (h1 : a ≤ 500) (h2 : 0 ≤ b) (h3 : b ≤ 99) : 1 ≤ am_y (a - b) ∧ am_y (a - b) ≤ 1000 := by
  unfold am_y; split <;> omega
theorem am_TC_b {μ : am_N} {c i : Nat} (h : am_fC μ c) (hi : (i : Int) < μ c 4) : 1 ≤ am_TC μ c i ∧ am_TC μ c i ≤ 60000 := by
  obtain ⟨h1, h2, h3⟩ := h
  obtain ⟨h4, h5⟩ := h3 i hi
  obtain ⟨y0, y1⟩ := am_yb h2.1 h2.2 h5.1 h5.2
  exact am_T_b h4 y0 y1
theorem am_TM_b {μ : am_N} {i : Nat} (h : am_fM μ) (hi : (i : Int) < μ 83 14) : 1 ≤ am_TM μ i ∧ am_TM μ i ≤ 60000 := by
  obtain ⟨h1, h2, h3⟩ := h
  obtain ⟨h4, h5⟩ := h3 i hi
  obtain ⟨y0, y1⟩ := am_yb h2.1 h2.2 h5.1 h5.2
  exact am_T_b h4 y0 y1
theorem am_cnt_t {t u : Nat → Int} {i n : Nat} (hi : i < n) (h : ∀ j : Nat, j < n → t j = u j) : ∀ m : Nat, m ≤ n → am_cnt t i m = am_cnt u i m := by
  intro m
  induction m with
  | zero => intro _; rfl
  | succ m ih =>
    intro hm
    simp only [am_cnt]
    rw [ih (by omega), h i hi, h m (by omega)]
theorem am_isord_t {μ : am_N} {c : Nat} {t u : Nat → Int} {n : Int} (h : ∀ i : Nat, (i : Int) < n → t i = u i) (q : am_isord μ c t n) : am_isord μ c u n := fun i hi => by
  rw [← am_cnt_t (t := t) (n := n.toNat) (by omega) (fun j hj => h j (by omega)) n.toNat (Nat.le_refl _)]
  exact q i hi
theorem x_tenthsOver_1 {l : Launch} {ν : am_N} {Q : Option am_V → am_N → Prop} (i y s : Int) (hi0 : 0 ≤ i) (hi1 : i < ν 1 4) (hn : ν 1 4 ≤ 4) (hr : am_rg (ν 4 i.toNat) (ν 3 i.toNat) (ν 2 i.toNat) (ν 1 1)) (y0 : -1000 ≤ y) (y1 : y ≤ 1000) (s0 : -1000 ≤ s) (s1 : s ≤ 1000) (k : Q (some (.inl (am_T (ν 4 i.toNat) (ν 3 i.toNat) (ν 2 i.toNat) (ν 1 1) (am_y y) s))) ν) : am_Does l 10 [.inr (.inr 1), .inl i, .inl y, .inl s] ν Q := by
  obtain ⟨⟨p0, p1⟩, ⟨f0, f1⟩, ⟨k0, k1⟩, ⟨w0, w1⟩⟩ := hr
  rcases (show ν 2 i.toNat = 0 ∨ ν 2 i.toNat = 1 ∨ ν 2 i.toNat = 2 ∨ ν 2 i.toNat = 3 ∨ ν 2 i.toNat = 4 ∨ ν 2 i.toNat = 5 by omega) with e | e | e | e | e | e
  · rw [e] at k; exact x_tenthsOver_1_0 i y s _ _ _ hi0 hi1 hn rfl rfl e rfl p0 p1 f0 f1 w0 w1 y0 y1 s0 s1 k
  · rw [e] at k; exact x_tenthsOver_1_1 i y s _ _ _ hi0 hi1 hn rfl rfl e rfl p0 p1 f0 f1 w0 w1 y0 y1 s0 s1 k
  · rw [e] at k; exact x_tenthsOver_1_2 i y s _ _ _ hi0 hi1 hn rfl rfl e rfl p0 p1 f0 f1 w0 w1 y0 y1 s0 s1 k
  · rw [e] at k; exact x_tenthsOver_1_3 i y s _ _ _ hi0 hi1 hn rfl rfl e rfl p0 p1 f0 f1 w0 w1 y0 y1 s0 s1 k
  · rw [e] at k; exact x_tenthsOver_1_4 i y s _ _ _ hi0 hi1 hn rfl rfl e rfl p0 p1 f0 f1 w0 w1 y0 y1 s0 s1 k
  · rw [e] at k; exact x_tenthsOver_1_5 i y s _ _ _ hi0 hi1 hn rfl rfl e rfl p0 p1 f0 f1 w0 w1 y0 y1 s0 s1 k
theorem x_tenths_1 {l : Launch} {ν : am_N} {Q : Option am_V → am_N → Prop} (i : Int) (hi0 : 0 ≤ i) (hi1 : i < ν 1 4) (hf : am_fC ν 1) (k : Q (some (.inl (am_TC ν 1 i.toNat))) ν) : am_Does l 8 [.inr (.inr 1), .inl i] ν Q := by
  refine am_Does_of (Nat.le_of_ble_eq_true rfl) (Nat.le_of_ble_eq_true rfl) (Nat.le_of_ble_eq_true rfl) ?_
  have hn := hf.1.2
  have ci : am_c i = i := am_cR (by omega) (by omega)
  have ei : (am_c i).toNat = i.toNat := by rw [ci]
  have cn : am_c (ν 1 4) = ν 1 4 := am_cR (by omega) (by omega)
  have z := hf.2.2 i.toNat (by omega)
  have w := hf.2.1
  have z2 : 0 ≤ ν 6 i.toNat ∧ ν 6 i.toNat ≤ 99 := z.2
  refine am_go (ct := fun _ => false) am_oX0_tenths 300 ?_
  conv => whnf
  repeat' first
    | (refine (?_ : am_wp _ _ _ _ _ _ _ _ _ _ _ _); conv => whnf)
    | (refine (?_ : am_sw _ _ _ _); conv => whnf)
    | refine And.intro trivial ?_
    | exact trivial
    | exact z.1
    | ((with_reducible refine (?_ : am_Does _ 10 _ _ _)); refine x_tenthsOver_1 _ _ _ ?_ ?_ ?_ ?_ ?_ ?_ ?_ ?_ ?_)
    | refine And.intro (fun h => absurd h (by decide)) (fun _ => ?_)
    | refine And.intro (fun _ => ?_) (fun h => absurd (by decide) h)
    | refine And.intro (fun _ => ?_) (fun _ => ?_)
    | refine And.intro ?_ ?_
  all_goals (first | assumption | decide | omega | exact z.1 | (simp only [ei, ci, cn] at *; first | assumption | omega | exact z.1 | exact k) | (unfold am_TC at k; simp only [ei, ci] at *; exact k) | (trace_state; fail))
theorem x_tenthsOver_8 {l : Launch} {ν : am_N} {Q : Option am_V → am_N → Prop} (i y s : Int) (hi0 : 0 ≤ i) (hi1 : i < ν 8 4) (hn : ν 8 4 ≤ 4) (hr : am_rg (ν 11 i.toNat) (ν 10 i.toNat) (ν 9 i.toNat) (ν 8 1)) (y0 : -1000 ≤ y) (y1 : y ≤ 1000) (s0 : -1000 ≤ s) (s1 : s ≤ 1000) (k : Q (some (.inl (am_T (ν 11 i.toNat) (ν 10 i.toNat) (ν 9 i.toNat) (ν 8 1) (am_y y) s))) ν) : am_Does l 10 [.inr (.inr 8), .inl i, .inl y, .inl s] ν Q := by
  obtain ⟨⟨p0, p1⟩, ⟨f0, f1⟩, ⟨k0, k1⟩, ⟨w0, w1⟩⟩ := hr
  rcases (show ν 9 i.toNat = 0 ∨ ν 9 i.toNat = 1 ∨ ν 9 i.toNat = 2 ∨ ν 9 i.toNat = 3 ∨ ν 9 i.toNat = 4 ∨ ν 9 i.toNat = 5 by omega) with e | e | e | e | e | e
  · rw [e] at k; exact x_tenthsOver_8_0 i y s _ _ _ hi0 hi1 hn rfl rfl e rfl p0 p1 f0 f1 w0 w1 y0 y1 s0 s1 k
  · rw [e] at k; exact x_tenthsOver_8_1 i y s _ _ _ hi0 hi1 hn rfl rfl e rfl p0 p1 f0 f1 w0 w1 y0 y1 s0 s1 k
  · rw [e] at k; exact x_tenthsOver_8_2 i y s _ _ _ hi0 hi1 hn rfl rfl e rfl p0 p1 f0 f1 w0 w1 y0 y1 s0 s1 k
  · rw [e] at k; exact x_tenthsOver_8_3 i y s _ _ _ hi0 hi1 hn rfl rfl e rfl p0 p1 f0 f1 w0 w1 y0 y1 s0 s1 k
  · rw [e] at k; exact x_tenthsOver_8_4 i y s _ _ _ hi0 hi1 hn rfl rfl e rfl p0 p1 f0 f1 w0 w1 y0 y1 s0 s1 k
  · rw [e] at k; exact x_tenthsOver_8_5 i y s _ _ _ hi0 hi1 hn rfl rfl e rfl p0 p1 f0 f1 w0 w1 y0 y1 s0 s1 k
theorem x_tenths_8 {l : Launch} {ν : am_N} {Q : Option am_V → am_N → Prop} (i : Int) (hi0 : 0 ≤ i) (hi1 : i < ν 8 4) (hf : am_fC ν 8) (k : Q (some (.inl (am_TC ν 8 i.toNat))) ν) : am_Does l 8 [.inr (.inr 8), .inl i] ν Q := by
  refine am_Does_of (Nat.le_of_ble_eq_true rfl) (Nat.le_of_ble_eq_true rfl) (Nat.le_of_ble_eq_true rfl) ?_
  have hn := hf.1.2
  have ci : am_c i = i := am_cR (by omega) (by omega)
  have ei : (am_c i).toNat = i.toNat := by rw [ci]
  have cn : am_c (ν 8 4) = ν 8 4 := am_cR (by omega) (by omega)
  have z := hf.2.2 i.toNat (by omega)
  have w := hf.2.1
  have z2 : 0 ≤ ν 13 i.toNat ∧ ν 13 i.toNat ≤ 99 := z.2
  refine am_go (ct := fun _ => false) am_oX0_tenths 300 ?_
  conv => whnf
  repeat' first
    | (refine (?_ : am_wp _ _ _ _ _ _ _ _ _ _ _ _); conv => whnf)
    | (refine (?_ : am_sw _ _ _ _); conv => whnf)
    | refine And.intro trivial ?_
    | exact trivial
    | exact z.1
    | ((with_reducible refine (?_ : am_Does _ 10 _ _ _)); refine x_tenthsOver_8 _ _ _ ?_ ?_ ?_ ?_ ?_ ?_ ?_ ?_ ?_)
    | refine And.intro (fun h => absurd h (by decide)) (fun _ => ?_)
    | refine And.intro (fun _ => ?_) (fun h => absurd (by decide) h)
    | refine And.intro (fun _ => ?_) (fun _ => ?_)
    | refine And.intro ?_ ?_
  all_goals (first | assumption | decide | omega | exact z.1 | (simp only [ei, ci, cn] at *; first | assumption | omega | exact z.1 | exact k) | (unfold am_TC at k; simp only [ei, ci] at *; exact k) | (trace_state; fail))
theorem am_fC_29_1 {μ ν : am_N} (h : ∀ a b, a ≠ 33 → a ≠ 34 → ¬(a = 29 ∧ b = 0) → μ a b = ν a b) : (am_fC ν 1 → am_fC μ 1) ∧ ∀ i, am_TC μ 1 i = am_TC ν 1 i := by
  have e : ∀ a b, a < 29 → μ a b = ν a b := fun a b q => h a b (by omega) (by omega) (by omega)
  constructor
  · intro q
    unfold am_fC at q ⊢
    rw [e 1 4 (by omega), e 1 0 (by omega), e 1 1 (by omega)]
    refine ⟨q.1, q.2.1, fun i hi => ?_⟩
    rw [e (1 + 3) i (by omega), e (1 + 2) i (by omega), e (1 + 1) i (by omega), e (1 + 5) i (by omega)]
    exact q.2.2 i hi
  · intro i
    unfold am_TC
    rw [e 1 0 (by omega), e 1 1 (by omega), e (1 + 3) i (by omega), e (1 + 2) i (by omega), e (1 + 1) i (by omega), e (1 + 5) i (by omega)]
theorem x_asRule_29_1 {l : Launch} {ν : am_N} {Q : Option am_V → am_N → Prop} (hf : am_fC ν 1) (k : ∀ μ' : am_N, (∀ a b, a ≠ 33 → a ≠ 34 → ¬(a = 29 ∧ b = 0) → μ' a b = ν a b) → μ' 29 0 = ν 1 4 → am_isord μ' 34 (am_TC ν 1) (ν 1 4) → (∀ i : Nat, (i : Int) < ν 1 4 → μ' 33 i = am_TC ν 1 i) → (sx_3 ν 34 → sx_3 μ' 34) → Q none μ') : am_Does l 33 [.inr (.inr 29), .inr (.inr 1)] ν Q := by
  refine am_Does_of (Nat.le_of_ble_eq_true rfl) (Nat.le_of_ble_eq_true rfl) (Nat.le_of_ble_eq_true rfl) ?_
  have hn := hf.1
  have hq := @am_TC_b ν 1
  have lp10 : ∀ (m : Nat) (i : Int) (μ : am_N) , (∀ a b, a ≠ 33 → a ≠ 34 → ¬(a = 29 ∧ b = 0) → μ a b = ν a b) → μ 29 0 = ν 1 4 → 0 ≤ i → i ≤ ν 1 4 → (∀ q : Nat, (q : Int) < i → μ 33 q = am_TC ν 1 q) → (sx_3 ν 34 → sx_3 μ 34) → ν 1 4 - i < (m : Int) → am_AW l 0 (fun _ => 0) 33 Q 10 [some (.inr (.inr 29)), some (.inr (.inr 1)), some (.inl i)] [] μ := by
    intro m
    induction m with
    | zero =>
      intro i μ hv0 hv1 hv2 hv3 hv4 hv5 hm
      exfalso
      omega
    | succ m ih =>
      intro i μ hv0 hv1 hv2 hv3 hv4 hv5 hm
      have ci : am_c i = i := am_cR (by omega) (by omega)
      have cn : am_c (ν 1 4) = ν 1 4 := am_cR (by omega) (by omega)
      obtain ⟨g1, g2⟩ := am_fC_29_1 hv0
      have g3 := g1 hf
      have e4 : μ 1 4 = ν 1 4 := hv0 1 4 (by decide) (by decide) (by decide)
      refine am_go (ct := fun pc => Nat.beq pc 10) am_oX2_asRule 300 ?_
      conv => whnf
      repeat' first
        | (refine (?_ : am_wp _ _ _ _ _ _ _ _ _ _ _ _); conv => whnf)
        | (refine (?_ : am_sw _ _ _ _); conv => whnf)
        | refine And.intro trivial ?_
        | exact trivial
        | exact g3
        | ((with_reducible refine (?_ : am_Does _ 8 _ _ _)); refine x_tenths_1 _ ?_ ?_ ?_ ?_)
        | ((with_reducible refine (?_ : am_Does _ 36 _ _ _)); refine x_line ?_ ?_ ?_ (fun μ2 y1 y2 y3 => ?_))
        | refine k _ ?_ ?_ ?_ ?_ ?_
        | ((with_reducible refine (?_ : am_AW _ _ _ _ _ 10 _ _ _)); refine ih _ _ ?_ ?_ ?_ ?_ ?_ ?_ ?_)
        | refine And.intro (fun h => absurd h (by decide)) (fun _ => ?_)
        | refine And.intro (fun _ => ?_) (fun h => absurd (by decide) h)
        | refine And.intro (fun _ => ?_) (fun _ => ?_)
        | refine And.intro ?_ ?_
      all_goals (first | decide | assumption | omega | rfl | exact fun z => y3 (sx_3N (hv5 z) (by decide)) | exact fun z => y3 (hv5 z) | exact fun z => sx_3N (hv5 z) (by decide) | (simp only [hv1, ci, cn, e4] at *; omega) | (intro a b h1 h2 h3; rw [am_upN h1]; exact hv0 a b h1 h2 h3) | (rw [am_upN (by decide)]; assumption) | (intro q hq; by_cases d : (q : Int) = i; (rw [am_upS, if_pos ⟨rfl, by rw [ci]; omega⟩, g2, show i.toNat = q by omega]); (rw [am_upM (by rw [ci]; omega)]; exact hv4 q (by omega))) | (have ie : i = ν 1 4 := (by simp only [hv1, ci, cn, e4] at *; omega); first | (intro j hj; rw [hv1] at hj; rw [hv4 j (by omega)]; have zz := @hq j hf (by omega); omega) | (intro a b h1 h2 h3; rw [y1 a b h2]; exact hv0 a b h1 h2 h3) | (rw [y1 _ _ (by decide)]; exact hv1) | (rw [hv1] at y2; exact am_isord_t (fun j hj => hv4 j (by omega)) y2) | (intro j hj; rw [y1 _ _ (by decide)]; exact hv4 j (by omega))) | (trace_state; fail))
  have lp10' : ∀ (i : Int) (μ : am_N) , (∀ a b, a ≠ 33 → a ≠ 34 → ¬(a = 29 ∧ b = 0) → μ a b = ν a b) → μ 29 0 = ν 1 4 → 0 ≤ i → i ≤ ν 1 4 → (∀ q : Nat, (q : Int) < i → μ 33 q = am_TC ν 1 q) → (sx_3 ν 34 → sx_3 μ 34) → am_AW l 0 (fun _ => 0) 33 Q 10 [some (.inr (.inr 29)), some (.inr (.inr 1)), some (.inl i)] [] μ := fun i μ hv0 hv1 hv2 hv3 hv4 hv5 => lp10 ((ν 1 4 - i) + 1).toNat i μ hv0 hv1 hv2 hv3 hv4 hv5 (by omega)
  refine am_go (ct := fun pc => Nat.beq pc 10) am_oX2_asRule 300 ?_
  conv => whnf
  repeat' first
    | (refine (?_ : am_wp _ _ _ _ _ _ _ _ _ _ _ _); conv => whnf)
    | (refine (?_ : am_sw _ _ _ _); conv => whnf)
    | refine And.intro trivial ?_
    | exact trivial
    | ((with_reducible refine (?_ : am_AW _ _ _ _ _ 10 _ _ _)); refine lp10' _ _ ?_ ?_ ?_ ?_ ?_ ?_)
    | refine And.intro (fun h => absurd h (by decide)) (fun _ => ?_)
    | refine And.intro (fun _ => ?_) (fun h => absurd (by decide) h)
    | refine And.intro (fun _ => ?_) (fun _ => ?_)
    | refine And.intro ?_ ?_
  all_goals (first | decide | assumption | omega | rfl | exact fun z => sx_3N z (by decide) | (intro a b h1 h2 h3; rw [am_upS, if_neg h3]) | (intros; omega) | (trace_state; fail))
theorem am_fC_38_8 {μ ν : am_N} (h : ∀ a b, a ≠ 42 → a ≠ 43 → ¬(a = 38 ∧ b = 0) → μ a b = ν a b) : (am_fC ν 8 → am_fC μ 8) ∧ ∀ i, am_TC μ 8 i = am_TC ν 8 i := by
  have e : ∀ a b, a < 29 → μ a b = ν a b := fun a b q => h a b (by omega) (by omega) (by omega)
  constructor
  · intro q
    unfold am_fC at q ⊢
    rw [e 8 4 (by omega), e 8 0 (by omega), e 8 1 (by omega)]
    refine ⟨q.1, q.2.1, fun i hi => ?_⟩
    rw [e (8 + 3) i (by omega), e (8 + 2) i (by omega), e (8 + 1) i (by omega), e (8 + 5) i (by omega)]
    exact q.2.2 i hi
  · intro i
    unfold am_TC
    rw [e 8 0 (by omega), e 8 1 (by omega), e (8 + 3) i (by omega), e (8 + 2) i (by omega), e (8 + 1) i (by omega), e (8 + 5) i (by omega)]
theorem x_asRule_38_8 {l : Launch} {ν : am_N} {Q : Option am_V → am_N → Prop} (hf : am_fC ν 8) (k : ∀ μ' : am_N, (∀ a b, a ≠ 42 → a ≠ 43 → ¬(a = 38 ∧ b = 0) → μ' a b = ν a b) → μ' 38 0 = ν 8 4 → am_isord μ' 43 (am_TC ν 8) (ν 8 4) → (∀ i : Nat, (i : Int) < ν 8 4 → μ' 42 i = am_TC ν 8 i) → (sx_3 ν 43 → sx_3 μ' 43) → Q none μ') : am_Does l 33 [.inr (.inr 38), .inr (.inr 8)] ν Q := by
  refine am_Does_of (Nat.le_of_ble_eq_true rfl) (Nat.le_of_ble_eq_true rfl) (Nat.le_of_ble_eq_true rfl) ?_
  have hn := hf.1
  have hq := @am_TC_b ν 8
  have lp10 : ∀ (m : Nat) (i : Int) (μ : am_N) , (∀ a b, a ≠ 42 → a ≠ 43 → ¬(a = 38 ∧ b = 0) → μ a b = ν a b) → μ 38 0 = ν 8 4 → 0 ≤ i → i ≤ ν 8 4 → (∀ q : Nat, (q : Int) < i → μ 42 q = am_TC ν 8 q) → (sx_3 ν 43 → sx_3 μ 43) → ν 8 4 - i < (m : Int) → am_AW l 0 (fun _ => 0) 33 Q 10 [some (.inr (.inr 38)), some (.inr (.inr 8)), some (.inl i)] [] μ := by
    intro m
    induction m with
    | zero =>
      intro i μ hv0 hv1 hv2 hv3 hv4 hv5 hm
      exfalso
      omega
    | succ m ih =>
      intro i μ hv0 hv1 hv2 hv3 hv4 hv5 hm
      have ci : am_c i = i := am_cR (by omega) (by omega)
      have cn : am_c (ν 8 4) = ν 8 4 := am_cR (by omega) (by omega)
      obtain ⟨g1, g2⟩ := am_fC_38_8 hv0
      have g3 := g1 hf
      have e4 : μ 8 4 = ν 8 4 := hv0 8 4 (by decide) (by decide) (by decide)
      refine am_go (ct := fun pc => Nat.beq pc 10) am_oX2_asRule 300 ?_
      conv => whnf
      repeat' first
        | (refine (?_ : am_wp _ _ _ _ _ _ _ _ _ _ _ _); conv => whnf)
        | (refine (?_ : am_sw _ _ _ _); conv => whnf)
        | refine And.intro trivial ?_
        | exact trivial
        | exact g3
        | ((with_reducible refine (?_ : am_Does _ 8 _ _ _)); refine x_tenths_8 _ ?_ ?_ ?_ ?_)
        | ((with_reducible refine (?_ : am_Does _ 36 _ _ _)); refine x_line_38 ?_ ?_ ?_ (fun μ2 y1 y2 y3 => ?_))
        | refine k _ ?_ ?_ ?_ ?_ ?_
        | ((with_reducible refine (?_ : am_AW _ _ _ _ _ 10 _ _ _)); refine ih _ _ ?_ ?_ ?_ ?_ ?_ ?_ ?_)
        | refine And.intro (fun h => absurd h (by decide)) (fun _ => ?_)
        | refine And.intro (fun _ => ?_) (fun h => absurd (by decide) h)
        | refine And.intro (fun _ => ?_) (fun _ => ?_)
        | refine And.intro ?_ ?_
      all_goals (first | decide | assumption | omega | rfl | exact fun z => y3 (sx_3N (hv5 z) (by decide)) | exact fun z => y3 (hv5 z) | exact fun z => sx_3N (hv5 z) (by decide) | (simp only [hv1, ci, cn, e4] at *; omega) | (intro a b h1 h2 h3; rw [am_upN h1]; exact hv0 a b h1 h2 h3) | (rw [am_upN (by decide)]; assumption) | (intro q hq; by_cases d : (q : Int) = i; (rw [am_upS, if_pos ⟨rfl, by rw [ci]; omega⟩, g2, show i.toNat = q by omega]); (rw [am_upM (by rw [ci]; omega)]; exact hv4 q (by omega))) | (have ie : i = ν 8 4 := (by simp only [hv1, ci, cn, e4] at *; omega); first | (intro j hj; rw [hv1] at hj; rw [hv4 j (by omega)]; have zz := @hq j hf (by omega); omega) | (intro a b h1 h2 h3; rw [y1 a b h2]; exact hv0 a b h1 h2 h3) | (rw [y1 _ _ (by decide)]; exact hv1) | (rw [hv1] at y2; exact am_isord_t (fun j hj => hv4 j (by omega)) y2) | (intro j hj; rw [y1 _ _ (by decide)]; exact hv4 j (by omega))) | (trace_state; fail))
  have lp10' : ∀ (i : Int) (μ : am_N) , (∀ a b, a ≠ 42 → a ≠ 43 → ¬(a = 38 ∧ b = 0) → μ a b = ν a b) → μ 38 0 = ν 8 4 → 0 ≤ i → i ≤ ν 8 4 → (∀ q : Nat, (q : Int) < i → μ 42 q = am_TC ν 8 q) → (sx_3 ν 43 → sx_3 μ 43) → am_AW l 0 (fun _ => 0) 33 Q 10 [some (.inr (.inr 38)), some (.inr (.inr 8)), some (.inl i)] [] μ := fun i μ hv0 hv1 hv2 hv3 hv4 hv5 => lp10 ((ν 8 4 - i) + 1).toNat i μ hv0 hv1 hv2 hv3 hv4 hv5 (by omega)
  refine am_go (ct := fun pc => Nat.beq pc 10) am_oX2_asRule 300 ?_
  conv => whnf
  repeat' first
    | (refine (?_ : am_wp _ _ _ _ _ _ _ _ _ _ _ _); conv => whnf)
    | (refine (?_ : am_sw _ _ _ _); conv => whnf)
    | refine And.intro trivial ?_
    | exact trivial
    | ((with_reducible refine (?_ : am_AW _ _ _ _ _ 10 _ _ _)); refine lp10' _ _ ?_ ?_ ?_ ?_ ?_ ?_)
    | refine And.intro (fun h => absurd h (by decide)) (fun _ => ?_)
    | refine And.intro (fun _ => ?_) (fun h => absurd (by decide) h)
    | refine And.intro (fun _ => ?_) (fun _ => ?_)
    | refine And.intro ?_ ?_
  all_goals (first | decide | assumption | omega | rfl | exact fun z => sx_3N z (by decide) | (intro a b h1 h2 h3; rw [am_upS, if_neg h3]) | (intros; omega) | (trace_state; fail))
theorem x_timeOver {l : Launch} {ν : am_N} {Q : Option am_V → am_N → Prop} (i y s : Int) (hi0 : 0 ≤ i) (hi1 : i < ν 83 14) (hn : ν 83 14 ≤ 4) (hr : am_rg (ν 87 i.toNat) (ν 86 i.toNat) (ν 85 i.toNat) (ν 83 11)) (y0 : -1000 ≤ y) (y1 : y ≤ 1000) (s0 : -1000 ≤ s) (s1 : s ≤ 1000) (k : Q (some (.inl (am_T (ν 87 i.toNat) (ν 86 i.toNat) (ν 85 i.toNat) (ν 83 11) (am_y y) s))) ν) : am_Does l 162 [.inr (.inr 83), .inl i, .inl y, .inl s] ν Q := by
  obtain ⟨⟨p0, p1⟩, ⟨f0, f1⟩, ⟨k0, k1⟩, ⟨w0, w1⟩⟩ := hr
  rcases (show ν 85 i.toNat = 0 ∨ ν 85 i.toNat = 1 ∨ ν 85 i.toNat = 2 ∨ ν 85 i.toNat = 3 ∨ ν 85 i.toNat = 4 ∨ ν 85 i.toNat = 5 by omega) with e | e | e | e | e | e
  · rw [e] at k; exact x_timeOver_0 i y s _ _ _ hi0 hi1 hn rfl rfl e rfl p0 p1 f0 f1 w0 w1 y0 y1 s0 s1 k
  · rw [e] at k; exact x_timeOver_1 i y s _ _ _ hi0 hi1 hn rfl rfl e rfl p0 p1 f0 f1 w0 w1 y0 y1 s0 s1 k
  · rw [e] at k; exact x_timeOver_2 i y s _ _ _ hi0 hi1 hn rfl rfl e rfl p0 p1 f0 f1 w0 w1 y0 y1 s0 s1 k
  · rw [e] at k; exact x_timeOver_3 i y s _ _ _ hi0 hi1 hn rfl rfl e rfl p0 p1 f0 f1 w0 w1 y0 y1 s0 s1 k
  · rw [e] at k; exact x_timeOver_4 i y s _ _ _ hi0 hi1 hn rfl rfl e rfl p0 p1 f0 f1 w0 w1 y0 y1 s0 s1 k
  · rw [e] at k; exact x_timeOver_5 i y s _ _ _ hi0 hi1 hn rfl rfl e rfl p0 p1 f0 f1 w0 w1 y0 y1 s0 s1 k
theorem x_timeBy {l : Launch} {ν : am_N} {Q : Option am_V → am_N → Prop} (i s : Int) (hi0 : 0 ≤ i) (hi1 : i < ν 83 14) (hf : am_fM ν) (s0 : 0 ≤ s) (s1 : s ≤ 99) (k : Q (some (.inl (am_T (ν 87 i.toNat) (ν 86 i.toNat) (ν 85 i.toNat) (ν 83 11) (am_y (ν 83 10 - s)) s))) ν) : am_Does l 163 [.inr (.inr 83), .inl i, .inl s] ν Q := by
  refine am_Does_of (Nat.le_of_ble_eq_true rfl) (Nat.le_of_ble_eq_true rfl) (Nat.le_of_ble_eq_true rfl) ?_
  have hn := hf.1.2
  have z := hf.2.2 i.toNat (by omega)
  have w := hf.2.1
  refine am_go (ct := fun _ => false) am_oX7_timeBy 300 ?_
  conv => whnf
  repeat' first
    | (refine (?_ : am_wp _ _ _ _ _ _ _ _ _ _ _ _); conv => whnf)
    | (refine (?_ : am_sw _ _ _ _); conv => whnf)
    | refine And.intro trivial ?_
    | exact trivial
    | exact z.1
    | ((with_reducible refine (?_ : am_Does _ 162 _ _ _)); refine x_timeOver _ _ _ ?_ ?_ ?_ ?_ ?_ ?_ ?_ ?_ ?_)
    | refine And.intro (fun h => absurd h (by decide)) (fun _ => ?_)
    | refine And.intro (fun _ => ?_) (fun h => absurd (by decide) h)
    | refine And.intro (fun _ => ?_) (fun _ => ?_)
    | refine And.intro ?_ ?_
  all_goals (first | assumption | exact z.1 | omega | (trace_state; fail))
theorem x_timeOf {l : Launch} {ν : am_N} {Q : Option am_V → am_N → Prop} (i : Int) (hi0 : 0 ≤ i) (hi1 : i < ν 83 14) (hf : am_fM ν) (k : Q (some (.inl (am_TM ν i.toNat))) ν) : am_Does l 164 [.inr (.inr 83), .inl i] ν Q := by
  refine am_Does_of (Nat.le_of_ble_eq_true rfl) (Nat.le_of_ble_eq_true rfl) (Nat.le_of_ble_eq_true rfl) ?_
  have hn := hf.1.2
  have ci : am_c i = i := am_cR (by omega) (by omega)
  have ei : (am_c i).toNat = i.toNat := by rw [ci]
  have z := hf.2.2 i.toNat (by omega)
  have z2 := z.2
  unfold am_TM at k
  refine am_go (ct := fun _ => false) am_oX7_timeOf 300 ?_
  conv => whnf
  repeat' first
    | (refine (?_ : am_wp _ _ _ _ _ _ _ _ _ _ _ _); conv => whnf)
    | (refine (?_ : am_sw _ _ _ _); conv => whnf)
    | refine And.intro trivial ?_
    | exact trivial
    | exact hf
    | ((with_reducible refine (?_ : am_Does _ 163 _ _ _)); refine x_timeBy _ _ ?_ ?_ ?_ ?_ ?_ ?_)
    | refine And.intro (fun h => absurd h (by decide)) (fun _ => ?_)
    | refine And.intro (fun _ => ?_) (fun h => absurd (by decide) h)
    | refine And.intro (fun _ => ?_) (fun _ => ?_)
    | refine And.intro ?_ ?_
  all_goals (first | assumption | omega | (simp only [ei, ci] at *; first | assumption | omega | exact k) | (trace_state; fail))
theorem am_fM_e {μ ν : am_N} (h : ∀ a b, a ≠ 99 → a ≠ 100 → μ a b = ν a b) : (am_fM ν → am_fM μ) ∧ ∀ i, am_TM μ i = am_TM ν i := by
  have e : ∀ a b, a < 99 → μ a b = ν a b := fun a b q => h a b (by omega) (by omega)
  constructor
  · intro q
    unfold am_fM at q ⊢
    rw [e 83 14 (by omega), e 83 10 (by omega), e 83 11 (by omega)]
    refine ⟨q.1, q.2.1, fun i hi => ?_⟩
    rw [e 87 i (by omega), e 86 i (by omega), e 85 i (by omega), e 89 i (by omega)]
    exact q.2.2 i hi
  · intro i
    unfold am_TM
    rw [e 83 10 (by omega), e 83 11 (by omega), e 87 i (by omega), e 86 i (by omega), e 85 i (by omega), e 89 i (by omega)]
theorem x_takesTimes {l : Launch} {ν : am_N} {Q : Option am_V → am_N → Prop} (hf : am_fM ν) (k : ∀ μ' : am_N, (∀ a b, a ≠ 99 → a ≠ 100 → μ' a b = ν a b) → am_isord μ' 100 (am_TM ν) (ν 83 14) → (∀ i : Nat, (i : Int) < ν 83 14 → μ' 99 i = am_TM ν i) → (sx_3 ν 100 → sx_3 μ' 100) → Q none μ') : am_Does l 166 [.inr (.inr 83)] ν Q := by
  refine am_Does_of (Nat.le_of_ble_eq_true rfl) (Nat.le_of_ble_eq_true rfl) (Nat.le_of_ble_eq_true rfl) ?_
  have hn := hf.1
  have hq := @am_TM_b ν
  have lp2 : ∀ (m : Nat) (i : Int) (μ : am_N) , (∀ a b, a ≠ 99 → a ≠ 100 → μ a b = ν a b) → 0 ≤ i → i ≤ ν 83 14 → (∀ q : Nat, (q : Int) < i → μ 99 q = am_TM ν q) → (sx_3 ν 100 → sx_3 μ 100) → ν 83 14 - i < (m : Int) → am_AW l 0 (fun _ => 0) 166 Q 2 [some (.inr (.inr 83)), some (.inl i)] [] μ := by
    intro m
    induction m with
    | zero =>
      intro i μ hv0 hv1 hv2 hv3 hv4 hm
      exfalso
      omega
    | succ m ih =>
      intro i μ hv0 hv1 hv2 hv3 hv4 hm
      have ci : am_c i = i := am_cR (by omega) (by omega)
      have cn : am_c (ν 83 14) = ν 83 14 := am_cR (by omega) (by omega)
      obtain ⟨g1, g2⟩ := am_fM_e hv0
      have g3 := g1 hf
      have e4 : μ 83 14 = ν 83 14 := hv0 83 14 (by decide) (by decide)
      refine am_go (ct := fun pc => Nat.beq pc 2) am_oX7_takesTimes 300 ?_
      conv => whnf
      repeat' first
        | (refine (?_ : am_wp _ _ _ _ _ _ _ _ _ _ _ _); conv => whnf)
        | (refine (?_ : am_sw _ _ _ _); conv => whnf)
        | refine And.intro trivial ?_
        | exact trivial
        | exact g3
        | ((with_reducible refine (?_ : am_Does _ 164 _ _ _)); refine x_timeOf _ ?_ ?_ ?_ ?_)
        | ((with_reducible refine (?_ : am_Does _ 165 _ _ _)); refine x_sorts ?_ ?_ ?_ (fun μ2 y1 y2 y3 => ?_))
        | refine k _ ?_ ?_ ?_ ?_
        | ((with_reducible refine (?_ : am_AW _ _ _ _ _ 2 _ _ _)); refine ih _ _ ?_ ?_ ?_ ?_ ?_ ?_)
        | refine And.intro (fun h => absurd h (by decide)) (fun _ => ?_)
        | refine And.intro (fun _ => ?_) (fun h => absurd (by decide) h)
        | refine And.intro (fun _ => ?_) (fun _ => ?_)
        | refine And.intro ?_ ?_
      all_goals (first | decide | assumption | omega | rfl | exact fun z => y3 (hv4 z) | exact fun z => sx_3N (hv4 z) (by decide) | (simp only [ci, cn, e4] at *; omega) | (intro a b h1 h2; rw [am_upN h1]; exact hv0 a b h1 h2) | (intro q hq; by_cases d : (q : Int) = i; (rw [am_upS, if_pos ⟨rfl, by rw [ci]; omega⟩, g2, show i.toNat = q by omega]); (rw [am_upM (by rw [ci]; omega)]; exact hv3 q (by omega))) | (have ie : i = ν 83 14 := (by simp only [ci, cn, e4] at *; omega); first | (intro j hj; rw [e4] at hj; rw [hv3 j (by omega)]; have zz := @hq j hf (by omega); omega) | (intro a b h1 h2; rw [y1 a b h2]; exact hv0 a b h1 h2) | (rw [e4] at y2; exact am_isord_t (fun j hj => hv3 j (by omega)) y2) | (intro j hj; rw [y1 _ _ (by decide)]; exact hv3 j (by omega))) | (trace_state; fail))
  have lp2' : ∀ (i : Int) (μ : am_N) , (∀ a b, a ≠ 99 → a ≠ 100 → μ a b = ν a b) → 0 ≤ i → i ≤ ν 83 14 → (∀ q : Nat, (q : Int) < i → μ 99 q = am_TM ν q) → (sx_3 ν 100 → sx_3 μ 100) → am_AW l 0 (fun _ => 0) 166 Q 2 [some (.inr (.inr 83)), some (.inl i)] [] μ := fun i μ hv0 hv1 hv2 hv3 hv4 => lp2 ((ν 83 14 - i) + 1).toNat i μ hv0 hv1 hv2 hv3 hv4 (by omega)
  refine am_go (ct := fun pc => Nat.beq pc 2) am_oX7_takesTimes 300 ?_
  conv => whnf
  repeat' first
    | (refine (?_ : am_wp _ _ _ _ _ _ _ _ _ _ _ _); conv => whnf)
    | (refine (?_ : am_sw _ _ _ _); conv => whnf)
    | refine And.intro trivial ?_
    | exact trivial
    | ((with_reducible refine (?_ : am_AW _ _ _ _ _ 2 _ _ _)); refine lp2' _ _ ?_ ?_ ?_ ?_ ?_)
    | refine And.intro (fun h => absurd h (by decide)) (fun _ => ?_)
    | refine And.intro (fun _ => ?_) (fun h => absurd (by decide) h)
    | refine And.intro (fun _ => ?_) (fun _ => ?_)
    | refine And.intro ?_ ?_
  all_goals (first | decide | assumption | omega | rfl | exact fun z => z | exact fun _ _ _ _ => rfl | (intros; omega) | (trace_state; fail))
/-! the mending -/
def am_hd (v : Int) : Int := if v < 0 then 0 else if 99 < v then 99 else v
theorem am_hd_b (v : Int) : 0 ≤ am_hd v ∧ am_hd v ≤ 99 := by
  unfold am_hd
  split
  · omega
  · split <;> omega
def am_pt (s : Nat → Int) (j : Nat) (v : Int) : Nat → Int := fun b => if b = j then v else s b
def am_m1 (rule yard f : Int) (s : Nat → Int) : Nat → Int := if rule = 1 ∨ rule = 3 ∨ rule = 4 then am_pt s f.toNat (am_hd (s f.toNat - yard)) else s
def am_m2 (rule yard g : Int) (s : Nat → Int) : Nat → Int := if rule = 2 ∨ rule = 3 then am_pt s g.toNat (am_hd (s g.toNat + yard)) else s
def am_m3 (rule i f : Int) (s : Nat → Int) : Nat → Int := fun b => if rule = 4 ∧ (b : Int) < i ∧ (b : Int) ≠ f then am_hd (s b + 1) else s b
def am_mn (rule yard n f g : Int) (s : Nat → Int) : Nat → Int := am_m3 rule n f (am_m2 rule yard g (am_m1 rule yard f s))
theorem am_pt_up {μ : am_N} {k j : Nat} {v : Int} : am_up μ k j v k = am_pt (μ k) j v := by
  funext b
  simp only [am_up, am_pt, true_and]
theorem am_m1_b {rule yard f : Int} {s : Nat → Int} (h : ∀ b : Nat, b < 4 → 0 ≤ s b ∧ s b ≤ 99) : ∀ b : Nat, b < 4 → 0 ≤ am_m1 rule yard f s b ∧ am_m1 rule yard f s b ≤ 99 := fun b hb => by
  unfold am_m1
  split
  · unfold am_pt
    split
    · exact am_hd_b _
    · exact h b hb
  · exact h b hb
theorem am_m2_b {rule yard g : Int} {s : Nat → Int} (h : ∀ b : Nat, b < 4 → 0 ≤ s b ∧ s b ≤ 99) : ∀ b : Nat, b < 4 → 0 ≤ am_m2 rule yard g s b ∧ am_m2 rule yard g s b ≤ 99 := fun b hb => by
  unfold am_m2
  split
  · unfold am_pt
    split
    · exact am_hd_b _
    · exact h b hb
  · exact h b hb
theorem am_m3_b {rule i f : Int} {s : Nat → Int} (h : ∀ b : Nat, b < 4 → 0 ≤ s b ∧ s b ≤ 99) : ∀ b : Nat, b < 4 → 0 ≤ am_m3 rule i f s b ∧ am_m3 rule i f s b ≤ 99 := fun b hb => by
  unfold am_m3
  split
  · exact am_hd_b _
  · exact h b hb
theorem am_m3_0 {rule f : Int} {s : Nat → Int} : am_m3 rule 0 f s = s := by
  funext b
  simp only [am_m3]
  rw [if_neg (by omega)]
theorem am_m3_n {rule i f : Int} {s : Nat → Int} (h : rule ≠ 4) : am_m3 rule i f s = s := by
  funext b
  simp only [am_m3]
  rw [if_neg (fun z => h z.1)]
/-- one step: the one at i is not the first -/
theorem am_m3_s {rule i f v : Int} {j : Nat} {s : Nat → Int} (h : rule = 4) (h0 : 0 ≤ i) (h1 : i ≠ f) (hj : j = i.toNat) (hv : v = am_hd (am_m3 rule i f s i.toNat + 1)) : am_pt (am_m3 rule i f s) j v = am_m3 rule (i + 1) f s := by
  subst hj; subst hv
  funext b
  simp only [am_pt, am_m3]
  by_cases e : b = i.toNat
  · subst e
    rw [if_pos rfl, if_neg (by omega), if_pos (by omega)]
  · rw [if_neg e]
    by_cases e2 : (b : Int) < i ∧ (b : Int) ≠ f
    · rw [if_pos ⟨h, e2⟩, if_pos (by omega)]
    · rw [if_neg (by omega), if_neg (by omega)]
theorem am_m3_f {rule i f : Int} {s : Nat → Int} (h1 : i = f) : am_m3 rule i f s = am_m3 rule (i + 1) f s := by
  funext b
  simp only [am_m3]
  by_cases e2 : rule = 4 ∧ (b : Int) < i ∧ (b : Int) ≠ f
  · rw [if_pos e2, if_pos (by omega)]
  · rw [if_neg e2, if_neg (by omega)]
theorem am_qu {Q : Option am_V → am_N → Prop} {r : Option am_V} {μ : am_N} {k j i : Nat} {v w : Int} (q : Q r (am_up μ k i w)) (h1 : j = i) (h2 : v = w) : Q r (am_up μ k j v) := by subst h1; subst h2; exact q
theorem x_more_1 {l : Launch} {ν : am_N} {Q : Option am_V → am_N → Prop} (i d : Int) (hi0 : 0 ≤ i) (hi1 : i < ν 1 4) (hn : ν 1 4 ≤ 4) (hs0 : 0 ≤ ν 6 i.toNat) (hs1 : ν 6 i.toNat ≤ 99) (d0 : -1000 ≤ d) (d1 : d ≤ 1000) (k : Q none (am_up ν 6 i.toNat (am_hd (ν 6 i.toNat + d)))) : am_Does l 11 [.inr (.inr 1), .inl i, .inl d] ν Q := by
  refine am_Does_of (Nat.le_of_ble_eq_true rfl) (Nat.le_of_ble_eq_true rfl) (Nat.le_of_ble_eq_true rfl) ?_
  have ci : am_c i = i := am_cR (by omega) (by omega)
  have cn : am_c (ν 1 4) = ν 1 4 := am_cR (by omega) (by omega)
  have c99 : am_c 99 = 99 := rfl
  have ei : (am_c i).toNat = i.toNat := by rw [ci]
  have cv : am_c (ν 6 i.toNat + d) = ν 6 i.toNat + d := am_cR (by omega) (by omega)
  refine am_go (ct := fun _ => false) am_oX0_more 300 ?_
  conv => whnf
  repeat' first
    | (refine (?_ : am_wp _ _ _ _ _ _ _ _ _ _ _ _); conv => whnf)
    | (refine (?_ : am_sw _ _ _ _); conv => whnf)
    | refine And.intro trivial ?_
    | exact trivial
    | refine am_qu k ?_ ?_
    | refine And.intro (fun h => absurd h (by decide)) (fun _ => ?_)
    | refine And.intro (fun _ => ?_) (fun h => absurd (by decide) h)
    | refine And.intro (fun _ => ?_) (fun _ => ?_)
    | refine And.intro ?_ ?_
  all_goals (first | decide | assumption | omega | (simp only [ei, ci, cn] at *; omega) | (unfold am_hd; first | (rw [if_pos (by simp only [ci, cv, c99] at *; omega)]) | (rw [if_neg (by simp only [ci, cv, c99] at *; omega), if_pos (by simp only [ci, cv, c99] at *; omega)]) | (rw [if_neg (by simp only [ci, cv, c99] at *; omega), if_neg (by simp only [ci, cv, c99] at *; omega), ei])) | (simp only [ei] at *; (unfold am_hd; first | (rw [if_pos (by simp only [ci, cv, c99] at *; omega)]) | (rw [if_neg (by simp only [ci, cv, c99] at *; omega), if_pos (by simp only [ci, cv, c99] at *; omega)]) | (rw [if_neg (by simp only [ci, cv, c99] at *; omega), if_neg (by simp only [ci, cv, c99] at *; omega), ei]))) | (trace_state; fail))
theorem x_mend_1 {l : Launch} {ν : am_N} {Q : Option am_V → am_N → Prop} (F G : Int) (hF0 : 0 ≤ F) (hF1 : F < ν 1 4) (hG0 : 0 ≤ G) (hG1 : G < ν 1 4) (hn : ν 1 4 ≤ 4) (hr : 0 ≤ ν 1 2 ∧ ν 1 2 ≤ 4) (hy : 1 ≤ ν 1 3 ∧ ν 1 3 ≤ 9) (hs : ∀ b : Nat, b < 4 → 0 ≤ ν 6 b ∧ ν 6 b ≤ 99) (k : ∀ μ' : am_N, (∀ a b, a ≠ 6 → μ' a b = ν a b) → μ' 6 = am_mn (ν 1 2) (ν 1 3) (ν 1 4) F G (ν 6) → Q none μ') : am_Does l 12 [.inr (.inr 1), .inl F, .inl G] ν Q := by
  refine am_Does_of (Nat.le_of_ble_eq_true rfl) (Nat.le_of_ble_eq_true rfl) (Nat.le_of_ble_eq_true rfl) ?_
  have cF : am_c F = F := am_cR (by omega) (by omega)
  have cr : am_c (ν 1 2) = ν 1 2 := am_cR (by omega) (by omega)
  have c1 : am_c 1 = 1 := rfl
  have c2 : am_c 2 = 2 := rfl
  have c3 : am_c 3 = 3 := rfl
  have c4 : am_c 4 = 4 := rfl
  have cn : am_c (ν 1 4) = ν 1 4 := am_cR (by omega) (by omega)
  have b1 := am_m1_b (rule := ν 1 2) (yard := ν 1 3) (f := F) hs
  have b2 := am_m2_b (rule := ν 1 2) (yard := ν 1 3) (g := G) b1
  have f1 := hs F.toNat (by omega)
  have lp61 : ∀ (m : Nat) (i : Int) (μ : am_N) , (∀ a b, a ≠ 6 → μ a b = ν a b) → 0 ≤ i → i ≤ ν 1 4 → μ 6 = am_m3 (ν 1 2) i F (am_m2 (ν 1 2) (ν 1 3) G (am_m1 (ν 1 2) (ν 1 3) F (ν 6))) → ν 1 4 - i < (m : Int) → am_AW l 0 (fun _ => 0) 12 Q 61 [some (.inr (.inr 1)), some (.inl F), some (.inl G), some (.inl i)] [] μ := by
    intro m
    induction m with
    | zero =>
      intro i μ hv0 hv1 hv2 hv3 hm
      exfalso
      omega
    | succ m ih =>
      intro i μ hv0 hv1 hv2 hv3 hm
      have e2 : μ 1 2 = ν 1 2 := hv0 1 2 (by decide)
      have e3 : μ 1 3 = ν 1 3 := hv0 1 3 (by decide)
      have e4 : μ 1 4 = ν 1 4 := hv0 1 4 (by decide)
      have ci : am_c i = i := am_cR (by omega) (by omega)
      have b3 := am_m3_b (rule := ν 1 2) (i := i) (f := F) b2
      have fi := fun q : i < 4 => b3 i.toNat (by omega)
      refine am_go (ct := fun pc => Nat.beq pc 61 || Nat.beq pc 59 || Nat.beq pc 34) am_oX0_mend 300 ?_
      conv => whnf
      repeat' first
        | (refine (?_ : am_wp _ _ _ _ _ _ _ _ _ _ _ _); conv => whnf)
        | (refine (?_ : am_sw _ _ _ _); conv => whnf)
        | refine And.intro trivial ?_
        | exact trivial
        | ((with_reducible refine (?_ : am_Does _ 11 _ _ _)); first | refine x_more_1 _ _ ?_ ?_ ?_ ?_ ?_ ?_ ?_ ?_ | refine x_more_1 _ _ ?_ ?_ ?_ ?_ ?_ ?_ ?_ ?_)
        | refine k _ ?_ ?_
        | ((with_reducible refine (?_ : am_AW _ _ _ _ _ 61 _ _ _)); refine ih _ _ ?_ ?_ ?_ ?_ ?_)
        | refine And.intro (fun h => absurd h (by decide)) (fun _ => ?_)
        | refine And.intro (fun _ => ?_) (fun h => absurd (by decide) h)
        | refine And.intro (fun _ => ?_) (fun _ => ?_)
        | refine And.intro ?_ ?_
      all_goals (first | decide | assumption | omega | (simp only [e2, e3, e4, hv3, ci, cn, cF, cr, c4] at *; omega) | (rw [hv3]; exact (fi (by simp only [e2, e3, e4, ci, cn, cF, cr, c4] at *; omega)).1) | (rw [hv3]; exact (fi (by simp only [e2, e3, e4, ci, cn, cF, cr, c4] at *; omega)).2) | (intro a b h; rw [am_upN h]; exact hv0 a b h) | (rw [hv3]; unfold am_mn; rw [am_m3_n (by simp only [e2, e3, e4, ci, cn, cF, cr, c4] at *; omega), am_m3_n (by simp only [e2, e3, e4, ci, cn, cF, cr, c4] at *; omega)]) | (rw [hv3]; unfold am_mn; rw [show i = ν 1 4 by simp only [e2, e3, e4, ci, cn, cF, cr, c4] at *; omega]) | (rw [hv3]; exact am_m3_f (by simp only [e2, e3, e4, ci, cn, cF, cr, c4] at *; omega)) | (rw [am_pt_up, hv3]; exact am_m3_s (by simp only [e2, e3, e4, ci, cn, cF, cr, c4] at *; omega) hv1 (by simp only [e2, e3, e4, ci, cn, cF, cr, c4] at *; omega) rfl rfl) | (trace_state; fail))
  have lp61' : ∀ (i : Int) (μ : am_N) , (∀ a b, a ≠ 6 → μ a b = ν a b) → 0 ≤ i → i ≤ ν 1 4 → μ 6 = am_m3 (ν 1 2) i F (am_m2 (ν 1 2) (ν 1 3) G (am_m1 (ν 1 2) (ν 1 3) F (ν 6))) → am_AW l 0 (fun _ => 0) 12 Q 61 [some (.inr (.inr 1)), some (.inl F), some (.inl G), some (.inl i)] [] μ := fun i μ hv0 hv1 hv2 hv3 => lp61 ((ν 1 4 - i) + 1).toNat i μ hv0 hv1 hv2 hv3 (by omega)
  have lp59 : ∀  (μ : am_N), (∀ a b, a ≠ 6 → μ a b = ν a b) → μ 6 = am_m2 (ν 1 2) (ν 1 3) G (am_m1 (ν 1 2) (ν 1 3) F (ν 6)) → am_AW l 0 (fun _ => 0) 12 Q 59 [some (.inr (.inr 1)), some (.inl F), some (.inl G), none] [] μ := by
    intro  μ hv0 hv1
    refine am_go (ct := fun pc => Nat.beq pc 61 || Nat.beq pc 59 || Nat.beq pc 34) am_oX0_mend 300 ?_
    conv => whnf
    repeat' first
      | (refine (?_ : am_wp _ _ _ _ _ _ _ _ _ _ _ _); conv => whnf)
      | (refine (?_ : am_sw _ _ _ _); conv => whnf)
      | refine And.intro trivial ?_
      | exact trivial
      | ((with_reducible refine (?_ : am_Does _ 11 _ _ _)); refine x_more_1 _ _ ?_ ?_ ?_ ?_ ?_ ?_ ?_ ?_)
      | ((with_reducible refine (?_ : am_AW _ _ _ _ _ 61 _ _ _)); refine lp61' _ _ ?_ ?_ ?_ ?_)
      | refine And.intro (fun h => absurd h (by decide)) (fun _ => ?_)
      | refine And.intro (fun _ => ?_) (fun h => absurd (by decide) h)
      | refine And.intro (fun _ => ?_) (fun _ => ?_)
      | refine And.intro ?_ ?_
    all_goals (first | decide | assumption | omega | (rw [hv1, am_m3_0]) | (trace_state; fail))
  have lp34 : ∀  (μ : am_N), (∀ a b, a ≠ 6 → μ a b = ν a b) → μ 6 = am_m1 (ν 1 2) (ν 1 3) F (ν 6) → am_AW l 0 (fun _ => 0) 12 Q 34 [some (.inr (.inr 1)), some (.inl F), some (.inl G), none] [] μ := by
    intro  μ hv0 hv1
    have e2 : μ 1 2 = ν 1 2 := hv0 1 2 (by decide)
    have e3 : μ 1 3 = ν 1 3 := hv0 1 3 (by decide)
    have e4 : μ 1 4 = ν 1 4 := hv0 1 4 (by decide)
    have g1 := b1 G.toNat (by omega)
    refine am_go (ct := fun pc => Nat.beq pc 61 || Nat.beq pc 59 || Nat.beq pc 34) am_oX0_mend 300 ?_
    conv => whnf
    repeat' first
      | (refine (?_ : am_wp _ _ _ _ _ _ _ _ _ _ _ _); conv => whnf)
      | (refine (?_ : am_sw _ _ _ _); conv => whnf)
      | refine And.intro trivial ?_
      | exact trivial
      | ((with_reducible refine (?_ : am_Does _ 11 _ _ _)); first | refine x_more_1 _ _ ?_ ?_ ?_ ?_ ?_ ?_ ?_ ?_ | refine x_more_1 _ _ ?_ ?_ ?_ ?_ ?_ ?_ ?_ ?_)
      | ((with_reducible refine (?_ : am_AW _ _ _ _ _ 59 _ _ _)); refine lp59  _ ?_ ?_)
      | ((with_reducible refine (?_ : am_AW _ _ _ _ _ 61 _ _ _)); refine lp61' _ _ ?_ ?_ ?_ ?_)
      | refine And.intro (fun h => absurd h (by decide)) (fun _ => ?_)
      | refine And.intro (fun _ => ?_) (fun h => absurd (by decide) h)
      | refine And.intro (fun _ => ?_) (fun _ => ?_)
      | refine And.intro ?_ ?_
    all_goals (first | decide | assumption | omega | (simp only [e2, e3, e4, hv1, cr, c2, c3] at *; omega) | (rw [hv1]; first | exact g1.1 | exact g1.2) | (intro a b h; rw [am_upN h]; exact hv0 a b h) | (rw [am_pt_up, hv1]; unfold am_m2; rw [if_pos (by simp only [e2, e3, e4, cr, c2, c3] at *; omega), e3]) | (rw [hv1]; unfold am_m2; rw [if_neg (by simp only [e2, e3, e4, cr, c2, c3] at *; omega)]) | (trace_state; fail))
  refine am_go (ct := fun pc => Nat.beq pc 61 || Nat.beq pc 59 || Nat.beq pc 34) am_oX0_mend 300 ?_
  conv => whnf
  repeat' first
    | (refine (?_ : am_wp _ _ _ _ _ _ _ _ _ _ _ _); conv => whnf)
    | (refine (?_ : am_sw _ _ _ _); conv => whnf)
    | refine And.intro trivial ?_
    | exact trivial
    | ((with_reducible refine (?_ : am_Does _ 11 _ _ _)); refine x_more_1 _ _ ?_ ?_ ?_ ?_ ?_ ?_ ?_ ?_)
    | ((with_reducible refine (?_ : am_AW _ _ _ _ _ 34 _ _ _)); refine lp34  _ ?_ ?_)
    | ((with_reducible refine (?_ : am_AW _ _ _ _ _ 59 _ _ _)); refine lp59  _ ?_ ?_)
    | ((with_reducible refine (?_ : am_AW _ _ _ _ _ 61 _ _ _)); refine lp61' _ _ ?_ ?_ ?_ ?_)
    | refine And.intro (fun h => absurd h (by decide)) (fun _ => ?_)
    | refine And.intro (fun _ => ?_) (fun h => absurd (by decide) h)
    | refine And.intro (fun _ => ?_) (fun _ => ?_)
    | refine And.intro ?_ ?_
  all_goals (first | decide | assumption | omega | exact f1.1 | exact f1.2 | (simp only [cr, c1, c3, c4] at *; omega) | (intro a b h; exact am_upN h) | exact fun _ _ _ => rfl | (rw [am_pt_up]; unfold am_m1; rw [if_pos (by simp only [cr, c1, c3, c4] at *; omega)]; rfl) | (unfold am_m1; rw [if_neg (by simp only [cr, c1, c3, c4] at *; omega)]) | (trace_state; fail))
theorem x_more_8 {l : Launch} {ν : am_N} {Q : Option am_V → am_N → Prop} (i d : Int) (hi0 : 0 ≤ i) (hi1 : i < ν 8 4) (hn : ν 8 4 ≤ 4) (hs0 : 0 ≤ ν 13 i.toNat) (hs1 : ν 13 i.toNat ≤ 99) (d0 : -1000 ≤ d) (d1 : d ≤ 1000) (k : Q none (am_up ν 13 i.toNat (am_hd (ν 13 i.toNat + d)))) : am_Does l 11 [.inr (.inr 8), .inl i, .inl d] ν Q := by
  refine am_Does_of (Nat.le_of_ble_eq_true rfl) (Nat.le_of_ble_eq_true rfl) (Nat.le_of_ble_eq_true rfl) ?_
  have ci : am_c i = i := am_cR (by omega) (by omega)
  have cn : am_c (ν 8 4) = ν 8 4 := am_cR (by omega) (by omega)
  have c99 : am_c 99 = 99 := rfl
  have ei : (am_c i).toNat = i.toNat := by rw [ci]
  have cv : am_c (ν 13 i.toNat + d) = ν 13 i.toNat + d := am_cR (by omega) (by omega)
  refine am_go (ct := fun _ => false) am_oX0_more 300 ?_
  conv => whnf
  repeat' first
    | (refine (?_ : am_wp _ _ _ _ _ _ _ _ _ _ _ _); conv => whnf)
    | (refine (?_ : am_sw _ _ _ _); conv => whnf)
    | refine And.intro trivial ?_
    | exact trivial
    | refine am_qu k ?_ ?_
    | refine And.intro (fun h => absurd h (by decide)) (fun _ => ?_)
    | refine And.intro (fun _ => ?_) (fun h => absurd (by decide) h)
    | refine And.intro (fun _ => ?_) (fun _ => ?_)
    | refine And.intro ?_ ?_
  all_goals (first | decide | assumption | omega | (simp only [ei, ci, cn] at *; omega) | (unfold am_hd; first | (rw [if_pos (by simp only [ci, cv, c99] at *; omega)]) | (rw [if_neg (by simp only [ci, cv, c99] at *; omega), if_pos (by simp only [ci, cv, c99] at *; omega)]) | (rw [if_neg (by simp only [ci, cv, c99] at *; omega), if_neg (by simp only [ci, cv, c99] at *; omega), ei])) | (simp only [ei] at *; (unfold am_hd; first | (rw [if_pos (by simp only [ci, cv, c99] at *; omega)]) | (rw [if_neg (by simp only [ci, cv, c99] at *; omega), if_pos (by simp only [ci, cv, c99] at *; omega)]) | (rw [if_neg (by simp only [ci, cv, c99] at *; omega), if_neg (by simp only [ci, cv, c99] at *; omega), ei]))) | (trace_state; fail))
theorem x_mend_8 {l : Launch} {ν : am_N} {Q : Option am_V → am_N → Prop} (F G : Int) (hF0 : 0 ≤ F) (hF1 : F < ν 8 4) (hG0 : 0 ≤ G) (hG1 : G < ν 8 4) (hn : ν 8 4 ≤ 4) (hr : 0 ≤ ν 8 2 ∧ ν 8 2 ≤ 4) (hy : 1 ≤ ν 8 3 ∧ ν 8 3 ≤ 9) (hs : ∀ b : Nat, b < 4 → 0 ≤ ν 13 b ∧ ν 13 b ≤ 99) (k : ∀ μ' : am_N, (∀ a b, a ≠ 13 → μ' a b = ν a b) → μ' 13 = am_mn (ν 8 2) (ν 8 3) (ν 8 4) F G (ν 13) → Q none μ') : am_Does l 12 [.inr (.inr 8), .inl F, .inl G] ν Q := by
  refine am_Does_of (Nat.le_of_ble_eq_true rfl) (Nat.le_of_ble_eq_true rfl) (Nat.le_of_ble_eq_true rfl) ?_
  have cF : am_c F = F := am_cR (by omega) (by omega)
  have cr : am_c (ν 8 2) = ν 8 2 := am_cR (by omega) (by omega)
  have c1 : am_c 1 = 1 := rfl
  have c2 : am_c 2 = 2 := rfl
  have c3 : am_c 3 = 3 := rfl
  have c4 : am_c 4 = 4 := rfl
  have cn : am_c (ν 8 4) = ν 8 4 := am_cR (by omega) (by omega)
  have b1 := am_m1_b (rule := ν 8 2) (yard := ν 8 3) (f := F) hs
  have b2 := am_m2_b (rule := ν 8 2) (yard := ν 8 3) (g := G) b1
  have f1 := hs F.toNat (by omega)
  have lp61 : ∀ (m : Nat) (i : Int) (μ : am_N) , (∀ a b, a ≠ 13 → μ a b = ν a b) → 0 ≤ i → i ≤ ν 8 4 → μ 13 = am_m3 (ν 8 2) i F (am_m2 (ν 8 2) (ν 8 3) G (am_m1 (ν 8 2) (ν 8 3) F (ν 13))) → ν 8 4 - i < (m : Int) → am_AW l 0 (fun _ => 0) 12 Q 61 [some (.inr (.inr 8)), some (.inl F), some (.inl G), some (.inl i)] [] μ := by
    intro m
    induction m with
    | zero =>
      intro i μ hv0 hv1 hv2 hv3 hm
      exfalso
      omega
    | succ m ih =>
      intro i μ hv0 hv1 hv2 hv3 hm
      have e2 : μ 8 2 = ν 8 2 := hv0 8 2 (by decide)
      have e3 : μ 8 3 = ν 8 3 := hv0 8 3 (by decide)
      have e4 : μ 8 4 = ν 8 4 := hv0 8 4 (by decide)
      have ci : am_c i = i := am_cR (by omega) (by omega)
      have b3 := am_m3_b (rule := ν 8 2) (i := i) (f := F) b2
      have fi := fun q : i < 4 => b3 i.toNat (by omega)
      refine am_go (ct := fun pc => Nat.beq pc 61 || Nat.beq pc 59 || Nat.beq pc 34) am_oX0_mend 300 ?_
      conv => whnf
      repeat' first
        | (refine (?_ : am_wp _ _ _ _ _ _ _ _ _ _ _ _); conv => whnf)
        | (refine (?_ : am_sw _ _ _ _); conv => whnf)
        | refine And.intro trivial ?_
        | exact trivial
        | ((with_reducible refine (?_ : am_Does _ 11 _ _ _)); first | refine x_more_8 _ _ ?_ ?_ ?_ ?_ ?_ ?_ ?_ ?_ | refine x_more_8 _ _ ?_ ?_ ?_ ?_ ?_ ?_ ?_ ?_)
        | refine k _ ?_ ?_
        | ((with_reducible refine (?_ : am_AW _ _ _ _ _ 61 _ _ _)); refine ih _ _ ?_ ?_ ?_ ?_ ?_)
        | refine And.intro (fun h => absurd h (by decide)) (fun _ => ?_)
        | refine And.intro (fun _ => ?_) (fun h => absurd (by decide) h)
        | refine And.intro (fun _ => ?_) (fun _ => ?_)
        | refine And.intro ?_ ?_
      all_goals (first | decide | assumption | omega | (simp only [e2, e3, e4, hv3, ci, cn, cF, cr, c4] at *; omega) | (rw [hv3]; exact (fi (by simp only [e2, e3, e4, ci, cn, cF, cr, c4] at *; omega)).1) | (rw [hv3]; exact (fi (by simp only [e2, e3, e4, ci, cn, cF, cr, c4] at *; omega)).2) | (intro a b h; rw [am_upN h]; exact hv0 a b h) | (rw [hv3]; unfold am_mn; rw [am_m3_n (by simp only [e2, e3, e4, ci, cn, cF, cr, c4] at *; omega), am_m3_n (by simp only [e2, e3, e4, ci, cn, cF, cr, c4] at *; omega)]) | (rw [hv3]; unfold am_mn; rw [show i = ν 8 4 by simp only [e2, e3, e4, ci, cn, cF, cr, c4] at *; omega]) | (rw [hv3]; exact am_m3_f (by simp only [e2, e3, e4, ci, cn, cF, cr, c4] at *; omega)) | (rw [am_pt_up, hv3]; exact am_m3_s (by simp only [e2, e3, e4, ci, cn, cF, cr, c4] at *; omega) hv1 (by simp only [e2, e3, e4, ci, cn, cF, cr, c4] at *; omega) rfl rfl) | (trace_state; fail))
  have lp61' : ∀ (i : Int) (μ : am_N) , (∀ a b, a ≠ 13 → μ a b = ν a b) → 0 ≤ i → i ≤ ν 8 4 → μ 13 = am_m3 (ν 8 2) i F (am_m2 (ν 8 2) (ν 8 3) G (am_m1 (ν 8 2) (ν 8 3) F (ν 13))) → am_AW l 0 (fun _ => 0) 12 Q 61 [some (.inr (.inr 8)), some (.inl F), some (.inl G), some (.inl i)] [] μ := fun i μ hv0 hv1 hv2 hv3 => lp61 ((ν 8 4 - i) + 1).toNat i μ hv0 hv1 hv2 hv3 (by omega)
  have lp59 : ∀  (μ : am_N), (∀ a b, a ≠ 13 → μ a b = ν a b) → μ 13 = am_m2 (ν 8 2) (ν 8 3) G (am_m1 (ν 8 2) (ν 8 3) F (ν 13)) → am_AW l 0 (fun _ => 0) 12 Q 59 [some (.inr (.inr 8)), some (.inl F), some (.inl G), none] [] μ := by
    intro  μ hv0 hv1
    refine am_go (ct := fun pc => Nat.beq pc 61 || Nat.beq pc 59 || Nat.beq pc 34) am_oX0_mend 300 ?_
    conv => whnf
    repeat' first
      | (refine (?_ : am_wp _ _ _ _ _ _ _ _ _ _ _ _); conv => whnf)
      | (refine (?_ : am_sw _ _ _ _); conv => whnf)
      | refine And.intro trivial ?_
      | exact trivial
      | ((with_reducible refine (?_ : am_Does _ 11 _ _ _)); refine x_more_8 _ _ ?_ ?_ ?_ ?_ ?_ ?_ ?_ ?_)
      | ((with_reducible refine (?_ : am_AW _ _ _ _ _ 61 _ _ _)); refine lp61' _ _ ?_ ?_ ?_ ?_)
      | refine And.intro (fun h => absurd h (by decide)) (fun _ => ?_)
      | refine And.intro (fun _ => ?_) (fun h => absurd (by decide) h)
      | refine And.intro (fun _ => ?_) (fun _ => ?_)
      | refine And.intro ?_ ?_
    all_goals (first | decide | assumption | omega | (rw [hv1, am_m3_0]) | (trace_state; fail))
  have lp34 : ∀  (μ : am_N), (∀ a b, a ≠ 13 → μ a b = ν a b) → μ 13 = am_m1 (ν 8 2) (ν 8 3) F (ν 13) → am_AW l 0 (fun _ => 0) 12 Q 34 [some (.inr (.inr 8)), some (.inl F), some (.inl G), none] [] μ := by
    intro  μ hv0 hv1
    have e2 : μ 8 2 = ν 8 2 := hv0 8 2 (by decide)
    have e3 : μ 8 3 = ν 8 3 := hv0 8 3 (by decide)
    have e4 : μ 8 4 = ν 8 4 := hv0 8 4 (by decide)
    have g1 := b1 G.toNat (by omega)
    refine am_go (ct := fun pc => Nat.beq pc 61 || Nat.beq pc 59 || Nat.beq pc 34) am_oX0_mend 300 ?_
    conv => whnf
    repeat' first
      | (refine (?_ : am_wp _ _ _ _ _ _ _ _ _ _ _ _); conv => whnf)
      | (refine (?_ : am_sw _ _ _ _); conv => whnf)
      | refine And.intro trivial ?_
      | exact trivial
      | ((with_reducible refine (?_ : am_Does _ 11 _ _ _)); first | refine x_more_8 _ _ ?_ ?_ ?_ ?_ ?_ ?_ ?_ ?_ | refine x_more_8 _ _ ?_ ?_ ?_ ?_ ?_ ?_ ?_ ?_)
      | ((with_reducible refine (?_ : am_AW _ _ _ _ _ 59 _ _ _)); refine lp59  _ ?_ ?_)
      | ((with_reducible refine (?_ : am_AW _ _ _ _ _ 61 _ _ _)); refine lp61' _ _ ?_ ?_ ?_ ?_)
      | refine And.intro (fun h => absurd h (by decide)) (fun _ => ?_)
      | refine And.intro (fun _ => ?_) (fun h => absurd (by decide) h)
      | refine And.intro (fun _ => ?_) (fun _ => ?_)
      | refine And.intro ?_ ?_
    all_goals (first | decide | assumption | omega | (simp only [e2, e3, e4, hv1, cr, c2, c3] at *; omega) | (rw [hv1]; first | exact g1.1 | exact g1.2) | (intro a b h; rw [am_upN h]; exact hv0 a b h) | (rw [am_pt_up, hv1]; unfold am_m2; rw [if_pos (by simp only [e2, e3, e4, cr, c2, c3] at *; omega), e3]) | (rw [hv1]; unfold am_m2; rw [if_neg (by simp only [e2, e3, e4, cr, c2, c3] at *; omega)]) | (trace_state; fail))
  refine am_go (ct := fun pc => Nat.beq pc 61 || Nat.beq pc 59 || Nat.beq pc 34) am_oX0_mend 300 ?_
  conv => whnf
  repeat' first
    | (refine (?_ : am_wp _ _ _ _ _ _ _ _ _ _ _ _); conv => whnf)
    | (refine (?_ : am_sw _ _ _ _); conv => whnf)
    | refine And.intro trivial ?_
    | exact trivial
    | ((with_reducible refine (?_ : am_Does _ 11 _ _ _)); refine x_more_8 _ _ ?_ ?_ ?_ ?_ ?_ ?_ ?_ ?_)
    | ((with_reducible refine (?_ : am_AW _ _ _ _ _ 34 _ _ _)); refine lp34  _ ?_ ?_)
    | ((with_reducible refine (?_ : am_AW _ _ _ _ _ 59 _ _ _)); refine lp59  _ ?_ ?_)
    | ((with_reducible refine (?_ : am_AW _ _ _ _ _ 61 _ _ _)); refine lp61' _ _ ?_ ?_ ?_ ?_)
    | refine And.intro (fun h => absurd h (by decide)) (fun _ => ?_)
    | refine And.intro (fun _ => ?_) (fun h => absurd (by decide) h)
    | refine And.intro (fun _ => ?_) (fun _ => ?_)
    | refine And.intro ?_ ?_
  all_goals (first | decide | assumption | omega | exact f1.1 | exact f1.2 | (simp only [cr, c1, c3, c4] at *; omega) | (intro a b h; exact am_upN h) | exact fun _ _ _ => rfl | (rw [am_pt_up]; unfold am_m1; rw [if_pos (by simp only [cr, c1, c3, c4] at *; omega)]; rfl) | (unfold am_m1; rw [if_neg (by simp only [cr, c1, c3, c4] at *; omega)]) | (trace_state; fail))
