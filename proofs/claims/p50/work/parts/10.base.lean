/-! what stays, what is within bounds: the system's side -/
theorem am_cR {z : Int} (h1 : -2147483648 ≤ z) (h2 : z < 2147483648) : am_c z = z := by
  unfold am_c; omega
theorem am_cb (z : Int) : -2147483648 ≤ am_c z ∧ am_c z < 2147483648 := by
  unfold am_c; omega
theorem am_upS {μ : am_N} {k j a b : Nat} {v : Int} : am_up μ k j v a b = if a = k ∧ b = j then v else μ a b := rfl
theorem am_upN {μ : am_N} {k j a b : Nat} {v : Int} (h : a ≠ k) : am_up μ k j v a b = μ a b := if_neg (fun z => h z.1)
theorem am_upM {μ : am_N} {k j a b : Nat} {v : Int} (h : b ≠ j) : am_up μ k j v a b = μ a b := if_neg (fun z => h z.2)
/-- cells that a question leaves as they are -/
def sx_p (k : Nat) : Bool := !((Nat.ble 8 k && Nat.ble k 21) || ((Nat.ble 29 k && Nat.ble k 34) || ((Nat.ble 38 k && Nat.ble k 43) || (Nat.ble 78 k && Nat.ble k 82))))
/-- cells of no bounds -/
def sx_q (k j : Nat) : Bool := !(sx_p k) && (!(Nat.beq k 34) && (!(Nat.beq k 43) && (!(Nat.beq k 8 && Nat.beq j 4) && (!(Nat.beq k 15 && Nat.beq j 4) && (!(Nat.beq k 29 && Nat.beq j 0) && !(Nat.beq k 38 && Nat.beq j 0))))))
/-- numbers in bounds -/
def px (ν : am_N) : Prop := (0 ≤ ν 1 4 ∧ ν 1 4 ≤ 4) ∧ (0 ≤ ν 22 4 ∧ ν 22 4 ≤ 4) ∧ (0 ≤ ν 36 1 ∧ ν 36 1 ≤ 96) ∧ (0 ≤ ν 44 1 ∧ ν 44 1 ≤ 12) ∧ (0 ≤ ν 46 1 ∧ ν 46 1 ≤ 6) ∧ (0 ≤ ν 48 1 ∧ ν 48 1 ≤ 6) ∧ (0 ≤ ν 50 1 ∧ ν 50 1 ≤ 6) ∧ (0 ≤ ν 53 1 ∧ ν 53 1 ≤ 4) ∧ (0 ≤ ν 55 1 ∧ ν 55 1 ≤ 4) ∧ (0 ≤ ν 58 1 ∧ ν 58 1 ≤ 4) ∧ (0 ≤ ν 60 1 ∧ ν 60 1 ≤ 4) ∧ (0 ≤ ν 62 3 ∧ ν 62 3 ≤ 6)
def sx_3 (μ : am_N) (c : Nat) : Prop := ∀ p : Nat, p < 4 → 0 ≤ μ c p ∧ μ c p ≤ 3
def sx_4 (μ : am_N) : Prop := (0 ≤ μ 8 4 ∧ μ 8 4 ≤ 4) ∧ (0 ≤ μ 15 4 ∧ μ 15 4 ≤ 4) ∧ (0 ≤ μ 29 0 ∧ μ 29 0 ≤ 4) ∧ (0 ≤ μ 38 0 ∧ μ 38 0 ≤ 4)
def sx (ν μ : am_N) : Prop := (∀ k j, sx_p k = true → μ k j = ν k j) ∧ sx_3 μ 34 ∧ sx_3 μ 43 ∧ sx_4 μ ∧ px ν
theorem sx_fr {ν μ : am_N} {k j : Nat} {v : Int} (h : ∀ k j, sx_p k = true → μ k j = ν k j) (hk : sx_p k = false) : ∀ a b, sx_p a = true → am_up μ k j v a b = ν a b := fun a b ha => by
  rw [am_upN (fun z => by rw [z, hk] at ha; cases ha)]
  exact h a b ha
theorem sx_3N {μ : am_N} {c k j : Nat} {v : Int} (h : sx_3 μ c) (hk : k ≠ c) : sx_3 (am_up μ k j v) c := fun p hp => by
  rw [am_upN (fun z => hk z.symm)]
  exact h p hp
theorem sx_3S {μ : am_N} {c j : Nat} {v : Int} (h : sx_3 μ c) (h0 : 0 ≤ v) (h1 : v ≤ 3) : sx_3 (am_up μ c j v) c := fun p hp => by
  by_cases e : p = j
  · rw [am_upS, if_pos ⟨rfl, e⟩]; exact ⟨h0, h1⟩
  · rw [am_upM e]; exact h p hp
theorem sx_4N {μ : am_N} {k j : Nat} {v : Int} (h : sx_4 μ) (hk : (Nat.beq k 8 && Nat.beq j 4) = false) (hk1 : (Nat.beq k 15 && Nat.beq j 4) = false) (hk2 : (Nat.beq k 29 && Nat.beq j 0) = false) (hk3 : (Nat.beq k 38 && Nat.beq j 0) = false) : sx_4 (am_up μ k j v) := by
  unfold sx_4 at h ⊢
  have e : ∀ a b : Nat, (Nat.beq k a && Nat.beq j b) = false → am_up μ k j v a b = μ a b := fun a b q => by
    rw [am_upS, if_neg (fun z => by rw [z.1, z.2] at q; simp at q)]
  rw [e 8 4 hk, e 15 4 hk1, e 29 0 hk2, e 38 0 hk3]
  exact h
theorem sx_up {ν μ : am_N} {k j : Nat} {v : Int} (h : sx ν μ) (hk : sx_q k j = true) : sx ν (am_up μ k j v) := by
  simp only [sx_q, Bool.and_eq_true, Bool.not_eq_true'] at hk
  obtain ⟨q1, q2, q3, q4, q5, q6, q7⟩ := hk
  exact ⟨sx_fr h.1 q1, sx_3N h.2.1 (fun z => by subst z; cases q2), sx_3N h.2.2.1 (fun z => by subst z; cases q3), sx_4N h.2.2.2.1 q4 q5 q6 q7, h.2.2.2.2⟩
theorem sx_34 {ν μ : am_N} {j : Nat} {v : Int} (h : sx ν μ) (h0 : 0 ≤ v) (h1 : v ≤ 3) : sx ν (am_up μ 34 j v) :=
  ⟨sx_fr h.1 rfl, sx_3S h.2.1 h0 h1, sx_3N h.2.2.1 (by decide), sx_4N h.2.2.2.1 rfl rfl rfl rfl, h.2.2.2.2⟩
theorem sx_43 {ν μ : am_N} {j : Nat} {v : Int} (h : sx ν μ) (h0 : 0 ≤ v) (h1 : v ≤ 3) : sx ν (am_up μ 43 j v) :=
  ⟨sx_fr h.1 rfl, sx_3N h.2.1 (by decide), sx_3S h.2.2.1 h0 h1, sx_4N h.2.2.2.1 rfl rfl rfl rfl, h.2.2.2.2⟩
theorem sx_c8 {ν μ : am_N} {v : Int} (h : sx ν μ) (h0 : 0 ≤ v ∧ v ≤ 4) : sx ν (am_up μ 8 4 v) :=
  ⟨sx_fr h.1 rfl, sx_3N h.2.1 (by decide), sx_3N h.2.2.1 (by decide), ⟨h0, h.2.2.2.1.2.1, h.2.2.2.1.2.2.1, h.2.2.2.1.2.2.2⟩, h.2.2.2.2⟩
theorem sx_c15 {ν μ : am_N} {v : Int} (h : sx ν μ) (h0 : 0 ≤ v ∧ v ≤ 4) : sx ν (am_up μ 15 4 v) :=
  ⟨sx_fr h.1 rfl, sx_3N h.2.1 (by decide), sx_3N h.2.2.1 (by decide), ⟨h.2.2.2.1.1, h0, h.2.2.2.1.2.2.1, h.2.2.2.1.2.2.2⟩, h.2.2.2.2⟩
theorem sx_c29 {ν μ : am_N} {v : Int} (h : sx ν μ) (h0 : 0 ≤ v ∧ v ≤ 4) : sx ν (am_up μ 29 0 v) :=
  ⟨sx_fr h.1 rfl, sx_3N h.2.1 (by decide), sx_3N h.2.2.1 (by decide), ⟨h.2.2.2.1.1, h.2.2.2.1.2.1, h0, h.2.2.2.1.2.2.2⟩, h.2.2.2.2⟩
theorem sx_c38 {ν μ : am_N} {v : Int} (h : sx ν μ) (h0 : 0 ≤ v ∧ v ≤ 4) : sx ν (am_up μ 38 0 v) :=
  ⟨sx_fr h.1 rfl, sx_3N h.2.1 (by decide), sx_3N h.2.2.1 (by decide), ⟨h.2.2.2.1.1, h.2.2.2.1.2.1, h.2.2.2.1.2.2.1, h0⟩, h.2.2.2.2⟩
theorem sx_px {ν μ : am_N} (h : sx ν μ) : px μ := by
  obtain ⟨h, -, -, -, q⟩ := h
  unfold px at q ⊢
  rw [h 1 4 rfl, h 22 4 rfl, h 36 1 rfl, h 44 1 rfl, h 46 1 rfl, h 48 1 rfl, h 50 1 rfl, h 53 1 rfl, h 55 1 rfl, h 58 1 rfl, h 60 1 rfl, h 62 3 rfl]
  exact q
/-- the bounds of a state -/
theorem sx_all {ν μ : am_N} (h : sx ν μ) : (0 ≤ μ 1 4 ∧ μ 1 4 ≤ 4) ∧ (0 ≤ μ 8 4 ∧ μ 8 4 ≤ 4) ∧ (0 ≤ μ 15 4 ∧ μ 15 4 ≤ 4) ∧ (0 ≤ μ 22 4 ∧ μ 22 4 ≤ 4) ∧ (0 ≤ μ 29 0 ∧ μ 29 0 ≤ 4) ∧ (0 ≤ μ 38 0 ∧ μ 38 0 ≤ 4) ∧ (0 ≤ μ 36 1 ∧ μ 36 1 ≤ 96) ∧ (0 ≤ μ 44 1 ∧ μ 44 1 ≤ 12) ∧ (0 ≤ μ 46 1 ∧ μ 46 1 ≤ 6) ∧ (0 ≤ μ 48 1 ∧ μ 48 1 ≤ 6) ∧ (0 ≤ μ 50 1 ∧ μ 50 1 ≤ 6) ∧ (0 ≤ μ 53 1 ∧ μ 53 1 ≤ 4) ∧ (0 ≤ μ 55 1 ∧ μ 55 1 ≤ 4) ∧ (0 ≤ μ 58 1 ∧ μ 58 1 ≤ 4) ∧ (0 ≤ μ 60 1 ∧ μ 60 1 ≤ 4) ∧ (0 ≤ μ 62 3 ∧ μ 62 3 ≤ 6) := by
  obtain ⟨p1, p2, p3, p4, p5, p6, p7, p8, p9, p10, p11, p12⟩ := sx_px h
  obtain ⟨a1, a2, a3, a4⟩ := h.2.2.2.1
  exact ⟨p1, a1, a2, p2, a3, a4, p3, p4, p5, p6, p7, p8, p9, p10, p11, p12⟩
theorem sx_pl {ν μ : am_N} (h : sx ν μ) (p : Nat) (hp : p < 4) : (0 ≤ μ 34 p ∧ μ 34 p ≤ 3) ∧ (0 ≤ μ 43 p ∧ μ 43 p ≤ 3) := ⟨h.2.1 p hp, h.2.2.1 p hp⟩
/-! switches over constants -/
theorem am_jn {A X Y : Prop} (h : ¬A) (y : Y) : (A → X) ∧ (¬A → Y) := ⟨fun a => absurd a h, fun _ => y⟩
theorem am_jy {A X Y : Prop} (h : A) (x : X) : (A → X) ∧ (¬A → Y) := ⟨fun _ => x, fun a => absurd h a⟩
theorem am_kn {A X Y : Prop} (h : ¬A) (x : X) : (¬A → X) ∧ (A → Y) := ⟨fun _ => x, fun a => absurd a h⟩
theorem am_ky {A X Y : Prop} (h : A) (y : Y) : (¬A → X) ∧ (A → Y) := ⟨fun a => absurd h a, fun _ => y⟩
theorem am_q1 : ¬ am_c (-1) = 0 := by decide
theorem am_q2 : ¬ am_c (-2) = 0 := by decide
theorem am_q3 : ¬ am_c (-3) = 0 := by decide
theorem am_q4 : ¬ am_c (-4) = 0 := by decide
theorem am_q6 : ¬ am_c (-6) = 0 := by decide
theorem am_q9 : ¬ am_c (-9) = 0 := by decide
theorem am_p1 : ¬ am_c 1 = 0 := by decide
theorem am_p0 : am_c 0 = 0 := by decide
