/-! the picture of a field -/
def fp_in (a b : Nat) : Bool := (Nat.beq a 0 && Nat.blt b 5) || (Nat.blt 0 a && (Nat.blt a 7 && Nat.blt b 4))
theorem fp_in_0 {b : Nat} (h : b < 5) : fp_in 0 b = true := by
  unfold fp_in
  rw [show Nat.blt b 5 = true from Nat.ble_eq.mpr h]
  rfl
theorem fp_in_a {a b : Nat} (h0 : 0 < a) (h1 : a < 7) (h : b < 4) : fp_in a b = true := by
  unfold fp_in
  rw [show Nat.blt b 4 = true from Nat.ble_eq.mpr h, show Nat.blt 0 a = true from Nat.ble_eq.mpr h0, show Nat.blt a 7 = true from Nat.ble_eq.mpr h1]
  exact Bool.or_true _
theorem fp_in_c {a b : Nat} (h : fp_in a b = true) : (a = 0 ∧ b < 5) ∨ (0 < a ∧ a < 7 ∧ b < 4) := by
  unfold fp_in at h
  rcases Bool.or_eq_true_iff.mp h with q | q
  · obtain ⟨q1, q2⟩ := (Bool.and_eq_true _ _).mp q
    exact Or.inl ⟨Nat.eq_of_beq_eq_true q1, Nat.ble_eq.mp q2⟩
  · obtain ⟨q1, q2⟩ := (Bool.and_eq_true _ _).mp q
    obtain ⟨q3, q4⟩ := (Bool.and_eq_true _ _).mp q2
    exact Or.inr ⟨Nat.ble_eq.mp q1, Nat.ble_eq.mp q3, Nat.ble_eq.mp q4⟩
/-- the part that is the field's -/
def fp_ct (F : am_N) : am_N := fun a b => bif fp_in a b then F a b else 0
theorem fp_ct_i {F : am_N} {a b : Nat} (h : fp_in a b = true) : fp_ct F a b = F a b := by
  unfold fp_ct; rw [h]; rfl
theorem fp_ct_e {F G : am_N} (h0 : ∀ b : Nat, b < 5 → F 0 b = G 0 b) (h1 : ∀ a b : Nat, 0 < a → a < 7 → b < 4 → F a b = G a b) : fp_ct F = fp_ct G := by
  funext a b
  cases h : fp_in a b with
  | false => unfold fp_ct; rw [h]; rfl
  | true =>
    rw [fp_ct_i h, fp_ct_i h]
    rcases fp_in_c h with ⟨rfl, q⟩ | ⟨q1, q2, q3⟩
    · exact h0 b q
    · exact h1 a b q1 q2 q3
theorem fp_ct_n {F G : am_N} (h : fp_ct F = fp_ct G) : (∀ b : Nat, b < 5 → F 0 b = G 0 b) ∧ ∀ a b : Nat, 0 < a → a < 7 → b < 4 → F a b = G a b := by
  refine ⟨fun b hb => ?_, fun a b h0 h1 h2 => ?_⟩
  · have q := congrFun (congrFun h 0) b
    rwa [fp_ct_i (fp_in_0 hb), fp_ct_i (fp_in_0 hb)] at q
  · have q := congrFun (congrFun h a) b
    rwa [fp_ct_i (fp_in_a h0 h1 h2), fp_ct_i (fp_in_a h0 h1 h2)] at q
/-- the class's field at cell c -/
def fv (μ : am_N) (c : Nat) : am_N := fp_ct (fun a b => μ (c + a) b)
def fp_mr (μ : am_N) : am_N := fun a b => match a with
  | 0 => μ 83 (10 + b)
  | a + 1 => μ (85 + a) b
/-- the model's -/
def mv (μ : am_N) : am_N := fp_ct (fp_mr μ)
def fp_kr (μ : am_N) (o : Nat) : am_N := fun a b => match a with
  | 0 => μ 98 (o + 40 + b)
  | a + 1 => μ 98 (o + 4 * a + b)
/-- the model's that is kept from place o on -/
def kv (μ : am_N) (o : Nat) : am_N := fp_ct (fp_kr μ o)
theorem fv_0 {μ : am_N} {c b : Nat} (h : b < 5) : fv μ c 0 b = μ c b := fp_ct_i (fp_in_0 h)
theorem fv_a {μ : am_N} {c a b : Nat} (h0 : 0 < a) (h1 : a < 7) (h : b < 4) : fv μ c a b = μ (c + a) b := fp_ct_i (fp_in_a h0 h1 h)
theorem mv_0 {μ : am_N} {b : Nat} (h : b < 5) : mv μ 0 b = μ 83 (10 + b) := fp_ct_i (fp_in_0 h)
theorem mv_a {μ : am_N} {a b : Nat} (h1 : a < 6) (h : b < 4) : mv μ (a + 1) b = μ (85 + a) b := fp_ct_i (fp_in_a (by omega) (by omega) h)
theorem mv_k {μ : am_N} : mv μ 0 1 = μ 83 11 := rfl
theorem mv_r {μ : am_N} : mv μ 0 2 = μ 83 12 := rfl
theorem mv_y {μ : am_N} : mv μ 0 3 = μ 83 13 := rfl
theorem mv_n {μ : am_N} : mv μ 0 4 = μ 83 14 := rfl
theorem mv_5 {μ : am_N} {b : Nat} (h : b < 4) : mv μ 5 b = μ 89 b := mv_a (a := 4) (by decide) h
theorem mv_6 {μ : am_N} {b : Nat} (h : b < 4) : mv μ 6 b = μ 90 b := mv_a (a := 5) (by decide) h
/-- numbers as they must be, WEEK up to W -/
def fp_fw (W : Int) (F : am_N) : Prop := (20 ≤ F 0 0 ∧ F 0 0 ≤ 200) ∧ (0 ≤ F 0 1 ∧ F 0 1 ≤ W) ∧ (0 ≤ F 0 2 ∧ F 0 2 ≤ 4) ∧ (1 ≤ F 0 3 ∧ F 0 3 ≤ 9) ∧ (0 ≤ F 0 4 ∧ F 0 4 ≤ 4) ∧ (∀ i : Nat, i < 4 → 0 ≤ F 5 i ∧ F 5 i ≤ 99) ∧ ∀ i : Nat, (i : Int) < F 0 4 → (0 ≤ F 1 i ∧ F 1 i ≤ 5) ∧ (0 ≤ F 2 i ∧ F 2 i ≤ 9) ∧ (5 ≤ F 3 i ∧ F 3 i ≤ 40) ∧ (0 ≤ F 4 i ∧ F 4 i ≤ 20)
theorem fw_mono {W V : Int} {F : am_N} (h : fp_fw W F) (hv : W ≤ V) : fp_fw V F := ⟨h.1, ⟨h.2.1.1, Int.le_trans h.2.1.2 hv⟩, h.2.2⟩
theorem fw_C {W : Int} {μ : am_N} {c : Nat} (h : fp_fw W (fv μ c)) (hW : W ≤ 2000) : am_fC μ c ∧ (0 ≤ μ c 2 ∧ μ c 2 ≤ 4) ∧ (1 ≤ μ c 3 ∧ μ c 3 ≤ 9) ∧ (∀ b : Nat, b < 4 → 0 ≤ μ (c + 5) b ∧ μ (c + 5) b ≤ 99) ∧ (20 ≤ μ c 0 ∧ μ c 0 ≤ 200) ∧ (0 ≤ μ c 1 ∧ μ c 1 ≤ W) ∧ ∀ i : Nat, (i : Int) < μ c 4 → (0 ≤ μ (c + 1) i ∧ μ (c + 1) i ≤ 5) ∧ (0 ≤ μ (c + 2) i ∧ μ (c + 2) i ≤ 9) ∧ (5 ≤ μ (c + 3) i ∧ μ (c + 3) i ≤ 40) ∧ (0 ≤ μ (c + 4) i ∧ μ (c + 4) i ≤ 20) := by
  obtain ⟨h0, h1, h2, h3, h4, h5, h6⟩ := h
  rw [fv_0 (by decide)] at h0 h1 h2 h3 h4
  have h5' : ∀ b : Nat, b < 4 → 0 ≤ μ (c + 5) b ∧ μ (c + 5) b ≤ 99 := fun b hb => by
    have q := h5 b hb
    rwa [fv_a (by decide) (by decide) hb] at q
  have h6' : ∀ i : Nat, (i : Int) < μ c 4 → (0 ≤ μ (c + 1) i ∧ μ (c + 1) i ≤ 5) ∧ (0 ≤ μ (c + 2) i ∧ μ (c + 2) i ≤ 9) ∧ (5 ≤ μ (c + 3) i ∧ μ (c + 3) i ≤ 40) ∧ (0 ≤ μ (c + 4) i ∧ μ (c + 4) i ≤ 20) := fun i hi => by
    have q := h6 i (by rw [fv_0 (by decide)]; exact hi)
    have hb : i < 4 := by omega
    rwa [fv_a (by decide) (by decide) hb, fv_a (by decide) (by decide) hb, fv_a (by decide) (by decide) hb, fv_a (by decide) (by decide) hb] at q
  refine ⟨⟨h4, ⟨by omega, by omega⟩, fun i hi => ?_⟩, h2, h3, h5', h0, h1, h6'⟩
  have q := h6' i hi
  exact ⟨⟨q.2.2.1, q.2.1, q.1, by omega, by omega⟩, h5' i (by omega)⟩
